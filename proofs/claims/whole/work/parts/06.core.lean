abbrev classes : List vw_C := [(RX2, TX2, 6), (RX3, TX3, 2), (RX4, TX4, 16), (RX5, TX5, 9), (RX8, TX8, 10), (RX9, TX9, 4), (RX10, TX10, 14), (RX11, TX11, 34)]
/-! pure operators of the functions that the methods are read as -/
theorem x_t {α : Type} {c : Prop} [Decidable c] {a b r : α} (h : c) (e : (if c then a else b) = r) : a = r := by rw [if_pos h] at e; exact e
theorem x_f {α : Type} {c : Prop} [Decidable c] {a b r : α} (h : ¬ c) (e : (if c then a else b) = r) : b = r := by rw [if_neg h] at e; exact e
/-- the element at an index of a row of n, or nothing -/
def x_I {α β : Type} (n : Nat) (f : Nat → β) (i : Int32) (k : β → Option α) : Option α := if i < 0 ∨ n ≤ i.toNatClampNeg then none else k (f i.toNatClampNeg)
/-- an index is looked at -/
def x_C {α : Type} (n : Nat) (i : Int32) (k : Option α) : Option α := if i < 0 ∨ n ≤ i.toNatClampNeg then none else k
/-- a number gets a name -/
def x_L {α β : Type} (v : β) (k : β → Option α) : Option α := k v
/-- a call -/
def x_B {α β : Type} (o : Option β) (k : β → Option α) : Option α := match o with
  | none => none
  | some q => k q
/-- a divisor -/
def x_N {α : Type} (y : Int32) (k : Option α) : Option α := if y = 0 then none else k
theorem x_ld {α β : Type} {n : Nat} {f : Nat → β} {i : Int32} {k : β → Option α} {r : α} (e : x_I n f i k = some r) : vp_in i n ∧ ∀ v, v = f i.toNatClampNeg → k v = some r := by
  unfold x_I at e
  by_cases h : i < 0 ∨ n ≤ i.toNatClampNeg
  · rw [if_pos h] at e; cases e
  · rw [if_neg h] at e; exact ⟨h, fun v hv => by rw [hv]; exact e⟩
theorem x_ck {α : Type} {n : Nat} {i : Int32} {k : Option α} {r : α} (e : x_C n i k = some r) : vp_in i n ∧ k = some r := by
  unfold x_C at e
  by_cases h : i < 0 ∨ n ≤ i.toNatClampNeg
  · rw [if_pos h] at e; cases e
  · rw [if_neg h] at e; exact ⟨h, e⟩
theorem x_lt {α β : Type} {x : β} {k : β → Option α} {r : Option α} (e : x_L x k = r) : ∀ v, v = x → k v = r := fun v h => by rw [h]; exact e
theorem x_bd {α β : Type} {o : Option β} {k : β → Option α} {r : α} (e : x_B o k = some r) : ∃ q, o = some q ∧ k q = some r := by
  cases o with
  | none => cases e
  | some q => exact ⟨q, rfl, e⟩
def x_S {α β γ : Type} (o : Option (β ⊕ γ)) (k : β → Option α) (j : γ → Option α) : Option α := match o with
  | none => none
  | some (.inl b) => k b
  | some (.inr c) => j c
theorem x_sd {α β γ : Type} {o : Option (β ⊕ γ)} {k : β → Option α} {j : γ → Option α} {r : α} (e : x_S o k j = some r) : (∃ b, o = some (.inl b) ∧ k b = some r) ∨ (∃ c, o = some (.inr c) ∧ j c = some r) := by
  cases o with
  | none => cases e
  | some q =>
    cases q with
    | inl b => exact Or.inl ⟨b, rfl, e⟩
    | inr c => exact Or.inr ⟨c, rfl, e⟩
theorem x_nz {α : Type} {y : Int32} {k : Option α} {r : α} (e : x_N y k = some r) : ¬ y = 0 ∧ k = some r := by
  unfold x_N at e
  by_cases h : y = 0
  · rw [if_pos h] at e; cases e
  · rw [if_neg h] at e; exact ⟨h, e⟩
theorem x_ne {x k : Int32} (h : ¬ x = k) : x.toInt ≠ k.toInt := fun e => h (Int32.toInt_inj.mp e)
/-! contracts -/
abbrev wy (y : MethodName) (cc : ByteArray) (n : Nat) (rt : Option FieldType) : List Cond := Cond.code y cc n rt :: T0
theorem wy_good {big : List Cond} {y : MethodName} {cc : ByteArray} {n : Nat} {rt : Option FieldType} (hb : ∀ w ∈ T0, w ∈ big) (h : Cond.code y cc n rt ∈ T0) : GoodIn big (wy y cc n rt) := by
  intro w hw
  rcases List.mem_cons.mp hw with rfl | hw
  · exact ⟨hb _ h, good_of_word (T0_good _ h)⟩
  · exact ⟨hb _ hw, good_of_word (T0_good _ hw)⟩
/-- the classes' numbers and slots; the classes of int[], long[], boolean[]; the place from which on all cells are new; the row OVER; the text WORDS and its bytes -/
abbrev GG : Type := va_G × ClassId × ClassId × ClassId × Nat × Nat × Nat × Nat
abbrev tyG (G : GG) : List (ClassId × FieldType) := [(G.2.1, .int), (G.2.2.1, .long), (G.2.2.2.1, .boolean)]
abbrev bs (G : GG) : Nat → Prop := fun q => G.2.2.2.2.1 ≤ q
def overR : List Int32 := [-1, 0, 1, 1, 1, 0]
def wordsT : String := "land sleep frog mute bind bare if and wakes kiss weep day holds gone broken whole asked "
def wordsB : List Int32 := [108, 97, 110, 100, 32, 115, 108, 101, 101, 112, 32, 102, 114, 111, 103, 32, 109, 117, 116, 101, 32, 98, 105, 110, 100, 32, 98, 97, 114, 101, 32, 105, 102, 32, 97, 110, 100, 32, 119, 97, 107, 101, 115, 32, 107, 105, 115, 115, 32, 119, 101, 101, 112, 32, 100, 97, 121, 32, 104, 111, 108, 100, 115, 32, 103, 111, 110, 101, 32, 98, 114, 111, 107, 101, 110, 32, 119, 104, 111, 108, 101, 32, 97, 115, 107, 101, 100, 32]
def Nst (U : State) : Prop := va_Nw (.methodLinkNest "SevenSpells$Trials" 67 ⟨"SevenSpells", "oneIf", "(Z)I"⟩ "SevenSpells") U ∧ va_Nw (.methodLinkNest "SevenSpells" 20 ⟨"SevenSpells$Told", "<init>", "()V"⟩ "SevenSpells") U ∧ va_Nw (.methodLinkNest "SevenSpells$Reader" 25 ⟨"SevenSpells$Told", "<init>", "()V"⟩ "SevenSpells") U ∧ va_Nw (.methodLinkNest "SevenSpells" 36 ⟨"SevenSpells$Rules", "<init>", "()V"⟩ "SevenSpells") U ∧ va_Nw (.methodLinkNest "SevenSpells" 55 ⟨"SevenSpells$Trials", "<init>", "()V"⟩ "SevenSpells") U
def KC (G : GG) (U : State) (H : Heap) : Prop :=
  va_Z "SevenSpells$Kind" "OVER" "[I" (.ref G.2.2.2.2.2.1) (bs G) U H ∧ va_T .int G.2.2.2.2.2.1 6 (fun j => .int (overR.getD j 0)) (bs G) U H ∧
  va_Z "java/lang/String" "COMPACT_STRINGS" "Z" (.int 1) (bs G) U H ∧ va_Zq "jdk/internal/util/Preconditions" "SIOOBE_FORMATTER" "Ljava/util/function/BiFunction;" (bs G) U H ∧
  vk_S 1 [88] [wordsB] (fun _ => G.2.2.2.2.2.2.1) (fun _ => G.2.2.2.2.2.2.2) (bs G) U H
def KK (G : GG) (U : State) (H : Heap) : Prop := va_K G.1 classes (tyG G) U ∧ Nst U ∧ G.2.2.2.2.1 ≤ H.size ∧ vk_R "SevenSpells$Reader" 87 wordsT G.2.2.2.2.2.2.1 U ∧ KC G U H
theorem KC.moved {G : GG} {u U : State} {H : Heap} (hvm : u.vm.Alike U.vm) (h : KC G u H) : KC G U H := ⟨h.1.moved hvm, h.2.1.moved hvm, h.2.2.1.moved hvm, h.2.2.2.1.moved hvm, h.2.2.2.2.moved hvm⟩
theorem KC.kept {G : GG} {U : State} {H H1 : Heap} (h : KC G U H) (hq : ∀ a : Nat, a < H.size → ¬ bs G a → H1[a]? = H[a]?) : KC G U H1 := ⟨h.1.kept hq, h.2.1.kept hq, h.2.2.1.kept hq, h.2.2.2.1.kept hq, h.2.2.2.2.kept hq⟩
theorem Nst.warm {s U : State} (hW : s.WarmedH U.vm) (h : Nst s) : Nst U := ⟨va_Nw.warmM hW h.1, va_Nw.warmM hW h.2.1, va_Nw.warmM hW h.2.2.1, va_Nw.warmM hW h.2.2.2.1, va_Nw.warmM hW h.2.2.2.2⟩
theorem Nst.same {s U : State} (hv : s.vm = U.vm) (h : Nst s) : Nst U := ⟨va_Nw.same rfl hv h.1, va_Nw.same rfl hv h.2.1, va_Nw.same rfl hv h.2.2.1, va_Nw.same rfl hv h.2.2.2.1, va_Nw.same rfl hv h.2.2.2.2⟩
theorem KK.warm {G : GG} {s U : State} {H : Heap} (hU : U.heap = H) (hW : s.WarmedH U.vm) (h : KK G s H) : KK G U U.heap := by
  rw [hU]
  exact ⟨va_K.moved hW.alike h.1, h.2.1.warm hW, h.2.2.1, h.2.2.2.1.warm hW, h.2.2.2.2.moved hW.alike⟩
theorem KK.call {G : GG} {U : State} {g : JFrame} {mk : MethodId} {a : Array Value} (h : KK G U U.heap) : KK G (U.calling g mk a) (U.calling g mk a).heap :=
  ⟨va_K.moved (u := U) (U := U.calling g mk a) (Vm.Alike.refl U.vm) h.1, h.2.1.same rfl, h.2.2.1, vk_R.same rfl h.2.2.2.1, KC.moved (u := U) (U := U.calling g mk a) (Vm.Alike.refl U.vm) h.2.2.2.2⟩
theorem KK_at {G : GG} {s : State} {A : Nat → Prop} {H : Heap} {lo : List Loc} (h : KK G s s.heap) (hS : va_S A s.heap H lo) (hAb : ∀ q, A q → bs G q) : KK G s H :=
  ⟨h.1, h.2.1, Nat.le_trans h.2.2.1 hS.1, h.2.2.2.1, h.2.2.2.2.kept (fun a h1 h2 => hS.2.1 a h1 (fun z => h2 (hAb a z)))⟩
abbrev rmOf (lev mc ms : Nat) : Room := { frames := lev, cells := mc, slots := ms, locals := 40 * lev }
/-- a method that only reads: from every heap that holds ws it answers r -/
def RO (l : Launch) (G : GG) (y : MethodName) (cc : ByteArray) (n : Nat) (rt : Option FieldType) (lev : Nat) (av : List Value) (ws : va_W) (r : Option Value) : Prop :=
  Met l y (wy y cc n rt) (rmOf lev 0 0) (va_Pc av (fun U => va_P G.1 classes ws U.heap ∧ KK G U U.heap)) (fun _ st oc t => oc = .returned r ∧ t.heap = st.heap) 0 0 (fun _ => False)
/-- a method that writes: from every heap that holds ws it answers r and leaves ws' -/
def RW (l : Launch) (G : GG) (y : MethodName) (cc : ByteArray) (n : Nat) (rt : Option FieldType) (lev : Nat) (av : List Value) (ws : va_W) (r : Option Value) (ws' : va_W) (mc ms : Nat) : Prop :=
  ∀ sz : Nat, Met l y (wy y cc n rt) (rmOf lev mc ms) (va_Pc av (fun U => U.heap.size = sz ∧ va_P G.1 classes ws U.heap ∧ KK G U U.heap ∧ va_D (bs G) ws)) (fun _ st oc t => oc = .returned r ∧ va_P G.1 classes ws' t.heap ∧ va_D (va_A ws sz) ws' ∧ va_F (va_A ws sz) st t) mc ms (va_A ws sz)
/-- what stands throughout a method's walk -/
def Cx (p : Program) (s : State) (m : MethodId) (args : Array Value) (c : Code) (cc : ByteArray) (nL : Nat) (own : String) (Ts : List Cond) : Prop :=
  p.tables.exec = Jvm.exec ∧ c.code = cc ∧ c.maxLocals = nL ∧ s.vm.findClass own = some m.cls ∧ (∀ w ∈ Ts, w.before args s = true) ∧ (∀ w ∈ T0, w ∈ Ts)
section CR
variable {p : Program} {l : Launch} {e : Env} {R : Room} {s : State} {m : MethodId} {args : Array Value} {below : List Frame} {meth : Method} {c : Code} {H : Heap} {locs : List Loc} {cells slots : Nat} {Q : State → Prop}
variable {cc : ByteArray} {pc : Nat} {ls : Array Slot} {rest : List Value}
theorem nret {Qc : Array Value → State → Outcome → State → Prop} {free : Addr → Prop} {v v' : Int32} {ty : FieldType} (hexec : p.tables.exec = Jvm.exec) (hb : c.code = cc) (hr : meth.sig.returnType = some ty) (hn : narrow ty (.int v) = .int v')
    (hq : ∀ t : State, t.heap = H → s.WarmedH t.vm → Qc args s (.returned (some (.int v'))) t) (hf : ∀ q ∈ locs, free q.base)
    (hdg : decode cc pc = .ok (.ireturn, 1)) (hlocks : meth.locks = false) : W p l e R s m args below meth c H locs cells slots (MQ below Qc args s cells slots free) (F0 m pc ls [.int v]) := by
  intro T hT X
  obtain ⟨fs, hret, hrun, hended, hW, hframe⟩ := X.leave (v := some (.int v')) (hlocks := hlocks) (fun h => by rw [hr] at h; cases h)
  have hmeth' : T.vm.method? m = some meth := X.method'
  refine ⟨T.setFrames fs, ?_, .returned (some (.int v')), hrun, hended, hq _ hT hW, locs, ⟨⟨_, rfl⟩, hW, hframe⟩, hf⟩
  jvm_step X.here [X.here.top, hexec, hb, hdg, hmeth', hr, hn]
  (try refine ⟨rfl, ?_⟩); (try refine ⟨rfl, ?_⟩)
  first | (intro acts; rw [hret _ acts rfl rfl rfl]) | rw [hret _ _ rfl rfl rfl]
  exact Steps.refl _
end CR
theorem nb0 : narrow .boolean (.int 0) = .int 0 := by decide
theorem nb1 : narrow .boolean (.int 1) = .int 1 := by decide
def RR (R : Room) (lev : Nat) : Prop := lev ≤ R.frames ∧ 40 * lev ≤ R.locals
/-- a reading method, out of its walk -/
theorem RO_of {l : Launch} {G : GG} {y : MethodName} {cc : ByteArray} {n lev : Nat} {ty : FieldType} {av : List Value} {ws : va_W} {r : Int32} (hy : plainName y.cls = true) (hn : (lg_sl av).length ≤ n)
    (body : ∀ (p : Program) (e : Env) (s : State) (m : MethodId) (args : Array Value) (below : List Frame) (meth : Method) (c : Code) (R : Room) (Q : State → Prop) (H : Heap) (ls : Array Slot), Cx p s m args c cc n y.cls (wy y cc n (some ty)) → RR R lev → va_P G.1 classes ws H → KK G s H → va_S (bs G) s.heap H [] → lv_has ls n (lv_args 0 av) →
      (∀ (pc : Nat) (ls : Array Slot) (v : Int32), decode cc pc = .ok (.ireturn, 1) → narrow ty (.int v) = .int r → W p l e R s m args below meth c H [] 0 0 Q (F0 m pc ls [.int v])) → W p l e R s m args below meth c H [] 0 0 Q (F0 m 0 ls [])) : RO l G y cc n (some ty) lev av ws (some (.int r)) := by
  refine Met.ofW (cc := cc) (maxL := n) (ret := some ty) hy rfl ?_
  intro p e s m args below meth c s₁ B hml hv
  obtain ⟨rfl, hP, hK⟩ := hv
  have hl := lv_entry av (n := n) hn
  rw [lg_entry_eq]
  refine body p e s m _ below meth c _ _ s.heap _ ⟨B.exec, B.bytes, hml, findClass_of_methodNamed B.named, atoms_spec (ws := wy y cc n (some ty)) B.pre, fun w h => List.mem_cons_of_mem _ h⟩ ⟨Nat.le_refl _, Nat.le_refl _⟩ hP hK va_S.rf hl ?_
  intro pc ls v hd hnv
  exact nret B.exec B.bytes B.returns hnv (fun t ht hW => ⟨rfl, ht⟩) (fun q h => by cases h) hd B.notSynchronized
/-! calls -/
section CL
variable {p : Program} {l : Launch} {e : Env} {R : Room} {s : State} {m : MethodId} {args : Array Value} {below : List Frame} {meth : Method} {c : Code} {H : Heap} {locs : List Loc} {cells slots : Nat} {Q : State → Prop}
variable {cc : ByteArray} {pc : Nat} {ls : Array Slot} {rest st0 : List Value} {G : GG} {nL index : Nat} {own : String} {Ts : List Cond}
theorem ro_run {r : Option Value} {a : Array Value} (hr : va_Run p l e R s m args below meth c H locs cells slots 0 0 (F0 m pc ls st0) rest (fun st oc t => oc = .returned r ∧ t.heap = st.heap) (fun _ => False))
    (kk : W p l e R s m args below meth c H locs cells slots Q (F0 m (pc + 3) ls (r.toList ++ rest))) : W p l e R s m args below meth c H locs cells slots Q (F0 m pc ls st0) := by
  intro T hT X
  obtain ⟨v, st₀, t, T', L, h0, X', hL, e1, e2, ⟨hv, hh⟩, st⟩ := hr T hT X
  cases hv
  obtain ⟨t2, a1, b1⟩ := kk T' (by rw [e1, hh, h0]) (Stand.forget X' (fun q h => (hL q h).elim))
  exact ⟨t2, st t2 a1, b1⟩
theorem ro_blind {av : List Value} {ws : va_W} : FrameBlind (va_Pc av (fun U => va_P G.1 classes ws U.heap ∧ KK G U U.heap)) := fun a U g mk q => by
  obtain ⟨q0, qP, qK⟩ := q
  exact ⟨q0, qP, qK.call⟩
theorem roS {lev2 : Nat} (X : Cx p s m args c cc nL own Ts) (hK : KK G s H) (hR : RR R lev2) {y : MethodName} {cc' : ByteArray} {n' lev np : Nat} {rt : Option FieldType} {As : List Value} {ws' : va_W} {r : Option Value} {st1 : List Value} (hM : RO l G y cc' n' rt lev As ws' r) (hC : CalS y cc' n' rt np) (hl : Cond.methodLink own index y ∈ T0) (hP : va_P G.1 classes ws' H) (hlv : lev + 1 ≤ lev2) (hcs : cells ≤ R.cells ∧ slots ≤ R.slots) (hst : st0 = As.reverse ++ rest) (hnl : ls.size = nL) (hn : As.length = np) (hrm : (rest.map fun v => v.category).sum ≤ 8) (h1 : r.toList ++ rest = st1) (hdg : decode cc pc = .ok (.invokestatic index, 3))
    (kk : W p l e R s m args below meth c H locs cells slots Q (F0 m (pc + 3) ls st1)) : W p l e R s m args below meth c H locs cells slots Q (F0 m pc ls st0) := by
  subst h1
  obtain ⟨hx, hb, hml, hown, hts, hT⟩ := X
  obtain ⟨c1, c2, c3, c4, c5⟩ := hC
  refine ro_run (a := As.toArray) (va_runS (rest := rest) ⟨hx, hb, hml, hown, hts⟩ hM ⟨callB_of np hts (wy_good hT c1) rfl rfl rfl (hts _ (hT _ c3)) (hts _ (hT _ hl)) c4 ⟨Nat.le_trans hlv hR.1, ?_⟩, hts _ (hT _ c2)⟩ ⟨ro_blind, fun U hU hW => ⟨rfl, by rw [hU]; exact hP, hK.warm hU hW⟩⟩ rfl hn hnl hst (lv_room hrm) hdg hcs) kk
  have h2 := hR.2
  show 8 + (n' + 11) + 40 * lev ≤ R.locals
  omega
theorem roSN {lev2 : Nat} (X : Cx p s m args c cc nL own Ts) (hK : KK G s H) (hR : RR R lev2) {y : MethodName} {host : String} {cc' : ByteArray} {n' lev np : Nat} {rt : Option FieldType} {As : List Value} {ws' : va_W} {r : Option Value} {st1 : List Value} (hM : RO l G y cc' n' rt lev As ws' r) (hC : CalS y cc' n' rt np) (hl : va_Nw (.methodLinkNest own index y host) s) (hP : va_P G.1 classes ws' H) (hlv : lev + 1 ≤ lev2) (hcs : cells ≤ R.cells ∧ slots ≤ R.slots) (hst : st0 = As.reverse ++ rest) (hnl : ls.size = nL) (hn : As.length = np) (hrm : (rest.map fun v => v.category).sum ≤ 8) (h1 : r.toList ++ rest = st1) (hdg : decode cc pc = .ok (.invokestatic index, 3))
    (kk : W p l e R s m args below meth c H locs cells slots Q (F0 m (pc + 3) ls st1)) : W p l e R s m args below meth c H locs cells slots Q (F0 m pc ls st0) := by
  subst h1
  obtain ⟨hx, hb, hml, hown, hts, hT⟩ := X
  obtain ⟨c1, c2, c3, c4, c5⟩ := hC
  refine ro_run (a := As.toArray) (va_runSN (rest := rest) ⟨hx, hb, hml, hown, hts⟩ hM ⟨va_cnB np hts (wy_good hT c1) rfl rfl rfl hl (hts _ (hT _ c3)) c4 ⟨Nat.le_trans hlv hR.1, ?_⟩, hts _ (hT _ c2), trivial⟩ ⟨ro_blind, fun U hU hW => ⟨rfl, by rw [hU]; exact hP, hK.warm hU hW⟩⟩ rfl hn hnl hst (lv_room hrm) hdg hcs) kk
  have h2 := hR.2
  show 8 + (n' + 11) + 40 * lev ≤ R.locals
  omega
theorem roV {lev2 : Nat} (X : Cx p s m args c cc nL own Ts) (hK : KK G s H) (hR : RR R lev2) {y : MethodName} {cc' : ByteArray} {n' lev np b ci q0 : Nat} {T' : u_T} {N' : Nat} {fs : List Value} {rt : Option FieldType} {As : List Value} {ws' : va_W} {r : Option Value} {st1 : List Value} (hM : RO l G y cc' n' rt lev (.ref b :: As) ws' r) (hC : CalV y cc' n' rt np) (hl : Cond.methodLink own index y ∈ T0) (hP : va_P G.1 classes ws' H) (hcl : classes[ci]? = some (y.cls, T', N')) (hrc : ws'[q0]? = some (b, .inr (ci, fs))) (hlv : lev + 1 ≤ lev2) (hcs : cells ≤ R.cells ∧ slots ≤ R.slots) (hst : st0 = As.reverse ++ .ref b :: rest) (hnl : ls.size = nL) (hn : As.length = np) (hrm : (rest.map fun v => v.category).sum ≤ 8) (h1 : r.toList ++ rest = st1) (hdg : decode cc pc = .ok (.invokevirtual index, 3))
    (kk : W p l e R s m args below meth c H locs cells slots Q (F0 m (pc + 3) ls st1)) : W p l e R s m args below meth c H locs cells slots Q (F0 m pc ls st0) := by
  subst h1
  obtain ⟨hx, hb, hml, hown, hts, hT⟩ := X
  obtain ⟨c1, c2, c2b, c3, c4, c5⟩ := hC
  refine ro_run (a := (Value.ref b :: As).toArray) (va_runV (rest := rest) (C := y.cls) ⟨hx, hb, hml, hown, hts⟩ hM ⟨callB_of np hts (wy_good hT c1) rfl rfl rfl (hts _ (hT _ c3)) (hts _ (hT _ hl)) c4 ⟨Nat.le_trans hlv hR.1, ?_⟩, hts _ (hT _ c2), hts _ (hT _ c2b)⟩ ⟨ro_blind, va_recv hK.1 hP hcl hrc, fun U hU hW => ⟨rfl, by rw [hU]; exact hP, hK.warm hU hW⟩⟩ rfl hn hnl hst (lv_room hrm) hdg hcs) kk
  have h2 := hR.2
  show 8 + (n' + 11) + 40 * lev ≤ R.locals
  omega
end CL
/-! a written world -/
def x_rep (ws : va_W) : List Nat → va_W → va_W
  | [], _ => ws
  | _ :: _, [] => ws
  | i :: is, e :: w1 => x_rep (ws.set i e) is w1
theorem x_rep_at : ∀ (is : List Nat) (ws w1 : va_W), is.length = w1.length → ∀ (k : Nat) (q : Nat × va_E), (x_rep ws is w1)[k]? = some q → (∃ j : Nat, is[j]? = some k ∧ w1[j]? = some q) ∨ (k ∉ is ∧ ws[k]? = some q)
  | [], ws, w1, _, k, q, h => Or.inr ⟨List.not_mem_nil, by cases w1 <;> exact h⟩
  | i :: is, ws, [], hl, k, q, h => by simp at hl
  | i :: is, ws, e :: w1, hl, k, q, h => by
    have hl' : is.length = w1.length := by simpa using hl
    rcases x_rep_at is (ws.set i e) w1 hl' k q h with ⟨j, h1, h2⟩ | ⟨h1, h2⟩
    · exact Or.inl ⟨j + 1, by simpa using h1, by simpa using h2⟩
    · by_cases hk : i = k
      · subst hk
        rw [List.getElem?_set] at h2
        simp only [if_true] at h2
        split at h2
        · exact Or.inl ⟨0, rfl, by simpa using h2⟩
        · cases h2
      · rw [List.getElem?_set_ne hk] at h2
        exact Or.inr ⟨by simp only [List.mem_cons, not_or]; exact ⟨fun z => hk z.symm, h1⟩, h2⟩
theorem x_rep_join {A0 : Nat → Prop} {D : va_G} {cl : List vw_C} {ws wc w1 : va_W} {H H1 : Heap} (hP : va_P D cl ws H) (hD : va_D A0 ws) (is : List Nat) (hC : is.map (fun i => ws[i]?) = wc.map some) (hlen : is.length = w1.length)
    (hk : ∀ q : Nat, q < H.size → ¬ va_A wc H.size q → H1[q]? = H[q]?) (hF : ∀ q, va_A wc H.size q → A0 q) (hP1 : va_P D cl w1 H1) (hD1 : va_D (va_A wc H.size) w1) : va_P D cl (x_rep ws is w1) H1 ∧ va_D A0 (x_rep ws is w1) := by
  have at' : ∀ (k : Nat) (q : Nat × va_E), wc[k]? = some q → ∃ i, is[k]? = some i ∧ ws[i]? = some q := by
    intro k q hq
    have h1 : (is.map (fun i => ws[i]?))[k]? = some (some q) := by rw [hC, List.getElem?_map, hq]; rfl
    rw [List.getElem?_map] at h1
    cases hi : is[k]? with
    | none => rw [hi] at h1; cases h1
    | some i => rw [hi] at h1; exact ⟨i, rfl, Option.some.inj h1⟩
  have apart : ∀ (k : Nat) (q : Nat × va_E), k ∉ is → ws[k]? = some q → q.1 < H.size ∧ ¬ va_A wc H.size q.1 := by
    intro k q hn hq
    have hl := (hP k q hq).lt
    refine ⟨hl, fun h => ?_⟩
    rcases h with ⟨k2, e, h⟩ | h
    · obtain ⟨j, h3, h4⟩ := at' k2 (q.1, e) h
      have hij := hD.1 k j q (q.1, e) hq h4 rfl
      subst hij
      exact hn (List.mem_of_getElem? h3)
    · omega
  refine ⟨fun k q hq => ?_, fun i j x y hi hj hxy => ?_, fun k q hq => ?_⟩
  · rcases x_rep_at is ws w1 hlen k q hq with ⟨j, -, h2⟩ | ⟨h1, h2⟩
    · exact hP1 j q h2
    · obtain ⟨g1, g2⟩ := apart k q h1 h2
      exact (hP k q h2).kept (hk q.1 g1 g2)
  · rcases x_rep_at is ws w1 hlen i x hi with ⟨a, a1, a2⟩ | ⟨a1, a2⟩ <;> rcases x_rep_at is ws w1 hlen j y hj with ⟨b, b1, b2⟩ | ⟨b1, b2⟩
    · have hab := hD1.1 a b x y a2 b2 hxy
      subst hab
      exact Option.some.inj (a1.symm.trans b1)
    · exact absurd (by rw [← hxy]; exact hD1.2 a x a2) (apart j y b1 b2).2
    · exact absurd (by rw [hxy]; exact hD1.2 b y b2) (apart i x a1 a2).2
    · exact hD.1 i j x y a2 b2 hxy
  · rcases x_rep_at is ws w1 hlen k q hq with ⟨j, -, h2⟩ | ⟨h1, h2⟩
    · exact hF _ (hD1.2 j q h2)
    · exact hD.2 k q h2
/-- a writing method, out of its walk -/
theorem RW_of {l : Launch} {G : GG} {y : MethodName} {cc : ByteArray} {n lev mc ms : Nat} {rt : Option FieldType} {av : List Value} {ws ws' : va_W} {r : Option Value} (hy : plainName y.cls = true) (hn : (lg_sl av).length ≤ n)
    (body : ∀ (p : Program) (e : Env) (s : State) (m : MethodId) (args : Array Value) (below : List Frame) (meth : Method) (c : Code) (R : Room) (Q : State → Prop) (A : Nat → Prop) (ls : Array Slot), Cx p s m args c cc n y.cls (wy y cc n rt) → RR R lev → (R.cells = mc ∧ R.slots = ms) → (y.name = "<init>" → meth.name = "<init>") → va_P G.1 classes ws s.heap → KK G s s.heap → va_D A ws → va_S A s.heap s.heap [] → (∀ q, s.heap.size ≤ q → A q) → (∀ q, A q → bs G q) → lv_has ls n (lv_args 0 av) →
      ((∀ (pc : Nat) (ls : Array Slot) (H : Heap) (lo : List Loc) (v r' : Int32) (ty : FieldType), rt = some ty → r = some (.int r') → decode cc pc = .ok (.ireturn, 1) → narrow ty (.int v) = .int r' → va_P G.1 classes ws' H → va_D A ws' → va_S A s.heap H lo → W p l e R s m args below meth c H lo mc ms Q (F0 m pc ls [.int v])) ∧
       (∀ (pc : Nat) (ls : Array Slot) (H : Heap) (lo : List Loc), rt = none → r = none → decode cc pc = .ok (.return_, 1) → va_P G.1 classes ws' H → va_D A ws' → va_S A s.heap H lo → W p l e R s m args below meth c H lo mc ms Q (F0 m pc ls [])) ∧
       (∀ (pc : Nat) (ls : Array Slot) (H : Heap) (lo : List Loc) (a : Nat) (cn : String), rt = some (.object cn) → r = some (.ref a) → decode cc pc = .ok (.areturn, 1) → va_P G.1 classes ws' H → va_D A ws' → va_S A s.heap H lo → W p l e R s m args below meth c H lo mc ms Q (F0 m pc ls [.ref a]))) → W p l e R s m args below meth c s.heap [] 0 0 Q (F0 m 0 ls [])) : RW l G y cc n rt lev av ws r ws' mc ms := by
  intro sz
  refine Met.ofW (cc := cc) (maxL := n) (ret := rt) hy rfl ?_
  intro p e s m args below meth c s₁ B hml hv
  obtain ⟨rfl, hsz, hP, hK, hD0⟩ := hv
  subst hsz
  have hl := lv_entry av (n := n) hn
  rw [lg_entry_eq]
  refine body p e s m _ below meth c _ _ (va_A ws s.heap.size) _ ⟨B.exec, B.bytes, hml, findClass_of_methodNamed B.named, atoms_spec (ws := wy y cc n rt) B.pre, fun w h => List.mem_cons_of_mem _ h⟩ ⟨Nat.le_refl _, Nat.le_refl _⟩ ⟨rfl, rfl⟩ (fun h => (name_of_methodNamed B.named B.method).1.trans h) hP hK hD0.self va_S.rf (fun q h => Or.inr h) (fun q h => h.elim (fun ⟨k, e, h⟩ => hD0.2 k (q, e) h) (fun h => Nat.le_trans hK.2.2.1 h)) hl ⟨?_, ?_, ?_⟩
  · intro pc ls H lo v r' ty ht hr hd hnv h1 h2 h3
    subst ht; subst hr
    exact nret B.exec B.bytes B.returns hnv (fun t ht hW => ⟨rfl, by rw [ht]; exact h1, h2, h3.F ht⟩) h3.2.2 hd B.notSynchronized
  · intro pc ls H lo ht hr hd h1 h2 h3
    subst ht; subst hr
    exact W.vret B.exec B.bytes B.returns (fun t ht hW => ⟨rfl, by rw [ht]; exact h1, h2, h3.F ht⟩) h3.2.2 hd B.notSynchronized
  · intro pc ls H lo a cn ht hr hd h1 h2 h3
    subst ht; subst hr
    exact W.aret B.exec B.bytes B.returns (Or.inl ⟨_, rfl⟩) (Or.inr ⟨_, rfl⟩) (fun t ht hW => ⟨rfl, by rw [ht]; exact h1, h2, h3.F ht⟩) h3.2.2 hd B.notSynchronized
section CLW
variable {p : Program} {l : Launch} {e : Env} {R : Room} {s : State} {m : MethodId} {args : Array Value} {below : List Frame} {meth : Method} {c : Code} {H H0 : Heap} {locs : List Loc} {cells slots : Nat} {Q : State → Prop}
variable {cc : ByteArray} {pc : Nat} {ls : Array Slot} {rest st0 : List Value} {G : GG} {nL index : Nat} {own : String} {Ts : List Cond} {A : Nat → Prop}
theorem rw_run {r : Option Value} {ws wc w1 ws2 : va_W} {mc ms : Nat} (hr : va_Run p l e R s m args below meth c H locs cells slots mc ms (F0 m pc ls st0) rest (fun st oc t => oc = .returned r ∧ va_P G.1 classes w1 t.heap ∧ va_D (va_A wc H.size) w1 ∧ va_F (va_A wc H.size) st t) (va_A wc H.size))
    (hP : va_P G.1 classes ws H) (hD : va_D A ws) (hS : va_S A H0 H locs) (hA : ∀ q, H0.size ≤ q → A q) (is : List Nat) (hC : is.map (fun i => ws[i]?) = wc.map some) (hlen : is.length = w1.length) (h2 : x_rep ws is w1 = ws2)
    (kk : ∀ (H1 : Heap) (lo1 : List Loc), va_P G.1 classes ws2 H1 → va_D A ws2 → va_S A H0 H1 lo1 → W p l e R s m args below meth c H1 lo1 (cells + mc) (slots + ms) Q (F0 m (pc + 3) ls (r.toList ++ rest))) : W p l e R s m args below meth c H locs cells slots Q (F0 m pc ls st0) := by
  subst h2
  have hF := va_free (wc := wc) hD hS hA is hC
  intro T hT X
  obtain ⟨v, st₀, t, T', L, h0, X', hL, e1, e2, ⟨hv, hP1, hD1, hz, hk⟩, st⟩ := hr T hT X
  cases hv
  rw [h0] at hz hk
  obtain ⟨j1, j2⟩ := x_rep_join hP hD is hC hlen hk hF hP1 hD1
  obtain ⟨t2, a1, b1⟩ := kk T'.heap (locs ++ L) (by rw [e1]; exact j1) j2
    ⟨Nat.le_trans hS.1 (by rw [e1]; exact hz), fun q h1 h2 => by rw [e1, hk q (Nat.lt_of_lt_of_le h1 hS.1) (fun z => h2 (hF q z))]; exact hS.2.1 q h1 h2, fun q hq => by
      rcases List.mem_append.mp hq with h | h
      · exact hS.2.2 q h
      · exact hF _ (hL q h)⟩ T' rfl X'
  exact ⟨t2, st t2 a1, b1⟩
theorem rw_blind {av : List Value} {ws : va_W} {sz : Nat} : FrameBlind (va_Pc av (fun U => U.heap.size = sz ∧ va_P G.1 classes ws U.heap ∧ KK G U U.heap ∧ va_D (bs G) ws)) := fun a U g mk q => by
  obtain ⟨q0, qz, qP, qK, qD⟩ := q
  exact ⟨q0, qz, qP, qK.call, qD⟩
theorem x_Dsub {ws wc : va_W} (hD : va_D A ws) (hAb : ∀ q, A q → bs G q) (is : List Nat) (hn : va_nd is = true) (hC : is.map (fun i => ws[i]?) = wc.map some) : va_D (bs G) wc := (hD.sub is hn hC).weaken (fun _ _ _ h => hAb _ h)
theorem x_Psub {D : va_G} {cl : List vw_C} {ws wc : va_W} (hP : va_P D cl ws H) (is : List Nat) (hC : is.map (fun i => ws[i]?) = wc.map some) : va_P D cl wc H := by
  intro k q hq
  have h1 : (is.map (fun i => ws[i]?))[k]? = some (some q) := by rw [hC, List.getElem?_map, hq]; rfl
  rw [List.getElem?_map] at h1
  cases hi : is[k]? with
  | none => rw [hi] at h1; cases h1
  | some i => rw [hi] at h1; exact hP i q (Option.some.inj h1)
theorem rwV {lev2 : Nat} (X : Cx p s m args c cc nL own Ts) (hK : KK G s H) (hR : RR R lev2) {y : MethodName} {cc' : ByteArray} {n' lev np b ci q0 mc ms : Nat} {T' : u_T} {N' : Nat} {fs : List Value} {rt : Option FieldType} {As : List Value} {ws wc w1 ws2 : va_W} {r : Option Value} {st1 : List Value} (hM : RW l G y cc' n' rt lev (.ref b :: As) wc r w1 mc ms) (hC : CalV y cc' n' rt np) (hl : Cond.methodLink own index y ∈ T0) (hP : va_P G.1 classes ws H) (hD : va_D A ws) (hS : va_S A H0 H locs) (hA : ∀ q, H0.size ≤ q → A q) (hAb : ∀ q, A q → bs G q) (is : List Nat) (hn : va_nd is = true) (hCs : is.map (fun i => ws[i]?) = wc.map some) (hlen : is.length = w1.length) (h2 : x_rep ws is w1 = ws2)
    (hcl : classes[ci]? = some (y.cls, T', N')) (hrc : wc[q0]? = some (b, .inr (ci, fs))) (hlv : lev + 1 ≤ lev2) (hcs : cells + mc ≤ R.cells ∧ slots + ms ≤ R.slots) (hst : st0 = As.reverse ++ .ref b :: rest) (hnl : ls.size = nL) (hna : As.length = np) (hrm : (rest.map fun v => v.category).sum ≤ 8) (h1 : r.toList ++ rest = st1) (hdg : decode cc pc = .ok (.invokevirtual index, 3))
    (kk : ∀ (H1 : Heap) (lo1 : List Loc), va_P G.1 classes ws2 H1 → va_D A ws2 → va_S A H0 H1 lo1 → W p l e R s m args below meth c H1 lo1 (cells + mc) (slots + ms) Q (F0 m (pc + 3) ls st1)) : W p l e R s m args below meth c H locs cells slots Q (F0 m pc ls st0) := by
  subst h1
  obtain ⟨hx, hb, hml, hown, hts, hT⟩ := X
  obtain ⟨c1, c2, c2b, c3, c4, c5⟩ := hC
  have hPc := x_Psub hP is hCs
  have hDc := x_Dsub hD hAb is hn hCs
  refine rw_run (wc := wc) (va_runV (rest := rest) (C := y.cls) ⟨hx, hb, hml, hown, hts⟩ (hM H.size) ⟨callB_of np hts (wy_good hT c1) rfl rfl rfl (hts _ (hT _ c3)) (hts _ (hT _ hl)) c4 ⟨Nat.le_trans hlv hR.1, ?_⟩, hts _ (hT _ c2), hts _ (hT _ c2b)⟩ ⟨rw_blind, va_recv hK.1 hPc hcl hrc, fun U hU hW => ⟨rfl, by rw [hU], by rw [hU]; exact hPc, hK.warm hU hW, hDc⟩⟩ rfl hna hnl hst (lv_room hrm) hdg hcs) hP hD hS hA is hCs hlen h2 kk
  have h2 := hR.2
  show 8 + (n' + 11) + 40 * lev ≤ R.locals
  omega
end CLW
section CLW2
variable {p : Program} {l : Launch} {e : Env} {R : Room} {s : State} {m : MethodId} {args : Array Value} {below : List Frame} {meth : Method} {c : Code} {H H0 : Heap} {locs : List Loc} {cells slots : Nat} {Q : State → Prop}
variable {cc : ByteArray} {pc : Nat} {ls : Array Slot} {rest st0 : List Value} {G : GG} {nL index : Nat} {own : String} {Ts : List Cond} {A : Nat → Prop}
theorem rwS {lev2 : Nat} (X : Cx p s m args c cc nL own Ts) (hK : KK G s H) (hR : RR R lev2) {y : MethodName} {cc' : ByteArray} {n' lev np mc ms : Nat} {rt : Option FieldType} {As : List Value} {ws wc w1 ws2 : va_W} {r : Option Value} {st1 : List Value} (hM : RW l G y cc' n' rt lev As wc r w1 mc ms) (hC : CalS y cc' n' rt np) (hl : Cond.methodLink own index y ∈ T0) (hP : va_P G.1 classes ws H) (hD : va_D A ws) (hS : va_S A H0 H locs) (hA : ∀ q, H0.size ≤ q → A q) (hAb : ∀ q, A q → bs G q) (is : List Nat) (hn : va_nd is = true) (hCs : is.map (fun i => ws[i]?) = wc.map some) (hlen : is.length = w1.length) (h2 : x_rep ws is w1 = ws2)
    (hlv : lev + 1 ≤ lev2) (hcs : cells + mc ≤ R.cells ∧ slots + ms ≤ R.slots) (hst : st0 = As.reverse ++ rest) (hnl : ls.size = nL) (hna : As.length = np) (hrm : (rest.map fun v => v.category).sum ≤ 8) (h1 : r.toList ++ rest = st1) (hdg : decode cc pc = .ok (.invokestatic index, 3))
    (kk : ∀ (H1 : Heap) (lo1 : List Loc), va_P G.1 classes ws2 H1 → va_D A ws2 → va_S A H0 H1 lo1 → W p l e R s m args below meth c H1 lo1 (cells + mc) (slots + ms) Q (F0 m (pc + 3) ls st1)) : W p l e R s m args below meth c H locs cells slots Q (F0 m pc ls st0) := by
  subst h1
  obtain ⟨hx, hb, hml, hown, hts, hT⟩ := X
  obtain ⟨c1, c2, c3, c4, c5⟩ := hC
  have hPc := x_Psub hP is hCs
  have hDc := x_Dsub hD hAb is hn hCs
  refine rw_run (wc := wc) (va_runS (rest := rest) ⟨hx, hb, hml, hown, hts⟩ (hM H.size) ⟨callB_of np hts (wy_good hT c1) rfl rfl rfl (hts _ (hT _ c3)) (hts _ (hT _ hl)) c4 ⟨Nat.le_trans hlv hR.1, ?_⟩, hts _ (hT _ c2)⟩ ⟨rw_blind, fun U hU hW => ⟨rfl, by rw [hU], by rw [hU]; exact hPc, hK.warm hU hW, hDc⟩⟩ rfl hna hnl hst (lv_room hrm) hdg hcs) hP hD hS hA is hCs hlen h2 kk
  have h2 := hR.2
  show 8 + (n' + 11) + 40 * lev ≤ R.locals
  omega
end CLW2
/-! the same with large worlds: cell by cell -/
def Mg (n : Nat) (is : List Nat) (ws w1 ws2 : va_W) : Prop := ∀ (k : Nat) (q : Nat × va_E), ws2[k]? = some q → (∃ j : Nat, is[j]? = some (n + k) ∧ w1[j]? = some q) ∨ (n + k ∉ is ∧ ws[k]? = some q)
theorem mg0 {n : Nat} {is : List Nat} {ws w1 : va_W} : Mg n is ws w1 [] := fun k q h => by simp at h
theorem mgK {n : Nat} {is : List Nat} {ws w1 ws2 : va_W} {e : Nat × va_E} (h : n ∉ is) (t : Mg (n + 1) is ws w1 ws2) : Mg n is (e :: ws) w1 (e :: ws2) := fun k q hq => by
  cases k with
  | zero => exact Or.inr ⟨h, hq⟩
  | succ k =>
    rcases t k q (by simpa using hq) with ⟨j, a, b⟩ | ⟨a, b⟩
    · exact Or.inl ⟨j, by rw [a]; congr 1; omega, b⟩
    · exact Or.inr ⟨by rw [show n + (k + 1) = n + 1 + k by omega]; exact a, by simpa using b⟩
theorem mgN {n : Nat} {is : List Nat} {ws w1 ws2 : va_W} {e e' : Nat × va_E} (j : Nat) (h1 : is[j]? = some n) (h2 : w1[j]? = some e') (t : Mg (n + 1) is ws w1 ws2) : Mg n is (e :: ws) w1 (e' :: ws2) := fun k q hq => by
  cases k with
  | zero =>
    have hq : some e' = some q := hq
    exact Or.inl ⟨j, h1, by rw [h2]; exact hq⟩
  | succ k =>
    rcases t k q (by simpa using hq) with ⟨j, a, b⟩ | ⟨a, b⟩
    · exact Or.inl ⟨j, by rw [a]; congr 1; omega, b⟩
    · exact Or.inr ⟨by rw [show n + (k + 1) = n + 1 + k by omega]; exact a, by simpa using b⟩
def Sb (ws wc : va_W) (is : List Nat) : Prop := is.map (fun i => ws[i]?) = wc.map some
theorem sb0 {ws : va_W} : Sb ws [] [] := rfl
theorem sbC {ws wc : va_W} {is : List Nat} {i : Nat} {e : Nat × va_E} (h : ws[i]? = some e) (t : Sb ws wc is) : Sb ws (e :: wc) (i :: is) := by
  unfold Sb at *
  rw [List.map_cons, List.map_cons, h, t]
theorem x_mg_join {A0 : Nat → Prop} {D : va_G} {cl : List vw_C} {ws wc w1 ws2 : va_W} {H H1 : Heap} (hP : va_P D cl ws H) (hD : va_D A0 ws) (is : List Nat) (hC : is.map (fun i => ws[i]?) = wc.map some) (hm : Mg 0 is ws w1 ws2)
    (hk : ∀ q : Nat, q < H.size → ¬ va_A wc H.size q → H1[q]? = H[q]?) (hF : ∀ q, va_A wc H.size q → A0 q) (hP1 : va_P D cl w1 H1) (hD1 : va_D (va_A wc H.size) w1) : va_P D cl ws2 H1 ∧ va_D A0 ws2 := by
  have at' : ∀ (k : Nat) (q : Nat × va_E), wc[k]? = some q → ∃ i, is[k]? = some i ∧ ws[i]? = some q := by
    intro k q hq
    have h1 : (is.map (fun i => ws[i]?))[k]? = some (some q) := by rw [hC, List.getElem?_map, hq]; rfl
    rw [List.getElem?_map] at h1
    cases hi : is[k]? with
    | none => rw [hi] at h1; cases h1
    | some i => rw [hi] at h1; exact ⟨i, rfl, Option.some.inj h1⟩
  have hm' : ∀ (k : Nat) (q : Nat × va_E), ws2[k]? = some q → (∃ j : Nat, is[j]? = some k ∧ w1[j]? = some q) ∨ (k ∉ is ∧ ws[k]? = some q) := by
    intro k q hq
    have h := hm k q hq
    rw [Nat.zero_add] at h
    exact h
  have apart : ∀ (k : Nat) (q : Nat × va_E), k ∉ is → ws[k]? = some q → q.1 < H.size ∧ ¬ va_A wc H.size q.1 := by
    intro k q hn hq
    have hl := (hP k q hq).lt
    refine ⟨hl, fun h => ?_⟩
    rcases h with ⟨k2, e, h⟩ | h
    · obtain ⟨j, h3, h4⟩ := at' k2 (q.1, e) h
      have hij := hD.1 k j q (q.1, e) hq h4 rfl
      subst hij
      exact hn (List.mem_of_getElem? h3)
    · omega
  refine ⟨fun k q hq => ?_, fun i j x y hi hj hxy => ?_, fun k q hq => ?_⟩
  · rcases hm' k q hq with ⟨j, -, h2⟩ | ⟨h1, h2⟩
    · exact hP1 j q h2
    · obtain ⟨g1, g2⟩ := apart k q h1 h2
      exact (hP k q h2).kept (hk q.1 g1 g2)
  · rcases hm' i x hi with ⟨a, a1, a2⟩ | ⟨a1, a2⟩ <;> rcases hm' j y hj with ⟨b, b1, b2⟩ | ⟨b1, b2⟩
    · have hab := hD1.1 a b x y a2 b2 hxy
      subst hab
      exact Option.some.inj (a1.symm.trans b1)
    · exact absurd (by rw [← hxy]; exact hD1.2 a x a2) (apart j y b1 b2).2
    · exact absurd (by rw [hxy]; exact hD1.2 b y b2) (apart i x a1 a2).2
    · exact hD.1 i j x y a2 b2 hxy
  · rcases hm' k q hq with ⟨j, -, h2⟩ | ⟨h1, h2⟩
    · exact hF _ (hD1.2 j q h2)
    · exact hD.2 k q h2
section CLW3
variable {p : Program} {l : Launch} {e : Env} {R : Room} {s : State} {m : MethodId} {args : Array Value} {below : List Frame} {meth : Method} {c : Code} {H H0 : Heap} {locs : List Loc} {cells slots : Nat} {Q : State → Prop}
variable {cc : ByteArray} {pc : Nat} {ls : Array Slot} {rest st0 : List Value} {G : GG} {nL index : Nat} {own : String} {Ts : List Cond} {A : Nat → Prop}
theorem rg_run {r : Option Value} {ws wc w1 ws2 : va_W} {mc ms : Nat} (hr : va_Run p l e R s m args below meth c H locs cells slots mc ms (F0 m pc ls st0) rest (fun st oc t => oc = .returned r ∧ va_P G.1 classes w1 t.heap ∧ va_D (va_A wc H.size) w1 ∧ va_F (va_A wc H.size) st t) (va_A wc H.size))
    (hP : va_P G.1 classes ws H) (hD : va_D A ws) (hS : va_S A H0 H locs) (hA : ∀ q, H0.size ≤ q → A q) (is : List Nat) (hC : is.map (fun i => ws[i]?) = wc.map some) (hm : Mg 0 is ws w1 ws2)
    (kk : ∀ (H1 : Heap) (lo1 : List Loc), va_P G.1 classes ws2 H1 → va_D A ws2 → va_S A H0 H1 lo1 → W p l e R s m args below meth c H1 lo1 (cells + mc) (slots + ms) Q (F0 m (pc + 3) ls (r.toList ++ rest))) : W p l e R s m args below meth c H locs cells slots Q (F0 m pc ls st0) := by
  have hF := va_free (wc := wc) hD hS hA is hC
  intro T hT X
  obtain ⟨v, st₀, t, T', L, h0, X', hL, e1, e2, ⟨hv, hP1, hD1, hz, hk⟩, st⟩ := hr T hT X
  cases hv
  rw [h0] at hz hk
  obtain ⟨j1, j2⟩ := x_mg_join hP hD is hC hm hk hF hP1 hD1
  obtain ⟨t2, a1, b1⟩ := kk T'.heap (locs ++ L) (by rw [e1]; exact j1) j2
    ⟨Nat.le_trans hS.1 (by rw [e1]; exact hz), fun q h1 h2 => by rw [e1, hk q (Nat.lt_of_lt_of_le h1 hS.1) (fun z => h2 (hF q z))]; exact hS.2.1 q h1 h2, fun q hq => by
      rcases List.mem_append.mp hq with h | h
      · exact hS.2.2 q h
      · exact hF _ (hL q h)⟩ T' rfl X'
  exact ⟨t2, st t2 a1, b1⟩
theorem rgV {lev2 : Nat} (X : Cx p s m args c cc nL own Ts) (hK : KK G s H) (hR : RR R lev2) {y : MethodName} {cc' : ByteArray} {n' lev np b ci q0 mc ms : Nat} {T' : u_T} {N' : Nat} {fs : List Value} {rt : Option FieldType} {As : List Value} {ws wc w1 ws2 : va_W} {r : Option Value} {st1 : List Value} (hM : RW l G y cc' n' rt lev (.ref b :: As) wc r w1 mc ms) (hC : CalV y cc' n' rt np) (hl : Cond.methodLink own index y ∈ T0) (hP : va_P G.1 classes ws H) (hD : va_D A ws) (hS : va_S A H0 H locs) (hA : ∀ q, H0.size ≤ q → A q) (hAb : ∀ q, A q → bs G q) (is : List Nat) (hn : va_nd is = true) (hCs : Sb ws wc is) (hm : Mg 0 is ws w1 ws2)
    (hcl : classes[ci]? = some (y.cls, T', N')) (hrc : wc[q0]? = some (b, .inr (ci, fs))) (hlv : lev + 1 ≤ lev2) (hcs : cells + mc ≤ R.cells ∧ slots + ms ≤ R.slots) (hst : st0 = As.reverse ++ .ref b :: rest) (hnl : ls.size = nL) (hna : As.length = np) (hrm : (rest.map fun v => v.category).sum ≤ 8) (h1 : r.toList ++ rest = st1) (hdg : decode cc pc = .ok (.invokevirtual index, 3))
    (kk : ∀ (H1 : Heap) (lo1 : List Loc), va_P G.1 classes ws2 H1 → va_D A ws2 → va_S A H0 H1 lo1 → W p l e R s m args below meth c H1 lo1 (cells + mc) (slots + ms) Q (F0 m (pc + 3) ls st1)) : W p l e R s m args below meth c H locs cells slots Q (F0 m pc ls st0) := by
  subst h1
  obtain ⟨hx, hb, hml, hown, hts, hT⟩ := X
  obtain ⟨c1, c2, c2b, c3, c4, c5⟩ := hC
  have hPc := x_Psub hP is hCs
  have hDc := x_Dsub hD hAb is hn hCs
  refine rg_run (wc := wc) (va_runV (rest := rest) (C := y.cls) ⟨hx, hb, hml, hown, hts⟩ (hM H.size) ⟨callB_of np hts (wy_good hT c1) rfl rfl rfl (hts _ (hT _ c3)) (hts _ (hT _ hl)) c4 ⟨Nat.le_trans hlv hR.1, ?_⟩, hts _ (hT _ c2), hts _ (hT _ c2b)⟩ ⟨rw_blind, va_recv hK.1 hPc hcl hrc, fun U hU hW => ⟨rfl, by rw [hU], by rw [hU]; exact hPc, hK.warm hU hW, hDc⟩⟩ rfl hna hnl hst (lv_room hrm) hdg hcs) hP hD hS hA is hCs hm kk
  have h2 := hR.2
  show 8 + (n' + 11) + 40 * lev ≤ R.locals
  omega
theorem rgS {lev2 : Nat} (X : Cx p s m args c cc nL own Ts) (hK : KK G s H) (hR : RR R lev2) {y : MethodName} {cc' : ByteArray} {n' lev np mc ms : Nat} {rt : Option FieldType} {As : List Value} {ws wc w1 ws2 : va_W} {r : Option Value} {st1 : List Value} (hM : RW l G y cc' n' rt lev As wc r w1 mc ms) (hC : CalS y cc' n' rt np) (hl : Cond.methodLink own index y ∈ T0) (hP : va_P G.1 classes ws H) (hD : va_D A ws) (hS : va_S A H0 H locs) (hA : ∀ q, H0.size ≤ q → A q) (hAb : ∀ q, A q → bs G q) (is : List Nat) (hn : va_nd is = true) (hCs : Sb ws wc is) (hm : Mg 0 is ws w1 ws2)
    (hlv : lev + 1 ≤ lev2) (hcs : cells + mc ≤ R.cells ∧ slots + ms ≤ R.slots) (hst : st0 = As.reverse ++ rest) (hnl : ls.size = nL) (hna : As.length = np) (hrm : (rest.map fun v => v.category).sum ≤ 8) (h1 : r.toList ++ rest = st1) (hdg : decode cc pc = .ok (.invokestatic index, 3))
    (kk : ∀ (H1 : Heap) (lo1 : List Loc), va_P G.1 classes ws2 H1 → va_D A ws2 → va_S A H0 H1 lo1 → W p l e R s m args below meth c H1 lo1 (cells + mc) (slots + ms) Q (F0 m (pc + 3) ls st1)) : W p l e R s m args below meth c H locs cells slots Q (F0 m pc ls st0) := by
  subst h1
  obtain ⟨hx, hb, hml, hown, hts, hT⟩ := X
  obtain ⟨c1, c2, c3, c4, c5⟩ := hC
  have hPc := x_Psub hP is hCs
  have hDc := x_Dsub hD hAb is hn hCs
  refine rg_run (wc := wc) (va_runS (rest := rest) ⟨hx, hb, hml, hown, hts⟩ (hM H.size) ⟨callB_of np hts (wy_good hT c1) rfl rfl rfl (hts _ (hT _ c3)) (hts _ (hT _ hl)) c4 ⟨Nat.le_trans hlv hR.1, ?_⟩, hts _ (hT _ c2)⟩ ⟨rw_blind, fun U hU hW => ⟨rfl, by rw [hU], by rw [hU]; exact hPc, hK.warm hU hW, hDc⟩⟩ rfl hna hnl hst (lv_room hrm) hdg hcs) hP hD hS hA is hCs hm kk
  have h2 := hR.2
  show 8 + (n' + 11) + 40 * lev ≤ R.locals
  omega
end CLW3
/-! constants read at the heap that is there -/
section CST
variable {p : Program} {l : Launch} {e : Env} {R : Room} {s : State} {m : MethodId} {args : Array Value} {below : List Frame} {meth : Method} {c : Code} {H : Heap} {locs : List Loc} {cells slots : Nat} {Q : State → Prop}
variable {cc : ByteArray} {pc : Nat} {ls : Array Slot} {rest : List Value} {A : Nat → Prop} {t N : Nat} {f : Nat → Value}
theorem gets_at (hexec : p.tables.exec = Jvm.exec) (hb : c.code = cc) {C n d own ref : String} {v : Value} {index : Nat} (hZ : va_Z C n d v A s H) (hown : s.vm.findClass own = some m.cls) (hlink : (Cond.fieldLink own index ref n d).before args s = true) (hsame : ∀ x, s.fieldFound? C n d = some x → s.fieldFound? ref n d = some x) (hdg : decode cc pc = .ok (.getstatic index, 3))
    (kk : W p l e R s m args below meth c H locs cells slots Q (F0 m (pc + 3) ls (v :: rest))) : W p l e R s m args below meth c H locs cells slots Q (F0 m pc ls rest) := by
  obtain ⟨cf, kf, fi, f, a, cell, h1, h2, h3, h4, h5, h6, h7, h8⟩ := hZ
  exact W.gets hexec hb hown hlink (hsame _ h1) h2 h3 h4 h5 (fun e => by rw [e] at h6; cases h6) h7 rfl hdg kk
theorem tin_at {cell : Cell} {i : Int32} (h4 : N ≤ cell.slots.size) (hin : vp_in i N) : ¬ (i < 0 ∨ cell.slots.size ≤ i.toNatClampNeg) := by
  intro q
  rcases q with q | q
  · exact hin (Or.inl q)
  · exact hin (Or.inr (Nat.le_trans h4 q))
theorem ti_at (hexec : p.tables.exec = Jvm.exec) (hb : c.code = cc) (hT : va_T .int t N f A s H) {i : Int32} (hin : vp_in i N) {v : Value} (hv : f i.toNatClampNeg = v) (hdg : decode cc pc = .ok (.iaload, 1))
    (kk : W p l e R s m args below meth c H locs cells slots Q (F0 m (pc + 1) ls (v :: rest))) : W p l e R s m args below meth c H locs cells slots Q (F0 m pc ls (.int i :: .ref t :: rest)) := by
  obtain ⟨cell, h1, h2, h3, h4, h5, h6, h7⟩ := hT
  have hlt : i.toNatClampNeg < N := Nat.not_le.mp fun q => hin (Or.inr q)
  exact W.iald (v := v) hexec hb h1 h2 h3 (tin_at h4 hin) (by rw [h6 _ hlt, hv]) rfl rfl hdg kk
theorem tb_at (hexec : p.tables.exec = Jvm.exec) (hb : c.code = cc) (hT : va_T .byte t N f A s H) {i : Int32} (hin : vp_in i N) {v : Value} (hv : f i.toNatClampNeg = v) (hdg : decode cc pc = .ok (.baload, 1))
    (kk : W p l e R s m args below meth c H locs cells slots Q (F0 m (pc + 1) ls (v :: rest))) : W p l e R s m args below meth c H locs cells slots Q (F0 m pc ls (.int i :: .ref t :: rest)) := by
  obtain ⟨cell, h1, h2, h3, h4, h5, h6, h7⟩ := hT
  have hlt : i.toNatClampNeg < N := Nat.not_le.mp fun q => hin (Or.inr q)
  exact W.bald (v := v) hexec hb h1 h2 h3 (tin_at h4 hin) (by rw [h6 _ hlt, hv]) rfl rfl hdg kk
theorem tlen_at (hexec : p.tables.exec = Jvm.exec) (hb : c.code = cc) {ty : FieldType} (hT : va_T ty t N f A s H) {v : Int32} (hv : Int32.ofNat N = v) (hdg : decode cc pc = .ok (.arraylength, 1))
    (kk : W p l e R s m args below meth c H locs cells slots Q (F0 m (pc + 1) ls (.int v :: rest))) : W p l e R s m args below meth c H locs cells slots Q (F0 m pc ls (.ref t :: rest)) := by
  subst hv
  obtain ⟨cell, h1, h2, h3, h4, h5, h6, h7⟩ := hT
  exact W.alen (n := Int32.ofNat N) hexec hb h1 h2 h5 rfl rfl hdg kk
end CST
