/-! methods that may make a new row 'found' -/
def x_G {α : Type} (c : Prop) [Decidable c] (k : Option α) : Option α := if c then k else none
theorem x_gd {α : Type} {c : Prop} [Decidable c] {k : Option α} {r : α} (e : x_G c k = some r) : c ∧ k = some r := by
  unfold x_G at e
  by_cases h : c
  · rw [if_pos h] at e; exact ⟨h, e⟩
  · rw [if_neg h] at e; cases e
def mostN (vp vs : Int32) : Nat := match f_Ru_mostStates vp vs with
  | some m => m.toNatClampNeg
  | none => 0
theorem mostN_eq {vp vs y : Int32} (h : f_Ru_mostStates vp vs = some y) : mostN vp vs = y.toNatClampNeg := by unfold mostN; rw [h]
def cst (most n : Nat) : Nat := if n < most then 1 else 0
def BD1 (R : Room) (most n ce sl : Nat) : Prop := ce + cst most n ≤ R.cells ∧ sl + most * cst most n ≤ R.slots
def BD2 (R : Room) (most n n2 ce sl : Nat) : Prop := ce + (cst most n + cst most n2) ≤ R.cells ∧ sl + (most * cst most n + most * cst most n2) ≤ R.slots
theorem cst0 {most n : Nat} (h : ¬ n < most) : cst most n = 0 := if_neg h
theorem cst1 {most n : Nat} (h : n < most) : cst most n = 1 := if_pos h
theorem BD1.le {R : Room} {most n ce sl : Nat} (h : BD1 R most n ce sl) : ce ≤ R.cells ∧ sl ≤ R.slots := ⟨Nat.le_trans (Nat.le_add_right _ _) h.1, Nat.le_trans (Nat.le_add_right _ _) h.2⟩
theorem BD2.le {R : Room} {most n n2 ce sl : Nat} (h : BD2 R most n n2 ce sl) : ce ≤ R.cells ∧ sl ≤ R.slots := ⟨Nat.le_trans (Nat.le_add_right _ _) h.1, Nat.le_trans (Nat.le_add_right _ _) h.2⟩
theorem BD1.call {R : Room} {most n n' ce sl : Nat} (h : BD1 R most n ce sl) (g : ¬ n' < most) : BD1 R most n' (ce + cst most n) (sl + most * cst most n) := by
  unfold BD1 at *
  rw [cst0 g]
  simpa using h
theorem BD1.new {R : Room} {most n N ce sl : Nat} (h : BD1 R most n ce sl) (hN : most = N) (g : n < N) : BD1 R most N (ce + 1) (sl + N) := by
  unfold BD1 at *
  subst hN
  rw [cst1 g] at h
  rw [cst0 (Nat.lt_irrefl _)]
  simpa using h
theorem BD1.new0 {R : Room} {most n N ce sl : Nat} (h : BD1 R most n ce sl) (hN : most = N) (g : n < N) : ce + 1 ≤ R.cells ∧ sl + N ≤ R.slots := by
  unfold BD1 at *
  subst hN
  rw [cst1 g] at h
  simpa using h
theorem BD2.okF {R : Room} {most n n2 ce sl : Nat} (h : BD2 R most n n2 ce sl) : ce + cst most n ≤ R.cells ∧ sl + most * cst most n ≤ R.slots := by unfold BD2 at h; omega
theorem BD2.okW {R : Room} {most n n2 ce sl : Nat} (h : BD2 R most n n2 ce sl) : ce + cst most n2 ≤ R.cells ∧ sl + most * cst most n2 ≤ R.slots := by unfold BD2 at h; omega
theorem BD2.callF {R : Room} {most n n' n2 ce sl : Nat} (h : BD2 R most n n2 ce sl) (g : ¬ n' < most) : BD2 R most n' n2 (ce + cst most n) (sl + most * cst most n) := by
  unfold BD2 at *
  rw [cst0 g]
  omega
theorem BD2.callW {R : Room} {most n n' n2 ce sl : Nat} (h : BD2 R most n n2 ce sl) (g : ¬ n' < most) : BD2 R most n n' (ce + cst most n2) (sl + most * cst most n2) := by
  unfold BD2 at *
  rw [cst0 g]
  omega
theorem BD2.call2 {R : Room} {most n n' n2 n2' ce sl : Nat} (h : BD2 R most n n2 ce sl) (g : ¬ n' < most) (g2 : ¬ n2' < most) : BD2 R most n' n2' (ce + (cst most n + cst most n2)) (sl + (most * cst most n + most * cst most n2)) := by
  unfold BD2 at *
  rw [cst0 g, cst0 g2]
  omega
/-- a method that writes and may put new rows in the place of old ones: where they lie is told by q -/
def RX {α : Type} (l : Launch) (G : GG) (y : MethodName) (cc : ByteArray) (n : Nat) (rt : Option FieldType) (lev : Nat) (av : List Value) (ws : va_W) (r : Option Value) (ws' : α → va_W) (mc ms : Nat) : Prop :=
  ∀ sz : Nat, Met l y (wy y cc n rt) (rmOf lev mc ms) (va_Pc av (fun U => U.heap.size = sz ∧ va_P G.1 classes ws U.heap ∧ KK G U U.heap ∧ va_D (bs G) ws)) (fun _ st oc t => oc = .returned r ∧ (∃ q : α, va_P G.1 classes (ws' q) t.heap ∧ va_D (va_A ws sz) (ws' q)) ∧ va_F (va_A ws sz) st t) mc ms (va_A ws sz)
theorem RX_of {α : Type} {l : Launch} {G : GG} {y : MethodName} {cc : ByteArray} {n lev mc ms : Nat} {rt : Option FieldType} {av : List Value} {ws : va_W} {ws' : α → va_W} {r : Option Value} (hy : plainName y.cls = true) (hn : (lg_sl av).length ≤ n)
    (body : ∀ (p : Program) (e : Env) (s : State) (m : MethodId) (args : Array Value) (below : List Frame) (meth : Method) (c : Code) (R : Room) (Q : State → Prop) (A : Nat → Prop) (ls : Array Slot), Cx p s m args c cc n y.cls (wy y cc n rt) → RR R lev → (R.cells = mc ∧ R.slots = ms) → (y.name = "<init>" → meth.name = "<init>") → va_P G.1 classes ws s.heap → KK G s s.heap → va_D A ws → va_S A s.heap s.heap [] → (∀ q, s.heap.size ≤ q → A q) → (∀ q, A q → bs G q) → lv_has ls n (lv_args 0 av) →
      ((∀ (pc : Nat) (ls : Array Slot) (H : Heap) (lo : List Loc) (ce sl : Nat) (v r' : Int32) (ty : FieldType) (q : α), ce ≤ R.cells ∧ sl ≤ R.slots → rt = some ty → r = some (.int r') → decode cc pc = .ok (.ireturn, 1) → narrow ty (.int v) = .int r' → va_P G.1 classes (ws' q) H → va_D A (ws' q) → va_S A s.heap H lo → W p l e R s m args below meth c H lo ce sl Q (F0 m pc ls [.int v])) ∧
       (∀ (pc : Nat) (ls : Array Slot) (H : Heap) (lo : List Loc) (ce sl : Nat) (q : α), ce ≤ R.cells ∧ sl ≤ R.slots → rt = none → r = none → decode cc pc = .ok (.return_, 1) → va_P G.1 classes (ws' q) H → va_D A (ws' q) → va_S A s.heap H lo → W p l e R s m args below meth c H lo ce sl Q (F0 m pc ls [])) ∧
       (∀ (pc : Nat) (ls : Array Slot) (H : Heap) (lo : List Loc) (ce sl : Nat) (a : Nat) (cn : String) (q : α), ce ≤ R.cells ∧ sl ≤ R.slots → rt = some (.object cn) → r = some (.ref a) → decode cc pc = .ok (.areturn, 1) → va_P G.1 classes (ws' q) H → va_D A (ws' q) → va_S A s.heap H lo → W p l e R s m args below meth c H lo ce sl Q (F0 m pc ls [.ref a]))) → W p l e R s m args below meth c s.heap [] 0 0 Q (F0 m 0 ls [])) : RX l G y cc n rt lev av ws r ws' mc ms := by
  intro sz
  refine Met.ofW (cc := cc) (maxL := n) (ret := rt) hy rfl ?_
  intro p e s m args below meth c s₁ B hml hv
  obtain ⟨rfl, hsz, hP, hK, hD0⟩ := hv
  subst hsz
  have hl := lv_entry av (n := n) hn
  rw [lg_entry_eq]
  refine body p e s m _ below meth c _ _ (va_A ws s.heap.size) _ ⟨B.exec, B.bytes, hml, findClass_of_methodNamed B.named, atoms_spec (ws := wy y cc n rt) B.pre, fun w h => List.mem_cons_of_mem _ h⟩ ⟨Nat.le_refl _, Nat.le_refl _⟩ ⟨rfl, rfl⟩ (fun h => (name_of_methodNamed B.named B.method).1.trans h) hP hK hD0.self va_S.rf (fun q h => Or.inr h) (fun q h => h.elim (fun ⟨k, e, h⟩ => hD0.2 k (q, e) h) (fun h => Nat.le_trans hK.2.2.1 h)) hl ⟨?_, ?_, ?_⟩
  · intro pc ls H lo ce sl v r' ty q hb ht hr hd hnv h1 h2 h3
    subst ht; subst hr
    refine W.widen (k := mc) (n := ms) hb.1 hb.2 ?_
    exact nret B.exec B.bytes B.returns hnv (fun t ht hW => ⟨rfl, ⟨q, by rw [ht]; exact h1, h2⟩, h3.F ht⟩) h3.2.2 hd B.notSynchronized
  · intro pc ls H lo ce sl q hb ht hr hd h1 h2 h3
    subst ht; subst hr
    refine W.widen (k := mc) (n := ms) hb.1 hb.2 ?_
    exact W.vret B.exec B.bytes B.returns (fun t ht hW => ⟨rfl, ⟨q, by rw [ht]; exact h1, h2⟩, h3.F ht⟩) h3.2.2 hd B.notSynchronized
  · intro pc ls H lo ce sl a cn q hb ht hr hd h1 h2 h3
    subst ht; subst hr
    refine W.widen (k := mc) (n := ms) hb.1 hb.2 ?_
    exact W.aret B.exec B.bytes B.returns (Or.inl ⟨_, rfl⟩) (Or.inr ⟨_, rfl⟩) (fun t ht hW => ⟨rfl, ⟨q, by rw [ht]; exact h1, h2⟩, h3.F ht⟩) h3.2.2 hd B.notSynchronized
section CLX
variable {p : Program} {l : Launch} {e : Env} {R : Room} {s : State} {m : MethodId} {args : Array Value} {below : List Frame} {meth : Method} {c : Code} {H H0 : Heap} {locs : List Loc} {cells slots : Nat} {Q : State → Prop}
variable {cc : ByteArray} {pc : Nat} {ls : Array Slot} {rest st0 : List Value} {G : GG} {nL index : Nat} {own : String} {Ts : List Cond} {A : Nat → Prop}
theorem rx_run {α : Type} {r : Option Value} {ws wc : va_W} {w1 ws2 : α → va_W} {mc ms : Nat} (hr : va_Run p l e R s m args below meth c H locs cells slots mc ms (F0 m pc ls st0) rest (fun st oc t => oc = .returned r ∧ (∃ q : α, va_P G.1 classes (w1 q) t.heap ∧ va_D (va_A wc H.size) (w1 q)) ∧ va_F (va_A wc H.size) st t) (va_A wc H.size))
    (hP : va_P G.1 classes ws H) (hD : va_D A ws) (hS : va_S A H0 H locs) (hA : ∀ q, H0.size ≤ q → A q) (is : List Nat) (hC : is.map (fun i => ws[i]?) = wc.map some) (hm : ∀ q, Mg 0 is ws (w1 q) (ws2 q))
    (kk : ∀ (q : α) (H1 : Heap) (lo1 : List Loc), va_P G.1 classes (ws2 q) H1 → va_D A (ws2 q) → va_S A H0 H1 lo1 → W p l e R s m args below meth c H1 lo1 (cells + mc) (slots + ms) Q (F0 m (pc + 3) ls (r.toList ++ rest))) : W p l e R s m args below meth c H locs cells slots Q (F0 m pc ls st0) := by
  have hF := va_free (wc := wc) hD hS hA is hC
  intro T hT X
  obtain ⟨v, st₀, t, T', L, h0, X', hL, e1, e2, ⟨hv, ⟨q, hP1, hD1⟩, hz, hk⟩, st⟩ := hr T hT X
  cases hv
  rw [h0] at hz hk
  obtain ⟨j1, j2⟩ := x_mg_join hP hD is hC (hm q) hk hF hP1 hD1
  obtain ⟨t2, a1, b1⟩ := kk q T'.heap (locs ++ L) (by rw [e1]; exact j1) j2
    ⟨Nat.le_trans hS.1 (by rw [e1]; exact hz), fun q h1 h2 => by rw [e1, hk q (Nat.lt_of_lt_of_le h1 hS.1) (fun z => h2 (hF q z))]; exact hS.2.1 q h1 h2, fun q hq => by
      rcases List.mem_append.mp hq with h | h
      · exact hS.2.2 q h
      · exact hF _ (hL q h)⟩ T' rfl X'
  exact ⟨t2, st t2 a1, b1⟩
theorem rxV {α : Type} {lev2 : Nat} (X : Cx p s m args c cc nL own Ts) (hK : KK G s H) (hR : RR R lev2) {y : MethodName} {cc' : ByteArray} {n' lev np b ci q0 mc ms : Nat} {T' : u_T} {N' : Nat} {fs : List Value} {rt : Option FieldType} {As : List Value} {ws wc : va_W} {w1 ws2 : α → va_W} {r : Option Value} {st1 : List Value} (hM : RX l G y cc' n' rt lev (.ref b :: As) wc r w1 mc ms) (hC : CalV y cc' n' rt np) (hl : Cond.methodLink own index y ∈ T0) (hP : va_P G.1 classes ws H) (hD : va_D A ws) (hS : va_S A H0 H locs) (hA : ∀ q, H0.size ≤ q → A q) (hAb : ∀ q, A q → bs G q) (is : List Nat) (hn : va_nd is = true) (hCs : Sb ws wc is) (hm : ∀ q, Mg 0 is ws (w1 q) (ws2 q))
    (hcl : classes[ci]? = some (y.cls, T', N')) (hrc : wc[q0]? = some (b, .inr (ci, fs))) (hlv : lev + 1 ≤ lev2) (hcs : cells + mc ≤ R.cells ∧ slots + ms ≤ R.slots) (hst : st0 = As.reverse ++ .ref b :: rest) (hnl : ls.size = nL) (hna : As.length = np) (hrm : (rest.map fun v => v.category).sum ≤ 8) (h1 : r.toList ++ rest = st1) (hdg : decode cc pc = .ok (.invokevirtual index, 3))
    (kk : ∀ (q : α) (H1 : Heap) (lo1 : List Loc), va_P G.1 classes (ws2 q) H1 → va_D A (ws2 q) → va_S A H0 H1 lo1 → W p l e R s m args below meth c H1 lo1 (cells + mc) (slots + ms) Q (F0 m (pc + 3) ls st1)) : W p l e R s m args below meth c H locs cells slots Q (F0 m pc ls st0) := by
  subst h1
  obtain ⟨hx, hb, hml, hown, hts, hT⟩ := X
  obtain ⟨c1, c2, c2b, c3, c4, c5⟩ := hC
  have hPc := x_Psub hP is hCs
  have hDc := x_Dsub hD hAb is hn hCs
  refine rx_run (wc := wc) (va_runV (rest := rest) (C := y.cls) ⟨hx, hb, hml, hown, hts⟩ (hM H.size) ⟨callB_of np hts (wy_good hT c1) rfl rfl rfl (hts _ (hT _ c3)) (hts _ (hT _ hl)) c4 ⟨Nat.le_trans hlv hR.1, ?_⟩, hts _ (hT _ c2), hts _ (hT _ c2b)⟩ ⟨rw_blind, va_recv hK.1 hPc hcl hrc, fun U hU hW => ⟨rfl, by rw [hU], by rw [hU]; exact hPc, hK.warm hU hW, hDc⟩⟩ rfl hna hnl hst (lv_room hrm) hdg hcs) hP hD hS hA is hCs hm kk
  have h2 := hR.2
  show 8 + (n' + 11) + 40 * lev ≤ R.locals
  omega
theorem newaJ (hexec : p.tables.exec = Jvm.exec) (hb : c.code = cc) {ws : va_W} (harr : (Cond.arrayClass .long).before args s = true) (hK : va_K G.1 classes (tyG G) s) (hP : va_P G.1 classes ws H) (hD : va_D A ws) (hS : va_S A H0 H locs) (hA : ∀ q, H0.size ≤ q → A q)
    {n : Int32} (hn : ¬ n < 0) (hbytes : n.toNatClampNeg ≤ 57344) (hcs : cells + 1 ≤ R.cells ∧ slots + n.toNatClampNeg ≤ R.slots) (hdg : decode cc pc = .ok (.newarray .long, 2))
    (kk : ∀ (q : Nat) (H1 : Heap), va_P G.1 classes (ws ++ [(q, .inl (G.2.2.1, n.toNatClampNeg, .inr (.inl (fun _ => 0))))]) H1 → va_D A (ws ++ [(q, .inl (G.2.2.1, n.toNatClampNeg, .inr (.inl (fun _ => 0))))]) → va_S A H0 H1 locs →
      W p l e R s m args below meth c H1 locs (cells + 1) (slots + n.toNatClampNeg) Q (F0 m (pc + 2) ls (.ref q :: rest))) : W p l e R s m args below meth c H locs cells slots Q (F0 m pc ls (.int n :: rest)) := by
  refine va_newa (atype := .long) (ty := .long) (a0 := (n.toNatClampNeg, .inr (.inl (fun _ => 0)))) hexec hb harr rfl hK hP hD hS hA (fun cA => rfl) hn rfl (by show n.toNatClampNeg * 8 ≤ 536870912; omega) hcs.1 hcs.2 hdg ?_
  intro q cA H1 hK1 hP1 hD1 hS1
  have e1 : s.vm.findClass ("[" ++ FieldType.long.toString) = some cA := (hK1.2 3 (cA, .long) rfl).2
  have e2 : s.vm.findClass ("[" ++ FieldType.long.toString) = some G.2.2.1 := (hK.2 1 (G.2.2.1, .long) rfl).2
  have e3 : cA = G.2.2.1 := Option.some.inj (e1.symm.trans e2)
  subst e3
  exact kk q H1 hP1 hD1 hS1
end CLX
