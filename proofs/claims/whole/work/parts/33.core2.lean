section CLW2
variable {p : Program} {l : Launch} {e : Env} {R : Room} {s : State} {m : MethodId} {args : Array Value} {below : List Frame} {meth : Method} {c : Code} {H H0 : Heap} {locs : List Loc} {cells slots : Nat} {Q : State → Prop}
variable {cc : ByteArray} {pc : Nat} {ls : Array Slot} {rest st0 : List Value} {G : GG} {nL index : Nat} {own : String} {Ts : List Cond} {A : Nat → Prop}
theorem rwS {lev2 : Nat} (X : Cx p s m args c cc nL own Ts) (hK : KK G s H) (hR : RR R lev2) {y : MethodName} {cc' : ByteArray} {n' lev np mc ms : Nat} {rt : Option FieldType} {As : List Value} {ws wc w1 ws2 : va_W} {r : Option Value} {st1 : List Value} (hM : RW l G y cc' n' rt lev As wc r w1 mc ms) (hC : CalS y cc' n' rt np) (hl : Cond.methodLink own index y ∈ T0) (hP : va_P G.1 classes ws H) (hD : va_D A ws) (hS : va_S A H0 H locs) (hA : ∀ q, H0.size ≤ q → A q) (hAb : ∀ q, A q → bs G q) (is : List Nat) (hn : va_nd is = true) (hCs : is.map (fun i => ws[i]?) = wc.map some) (hlen : is.length = w1.length) (h2 : x_rep ws is w1 = ws2)
    (hlv : lev + 1 ≤ lev2) (hcs : cells + mc ≤ R.cells ∧ slots + ms ≤ R.slots) (hst : st0 = As.reverse ++ rest) (hnl : ls.size = nL) (hna : As.length = np) (hrm : (rest.map fun v => v.category).sum ≤ 8) (h1 : r.toList ++ rest = st1) (hdg : decode cc pc = .ok (.invokestatic index, 3))
    (kk : ∀ (H1 : Heap) (lo1 : List Loc), va_P G.1 classes ws2 H1 → va_D A ws2 → va_S A H0 H1 lo1 → W p l e R s m args below meth c H1 lo1 (cells + mc) (slots + ms) Q (F0 m (pc + 3) ls st1)) : W p l e R s m args below meth c H locs cells slots Q (F0 m pc ls st0) := by
  subst h1
  obtain ⟨hx, hb, hml, hown, hts, hT⟩ := X
  obtain ⟨c1, c2, c3, c4, c5⟩ := hC
  have hPc := x_Psub hP is hCs
  have hDc := x_Dsub hD hAb is hn hCs
  refine rw_run (wc := wc) (va_runS (rest := rest) ⟨hx, hb, hml, hown, hts⟩ (hM H.size) ⟨callB_of np hts (wy_good hT c1) rfl rfl rfl (hts _ (hT _ c3)) (hts _ (hT _ hl)) c4 ⟨Nat.le_trans hlv hR.1, ?_⟩, hts _ (hT _ c2)⟩ ⟨rw_blind, fun U hU hW => ⟨rfl, by rw [hU], by rw [hU]; exact hPc, hK.warm hU hW, hDc⟩⟩ rfl hna hnl hst (lv_room hrm) hdg hcs) hP hD hS hA is hCs hlen h2 kk
  have h2 := hR.2
  show 8 + (n' + 11) + 40 * lev ≤ R.locals
  omega
end CLW2
/-! the same with large worlds: cell by cell -/
def Mg (n : Nat) (is : List Nat) (ws w1 ws2 : va_W) : Prop := ∀ (k : Nat) (q : Nat × va_E), ws2[k]? = some q → (∃ j : Nat, is[j]? = some (n + k) ∧ w1[j]? = some q) ∨ (n + k ∉ is ∧ ws[k]? = some q)
theorem mg0 {n : Nat} {is : List Nat} {ws w1 : va_W} : Mg n is ws w1 [] := fun k q h => by simp at h
theorem mgK {n : Nat} {is : List Nat} {ws w1 ws2 : va_W} {e : Nat × va_E} (h : n ∉ is) (t : Mg (n + 1) is ws w1 ws2) : Mg n is (e :: ws) w1 (e :: ws2) := fun k q hq => by
  cases k with
  | zero => exact Or.inr ⟨h, hq⟩
  | succ k =>
    rcases t k q (by simpa using hq) with ⟨j, a, b⟩ | ⟨a, b⟩
    · exact Or.inl ⟨j, by rw [a]; congr 1; omega, b⟩
    · exact Or.inr ⟨by rw [show n + (k + 1) = n + 1 + k by omega]; exact a, by simpa using b⟩
theorem mgN {n : Nat} {is : List Nat} {ws w1 ws2 : va_W} {e e' : Nat × va_E} (j : Nat) (h1 : is[j]? = some n) (h2 : w1[j]? = some e') (t : Mg (n + 1) is ws w1 ws2) : Mg n is (e :: ws) w1 (e' :: ws2) := fun k q hq => by
  cases k with
  | zero =>
    have hq : some e' = some q := hq
    exact Or.inl ⟨j, h1, by rw [h2]; exact hq⟩
  | succ k =>
    rcases t k q (by simpa using hq) with ⟨j, a, b⟩ | ⟨a, b⟩
    · exact Or.inl ⟨j, by rw [a]; congr 1; omega, b⟩
    · exact Or.inr ⟨by rw [show n + (k + 1) = n + 1 + k by omega]; exact a, by simpa using b⟩
def Sb (ws wc : va_W) (is : List Nat) : Prop := is.map (fun i => ws[i]?) = wc.map some
theorem sb0 {ws : va_W} : Sb ws [] [] := rfl
theorem sbC {ws wc : va_W} {is : List Nat} {i : Nat} {e : Nat × va_E} (h : ws[i]? = some e) (t : Sb ws wc is) : Sb ws (e :: wc) (i :: is) := by
  unfold Sb at *
  rw [List.map_cons, List.map_cons, h, t]
theorem x_mg_join {A0 : Nat → Prop} {D : va_G} {cl : List vw_C} {ws wc w1 ws2 : va_W} {H H1 : Heap} (hP : va_P D cl ws H) (hD : va_D A0 ws) (is : List Nat) (hC : is.map (fun i => ws[i]?) = wc.map some) (hm : Mg 0 is ws w1 ws2)
    (hk : ∀ q : Nat, q < H.size → ¬ va_A wc H.size q → H1[q]? = H[q]?) (hF : ∀ q, va_A wc H.size q → A0 q) (hP1 : va_P D cl w1 H1) (hD1 : va_D (va_A wc H.size) w1) : va_P D cl ws2 H1 ∧ va_D A0 ws2 := by
  have at' : ∀ (k : Nat) (q : Nat × va_E), wc[k]? = some q → ∃ i, is[k]? = some i ∧ ws[i]? = some q := by
    intro k q hq
    have h1 : (is.map (fun i => ws[i]?))[k]? = some (some q) := by rw [hC, List.getElem?_map, hq]; rfl
    rw [List.getElem?_map] at h1
    cases hi : is[k]? with
    | none => rw [hi] at h1; cases h1
    | some i => rw [hi] at h1; exact ⟨i, rfl, Option.some.inj h1⟩
  have hm' : ∀ (k : Nat) (q : Nat × va_E), ws2[k]? = some q → (∃ j : Nat, is[j]? = some k ∧ w1[j]? = some q) ∨ (k ∉ is ∧ ws[k]? = some q) := by
    intro k q hq
    have h := hm k q hq
    rw [Nat.zero_add] at h
    exact h
  have apart : ∀ (k : Nat) (q : Nat × va_E), k ∉ is → ws[k]? = some q → q.1 < H.size ∧ ¬ va_A wc H.size q.1 := by
    intro k q hn hq
    have hl := (hP k q hq).lt
    refine ⟨hl, fun h => ?_⟩
    rcases h with ⟨k2, e, h⟩ | h
    · obtain ⟨j, h3, h4⟩ := at' k2 (q.1, e) h
      have hij := hD.1 k j q (q.1, e) hq h4 rfl
      subst hij
      exact hn (List.mem_of_getElem? h3)
    · omega
  refine ⟨fun k q hq => ?_, fun i j x y hi hj hxy => ?_, fun k q hq => ?_⟩
  · rcases hm' k q hq with ⟨j, -, h2⟩ | ⟨h1, h2⟩
    · exact hP1 j q h2
    · obtain ⟨g1, g2⟩ := apart k q h1 h2
      exact (hP k q h2).kept (hk q.1 g1 g2)
  · rcases hm' i x hi with ⟨a, a1, a2⟩ | ⟨a1, a2⟩ <;> rcases hm' j y hj with ⟨b, b1, b2⟩ | ⟨b1, b2⟩
    · have hab := hD1.1 a b x y a2 b2 hxy
      subst hab
      exact Option.some.inj (a1.symm.trans b1)
    · exact absurd (by rw [← hxy]; exact hD1.2 a x a2) (apart j y b1 b2).2
    · exact absurd (by rw [hxy]; exact hD1.2 b y b2) (apart i x a1 a2).2
    · exact hD.1 i j x y a2 b2 hxy
  · rcases hm' k q hq with ⟨j, -, h2⟩ | ⟨h1, h2⟩
    · exact hF _ (hD1.2 j q h2)
    · exact hD.2 k q h2
section CLW3
variable {p : Program} {l : Launch} {e : Env} {R : Room} {s : State} {m : MethodId} {args : Array Value} {below : List Frame} {meth : Method} {c : Code} {H H0 : Heap} {locs : List Loc} {cells slots : Nat} {Q : State → Prop}
variable {cc : ByteArray} {pc : Nat} {ls : Array Slot} {rest st0 : List Value} {G : GG} {nL index : Nat} {own : String} {Ts : List Cond} {A : Nat → Prop}
theorem rg_run {r : Option Value} {ws wc w1 ws2 : va_W} {mc ms : Nat} (hr : va_Run p l e R s m args below meth c H locs cells slots mc ms (F0 m pc ls st0) rest (fun st oc t => oc = .returned r ∧ va_P G.1 classes w1 t.heap ∧ va_D (va_A wc H.size) w1 ∧ va_F (va_A wc H.size) st t) (va_A wc H.size))
    (hP : va_P G.1 classes ws H) (hD : va_D A ws) (hS : va_S A H0 H locs) (hA : ∀ q, H0.size ≤ q → A q) (is : List Nat) (hC : is.map (fun i => ws[i]?) = wc.map some) (hm : Mg 0 is ws w1 ws2)
    (kk : ∀ (H1 : Heap) (lo1 : List Loc), va_P G.1 classes ws2 H1 → va_D A ws2 → va_S A H0 H1 lo1 → W p l e R s m args below meth c H1 lo1 (cells + mc) (slots + ms) Q (F0 m (pc + 3) ls (r.toList ++ rest))) : W p l e R s m args below meth c H locs cells slots Q (F0 m pc ls st0) := by
  have hF := va_free (wc := wc) hD hS hA is hC
  intro T hT X
  obtain ⟨v, st₀, t, T', L, h0, X', hL, e1, e2, ⟨hv, hP1, hD1, hz, hk⟩, st⟩ := hr T hT X
  cases hv
  rw [h0] at hz hk
  obtain ⟨j1, j2⟩ := x_mg_join hP hD is hC hm hk hF hP1 hD1
  obtain ⟨t2, a1, b1⟩ := kk T'.heap (locs ++ L) (by rw [e1]; exact j1) j2
    ⟨Nat.le_trans hS.1 (by rw [e1]; exact hz), fun q h1 h2 => by rw [e1, hk q (Nat.lt_of_lt_of_le h1 hS.1) (fun z => h2 (hF q z))]; exact hS.2.1 q h1 h2, fun q hq => by
      rcases List.mem_append.mp hq with h | h
      · exact hS.2.2 q h
      · exact hF _ (hL q h)⟩ T' rfl X'
  exact ⟨t2, st t2 a1, b1⟩
theorem rgV {lev2 : Nat} (X : Cx p s m args c cc nL own Ts) (hK : KK G s H) (hR : RR R lev2) {y : MethodName} {cc' : ByteArray} {n' lev np b ci q0 mc ms : Nat} {T' : u_T} {N' : Nat} {fs : List Value} {rt : Option FieldType} {As : List Value} {ws wc w1 ws2 : va_W} {r : Option Value} {st1 : List Value} (hM : RW l G y cc' n' rt lev (.ref b :: As) wc r w1 mc ms) (hC : CalV y cc' n' rt np) (hl : Cond.methodLink own index y ∈ T0) (hP : va_P G.1 classes ws H) (hD : va_D A ws) (hS : va_S A H0 H locs) (hA : ∀ q, H0.size ≤ q → A q) (hAb : ∀ q, A q → bs G q) (is : List Nat) (hn : va_nd is = true) (hCs : Sb ws wc is) (hm : Mg 0 is ws w1 ws2)
    (hcl : classes[ci]? = some (y.cls, T', N')) (hrc : wc[q0]? = some (b, .inr (ci, fs))) (hlv : lev + 1 ≤ lev2) (hcs : cells + mc ≤ R.cells ∧ slots + ms ≤ R.slots) (hst : st0 = As.reverse ++ .ref b :: rest) (hnl : ls.size = nL) (hna : As.length = np) (hrm : (rest.map fun v => v.category).sum ≤ 8) (h1 : r.toList ++ rest = st1) (hdg : decode cc pc = .ok (.invokevirtual index, 3))
    (kk : ∀ (H1 : Heap) (lo1 : List Loc), va_P G.1 classes ws2 H1 → va_D A ws2 → va_S A H0 H1 lo1 → W p l e R s m args below meth c H1 lo1 (cells + mc) (slots + ms) Q (F0 m (pc + 3) ls st1)) : W p l e R s m args below meth c H locs cells slots Q (F0 m pc ls st0) := by
  subst h1
  obtain ⟨hx, hb, hml, hown, hts, hT⟩ := X
  obtain ⟨c1, c2, c2b, c3, c4, c5⟩ := hC
  have hPc := x_Psub hP is hCs
  have hDc := x_Dsub hD hAb is hn hCs
  refine rg_run (wc := wc) (va_runV (rest := rest) (C := y.cls) ⟨hx, hb, hml, hown, hts⟩ (hM H.size) ⟨callB_of np hts (wy_good hT c1) rfl rfl rfl (hts _ (hT _ c3)) (hts _ (hT _ hl)) c4 ⟨Nat.le_trans hlv hR.1, ?_⟩, hts _ (hT _ c2), hts _ (hT _ c2b)⟩ ⟨rw_blind, va_recv hK.1 hPc hcl hrc, fun U hU hW => ⟨rfl, by rw [hU], by rw [hU]; exact hPc, hK.warm hU hW, hDc⟩⟩ rfl hna hnl hst (lv_room hrm) hdg hcs) hP hD hS hA is hCs hm kk
  have h2 := hR.2
  show 8 + (n' + 11) + 40 * lev ≤ R.locals
  omega
theorem rgS {lev2 : Nat} (X : Cx p s m args c cc nL own Ts) (hK : KK G s H) (hR : RR R lev2) {y : MethodName} {cc' : ByteArray} {n' lev np mc ms : Nat} {rt : Option FieldType} {As : List Value} {ws wc w1 ws2 : va_W} {r : Option Value} {st1 : List Value} (hM : RW l G y cc' n' rt lev As wc r w1 mc ms) (hC : CalS y cc' n' rt np) (hl : Cond.methodLink own index y ∈ T0) (hP : va_P G.1 classes ws H) (hD : va_D A ws) (hS : va_S A H0 H locs) (hA : ∀ q, H0.size ≤ q → A q) (hAb : ∀ q, A q → bs G q) (is : List Nat) (hn : va_nd is = true) (hCs : Sb ws wc is) (hm : Mg 0 is ws w1 ws2)
    (hlv : lev + 1 ≤ lev2) (hcs : cells + mc ≤ R.cells ∧ slots + ms ≤ R.slots) (hst : st0 = As.reverse ++ rest) (hnl : ls.size = nL) (hna : As.length = np) (hrm : (rest.map fun v => v.category).sum ≤ 8) (h1 : r.toList ++ rest = st1) (hdg : decode cc pc = .ok (.invokestatic index, 3))
    (kk : ∀ (H1 : Heap) (lo1 : List Loc), va_P G.1 classes ws2 H1 → va_D A ws2 → va_S A H0 H1 lo1 → W p l e R s m args below meth c H1 lo1 (cells + mc) (slots + ms) Q (F0 m (pc + 3) ls st1)) : W p l e R s m args below meth c H locs cells slots Q (F0 m pc ls st0) := by
  subst h1
  obtain ⟨hx, hb, hml, hown, hts, hT⟩ := X
  obtain ⟨c1, c2, c3, c4, c5⟩ := hC
  have hPc := x_Psub hP is hCs
  have hDc := x_Dsub hD hAb is hn hCs
  refine rg_run (wc := wc) (va_runS (rest := rest) ⟨hx, hb, hml, hown, hts⟩ (hM H.size) ⟨callB_of np hts (wy_good hT c1) rfl rfl rfl (hts _ (hT _ c3)) (hts _ (hT _ hl)) c4 ⟨Nat.le_trans hlv hR.1, ?_⟩, hts _ (hT _ c2)⟩ ⟨rw_blind, fun U hU hW => ⟨rfl, by rw [hU], by rw [hU]; exact hPc, hK.warm hU hW, hDc⟩⟩ rfl hna hnl hst (lv_room hrm) hdg hcs) hP hD hS hA is hCs hm kk
  have h2 := hR.2
  show 8 + (n' + 11) + 40 * lev ≤ R.locals
  omega
end CLW3
/-! constants read at the heap that is there -/
section CST
variable {p : Program} {l : Launch} {e : Env} {R : Room} {s : State} {m : MethodId} {args : Array Value} {below : List Frame} {meth : Method} {c : Code} {H : Heap} {locs : List Loc} {cells slots : Nat} {Q : State → Prop}
variable {cc : ByteArray} {pc : Nat} {ls : Array Slot} {rest : List Value} {A : Nat → Prop} {t N : Nat} {f : Nat → Value}
theorem gets_at (hexec : p.tables.exec = Jvm.exec) (hb : c.code = cc) {C n d own ref : String} {v : Value} {index : Nat} (hZ : va_Z C n d v A s H) (hown : s.vm.findClass own = some m.cls) (hlink : (Cond.fieldLink own index ref n d).before args s = true) (hsame : ∀ x, s.fieldFound? C n d = some x → s.fieldFound? ref n d = some x) (hdg : decode cc pc = .ok (.getstatic index, 3))
    (kk : W p l e R s m args below meth c H locs cells slots Q (F0 m (pc + 3) ls (v :: rest))) : W p l e R s m args below meth c H locs cells slots Q (F0 m pc ls rest) := by
  obtain ⟨cf, kf, fi, f, a, cell, h1, h2, h3, h4, h5, h6, h7, h8⟩ := hZ
  exact W.gets hexec hb hown hlink (hsame _ h1) h2 h3 h4 h5 (fun e => by rw [e] at h6; cases h6) h7 rfl hdg kk
theorem tin_at {cell : Cell} {i : Int32} (h4 : N ≤ cell.slots.size) (hin : vp_in i N) : ¬ (i < 0 ∨ cell.slots.size ≤ i.toNatClampNeg) := by
  intro q
  rcases q with q | q
  · exact hin (Or.inl q)
  · exact hin (Or.inr (Nat.le_trans h4 q))
theorem ti_at (hexec : p.tables.exec = Jvm.exec) (hb : c.code = cc) (hT : va_T .int t N f A s H) {i : Int32} (hin : vp_in i N) {v : Value} (hv : f i.toNatClampNeg = v) (hdg : decode cc pc = .ok (.iaload, 1))
    (kk : W p l e R s m args below meth c H locs cells slots Q (F0 m (pc + 1) ls (v :: rest))) : W p l e R s m args below meth c H locs cells slots Q (F0 m pc ls (.int i :: .ref t :: rest)) := by
  obtain ⟨cell, h1, h2, h3, h4, h5, h6, h7⟩ := hT
  have hlt : i.toNatClampNeg < N := Nat.not_le.mp fun q => hin (Or.inr q)
  exact W.iald (v := v) hexec hb h1 h2 h3 (tin_at h4 hin) (by rw [h6 _ hlt, hv]) rfl rfl hdg kk
theorem tb_at (hexec : p.tables.exec = Jvm.exec) (hb : c.code = cc) (hT : va_T .byte t N f A s H) {i : Int32} (hin : vp_in i N) {v : Value} (hv : f i.toNatClampNeg = v) (hdg : decode cc pc = .ok (.baload, 1))
    (kk : W p l e R s m args below meth c H locs cells slots Q (F0 m (pc + 1) ls (v :: rest))) : W p l e R s m args below meth c H locs cells slots Q (F0 m pc ls (.int i :: .ref t :: rest)) := by
  obtain ⟨cell, h1, h2, h3, h4, h5, h6, h7⟩ := hT
  have hlt : i.toNatClampNeg < N := Nat.not_le.mp fun q => hin (Or.inr q)
  exact W.bald (v := v) hexec hb h1 h2 h3 (tin_at h4 hin) (by rw [h6 _ hlt, hv]) rfl rfl hdg kk
theorem tlen_at (hexec : p.tables.exec = Jvm.exec) (hb : c.code = cc) {ty : FieldType} (hT : va_T ty t N f A s H) {v : Int32} (hv : Int32.ofNat N = v) (hdg : decode cc pc = .ok (.arraylength, 1))
    (kk : W p l e R s m args below meth c H locs cells slots Q (F0 m (pc + 1) ls (.int v :: rest))) : W p l e R s m args below meth c H locs cells slots Q (F0 m pc ls (.ref t :: rest)) := by
  subst hv
  obtain ⟨cell, h1, h2, h3, h4, h5, h6, h7⟩ := hT
  exact W.alen (n := Int32.ofNat N) hexec hb h1 h2 h5 rfl rfl hdg kk
end CST
