/-! constructors -/
theorem mgA {n : Nat} {is : List Nat} {w1 ws2 : va_W} {e' : Nat × va_E} (j : Nat) (h1 : is[j]? = some n) (h2 : w1[j]? = some e') (t : Mg (n + 1) is [] w1 ws2) : Mg n is [] w1 (e' :: ws2) := fun k q hq => by
  cases k with
  | zero =>
    have hq : some e' = some q := hq
    exact Or.inl ⟨j, h1, by rw [h2]; exact hq⟩
  | succ k =>
    rcases t k q (by simpa using hq) with ⟨j, a, b⟩ | ⟨a, b⟩
    · exact Or.inl ⟨j, by rw [a]; congr 1; omega, b⟩
    · simp at b
theorem x_mg_join2 {A0 : Nat → Prop} {D : va_G} {cl : List vw_C} {ws wc w1 ws2 : va_W} {H H1 : Heap} (hP : va_P D cl ws H) (hD : va_D A0 ws) (is is2 : List Nat) (hC : is.map (fun i => ws[i]?) = wc.map some) (hsub : ∀ i ∈ is, i ∈ is2) (hm : Mg 0 is2 ws w1 ws2)
    (hk : ∀ q : Nat, q < H.size → ¬ va_A wc H.size q → H1[q]? = H[q]?) (hF : ∀ q, va_A wc H.size q → A0 q) (hP1 : va_P D cl w1 H1) (hD1 : va_D (va_A wc H.size) w1) : va_P D cl ws2 H1 ∧ va_D A0 ws2 := by
  have at' : ∀ (k : Nat) (q : Nat × va_E), wc[k]? = some q → ∃ i, is[k]? = some i ∧ ws[i]? = some q := by
    intro k q hq
    have h1 : (is.map (fun i => ws[i]?))[k]? = some (some q) := by rw [hC, List.getElem?_map, hq]; rfl
    rw [List.getElem?_map] at h1
    cases hi : is[k]? with
    | none => rw [hi] at h1; cases h1
    | some i => rw [hi] at h1; exact ⟨i, rfl, Option.some.inj h1⟩
  have hm' : ∀ (k : Nat) (q : Nat × va_E), ws2[k]? = some q → (∃ j : Nat, is2[j]? = some k ∧ w1[j]? = some q) ∨ (k ∉ is2 ∧ ws[k]? = some q) := by
    intro k q hq
    have h := hm k q hq
    rw [Nat.zero_add] at h
    exact h
  have apart : ∀ (k : Nat) (q : Nat × va_E), k ∉ is2 → ws[k]? = some q → q.1 < H.size ∧ ¬ va_A wc H.size q.1 := by
    intro k q hn hq
    have hl := (hP k q hq).lt
    refine ⟨hl, fun h => ?_⟩
    rcases h with ⟨k2, e, h⟩ | h
    · obtain ⟨j, h3, h4⟩ := at' k2 (q.1, e) h
      have hij := hD.1 k j q (q.1, e) hq h4 rfl
      subst hij
      exact hn (hsub _ (List.mem_of_getElem? h3))
    · omega
  refine ⟨fun k q hq => ?_, fun i j x y hi hj hxy => ?_, fun k q hq => ?_⟩
  · rcases hm' k q hq with ⟨j, -, h2⟩ | ⟨h1, h2⟩
    · exact hP1 j q h2
    · obtain ⟨g1, g2⟩ := apart k q h1 h2
      exact (hP k q h2).kept (hk q.1 g1 g2)
  · rcases hm' i x hi with ⟨a, a1, a2⟩ | ⟨a1, a2⟩ <;> rcases hm' j y hj with ⟨b, b1, b2⟩ | ⟨b1, b2⟩
    · have hab := hD1.1 a b x y a2 b2 hxy
      subst hab
      exact Option.some.inj (a1.symm.trans b1)
    · exact absurd (by rw [← hxy]; exact hD1.2 a x a2) (apart j y b1 b2).2
    · exact absurd (by rw [hxy]; exact hD1.2 b y b2) (apart i x a1 a2).2
    · exact hD.1 i j x y a2 b2 hxy
  · rcases hm' k q hq with ⟨j, -, h2⟩ | ⟨h1, h2⟩
    · exact hF _ (hD1.2 j q h2)
    · exact hD.2 k q h2
section CLI
variable {p : Program} {l : Launch} {e : Env} {R : Room} {s : State} {m : MethodId} {args : Array Value} {below : List Frame} {meth : Method} {c : Code} {H H0 : Heap} {locs : List Loc} {cells slots : Nat} {Q : State → Prop}
variable {cc : ByteArray} {pc : Nat} {ls : Array Slot} {rest st0 : List Value} {G : GG} {nL index : Nat} {own : String} {Ts : List Cond} {A : Nat → Prop}
theorem ri_run {α : Type} {ws wc : va_W} {w1 ws2 : α → va_W} {mc ms : Nat} (hr : va_Run p l e R s m args below meth c H locs cells slots mc ms (F0 m pc ls st0) rest (fun st oc t => oc = .returned none ∧ (∃ q : α, va_P G.1 classes (w1 q) t.heap ∧ va_D (va_A wc H.size) (w1 q)) ∧ va_F (va_A wc H.size) st t) (va_A wc H.size))
    (hP : va_P G.1 classes ws H) (hD : va_D A ws) (hS : va_S A H0 H locs) (hA : ∀ q, H0.size ≤ q → A q) (is is2 : List Nat) (hC : is.map (fun i => ws[i]?) = wc.map some) (hsub : ∀ i ∈ is, i ∈ is2) (hm : ∀ q, Mg 0 is2 ws (w1 q) (ws2 q))
    (kk : ∀ (q : α) (H1 : Heap) (lo1 : List Loc), va_P G.1 classes (ws2 q) H1 → va_D A (ws2 q) → va_S A H0 H1 lo1 → W p l e R s m args below meth c H1 lo1 (cells + mc) (slots + ms) Q (F0 m (pc + 3) ls rest)) : W p l e R s m args below meth c H locs cells slots Q (F0 m pc ls st0) := by
  have hF := va_free (wc := wc) hD hS hA is hC
  intro T hT X
  obtain ⟨v, st₀, t, T', L, h0, X', hL, e1, e2, ⟨hv, ⟨q, hP1, hD1⟩, hz, hk⟩, st⟩ := hr T hT X
  cases hv
  rw [h0] at hz hk
  obtain ⟨j1, j2⟩ := x_mg_join2 hP hD is is2 hC hsub (hm q) hk hF hP1 hD1
  obtain ⟨t2, a1, b1⟩ := kk q T'.heap (locs ++ L) (by rw [e1]; exact j1) j2
    ⟨Nat.le_trans hS.1 (by rw [e1]; exact hz), fun q h1 h2 => by rw [e1, hk q (Nat.lt_of_lt_of_le h1 hS.1) (fun z => h2 (hF q z))]; exact hS.2.1 q h1 h2, fun q hq => by
      rcases List.mem_append.mp hq with h | h
      · exact hS.2.2 q h
      · exact hF _ (hL q h)⟩ T' rfl X'
  exact ⟨t2, st t2 a1, b1⟩
theorem riI {α : Type} {lev2 : Nat} (X : Cx p s m args c cc nL own Ts) (hK : KK G s H) (hR : RR R lev2) {y : MethodName} {cc' : ByteArray} {n' lev np b mc ms : Nat} {As : List Value} {ws wc : va_W} {w1 ws2 : α → va_W} (hM : RX l G y cc' n' none lev (.ref b :: As) wc none w1 mc ms) (hC : CalI y cc' n' np) (hl : Cond.methodLink own index y ∈ T0) (hP : va_P G.1 classes ws H) (hD : va_D A ws) (hS : va_S A H0 H locs) (hA : ∀ q, H0.size ≤ q → A q) (hAb : ∀ q, A q → bs G q) (is is2 : List Nat) (hn : va_nd is = true) (hCs : Sb ws wc is) (hsub : ∀ i ∈ is, i ∈ is2) (hm : ∀ q, Mg 0 is2 ws (w1 q) (ws2 q))
    (hlv : lev + 1 ≤ lev2) (hcs : cells + mc ≤ R.cells ∧ slots + ms ≤ R.slots) (hst : st0 = As.reverse ++ .ref b :: rest) (hnl : ls.size = nL) (hna : As.length = np) (hrm : (rest.map fun v => v.category).sum ≤ 8) (hdg : decode cc pc = .ok (.invokespecial index, 3))
    (kk : ∀ (q : α) (H1 : Heap) (lo1 : List Loc), va_P G.1 classes (ws2 q) H1 → va_D A (ws2 q) → va_S A H0 H1 lo1 → W p l e R s m args below meth c H1 lo1 (cells + mc) (slots + ms) Q (F0 m (pc + 3) ls rest)) : W p l e R s m args below meth c H locs cells slots Q (F0 m pc ls st0) := by
  obtain ⟨hx, hb, hml, hown, hts, hT⟩ := X
  obtain ⟨c1, c2, c3, c3b, c4, c5⟩ := hC
  have hPc := x_Psub hP is hCs
  have hDc := x_Dsub hD hAb is hn hCs
  refine ri_run (wc := wc) (va_runI (rest := rest) ⟨hx, hb, hml, hown, hts⟩ (hM H.size) ⟨callB_of np hts (wy_good hT c1) rfl rfl rfl (hts _ (hT _ c3)) (hts _ (hT _ hl)) c4 ⟨Nat.le_trans hlv hR.1, ?_⟩, c3b, hts _ (hT _ c2)⟩ ⟨rw_blind, fun U hU hW => ⟨rfl, by rw [hU], by rw [hU]; exact hPc, hK.warm hU hW, hDc⟩⟩ rfl hna hnl hst (lv_room hrm) hdg hcs) hP hD hS hA is is2 hCs hsub hm kk
  have h2 := hR.2
  show 8 + (n' + 11) + 40 * lev ≤ R.locals
  omega
theorem riN {α : Type} {lev2 : Nat} (X : Cx p s m args c cc nL own Ts) (hK : KK G s H) (hR : RR R lev2) {y : MethodName} {host : String} {cc' : ByteArray} {n' lev np b mc ms : Nat} {As : List Value} {ws wc : va_W} {w1 ws2 : α → va_W} (hM : RX l G y cc' n' none lev (.ref b :: As) wc none w1 mc ms) (hC : CalI y cc' n' np) (hl : va_Nw (.methodLinkNest own index y host) s) (hP : va_P G.1 classes ws H) (hD : va_D A ws) (hS : va_S A H0 H locs) (hA : ∀ q, H0.size ≤ q → A q) (hAb : ∀ q, A q → bs G q) (is is2 : List Nat) (hn : va_nd is = true) (hCs : Sb ws wc is) (hsub : ∀ i ∈ is, i ∈ is2) (hm : ∀ q, Mg 0 is2 ws (w1 q) (ws2 q))
    (hlv : lev + 1 ≤ lev2) (hcs : cells + mc ≤ R.cells ∧ slots + ms ≤ R.slots) (hst : st0 = As.reverse ++ .ref b :: rest) (hnl : ls.size = nL) (hna : As.length = np) (hrm : (rest.map fun v => v.category).sum ≤ 8) (hdg : decode cc pc = .ok (.invokespecial index, 3))
    (kk : ∀ (q : α) (H1 : Heap) (lo1 : List Loc), va_P G.1 classes (ws2 q) H1 → va_D A (ws2 q) → va_S A H0 H1 lo1 → W p l e R s m args below meth c H1 lo1 (cells + mc) (slots + ms) Q (F0 m (pc + 3) ls rest)) : W p l e R s m args below meth c H locs cells slots Q (F0 m pc ls st0) := by
  obtain ⟨hx, hb, hml, hown, hts, hT⟩ := X
  obtain ⟨c1, c2, c3, c3b, c4, c5⟩ := hC
  have hPc := x_Psub hP is hCs
  have hDc := x_Dsub hD hAb is hn hCs
  refine ri_run (wc := wc) (va_runIN (rest := rest) ⟨hx, hb, hml, hown, hts⟩ (hM H.size) ⟨va_cnB np hts (wy_good hT c1) rfl rfl rfl hl (hts _ (hT _ c3)) c4 ⟨Nat.le_trans hlv hR.1, ?_⟩, c3b, hts _ (hT _ c2)⟩ ⟨rw_blind, fun U hU hW => ⟨rfl, by rw [hU], by rw [hU]; exact hPc, hK.warm hU hW, hDc⟩⟩ rfl hna hnl hst (lv_room hrm) hdg hcs) hP hD hS hA is is2 hCs hsub hm kk
  have h2 := hR.2
  show 8 + (n' + 11) + 40 * lev ≤ R.locals
  omega
theorem newaI (hexec : p.tables.exec = Jvm.exec) (hb : c.code = cc) {ws : va_W} (harr : (Cond.arrayClass .int).before args s = true) (hK : va_K G.1 classes (tyG G) s) (hP : va_P G.1 classes ws H) (hD : va_D A ws) (hS : va_S A H0 H locs) (hA : ∀ q, H0.size ≤ q → A q)
    {n : Int32} {N : Nat} (hn : ¬ n < 0) (hN : n.toNatClampNeg = N) (hbytes : N ≤ 60000) (hcs : cells + 1 ≤ R.cells ∧ slots + N ≤ R.slots) (hdg : decode cc pc = .ok (.newarray .int, 2))
    (kk : ∀ (q : Nat) (H1 : Heap), va_P G.1 classes (ws ++ [(q, .inl (G.2.1, N, .inl (fun _ => 0)))]) H1 → va_D A (ws ++ [(q, .inl (G.2.1, N, .inl (fun _ => 0)))]) → va_S A H0 H1 locs →
      W p l e R s m args below meth c H1 locs (cells + 1) (slots + N) Q (F0 m (pc + 2) ls (.ref q :: rest))) : W p l e R s m args below meth c H locs cells slots Q (F0 m pc ls (.int n :: rest)) := by
  refine va_newa (atype := .int) (ty := .int) (a0 := (N, .inl (fun _ => 0))) hexec hb harr rfl hK hP hD hS hA (fun cA => rfl) hn hN (by show N * 4 ≤ 536870912; omega) hcs.1 hcs.2 hdg ?_
  intro q cA H1 hK1 hP1 hD1 hS1
  have e1 : s.vm.findClass ("[" ++ FieldType.int.toString) = some cA := (hK1.2 3 (cA, .int) rfl).2
  have e2 : s.vm.findClass ("[" ++ FieldType.int.toString) = some G.2.1 := (hK.2 0 (G.2.1, .int) rfl).2
  have e3 : cA = G.2.1 := Option.some.inj (e1.symm.trans e2)
  subst e3
  exact kk q H1 hP1 hD1 hS1
theorem newaZ (hexec : p.tables.exec = Jvm.exec) (hb : c.code = cc) {ws : va_W} (harr : (Cond.arrayClass .boolean).before args s = true) (hK : va_K G.1 classes (tyG G) s) (hP : va_P G.1 classes ws H) (hD : va_D A ws) (hS : va_S A H0 H locs) (hA : ∀ q, H0.size ≤ q → A q)
    {n : Int32} {N : Nat} (hn : ¬ n < 0) (hN : n.toNatClampNeg = N) (hbytes : N ≤ 60000) (hcs : cells + 1 ≤ R.cells ∧ slots + N ≤ R.slots) (hdg : decode cc pc = .ok (.newarray .boolean, 2))
    (kk : ∀ (q : Nat) (H1 : Heap), va_P G.1 classes (ws ++ [(q, .inl (G.2.2.2.1, N, .inl (fun _ => 0)))]) H1 → va_D A (ws ++ [(q, .inl (G.2.2.2.1, N, .inl (fun _ => 0)))]) → va_S A H0 H1 locs →
      W p l e R s m args below meth c H1 locs (cells + 1) (slots + N) Q (F0 m (pc + 2) ls (.ref q :: rest))) : W p l e R s m args below meth c H locs cells slots Q (F0 m pc ls (.int n :: rest)) := by
  refine va_newa (atype := .boolean) (ty := .boolean) (a0 := (N, .inl (fun _ => 0))) hexec hb harr rfl hK hP hD hS hA (fun cA => rfl) hn hN (by show N * 1 ≤ 536870912; omega) hcs.1 hcs.2 hdg ?_
  intro q cA H1 hK1 hP1 hD1 hS1
  have e1 : s.vm.findClass ("[" ++ FieldType.boolean.toString) = some cA := (hK1.2 3 (cA, .boolean) rfl).2
  have e2 : s.vm.findClass ("[" ++ FieldType.boolean.toString) = some G.2.2.2.1 := (hK.2 2 (G.2.2.2.1, .boolean) rfl).2
  have e3 : cA = G.2.2.2.1 := Option.some.inj (e1.symm.trans e2)
  subst e3
  exact kk q H1 hP1 hD1 hS1
theorem newaL (hexec : p.tables.exec = Jvm.exec) (hb : c.code = cc) {ws : va_W} (harr : (Cond.arrayClass .long).before args s = true) (hK : va_K G.1 classes (tyG G) s) (hP : va_P G.1 classes ws H) (hD : va_D A ws) (hS : va_S A H0 H locs) (hA : ∀ q, H0.size ≤ q → A q)
    {n : Int32} {N : Nat} (hn : ¬ n < 0) (hN : n.toNatClampNeg = N) (hbytes : N ≤ 57344) (hcs : cells + 1 ≤ R.cells ∧ slots + N ≤ R.slots) (hdg : decode cc pc = .ok (.newarray .long, 2))
    (kk : ∀ (q : Nat) (H1 : Heap), va_P G.1 classes (ws ++ [(q, .inl (G.2.2.1, N, .inr (.inl (fun _ => 0))))]) H1 → va_D A (ws ++ [(q, .inl (G.2.2.1, N, .inr (.inl (fun _ => 0))))]) → va_S A H0 H1 locs →
      W p l e R s m args below meth c H1 locs (cells + 1) (slots + N) Q (F0 m (pc + 2) ls (.ref q :: rest))) : W p l e R s m args below meth c H locs cells slots Q (F0 m pc ls (.int n :: rest)) := by
  subst hN
  exact newaJ hexec hb harr hK hP hD hS hA hn hbytes hcs hdg kk
end CLI
