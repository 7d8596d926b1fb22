/-! judge -/
def z_pc (n : Nat) : Nat := n / 2 ^ 0 % 2 + n / 2 ^ 1 % 2 + n / 2 ^ 2 % 2 + n / 2 ^ 3 % 2 + n / 2 ^ 4 % 2
theorem t_bitAll : ∀ n, n < 32 → f_bitCount (nI n) = some (nI (z_pc n)) := by decide +kernel
theorem m_bit1 {n a i k : Nat} (hn : n < 32) (hi : i < 5) : f_Mo_bits_L4 (nI n) (k + 1) (nI a) (nI i) = f_Mo_bits_L4 (nI n) k (nI (a + n / 2 ^ i % 2)) (nI (i + 1)) := by
  rw [f_Mo_bits_L4]
  refine e_F (by simp (disch := omega) only [q_lit, q_ofn, nI_add, q_mul, q_sub, q_shrm, q_shlm, q_a31s, q_a1, q_a3, q_a7, q_a65535, q_div, q_rem2, z_mm, nI_clamp, Nat.reduceMul, Nat.reduceAdd, Nat.reduceSub, Nat.reducePow, Nat.reduceMod, Nat.reduceDiv, Nat.one_mul, nI_ltI, nI_leI, nI_eq, q_b0, q_b1, q_m1lt, q_m1le, q_ltm1, q_lem1, q_eqm1, q_m1eq, not_true_eq_false, not_false_eq_true, reduceCtorEq, *] <;> first | omega | decide) (e_L (e_L ?_))
  rw [show (31 : Int32) = nI 31 from rfl, q_shr (by omega) (by omega), show (1 : Int32) = nI 1 from rfl, q_a1, nI_add, nI_add]
theorem m_bits {n k : Nat} (hn : n < 32) (hk : 6 ≤ k) : f_Mo_bits k (nI n) = some (nI (z_pc n)) := by
  obtain ⟨k, rfl⟩ : ∃ k', k = k' + 6 := ⟨k - 6, by omega⟩
  unfold f_Mo_bits
  refine e_B (q := nI (z_pc n)) ?_ rfl
  rw [show (0 : Int32) = nI 0 from rfl, m_bit1 hn (by decide), m_bit1 hn (by decide), m_bit1 hn (by decide), m_bit1 hn (by decide), m_bit1 hn (by decide), f_Mo_bits_L4]
  refine e_T (by decide) ?_
  unfold z_pc
  rw [Nat.zero_add]
def z_jg (P M : Nat) (sp : Nat → Nat → Nat) (D : Nat → Nat) : Nat → Nat → Nat → Nat × Option Nat
  | 0, _, x => (x, none)
  | r + 1, i, x => if z_can P M sp x (D i) = true then z_jg P M sp D r (i + 1) (z_beh M sp x (D i)).1 else (x, some i)
theorem z_jg_V {P M : Nat} {sp : Nat → Nat → Nat} {D : Nat → Nat} (ok : z_ok P M sp) : ∀ r i x, z_V P M x → (∀ j, i ≤ j → j < i + r → D j < 22) → z_V P M (z_jg P M sp D r i x).1 ∧ ∀ j, (z_jg P M sp D r i x).2 = some j → j < i + r := by
  intro r
  induction r with
  | zero => intro i x hx hD; exact ⟨hx, fun j h => by cases h⟩
  | succ r ih =>
    intro i x hx hD
    unfold z_jg
    by_cases hc : z_can P M sp x (D i) = true
    · rw [if_pos hc]
      have := ih (i + 1) _ (z_beh_V ok hx (hD i (by omega) (by omega)) hc).1 (fun j h1 h2 => hD j (by omega) (by omega))
      exact ⟨this.1, fun j h => by have := this.2 j h; omega⟩
    · rw [if_neg hc]
      exact ⟨hx, fun j h => by cases h; omega⟩
theorem p_judge {ns k : Nat} {ci : Nat → Int32} {cf : Nat → Nat → Int32} {cl : Nat → Nat → Int64} {cn : Nat → Nat} {mi : Nat → Int32} {mf : Nat → Nat → Int32} (hk : 200000 ≤ k) (h : z_inv ns ci cf cl cn mi mf) (p1 : Int32) : wp (f_SS_judge k 12 (ci 16) (ci 17) (ci 19) (ci 20) (cf 11) (cf 12) (cf 13) (cf 15) (cf 18) (cf 19) (cf 20) (cf 21) (cf 22) (cf 23) p1) (fun q => wp (f_Mo_judge k (mi 5) (mi 6) (mi 7) (mi 9) (mi 16) (mf 10) (mf 11) p1) (fun q' => q = q'.1 ∧ z_inv (ns + 1) ci cf cl cn (z_u mi 5 q'.2) mf)) := by
  have h0 := h
  obtain ⟨c, n, S, x, d, hT, ok, hdr, hml, hRU, hN, hU, hK, hR, hQ, hY, hF, hW, hl1, hl2, hb⟩ := h
  have hPe : (ci 24) = nI S.1 := hdr.2.2.1; have hSp : (ci 25) = nI S.2.1 := hdr.2.2.2.1; have hmM : (mi 6) = nI S.2.1 := hml.1; have hmP : (mi 9) = nI S.1 := hml.2.1; have hP1 := ok.1.1; have hP3 := ok.1.2.1; have hM5 := ok.1.2.2.1
  obtain ⟨n1, n2, n3, n4, n5, n6⟩ := hN
  obtain ⟨wn, r1, r2, r3, r4⟩ := hR
  have hr2 : (ci 19) = nI S.2.1 := hRU.2.1
  have hr3 : (ci 17) = nI (z_ds S.1).length := hRU.2.2.2.2.1
  rw [hmP, hmM, n3, n5, hr2, hr3, r2, r3]
  have hl19 := (z_ds_len hP1 hP3).2
  obtain ⟨dI, D, rr⟩ : ∃ (dI D : Nat → Nat), ∀ i, i < wn → dI i < (z_ds S.1).length ∧ z_dd S.1 (dI i) = D i ∧ D i < 22 ∧ (cf 11) i = nI (dI i) ∧ (mf 10) i = nI (D i) := by
    refine ⟨fun i => ((cf 11) i).toNatClampNeg, fun i => ((mf 10) i).toNatClampNeg, fun i hi => ?_⟩
    obtain ⟨a, b, g1, g2, g3⟩ := r4 i hi
    have hlen : a < (z_ds S.1).length := (List.getElem?_eq_some_iff.mp g1).1
    have hdd : z_dd S.1 a = b := Option.some.inj ((z_dd_at hlen).symm.trans g1)
    have hb := (z_dd_mem hlen).1
    rw [hdd] at hb
    dsimp only
    rw [g2, g3, nI_clamp (by omega), nI_clamp (by omega)]
    exact ⟨hlen, hdd, hb, rfl, rfl⟩
  have hA := hRU.2.2.1
  have hB := z_RB_of ok.1 hRU.2.2.2.2
  have hrep := hml.2.2.2.2
  have cl1 : ∀ (x1 : Int32) r i k y, i + r = wn → r + 10 < k → z_V S.1 S.2.1 y → f_SS_judge_L22 12 (nI wn) (nI (z_ds S.1).length) (nI S.2.1) (nI x) (cf 11) (cf 12) (cf 13) (cf 15) (cf 18) (cf 19) (cf 20) (cf 21) (cf 22) (cf 23) x1 k (nI y) (-1) (nI i) = some (nI (z_jg S.1 S.2.1 S.2.2.2.2 D r i y).1, z_oI (z_jg S.1 S.2.1 S.2.2.2.2 D r i y).2) := by
    intro x1 r
    induction r with
    | zero =>
      intro i k y hi hk' hy
      obtain ⟨k, rfl⟩ : ∃ k', k = k' + 1 := ⟨k - 1, by omega⟩
      rw [f_SS_judge_L22]
      unfold z_jg f_Rw_size
      by_cases h12 : 12 ≤ i
      · exact e_T (by simp (disch := omega) only [q_lit, q_ofn, nI_add, q_mul, q_sub, q_shrm, q_shlm, q_a31s, q_a1, q_a3, q_a7, q_a65535, q_div, q_rem2, z_mm, nI_clamp, Nat.reduceMul, Nat.reduceAdd, Nat.reduceSub, Nat.reducePow, Nat.reduceMod, Nat.reduceDiv, Nat.one_mul, nI_ltI, nI_leI, nI_eq, q_b0, q_b1, q_m1lt, q_m1le, q_ltm1, q_lem1, q_eqm1, q_m1eq, not_true_eq_false, not_false_eq_true, reduceCtorEq, *] <;> first | omega | decide) rfl
      · exact e_F (by simp (disch := omega) only [q_lit, q_ofn, nI_add, q_mul, q_sub, q_shrm, q_shlm, q_a31s, q_a1, q_a3, q_a7, q_a65535, q_div, q_rem2, z_mm, nI_clamp, Nat.reduceMul, Nat.reduceAdd, Nat.reduceSub, Nat.reducePow, Nat.reduceMod, Nat.reduceDiv, Nat.one_mul, nI_ltI, nI_leI, nI_eq, q_b0, q_b1, q_m1lt, q_m1le, q_ltm1, q_lem1, q_eqm1, q_m1eq, not_true_eq_false, not_false_eq_true, reduceCtorEq, *] <;> first | omega | decide) (e_B rfl (e_T (by simp (disch := omega) only [q_lit, q_ofn, nI_add, q_mul, q_sub, q_shrm, q_shlm, q_a31s, q_a1, q_a3, q_a7, q_a65535, q_div, q_rem2, z_mm, nI_clamp, Nat.reduceMul, Nat.reduceAdd, Nat.reduceSub, Nat.reducePow, Nat.reduceMod, Nat.reduceDiv, Nat.one_mul, nI_ltI, nI_leI, nI_eq, q_b0, q_b1, q_m1lt, q_m1le, q_ltm1, q_lem1, q_eqm1, q_m1eq, not_true_eq_false, not_false_eq_true, reduceCtorEq, *] <;> first | omega | decide) rfl))
    | succ r ih =>
      intro i k y hi hk' hy
      obtain ⟨k, rfl⟩ : ∃ k', k = k' + 1 := ⟨k - 1, by omega⟩
      obtain ⟨g1, g2, g3, g4, g5⟩ := rr i (by omega)
      have ea := s_after ok.1 hA hB (k := k) (by omega) hy g1
      rw [g2] at ea
      rw [f_SS_judge_L22]
      unfold f_Rw_size
      refine e_F (by simp (disch := omega) only [q_lit, q_ofn, nI_add, q_mul, q_sub, q_shrm, q_shlm, q_a31s, q_a1, q_a3, q_a7, q_a65535, q_div, q_rem2, z_mm, nI_clamp, Nat.reduceMul, Nat.reduceAdd, Nat.reduceSub, Nat.reducePow, Nat.reduceMod, Nat.reduceDiv, Nat.one_mul, nI_ltI, nI_leI, nI_eq, q_b0, q_b1, q_m1lt, q_m1le, q_ltm1, q_lem1, q_eqm1, q_m1eq, not_true_eq_false, not_false_eq_true, reduceCtorEq, *] <;> first | omega | decide) (e_B rfl (e_F (by simp (disch := omega) only [q_lit, q_ofn, nI_add, q_mul, q_sub, q_shrm, q_shlm, q_a31s, q_a1, q_a3, q_a7, q_a65535, q_div, q_rem2, z_mm, nI_clamp, Nat.reduceMul, Nat.reduceAdd, Nat.reduceSub, Nat.reducePow, Nat.reduceMod, Nat.reduceDiv, Nat.one_mul, nI_ltI, nI_leI, nI_eq, q_b0, q_b1, q_m1lt, q_m1le, q_ltm1, q_lem1, q_eqm1, q_m1eq, not_true_eq_false, not_false_eq_true, reduceCtorEq, *] <;> first | omega | decide) (e_T rfl ?_)))
      refine e_B (t_at (by omega) (by omega) (by decide)) ?_
      rw [g4]
      refine e_B ea ?_
      unfold z_jg
      by_cases hc : z_can S.1 S.2.1 S.2.2.2.2 y (D i) = true
      · rw [if_pos hc, if_pos hc]
        have hV := z_beh_V ok.1 hy g3 hc
        have := hV.2
        have := hV.1.1
        refine e_F ((q_eqm1 (by omega)).mp) ?_
        refine e_B (s_of (by omega)) ?_
        unfold f_SS_judge_J83
        refine e_L ?_
        rw [show nI i + 1 = nI (i + 1) by simp only [q_lit, nI_add]]
        exact ih (i + 1) k _ (by omega) (by omega) hV.1
      · rw [if_neg hc, if_neg hc]
        refine e_T rfl ?_
        unfold f_SS_judge_J83
        refine e_L ?_
        rw [show nI i + 1 = nI (i + 1) by simp only [q_lit, nI_add]]
        obtain ⟨k, rfl⟩ : ∃ k', k = k' + 1 := ⟨k - 1, by omega⟩
        rw [f_SS_judge_L22]
        unfold f_Rw_size
        by_cases h12 : 12 ≤ i + 1
        · exact e_T (by simp (disch := omega) only [q_lit, q_ofn, nI_add, q_mul, q_sub, q_shrm, q_shlm, q_a31s, q_a1, q_a3, q_a7, q_a65535, q_div, q_rem2, z_mm, nI_clamp, Nat.reduceMul, Nat.reduceAdd, Nat.reduceSub, Nat.reducePow, Nat.reduceMod, Nat.reduceDiv, Nat.one_mul, nI_ltI, nI_leI, nI_eq, q_b0, q_b1, q_m1lt, q_m1le, q_ltm1, q_lem1, q_eqm1, q_m1eq, not_true_eq_false, not_false_eq_true, reduceCtorEq, *] <;> first | omega | decide) rfl
        · refine e_F (by simp (disch := omega) only [q_lit, q_ofn, nI_add, q_mul, q_sub, q_shrm, q_shlm, q_a31s, q_a1, q_a3, q_a7, q_a65535, q_div, q_rem2, z_mm, nI_clamp, Nat.reduceMul, Nat.reduceAdd, Nat.reduceSub, Nat.reducePow, Nat.reduceMod, Nat.reduceDiv, Nat.one_mul, nI_ltI, nI_leI, nI_eq, q_b0, q_b1, q_m1lt, q_m1le, q_ltm1, q_lem1, q_eqm1, q_m1eq, not_true_eq_false, not_false_eq_true, reduceCtorEq, *] <;> first | omega | decide) (e_B rfl ?_)
          by_cases hw : wn ≤ i + 1
          · exact e_T (by simp (disch := omega) only [q_lit, q_ofn, nI_add, q_mul, q_sub, q_shrm, q_shlm, q_a31s, q_a1, q_a3, q_a7, q_a65535, q_div, q_rem2, z_mm, nI_clamp, Nat.reduceMul, Nat.reduceAdd, Nat.reduceSub, Nat.reducePow, Nat.reduceMod, Nat.reduceDiv, Nat.one_mul, nI_ltI, nI_leI, nI_eq, q_b0, q_b1, q_m1lt, q_m1le, q_ltm1, q_lem1, q_eqm1, q_m1eq, not_true_eq_false, not_false_eq_true, reduceCtorEq, *] <;> first | omega | decide) rfl
          · exact e_F (by simp (disch := omega) only [q_lit, q_ofn, nI_add, q_mul, q_sub, q_shrm, q_shlm, q_a31s, q_a1, q_a3, q_a7, q_a65535, q_div, q_rem2, z_mm, nI_clamp, Nat.reduceMul, Nat.reduceAdd, Nat.reduceSub, Nat.reducePow, Nat.reduceMod, Nat.reduceDiv, Nat.one_mul, nI_ltI, nI_leI, nI_eq, q_b0, q_b1, q_m1lt, q_m1le, q_ltm1, q_lem1, q_eqm1, q_m1eq, not_true_eq_false, not_false_eq_true, reduceCtorEq, *] <;> first | omega | decide) (e_F ((q_eqm1 (by omega)).mp) rfl)
  have ml1 : ∀ (x1 : Int32) r i k y (lf : Int32), i + r = wn → r + 20 < k → z_V S.1 S.2.1 y → wp (f_Mo_judge_L20 (nI S.2.1) (nI x) (nI S.1) (nI wn) (mf 10) (mf 11) x1 k (nI y) (nI i) lf) (fun q => q.1 = nI (z_jg S.1 S.2.1 S.2.2.2.2 D r i y).1 ∧ q.2.1 = nI ((z_jg S.1 S.2.1 S.2.2.2.2 D r i y).2.getD wn)) := by
    intro x1 r
    induction r with
    | zero =>
      intro i k y lf hi hk' hy
      obtain ⟨k, rfl⟩ : ∃ k', k = k' + 1 := ⟨k - 1, by omega⟩
      have : i = wn := by omega
      subst this
      rw [f_Mo_judge_L20]
      exact w_T (by simp (disch := omega) only [q_lit, q_ofn, nI_add, q_mul, q_sub, q_shrm, q_shlm, q_a31s, q_a1, q_a3, q_a7, q_a65535, q_div, q_rem2, z_mm, nI_clamp, Nat.reduceMul, Nat.reduceAdd, Nat.reduceSub, Nat.reducePow, Nat.reduceMod, Nat.reduceDiv, Nat.one_mul, nI_ltI, nI_leI, nI_eq, q_b0, q_b1, q_m1lt, q_m1le, q_ltm1, q_lem1, q_eqm1, q_m1eq, not_true_eq_false, not_false_eq_true, reduceCtorEq, *] <;> first | omega | decide) (w_some ⟨rfl, rfl⟩)
    | succ r ih =>
      intro i k y lf hi hk' hy
      obtain ⟨k, rfl⟩ : ∃ k', k = k' + 1 := ⟨k - 1, by omega⟩
      obtain ⟨g1, g2, g3, g4, g5⟩ := rr i (by omega)
      have hy1 := hy.1
      have em := m_can ok.1 hrep (k := k) (x := y) (D := D i) (by omega) (by omega) g3
      rw [f_Mo_judge_L20]
      refine w_F (by simp (disch := omega) only [q_lit, q_ofn, nI_add, q_mul, q_sub, q_shrm, q_shlm, q_a31s, q_a1, q_a3, q_a7, q_a65535, q_div, q_rem2, z_mm, nI_clamp, Nat.reduceMul, Nat.reduceAdd, Nat.reduceSub, Nat.reducePow, Nat.reduceMod, Nat.reduceDiv, Nat.one_mul, nI_ltI, nI_leI, nI_eq, q_b0, q_b1, q_m1lt, q_m1le, q_ltm1, q_lem1, q_eqm1, q_m1eq, not_true_eq_false, not_false_eq_true, reduceCtorEq, *] <;> first | omega | decide) ?_
      refine w_I (i := i) rfl (by omega) (by decide) ?_
      rw [g5]
      refine w_Be em ?_
      unfold z_jg
      by_cases hc : z_can S.1 S.2.1 S.2.2.2.2 y (D i) = true
      · rw [if_pos hc, hc]
        refine w_F (by decide) ?_
        refine w_I (i := i) rfl (by omega) (by decide) ?_
        rw [g5]
        refine w_Be (m_behind ok.1 hrep (k := k) (by omega) hy1 g3 (z_can_ask g3 hc) lf) ?_
        refine w_Ln (w := nI (i + 1)) (by simp only [q_lit, nI_add]) ?_
        exact ih (i + 1) k _ _ (by omega) (by omega) (z_beh_V ok.1 hy g3 hc).1
      · rw [if_neg hc, Bool.eq_false_iff.mpr hc]
        exact w_T rfl (w_some ⟨rfl, rfl⟩)
  have hjV := z_jg_V (D := D) ok.1 wn 0 x n1 (fun j _ hj => (rr j (by omega)).2.2.1)
  have inv' : ∀ v : Int32, z_inv (ns + 1) ci cf cl cn (z_u mi 5 v) mf := fun v => ⟨c, n, S, x, d, hT, ok, hdr, hml, hRU, ⟨n1, n2, n3, n4, n5, n6⟩, hU, hK, ⟨wn, r1, r2, r3, r4⟩, hQ, hY, hF, hW, hl1, hl2, i_bud_s hb⟩
  rcases z_smal (p := p1) 2 (by decide) with hneg | ⟨v, hv, rfl⟩ | ⟨v, hv, hv', rfl⟩
  · refine w_2 (r1 := -3) (r2 := (-3, (mi 5))) ?_ ?_ ⟨rfl, inv' _⟩
    · unfold f_SS_judge
      exact e_T hneg rfl
    · unfold f_Mo_judge
      exact e_B (m_inneg hneg (a := 0) (by decide) (lN 1)) (e_T rfl rfl)
  · have hin := m_in0N (v := v) (b := 1) (by omega) (by decide)
    rw [decide_eq_true (by omega)] at hin
    generalize hj : z_jg S.1 S.2.1 S.2.2.2.2 D wn 0 x = J at hjV
    obtain ⟨y, o⟩ := J
    have hc1 := cl1 (nI v) wn 0 k x (by omega) (by omega) n1
    have hm1 := ml1 (nI v) wn 0 k x (mi 5) (by omega) (by omega) n1
    rw [hj] at hc1 hm1
    have hy32 : y % 32 < 32 := Nat.mod_lt _ (by decide)
    have hho : nI y &&& (31 : Int32) = nI (y % 32) := by
      rw [show (31 : Int32) = nI (2 ^ 5 - 1) from rfl, q_mod 5 (by decide)]
    have hsm : ∀ j, o = some j → j < wn := fun j hh => by have := hjV.2 j hh; omega
    refine w_2w (R1 := fun q => q = if v = 0 then z_oI o else nI (z_pc (y % 32))) (R2 := fun q => q.1 = if v = 0 then z_oI o else nI (z_pc (y % 32))) ?_ ?_ (fun q q' e1 e2 => ⟨by rw [e1, e2], inv' _⟩)
    · unfold f_SS_judge
      refine w_F (nI_pos (by omega)) (w_T (by simp (disch := omega) only [q_lit, q_ofn, nI_add, q_mul, q_sub, q_shrm, q_shlm, q_a31s, q_a1, q_a3, q_a7, q_a65535, q_div, q_rem2, z_mm, nI_clamp, Nat.reduceMul, Nat.reduceAdd, Nat.reduceSub, Nat.reducePow, Nat.reduceMod, Nat.reduceDiv, Nat.one_mul, nI_ltI, nI_leI, nI_eq, q_b0, q_b1, q_m1lt, q_m1le, q_ltm1, q_lem1, q_eqm1, q_m1eq, not_true_eq_false, not_false_eq_true, reduceCtorEq, *] <;> first | omega | decide) ?_)
      refine w_Be hc1 ?_
      unfold f_SS_judge_J89 f_St_holding
      by_cases hv0 : v = 0
      · subst hv0
        exact w_T rfl (w_some rfl)
      · refine w_F (nI_ne0 (by omega) (by omega)) ?_
        dsimp only
        rw [if_neg hv0]
        refine w_Be rfl ?_
        rw [hho]
        exact w_Be (t_bitAll _ hy32) (w_some rfl)
    · unfold f_Mo_judge
      refine w_Be hin (w_F (by decide) ?_)
      refine w_Bw hm1 ?_
      rintro ⟨q1, q2, q3⟩ ⟨g1, g2⟩
      have g1 : q1 = nI y := g1
      have g2 : q2 = nI (o.getD wn) := g2
      subst g1 g2
      unfold f_Mo_judge_J60 f_Mo_holdsOf
      by_cases hv0 : v = 0
      · subst hv0
        refine w_F (by decide) ?_
        cases o with
        | none => exact w_T rfl (w_some rfl)
        | some j =>
          have := hsm j rfl
          refine w_F ?_ (w_some rfl)
          show ¬ nI j = nI wn
          simp (disch := omega) only [q_lit, q_ofn, nI_add, q_mul, q_sub, q_shrm, q_shlm, q_a31s, q_a1, q_a3, q_a7, q_a65535, q_div, q_rem2, z_mm, nI_clamp, Nat.reduceMul, Nat.reduceAdd, Nat.reduceSub, Nat.reducePow, Nat.reduceMod, Nat.reduceDiv, Nat.one_mul, nI_ltI, nI_leI, nI_eq, q_b0, q_b1, q_m1lt, q_m1le, q_ltm1, q_lem1, q_eqm1, q_m1eq, not_true_eq_false, not_false_eq_true, reduceCtorEq, *] <;> first | omega | decide
      · have : v = 1 := by omega
        subst this
        refine w_T rfl (w_Be rfl ?_)
        rw [hho]
        exact w_Be (m_bits hy32 (by omega)) (w_some rfl)
  · have hin := m_in0N (v := v) (b := 1) (by omega) (by decide)
    rw [decide_eq_false (by omega)] at hin
    refine w_2 (r1 := -3) (r2 := (-3, (mi 5))) ?_ ?_ ⟨rfl, inv' _⟩
    · unfold f_SS_judge
      exact e_F (nI_pos (by omega)) (e_F (by simp (disch := omega) only [q_lit, q_ofn, nI_add, q_mul, q_sub, q_shrm, q_shlm, q_a31s, q_a1, q_a3, q_a7, q_a65535, q_div, q_rem2, z_mm, nI_clamp, Nat.reduceMul, Nat.reduceAdd, Nat.reduceSub, Nat.reducePow, Nat.reduceMod, Nat.reduceDiv, Nat.one_mul, nI_ltI, nI_leI, nI_eq, q_b0, q_b1, q_m1lt, q_m1le, q_ltm1, q_lem1, q_eqm1, q_m1eq, not_true_eq_false, not_false_eq_true, reduceCtorEq, *] <;> first | omega | decide) rfl)
    · unfold f_Mo_judge
      exact e_B hin (e_T rfl rfl)
