/-! term, prince -/
theorem t_isSo {P M s i x : Nat} {sp : Nat → Nat → Nat} (ok : z_ok P M sp) (hs : s < M) (hi : i < sp s 2) (hx : x < 57344) : f_Tm_isSo (nI (sp s (3 + 2 * i))) (nI (sp s (4 + 2 * i))) (nI x) = some (nI (z_so sp x s i 21).toNat) := by
  obtain ⟨o1, o2, o3, o4, o5, o6, o7⟩ := ok.2.2.2 s hs
  have hT := o6 i hi
  have hP := ok.2.1
  have hM := ok.2.2.1
  have hsv := hT.1
  have hv : sp s (4 + 2 * i) ≤ 7 := by
    obtain ⟨t1, t2, t3, t4, t5, t6⟩ := hT
    by_cases k1 : sp s (3 + 2 * i) ≤ 1
    · have := t2 k1; omega
    · by_cases k2 : sp s (3 + 2 * i) = 2
      · have := t3 k2; omega
      · by_cases k3 : sp s (3 + 2 * i) = 3 ∨ sp s (3 + 2 * i) = 4
        · have := t4 k3; omega
        · by_cases k4 : sp s (3 + 2 * i) = 5 ∨ sp s (3 + 2 * i) = 6
          · have := t5 k4; omega
          · have := t6 (by omega); omega
  unfold f_Tm_isSo
  by_cases h0 : sp s (3 + 2 * i) = 0
  · have hv0 := hT.2.1 (by omega)
    have : z_so sp x s i 21 = false := by
      unfold z_so
      rw [if_pos h0]
      by_cases hk : sp s 0 = 3
      · rw [if_pos hk]
      · rw [if_neg hk]
        have := o3 hk
        exact decide_eq_false (by omega)
    rw [this, h0]
    exact e_T rfl rfl
  by_cases h7 : sp s (3 + 2 * i) = 7
  · have : z_so sp x s i 21 = decide (sp s (4 + 2 * i) ≤ x / 1024 % 8) := by
      unfold z_so
      rw [h7]
      rfl
    rw [this, h7]
    refine e_F (by decide) ?_
    refine e_T rfl ?_
    unfold f_St_asked
    refine e_B rfl ?_
    simp (disch := omega) only [q_lit, q_ofn, nI_add, q_mul, q_sub, q_shrm, q_shlm, q_a31s, q_a1, q_a3, q_a7, q_a65535, q_div, q_rem2, z_mm, nI_clamp, Nat.reduceMul, Nat.reduceAdd, Nat.reduceSub, Nat.reducePow, Nat.reduceMod, Nat.reduceDiv, Nat.one_mul]
    refine e_X (nI_ltI (by omega) (by omega)) (fun hh => ?_) (fun hh => ?_)
    · rw [decide_eq_false (by omega)]; rfl
    · rw [decide_eq_true (by omega)]; rfl
  · refine e_F (nI_ne0 (by omega) (by omega)) ?_
    refine e_F (by simp (disch := omega) only [q_lit, q_ofn, nI_add, q_mul, q_sub, q_shrm, q_shlm, q_a31s, q_a1, q_a3, q_a7, q_a65535, q_div, q_rem2, z_mm, nI_clamp, Nat.reduceMul, Nat.reduceAdd, Nat.reduceSub, Nat.reducePow, Nat.reduceMod, Nat.reduceDiv, Nat.one_mul, nI_ltI, nI_leI, nI_eq, q_b0, q_b1, q_m1lt, q_m1le, q_ltm1, q_lem1, q_eqm1, q_m1eq, not_true_eq_false, not_false_eq_true, reduceCtorEq, *] <;> first | omega | decide) ?_
    refine e_B (t_mask hsv hv) ?_
    refine e_B (t_value hsv hv) ?_
    have hz := z_term (x := x) (so := sp s (3 + 2 * i)) (v := sp s (4 + 2 * i)) (by omega) (by omega) (by omega)
    have hm := z_mk_lt hP (by omega) hT
    have hmk : z_vl (sp s (3 + 2 * i)) (sp s (4 + 2 * i)) < 2 ^ 31 := by
      rw [← hm.2]
      exact Nat.lt_of_le_of_lt Nat.and_le_right (by omega)
    rw [q_and]
    have hso : z_so sp x s i 21 = (if sp s (3 + 2 * i) = 1 then x.testBit (7 + sp s (4 + 2 * i)) else if sp s (3 + 2 * i) = 2 then decide (x / 8192 = sp s (4 + 2 * i)) else if sp s (3 + 2 * i) = 3 then x.testBit (sp s (4 + 2 * i)) else if sp s (3 + 2 * i) = 4 then !x.testBit (sp s (4 + 2 * i)) else if sp s (3 + 2 * i) = 5 then x.testBit (5 + sp s (4 + 2 * i)) else !x.testBit (5 + sp s (4 + 2 * i))) := by
      unfold z_so
      rw [if_neg h0]
      by_cases h6 : sp s (3 + 2 * i) = 6
      · rw [h6]; rfl
      · by_cases h5 : sp s (3 + 2 * i) = 5
        · rw [h5]; rfl
        · have : sp s (3 + 2 * i) = 1 ∨ sp s (3 + 2 * i) = 2 ∨ sp s (3 + 2 * i) = 3 ∨ sp s (3 + 2 * i) = 4 := by omega
          rcases this with hh | hh | hh | hh <;> (rw [hh]; rfl)
    refine e_X (nI_eq (Nat.lt_of_le_of_lt Nat.and_le_left (by omega)) hmk) (fun hh => ?_) (fun hh => ?_)
    · rw [hso, hz.mp hh]; rfl
    · rw [hso, Bool.eq_false_iff.mpr (fun h => hh (hz.mpr h))]; rfl
theorem p_term {ns k : Nat} {ci : Nat → Int32} {cf : Nat → Nat → Int32} {cl : Nat → Nat → Int64} {cn : Nat → Nat} {mi : Nat → Int32} {mf : Nat → Nat → Int32} (hk : 200000 ≤ k) (h : z_inv ns ci cf cl cn mi mf) (p1 p2 p3 : Int32) : wp (f_SS_term (ci 20) (ci 25) (cf 27) (cf 28) (cf 30) p1 p2 p3) (fun q => wp (f_Mo_term (mi 6) (mi 7) (mf 11) p1 p2 p3) (fun q' => q = q' ∧ z_inv (ns + 1) ci cf cl cn mi mf)) := by
  have h0 := h
  obtain ⟨c, n, S, x, d, hT, ok, hdr, hml, hRU, hN, hU, hK, hR, hQ, hY, hF, hW, hl1, hl2, hb⟩ := h
  have hPe : (ci 24) = nI S.1 := hdr.2.2.1; have hSp : (ci 25) = nI S.2.1 := hdr.2.2.2.1; have hmM : (mi 6) = nI S.2.1 := hml.1; have hmP : (mi 9) = nI S.1 := hml.2.1; have hP1 := ok.1.1; have hP3 := ok.1.2.1; have hM5 := ok.1.2.2.1
  obtain ⟨n1, n2, n3, n4, n5, n6⟩ := hN
  have hx := n1.1
  rw [hSp, hmM, n3, n5]
  rcases z_smal (p := p1) S.2.1 (by omega) with hneg | ⟨s, hs, rfl⟩ | ⟨p, hp, hp', rfl⟩
  · refine w_2 (r1 := -2) (r2 := -2) ?_ ?_ ⟨rfl, z_inv_s h0⟩
    · unfold f_SS_term
      exact e_B (t_hasSpellN hneg) (e_T rfl rfl)
    · unfold f_Mo_term
      exact e_B (m_isSpellN hneg) (e_T rfl rfl)
  · have a1 := t_hasSpell (M := S.2.1) (s := s) hM5 (by omega)
    have b1 := m_isSpell (P := S.2.1) (n := s) (by omega) (by omega)
    rw [decide_eq_true hs] at a1 b1
    obtain ⟨r1, r2⟩ := hml.2.2.2.2 s hs
    obtain ⟨c1, c2, c3, c4, c5⟩ := hdr.2.2.2.2 s hs
    have oS := ok.1.2.2.2 s hs
    have o4 := oS.2.2.2.1
    have o5 := oS.2.2.2.2.1
    have c3 : (cf 30) s = nI (S.2.2.2.2 s 2) := c3
    have c5 : ∀ i, i < S.2.2.2.2 s 2 → (cf 28) (3 * s + i) = nI (S.2.2.2.2 s (3 + 2 * i)) ∧ (cf 27) (3 * s + i) = nI (S.2.2.2.2 s (4 + 2 * i)) := c5
    have r1 : ∀ j, j < 3 + 2 * S.2.2.2.2 s 2 → (mf 11) (10 * s + j) = nI (S.2.2.2.2 s j) := r1
    have r12 := r1 2 (by omega)
    have hm1 : (nI (S.2.2.2.2 s 2) - 1).toInt64 = lN (S.2.2.2.2 s 2 - 1) := by
      rw [show (1 : Int32) = nI 1 from rfl, q_sub (by omega)]
      exact nI_l (by omega)
    rcases z_smal (p := p2) (S.2.2.2.2 s 2) (by omega) with hneg | ⟨i, hi, rfl⟩ | ⟨q, hq, hq', rfl⟩
    · refine w_2 (r1 := -2) (r2 := -2) ?_ ?_ ⟨rfl, z_inv_s h0⟩
      · unfold f_SS_term
        exact e_B a1 (e_F (by decide) (e_T hneg rfl))
      · unfold f_Mo_term
        refine e_B b1 (e_F (by decide) (e_L ?_))
        refine e_I (i := 10 * s + 2) (by first | (with_reducible rfl) | (simp (disch := omega) only [q_lit, q_ofn, nI_add, q_mul, q_sub, q_shrm, q_shlm, q_a31s, q_a1, q_a3, q_a7, q_a65535, q_div, q_rem2, z_mm, nI_clamp, Nat.reduceMul, Nat.reduceAdd, Nat.reduceSub, Nat.reducePow, Nat.reduceMod, Nat.reduceDiv, Nat.one_mul]; done) | (simp (disch := omega) only [q_lit, q_ofn, nI_add, q_mul, q_sub, q_shrm, q_shlm, q_a31s, q_a1, q_a3, q_a7, q_a65535, q_div, q_rem2, z_mm, nI_clamp, Nat.reduceMul, Nat.reduceAdd, Nat.reduceSub, Nat.reducePow, Nat.reduceMod, Nat.reduceDiv, Nat.one_mul]; with_reducible rfl)) (by omega) (by decide) ?_
        exact e_B (m_inneg hneg (a := 0) (by decide) _) (e_T rfl rfl)
    · have b2 := m_in0N (v := i) (b := S.2.2.2.2 s 2 - 1) (by omega) (by omega)
      rw [decide_eq_true (by omega)] at b2
      obtain ⟨c6, c7⟩ := c5 i hi
      have esort := t_sortOf hM5 hs c3 o5 hi (cf 28)
      have enum := t_numberOf hM5 hs c3 o5 hi (cf 27)
      rw [c6] at esort
      rw [c7] at enum
      by_cases q0 : p3 = nI 0
      · subst q0
        refine w_2 (r1 := nI (S.2.2.2.2 s (3 + 2 * i))) (r2 := nI (S.2.2.2.2 s (3 + 2 * i))) ?_ ?_ ⟨rfl, z_inv_s h0⟩
        · unfold f_SS_term
          refine e_B a1 (e_F (by decide) (e_F (nI_pos (by omega)) (e_B (t_termsOf hM5 hs _) ?_)))
          rw [c3]
          refine e_T (by simp (disch := omega) only [q_lit, q_ofn, nI_add, q_mul, q_sub, q_shrm, q_shlm, q_a31s, q_a1, q_a3, q_a7, q_a65535, q_div, q_rem2, z_mm, nI_clamp, Nat.reduceMul, Nat.reduceAdd, Nat.reduceSub, Nat.reducePow, Nat.reduceMod, Nat.reduceDiv, Nat.one_mul, nI_ltI, nI_leI, nI_eq, q_b0, q_b1, q_m1lt, q_m1le, q_ltm1, q_lem1, q_eqm1, q_m1eq, not_true_eq_false, not_false_eq_true, reduceCtorEq, *] <;> first | omega | decide) ?_
          refine e_T rfl ?_
          exact e_B esort rfl
        · unfold f_Mo_term
          refine e_B b1 (e_F (by decide) (e_L ?_))
          refine e_I (i := 10 * s + 2) (by first | (with_reducible rfl) | (simp (disch := omega) only [q_lit, q_ofn, nI_add, q_mul, q_sub, q_shrm, q_shlm, q_a31s, q_a1, q_a3, q_a7, q_a65535, q_div, q_rem2, z_mm, nI_clamp, Nat.reduceMul, Nat.reduceAdd, Nat.reduceSub, Nat.reducePow, Nat.reduceMod, Nat.reduceDiv, Nat.one_mul]; done) | (simp (disch := omega) only [q_lit, q_ofn, nI_add, q_mul, q_sub, q_shrm, q_shlm, q_a31s, q_a1, q_a3, q_a7, q_a65535, q_div, q_rem2, z_mm, nI_clamp, Nat.reduceMul, Nat.reduceAdd, Nat.reduceSub, Nat.reducePow, Nat.reduceMod, Nat.reduceDiv, Nat.one_mul]; with_reducible rfl)) (by omega) (by decide) ?_
          rw [r12, hm1]
          refine e_B b2 (e_F (by decide) ?_)
          refine e_B (m_in0N (v := 0) (b := 1) (by decide) (by decide)) ?_
          refine e_F (by decide) (e_L ?_)
          refine e_I (i := 10 * s + (3 + 2 * i)) (by rw [show 10 * s + (3 + 2 * i) = 10 * s + 3 + 2 * i + 0 by omega]; first | (with_reducible rfl) | (simp (disch := omega) only [q_lit, q_ofn, nI_add, q_mul, q_sub, q_shrm, q_shlm, q_a31s, q_a1, q_a3, q_a7, q_a65535, q_div, q_rem2, z_mm, nI_clamp, Nat.reduceMul, Nat.reduceAdd, Nat.reduceSub, Nat.reducePow, Nat.reduceMod, Nat.reduceDiv, Nat.one_mul]; done) | (simp (disch := omega) only [q_lit, q_ofn, nI_add, q_mul, q_sub, q_shrm, q_shlm, q_a31s, q_a1, q_a3, q_a7, q_a65535, q_div, q_rem2, z_mm, nI_clamp, Nat.reduceMul, Nat.reduceAdd, Nat.reduceSub, Nat.reducePow, Nat.reduceMod, Nat.reduceDiv, Nat.one_mul]; with_reducible rfl)) (by omega) (by decide) ?_
          rw [r1 _ (by omega)]
      by_cases q1 : p3 = nI 1
      · subst q1
        refine w_2 (r1 := nI (S.2.2.2.2 s (4 + 2 * i))) (r2 := nI (S.2.2.2.2 s (4 + 2 * i))) ?_ ?_ ⟨rfl, z_inv_s h0⟩
        · unfold f_SS_term
          refine e_B a1 (e_F (by decide) (e_F (nI_pos (by omega)) (e_B (t_termsOf hM5 hs _) ?_)))
          rw [c3]
          refine e_T (by simp (disch := omega) only [q_lit, q_ofn, nI_add, q_mul, q_sub, q_shrm, q_shlm, q_a31s, q_a1, q_a3, q_a7, q_a65535, q_div, q_rem2, z_mm, nI_clamp, Nat.reduceMul, Nat.reduceAdd, Nat.reduceSub, Nat.reducePow, Nat.reduceMod, Nat.reduceDiv, Nat.one_mul, nI_ltI, nI_leI, nI_eq, q_b0, q_b1, q_m1lt, q_m1le, q_ltm1, q_lem1, q_eqm1, q_m1eq, not_true_eq_false, not_false_eq_true, reduceCtorEq, *] <;> first | omega | decide) ?_
          refine e_F (by decide) ?_
          refine e_T rfl ?_
          exact e_B enum rfl
        · unfold f_Mo_term
          refine e_B b1 (e_F (by decide) (e_L ?_))
          refine e_I (i := 10 * s + 2) (by first | (with_reducible rfl) | (simp (disch := omega) only [q_lit, q_ofn, nI_add, q_mul, q_sub, q_shrm, q_shlm, q_a31s, q_a1, q_a3, q_a7, q_a65535, q_div, q_rem2, z_mm, nI_clamp, Nat.reduceMul, Nat.reduceAdd, Nat.reduceSub, Nat.reducePow, Nat.reduceMod, Nat.reduceDiv, Nat.one_mul]; done) | (simp (disch := omega) only [q_lit, q_ofn, nI_add, q_mul, q_sub, q_shrm, q_shlm, q_a31s, q_a1, q_a3, q_a7, q_a65535, q_div, q_rem2, z_mm, nI_clamp, Nat.reduceMul, Nat.reduceAdd, Nat.reduceSub, Nat.reducePow, Nat.reduceMod, Nat.reduceDiv, Nat.one_mul]; with_reducible rfl)) (by omega) (by decide) ?_
          rw [r12, hm1]
          refine e_B b2 (e_F (by decide) ?_)
          refine e_B (m_in0N (v := 1) (b := 1) (by decide) (by decide)) ?_
          refine e_F (by decide) (e_L ?_)
          refine e_I (i := 10 * s + (4 + 2 * i)) (by rw [show 10 * s + (4 + 2 * i) = 10 * s + 3 + 2 * i + 1 by omega]; first | (with_reducible rfl) | (simp (disch := omega) only [q_lit, q_ofn, nI_add, q_mul, q_sub, q_shrm, q_shlm, q_a31s, q_a1, q_a3, q_a7, q_a65535, q_div, q_rem2, z_mm, nI_clamp, Nat.reduceMul, Nat.reduceAdd, Nat.reduceSub, Nat.reducePow, Nat.reduceMod, Nat.reduceDiv, Nat.one_mul]; done) | (simp (disch := omega) only [q_lit, q_ofn, nI_add, q_mul, q_sub, q_shrm, q_shlm, q_a31s, q_a1, q_a3, q_a7, q_a65535, q_div, q_rem2, z_mm, nI_clamp, Nat.reduceMul, Nat.reduceAdd, Nat.reduceSub, Nat.reducePow, Nat.reduceMod, Nat.reduceDiv, Nat.one_mul]; with_reducible rfl)) (by omega) (by decide) ?_
          rw [r1 _ (by omega)]
      by_cases q2 : p3 = nI 2
      · subst q2
        have eso := t_isSo (x := x) ok.1 hs hi hx
        have emo := m_so ok.1 hml.2.2.2.2 (x := x) (D := 21) hs hi (by omega) (by decide)
        refine w_2 (r1 := nI (z_so S.2.2.2.2 x s i 21).toNat) (r2 := nI (z_so S.2.2.2.2 x s i 21).toNat) ?_ ?_ ⟨rfl, z_inv_s h0⟩
        · unfold f_SS_term f_SS_isSoNow
          refine e_B a1 (e_F (by decide) (e_F (nI_pos (by omega)) (e_B (t_termsOf hM5 hs _) ?_)))
          rw [c3]
          refine e_T (by simp (disch := omega) only [q_lit, q_ofn, nI_add, q_mul, q_sub, q_shrm, q_shlm, q_a31s, q_a1, q_a3, q_a7, q_a65535, q_div, q_rem2, z_mm, nI_clamp, Nat.reduceMul, Nat.reduceAdd, Nat.reduceSub, Nat.reducePow, Nat.reduceMod, Nat.reduceDiv, Nat.one_mul, nI_ltI, nI_leI, nI_eq, q_b0, q_b1, q_m1lt, q_m1le, q_ltm1, q_lem1, q_eqm1, q_m1eq, not_true_eq_false, not_false_eq_true, reduceCtorEq, *] <;> first | omega | decide) ?_
          refine e_F (by decide) (e_F (by decide) (e_T rfl ?_))
          refine e_B (q := nI (z_so S.2.2.2.2 x s i 21).toNat) ?_ ?_
          · refine e_B esort (e_B enum (e_B eso ?_))
            cases z_so S.2.2.2.2 x s i 21 <;> rfl
          · exact e_B (t_oneIf _) rfl
        · unfold f_Mo_term
          refine e_B b1 (e_F (by decide) (e_L ?_))
          refine e_I (i := 10 * s + 2) (by first | (with_reducible rfl) | (simp (disch := omega) only [q_lit, q_ofn, nI_add, q_mul, q_sub, q_shrm, q_shlm, q_a31s, q_a1, q_a3, q_a7, q_a65535, q_div, q_rem2, z_mm, nI_clamp, Nat.reduceMul, Nat.reduceAdd, Nat.reduceSub, Nat.reducePow, Nat.reduceMod, Nat.reduceDiv, Nat.one_mul]; done) | (simp (disch := omega) only [q_lit, q_ofn, nI_add, q_mul, q_sub, q_shrm, q_shlm, q_a31s, q_a1, q_a3, q_a7, q_a65535, q_div, q_rem2, z_mm, nI_clamp, Nat.reduceMul, Nat.reduceAdd, Nat.reduceSub, Nat.reducePow, Nat.reduceMod, Nat.reduceDiv, Nat.one_mul]; with_reducible rfl)) (by omega) (by decide) ?_
          rw [r12, hm1]
          refine e_B b2 (e_F (by decide) ?_)
          refine e_B (m_in0N (v := 2) (b := 1) (by decide) (by decide)) ?_
          refine e_T rfl (e_T rfl ?_)
          refine e_B emo ?_
          cases z_so S.2.2.2.2 x s i 21
          · exact e_T rfl rfl
          · exact e_F (by decide) rfl
      · have b3 : f_Mo_in p3.toInt64 (0 : Int64) (1 : Int64) = some (nI 0) := by
          rcases z_smal (p := p3) 3 (by omega) with hneg | ⟨v, hv, rfl⟩ | ⟨v, hv, hv', rfl⟩
          · exact m_inneg hneg (a := 0) (by decide) (lN 1)
          · have : v = 0 ∨ v = 1 ∨ v = 2 := by omega
            rcases this with rfl | rfl | rfl
            · exact absurd rfl q0
            · exact absurd rfl q1
            · exact absurd rfl q2
          · have := m_in0N (v := v) (b := 1) (by omega) (by decide)
            rw [decide_eq_false (by omega)] at this
            exact this
        refine w_2 (r1 := -3) (r2 := -3) ?_ ?_ ⟨rfl, z_inv_s h0⟩
        · unfold f_SS_term
          refine e_B a1 (e_F (by decide) (e_F (nI_pos (by omega)) (e_B (t_termsOf hM5 hs _) ?_)))
          rw [c3]
          refine e_T (by simp (disch := omega) only [q_lit, q_ofn, nI_add, q_mul, q_sub, q_shrm, q_shlm, q_a31s, q_a1, q_a3, q_a7, q_a65535, q_div, q_rem2, z_mm, nI_clamp, Nat.reduceMul, Nat.reduceAdd, Nat.reduceSub, Nat.reducePow, Nat.reduceMod, Nat.reduceDiv, Nat.one_mul, nI_ltI, nI_leI, nI_eq, q_b0, q_b1, q_m1lt, q_m1le, q_ltm1, q_lem1, q_eqm1, q_m1eq, not_true_eq_false, not_false_eq_true, reduceCtorEq, *] <;> first | omega | decide) ?_
          exact e_F q0 (e_F q1 (e_F q2 rfl))
        · unfold f_Mo_term
          refine e_B b1 (e_F (by decide) (e_L ?_))
          refine e_I (i := 10 * s + 2) (by first | (with_reducible rfl) | (simp (disch := omega) only [q_lit, q_ofn, nI_add, q_mul, q_sub, q_shrm, q_shlm, q_a31s, q_a1, q_a3, q_a7, q_a65535, q_div, q_rem2, z_mm, nI_clamp, Nat.reduceMul, Nat.reduceAdd, Nat.reduceSub, Nat.reducePow, Nat.reduceMod, Nat.reduceDiv, Nat.one_mul]; done) | (simp (disch := omega) only [q_lit, q_ofn, nI_add, q_mul, q_sub, q_shrm, q_shlm, q_a31s, q_a1, q_a3, q_a7, q_a65535, q_div, q_rem2, z_mm, nI_clamp, Nat.reduceMul, Nat.reduceAdd, Nat.reduceSub, Nat.reducePow, Nat.reduceMod, Nat.reduceDiv, Nat.one_mul]; with_reducible rfl)) (by omega) (by decide) ?_
          rw [r12, hm1]
          refine e_B b2 (e_F (by decide) ?_)
          exact e_B b3 (e_T rfl (e_F q2 rfl))
    · have b2 := m_in0N (v := q) (b := S.2.2.2.2 s 2 - 1) (by omega) (by omega)
      rw [decide_eq_false (by omega)] at b2
      refine w_2 (r1 := -2) (r2 := -2) ?_ ?_ ⟨rfl, z_inv_s h0⟩
      · unfold f_SS_term
        refine e_B a1 (e_F (by decide) (e_F (nI_pos (by omega)) (e_B (t_termsOf hM5 hs _) ?_)))
        rw [c3]
        exact e_F (by simp (disch := omega) only [q_lit, q_ofn, nI_add, q_mul, q_sub, q_shrm, q_shlm, q_a31s, q_a1, q_a3, q_a7, q_a65535, q_div, q_rem2, z_mm, nI_clamp, Nat.reduceMul, Nat.reduceAdd, Nat.reduceSub, Nat.reducePow, Nat.reduceMod, Nat.reduceDiv, Nat.one_mul, nI_ltI, nI_leI, nI_eq, q_b0, q_b1, q_m1lt, q_m1le, q_ltm1, q_lem1, q_eqm1, q_m1eq, not_true_eq_false, not_false_eq_true, reduceCtorEq, *] <;> first | omega | decide) rfl
      · unfold f_Mo_term
        refine e_B b1 (e_F (by decide) (e_L ?_))
        refine e_I (i := 10 * s + 2) (by first | (with_reducible rfl) | (simp (disch := omega) only [q_lit, q_ofn, nI_add, q_mul, q_sub, q_shrm, q_shlm, q_a31s, q_a1, q_a3, q_a7, q_a65535, q_div, q_rem2, z_mm, nI_clamp, Nat.reduceMul, Nat.reduceAdd, Nat.reduceSub, Nat.reducePow, Nat.reduceMod, Nat.reduceDiv, Nat.one_mul]; done) | (simp (disch := omega) only [q_lit, q_ofn, nI_add, q_mul, q_sub, q_shrm, q_shlm, q_a31s, q_a1, q_a3, q_a7, q_a65535, q_div, q_rem2, z_mm, nI_clamp, Nat.reduceMul, Nat.reduceAdd, Nat.reduceSub, Nat.reducePow, Nat.reduceMod, Nat.reduceDiv, Nat.one_mul]; with_reducible rfl)) (by omega) (by decide) ?_
        rw [r12, hm1]
        exact e_B b2 (e_T rfl rfl)
  · have a1 := t_hasSpell (M := S.2.1) (s := p) hM5 (by omega)
    have b1 := m_isSpell (P := S.2.1) (n := p) (by omega) (by omega)
    rw [decide_eq_false (by omega)] at a1 b1
    refine w_2 (r1 := -2) (r2 := -2) ?_ ?_ ⟨rfl, z_inv_s h0⟩
    · unfold f_SS_term
      exact e_B a1 (e_T rfl rfl)
    · unfold f_Mo_term
      exact e_B b1 (e_T rfl rfl)
