/-! keep, back, count, mayBe, next -/
theorem z_inv_s {ns : Nat} {ci : Nat → Int32} {cf : Nat → Nat → Int32} {cl : Nat → Nat → Int64} {cn : Nat → Nat} {mi : Nat → Int32} {mf : Nat → Nat → Int32} (h : z_inv ns ci cf cl cn mi mf) : z_inv (ns + 1) ci cf cl cn mi mf := by
  obtain ⟨c, n, S, x, d, hT, ok, hdr, hml, hRU, hN, hU, hK, hR, hQ, hY, hF, hW, hl1, hl2, hb⟩ := h
  exact ⟨c, n, S, x, d, hT, ok, hdr, hml, hRU, hN, hU, hK, hR, hQ, hY, hF, hW, hl1, hl2, i_bud_s hb⟩
theorem z_smal {p : Int32} (n : Nat) (hn : n < 2 ^ 31) : p < nI 0 ∨ (∃ v, v < n ∧ p = nI v) ∨ (∃ v, n ≤ v ∧ v < 2 ^ 31 ∧ p = nI v) := by
  rcases q_any p with h | ⟨v, hv, rfl⟩
  · exact Or.inl h
  · by_cases hh : v < n
    · exact Or.inr (Or.inl ⟨v, hh, rfl⟩)
    · exact Or.inr (Or.inr ⟨v, by omega, hv, rfl⟩)
theorem i_kept_u {P M x d v : Nat} {kd ks ik md ms : Nat → Int32} (h : i_kept P M kd ks ik md ms) (hx : z_V P M x) (hd : d ≤ 9999) (hv : v < 2) : i_kept P M (upd kd v (nI d)) (upd ks v (nI x)) (upd ik v (nI 1)) (upd md v (nI d)) (upd ms v (nI x)) := by
  intro i hi
  by_cases hiv : i = v
  · subst hiv
    right
    simp only [z_upd_s]
    exact ⟨trivial, x, d, hx, hd, rfl, rfl, rfl, rfl⟩
  · simp only [z_upd_n hiv]
    exact h i hi
theorem p_keep {ns k : Nat} {ci : Nat → Int32} {cf : Nat → Nat → Int32} {cl : Nat → Nat → Int64} {cn : Nat → Nat} {mi : Nat → Int32} {mf : Nat → Nat → Int32} (hk : 200000 ≤ k) (h : z_inv ns ci cf cl cn mi mf) (p1 : Int32) : wp (f_SS_keep (ci 0) (ci 20) (cf 0) (cf 1) p1) (fun q => wp (f_Mo_keep (mi 1) (mi 7) (mf 1) (mf 2) (mf 3) p1) (fun q' => q.1 = q'.1 ∧ z_inv (ns + 1) ci (z_u (z_u cf 0 q.2.1) 1 q.2.2) cl cn mi (z_u (z_u (z_u mf 1 q'.2.1) 2 q'.2.2.1) 3 q'.2.2.2))) := by
  obtain ⟨c, n, S, x, d, hT, ok, hdr, hml, hRU, hN, hU, hK, hR, hQ, hY, hF, hW, hl1, hl2, hb⟩ := h
  obtain ⟨n1, n2, n3, n4, n5, n6⟩ := hN
  rw [n3, n4, n5, n6]
  rcases z_smal (p := p1) 2 (by decide) with hneg | ⟨v, hv, rfl⟩ | ⟨v, hv, hv', rfl⟩
  · refine w_2 (r1 := (-2, _, _)) (r2 := (-2, _, _, _)) ?_ ?_ ⟨rfl, c, n, S, x, d, hT, ok, hdr, hml, hRU, ⟨n1, n2, n3, n4, n5, n6⟩, hU, hK, hR, hQ, hY, hF, hW, hl1, hl2, i_bud_s hb⟩
    · unfold f_SS_keep
      exact e_T hneg rfl
    · unfold f_Mo_keep
      exact e_B (m_inneg hneg (a := 0) (by decide) (lN 1)) (e_T rfl rfl)
  · have hin := m_in0N (v := v) (b := 1) (by omega) (by decide)
    rw [decide_eq_true (by omega)] at hin
    refine w_2 (r1 := (nI d, upd (cf 0) v (nI d), upd (cf 1) v (nI x))) (r2 := (nI d, upd (mf 1) v (nI 1), upd (mf 2) v (nI d), upd (mf 3) v (nI x))) ?_ ?_ ⟨rfl, c, n, S, x, d, hT, ok, hdr, hml, hRU, ⟨n1, n2, n3, n4, n5, n6⟩, hU, i_kept_u hK n1 n2 hv, hR, hQ, hY, hF, hW, hl1, hl2, i_bud_s hb⟩
    · unfold f_SS_keep
      refine e_F (nI_pos (by omega)) ?_
      refine e_F (by simp (disch := omega) only [q_lit, q_ofn, nI_add, q_mul, q_sub, q_shrm, q_shlm, q_a31s, q_a1, q_a3, q_a7, q_a65535, q_div, q_rem2, z_mm, nI_clamp, Nat.reduceMul, Nat.reduceAdd, Nat.reduceSub, Nat.reducePow, Nat.reduceMod, Nat.reduceDiv, Nat.one_mul, nI_ltI, nI_leI, nI_eq, q_b0, q_b1, q_m1lt, q_m1le, q_ltm1, q_lem1, q_eqm1, q_m1eq, not_true_eq_false, not_false_eq_true, reduceCtorEq, *] <;> first | omega | decide) ?_
      refine e_T (by simp (disch := omega) only [q_lit, q_ofn, nI_add, q_mul, q_sub, q_shrm, q_shlm, q_a31s, q_a1, q_a3, q_a7, q_a65535, q_div, q_rem2, z_mm, nI_clamp, Nat.reduceMul, Nat.reduceAdd, Nat.reduceSub, Nat.reducePow, Nat.reduceMod, Nat.reduceDiv, Nat.one_mul, nI_ltI, nI_leI, nI_eq, q_b0, q_b1, q_m1lt, q_m1le, q_ltm1, q_lem1, q_eqm1, q_m1eq, not_true_eq_false, not_false_eq_true, reduceCtorEq, *] <;> first | omega | decide) ?_
      refine e_C (i := v) (by first | (with_reducible rfl) | (simp (disch := omega) only [q_lit, q_ofn, nI_add, q_mul, q_sub, q_shrm, q_shlm, q_a31s, q_a1, q_a3, q_a7, q_a65535, q_div, q_rem2, z_mm, nI_clamp, Nat.reduceMul, Nat.reduceAdd, Nat.reduceSub, Nat.reducePow, Nat.reduceMod, Nat.reduceDiv, Nat.one_mul]; done) | (simp (disch := omega) only [q_lit, q_ofn, nI_add, q_mul, q_sub, q_shrm, q_shlm, q_a31s, q_a1, q_a3, q_a7, q_a65535, q_div, q_rem2, z_mm, nI_clamp, Nat.reduceMul, Nat.reduceAdd, Nat.reduceSub, Nat.reducePow, Nat.reduceMod, Nat.reduceDiv, Nat.one_mul]; with_reducible rfl)) (by omega) (by first | decide | omega) ?_
      refine e_C (i := v) (by first | (with_reducible rfl) | (simp (disch := omega) only [q_lit, q_ofn, nI_add, q_mul, q_sub, q_shrm, q_shlm, q_a31s, q_a1, q_a3, q_a7, q_a65535, q_div, q_rem2, z_mm, nI_clamp, Nat.reduceMul, Nat.reduceAdd, Nat.reduceSub, Nat.reducePow, Nat.reduceMod, Nat.reduceDiv, Nat.one_mul]; done) | (simp (disch := omega) only [q_lit, q_ofn, nI_add, q_mul, q_sub, q_shrm, q_shlm, q_a31s, q_a1, q_a3, q_a7, q_a65535, q_div, q_rem2, z_mm, nI_clamp, Nat.reduceMul, Nat.reduceAdd, Nat.reduceSub, Nat.reducePow, Nat.reduceMod, Nat.reduceDiv, Nat.one_mul]; with_reducible rfl)) (by omega) (by first | decide | omega) ?_
      rw [nI_clamp (by omega)]
    · unfold f_Mo_keep
      refine e_B hin ?_
      refine e_F (by decide) ?_
      refine e_C (i := v) (by first | (with_reducible rfl) | (simp (disch := omega) only [q_lit, q_ofn, nI_add, q_mul, q_sub, q_shrm, q_shlm, q_a31s, q_a1, q_a3, q_a7, q_a65535, q_div, q_rem2, z_mm, nI_clamp, Nat.reduceMul, Nat.reduceAdd, Nat.reduceSub, Nat.reducePow, Nat.reduceMod, Nat.reduceDiv, Nat.one_mul]; done) | (simp (disch := omega) only [q_lit, q_ofn, nI_add, q_mul, q_sub, q_shrm, q_shlm, q_a31s, q_a1, q_a3, q_a7, q_a65535, q_div, q_rem2, z_mm, nI_clamp, Nat.reduceMul, Nat.reduceAdd, Nat.reduceSub, Nat.reducePow, Nat.reduceMod, Nat.reduceDiv, Nat.one_mul]; with_reducible rfl)) (by omega) (by first | decide | omega) ?_
      refine e_C (i := v) (by first | (with_reducible rfl) | (simp (disch := omega) only [q_lit, q_ofn, nI_add, q_mul, q_sub, q_shrm, q_shlm, q_a31s, q_a1, q_a3, q_a7, q_a65535, q_div, q_rem2, z_mm, nI_clamp, Nat.reduceMul, Nat.reduceAdd, Nat.reduceSub, Nat.reducePow, Nat.reduceMod, Nat.reduceDiv, Nat.one_mul]; done) | (simp (disch := omega) only [q_lit, q_ofn, nI_add, q_mul, q_sub, q_shrm, q_shlm, q_a31s, q_a1, q_a3, q_a7, q_a65535, q_div, q_rem2, z_mm, nI_clamp, Nat.reduceMul, Nat.reduceAdd, Nat.reduceSub, Nat.reducePow, Nat.reduceMod, Nat.reduceDiv, Nat.one_mul]; with_reducible rfl)) (by omega) (by first | decide | omega) ?_
      refine e_C (i := v) (by first | (with_reducible rfl) | (simp (disch := omega) only [q_lit, q_ofn, nI_add, q_mul, q_sub, q_shrm, q_shlm, q_a31s, q_a1, q_a3, q_a7, q_a65535, q_div, q_rem2, z_mm, nI_clamp, Nat.reduceMul, Nat.reduceAdd, Nat.reduceSub, Nat.reducePow, Nat.reduceMod, Nat.reduceDiv, Nat.one_mul]; done) | (simp (disch := omega) only [q_lit, q_ofn, nI_add, q_mul, q_sub, q_shrm, q_shlm, q_a31s, q_a1, q_a3, q_a7, q_a65535, q_div, q_rem2, z_mm, nI_clamp, Nat.reduceMul, Nat.reduceAdd, Nat.reduceSub, Nat.reducePow, Nat.reduceMod, Nat.reduceDiv, Nat.one_mul]; with_reducible rfl)) (by omega) (by first | decide | omega) ?_
      rw [nI_clamp (by omega)]
      rfl
  · have hin := m_in0N (v := v) (b := 1) (by omega) (by decide)
    rw [decide_eq_false (by omega)] at hin
    refine w_2 (r1 := (-2, _, _)) (r2 := (-2, _, _, _)) ?_ ?_ ⟨rfl, c, n, S, x, d, hT, ok, hdr, hml, hRU, ⟨n1, n2, n3, n4, n5, n6⟩, hU, hK, hR, hQ, hY, hF, hW, hl1, hl2, i_bud_s hb⟩
    · unfold f_SS_keep
      refine e_F (nI_pos (by omega)) ?_
      exact e_T (by simp (disch := omega) only [q_lit, q_ofn, nI_add, q_mul, q_sub, q_shrm, q_shlm, q_a31s, q_a1, q_a3, q_a7, q_a65535, q_div, q_rem2, z_mm, nI_clamp, Nat.reduceMul, Nat.reduceAdd, Nat.reduceSub, Nat.reducePow, Nat.reduceMod, Nat.reduceDiv, Nat.one_mul, nI_ltI, nI_leI, nI_eq, q_b0, q_b1, q_m1lt, q_m1le, q_ltm1, q_lem1, q_eqm1, q_m1eq, not_true_eq_false, not_false_eq_true, reduceCtorEq, *] <;> first | omega | decide) rfl
    · unfold f_Mo_keep
      exact e_B hin (e_T rfl rfl)
theorem i_past_0 {P M d : Nat} {uf pf : Nat → Int32} : i_past P M d (nI 0) uf (nI 0) pf := ⟨0, by decide, by omega, rfl, rfl, fun i hi => by omega⟩
theorem p_back {ns k : Nat} {ci : Nat → Int32} {cf : Nat → Nat → Int32} {cl : Nat → Nat → Int64} {cn : Nat → Nat} {mi : Nat → Int32} {mf : Nat → Nat → Int32} (hk : 200000 ≤ k) (h : z_inv ns ci cf cl cn mi mf) (p1 : Int32) : wp (f_SS_back (ci 0) (ci 20) (ci 29) (cf 0) (cf 1) p1) (fun q => wp (f_Mo_back (mi 1) (mi 7) (mi 8) (mf 1) (mf 2) (mf 3) p1) (fun q' => q.1 = q'.1 ∧ z_inv (ns + 1) (z_u (z_u (z_u ci 0 q.2.1) 20 q.2.2.1) 29 q.2.2.2) cf cl cn (z_u (z_u (z_u mi 1 q'.2.1) 7 q'.2.2.1) 8 q'.2.2.2) mf)) := by
  obtain ⟨c, n, S, x, d, hT, ok, hdr, hml, hRU, hN, hU, hK, hR, hQ, hY, hF, hW, hl1, hl2, hb⟩ := h
  rcases z_smal (p := p1) 2 (by decide) with hneg | ⟨v, hv, rfl⟩ | ⟨v, hv, hv', rfl⟩
  · refine w_2 (r1 := (-2, (ci 0), (ci 20), (ci 29))) (r2 := (-2, (mi 1), (mi 7), (mi 8))) ?_ ?_ ⟨rfl, c, n, S, x, d, hT, ok, hdr, hml, hRU, hN, hU, hK, hR, hQ, hY, hF, hW, hl1, hl2, i_bud_s hb⟩
    · unfold f_SS_back
      exact e_T hneg rfl
    · unfold f_Mo_back
      exact e_B (m_inneg hneg (a := 0) (by decide) (lN 1)) (e_T rfl rfl)
  · have hin := m_in0N (v := v) (b := 1) (by omega) (by decide)
    rw [decide_eq_true (by omega)] at hin
    rcases hK v hv with ⟨k1, k2⟩ | ⟨k1, y, e, ky, ke, k2, k3, k4, k5⟩
    · refine w_2 (r1 := (-4, (ci 0), (ci 20), (ci 29))) (r2 := (-4, (mi 1), (mi 7), (mi 8))) ?_ ?_ ⟨rfl, c, n, S, x, d, hT, ok, hdr, hml, hRU, hN, hU, hK, hR, hQ, hY, hF, hW, hl1, hl2, i_bud_s hb⟩
      · unfold f_SS_back
        refine e_F (nI_pos (by omega)) ?_
        refine e_F (by simp (disch := omega) only [q_lit, q_ofn, nI_add, q_mul, q_sub, q_shrm, q_shlm, q_a31s, q_a1, q_a3, q_a7, q_a65535, q_div, q_rem2, z_mm, nI_clamp, Nat.reduceMul, Nat.reduceAdd, Nat.reduceSub, Nat.reducePow, Nat.reduceMod, Nat.reduceDiv, Nat.one_mul, nI_ltI, nI_leI, nI_eq, q_b0, q_b1, q_m1lt, q_m1le, q_ltm1, q_lem1, q_eqm1, q_m1eq, not_true_eq_false, not_false_eq_true, reduceCtorEq, *] <;> first | omega | decide) ?_
        refine e_T (by simp (disch := omega) only [q_lit, q_ofn, nI_add, q_mul, q_sub, q_shrm, q_shlm, q_a31s, q_a1, q_a3, q_a7, q_a65535, q_div, q_rem2, z_mm, nI_clamp, Nat.reduceMul, Nat.reduceAdd, Nat.reduceSub, Nat.reducePow, Nat.reduceMod, Nat.reduceDiv, Nat.one_mul, nI_ltI, nI_leI, nI_eq, q_b0, q_b1, q_m1lt, q_m1le, q_ltm1, q_lem1, q_eqm1, q_m1eq, not_true_eq_false, not_false_eq_true, reduceCtorEq, *] <;> first | omega | decide) ?_
        refine e_I (i := v) rfl (by omega) (by decide) ?_
        exact e_T k2 rfl
      · unfold f_Mo_back
        refine e_B hin ?_
        refine e_F (by decide) ?_
        refine e_I (i := v) rfl (by omega) (by decide) ?_
        exact e_T k1 rfl
    · refine w_2 (r1 := (nI e, nI e, nI y, nI 0)) (r2 := (nI e, nI e, nI y, nI 0)) ?_ ?_ ⟨rfl, c, n, S, y, e, hT, ok, hdr, hml, hRU, ⟨ky, ke, rfl, rfl, rfl, rfl⟩, i_past_0, hK, hR, hQ, hY, hF, hW, hl1, hl2, i_bud_s hb⟩
      · unfold f_SS_back f_Rw_empty
        refine e_F (nI_pos (by omega)) ?_
        refine e_F (by simp (disch := omega) only [q_lit, q_ofn, nI_add, q_mul, q_sub, q_shrm, q_shlm, q_a31s, q_a1, q_a3, q_a7, q_a65535, q_div, q_rem2, z_mm, nI_clamp, Nat.reduceMul, Nat.reduceAdd, Nat.reduceSub, Nat.reducePow, Nat.reduceMod, Nat.reduceDiv, Nat.one_mul, nI_ltI, nI_leI, nI_eq, q_b0, q_b1, q_m1lt, q_m1le, q_ltm1, q_lem1, q_eqm1, q_m1eq, not_true_eq_false, not_false_eq_true, reduceCtorEq, *] <;> first | omega | decide) ?_
        refine e_T (by simp (disch := omega) only [q_lit, q_ofn, nI_add, q_mul, q_sub, q_shrm, q_shlm, q_a31s, q_a1, q_a3, q_a7, q_a65535, q_div, q_rem2, z_mm, nI_clamp, Nat.reduceMul, Nat.reduceAdd, Nat.reduceSub, Nat.reducePow, Nat.reduceMod, Nat.reduceDiv, Nat.one_mul, nI_ltI, nI_leI, nI_eq, q_b0, q_b1, q_m1lt, q_m1le, q_ltm1, q_lem1, q_eqm1, q_m1eq, not_true_eq_false, not_false_eq_true, reduceCtorEq, *] <;> first | omega | decide) ?_
        refine e_I (i := v) rfl (by omega) (by decide) ?_
        refine e_F (by rw [k2]; exact (q_eqm1 (by omega)).mp) ?_
        refine e_I (i := v) rfl (by omega) (by decide) ?_
        refine e_I (i := v) rfl (by omega) (by decide) ?_
        rw [k2, k3]
        rfl
      · unfold f_Mo_back
        refine e_B hin ?_
        refine e_F (by decide) ?_
        refine e_I (i := v) rfl (by omega) (by decide) ?_
        refine e_F (by rw [k1]; decide) ?_
        refine e_I (i := v) rfl (by omega) (by decide) ?_
        refine e_I (i := v) rfl (by omega) (by decide) ?_
        rw [k4, k5]
        rfl
  · have hin := m_in0N (v := v) (b := 1) (by omega) (by decide)
    rw [decide_eq_false (by omega)] at hin
    refine w_2 (r1 := (-2, (ci 0), (ci 20), (ci 29))) (r2 := (-2, (mi 1), (mi 7), (mi 8))) ?_ ?_ ⟨rfl, c, n, S, x, d, hT, ok, hdr, hml, hRU, hN, hU, hK, hR, hQ, hY, hF, hW, hl1, hl2, i_bud_s hb⟩
    · unfold f_SS_back
      refine e_F (nI_pos (by omega)) ?_
      exact e_T (by simp (disch := omega) only [q_lit, q_ofn, nI_add, q_mul, q_sub, q_shrm, q_shlm, q_a31s, q_a1, q_a3, q_a7, q_a65535, q_div, q_rem2, z_mm, nI_clamp, Nat.reduceMul, Nat.reduceAdd, Nat.reduceSub, Nat.reducePow, Nat.reduceMod, Nat.reduceDiv, Nat.one_mul, nI_ltI, nI_leI, nI_eq, q_b0, q_b1, q_m1lt, q_m1le, q_ltm1, q_lem1, q_eqm1, q_m1eq, not_true_eq_false, not_false_eq_true, reduceCtorEq, *] <;> first | omega | decide) rfl
    · unfold f_Mo_back
      exact e_B hin (e_T rfl rfl)
theorem p_next {ns k : Nat} {ci : Nat → Int32} {cf : Nat → Nat → Int32} {cl : Nat → Nat → Int64} {cn : Nat → Nat} {mi : Nat → Int32} {mf : Nat → Nat → Int32} (hk : 200000 ≤ k) (h : z_inv ns ci cf cl cn mi mf) : wp (f_SS_next k 8 (ci 24) (ci 26) (ci 27) (ci 28) (cf 32) (cf 33)) (fun q => wp (f_Mo_next k (mi 9) (mi 19) (mf 13)) (fun q' => q.1 = q' ∧ z_inv (ns + 1) (z_u ci 27 q.2.1) (z_u cf 32 q.2.2) cl cn mi mf)) := by
  have h0 := h
  obtain ⟨c, n, S, x, d, hT, ok, hdr, hml, hRU, hN, hU, hK, hR, hQ, hY, hF, hW, hl1, hl2, hb⟩ := h
  have hPe : (ci 24) = nI S.1 := hdr.2.2.1; have hSp : (ci 25) = nI S.2.1 := hdr.2.2.2.1; have hmM : (mi 6) = nI S.2.1 := hml.1; have hmP : (mi 9) = nI S.1 := hml.2.1; have hP1 := ok.1.1; have hP3 := ok.1.2.1; have hM5 := ok.1.2.2.1
  obtain ⟨t, T, y1, y2, y3, y4⟩ := hY
  have e2 : f_Mo_next k (mi 9) (mi 19) (mf 13) = some (z_nx S.1 t T) := by
    rw [hmP, y4]
    exact m_next hP3 y2 (by omega)
  have w1 : wp (f_SS_next k 8 (ci 24) (ci 26) (ci 27) (ci 28) (cf 32) (cf 33)) (fun q => q.1 = z_nx S.1 t T) := by
    rw [hPe, y3]
    unfold f_SS_next
    refine w_Be rfl ?_
    refine w_Bw (t_weigh hP3 y1 (by omega)) ?_
    rintro ⟨w4, w5⟩ ⟨e4, e5⟩
    have e4 : w4 = nI S.1 := e4
    subst e4
    refine w_Be (t_bestDay hP3 y1 e5 (by omega)) ?_
    exact w_some rfl
  exact w_2w w1 ⟨_, e2, rfl⟩ (fun q q' h1 h2 => ⟨by rw [h1, h2], z_inv_s h0⟩)
theorem z_fst_lt {f : Nat → Bool} : ∀ r b i, z_fst f r b = some i → i < b + r := by
  intro r
  induction r with
  | zero => intro b i h; simp only [z_fst] at h; cases h
  | succ r ih =>
    intro b i h
    simp only [z_fst] at h
    by_cases hf : f b = true
    · rw [if_pos hf] at h
      cases h; omega
    · rw [if_neg hf] at h
      have := ih _ _ h
      omega
theorem z_ff_lt {P t b : Nat} {T : Nat → Nat → Nat} {q : Nat × Option Nat} (hq : z_ff P t T = some q) (hb : q.2 = some b) : b < 2 * P + 11 := by
  unfold z_ff at hq
  split at hq
  · cases hq; cases hb
  · split at hq
    · rename_i a ha
      cases hq
      have h1 := z_fst_lt _ _ _ ha
      have h2 := z_fst_lt _ _ _ hb
      omega
    · cases hq
theorem p_mayBe {ns k : Nat} {ci : Nat → Int32} {cf : Nat → Nat → Int32} {cl : Nat → Nat → Int64} {cn : Nat → Nat} {mi : Nat → Int32} {mf : Nat → Nat → Int32} (hk : 200000 ≤ k) (h : z_inv ns ci cf cl cn mi mf) (p1 : Int32) : wp (f_SS_mayBe k 8 (ci 24) (ci 26) (ci 27) (ci 28) (cf 32) (cf 33) p1) (fun q => wp (f_Mo_mayBe k (mi 9) (mi 19) (mf 13) p1) (fun q' => q.1 = q' ∧ z_inv (ns + 1) (z_u ci 27 q.2.1) (z_u cf 32 q.2.2) cl cn mi mf)) := by
  have h0 := h
  obtain ⟨c, n, S, x, d, hT, ok, hdr, hml, hRU, hN, hU, hK, hR, hQ, hY, hF, hW, hl1, hl2, hb⟩ := h
  have hPe : (ci 24) = nI S.1 := hdr.2.2.1; have hSp : (ci 25) = nI S.2.1 := hdr.2.2.2.1; have hmM : (mi 6) = nI S.2.1 := hml.1; have hmP : (mi 9) = nI S.1 := hml.2.1; have hP1 := ok.1.1; have hP3 := ok.1.2.1; have hM5 := ok.1.2.2.1
  obtain ⟨t, T, y1, y2, y3, y4⟩ := hY
  rcases z_smal (p := p1) 5 (by decide) with hneg | ⟨v, hv, rfl⟩ | ⟨v, hv, hv', rfl⟩
  · refine w_2 (r1 := (-3, (ci 27), (cf 32))) (r2 := -3) ?_ ?_ ⟨rfl, z_inv_s h0⟩
    · unfold f_SS_mayBe
      exact e_T hneg rfl
    · unfold f_Mo_mayBe
      exact e_B (m_inneg hneg (a := 0) (by decide) (lN 4)) (e_T rfl rfl)
  · have e2 : f_Mo_mayBe k (mi 9) (mi 19) (mf 13) (nI v) = some (z_mb S.1 t T v) := by
      rw [hmP, y4]
      exact m_mayBe hP3 y2 (by omega) (by omega)
    have w1 : wp (f_SS_mayBe k 8 (ci 24) (ci 26) (ci 27) (ci 28) (cf 32) (cf 33) (nI v)) (fun q => q.1 = z_mb S.1 t T v) := by
      rw [hPe, y3]
      unfold f_SS_mayBe
      refine w_F (nI_pos (by omega)) ?_
      refine w_T (by simp (disch := omega) only [q_lit, q_ofn, nI_add, q_mul, q_sub, q_shrm, q_shlm, q_a31s, q_a1, q_a3, q_a7, q_a65535, q_div, q_rem2, z_mm, nI_clamp, Nat.reduceMul, Nat.reduceAdd, Nat.reduceSub, Nat.reducePow, Nat.reduceMod, Nat.reduceDiv, Nat.one_mul, nI_ltI, nI_leI, nI_eq, q_b0, q_b1, q_m1lt, q_m1le, q_ltm1, q_lem1, q_eqm1, q_m1eq, not_true_eq_false, not_false_eq_true, reduceCtorEq, *] <;> first | omega | decide) ?_
      refine w_Be rfl ?_
      refine w_Bw (t_weigh hP3 y1 (by omega)) ?_
      rintro ⟨w4, w5⟩ ⟨e4, e5⟩
      have e4 : w4 = nI S.1 := e4
      subst e4
      by_cases hv0 : v = 0
      · subst hv0
        refine w_T rfl ?_
        refine w_Be (t_howMany hP3 y1 e5 (by omega)) ?_
        exact w_some rfl
      · refine w_F (nI_ne0 (by omega) (by omega)) ?_
        refine w_Be (t_first hP3 y1 e5 (by omega)) ?_
        unfold z_mb
        rw [if_neg hv0]
        cases hq : z_ff S.1 t T with
        | none => exact w_T rfl (w_some rfl)
        | some q =>
          have hs := t_second hP3 y1 e5 (k := k) (by omega) hq
          have hqb : ∀ b, q.2 = some b → b < 17 := by
            intro b hb
            have := z_ff_lt hq hb
            omega
          refine w_F ((q_eqm1 (by omega)).mp) ?_
          refine w_Be hs.1 ?_
          by_cases hv1 : v = 1
          · subst hv1
            refine w_T rfl ?_
            refine w_Be (t_csort hP3 (by omega)) ?_
            exact w_some rfl
          refine w_F (by simp (disch := omega) only [q_lit, q_ofn, nI_add, q_mul, q_sub, q_shrm, q_shlm, q_a31s, q_a1, q_a3, q_a7, q_a65535, q_div, q_rem2, z_mm, nI_clamp, Nat.reduceMul, Nat.reduceAdd, Nat.reduceSub, Nat.reducePow, Nat.reduceMod, Nat.reduceDiv, Nat.one_mul, nI_ltI, nI_leI, nI_eq, q_b0, q_b1, q_m1lt, q_m1le, q_ltm1, q_lem1, q_eqm1, q_m1eq, not_true_eq_false, not_false_eq_true, reduceCtorEq, *] <;> first | omega | decide) ?_
          by_cases hv2 : v = 2
          · subst hv2
            refine w_T rfl ?_
            refine w_Be (t_cnum hP3 (by omega)) ?_
            exact w_some rfl
          refine w_F (by simp (disch := omega) only [q_lit, q_ofn, nI_add, q_mul, q_sub, q_shrm, q_shlm, q_a31s, q_a1, q_a3, q_a7, q_a65535, q_div, q_rem2, z_mm, nI_clamp, Nat.reduceMul, Nat.reduceAdd, Nat.reduceSub, Nat.reducePow, Nat.reduceMod, Nat.reduceDiv, Nat.one_mul, nI_ltI, nI_leI, nI_eq, q_b0, q_b1, q_m1lt, q_m1le, q_ltm1, q_lem1, q_eqm1, q_m1eq, not_true_eq_false, not_false_eq_true, reduceCtorEq, *] <;> first | omega | decide) ?_
          dsimp only
          rw [if_neg hv1, if_neg hv2]
          by_cases hv3 : v = 3
          · subst hv3
            refine w_T rfl ?_
            cases hb : q.2 with
            | none => exact w_T rfl (w_some rfl)
            | some b =>
              have := hqb b hb
              refine w_F ((q_eqm1 (by omega)).mp) ?_
              refine w_Be (t_csort hP3 (by omega)) ?_
              exact w_some rfl
          · refine w_F (by simp (disch := omega) only [q_lit, q_ofn, nI_add, q_mul, q_sub, q_shrm, q_shlm, q_a31s, q_a1, q_a3, q_a7, q_a65535, q_div, q_rem2, z_mm, nI_clamp, Nat.reduceMul, Nat.reduceAdd, Nat.reduceSub, Nat.reducePow, Nat.reduceMod, Nat.reduceDiv, Nat.one_mul, nI_ltI, nI_leI, nI_eq, q_b0, q_b1, q_m1lt, q_m1le, q_ltm1, q_lem1, q_eqm1, q_m1eq, not_true_eq_false, not_false_eq_true, reduceCtorEq, *] <;> first | omega | decide) ?_
            cases hb : q.2 with
            | none => exact w_T rfl (w_some rfl)
            | some b =>
              have := hqb b hb
              refine w_F ((q_eqm1 (by omega)).mp) ?_
              refine w_Be (t_cnum hP3 (by omega)) ?_
              dsimp only
              rw [if_neg hv3]
              exact w_some rfl
    exact w_2w w1 ⟨_, e2, rfl⟩ (fun q q' h1 h2 => ⟨by rw [h1, h2], z_inv_s h0⟩)
  · have hin := m_in0N (v := v) (b := 4) (by omega) (by decide)
    rw [decide_eq_false (by omega)] at hin
    refine w_2 (r1 := (-3, (ci 27), (cf 32))) (r2 := -3) ?_ ?_ ⟨rfl, z_inv_s h0⟩
    · unfold f_SS_mayBe
      refine e_F (nI_pos (by omega)) ?_
      exact e_F (by simp (disch := omega) only [q_lit, q_ofn, nI_add, q_mul, q_sub, q_shrm, q_shlm, q_a31s, q_a1, q_a3, q_a7, q_a65535, q_div, q_rem2, z_mm, nI_clamp, Nat.reduceMul, Nat.reduceAdd, Nat.reduceSub, Nat.reducePow, Nat.reduceMod, Nat.reduceDiv, Nat.one_mul, nI_ltI, nI_leI, nI_eq, q_b0, q_b1, q_m1lt, q_m1le, q_ltm1, q_lem1, q_eqm1, q_m1eq, not_true_eq_false, not_false_eq_true, reduceCtorEq, *] <;> first | omega | decide) rfl
    · unfold f_Mo_mayBe
      exact e_B hin (e_T rfl rfl)
theorem i_day {x : Nat} (h : x < 57344) : (nI x >>> ((13 : Int32) &&& 31)) &&& (7 : Int32) = nI x >>> ((13 : Int32) &&& 31) := by
  simp (disch := omega) only [q_lit, q_ofn, nI_add, q_mul, q_sub, q_shrm, q_shlm, q_a31s, q_a1, q_a3, q_a7, q_a65535, q_div, q_rem2, z_mm, nI_clamp, Nat.reduceMul, Nat.reduceAdd, Nat.reduceSub, Nat.reducePow, Nat.reduceMod, Nat.reduceDiv, Nat.one_mul]
  congr 1
  omega
theorem ex_if {α : Type} {c : Prop} [Decidable c] {a b : Option α} (ha : ∃ r, a = some r) (hb : ∃ r, b = some r) : ∃ r, (if c then a else b) = some r := by
  split
  · exact ha
  · exact hb
theorem p_count {ns k : Nat} {ci : Nat → Int32} {cf : Nat → Nat → Int32} {cl : Nat → Nat → Int64} {cn : Nat → Nat} {mi : Nat → Int32} {mf : Nat → Nat → Int32} (hk : 200000 ≤ k) (h : z_inv ns ci cf cl cn mi mf) (p1 : Int32) : wp (f_SS_count (ci 0) (ci 7) (ci 16) (ci 20) (ci 21) (ci 24) (ci 25) (ci 28) (ci 29) p1) (fun q => wp (f_Mo_count (mi 1) (mi 4) (mi 6) (mi 7) (mi 8) (mi 9) (mi 11) (mi 16) (mi 19) p1) (fun q' => q = q' ∧ z_inv (ns + 1) ci cf cl cn mi mf)) := by
  have h0 := h
  obtain ⟨c, n, S, x, d, hT, ok, hdr, hml, hRU, hN, hU, hK, hR, hQ, hY, hF, hW, hl1, hl2, hb⟩ := h
  have hPe : (ci 24) = nI S.1 := hdr.2.2.1; have hSp : (ci 25) = nI S.2.1 := hdr.2.2.2.1; have hmM : (mi 6) = nI S.2.1 := hml.1; have hmP : (mi 9) = nI S.1 := hml.2.1; have hP1 := ok.1.1; have hP3 := ok.1.2.1; have hM5 := ok.1.2.2.1
  obtain ⟨n1, n2, n3, n4, n5, n6⟩ := hN
  obtain ⟨u, u1, u2, u3, u4, u5⟩ := hU
  obtain ⟨w, r1, r2, r3, r4⟩ := hR
  obtain ⟨w', q1, q2, q3, q4⟩ := hQ
  obtain ⟨t, T, y1, y2, y3, y4⟩ := hY
  have key : f_SS_count (ci 0) (ci 7) (ci 16) (ci 20) (ci 21) (ci 24) (ci 25) (ci 28) (ci 29) p1 = f_Mo_count (mi 1) (mi 4) (mi 6) (mi 7) (mi 8) (mi 9) (mi 11) (mi 16) (mi 19) p1 := by
    unfold f_SS_count f_Mo_count f_To_people f_To_spells f_St_holding f_St_broken f_St_weepers f_St_day f_St_asked f_Rw_size f_Tr_size f_Rw_size f_Mo_holdsOf f_Mo_brokenOf f_Mo_weepersOf f_Mo_dayOf f_Mo_askedOf
    rw [hPe, hSp, hmM, hmP, n3, n4, n5, n6, u3, u4, r2, r3, q2, q3, y3, y4, hT.2.2.1, hT.2.2.2]
    simp only [x_B, i_day n1.1]
  have ex : ∃ r, f_Mo_count (mi 1) (mi 4) (mi 6) (mi 7) (mi 8) (mi 9) (mi 11) (mi 16) (mi 19) p1 = some r := by
    unfold f_Mo_count f_Mo_holdsOf f_Mo_brokenOf f_Mo_weepersOf f_Mo_dayOf f_Mo_askedOf
    simp only [x_B]
    repeat refine ex_if ⟨_, rfl⟩ ?_
    exact ⟨_, rfl⟩
  obtain ⟨r, e⟩ := ex
  exact w_2 (key.trans e) e ⟨rfl, z_inv_s h0⟩
