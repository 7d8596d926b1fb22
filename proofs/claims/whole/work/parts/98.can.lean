/-! can, row, act -/
theorem nI_ge0 {n : Nat} (h : n < 2 ^ 31) : (0 : Int32) ≤ nI n := Int32.not_lt.mp (nI_pos h)
theorem p_can {ns k : Nat} {ci : Nat → Int32} {cf : Nat → Nat → Int32} {cl : Nat → Nat → Int64} {cn : Nat → Nat} {mi : Nat → Int32} {mf : Nat → Nat → Int32} (hk : 200000 ≤ k) (h : z_inv ns ci cf cl cn mi mf) (p1 p2 p3 : Int32) : wp (f_SS_can k (ci 17) (ci 19) (ci 20) (ci 24) (cf 12) (cf 13) (cf 15) (cf 17) (cf 18) (cf 19) (cf 20) (cf 21) (cf 22) (cf 23) (cf 24) p1 p2 p3) (fun q => wp (f_Mo_can k (mi 6) (mi 7) (mi 9) (mf 11) p1 p2 p3) (fun q' => q = q' ∧ z_inv (ns + 1) ci cf cl cn mi mf)) := by
  have h0 := h
  obtain ⟨c, n, S, x, d, hT, ok, hdr, hml, hRU, hN, hU, hK, hR, hQ, hY, hF, hW, hl1, hl2, hb⟩ := h
  have hPe : (ci 24) = nI S.1 := hdr.2.2.1; have hSp : (ci 25) = nI S.2.1 := hdr.2.2.2.1; have hmM : (mi 6) = nI S.2.1 := hml.1; have hmP : (mi 9) = nI S.1 := hml.2.1; have hP1 := ok.1.1; have hP3 := ok.1.2.1; have hM5 := ok.1.2.2.1
  obtain ⟨n1, n2, n3, n4, n5, n6⟩ := hN
  have hr2 : (ci 19) = nI S.2.1 := hRU.2.1
  have hr3 : (ci 17) = nI (z_ds S.1).length := hRU.2.2.2.2.1
  rw [hPe, hmP, hmM, n3, n5, hr2, hr3]
  rcases d_ref hP3 p1 p2 p3 with ⟨e, e1, e2, e3, e4⟩ | ⟨p, q, w, d1, d2, d3, d4, d5, d6, rfl, rfl, e1, e2⟩
  · refine w_2 (r1 := e) (r2 := e) ?_ ?_ ⟨rfl, z_inv_s h0⟩
    · unfold f_SS_can
      exact e_B e1 (e_F e3 rfl)
    · unfold f_Mo_can
      exact e_B e2 (e_F e4 rfl)
  · obtain ⟨dn, hd0, ed⟩ := s_deedOf hP1 hP3 hRU.2.2.2.2 d1 d2 d3 d4 d5 d6 (k := k) (by omega); have hlen : dn < (z_ds S.1).length := (List.getElem?_eq_some_iff.mp hd0).1; have hdd : z_dd S.1 dn = z_D p q w := Option.some.inj ((z_dd_at hlen).symm.trans hd0); have hD := z_dd_mem hlen; rw [hdd] at hD; have ea := s_after ok.1 hRU.2.2.1 (z_RB_of ok.1 hRU.2.2.2.2) (k := k) (by omega) n1 hlen; rw [hdd] at ea
    have em := m_can ok.1 hml.2.2.2.2 (k := k) (x := x) (D := z_D p q w) (by omega) (by have := n1.1; omega) hD.1
    have hV := z_beh_V ok.1 n1 hD.1
    refine w_2 (r1 := nI (z_can S.1 S.2.1 S.2.2.2.2 x (z_D p q w)).toNat) (r2 := nI (z_can S.1 S.2.1 S.2.2.2.2 x (z_D p q w)).toNat) ?_ ?_ ⟨rfl, z_inv_s h0⟩
    · unfold f_SS_can f_SS_can_J47 f_SS_oneIf
      refine e_B e1 ?_
      refine e_T rfl ?_
      refine e_B ed ?_
      refine e_B ea ?_
      by_cases hc : z_can S.1 S.2.1 S.2.2.2.2 x (z_D p q w) = true
      · rw [if_pos hc, hc]
        have := (hV hc).2
        have := (hV hc).1.1
        refine e_F ((q_eqm1 (by omega)).mp) ?_
        exact e_B (e_F (by decide) rfl) rfl
      · rw [if_neg hc, Bool.eq_false_iff.mpr hc]
        refine e_T rfl ?_
        exact e_B (e_T rfl rfl) rfl
    · unfold f_Mo_can
      refine e_B e2 ?_
      refine e_T (nI_ge0 (by omega)) ?_
      refine e_B em ?_
      cases z_can S.1 S.2.1 S.2.2.2.2 x (z_D p q w)
      · exact e_T rfl rfl
      · exact e_F (by decide) rfl
theorem p_row {ns k : Nat} {ci : Nat → Int32} {cf : Nat → Nat → Int32} {cl : Nat → Nat → Int64} {cn : Nat → Nat} {mi : Nat → Int32} {mf : Nat → Nat → Int32} (hk : 200000 ≤ k) (h : z_inv ns ci cf cl cn mi mf) (p1 p2 p3 : Int32) : wp (f_SS_row k 12 (ci 16) (ci 17) (ci 24) (cf 11) (cf 17) (cf 21) (cf 24) p1 p2 p3) (fun q => wp (f_Mo_row (mi 9) (mi 16) (mf 10) p1 p2 p3) (fun q' => q.1 = q'.1 ∧ z_inv (ns + 1) (z_u ci 16 q.2.1) (z_u cf 11 q.2.2) cl cn (z_u mi 16 q'.2.1) (z_u mf 10 q'.2.2))) := by
  have h0 := h
  obtain ⟨c, n, S, x, d, hT, ok, hdr, hml, hRU, hN, hU, hK, hR, hQ, hY, hF, hW, hl1, hl2, hb⟩ := h
  have hPe : (ci 24) = nI S.1 := hdr.2.2.1; have hSp : (ci 25) = nI S.2.1 := hdr.2.2.2.1; have hmM : (mi 6) = nI S.2.1 := hml.1; have hmP : (mi 9) = nI S.1 := hml.2.1; have hP1 := ok.1.1; have hP3 := ok.1.2.1; have hM5 := ok.1.2.2.1
  obtain ⟨wn, r1, r2, r3, r4⟩ := hR
  have n1 := hN.1
  have hr3 : (ci 17) = nI (z_ds S.1).length := hRU.2.2.2.2.1
  rw [hPe, hmP, r2, r3, hr3]
  rcases d_ref hP3 p1 p2 p3 with ⟨e, e1, e2, e3, e4⟩ | ⟨p, q, w, d1, d2, d3, d4, d5, d6, rfl, rfl, e1, e2⟩
  · refine w_2 (r1 := (e, nI wn, (cf 11))) (r2 := (e, nI wn, (mf 10))) ?_ ?_ ⟨rfl, c, n, S, x, d, hT, ok, hdr, hml, hRU, hN, hU, hK, ⟨wn, r1, rfl, rfl, r4⟩, hQ, hY, hF, hW, hl1, hl2, i_bud_s hb⟩
    · unfold f_SS_row
      exact e_B e1 (e_F e3 rfl)
    · unfold f_Mo_row
      exact e_B e2 (e_F e4 rfl)
  · obtain ⟨dn, hd0, ed⟩ := s_deedOf hP1 hP3 hRU.2.2.2.2 d1 d2 d3 d4 d5 d6 (k := k) (by omega); have hlen : dn < (z_ds S.1).length := (List.getElem?_eq_some_iff.mp hd0).1; have hdd : z_dd S.1 dn = z_D p q w := Option.some.inj ((z_dd_at hlen).symm.trans hd0); have hD := z_dd_mem hlen; rw [hdd] at hD; have ea := s_after ok.1 hRU.2.2.1 (z_RB_of ok.1 hRU.2.2.2.2) (k := k) (by omega) n1 hlen; rw [hdd] at ea
    by_cases hw : wn = 12
    · subst hw
      refine w_2 (r1 := (-5, nI 12, (cf 11))) (r2 := (-5, nI 12, (mf 10))) ?_ ?_ ⟨rfl, c, n, S, x, d, hT, ok, hdr, hml, hRU, hN, hU, hK, ⟨12, r1, rfl, rfl, r4⟩, hQ, hY, hF, hW, hl1, hl2, i_bud_s hb⟩
      · unfold f_SS_row
        refine e_B e1 ?_
        refine e_T rfl ?_
        refine e_B ed ?_
        exact e_B (t_addF (by omega) (by decide)) (e_T rfl rfl)
      · unfold f_Mo_row
        refine e_B e2 ?_
        refine e_T (nI_ge0 (by omega)) ?_
        exact e_T rfl rfl
    · refine w_2 (r1 := (nI (wn + 1), nI (wn + 1), upd (cf 11) wn (nI dn))) (r2 := (nI (wn + 1), nI (wn + 1), upd (mf 10) wn (nI (z_D p q w)))) ?_ ?_ ⟨rfl, c, n, S, x, d, hT, ok, hdr, hml, hRU, hN, hU, hK, ⟨wn + 1, by omega, rfl, rfl, ?_⟩, hQ, hY, hF, hW, hl1, hl2, i_bud_s hb⟩
      · unfold f_SS_row f_Rw_size
        refine e_B e1 ?_
        refine e_T rfl ?_
        refine e_B ed ?_
        refine e_B (t_add (by omega) (by decide)) ?_
        exact e_F (by decide) rfl
      · unfold f_Mo_row
        refine e_B e2 ?_
        refine e_T (nI_ge0 (by omega)) ?_
        refine e_F (by simp (disch := omega) only [q_lit, q_ofn, nI_add, q_mul, q_sub, q_shrm, q_shlm, q_a31s, q_a1, q_a3, q_a7, q_a65535, q_div, q_rem2, z_mm, nI_clamp, Nat.reduceMul, Nat.reduceAdd, Nat.reduceSub, Nat.reducePow, Nat.reduceMod, Nat.reduceDiv, Nat.one_mul, nI_ltI, nI_leI, nI_eq, q_b0, q_b1, q_m1lt, q_m1le, q_ltm1, q_lem1, q_eqm1, q_m1eq, not_true_eq_false, not_false_eq_true, reduceCtorEq, *] <;> first | omega | decide) ?_
        refine e_C (i := wn) (by first | (with_reducible rfl) | (simp (disch := omega) only [q_lit, q_ofn, nI_add, q_mul, q_sub, q_shrm, q_shlm, q_a31s, q_a1, q_a3, q_a7, q_a65535, q_div, q_rem2, z_mm, nI_clamp, Nat.reduceMul, Nat.reduceAdd, Nat.reduceSub, Nat.reducePow, Nat.reduceMod, Nat.reduceDiv, Nat.one_mul]; done) | (simp (disch := omega) only [q_lit, q_ofn, nI_add, q_mul, q_sub, q_shrm, q_shlm, q_a31s, q_a1, q_a3, q_a7, q_a65535, q_div, q_rem2, z_mm, nI_clamp, Nat.reduceMul, Nat.reduceAdd, Nat.reduceSub, Nat.reducePow, Nat.reduceMod, Nat.reduceDiv, Nat.one_mul]; with_reducible rfl)) (by omega) (by first | decide | omega) ?_
        refine e_L ?_
        rw [nI_clamp (by omega)]
        simp only [q_lit, nI_add]
      · intro i hi
        show ∃ d D, (z_ds S.1)[d]? = some D ∧ upd (cf 11) wn (nI dn) i = nI d ∧ upd (mf 10) wn (nI (z_D p q w)) i = nI D
        by_cases hiw : i = wn
        · subst hiw
          exact ⟨dn, _, hd0, z_upd_s, z_upd_s⟩
        · rw [z_upd_n hiw, z_upd_n hiw]
          exact r4 i (by omega)
theorem t_drop_L : ∀ r i k (f : Nat → Int32), i + r = 8 → 1 ≤ i → r < k → wp (f_Rw_dropFirst_L2 8 (nI 8) k (nI i) f) (fun g => ∀ j, g j = if i ≤ j + 1 ∧ j < 7 then f (j + 1) else f j) := by
  intro r
  induction r with
  | zero =>
    intro i k f hi h1 hk
    obtain ⟨k, rfl⟩ : ∃ k', k = k' + 1 := ⟨k - 1, by omega⟩
    have : i = 8 := by omega
    subst this
    simp only [f_Rw_dropFirst_L2]
    refine w_T (by decide) ?_
    refine w_some (fun j => ?_)
    rw [if_neg (by omega)]
  | succ r ih =>
    intro i k f hi h1 hk
    obtain ⟨k, rfl⟩ : ∃ k', k = k' + 1 := ⟨k - 1, by omega⟩
    simp only [f_Rw_dropFirst_L2]
    refine w_F (by simp (disch := omega) only [q_lit, q_ofn, nI_add, q_mul, q_sub, q_shrm, q_shlm, q_a31s, q_a1, q_a3, q_a7, q_a65535, q_div, q_rem2, z_mm, nI_clamp, Nat.reduceMul, Nat.reduceAdd, Nat.reduceSub, Nat.reducePow, Nat.reduceMod, Nat.reduceDiv, Nat.one_mul, nI_ltI, nI_leI, nI_eq, q_b0, q_b1, q_m1lt, q_m1le, q_ltm1, q_lem1, q_eqm1, q_m1eq, not_true_eq_false, not_false_eq_true, reduceCtorEq, *] <;> first | omega | decide) ?_
    refine w_F (by simp (disch := omega) only [q_lit, q_ofn, nI_add, q_mul, q_sub, q_shrm, q_shlm, q_a31s, q_a1, q_a3, q_a7, q_a65535, q_div, q_rem2, z_mm, nI_clamp, Nat.reduceMul, Nat.reduceAdd, Nat.reduceSub, Nat.reducePow, Nat.reduceMod, Nat.reduceDiv, Nat.one_mul, nI_ltI, nI_leI, nI_eq, q_b0, q_b1, q_m1lt, q_m1le, q_ltm1, q_lem1, q_eqm1, q_m1eq, not_true_eq_false, not_false_eq_true, reduceCtorEq, *] <;> first | omega | decide) ?_
    refine w_I (i := i) (by first | (with_reducible rfl) | (simp (disch := omega) only [q_lit, q_ofn, nI_add, q_mul, q_sub, q_shrm, q_shlm, q_a31s, q_a1, q_a3, q_a7, q_a65535, q_div, q_rem2, z_mm, nI_clamp, Nat.reduceMul, Nat.reduceAdd, Nat.reduceSub, Nat.reducePow, Nat.reduceMod, Nat.reduceDiv, Nat.one_mul]; done) | (simp (disch := omega) only [q_lit, q_ofn, nI_add, q_mul, q_sub, q_shrm, q_shlm, q_a31s, q_a1, q_a3, q_a7, q_a65535, q_div, q_rem2, z_mm, nI_clamp, Nat.reduceMul, Nat.reduceAdd, Nat.reduceSub, Nat.reducePow, Nat.reduceMod, Nat.reduceDiv, Nat.one_mul]; with_reducible rfl)) (by omega) (by first | decide | omega) ?_
    refine w_C (i := i - 1) (by first | (with_reducible rfl) | (simp (disch := omega) only [q_lit, q_ofn, nI_add, q_mul, q_sub, q_shrm, q_shlm, q_a31s, q_a1, q_a3, q_a7, q_a65535, q_div, q_rem2, z_mm, nI_clamp, Nat.reduceMul, Nat.reduceAdd, Nat.reduceSub, Nat.reducePow, Nat.reduceMod, Nat.reduceDiv, Nat.one_mul]; done) | (simp (disch := omega) only [q_lit, q_ofn, nI_add, q_mul, q_sub, q_shrm, q_shlm, q_a31s, q_a1, q_a3, q_a7, q_a65535, q_div, q_rem2, z_mm, nI_clamp, Nat.reduceMul, Nat.reduceAdd, Nat.reduceSub, Nat.reducePow, Nat.reduceMod, Nat.reduceDiv, Nat.one_mul]; with_reducible rfl)) (by omega) (by first | decide | omega) ?_
    refine w_Ln (w := nI (i + 1)) (by simp only [q_lit, nI_add]) ?_
    rw [show nI i - 1 = nI (i - 1) by rw [show (1 : Int32) = nI 1 from rfl, q_sub (by omega)], nI_clamp (by omega)]
    refine w_mono (ih (i + 1) k _ (by omega) (by omega) (by omega)) ?_
    intro g hg j
    rw [hg j]
    by_cases hj : j + 1 = i
    · rw [if_neg (by omega), if_pos (by omega), show j = i - 1 by omega, z_upd_s, show i - 1 + 1 = i by omega]
    · by_cases hji : i ≤ j + 1 ∧ j < 7
      · rw [if_pos (by omega), if_pos hji, z_upd_n (by omega)]
      · rw [if_neg (by omega), if_neg hji, z_upd_n (by omega)]
theorem m_drop_L {v1 v2 v3 v4 v6 x4 : Int32} {sf : Nat → Int32} : ∀ r i k (f : Nat → Int32), i + r = 7 → r < k → wp (f_Mo_act_L49 v1 v2 v3 v4 (nI 8) v6 sf x4 k (nI i) f) (fun g => ∀ j, g j = if i ≤ j ∧ j < 7 then f (j + 1) else f j) := by
  intro r
  induction r with
  | zero =>
    intro i k f hi hk
    obtain ⟨k, rfl⟩ : ∃ k', k = k' + 1 := ⟨k - 1, by omega⟩
    have : i = 7 := by omega
    subst this
    simp only [f_Mo_act_L49]
    refine w_T (by decide) ?_
    refine w_some (fun j => ?_)
    rw [if_neg (by omega)]
  | succ r ih =>
    intro i k f hi hk
    obtain ⟨k, rfl⟩ : ∃ k', k = k' + 1 := ⟨k - 1, by omega⟩
    simp only [f_Mo_act_L49]
    refine w_F (by simp (disch := omega) only [q_lit, q_ofn, nI_add, q_mul, q_sub, q_shrm, q_shlm, q_a31s, q_a1, q_a3, q_a7, q_a65535, q_div, q_rem2, z_mm, nI_clamp, Nat.reduceMul, Nat.reduceAdd, Nat.reduceSub, Nat.reducePow, Nat.reduceMod, Nat.reduceDiv, Nat.one_mul, nI_ltI, nI_leI, nI_eq, q_b0, q_b1, q_m1lt, q_m1le, q_ltm1, q_lem1, q_eqm1, q_m1eq, not_true_eq_false, not_false_eq_true, reduceCtorEq, *] <;> first | omega | decide) ?_
    refine w_T rfl ?_
    refine w_Ln (w := nI (i + 1)) (by simp only [q_lit, nI_add]) ?_
    refine w_I (i := i + 1) (by first | (with_reducible rfl) | (simp (disch := omega) only [q_lit, q_ofn, nI_add, q_mul, q_sub, q_shrm, q_shlm, q_a31s, q_a1, q_a3, q_a7, q_a65535, q_div, q_rem2, z_mm, nI_clamp, Nat.reduceMul, Nat.reduceAdd, Nat.reduceSub, Nat.reducePow, Nat.reduceMod, Nat.reduceDiv, Nat.one_mul]; done) | (simp (disch := omega) only [q_lit, q_ofn, nI_add, q_mul, q_sub, q_shrm, q_shlm, q_a31s, q_a1, q_a3, q_a7, q_a65535, q_div, q_rem2, z_mm, nI_clamp, Nat.reduceMul, Nat.reduceAdd, Nat.reduceSub, Nat.reducePow, Nat.reduceMod, Nat.reduceDiv, Nat.one_mul]; with_reducible rfl)) (by omega) (by first | decide | omega) ?_
    refine w_C (i := i) (by first | (with_reducible rfl) | (simp (disch := omega) only [q_lit, q_ofn, nI_add, q_mul, q_sub, q_shrm, q_shlm, q_a31s, q_a1, q_a3, q_a7, q_a65535, q_div, q_rem2, z_mm, nI_clamp, Nat.reduceMul, Nat.reduceAdd, Nat.reduceSub, Nat.reducePow, Nat.reduceMod, Nat.reduceDiv, Nat.one_mul]; done) | (simp (disch := omega) only [q_lit, q_ofn, nI_add, q_mul, q_sub, q_shrm, q_shlm, q_a31s, q_a1, q_a3, q_a7, q_a65535, q_div, q_rem2, z_mm, nI_clamp, Nat.reduceMul, Nat.reduceAdd, Nat.reduceSub, Nat.reducePow, Nat.reduceMod, Nat.reduceDiv, Nat.one_mul]; with_reducible rfl)) (by omega) (by first | decide | omega) ?_
    refine w_Ln (w := nI (i + 1)) (by simp only [q_lit, nI_add]) ?_
    rw [nI_clamp (by omega)]
    refine w_mono (ih (i + 1) k _ (by omega) (by omega)) ?_
    intro g hg j
    rw [hg j]
    by_cases hj : j = i
    · subst hj
      rw [if_neg (by omega), if_pos (by omega), z_upd_s]
    · by_cases hji : i ≤ j ∧ j < 7
      · rw [if_pos (by omega), if_pos hji, z_upd_n (by omega)]
      · rw [if_neg (by omega), if_neg hji, z_upd_n (by omega)]
theorem i_push {P M x d u : Nat} {uf pf : Nat → Int32} (hu : u ≤ 7) (hud : u ≤ d) (hx : z_V P M x) (h : ∀ i, i < u → ∃ y, z_V P M y ∧ uf i = nI y ∧ pf i = nI y) : i_past P M (d + 1) (nI (u + 1)) (upd uf u (nI x)) (nI (u + 1)) (upd pf u (nI x)) := by
  refine ⟨u + 1, by omega, by omega, rfl, rfl, fun i hi => ?_⟩
  by_cases hiu : i = u
  · subst hiu
    exact ⟨x, hx, z_upd_s, z_upd_s⟩
  · rw [z_upd_n hiu, z_upd_n hiu]
    exact h i (by omega)
theorem p_act {ns k : Nat} {ci : Nat → Int32} {cf : Nat → Nat → Int32} {cl : Nat → Nat → Int64} {cn : Nat → Nat} {mi : Nat → Int32} {mf : Nat → Nat → Int32} (hk : 200000 ≤ k) (h : z_inv ns ci cf cl cn mi mf) (p1 p2 p3 : Int32) : wp (f_SS_act k 8 (ci 0) (ci 17) (ci 19) (ci 20) (ci 24) (ci 29) (cf 12) (cf 13) (cf 15) (cf 17) (cf 18) (cf 19) (cf 20) (cf 21) (cf 22) (cf 23) (cf 24) (cf 34) p1 p2 p3) (fun q => wp (f_Mo_act k (mi 1) (mi 5) (mi 6) (mi 7) (mi 8) (mi 9) (mf 6) (mf 11) p1 p2 p3) (fun q' => q.1 = q'.1 ∧ z_inv (ns + 1) (z_u (z_u (z_u ci 0 q.2.1) 20 q.2.2.1) 29 q.2.2.2.1) (z_u cf 34 q.2.2.2.2) cl cn (z_u (z_u (z_u (z_u mi 1 q'.2.1) 5 q'.2.2.1) 7 q'.2.2.2.1) 8 q'.2.2.2.2.1) (z_u mf 6 q'.2.2.2.2.2))) := by
  have h0 := h
  obtain ⟨c, n, S, x, d, hT, ok, hdr, hml, hRU, hN, hU, hK, hR, hQ, hY, hF, hW, hl1, hl2, hb⟩ := h
  have hPe : (ci 24) = nI S.1 := hdr.2.2.1; have hSp : (ci 25) = nI S.2.1 := hdr.2.2.2.1; have hmM : (mi 6) = nI S.2.1 := hml.1; have hmP : (mi 9) = nI S.1 := hml.2.1; have hP1 := ok.1.1; have hP3 := ok.1.2.1; have hM5 := ok.1.2.2.1
  obtain ⟨n1, n2, n3, n4, n5, n6⟩ := hN
  obtain ⟨u, u1, u2, u3, u4, u5⟩ := hU
  have hr2 : (ci 19) = nI S.2.1 := hRU.2.1
  have hr3 : (ci 17) = nI (z_ds S.1).length := hRU.2.2.2.2.1
  rw [hPe, hmP, hmM, n3, n4, n5, n6, hr2, hr3, u3, u4]
  rcases d_ref hP3 p1 p2 p3 with ⟨e, e1, e2, e3, e4⟩ | ⟨p, q, w, d1, d2, d3, d4, d5, d6, rfl, rfl, e1, e2⟩
  · refine w_2 (r1 := (e, nI d, nI x, nI u, (cf 34))) (r2 := (e, nI d, (mi 5), nI x, nI u, (mf 6))) ?_ ?_ ⟨rfl, c, n, S, x, d, hT, ok, hdr, hml, hRU, ⟨n1, n2, rfl, rfl, rfl, rfl⟩, ⟨u, u1, u2, rfl, rfl, u5⟩, hK, hR, hQ, hY, hF, hW, hl1, hl2, i_bud_s hb⟩
    · unfold f_SS_act
      exact e_B e1 (e_F e3 rfl)
    · unfold f_Mo_act
      exact e_B e2 (e_F e4 rfl)
  · obtain ⟨dn, hd0, ed⟩ := s_deedOf hP1 hP3 hRU.2.2.2.2 d1 d2 d3 d4 d5 d6 (k := k) (by omega); have hlen : dn < (z_ds S.1).length := (List.getElem?_eq_some_iff.mp hd0).1; have hdd : z_dd S.1 dn = z_D p q w := Option.some.inj ((z_dd_at hlen).symm.trans hd0); have hD := z_dd_mem hlen; rw [hdd] at hD; have ea := s_after ok.1 hRU.2.2.1 (z_RB_of ok.1 hRU.2.2.2.2) (k := k) (by omega) n1 hlen; rw [hdd] at ea
    have em := m_can ok.1 hml.2.2.2.2 (k := k) (x := x) (D := z_D p q w) (by omega) (by have := n1.1; omega) hD.1
    by_cases hc : z_can S.1 S.2.1 S.2.2.2.2 x (z_D p q w) = true
    · rw [if_pos hc] at ea
      rw [hc] at em
      have hV := z_beh_V ok.1 n1 hD.1 hc
      have eb := m_behind ok.1 hml.2.2.2.2 (k := k) (x := x) (D := z_D p q w) (by omega) n1.1 hD.1 (z_can_ask hD.1 hc) (mi 5)
      by_cases hfull : d = 9999
      · subst hfull
        refine w_2 (r1 := (-5, nI 9999, nI x, nI u, (cf 34))) (r2 := (-5, nI 9999, (mi 5), nI x, nI u, (mf 6))) ?_ ?_ ⟨rfl, c, n, S, x, 9999, hT, ok, hdr, hml, hRU, ⟨n1, n2, rfl, rfl, rfl, rfl⟩, ⟨u, u1, u2, rfl, rfl, u5⟩, hK, hR, hQ, hY, hF, hW, hl1, hl2, i_bud_s hb⟩
        · unfold f_SS_act
          refine e_B e1 ?_
          refine e_T rfl ?_
          refine e_B ed ?_
          refine e_B ea ?_
          have := hV.2
          have := hV.1.1
          refine e_F ((q_eqm1 (by omega)).mp) ?_
          exact e_F (by decide) rfl
        · unfold f_Mo_act
          refine e_B e2 ?_
          refine e_T (nI_ge0 (by omega)) ?_
          refine e_B em ?_
          refine e_F (by decide) ?_
          exact e_T rfl rfl
      · generalize hbb : z_beh S.2.1 S.2.2.2.2 x (z_D p q w) = B at ea eb hV
        obtain ⟨y, l⟩ := B
        have hy := hV.1.1
        have hl := hV.2
        dsimp only at ea eb hV hy hl
        have key : ∀ (v : Nat) (uf pf : Nat → Int32), v ≤ 7 → f_SS_act_J79 k 8 (nI d) (nI (z_ds S.1).length) (nI S.2.1) (nI x) (nI S.1) (nI v) (cf 12) (cf 13) (cf 15) (cf 17) (cf 18) (cf 19) (cf 20) (cf 21) (cf 22) (cf 23) (cf 24) uf (nI (l * 65536 + y)) = some (nI l, nI (d + 1), nI y, nI (v + 1), upd uf v (nI x)) := by
          intro v uf pf hv
          unfold f_SS_act_J79
          refine e_B (t_add (by omega) (by decide)) ?_
          refine e_B (s_of (by omega)) ?_
          refine e_L ?_
          refine e_B (s_lifted (by omega) hl) ?_
          simp only [q_lit, nI_add]
        have mey : ∀ (s0 s1 : Int32) (v : Nat) (pf : Nat → Int32), v ≤ 7 → s1 - s0 = nI v → f_Mo_act_J106 k (nI d) (mi 5) (nI S.2.1) (nI x) (nI u) (nI S.1) pf (mf 11) (nI (z_D p q w)) s0 s1 = some (nI l, nI (d + 1), nI l, nI y, nI (v + 1), upd pf v (nI x)) := by
          intro s0 s1 v pf hv hs
          unfold f_Mo_act_J106
          refine e_L ?_
          rw [hs]
          refine e_C (i := v) (by first | (with_reducible rfl) | (simp (disch := omega) only [q_lit, q_ofn, nI_add, q_mul, q_sub, q_shrm, q_shlm, q_a31s, q_a1, q_a3, q_a7, q_a65535, q_div, q_rem2, z_mm, nI_clamp, Nat.reduceMul, Nat.reduceAdd, Nat.reduceSub, Nat.reducePow, Nat.reduceMod, Nat.reduceDiv, Nat.one_mul]; done) | (simp (disch := omega) only [q_lit, q_ofn, nI_add, q_mul, q_sub, q_shrm, q_shlm, q_a31s, q_a1, q_a3, q_a7, q_a65535, q_div, q_rem2, z_mm, nI_clamp, Nat.reduceMul, Nat.reduceAdd, Nat.reduceSub, Nat.reducePow, Nat.reduceMod, Nat.reduceDiv, Nat.one_mul]; with_reducible rfl)) (by omega) (by first | decide | omega) ?_
          refine e_L ?_
          refine e_B eb ?_
          refine e_L ?_
          rw [nI_clamp (by omega)]
          simp only [q_lit, nI_add]
        by_cases hu8 : u = 8
        · subst hu8
          have w1 : wp (f_SS_act k 8 (ci 0) (ci 17) (ci 19) (ci 20) (ci 24) (ci 29) (cf 12) (cf 13) (cf 15) (cf 17) (cf 18) (cf 19) (cf 20) (cf 21) (cf 22) (cf 23) (cf 24) (cf 34) (nI p) (nI q) p3) (fun q => ∃ uf, q = (nI l, nI (d + 1), nI y, nI 8, upd uf 7 (nI x)) ∧ ∀ i, i < 7 → uf i = (cf 34) (i + 1)) := by
            rw [hPe, n3, n4, hr2, hr3, u3]
            unfold f_SS_act f_Rw_dropFirst f_Rw_dropFirst_J39 f_Rw_dropLast
            refine w_Be e1 ?_
            refine w_T rfl ?_
            refine w_Be ed ?_
            refine w_Be ea ?_
            refine w_F ((q_eqm1 (by omega)).mp) ?_
            refine w_T (by simp (disch := omega) only [q_lit, q_ofn, nI_add, q_mul, q_sub, q_shrm, q_shlm, q_a31s, q_a1, q_a3, q_a7, q_a65535, q_div, q_rem2, z_mm, nI_clamp, Nat.reduceMul, Nat.reduceAdd, Nat.reduceSub, Nat.reducePow, Nat.reduceMod, Nat.reduceDiv, Nat.one_mul, nI_ltI, nI_leI, nI_eq, q_b0, q_b1, q_m1lt, q_m1le, q_ltm1, q_lem1, q_eqm1, q_m1eq, not_true_eq_false, not_false_eq_true, reduceCtorEq, *] <;> first | omega | decide) ?_
            refine w_Be rfl ?_
            refine w_F (by decide) ?_
            refine w_Bw (R := fun o => o.1 = nI 7 ∧ ∀ i, i < 7 → o.2 i = (cf 34) (i + 1)) ?_ ?_
            · refine w_Bw (t_drop_L 7 1 k _ rfl (by decide) (by omega)) ?_
              intro g hg
              refine w_Be rfl ?_
              refine w_some ⟨show (if nI 8 - 1 < 0 then (0 : Int32) else nI 8 - 1) = nI 7 by decide, fun i hi => ?_⟩
              show g i = _
              rw [hg i, if_pos (by omega)]
            · rintro ⟨a1, a2⟩ ⟨b1, b2⟩
              have b1 : a1 = nI 7 := b1
              subst b1
              exact ⟨_, key 7 a2 a2 (by decide), a2, rfl, b2⟩
          have w2 : wp (f_Mo_act k (mi 1) (mi 5) (mi 6) (mi 7) (mi 8) (mi 9) (mf 6) (mf 11) (nI p) (nI q) p3) (fun q => ∃ pf, q = (nI l, nI (d + 1), nI l, nI y, nI 8, upd pf 7 (nI x)) ∧ ∀ i, i < 7 → pf i = (mf 6) (i + 1)) := by
            rw [hmP, hmM, n5, n6, u4]
            unfold f_Mo_act f_Mo_act_J87
            refine w_Be e2 ?_
            refine w_T (nI_ge0 (by omega)) ?_
            refine w_Be em ?_
            refine w_F (by decide) ?_
            refine w_F (by simp (disch := omega) only [q_lit, q_ofn, nI_add, q_mul, q_sub, q_shrm, q_shlm, q_a31s, q_a1, q_a3, q_a7, q_a65535, q_div, q_rem2, z_mm, nI_clamp, Nat.reduceMul, Nat.reduceAdd, Nat.reduceSub, Nat.reducePow, Nat.reduceMod, Nat.reduceDiv, Nat.one_mul, nI_ltI, nI_leI, nI_eq, q_b0, q_b1, q_m1lt, q_m1le, q_ltm1, q_lem1, q_eqm1, q_m1eq, not_true_eq_false, not_false_eq_true, reduceCtorEq, *] <;> first | omega | decide) ?_
            refine w_Bw (m_drop_L 7 0 k _ rfl (by omega)) ?_
            intro g hg
            refine w_T rfl ?_
            refine ⟨_, mey 1 (nI 8) 7 g (by decide) (by decide), g, rfl, fun i hi => ?_⟩
            rw [hg i, if_pos (by omega)]
          rw [hPe, n3, n4, hr2, hr3, u3] at w1
          rw [hmP, hmM, n5, n6, u4] at w2
          refine w_2w w1 w2 ?_
          rintro q q' ⟨uf, rfl, huf⟩ ⟨pf, rfl, hpf⟩
          refine ⟨rfl, c, n, S, y, d + 1, hT, ok, hdr, hml, hRU, ⟨hV.1, by omega, rfl, rfl, rfl, rfl⟩, ?_, hK, hR, hQ, hY, hF, hW, hl1, hl2, i_bud_s hb⟩
          refine i_push (by decide) (by omega) n1 (fun i hi => ?_)
          obtain ⟨z, z1, z2, z3⟩ := u5 (i + 1) (by omega)
          exact ⟨z, z1, by rw [huf i hi, z2], by rw [hpf i hi, z3]⟩
        · refine w_2 (r1 := (nI l, nI (d + 1), nI y, nI (u + 1), upd (cf 34) u (nI x))) (r2 := (nI l, nI (d + 1), nI l, nI y, nI (u + 1), upd (mf 6) u (nI x))) ?_ ?_ ⟨rfl, c, n, S, y, d + 1, hT, ok, hdr, hml, hRU, ⟨hV.1, by omega, rfl, rfl, rfl, rfl⟩, i_push (by omega) u2 n1 u5, hK, hR, hQ, hY, hF, hW, hl1, hl2, i_bud_s hb⟩
          · unfold f_SS_act
            refine e_B e1 ?_
            refine e_T rfl ?_
            refine e_B ed ?_
            refine e_B ea ?_
            refine e_F ((q_eqm1 (by omega)).mp) ?_
            refine e_T (by simp (disch := omega) only [q_lit, q_ofn, nI_add, q_mul, q_sub, q_shrm, q_shlm, q_a31s, q_a1, q_a3, q_a7, q_a65535, q_div, q_rem2, z_mm, nI_clamp, Nat.reduceMul, Nat.reduceAdd, Nat.reduceSub, Nat.reducePow, Nat.reduceMod, Nat.reduceDiv, Nat.one_mul, nI_ltI, nI_leI, nI_eq, q_b0, q_b1, q_m1lt, q_m1le, q_ltm1, q_lem1, q_eqm1, q_m1eq, not_true_eq_false, not_false_eq_true, reduceCtorEq, *] <;> first | omega | decide) ?_
            unfold f_Rw_isFull
            refine e_B (q := 0) (e_T (by simp (disch := omega) only [q_lit, q_ofn, nI_add, q_mul, q_sub, q_shrm, q_shlm, q_a31s, q_a1, q_a3, q_a7, q_a65535, q_div, q_rem2, z_mm, nI_clamp, Nat.reduceMul, Nat.reduceAdd, Nat.reduceSub, Nat.reducePow, Nat.reduceMod, Nat.reduceDiv, Nat.one_mul, nI_ltI, nI_leI, nI_eq, q_b0, q_b1, q_m1lt, q_m1le, q_ltm1, q_lem1, q_eqm1, q_m1eq, not_true_eq_false, not_false_eq_true, reduceCtorEq, *] <;> first | omega | decide) rfl) ?_
            refine e_T rfl ?_
            exact key u _ (mf 6) (by omega)
          · unfold f_Mo_act f_Mo_act_J87
            refine e_B e2 ?_
            refine e_T (nI_ge0 (by omega)) ?_
            refine e_B em ?_
            refine e_F (by decide) ?_
            refine e_F (by simp (disch := omega) only [q_lit, q_ofn, nI_add, q_mul, q_sub, q_shrm, q_shlm, q_a31s, q_a1, q_a3, q_a7, q_a65535, q_div, q_rem2, z_mm, nI_clamp, Nat.reduceMul, Nat.reduceAdd, Nat.reduceSub, Nat.reducePow, Nat.reduceMod, Nat.reduceDiv, Nat.one_mul, nI_ltI, nI_leI, nI_eq, q_b0, q_b1, q_m1lt, q_m1le, q_ltm1, q_lem1, q_eqm1, q_m1eq, not_true_eq_false, not_false_eq_true, reduceCtorEq, *] <;> first | omega | decide) ?_
            obtain ⟨k', hk'⟩ : ∃ k', k = k' + 1 := ⟨k - 1, by omega⟩
            refine e_B (q := (mf 6)) ?_ ?_
            · rw [hk']
              simp only [f_Mo_act_L49]
              refine e_F (by decide) ?_
              exact e_F (by simp (disch := omega) only [q_lit, q_ofn, nI_add, q_mul, q_sub, q_shrm, q_shlm, q_a31s, q_a1, q_a3, q_a7, q_a65535, q_div, q_rem2, z_mm, nI_clamp, Nat.reduceMul, Nat.reduceAdd, Nat.reduceSub, Nat.reducePow, Nat.reduceMod, Nat.reduceDiv, Nat.one_mul, nI_ltI, nI_leI, nI_eq, q_b0, q_b1, q_m1lt, q_m1le, q_ltm1, q_lem1, q_eqm1, q_m1eq, not_true_eq_false, not_false_eq_true, reduceCtorEq, *] <;> first | omega | decide) rfl
            · refine e_F (by simp (disch := omega) only [q_lit, q_ofn, nI_add, q_mul, q_sub, q_shrm, q_shlm, q_a31s, q_a1, q_a3, q_a7, q_a65535, q_div, q_rem2, z_mm, nI_clamp, Nat.reduceMul, Nat.reduceAdd, Nat.reduceSub, Nat.reducePow, Nat.reduceMod, Nat.reduceDiv, Nat.one_mul, nI_ltI, nI_leI, nI_eq, q_b0, q_b1, q_m1lt, q_m1le, q_ltm1, q_lem1, q_eqm1, q_m1eq, not_true_eq_false, not_false_eq_true, reduceCtorEq, *] <;> first | omega | decide) ?_
              exact mey 0 (nI u) u _ (by omega) (by rw [show (0 : Int32) = nI 0 from rfl, q_sub (by omega), Nat.sub_zero])
    · rw [if_neg hc] at ea
      rw [Bool.eq_false_iff.mpr hc] at em
      refine w_2 (r1 := (-4, nI d, nI x, nI u, (cf 34))) (r2 := (-4, nI d, (mi 5), nI x, nI u, (mf 6))) ?_ ?_ ⟨rfl, c, n, S, x, d, hT, ok, hdr, hml, hRU, ⟨n1, n2, rfl, rfl, rfl, rfl⟩, ⟨u, u1, u2, rfl, rfl, u5⟩, hK, hR, hQ, hY, hF, hW, hl1, hl2, i_bud_s hb⟩
      · unfold f_SS_act
        refine e_B e1 ?_
        refine e_T rfl ?_
        refine e_B ed ?_
        refine e_B ea ?_
        exact e_T rfl rfl
      · unfold f_Mo_act
        refine e_B e2 ?_
        refine e_T (nI_ge0 (by omega)) ?_
        refine e_B em ?_
        exact e_T rfl rfl
