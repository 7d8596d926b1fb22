/-! prince, tried -/
theorem z_oradd (a i : Nat) {b : Nat} (h : b < 2 ^ i) : a * 2 ^ i ||| b = a * 2 ^ i + b := by
  rw [Nat.mul_comm]; exact (Nat.two_pow_add_eq_or_of_lt h a).symm
theorem p_prince {ns k : Nat} {ci : Nat → Int32} {cf : Nat → Nat → Int32} {cl : Nat → Nat → Int64} {cn : Nat → Nat} {mi : Nat → Int32} {mf : Nat → Nat → Int32} (hk : 200000 ≤ k) (h : z_inv ns ci cf cl cn mi mf) (p1 p2 p3 : Int32) : wp (f_SS_prince k 5 (ci 7) (ci 17) (ci 24) (cf 2) (cf 17) (cf 21) (cf 24) p1 p2 p3) (fun q => wp (f_Mo_prince (mi 9) (mi 11) (mf 7) p1 p2 p3) (fun q' => q.1 = q'.1 ∧ z_inv (ns + 1) (z_u ci 7 q.2.1) (z_u cf 2 q.2.2) cl cn (z_u mi 11 q'.2.1) (z_u mf 7 q'.2.2))) := by
  have h0 := h
  obtain ⟨c, n, S, x, d, hT, ok, hdr, hml, hRU, hN, hU, hK, hR, hQ, hY, hF, hW, hl1, hl2, hb⟩ := h
  have hPe : (ci 24) = nI S.1 := hdr.2.2.1; have hSp : (ci 25) = nI S.2.1 := hdr.2.2.2.1; have hmM : (mi 6) = nI S.2.1 := hml.1; have hmP : (mi 9) = nI S.1 := hml.2.1; have hP1 := ok.1.1; have hP3 := ok.1.2.1; have hM5 := ok.1.2.2.1
  obtain ⟨wn, r1, r2, r3, r4⟩ := hQ
  have hr3 : (ci 17) = nI (z_ds S.1).length := hRU.2.2.2.2.1
  rw [hPe, hmP, r2, r3, hr3]
  have bad : ∀ r : Int32, f_SS_prince k 5 (nI wn) (nI (z_ds S.1).length) (nI S.1) (cf 2) (cf 17) (cf 21) (cf 24) p1 p2 p3 = some (r, nI wn, (cf 2)) → f_Mo_prince (nI S.1) (nI wn) (mf 7) p1 p2 p3 = some (r, nI wn, (mf 7)) → wp (f_SS_prince k 5 (nI wn) (nI (z_ds S.1).length) (nI S.1) (cf 2) (cf 17) (cf 21) (cf 24) p1 p2 p3) (fun q => wp (f_Mo_prince (nI S.1) (nI wn) (mf 7) p1 p2 p3) (fun q' => q.1 = q'.1 ∧ z_inv (ns + 1) (z_u ci 7 q.2.1) (z_u cf 2 q.2.2) cl cn (z_u mi 11 q'.2.1) (z_u mf 7 q'.2.2))) := fun r e1 e2 => w_2 e1 e2 ⟨rfl, c, n, S, x, d, hT, ok, hdr, hml, hRU, hN, hU, hK, hR, ⟨wn, r1, rfl, rfl, r4⟩, hY, hF, hW, hl1, hl2, i_bud_s hb⟩
  rcases z_smal (p := p1) S.1 (by omega) with hneg | ⟨p, hp, rfl⟩ | ⟨p, hp, hp', rfl⟩
  · refine bad (-2) ?_ ?_
    · unfold f_SS_prince
      exact e_B (t_hasPersonN hneg) (e_T rfl rfl)
    · unfold f_Mo_prince
      exact e_B (m_isPersonN hneg) (e_T rfl rfl)
  · have a1 := t_hasPerson (P := S.1) (p := p) (by omega) (by omega)
    have b1 := m_isPerson (P := S.1) (n := p) (by omega) (by omega)
    rw [decide_eq_true hp] at a1 b1
    rcases z_smal (p := p3) S.1 (by omega) with hneg | ⟨v, hv, rfl⟩ | ⟨v, hv, hv', rfl⟩
    · refine bad (-2) ?_ ?_
      · unfold f_SS_prince f_SS_isAnother
        exact e_B a1 (e_F (by decide) (e_B (e_B (t_hasPersonN hneg) (e_T rfl rfl)) (e_T rfl rfl)))
      · unfold f_Mo_prince
        exact e_B b1 (e_F (by decide) (e_B (m_isPersonN hneg) (e_T rfl rfl)))
    · have a3 := t_hasPerson (P := S.1) (p := v) (by omega) (by omega)
      have b3 := m_isPerson (P := S.1) (n := v) (by omega) (by omega)
      rw [decide_eq_true hv] at a3 b3
      by_cases hvp : v = p
      · subst hvp
        refine bad (-2) ?_ ?_
        · unfold f_SS_prince f_SS_isAnother
          exact e_B a1 (e_F (by decide) (e_B (e_B a3 (e_F (by decide) (e_T rfl rfl))) (e_T rfl rfl)))
        · unfold f_Mo_prince
          exact e_B b1 (e_F (by decide) (e_B b3 (e_F (by decide) (e_T rfl rfl))))
      · have a4 : f_SS_isAnother (nI S.1) (nI p) (nI v) = some 1 := by
          unfold f_SS_isAnother
          exact e_B a3 (e_F (by decide) (e_F (by simp (disch := omega) only [q_lit, q_ofn, nI_add, q_mul, q_sub, q_shrm, q_shlm, q_a31s, q_a1, q_a3, q_a7, q_a65535, q_div, q_rem2, z_mm, nI_clamp, Nat.reduceMul, Nat.reduceAdd, Nat.reduceSub, Nat.reducePow, Nat.reduceMod, Nat.reduceDiv, Nat.one_mul, nI_ltI, nI_leI, nI_eq, q_b0, q_b1, q_m1lt, q_m1le, q_ltm1, q_lem1, q_eqm1, q_m1eq, not_true_eq_false, not_false_eq_true, reduceCtorEq, *] <;> first | omega | decide) rfl))
        rcases z_smal (p := p2) 7 (by omega) with hneg | ⟨dy, hdy, rfl⟩ | ⟨q, hq, hq', rfl⟩
        · refine bad (-3) ?_ ?_
          · unfold f_SS_prince
            exact e_B a1 (e_F (by decide) (e_B a4 (e_F (by decide) (e_T hneg rfl))))
          · unfold f_Mo_prince
            refine e_B b1 (e_F (by decide) (e_B b3 (e_F (by decide) (e_F (by simp (disch := omega) only [q_lit, q_ofn, nI_add, q_mul, q_sub, q_shrm, q_shlm, q_a31s, q_a1, q_a3, q_a7, q_a65535, q_div, q_rem2, z_mm, nI_clamp, Nat.reduceMul, Nat.reduceAdd, Nat.reduceSub, Nat.reducePow, Nat.reduceMod, Nat.reduceDiv, Nat.one_mul, nI_ltI, nI_leI, nI_eq, q_b0, q_b1, q_m1lt, q_m1le, q_ltm1, q_lem1, q_eqm1, q_m1eq, not_true_eq_false, not_false_eq_true, reduceCtorEq, *] <;> first | omega | decide) ?_))))
            exact e_B (m_inneg hneg (a := 0) (by decide) (lN 6)) (e_T rfl rfl)
        · have b5 := m_in0N (v := dy) (b := 6) (by omega) (by decide)
          rw [decide_eq_true (by omega)] at b5
          obtain ⟨dn, hd0, ed⟩ := s_deedOf hP1 hP3 hRU.2.2.2.2 hp (q := 0) (by decide) (w := v) (by omega) (fun _ => ⟨hv, hvp⟩) (fun h => absurd h (by decide)) (fun _ => rfl) (k := k) (by omega)
          have hlen : dn < (z_ds S.1).length := (List.getElem?_eq_some_iff.mp hd0).1
          have hl19 := (z_ds_len hP1 hP3).2
          by_cases hw : wn = 5
          · subst hw
            refine bad (-5) ?_ ?_
            · unfold f_SS_prince
              refine e_B a1 (e_F (by decide) (e_B a4 (e_F (by decide) (e_F (nI_pos (by omega)) (e_T (by simp (disch := omega) only [q_lit, q_ofn, nI_add, q_mul, q_sub, q_shrm, q_shlm, q_a31s, q_a1, q_a3, q_a7, q_a65535, q_div, q_rem2, z_mm, nI_clamp, Nat.reduceMul, Nat.reduceAdd, Nat.reduceSub, Nat.reducePow, Nat.reduceMod, Nat.reduceDiv, Nat.one_mul, nI_ltI, nI_leI, nI_eq, q_b0, q_b1, q_m1lt, q_m1le, q_ltm1, q_lem1, q_eqm1, q_m1eq, not_true_eq_false, not_false_eq_true, reduceCtorEq, *] <;> first | omega | decide) (e_B ed ?_))))))
              exact e_B (t_addF (by omega) (by decide)) (e_T rfl rfl)
            · unfold f_Mo_prince
              refine e_B b1 (e_F (by decide) (e_B b3 (e_F (by decide) (e_F (by simp (disch := omega) only [q_lit, q_ofn, nI_add, q_mul, q_sub, q_shrm, q_shlm, q_a31s, q_a1, q_a3, q_a7, q_a65535, q_div, q_rem2, z_mm, nI_clamp, Nat.reduceMul, Nat.reduceAdd, Nat.reduceSub, Nat.reducePow, Nat.reduceMod, Nat.reduceDiv, Nat.one_mul, nI_ltI, nI_leI, nI_eq, q_b0, q_b1, q_m1lt, q_m1le, q_ltm1, q_lem1, q_eqm1, q_m1eq, not_true_eq_false, not_false_eq_true, reduceCtorEq, *] <;> first | omega | decide) ?_))))
              exact e_B b5 (e_F (by decide) (e_T rfl rfl))
          · have hor : (nI dn <<< ((3 : Int32) &&& 31)) ||| nI dy = nI (dn * 8 + dy) := by
              simp (disch := omega) only [q_lit, q_ofn, nI_add, q_mul, q_sub, q_shrm, q_shlm, q_a31s, q_a1, q_a3, q_a7, q_a65535, q_div, q_rem2, z_mm, nI_clamp, Nat.reduceMul, Nat.reduceAdd, Nat.reduceSub, Nat.reducePow, Nat.reduceMod, Nat.reduceDiv, Nat.one_mul]
              rw [q_or]
              congr 1
              exact z_oradd dn 3 (by omega)
            refine w_2 (r1 := (nI (wn + 1), nI (wn + 1), upd (cf 2) wn (nI (dn * 8 + dy)))) (r2 := (nI (wn + 1), nI (wn + 1), upd (upd (upd (mf 7) (3 * wn) (nI p)) (3 * wn + 1) (nI dy)) (3 * wn + 2) (nI v))) ?_ ?_ ⟨rfl, c, n, S, x, d, hT, ok, hdr, hml, hRU, hN, hU, hK, hR, ⟨wn + 1, by omega, rfl, rfl, ?_⟩, hY, hF, hW, hl1, hl2, i_bud_s hb⟩
            · unfold f_SS_prince f_Rw_size
              refine e_B a1 (e_F (by decide) (e_B a4 (e_F (by decide) (e_F (nI_pos (by omega)) (e_T (by simp (disch := omega) only [q_lit, q_ofn, nI_add, q_mul, q_sub, q_shrm, q_shlm, q_a31s, q_a1, q_a3, q_a7, q_a65535, q_div, q_rem2, z_mm, nI_clamp, Nat.reduceMul, Nat.reduceAdd, Nat.reduceSub, Nat.reducePow, Nat.reduceMod, Nat.reduceDiv, Nat.one_mul, nI_ltI, nI_leI, nI_eq, q_b0, q_b1, q_m1lt, q_m1le, q_ltm1, q_lem1, q_eqm1, q_m1eq, not_true_eq_false, not_false_eq_true, reduceCtorEq, *] <;> first | omega | decide) (e_B ed ?_))))))
              rw [hor]
              exact e_B (t_add (by omega) (by decide)) (e_F (by decide) rfl)
            · unfold f_Mo_prince
              refine e_B b1 (e_F (by decide) (e_B b3 (e_F (by decide) (e_F (by simp (disch := omega) only [q_lit, q_ofn, nI_add, q_mul, q_sub, q_shrm, q_shlm, q_a31s, q_a1, q_a3, q_a7, q_a65535, q_div, q_rem2, z_mm, nI_clamp, Nat.reduceMul, Nat.reduceAdd, Nat.reduceSub, Nat.reducePow, Nat.reduceMod, Nat.reduceDiv, Nat.one_mul, nI_ltI, nI_leI, nI_eq, q_b0, q_b1, q_m1lt, q_m1le, q_ltm1, q_lem1, q_eqm1, q_m1eq, not_true_eq_false, not_false_eq_true, reduceCtorEq, *] <;> first | omega | decide) ?_))))
              refine e_B b5 (e_F (by decide) (e_F (by simp (disch := omega) only [q_lit, q_ofn, nI_add, q_mul, q_sub, q_shrm, q_shlm, q_a31s, q_a1, q_a3, q_a7, q_a65535, q_div, q_rem2, z_mm, nI_clamp, Nat.reduceMul, Nat.reduceAdd, Nat.reduceSub, Nat.reducePow, Nat.reduceMod, Nat.reduceDiv, Nat.one_mul, nI_ltI, nI_leI, nI_eq, q_b0, q_b1, q_m1lt, q_m1le, q_ltm1, q_lem1, q_eqm1, q_m1eq, not_true_eq_false, not_false_eq_true, reduceCtorEq, *] <;> first | omega | decide) ?_))
              refine e_C (i := 3 * wn) (by first | (with_reducible rfl) | (simp (disch := omega) only [q_lit, q_ofn, nI_add, q_mul, q_sub, q_shrm, q_shlm, q_a31s, q_a1, q_a3, q_a7, q_a65535, q_div, q_rem2, z_mm, nI_clamp, Nat.reduceMul, Nat.reduceAdd, Nat.reduceSub, Nat.reducePow, Nat.reduceMod, Nat.reduceDiv, Nat.one_mul]; done) | (simp (disch := omega) only [q_lit, q_ofn, nI_add, q_mul, q_sub, q_shrm, q_shlm, q_a31s, q_a1, q_a3, q_a7, q_a65535, q_div, q_rem2, z_mm, nI_clamp, Nat.reduceMul, Nat.reduceAdd, Nat.reduceSub, Nat.reducePow, Nat.reduceMod, Nat.reduceDiv, Nat.one_mul]; with_reducible rfl)) (by omega) (by first | decide | omega) ?_
              refine e_C (i := 3 * wn + 1) (by first | (with_reducible rfl) | (simp (disch := omega) only [q_lit, q_ofn, nI_add, q_mul, q_sub, q_shrm, q_shlm, q_a31s, q_a1, q_a3, q_a7, q_a65535, q_div, q_rem2, z_mm, nI_clamp, Nat.reduceMul, Nat.reduceAdd, Nat.reduceSub, Nat.reducePow, Nat.reduceMod, Nat.reduceDiv, Nat.one_mul]; done) | (simp (disch := omega) only [q_lit, q_ofn, nI_add, q_mul, q_sub, q_shrm, q_shlm, q_a31s, q_a1, q_a3, q_a7, q_a65535, q_div, q_rem2, z_mm, nI_clamp, Nat.reduceMul, Nat.reduceAdd, Nat.reduceSub, Nat.reducePow, Nat.reduceMod, Nat.reduceDiv, Nat.one_mul]; with_reducible rfl)) (by omega) (by first | decide | omega) ?_
              refine e_C (i := 3 * wn + 2) (by first | (with_reducible rfl) | (simp (disch := omega) only [q_lit, q_ofn, nI_add, q_mul, q_sub, q_shrm, q_shlm, q_a31s, q_a1, q_a3, q_a7, q_a65535, q_div, q_rem2, z_mm, nI_clamp, Nat.reduceMul, Nat.reduceAdd, Nat.reduceSub, Nat.reducePow, Nat.reduceMod, Nat.reduceDiv, Nat.one_mul]; done) | (simp (disch := omega) only [q_lit, q_ofn, nI_add, q_mul, q_sub, q_shrm, q_shlm, q_a31s, q_a1, q_a3, q_a7, q_a65535, q_div, q_rem2, z_mm, nI_clamp, Nat.reduceMul, Nat.reduceAdd, Nat.reduceSub, Nat.reducePow, Nat.reduceMod, Nat.reduceDiv, Nat.one_mul]; with_reducible rfl)) (by omega) (by first | decide | omega) ?_
              refine e_L ?_
              simp (disch := omega) only [q_lit, q_ofn, nI_add, q_mul, q_sub, q_shrm, q_shlm, q_a31s, q_a1, q_a3, q_a7, q_a65535, q_div, q_rem2, z_mm, nI_clamp, Nat.reduceMul, Nat.reduceAdd, Nat.reduceSub, Nat.reducePow, Nat.reduceMod, Nat.reduceDiv, Nat.one_mul]
            · intro i hi
              show ∃ d p' dy' v', (z_ds S.1)[d]? = some (7 * p' + v') ∧ p' < S.1 ∧ v' < S.1 ∧ v' ≠ p' ∧ dy' < 7 ∧ upd (cf 2) wn (nI (dn * 8 + dy)) i = nI (d * 8 + dy') ∧ (upd (upd (upd (mf 7) (3 * wn) (nI p)) (3 * wn + 1) (nI dy)) (3 * wn + 2) (nI v)) (3 * i) = nI p' ∧ (upd (upd (upd (mf 7) (3 * wn) (nI p)) (3 * wn + 1) (nI dy)) (3 * wn + 2) (nI v)) (3 * i + 1) = nI dy' ∧ (upd (upd (upd (mf 7) (3 * wn) (nI p)) (3 * wn + 1) (nI dy)) (3 * wn + 2) (nI v)) (3 * i + 2) = nI v'
              by_cases hiw : i = wn
              · subst hiw
                refine ⟨dn, p, dy, v, hd0, hp, hv, hvp, hdy, z_upd_s, ?_, ?_, z_upd_s⟩
                · rw [z_upd_n (by omega), z_upd_n (by omega), z_upd_s]
                · rw [z_upd_n (by omega), z_upd_s]
              · obtain ⟨d', p', dy', v', g1, g2, g3, g4, g5, g6, g7, g8, g9⟩ := r4 i (by omega)
                refine ⟨d', p', dy', v', g1, g2, g3, g4, g5, ?_, ?_, ?_, ?_⟩
                · rw [z_upd_n hiw]; exact g6
                · rw [z_upd_n (by omega), z_upd_n (by omega), z_upd_n (by omega)]; exact g7
                · rw [z_upd_n (by omega), z_upd_n (by omega), z_upd_n (by omega)]; exact g8
                · rw [z_upd_n (by omega), z_upd_n (by omega), z_upd_n (by omega)]; exact g9
        · have b5 := m_in0N (v := q) (b := 6) (by omega) (by decide)
          rw [decide_eq_false (by omega)] at b5
          refine bad (-3) ?_ ?_
          · unfold f_SS_prince
            exact e_B a1 (e_F (by decide) (e_B a4 (e_F (by decide) (e_F (nI_pos (by omega)) (e_F (by simp (disch := omega) only [q_lit, q_ofn, nI_add, q_mul, q_sub, q_shrm, q_shlm, q_a31s, q_a1, q_a3, q_a7, q_a65535, q_div, q_rem2, z_mm, nI_clamp, Nat.reduceMul, Nat.reduceAdd, Nat.reduceSub, Nat.reducePow, Nat.reduceMod, Nat.reduceDiv, Nat.one_mul, nI_ltI, nI_leI, nI_eq, q_b0, q_b1, q_m1lt, q_m1le, q_ltm1, q_lem1, q_eqm1, q_m1eq, not_true_eq_false, not_false_eq_true, reduceCtorEq, *] <;> first | omega | decide) rfl)))))
          · unfold f_Mo_prince
            refine e_B b1 (e_F (by decide) (e_B b3 (e_F (by decide) (e_F (by simp (disch := omega) only [q_lit, q_ofn, nI_add, q_mul, q_sub, q_shrm, q_shlm, q_a31s, q_a1, q_a3, q_a7, q_a65535, q_div, q_rem2, z_mm, nI_clamp, Nat.reduceMul, Nat.reduceAdd, Nat.reduceSub, Nat.reducePow, Nat.reduceMod, Nat.reduceDiv, Nat.one_mul, nI_ltI, nI_leI, nI_eq, q_b0, q_b1, q_m1lt, q_m1le, q_ltm1, q_lem1, q_eqm1, q_m1eq, not_true_eq_false, not_false_eq_true, reduceCtorEq, *] <;> first | omega | decide) ?_))))
            exact e_B b5 (e_T rfl rfl)
    · have a3 := t_hasPerson (P := S.1) (p := v) (by omega) (by omega)
      have b3 := m_isPerson (P := S.1) (n := v) (by omega) (by omega)
      rw [decide_eq_false (by omega)] at a3 b3
      refine bad (-2) ?_ ?_
      · unfold f_SS_prince f_SS_isAnother
        exact e_B a1 (e_F (by decide) (e_B (e_B a3 (e_T rfl rfl)) (e_T rfl rfl)))
      · unfold f_Mo_prince
        exact e_B b1 (e_F (by decide) (e_B b3 (e_T rfl rfl)))
  · have a1 := t_hasPerson (P := S.1) (p := p) (by omega) (by omega)
    have b1 := m_isPerson (P := S.1) (n := p) (by omega) (by omega)
    rw [decide_eq_false (by omega)] at a1 b1
    refine bad (-2) ?_ ?_
    · unfold f_SS_prince
      exact e_B a1 (e_T rfl rfl)
    · unfold f_Mo_prince
      exact e_B b1 (e_T rfl rfl)
