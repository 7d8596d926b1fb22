/-! can, act, row: the deed asked for -/
theorem d_ref {P : Nat} (hP : P ≤ 3) (p1 p2 p3 : Int32) : (∃ e : Int32, f_SS_refusal (nI P) p1 p2 p3 = some e ∧ f_Mo_deedOf (nI P) p1 p2 p3 = some e ∧ e ≠ 0 ∧ ¬ 0 ≤ e) ∨ (∃ p q w, p < P ∧ q < 5 ∧ w < 3 ∧ (q = 0 → w < P ∧ w ≠ p) ∧ (q = 2 → w < 2) ∧ (q = 0 ∨ q = 2 → p3 = nI w) ∧ p1 = nI p ∧ p2 = nI q ∧ f_SS_refusal (nI P) p1 p2 p3 = some 0 ∧ f_Mo_deedOf (nI P) p1 p2 p3 = some (nI (z_D p q w))) := by
  rcases z_smal (p := p1) P (by omega) with hneg | ⟨p, hp, rfl⟩ | ⟨p, hp, hp', rfl⟩
  · left
    refine ⟨-2, ?_, ?_, by decide, by decide⟩
    · unfold f_SS_refusal
      exact e_B (t_hasPersonN hneg) (e_T rfl rfl)
    · unfold f_Mo_deedOf
      exact e_B (m_isPersonN hneg) (e_T rfl rfl)
  · have a1 := t_hasPerson (P := P) (p := p) (by omega) (by omega)
    have b1 := m_isPerson (P := P) (n := p) (by omega) (by omega)
    rw [decide_eq_true hp] at a1 b1
    rcases z_smal (p := p2) 5 (by omega) with hneg | ⟨q, hq, rfl⟩ | ⟨q, hq, hq', rfl⟩
    · left
      refine ⟨-3, ?_, ?_, by decide, by decide⟩
      · unfold f_SS_refusal f_SS_refusal_J30 f_SS_refusal_J47
        refine e_B a1 ?_
        refine e_F (by decide) ?_
        refine e_F (fun e => by rw [e] at hneg; exact absurd hneg (by decide)) ?_
        refine e_F (fun e => by rw [e] at hneg; exact absurd hneg (by decide)) ?_
        exact e_T hneg rfl
      · unfold f_Mo_deedOf
        refine e_B b1 ?_
        refine e_F (by decide) ?_
        exact e_B (m_inneg hneg (a := 0) (by decide) (lN 4)) (e_T rfl rfl)
    · have b2 := m_in0N (v := q) (b := 4) (by omega) (by decide)
      rw [decide_eq_true (by omega)] at b2
      have fin : q ≠ 0 → q ≠ 2 → (f_SS_refusal (nI P) (nI p) (nI q) p3 = some 0 ∧ f_Mo_deedOf (nI P) (nI p) (nI q) p3 = some (nI (z_D p q 0))) := by
        intro h0 h2
        constructor
        · unfold f_SS_refusal f_SS_refusal_J30 f_SS_refusal_J47
          refine e_B a1 ?_
          refine e_F (by decide) ?_
          refine e_F (nI_ne0 (by omega) (by omega)) ?_
          refine e_F (by simp (disch := omega) only [q_lit, q_ofn, nI_add, q_mul, q_sub, q_shrm, q_shlm, q_a31s, q_a1, q_a3, q_a7, q_a65535, q_div, q_rem2, z_mm, nI_clamp, Nat.reduceMul, Nat.reduceAdd, Nat.reduceSub, Nat.reducePow, Nat.reduceMod, Nat.reduceDiv, Nat.one_mul, nI_ltI, nI_leI, nI_eq, q_b0, q_b1, q_m1lt, q_m1le, q_ltm1, q_lem1, q_eqm1, q_m1eq, not_true_eq_false, not_false_eq_true, reduceCtorEq, *] <;> first | omega | decide) ?_
          refine e_F (nI_pos (by omega)) ?_
          exact e_T (by simp (disch := omega) only [q_lit, q_ofn, nI_add, q_mul, q_sub, q_shrm, q_shlm, q_a31s, q_a1, q_a3, q_a7, q_a65535, q_div, q_rem2, z_mm, nI_clamp, Nat.reduceMul, Nat.reduceAdd, Nat.reduceSub, Nat.reducePow, Nat.reduceMod, Nat.reduceDiv, Nat.one_mul, nI_ltI, nI_leI, nI_eq, q_b0, q_b1, q_m1lt, q_m1le, q_ltm1, q_lem1, q_eqm1, q_m1eq, not_true_eq_false, not_false_eq_true, reduceCtorEq, *] <;> first | omega | decide) rfl
        · unfold f_Mo_deedOf f_Mo_deedOf_J43 f_Mo_deedOf_J61 z_D
          refine e_B b1 ?_
          refine e_F (by decide) ?_
          refine e_B b2 ?_
          refine e_F (by decide) ?_
          refine e_F (nI_ne0 (by omega) (by omega)) ?_
          refine e_F (by simp (disch := omega) only [q_lit, q_ofn, nI_add, q_mul, q_sub, q_shrm, q_shlm, q_a31s, q_a1, q_a3, q_a7, q_a65535, q_div, q_rem2, z_mm, nI_clamp, Nat.reduceMul, Nat.reduceAdd, Nat.reduceSub, Nat.reducePow, Nat.reduceMod, Nat.reduceDiv, Nat.one_mul, nI_ltI, nI_leI, nI_eq, q_b0, q_b1, q_m1lt, q_m1le, q_ltm1, q_lem1, q_eqm1, q_m1eq, not_true_eq_false, not_false_eq_true, reduceCtorEq, *] <;> first | omega | decide) ?_
          refine e_F (nI_ne0 (by omega) (by omega)) ?_
          rw [if_neg h0]
          by_cases h1 : q = 1
          · subst h1
            refine e_T rfl ?_
            simp (disch := omega) only [q_lit, q_ofn, nI_add, q_mul, q_sub, q_shrm, q_shlm, q_a31s, q_a1, q_a3, q_a7, q_a65535, q_div, q_rem2, z_mm, nI_clamp, Nat.reduceMul, Nat.reduceAdd, Nat.reduceSub, Nat.reducePow, Nat.reduceMod, Nat.reduceDiv, Nat.one_mul]
            rfl
          refine e_F (by simp (disch := omega) only [q_lit, q_ofn, nI_add, q_mul, q_sub, q_shrm, q_shlm, q_a31s, q_a1, q_a3, q_a7, q_a65535, q_div, q_rem2, z_mm, nI_clamp, Nat.reduceMul, Nat.reduceAdd, Nat.reduceSub, Nat.reducePow, Nat.reduceMod, Nat.reduceDiv, Nat.one_mul, nI_ltI, nI_leI, nI_eq, q_b0, q_b1, q_m1lt, q_m1le, q_ltm1, q_lem1, q_eqm1, q_m1eq, not_true_eq_false, not_false_eq_true, reduceCtorEq, *] <;> first | omega | decide) ?_
          rw [if_neg h1]
          refine e_F (by simp (disch := omega) only [q_lit, q_ofn, nI_add, q_mul, q_sub, q_shrm, q_shlm, q_a31s, q_a1, q_a3, q_a7, q_a65535, q_div, q_rem2, z_mm, nI_clamp, Nat.reduceMul, Nat.reduceAdd, Nat.reduceSub, Nat.reducePow, Nat.reduceMod, Nat.reduceDiv, Nat.one_mul, nI_ltI, nI_leI, nI_eq, q_b0, q_b1, q_m1lt, q_m1le, q_ltm1, q_lem1, q_eqm1, q_m1eq, not_true_eq_false, not_false_eq_true, reduceCtorEq, *] <;> first | omega | decide) ?_
          rw [if_neg h2]
          by_cases h3 : q = 3
          · subst h3
            refine e_T rfl ?_
            simp (disch := omega) only [q_lit, q_ofn, nI_add, q_mul, q_sub, q_shrm, q_shlm, q_a31s, q_a1, q_a3, q_a7, q_a65535, q_div, q_rem2, z_mm, nI_clamp, Nat.reduceMul, Nat.reduceAdd, Nat.reduceSub, Nat.reducePow, Nat.reduceMod, Nat.reduceDiv, Nat.one_mul]
            rfl
          refine e_F (by simp (disch := omega) only [q_lit, q_ofn, nI_add, q_mul, q_sub, q_shrm, q_shlm, q_a31s, q_a1, q_a3, q_a7, q_a65535, q_div, q_rem2, z_mm, nI_clamp, Nat.reduceMul, Nat.reduceAdd, Nat.reduceSub, Nat.reducePow, Nat.reduceMod, Nat.reduceDiv, Nat.one_mul, nI_ltI, nI_leI, nI_eq, q_b0, q_b1, q_m1lt, q_m1le, q_ltm1, q_lem1, q_eqm1, q_m1eq, not_true_eq_false, not_false_eq_true, reduceCtorEq, *] <;> first | omega | decide) ?_
          rw [if_neg h3]
          rfl
      by_cases h0 : q = 0
      · subst h0
        rcases z_smal (p := p3) P (by omega) with hneg | ⟨w, hw, rfl⟩ | ⟨w, hw, hw', rfl⟩
        · left
          refine ⟨-2, ?_, ?_, by decide, by decide⟩
          · unfold f_SS_refusal f_SS_isAnother
            refine e_B a1 ?_
            refine e_F (by decide) ?_
            refine e_T rfl ?_
            refine e_B (e_B (t_hasPersonN hneg) (e_T rfl rfl)) ?_
            exact e_T rfl rfl
          · unfold f_Mo_deedOf
            refine e_B b1 ?_
            refine e_F (by decide) ?_
            refine e_B b2 ?_
            refine e_F (by decide) ?_
            refine e_T rfl ?_
            exact e_B (m_isPersonN hneg) (e_T rfl rfl)
        · have a3 := t_hasPerson (P := P) (p := w) (by omega) (by omega)
          have b3 := m_isPerson (P := P) (n := w) (by omega) (by omega)
          rw [decide_eq_true hw] at a3 b3
          by_cases hwp : w = p
          · subst hwp
            left
            refine ⟨-2, ?_, ?_, by decide, by decide⟩
            · unfold f_SS_refusal f_SS_isAnother
              refine e_B a1 ?_
              refine e_F (by decide) ?_
              refine e_T rfl ?_
              refine e_B (e_B a3 (e_F (by decide) (e_T rfl rfl))) ?_
              exact e_T rfl rfl
            · unfold f_Mo_deedOf
              refine e_B b1 ?_
              refine e_F (by decide) ?_
              refine e_B b2 ?_
              refine e_F (by decide) ?_
              refine e_T rfl ?_
              refine e_B b3 ?_
              exact e_F (by decide) (e_T rfl rfl)
          · right
            refine ⟨p, 0, w, hp, by decide, by omega, fun _ => ⟨hw, hwp⟩, fun h => absurd h (by decide), fun _ => rfl, rfl, rfl, ?_, ?_⟩
            · unfold f_SS_refusal f_SS_isAnother f_SS_refusal_J30 f_SS_refusal_J47
              refine e_B a1 ?_
              refine e_F (by decide) ?_
              refine e_T rfl ?_
              refine e_B (e_B a3 (e_F (by decide) (e_F (by simp (disch := omega) only [q_lit, q_ofn, nI_add, q_mul, q_sub, q_shrm, q_shlm, q_a31s, q_a1, q_a3, q_a7, q_a65535, q_div, q_rem2, z_mm, nI_clamp, Nat.reduceMul, Nat.reduceAdd, Nat.reduceSub, Nat.reducePow, Nat.reduceMod, Nat.reduceDiv, Nat.one_mul, nI_ltI, nI_leI, nI_eq, q_b0, q_b1, q_m1lt, q_m1le, q_ltm1, q_lem1, q_eqm1, q_m1eq, not_true_eq_false, not_false_eq_true, reduceCtorEq, *] <;> first | omega | decide) rfl))) ?_
              refine e_F (by decide) ?_
              refine e_F (by decide) ?_
              refine e_F (by decide) ?_
              exact e_T (by decide) rfl
            · unfold f_Mo_deedOf f_Mo_deedOf_J43 f_Mo_deedOf_J61
              refine e_B b1 ?_
              refine e_F (by decide) ?_
              refine e_B b2 ?_
              refine e_F (by decide) ?_
              refine e_T rfl ?_
              refine e_B b3 ?_
              refine e_F (by decide) ?_
              refine e_F (by simp (disch := omega) only [q_lit, q_ofn, nI_add, q_mul, q_sub, q_shrm, q_shlm, q_a31s, q_a1, q_a3, q_a7, q_a65535, q_div, q_rem2, z_mm, nI_clamp, Nat.reduceMul, Nat.reduceAdd, Nat.reduceSub, Nat.reducePow, Nat.reduceMod, Nat.reduceDiv, Nat.one_mul, nI_ltI, nI_leI, nI_eq, q_b0, q_b1, q_m1lt, q_m1le, q_ltm1, q_lem1, q_eqm1, q_m1eq, not_true_eq_false, not_false_eq_true, reduceCtorEq, *] <;> first | omega | decide) ?_
              refine e_F (by decide) ?_
              refine e_T rfl ?_
              simp (disch := omega) only [q_lit, q_ofn, nI_add, q_mul, q_sub, q_shrm, q_shlm, q_a31s, q_a1, q_a3, q_a7, q_a65535, q_div, q_rem2, z_mm, nI_clamp, Nat.reduceMul, Nat.reduceAdd, Nat.reduceSub, Nat.reducePow, Nat.reduceMod, Nat.reduceDiv, Nat.one_mul]
              rfl
        · left
          have a3 := t_hasPerson (P := P) (p := w) (by omega) (by omega)
          have b3 := m_isPerson (P := P) (n := w) (by omega) (by omega)
          rw [decide_eq_false (by omega)] at a3 b3
          refine ⟨-2, ?_, ?_, by decide, by decide⟩
          · unfold f_SS_refusal f_SS_isAnother
            refine e_B a1 ?_
            refine e_F (by decide) ?_
            refine e_T rfl ?_
            refine e_B (e_B a3 (e_T rfl rfl)) ?_
            exact e_T rfl rfl
          · unfold f_Mo_deedOf
            refine e_B b1 ?_
            refine e_F (by decide) ?_
            refine e_B b2 ?_
            refine e_F (by decide) ?_
            refine e_T rfl ?_
            exact e_B b3 (e_T rfl rfl)
      by_cases h2 : q = 2
      · subst h2
        rcases z_smal (p := p3) 2 (by omega) with hneg | ⟨w, hw, rfl⟩ | ⟨w, hw, hw', rfl⟩
        · left
          refine ⟨-2, ?_, ?_, by decide, by decide⟩
          · unfold f_SS_refusal f_SS_refusal_J30
            refine e_B a1 ?_
            refine e_F (by decide) ?_
            refine e_F (by decide) ?_
            refine e_T rfl ?_
            exact e_T hneg rfl
          · unfold f_Mo_deedOf f_Mo_deedOf_J43
            refine e_B b1 ?_
            refine e_F (by decide) ?_
            refine e_B b2 ?_
            refine e_F (by decide) ?_
            refine e_F (by decide) ?_
            refine e_T rfl ?_
            exact e_B (m_inneg hneg (a := 0) (by decide) (lN 1)) (e_T rfl rfl)
        · have b3 := m_in0N (v := w) (b := 1) (by omega) (by decide)
          rw [decide_eq_true (by omega)] at b3
          right
          refine ⟨p, 2, w, hp, by decide, by omega, fun h => absurd h (by decide), fun _ => hw, fun _ => rfl, rfl, rfl, ?_, ?_⟩
          · unfold f_SS_refusal f_SS_refusal_J30 f_SS_refusal_J47
            refine e_B a1 ?_
            refine e_F (by decide) ?_
            refine e_F (by decide) ?_
            refine e_T rfl ?_
            refine e_F (nI_pos (by omega)) ?_
            refine e_T (by simp (disch := omega) only [q_lit, q_ofn, nI_add, q_mul, q_sub, q_shrm, q_shlm, q_a31s, q_a1, q_a3, q_a7, q_a65535, q_div, q_rem2, z_mm, nI_clamp, Nat.reduceMul, Nat.reduceAdd, Nat.reduceSub, Nat.reducePow, Nat.reduceMod, Nat.reduceDiv, Nat.one_mul, nI_ltI, nI_leI, nI_eq, q_b0, q_b1, q_m1lt, q_m1le, q_ltm1, q_lem1, q_eqm1, q_m1eq, not_true_eq_false, not_false_eq_true, reduceCtorEq, *] <;> first | omega | decide) ?_
            refine e_F (by decide) ?_
            exact e_T (by decide) rfl
          · unfold f_Mo_deedOf f_Mo_deedOf_J43 f_Mo_deedOf_J61
            refine e_B b1 ?_
            refine e_F (by decide) ?_
            refine e_B b2 ?_
            refine e_F (by decide) ?_
            refine e_F (by decide) ?_
            refine e_T rfl ?_
            refine e_B b3 ?_
            refine e_F (by decide) ?_
            refine e_F (by decide) ?_
            refine e_F (by decide) ?_
            refine e_T rfl ?_
            simp (disch := omega) only [q_lit, q_ofn, nI_add, q_mul, q_sub, q_shrm, q_shlm, q_a31s, q_a1, q_a3, q_a7, q_a65535, q_div, q_rem2, z_mm, nI_clamp, Nat.reduceMul, Nat.reduceAdd, Nat.reduceSub, Nat.reducePow, Nat.reduceMod, Nat.reduceDiv, Nat.one_mul]
            rfl
        · have b3 := m_in0N (v := w) (b := 1) (by omega) (by decide)
          rw [decide_eq_false (by omega)] at b3
          left
          refine ⟨-2, ?_, ?_, by decide, by decide⟩
          · unfold f_SS_refusal f_SS_refusal_J30
            refine e_B a1 ?_
            refine e_F (by decide) ?_
            refine e_F (by decide) ?_
            refine e_T rfl ?_
            refine e_F (nI_pos (by omega)) ?_
            exact e_F (by simp (disch := omega) only [q_lit, q_ofn, nI_add, q_mul, q_sub, q_shrm, q_shlm, q_a31s, q_a1, q_a3, q_a7, q_a65535, q_div, q_rem2, z_mm, nI_clamp, Nat.reduceMul, Nat.reduceAdd, Nat.reduceSub, Nat.reducePow, Nat.reduceMod, Nat.reduceDiv, Nat.one_mul, nI_ltI, nI_leI, nI_eq, q_b0, q_b1, q_m1lt, q_m1le, q_ltm1, q_lem1, q_eqm1, q_m1eq, not_true_eq_false, not_false_eq_true, reduceCtorEq, *] <;> first | omega | decide) rfl
          · unfold f_Mo_deedOf f_Mo_deedOf_J43
            refine e_B b1 ?_
            refine e_F (by decide) ?_
            refine e_B b2 ?_
            refine e_F (by decide) ?_
            refine e_F (by decide) ?_
            refine e_T rfl ?_
            exact e_B b3 (e_T rfl rfl)
      · right
        exact ⟨p, q, 0, hp, hq, by decide, fun h => absurd h h0, fun h => absurd h h2, fun h => h.elim (fun h => absurd h h0) (fun h => absurd h h2), rfl, rfl, (fin h0 h2).1, (fin h0 h2).2⟩
    · have b2 := m_in0N (v := q) (b := 4) (by omega) (by decide)
      rw [decide_eq_false (by omega)] at b2
      left
      refine ⟨-3, ?_, ?_, by decide, by decide⟩
      · unfold f_SS_refusal f_SS_refusal_J30 f_SS_refusal_J47
        refine e_B a1 ?_
        refine e_F (by decide) ?_
        refine e_F (nI_ne0 (by omega) (by omega)) ?_
        refine e_F (by simp (disch := omega) only [q_lit, q_ofn, nI_add, q_mul, q_sub, q_shrm, q_shlm, q_a31s, q_a1, q_a3, q_a7, q_a65535, q_div, q_rem2, z_mm, nI_clamp, Nat.reduceMul, Nat.reduceAdd, Nat.reduceSub, Nat.reducePow, Nat.reduceMod, Nat.reduceDiv, Nat.one_mul, nI_ltI, nI_leI, nI_eq, q_b0, q_b1, q_m1lt, q_m1le, q_ltm1, q_lem1, q_eqm1, q_m1eq, not_true_eq_false, not_false_eq_true, reduceCtorEq, *] <;> first | omega | decide) ?_
        refine e_F (nI_pos (by omega)) ?_
        exact e_F (by simp (disch := omega) only [q_lit, q_ofn, nI_add, q_mul, q_sub, q_shrm, q_shlm, q_a31s, q_a1, q_a3, q_a7, q_a65535, q_div, q_rem2, z_mm, nI_clamp, Nat.reduceMul, Nat.reduceAdd, Nat.reduceSub, Nat.reducePow, Nat.reduceMod, Nat.reduceDiv, Nat.one_mul, nI_ltI, nI_leI, nI_eq, q_b0, q_b1, q_m1lt, q_m1le, q_ltm1, q_lem1, q_eqm1, q_m1eq, not_true_eq_false, not_false_eq_true, reduceCtorEq, *] <;> first | omega | decide) rfl
      · unfold f_Mo_deedOf
        refine e_B b1 ?_
        refine e_F (by decide) ?_
        exact e_B b2 (e_T rfl rfl)
  · have a1 := t_hasPerson (P := P) (p := p) (by omega) (by omega)
    have b1 := m_isPerson (P := P) (n := p) (by omega) (by omega)
    rw [decide_eq_false (by omega)] at a1 b1
    left
    refine ⟨-2, ?_, ?_, by decide, by decide⟩
    · unfold f_SS_refusal
      exact e_B a1 (e_T rfl rfl)
    · unfold f_Mo_deedOf
      exact e_B b1 (e_T rfl rfl)
