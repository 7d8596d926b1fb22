/-! as -/
def z_isA (kd v : Nat) : Bool := decide (v = 0) || ((decide (v = 1) && decide (kd ≠ 3)) || decide (v = kd + 2))
theorem t_isA {kd v k : Nat} (hkd : kd < 4) (hv : v < 6) (hk : 4 ≤ k) : f_Kd_isA k (nI kd) (nI v) = some (nI (z_isA kd v).toNat) := by
  obtain ⟨k, rfl⟩ : ∃ k', k = k' + 4 := ⟨k - 4, by omega⟩
  have h1 : kd = 0 ∨ kd = 1 ∨ kd = 2 ∨ kd = 3 := by omega
  have h2 : v = 0 ∨ v = 1 ∨ v = 2 ∨ v = 3 ∨ v = 4 ∨ v = 5 := by omega
  rcases h1 with rfl | rfl | rfl | rfl <;> rcases h2 with rfl | rfl | rfl | rfl | rfl | rfl <;> rfl
theorem p_as {ns k : Nat} {ci : Nat → Int32} {cf : Nat → Nat → Int32} {cl : Nat → Nat → Int64} {cn : Nat → Nat} {mi : Nat → Int32} {mf : Nat → Nat → Int32} (hk : 200000 ≤ k) (h : z_inv ns ci cf cl cn mi mf) (p1 p2 : Int32) : wp (f_SS_as k (ci 20) (ci 25) (cf 26) (cf 27) (cf 28) (cf 30) p1 p2) (fun q => wp (f_Mo_as k (mi 6) (mi 7) (mf 11) p1 p2) (fun q' => q = q' ∧ z_inv (ns + 1) ci cf cl cn mi mf)) := by
  have h0 := h
  obtain ⟨c, n, S, x, d, hT, ok, hdr, hml, hRU, hN, hU, hK, hR, hQ, hY, hF, hW, hl1, hl2, hb⟩ := h
  have hPe : (ci 24) = nI S.1 := hdr.2.2.1; have hSp : (ci 25) = nI S.2.1 := hdr.2.2.2.1; have hmM : (mi 6) = nI S.2.1 := hml.1; have hmP : (mi 9) = nI S.1 := hml.2.1; have hP1 := ok.1.1; have hP3 := ok.1.2.1; have hM5 := ok.1.2.2.1
  obtain ⟨n1, n2, n3, n4, n5, n6⟩ := hN
  have hx := n1.1
  rw [hSp, hmM, n3, n5]
  rcases z_smal (p := p1) S.2.1 (by omega) with hneg | ⟨s, hs, rfl⟩ | ⟨p, hp, hp', rfl⟩
  · refine w_2 (r1 := -2) (r2 := -2) ?_ ?_ ⟨rfl, z_inv_s h0⟩
    · unfold f_SS_as
      exact e_B (t_hasSpellN hneg) (e_T rfl rfl)
    · unfold f_Mo_as
      exact e_B (m_isSpellN hneg) (e_T rfl rfl)
  · have a1 := t_hasSpell (M := S.2.1) (s := s) hM5 (by omega)
    have b1 := m_isSpell (P := S.2.1) (n := s) (by omega) (by omega)
    rw [decide_eq_true hs] at a1 b1
    rcases z_smal (p := p2) 6 (by decide) with hneg | ⟨v, hv, rfl⟩ | ⟨v, hv, hv', rfl⟩
    · refine w_2 (r1 := -3) (r2 := -3) ?_ ?_ ⟨rfl, z_inv_s h0⟩
      · unfold f_SS_as
        exact e_B a1 (e_F (by decide) (e_T hneg rfl))
      · unfold f_Mo_as
        exact e_B b1 (e_F (by decide) (e_B (m_inneg hneg (a := 0) (by decide) (lN 5)) (e_T rfl rfl)))
    · have b2 := m_in0N (v := v) (b := 5) (by omega) (by decide)
      rw [decide_eq_true (by omega)] at b2
      obtain ⟨r1, r2⟩ := hml.2.2.2.2 s hs
      obtain ⟨c1, c2, c3, c4, c5⟩ := hdr.2.2.2.2 s hs
      have oS := ok.1.2.2.2 s hs
      have o1 := oS.1
      have o4 := oS.2.2.2.1
      have o5 := oS.2.2.2.2.1
      have c1 : (cf 26) s = nI (S.2.2.2.2 s 0) := c1
      have c3 : (cf 30) s = nI (S.2.2.2.2 s 2) := c3
      have c5 : ∀ i, i < S.2.2.2.2 s 2 → (cf 28) (3 * s + i) = nI (S.2.2.2.2 s (3 + 2 * i)) ∧ (cf 27) (3 * s + i) = nI (S.2.2.2.2 s (4 + 2 * i)) := c5
      have r10 : (mf 11) (10 * s + 0) = nI (S.2.2.2.2 s 0) := r1 0 (by omega)
      have L : ∀ r i k, i + r = S.2.2.2.2 s 2 → r < k → f_SS_termsSoNow_L4 (nI x) (nI S.2.1) (cf 27) (cf 28) (cf 30) (nI s) k (nI (z_cnt (fun i => z_so S.2.2.2.2 x s i 21) i)) (nI i) = some (nI (z_cnt (fun i => z_so S.2.2.2.2 x s i 21) (S.2.2.2.2 s 2))) := by
        intro r
        induction r with
        | zero =>
          intro i k hi hk'
          obtain ⟨k, rfl⟩ : ∃ k', k = k' + 1 := ⟨k - 1, by omega⟩
          rw [f_SS_termsSoNow_L4]
          have : i = S.2.2.2.2 s 2 := by omega
          by_cases h3 : 3 ≤ i
          · exact e_T (by simp (disch := omega) only [q_lit, q_ofn, nI_add, q_mul, q_sub, q_shrm, q_shlm, q_a31s, q_a1, q_a3, q_a7, q_a65535, q_div, q_rem2, z_mm, nI_clamp, Nat.reduceMul, Nat.reduceAdd, Nat.reduceSub, Nat.reducePow, Nat.reduceMod, Nat.reduceDiv, Nat.one_mul, nI_ltI, nI_leI, nI_eq, q_b0, q_b1, q_m1lt, q_m1le, q_ltm1, q_lem1, q_eqm1, q_m1eq, not_true_eq_false, not_false_eq_true, reduceCtorEq, *] <;> first | omega | decide) (by rw [this])
          · refine e_F (by simp (disch := omega) only [q_lit, q_ofn, nI_add, q_mul, q_sub, q_shrm, q_shlm, q_a31s, q_a1, q_a3, q_a7, q_a65535, q_div, q_rem2, z_mm, nI_clamp, Nat.reduceMul, Nat.reduceAdd, Nat.reduceSub, Nat.reducePow, Nat.reduceMod, Nat.reduceDiv, Nat.one_mul, nI_ltI, nI_leI, nI_eq, q_b0, q_b1, q_m1lt, q_m1le, q_ltm1, q_lem1, q_eqm1, q_m1eq, not_true_eq_false, not_false_eq_true, reduceCtorEq, *] <;> first | omega | decide) (e_B (t_termsOf hM5 hs _) ?_)
            rw [c3]
            exact e_T (by simp (disch := omega) only [q_lit, q_ofn, nI_add, q_mul, q_sub, q_shrm, q_shlm, q_a31s, q_a1, q_a3, q_a7, q_a65535, q_div, q_rem2, z_mm, nI_clamp, Nat.reduceMul, Nat.reduceAdd, Nat.reduceSub, Nat.reducePow, Nat.reduceMod, Nat.reduceDiv, Nat.one_mul, nI_ltI, nI_leI, nI_eq, q_b0, q_b1, q_m1lt, q_m1le, q_ltm1, q_lem1, q_eqm1, q_m1eq, not_true_eq_false, not_false_eq_true, reduceCtorEq, *] <;> first | omega | decide) (by rw [this])
        | succ r ih =>
          intro i k hi hk'
          obtain ⟨k, rfl⟩ : ∃ k', k = k' + 1 := ⟨k - 1, by omega⟩
          have hi2 : i < S.2.2.2.2 s 2 := by omega
          obtain ⟨c6, c7⟩ := c5 i hi2
          have esort := t_sortOf hM5 hs c3 o5 hi2 (cf 28)
          have enum := t_numberOf hM5 hs c3 o5 hi2 (cf 27)
          rw [c6] at esort
          rw [c7] at enum
          have eso := t_isSo (x := x) ok.1 hs hi2 hx
          rw [f_SS_termsSoNow_L4]
          refine e_F (by simp (disch := omega) only [q_lit, q_ofn, nI_add, q_mul, q_sub, q_shrm, q_shlm, q_a31s, q_a1, q_a3, q_a7, q_a65535, q_div, q_rem2, z_mm, nI_clamp, Nat.reduceMul, Nat.reduceAdd, Nat.reduceSub, Nat.reducePow, Nat.reduceMod, Nat.reduceDiv, Nat.one_mul, nI_ltI, nI_leI, nI_eq, q_b0, q_b1, q_m1lt, q_m1le, q_ltm1, q_lem1, q_eqm1, q_m1eq, not_true_eq_false, not_false_eq_true, reduceCtorEq, *] <;> first | omega | decide) (e_B (t_termsOf hM5 hs _) ?_)
          rw [c3]
          refine e_F (by simp (disch := omega) only [q_lit, q_ofn, nI_add, q_mul, q_sub, q_shrm, q_shlm, q_a31s, q_a1, q_a3, q_a7, q_a65535, q_div, q_rem2, z_mm, nI_clamp, Nat.reduceMul, Nat.reduceAdd, Nat.reduceSub, Nat.reducePow, Nat.reduceMod, Nat.reduceDiv, Nat.one_mul, nI_ltI, nI_leI, nI_eq, q_b0, q_b1, q_m1lt, q_m1le, q_ltm1, q_lem1, q_eqm1, q_m1eq, not_true_eq_false, not_false_eq_true, reduceCtorEq, *] <;> first | omega | decide) ?_
          unfold f_SS_isSoNow
          refine e_B (q := nI (z_so S.2.2.2.2 x s i 21).toNat) ?_ ?_
          · refine e_B esort (e_B enum (e_B eso ?_))
            cases z_so S.2.2.2.2 x s i 21 <;> rfl
          · refine e_B (t_oneIf _) (e_L (e_L ?_))
            rw [show (1 : Int32) = nI 1 from rfl, nI_add, nI_add]
            have := ih (i + 1) k (by omega) (by omega)
            rw [← this]
            congr 1
      have hA : f_SS_termsSoNow k (nI x) (nI S.2.1) (cf 27) (cf 28) (cf 30) (nI s) = some (nI (z_cnt (fun i => z_so S.2.2.2.2 x s i 21) (S.2.2.2.2 s 2))) := by
        unfold f_SS_termsSoNow
        exact e_B (L (S.2.2.2.2 s 2) 0 k (by omega) (by omega)) rfl
      have hB := m_soMany ok.1 hml.2.2.2.2 (k := k) (s := s) (x := x) (D := 21) (by omega) hs (by omega) (by decide)
      refine w_2 (r1 := if z_isA (S.2.2.2.2 s 0) v = true then nI (z_cnt (fun i => z_so S.2.2.2.2 x s i 21) (S.2.2.2.2 s 2)) else -4) (r2 := if z_isA (S.2.2.2.2 s 0) v = true then nI (z_cnt (fun i => z_so S.2.2.2.2 x s i 21) (S.2.2.2.2 s 2)) else -4) ?_ ?_ ⟨rfl, z_inv_s h0⟩
      · unfold f_SS_as
        refine e_B a1 (e_F (by decide) (e_F (nI_pos (by omega)) (e_T (by simp (disch := omega) only [q_lit, q_ofn, nI_add, q_mul, q_sub, q_shrm, q_shlm, q_a31s, q_a1, q_a3, q_a7, q_a65535, q_div, q_rem2, z_mm, nI_clamp, Nat.reduceMul, Nat.reduceAdd, Nat.reduceSub, Nat.reducePow, Nat.reduceMod, Nat.reduceDiv, Nat.one_mul, nI_ltI, nI_leI, nI_eq, q_b0, q_b1, q_m1lt, q_m1le, q_ltm1, q_lem1, q_eqm1, q_m1eq, not_true_eq_false, not_false_eq_true, reduceCtorEq, *] <;> first | omega | decide) (e_B (t_kindOf hM5 hs _) ?_))))
        rw [c1]
        refine e_B (t_isA (by omega) hv (by omega)) ?_
        cases z_isA (S.2.2.2.2 s 0) v
        · exact e_T rfl rfl
        · exact e_F (by decide) (e_B hA rfl)
      · have yes : ∀ (b : Bool), b = z_isA (S.2.2.2.2 s 0) v → f_Mo_as_J62 k (nI S.2.1) (nI x) (mf 11) (nI s) (nI b.toNat) = some (if z_isA (S.2.2.2.2 s 0) v = true then nI (z_cnt (fun i => z_so S.2.2.2.2 x s i 21) (S.2.2.2.2 s 2)) else -4) := by
          intro b hb
          rw [← hb]
          unfold f_Mo_as_J62
          cases b
          · exact e_T rfl rfl
          · exact e_F (by decide) (e_B hB rfl)
        unfold f_Mo_as
        refine e_B b1 (e_F (by decide) (e_B b2 (e_F (by decide) (e_L ?_))))
        refine e_I (i := 10 * s + 0) (by show _ = nI (10 * s); first | (with_reducible rfl) | (simp (disch := omega) only [q_lit, q_ofn, nI_add, q_mul, q_sub, q_shrm, q_shlm, q_a31s, q_a1, q_a3, q_a7, q_a65535, q_div, q_rem2, z_mm, nI_clamp, Nat.reduceMul, Nat.reduceAdd, Nat.reduceSub, Nat.reducePow, Nat.reduceMod, Nat.reduceDiv, Nat.one_mul]; done) | (simp (disch := omega) only [q_lit, q_ofn, nI_add, q_mul, q_sub, q_shrm, q_shlm, q_a31s, q_a1, q_a3, q_a7, q_a65535, q_div, q_rem2, z_mm, nI_clamp, Nat.reduceMul, Nat.reduceAdd, Nat.reduceSub, Nat.reducePow, Nat.reduceMod, Nat.reduceDiv, Nat.one_mul]; with_reducible rfl)) (by omega) (by decide) ?_
        rw [r10]
        unfold f_Mo_as_J57 f_Mo_as_J50 f_Mo_as_J57
        by_cases hv0 : v = 0
        · subst hv0
          exact e_T rfl (yes true rfl)
        refine e_F (nI_ne0 (by omega) (by omega)) ?_
        have j50 : (if nI v = nI (S.2.2.2.2 s 0) + (2 : Int32) then f_Mo_as_J62 k (nI S.2.1) (nI x) (mf 11) (nI s) (1 : Int32) else f_Mo_as_J62 k (nI S.2.1) (nI x) (mf 11) (nI s) (0 : Int32)) = f_Mo_as_J62 k (nI S.2.1) (nI x) (mf 11) (nI s) (nI (decide (v = S.2.2.2.2 s 0 + 2)).toNat) := by
          by_cases hc : v = S.2.2.2.2 s 0 + 2
          · rw [decide_eq_true hc]
            exact e_T (by rw [hc, show (2 : Int32) = nI 2 from rfl, nI_add]) rfl
          · rw [decide_eq_false hc]
            exact e_F (by simp (disch := omega) only [q_lit, q_ofn, nI_add, q_mul, q_sub, q_shrm, q_shlm, q_a31s, q_a1, q_a3, q_a7, q_a65535, q_div, q_rem2, z_mm, nI_clamp, Nat.reduceMul, Nat.reduceAdd, Nat.reduceSub, Nat.reducePow, Nat.reduceMod, Nat.reduceDiv, Nat.one_mul, nI_ltI, nI_leI, nI_eq, q_b0, q_b1, q_m1lt, q_m1le, q_ltm1, q_lem1, q_eqm1, q_m1eq, not_true_eq_false, not_false_eq_true, reduceCtorEq, *] <;> first | omega | decide) rfl
        by_cases hv1 : v = 1
        · subst hv1
          refine e_T rfl ?_
          by_cases hk3 : S.2.2.2.2 s 0 = 3
          · refine e_T (by rw [hk3]; rfl) ?_
            refine j50.trans (yes _ ?_)
            rw [hk3]; rfl
          · refine e_F (by simp (disch := omega) only [q_lit, q_ofn, nI_add, q_mul, q_sub, q_shrm, q_shlm, q_a31s, q_a1, q_a3, q_a7, q_a65535, q_div, q_rem2, z_mm, nI_clamp, Nat.reduceMul, Nat.reduceAdd, Nat.reduceSub, Nat.reducePow, Nat.reduceMod, Nat.reduceDiv, Nat.one_mul, nI_ltI, nI_leI, nI_eq, q_b0, q_b1, q_m1lt, q_m1le, q_ltm1, q_lem1, q_eqm1, q_m1eq, not_true_eq_false, not_false_eq_true, reduceCtorEq, *] <;> first | omega | decide) (yes true ?_)
            unfold z_isA
            simp [hk3]
        · refine e_F (by simp (disch := omega) only [q_lit, q_ofn, nI_add, q_mul, q_sub, q_shrm, q_shlm, q_a31s, q_a1, q_a3, q_a7, q_a65535, q_div, q_rem2, z_mm, nI_clamp, Nat.reduceMul, Nat.reduceAdd, Nat.reduceSub, Nat.reducePow, Nat.reduceMod, Nat.reduceDiv, Nat.one_mul, nI_ltI, nI_leI, nI_eq, q_b0, q_b1, q_m1lt, q_m1le, q_ltm1, q_lem1, q_eqm1, q_m1eq, not_true_eq_false, not_false_eq_true, reduceCtorEq, *] <;> first | omega | decide) ?_
          refine j50.trans (yes _ ?_)
          unfold z_isA
          simp [hv0, hv1]
    · have b2 := m_in0N (v := v) (b := 5) (by omega) (by decide)
      rw [decide_eq_false (by omega)] at b2
      refine w_2 (r1 := -3) (r2 := -3) ?_ ?_ ⟨rfl, z_inv_s h0⟩
      · unfold f_SS_as
        exact e_B a1 (e_F (by decide) (e_F (nI_pos (by omega)) (e_F (by simp (disch := omega) only [q_lit, q_ofn, nI_add, q_mul, q_sub, q_shrm, q_shlm, q_a31s, q_a1, q_a3, q_a7, q_a65535, q_div, q_rem2, z_mm, nI_clamp, Nat.reduceMul, Nat.reduceAdd, Nat.reduceSub, Nat.reducePow, Nat.reduceMod, Nat.reduceDiv, Nat.one_mul, nI_ltI, nI_leI, nI_eq, q_b0, q_b1, q_m1lt, q_m1le, q_ltm1, q_lem1, q_eqm1, q_m1eq, not_true_eq_false, not_false_eq_true, reduceCtorEq, *] <;> first | omega | decide) rfl)))
      · unfold f_Mo_as
        exact e_B b1 (e_F (by decide) (e_B b2 (e_T rfl rfl)))
  · have a1 := t_hasSpell (M := S.2.1) (s := p) hM5 (by omega)
    have b1 := m_isSpell (P := S.2.1) (n := p) (by omega) (by omega)
    rw [decide_eq_false (by omega)] at a1 b1
    refine w_2 (r1 := -2) (r2 := -2) ?_ ?_ ⟨rfl, z_inv_s h0⟩
    · unfold f_SS_as
      exact e_B a1 (e_T rfl rfl)
    · unfold f_Mo_as
      exact e_B b1 (e_T rfl rfl)
