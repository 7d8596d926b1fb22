/-! laidBy -/
def z_lov (so : Nat) : Nat := if so ≤ 1 then 0 else if so = 2 ∨ so = 7 then 1 else 2
theorem z_lov_lt (so : Nat) : z_lov so < 2 ^ 31 := by
  unfold z_lov
  split
  · decide
  · split <;> decide
theorem t_lover {so : Nat} (h : so ≤ 7) : f_Tm_lover (nI so) = some (nI (z_lov so)) := by
  have : so = 0 ∨ so = 1 ∨ so = 2 ∨ so = 3 ∨ so = 4 ∨ so = 5 ∨ so = 6 ∨ so = 7 := by omega
  rcases this with rfl | rfl | rfl | rfl | rfl | rfl | rfl | rfl <;> decide
def z_lc (sp : Nat → Nat → Nat) (s q i : Nat) : Nat := z_cnt (fun i => decide (z_lov (sp s (3 + 2 * i)) = q)) i
theorem z_lc_s (sp : Nat → Nat → Nat) (s q i : Nat) : z_lc sp s q (i + 1) = z_lc sp s q i + (decide (z_lov (sp s (3 + 2 * i)) = q)).toNat := rfl
theorem z_lc_sum (sp : Nat → Nat → Nat) (s i : Nat) : z_lc sp s 0 i + z_lc sp s 1 i + z_lc sp s 2 i = i := by
  induction i with
  | zero => rfl
  | succ i ih =>
    rw [z_lc_s, z_lc_s, z_lc_s]
    have : z_lov (sp s (3 + 2 * i)) = 0 ∨ z_lov (sp s (3 + 2 * i)) = 1 ∨ z_lov (sp s (3 + 2 * i)) = 2 := by
      unfold z_lov
      split
      · exact Or.inl rfl
      · split
        · exact Or.inr (Or.inl rfl)
        · exact Or.inr (Or.inr rfl)
    rcases this with hh | hh | hh <;> rw [hh] <;> simp <;> omega
theorem p_laidBy {ns k : Nat} {ci : Nat → Int32} {cf : Nat → Nat → Int32} {cl : Nat → Nat → Int64} {cn : Nat → Nat} {mi : Nat → Int32} {mf : Nat → Nat → Int32} (hk : 200000 ≤ k) (h : z_inv ns ci cf cl cn mi mf) (p1 : Int32) : wp (f_SS_laidBy k (ci 25) (cf 28) (cf 30) p1) (fun q => wp (f_Mo_laidBy k (mi 6) (mf 11) p1) (fun q' => q = q' ∧ z_inv (ns + 1) ci cf cl cn mi mf)) := by
  have h0 := h
  obtain ⟨c, n, S, x, d, hT, ok, hdr, hml, hRU, hN, hU, hK, hR, hQ, hY, hF, hW, hl1, hl2, hb⟩ := h
  have hPe : (ci 24) = nI S.1 := hdr.2.2.1; have hSp : (ci 25) = nI S.2.1 := hdr.2.2.2.1; have hmM : (mi 6) = nI S.2.1 := hml.1; have hmP : (mi 9) = nI S.1 := hml.2.1; have hP1 := ok.1.1; have hP3 := ok.1.2.1; have hM5 := ok.1.2.2.1
  rw [hSp, hmM]
  rcases z_smal (p := p1) S.2.1 (by omega) with hneg | ⟨s, hs, rfl⟩ | ⟨p, hp, hp', rfl⟩
  · refine w_2 (r1 := -2) (r2 := -2) ?_ ?_ ⟨rfl, z_inv_s h0⟩
    · unfold f_SS_laidBy
      exact e_B (t_hasSpellN hneg) (e_T rfl rfl)
    · unfold f_Mo_laidBy
      exact e_B (m_isSpellN hneg) (e_T rfl rfl)
  · have a1 := t_hasSpell (M := S.2.1) (s := s) hM5 (by omega)
    have b1 := m_isSpell (P := S.2.1) (n := s) (by omega) (by omega)
    rw [decide_eq_true hs] at a1 b1
    obtain ⟨r1, r2⟩ := hml.2.2.2.2 s hs
    obtain ⟨c1, c2, c3, c4, c5⟩ := hdr.2.2.2.2 s hs
    have oS := ok.1.2.2.2 s hs
    have o4 := oS.2.2.2.1
    have o5 := oS.2.2.2.2.1
    have o6 := oS.2.2.2.2.2.1
    have c3 : (cf 30) s = nI (S.2.2.2.2 s 2) := c3
    have c5 : ∀ i, i < S.2.2.2.2 s 2 → (cf 28) (3 * s + i) = nI (S.2.2.2.2 s (3 + 2 * i)) ∧ (cf 27) (3 * s + i) = nI (S.2.2.2.2 s (4 + 2 * i)) := c5
    have r1 : ∀ j, j < 3 + 2 * S.2.2.2.2 s 2 → (mf 11) (10 * s + j) = nI (S.2.2.2.2 s j) := r1
    have r12 := r1 2 (by omega)
    have W : ∀ q, q < 3 → ∀ r i k, i + r = S.2.2.2.2 s 2 → r < k → f_SS_wordsLovedBy_L5 (nI S.2.1) (cf 28) (cf 30) (nI q) (nI s) k (nI (z_lc S.2.2.2.2 s q i)) (nI i) = some (nI (z_lc S.2.2.2.2 s q (S.2.2.2.2 s 2))) := by
      intro q hq r
      induction r with
      | zero =>
        intro i k hi hk'
        obtain ⟨k, rfl⟩ : ∃ k', k = k' + 1 := ⟨k - 1, by omega⟩
        rw [f_SS_wordsLovedBy_L5]
        have : i = S.2.2.2.2 s 2 := by omega
        by_cases h3 : 3 ≤ i
        · exact e_T (by simp (disch := omega) only [q_lit, q_ofn, nI_add, q_mul, q_sub, q_shrm, q_shlm, q_a31s, q_a1, q_a3, q_a7, q_a65535, q_div, q_rem2, z_mm, nI_clamp, Nat.reduceMul, Nat.reduceAdd, Nat.reduceSub, Nat.reducePow, Nat.reduceMod, Nat.reduceDiv, Nat.one_mul, nI_ltI, nI_leI, nI_eq, q_b0, q_b1, q_m1lt, q_m1le, q_ltm1, q_lem1, q_eqm1, q_m1eq, not_true_eq_false, not_false_eq_true, reduceCtorEq, *] <;> first | omega | decide) (by rw [this])
        · refine e_F (by simp (disch := omega) only [q_lit, q_ofn, nI_add, q_mul, q_sub, q_shrm, q_shlm, q_a31s, q_a1, q_a3, q_a7, q_a65535, q_div, q_rem2, z_mm, nI_clamp, Nat.reduceMul, Nat.reduceAdd, Nat.reduceSub, Nat.reducePow, Nat.reduceMod, Nat.reduceDiv, Nat.one_mul, nI_ltI, nI_leI, nI_eq, q_b0, q_b1, q_m1lt, q_m1le, q_ltm1, q_lem1, q_eqm1, q_m1eq, not_true_eq_false, not_false_eq_true, reduceCtorEq, *] <;> first | omega | decide) (e_B (t_termsOf hM5 hs _) ?_)
          rw [c3]
          exact e_T (by simp (disch := omega) only [q_lit, q_ofn, nI_add, q_mul, q_sub, q_shrm, q_shlm, q_a31s, q_a1, q_a3, q_a7, q_a65535, q_div, q_rem2, z_mm, nI_clamp, Nat.reduceMul, Nat.reduceAdd, Nat.reduceSub, Nat.reducePow, Nat.reduceMod, Nat.reduceDiv, Nat.one_mul, nI_ltI, nI_leI, nI_eq, q_b0, q_b1, q_m1lt, q_m1le, q_ltm1, q_lem1, q_eqm1, q_m1eq, not_true_eq_false, not_false_eq_true, reduceCtorEq, *] <;> first | omega | decide) (by rw [this])
      | succ r ih =>
        intro i k hi hk'
        obtain ⟨k, rfl⟩ : ∃ k', k = k' + 1 := ⟨k - 1, by omega⟩
        have hi2 : i < S.2.2.2.2 s 2 := by omega
        have esort := t_sortOf hM5 hs c3 o5 hi2 (cf 28)
        rw [(c5 i hi2).1] at esort
        have h7 := (o6 i hi2).1
        have hl2 : z_lov (S.2.2.2.2 s (3 + 2 * i)) < 2 ^ 31 := z_lov_lt _
        have := ih (i + 1) k (by omega) (by omega)
        rw [z_lc_s] at this
        rw [f_SS_wordsLovedBy_L5]
        unfold f_SS_wordsLovedBy_J47
        refine e_F (by simp (disch := omega) only [q_lit, q_ofn, nI_add, q_mul, q_sub, q_shrm, q_shlm, q_a31s, q_a1, q_a3, q_a7, q_a65535, q_div, q_rem2, z_mm, nI_clamp, Nat.reduceMul, Nat.reduceAdd, Nat.reduceSub, Nat.reducePow, Nat.reduceMod, Nat.reduceDiv, Nat.one_mul, nI_ltI, nI_leI, nI_eq, q_b0, q_b1, q_m1lt, q_m1le, q_ltm1, q_lem1, q_eqm1, q_m1eq, not_true_eq_false, not_false_eq_true, reduceCtorEq, *] <;> first | omega | decide) (e_B (t_termsOf hM5 hs _) ?_)
        rw [c3]
        refine e_F (by simp (disch := omega) only [q_lit, q_ofn, nI_add, q_mul, q_sub, q_shrm, q_shlm, q_a31s, q_a1, q_a3, q_a7, q_a65535, q_div, q_rem2, z_mm, nI_clamp, Nat.reduceMul, Nat.reduceAdd, Nat.reduceSub, Nat.reducePow, Nat.reduceMod, Nat.reduceDiv, Nat.one_mul, nI_ltI, nI_leI, nI_eq, q_b0, q_b1, q_m1lt, q_m1le, q_ltm1, q_lem1, q_eqm1, q_m1eq, not_true_eq_false, not_false_eq_true, reduceCtorEq, *] <;> first | omega | decide) (e_B esort (e_B (t_lover h7) ?_))
        refine e_X (nI_eq hl2 (by omega)) (fun hh => ?_) (fun hh => ?_)
        · rw [decide_eq_true hh] at this
          refine e_B (t_oneIf true) (e_L (e_L ?_))
          rw [show (1 : Int32) = nI 1 from rfl, nI_add, nI_add]
          exact this
        · rw [decide_eq_false hh] at this
          refine e_B (t_oneIf false) (e_L (e_L ?_))
          rw [show (1 : Int32) = nI 1 from rfl, nI_add, nI_add]
          exact this
    have WW : ∀ q, q < 3 → ∀ k, 10 < k → f_SS_wordsLovedBy k (nI S.2.1) (cf 28) (cf 30) (nI q) (nI s) = some (nI (z_lc S.2.2.2.2 s q (S.2.2.2.2 s 2))) := by
      intro q hq k hk'
      unfold f_SS_wordsLovedBy
      exact e_B (W q hq (S.2.2.2.2 s 2) 0 k (by omega) (by omega)) rfl
    have Q : ∀ r i k, i + r = S.2.2.2.2 s 2 → r < k → f_Mo_laidBy_L21 (nI S.2.1) (mf 11) (nI s) k (nI (z_lc S.2.2.2.2 s 0 i)) (nI (z_lc S.2.2.2.2 s 1 i)) (nI (z_lc S.2.2.2.2 s 2 i)) (nI i) = some (nI (z_lc S.2.2.2.2 s 0 (S.2.2.2.2 s 2)), nI (z_lc S.2.2.2.2 s 1 (S.2.2.2.2 s 2)), nI (z_lc S.2.2.2.2 s 2 (S.2.2.2.2 s 2))) := by
      intro r
      induction r with
      | zero =>
        intro i k hi hk'
        obtain ⟨k, rfl⟩ : ∃ k', k = k' + 1 := ⟨k - 1, by omega⟩
        rw [f_Mo_laidBy_L21]
        have : i = S.2.2.2.2 s 2 := by omega
        refine e_L ?_
        refine e_I (i := 10 * s + 2) (by first | (with_reducible rfl) | (simp (disch := omega) only [q_lit, q_ofn, nI_add, q_mul, q_sub, q_shrm, q_shlm, q_a31s, q_a1, q_a3, q_a7, q_a65535, q_div, q_rem2, z_mm, nI_clamp, Nat.reduceMul, Nat.reduceAdd, Nat.reduceSub, Nat.reducePow, Nat.reduceMod, Nat.reduceDiv, Nat.one_mul]; done) | (simp (disch := omega) only [q_lit, q_ofn, nI_add, q_mul, q_sub, q_shrm, q_shlm, q_a31s, q_a1, q_a3, q_a7, q_a65535, q_div, q_rem2, z_mm, nI_clamp, Nat.reduceMul, Nat.reduceAdd, Nat.reduceSub, Nat.reducePow, Nat.reduceMod, Nat.reduceDiv, Nat.one_mul]; with_reducible rfl)) (by omega) (by decide) ?_
        rw [r12]
        exact e_T (by simp (disch := omega) only [q_lit, q_ofn, nI_add, q_mul, q_sub, q_shrm, q_shlm, q_a31s, q_a1, q_a3, q_a7, q_a65535, q_div, q_rem2, z_mm, nI_clamp, Nat.reduceMul, Nat.reduceAdd, Nat.reduceSub, Nat.reducePow, Nat.reduceMod, Nat.reduceDiv, Nat.one_mul, nI_ltI, nI_leI, nI_eq, q_b0, q_b1, q_m1lt, q_m1le, q_ltm1, q_lem1, q_eqm1, q_m1eq, not_true_eq_false, not_false_eq_true, reduceCtorEq, *] <;> first | omega | decide) (by rw [this])
      | succ r ih =>
        intro i k hi hk'
        obtain ⟨k, rfl⟩ : ∃ k', k = k' + 1 := ⟨k - 1, by omega⟩
        have hi2 : i < S.2.2.2.2 s 2 := by omega
        have h7 := (o6 i hi2).1
        have := ih (i + 1) k (by omega) (by omega)
        rw [z_lc_s, z_lc_s, z_lc_s] at this
        rw [f_Mo_laidBy_L21]
        refine e_L ?_
        refine e_I (i := 10 * s + 2) (by first | (with_reducible rfl) | (simp (disch := omega) only [q_lit, q_ofn, nI_add, q_mul, q_sub, q_shrm, q_shlm, q_a31s, q_a1, q_a3, q_a7, q_a65535, q_div, q_rem2, z_mm, nI_clamp, Nat.reduceMul, Nat.reduceAdd, Nat.reduceSub, Nat.reducePow, Nat.reduceMod, Nat.reduceDiv, Nat.one_mul]; done) | (simp (disch := omega) only [q_lit, q_ofn, nI_add, q_mul, q_sub, q_shrm, q_shlm, q_a31s, q_a1, q_a3, q_a7, q_a65535, q_div, q_rem2, z_mm, nI_clamp, Nat.reduceMul, Nat.reduceAdd, Nat.reduceSub, Nat.reducePow, Nat.reduceMod, Nat.reduceDiv, Nat.one_mul]; with_reducible rfl)) (by omega) (by decide) ?_
        rw [r12]
        refine e_F (by simp (disch := omega) only [q_lit, q_ofn, nI_add, q_mul, q_sub, q_shrm, q_shlm, q_a31s, q_a1, q_a3, q_a7, q_a65535, q_div, q_rem2, z_mm, nI_clamp, Nat.reduceMul, Nat.reduceAdd, Nat.reduceSub, Nat.reducePow, Nat.reduceMod, Nat.reduceDiv, Nat.one_mul, nI_ltI, nI_leI, nI_eq, q_b0, q_b1, q_m1lt, q_m1le, q_ltm1, q_lem1, q_eqm1, q_m1eq, not_true_eq_false, not_false_eq_true, reduceCtorEq, *] <;> first | omega | decide) (e_L ?_)
        refine e_I (i := 10 * s + (3 + 2 * i)) (by rw [show 10 * s + (3 + 2 * i) = 10 * s + 3 + 2 * i by omega]; first | (with_reducible rfl) | (simp (disch := omega) only [q_lit, q_ofn, nI_add, q_mul, q_sub, q_shrm, q_shlm, q_a31s, q_a1, q_a3, q_a7, q_a65535, q_div, q_rem2, z_mm, nI_clamp, Nat.reduceMul, Nat.reduceAdd, Nat.reduceSub, Nat.reducePow, Nat.reduceMod, Nat.reduceDiv, Nat.one_mul]; done) | (simp (disch := omega) only [q_lit, q_ofn, nI_add, q_mul, q_sub, q_shrm, q_shlm, q_a31s, q_a1, q_a3, q_a7, q_a65535, q_div, q_rem2, z_mm, nI_clamp, Nat.reduceMul, Nat.reduceAdd, Nat.reduceSub, Nat.reducePow, Nat.reduceMod, Nat.reduceDiv, Nat.one_mul]; with_reducible rfl)) (by omega) (by decide) ?_
        rw [r1 _ (by omega)]
        generalize S.2.2.2.2 s (3 + 2 * i) = so at this h7
        unfold f_Mo_laidBy_J67 f_Mo_laidBy_J72 f_Mo_laidBy_J88 f_Mo_laidBy_J93 f_Mo_laidBy_J117
        rw [← this]
        have hc : so = 0 ∨ so = 1 ∨ so = 2 ∨ so = 3 ∨ so = 4 ∨ so = 5 ∨ so = 6 ∨ so = 7 := by omega
        have e1 : ∀ a : Nat, nI a + 1 = nI (a + 1) := fun a => by rw [show (1 : Int32) = nI 1 from rfl, nI_add]
        have e0 : ∀ a : Nat, nI a + 0 = nI (a + 0) := fun a => by rw [show (0 : Int32) = nI 0 from rfl, nI_add]
        rcases hc with rfl | rfl | rfl | rfl | rfl | rfl | rfl | rfl <;> simp only [x_L, e1, e0] <;> rfl
    have hsum := z_lc_sum S.2.2.2.2 s (S.2.2.2.2 s 2)
    have hQ := Q (S.2.2.2.2 s 2) 0 k (by omega) (by omega)
    have W0 := fun k hk => WW 0 (by decide) k hk
    have W1 := fun k hk => WW 1 (by decide) k hk
    have W2 := fun k hk => WW 2 (by decide) k hk
    clear Q W WW
    generalize z_lc S.2.2.2.2 s 0 (S.2.2.2.2 s 2) = A at W0 hsum hQ
    generalize z_lc S.2.2.2.2 s 1 (S.2.2.2.2 s 2) = B at W1 hsum hQ
    generalize z_lc S.2.2.2.2 s 2 (S.2.2.2.2 s 2) = C at W2 hsum hQ
    obtain ⟨k, rfl⟩ : ∃ k', k = k' + 4 := ⟨k - 4, by omega⟩
    have st : ∀ (q k : Nat) (a : Int32) (m V : Nat), q < 3 → V < 10 → m < 10 → f_SS_wordsLovedBy k (nI S.2.1) (cf 28) (cf 30) (nI q) (nI s) = some (nI V) → f_SS_laidBy_L21 (nI S.2.1) (cf 28) (cf 30) (nI s) (k + 1) a (nI m) (nI q) = f_SS_laidBy_L21 (nI S.2.1) (cf 28) (cf 30) (nI s) k (if V ≤ m then a else nI q) (nI (if V ≤ m then m else V)) (nI (q + 1)) := by
      intro q k a m V hq hV hm e
      rw [f_SS_laidBy_L21]
      unfold f_SS_laidBy_J48
      refine e_F (by simp (disch := omega) only [q_lit, q_ofn, nI_add, q_mul, q_sub, q_shrm, q_shlm, q_a31s, q_a1, q_a3, q_a7, q_a65535, q_div, q_rem2, z_mm, nI_clamp, Nat.reduceMul, Nat.reduceAdd, Nat.reduceSub, Nat.reducePow, Nat.reduceMod, Nat.reduceDiv, Nat.one_mul, nI_ltI, nI_leI, nI_eq, q_b0, q_b1, q_m1lt, q_m1le, q_ltm1, q_lem1, q_eqm1, q_m1eq, not_true_eq_false, not_false_eq_true, reduceCtorEq, *] <;> first | omega | decide) (e_B e ?_)
      refine e_X (nI_leI (by omega) (by omega)) (fun hh => ?_) (fun hh => ?_)
      · rw [if_pos hh, if_pos hh]
        refine e_L ?_
        rw [show (1 : Int32) = nI 1 from rfl, nI_add]
      · rw [if_neg hh, if_neg hh]
        refine e_L ?_
        rw [show (1 : Int32) = nI 1 from rfl, nI_add]
    have hm0 : (if A ≤ 0 then 0 else A) < 10 := by split <;> omega
    have hm1 : (if B ≤ (if A ≤ 0 then 0 else A) then (if A ≤ 0 then 0 else A) else B) < 10 := by
      split <;> split <;> omega
    refine w_2 (r1 := if A < B ∨ A < C then (if B < C then nI 2 else nI 1) else nI 0) (r2 := if A < B ∨ A < C then (if B < C then nI 2 else nI 1) else nI 0) ?_ ?_ ⟨rfl, z_inv_s h0⟩
    · unfold f_SS_laidBy
      refine e_B a1 (e_F (by decide) ?_)
      refine e_B (q := if A < B ∨ A < C then (if B < C then nI 2 else nI 1) else nI 0) ?_ rfl
      rw [show (0 : Int32) = nI 0 from rfl, st 0 _ _ 0 A (by decide) (by omega) (by decide) (W0 _ (by omega)), st 1 _ _ _ B (by decide) (by omega) hm0 (W1 _ (by omega)), st 2 _ _ _ C (by decide) (by omega) hm1 (W2 _ (by omega)), f_SS_laidBy_L21]
      refine e_T (by decide) ?_
      congr 1
      by_cases hA0 : A ≤ 0
      · simp only [if_pos hA0]
        by_cases hB0 : B ≤ 0
        · simp only [if_pos hB0]
          rw [if_neg (by omega), if_pos (by omega), if_pos (by omega)]
        · simp only [if_neg hB0]
          by_cases hC : C ≤ B
          · rw [if_pos hC, if_pos (by omega), if_neg (by omega)]
          · rw [if_neg hC, if_pos (by omega), if_pos (by omega)]
      · simp only [if_neg hA0]
        by_cases hB0 : B ≤ A
        · simp only [if_pos hB0]
          by_cases hC : C ≤ A
          · rw [if_pos hC, if_neg (by omega)]
          · rw [if_neg hC, if_pos (by omega), if_pos (by omega)]
        · simp only [if_neg hB0]
          by_cases hC : C ≤ B
          · rw [if_pos hC, if_pos (by omega), if_neg (by omega)]
          · rw [if_neg hC, if_pos (by omega), if_pos (by omega)]
    · unfold f_Mo_laidBy
      refine e_B b1 (e_F (by decide) (e_B hQ ?_))
      unfold f_Mo_laidBy_J141
      dsimp only
      by_cases h1 : A < B
      · rw [if_pos (Or.inl h1)]
        refine e_T (by simp (disch := omega) only [q_lit, q_ofn, nI_add, q_mul, q_sub, q_shrm, q_shlm, q_a31s, q_a1, q_a3, q_a7, q_a65535, q_div, q_rem2, z_mm, nI_clamp, Nat.reduceMul, Nat.reduceAdd, Nat.reduceSub, Nat.reducePow, Nat.reduceMod, Nat.reduceDiv, Nat.one_mul, nI_ltI, nI_leI, nI_eq, q_b0, q_b1, q_m1lt, q_m1le, q_ltm1, q_lem1, q_eqm1, q_m1eq, not_true_eq_false, not_false_eq_true, reduceCtorEq, *] <;> first | omega | decide) ?_
        by_cases h3 : B < C
        · rw [if_pos h3]; exact e_T (by simp (disch := omega) only [q_lit, q_ofn, nI_add, q_mul, q_sub, q_shrm, q_shlm, q_a31s, q_a1, q_a3, q_a7, q_a65535, q_div, q_rem2, z_mm, nI_clamp, Nat.reduceMul, Nat.reduceAdd, Nat.reduceSub, Nat.reducePow, Nat.reduceMod, Nat.reduceDiv, Nat.one_mul, nI_ltI, nI_leI, nI_eq, q_b0, q_b1, q_m1lt, q_m1le, q_ltm1, q_lem1, q_eqm1, q_m1eq, not_true_eq_false, not_false_eq_true, reduceCtorEq, *] <;> first | omega | decide) rfl
        · rw [if_neg h3]; exact e_F (by simp (disch := omega) only [q_lit, q_ofn, nI_add, q_mul, q_sub, q_shrm, q_shlm, q_a31s, q_a1, q_a3, q_a7, q_a65535, q_div, q_rem2, z_mm, nI_clamp, Nat.reduceMul, Nat.reduceAdd, Nat.reduceSub, Nat.reducePow, Nat.reduceMod, Nat.reduceDiv, Nat.one_mul, nI_ltI, nI_leI, nI_eq, q_b0, q_b1, q_m1lt, q_m1le, q_ltm1, q_lem1, q_eqm1, q_m1eq, not_true_eq_false, not_false_eq_true, reduceCtorEq, *] <;> first | omega | decide) rfl
      · refine e_F (by simp (disch := omega) only [q_lit, q_ofn, nI_add, q_mul, q_sub, q_shrm, q_shlm, q_a31s, q_a1, q_a3, q_a7, q_a65535, q_div, q_rem2, z_mm, nI_clamp, Nat.reduceMul, Nat.reduceAdd, Nat.reduceSub, Nat.reducePow, Nat.reduceMod, Nat.reduceDiv, Nat.one_mul, nI_ltI, nI_leI, nI_eq, q_b0, q_b1, q_m1lt, q_m1le, q_ltm1, q_lem1, q_eqm1, q_m1eq, not_true_eq_false, not_false_eq_true, reduceCtorEq, *] <;> first | omega | decide) ?_
        by_cases h2 : A < C
        · rw [if_pos (Or.inr h2)]
          refine e_T (by simp (disch := omega) only [q_lit, q_ofn, nI_add, q_mul, q_sub, q_shrm, q_shlm, q_a31s, q_a1, q_a3, q_a7, q_a65535, q_div, q_rem2, z_mm, nI_clamp, Nat.reduceMul, Nat.reduceAdd, Nat.reduceSub, Nat.reducePow, Nat.reduceMod, Nat.reduceDiv, Nat.one_mul, nI_ltI, nI_leI, nI_eq, q_b0, q_b1, q_m1lt, q_m1le, q_ltm1, q_lem1, q_eqm1, q_m1eq, not_true_eq_false, not_false_eq_true, reduceCtorEq, *] <;> first | omega | decide) ?_
          by_cases h3 : B < C
          · rw [if_pos h3]; exact e_T (by simp (disch := omega) only [q_lit, q_ofn, nI_add, q_mul, q_sub, q_shrm, q_shlm, q_a31s, q_a1, q_a3, q_a7, q_a65535, q_div, q_rem2, z_mm, nI_clamp, Nat.reduceMul, Nat.reduceAdd, Nat.reduceSub, Nat.reducePow, Nat.reduceMod, Nat.reduceDiv, Nat.one_mul, nI_ltI, nI_leI, nI_eq, q_b0, q_b1, q_m1lt, q_m1le, q_ltm1, q_lem1, q_eqm1, q_m1eq, not_true_eq_false, not_false_eq_true, reduceCtorEq, *] <;> first | omega | decide) rfl
          · rw [if_neg h3]; exact e_F (by simp (disch := omega) only [q_lit, q_ofn, nI_add, q_mul, q_sub, q_shrm, q_shlm, q_a31s, q_a1, q_a3, q_a7, q_a65535, q_div, q_rem2, z_mm, nI_clamp, Nat.reduceMul, Nat.reduceAdd, Nat.reduceSub, Nat.reducePow, Nat.reduceMod, Nat.reduceDiv, Nat.one_mul, nI_ltI, nI_leI, nI_eq, q_b0, q_b1, q_m1lt, q_m1le, q_ltm1, q_lem1, q_eqm1, q_m1eq, not_true_eq_false, not_false_eq_true, reduceCtorEq, *] <;> first | omega | decide) rfl
        · rw [if_neg (show ¬ (A < B ∨ A < C) from fun hh => hh.elim h1 h2)]
          exact e_F (by simp (disch := omega) only [q_lit, q_ofn, nI_add, q_mul, q_sub, q_shrm, q_shlm, q_a31s, q_a1, q_a3, q_a7, q_a65535, q_div, q_rem2, z_mm, nI_clamp, Nat.reduceMul, Nat.reduceAdd, Nat.reduceSub, Nat.reducePow, Nat.reduceMod, Nat.reduceDiv, Nat.one_mul, nI_ltI, nI_leI, nI_eq, q_b0, q_b1, q_m1lt, q_m1le, q_ltm1, q_lem1, q_eqm1, q_m1eq, not_true_eq_false, not_false_eq_true, reduceCtorEq, *] <;> first | omega | decide) rfl
  · have a1 := t_hasSpell (M := S.2.1) (s := p) hM5 (by omega)
    have b1 := m_isSpell (P := S.2.1) (n := p) (by omega) (by omega)
    rw [decide_eq_false (by omega)] at a1 b1
    refine w_2 (r1 := -2) (r2 := -2) ?_ ?_ ⟨rfl, z_inv_s h0⟩
    · unfold f_SS_laidBy
      exact e_B a1 (e_T rfl rfl)
    · unfold f_Mo_laidBy
      exact e_B b1 (e_T rfl rfl)
