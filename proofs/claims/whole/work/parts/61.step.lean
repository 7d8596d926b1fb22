/-! the land as naturals: P people, M spells; sp s: 0 kind, 1 on whom, 2 how many terms, 3 + 2 i and 4 + 2 i term i, 9 the spell that it wakes, and one more (0: none) -/
def z_okT (P s so v : Nat) : Prop := so ≤ 7 ∧ (so ≤ 1 → v < P) ∧ (so = 2 → v < 7) ∧ (so = 3 ∨ so = 4 → v ≤ s) ∧ (so = 5 ∨ so = 6 → v < 2) ∧ (so = 7 → 1 ≤ v ∧ v ≤ 7)
def z_okS (P : Nat) (sp : Nat → Nat → Nat) (s : Nat) : Prop := sp s 0 ≤ 3 ∧ (sp s 0 = 3 → sp s 1 < s) ∧ (sp s 0 ≠ 3 → sp s 1 < P) ∧ 1 ≤ sp s 2 ∧ sp s 2 ≤ 3 ∧ (∀ i, i < sp s 2 → z_okT P s (sp s (3 + 2 * i)) (sp s (4 + 2 * i))) ∧ sp s 9 ≤ s + 1
def z_ok (P M : Nat) (sp : Nat → Nat → Nat) : Prop := 1 ≤ P ∧ P ≤ 3 ∧ M ≤ 5 ∧ ∀ s, s < M → z_okS P sp s
/-- the reference's row of spells holds it -/
def z_rep (M : Nat) (sp : Nat → Nat → Nat) (sf : Nat → Int32) : Prop := ∀ s, s < M → (∀ j, j < 3 + 2 * sp s 2 → sf (10 * s + j) = nI (sp s j)) ∧ sf (10 * s + 9) = (if sp s 9 = 0 then -nI 1 else nI (sp s 9 - 1))
theorem z_small {P M : Nat} {sp : Nat → Nat → Nat} (h : z_ok P M sp) {s : Nat} (hs : s < M) : s < 5 ∧ sp s 0 ≤ 3 ∧ sp s 1 < 5 ∧ 1 ≤ sp s 2 ∧ sp s 2 ≤ 3 ∧ sp s 9 ≤ 5 := by
  obtain ⟨h1, h2, h3, h4⟩ := h
  obtain ⟨a, b, c, d, e, f, g⟩ := h4 s hs
  refine ⟨by omega, a, ?_, d, e, by omega⟩
  by_cases hk : sp s 0 = 3
  · have := b hk; omega
  · have := c hk; omega
theorem z_smallT {P M : Nat} {sp : Nat → Nat → Nat} (h : z_ok P M sp) {s i : Nat} (hs : s < M) (hi : i < sp s 2) : sp s (3 + 2 * i) ≤ 7 ∧ sp s (4 + 2 * i) ≤ 7 := by
  have hb := z_small h hs
  obtain ⟨h1, h2, h3, h4⟩ := h
  obtain ⟨a, b, c, d, e, f, g⟩ := h4 s hs
  obtain ⟨t1, t2, t3, t4, t5, t6⟩ := f i hi
  refine ⟨t1, ?_⟩
  by_cases k1 : sp s (3 + 2 * i) ≤ 1
  · have := t2 k1; omega
  · by_cases k2 : sp s (3 + 2 * i) = 2
    · have := t3 k2; omega
    · by_cases k3 : sp s (3 + 2 * i) = 3 ∨ sp s (3 + 2 * i) = 4
      · have := t4 k3; omega
      · by_cases k4 : sp s (3 + 2 * i) = 5 ∨ sp s (3 + 2 * i) = 6
        · have := t5 k4; omega
        · have := t6 (by omega); omega
def z_und (M : Nat) (sp : Nat → Nat → Nat) (x p kd : Nat) : Bool := z_any (fun s => x.testBit s && (decide (sp s 0 = kd) && decide (sp s 1 = p))) M
def z_so (sp : Nat → Nat → Nat) (x s i D : Nat) : Bool :=
  if sp s (3 + 2 * i) = 0 then (if sp s 0 = 3 then false else decide (D = 7 * sp s (4 + 2 * i) + sp s 1)) else
  if sp s (3 + 2 * i) = 1 then x.testBit (7 + sp s (4 + 2 * i)) else
  if sp s (3 + 2 * i) = 2 then decide (x / 8192 = sp s (4 + 2 * i)) else
  if sp s (3 + 2 * i) = 3 then x.testBit (sp s (4 + 2 * i)) else
  if sp s (3 + 2 * i) = 4 then !x.testBit (sp s (4 + 2 * i)) else
  if sp s (3 + 2 * i) = 5 then x.testBit (5 + sp s (4 + 2 * i)) else
  if sp s (3 + 2 * i) = 6 then !x.testBit (5 + sp s (4 + 2 * i)) else decide (sp s (4 + 2 * i) ≤ x / 1024 % 8)
def z_can (P M : Nat) (sp : Nat → Nat → Nat) (x D : Nat) : Bool :=
  if D = 21 then true else if P ≤ D / 7 then false else if z_und M sp x (D / 7) 0 = true then false else
  if D % 7 < 3 then (if P ≤ D % 7 then false else if D % 7 = D / 7 then false else true) else
  if D % 7 = 3 then !x.testBit (7 + D / 7) else
  if D % 7 < 6 then (if x.testBit (5 + (D % 7 - 4)) = true then false else !z_und M sp x (D / 7) 1) else
  if 7 ≤ x / 1024 % 8 then false else !z_und M sp x (D / 7) 2
def z_do (x D : Nat) : Nat :=
  if D = 21 then ((x % 8192) &&& 4294966399) ||| ((x / 8192 + 1) % 7 * 2 ^ 13) else
  if D % 7 < 3 then x else if D % 7 = 3 then x ||| 2 ^ (7 + D / 7) else if D % 7 < 6 then x ||| 2 ^ (5 + D % 7 - 4) else x + 1024
def z_wk (w : Nat) : Nat := if w = 0 then 0 else 2 ^ (w - 1)
def z_lift (M : Nat) (sp : Nat → Nat → Nat) (D k : Nat) (a : Nat × Nat) : Nat × Nat :=
  if a.1.testBit k = true ∧ z_und M sp a.1 k 3 = false ∧ z_all (fun i => z_so sp a.1 k i D) (sp k 2) = true then ((a.1 &&& (2 ^ k ^^^ 4294967295)) ||| z_wk (sp k 9), a.2 ||| 2 ^ k) else a
def z_beh (M : Nat) (sp : Nat → Nat → Nat) (x D : Nat) : Nat × Nat := z_fold (z_lift M sp D) M (z_do x D, 0)
theorem m_under_L {P M x p kd : Nat} {sp : Nat → Nat → Nat} {sf : Nat → Int32} (ok : z_ok P M sp) (hr : z_rep M sp sf) (hx : x < 2 ^ 31) (hp : p < 2 ^ 31) (hkd : kd < 2 ^ 31) : ∀ d i k, i + d = M → d < k → f_Mo_isUnder_L6 (nI M) sf (nI x) (nI p) (nI kd) k (nI (z_any (fun s => x.testBit s && (decide (sp s 0 = kd) && decide (sp s 1 = p))) i).toNat) (nI i) = some (nI (z_und M sp x p kd).toNat) := by
  have hM := ok.2.2.1
  intro d
  induction d with
  | zero =>
    intro i k hi hk
    obtain ⟨k, rfl⟩ : ∃ k', k = k' + 1 := ⟨k - 1, by omega⟩
    have : i = M := by omega
    subst this
    rw [f_Mo_isUnder_L6, if_pos (nI_le (Nat.le_refl _) (by omega))]
    rfl
  | succ d ih =>
    intro i k hi hk
    obtain ⟨k, rfl⟩ : ∃ k', k = k' + 1 := ⟨k - 1, by omega⟩
    have hiM : i < M := by omega
    obtain ⟨b0, b1, b2, b3, b4, b5⟩ := z_small ok hiM
    have e0 := (hr i hiM).1 0 (by omega)
    have e1 := (hr i hiM).1 1 (by omega)
    have ih' := ih (i + 1) k (by omega) (by omega)
    rw [f_Mo_isUnder_L6]
    rw [Nat.add_zero] at e0
    simp only [z_any] at ih'
    simp (disch := omega) only [f_Mo_isUnder_J63, f_Mo_isUnder_J59, f_Mo_isUnder_J64, q_lit, q_ofn, q_L, q_B, q_Sl, q_Sr, q_I, q_C, nI_ltI, nI_leI, nI_eq, nI_add, q_mul, q_shrm, q_shlm, q_a31s, q_a1, q_a3, q_a7, q_a65535, q_bmod, q_m1lt, q_m1le, q_ltm1, q_lem1, q_eqm1, q_m1eq, nI_clamp, Nat.reduceMul, Nat.reduceAdd, Nat.reducePow, Nat.reduceMod, Nat.reduceDiv, Nat.reduceLT, Nat.reduceLeDiff, if_true, if_false, ite_true, ite_false, Nat.not_lt_zero, reduceIte, m_has, q_b0, e0, e1]
    rw [if_neg (by omega)]
    cases h4 : z_any (fun s => x.testBit s && (decide (sp s 0 = kd) && decide (sp s 1 = p))) i <;> cases h3 : x.testBit i <;> by_cases h1 : sp i 0 = kd <;> by_cases h2 : sp i 1 = p <;> simp only [h1, h2, h3, h4, decide_true, decide_false, Bool.or_false, Bool.or_true, Bool.false_or, Bool.true_or, Bool.and_false, Bool.and_true, Bool.true_and, Bool.false_and, Bool.toNat_true, Bool.toNat_false, if_true, if_false, reduceCtorEq, ite_true, ite_false] at ih' ⊢ <;> exact ih'
theorem m_under {P M x p kd k : Nat} {sp : Nat → Nat → Nat} {sf : Nat → Int32} (ok : z_ok P M sp) (hr : z_rep M sp sf) (hk : 5 < k) (hx : x < 2 ^ 31) (hp : p < 2 ^ 31) (hkd : kd < 2 ^ 31) : f_Mo_isUnder k (nI M) sf (nI x) (nI p) (nI kd) = some (nI (z_und M sp x p kd).toNat) := by
  have hM := ok.2.2.1
  unfold f_Mo_isUnder
  simp only [q_lit]
  have h := m_under_L ok hr hx hp hkd M 0 k (by omega) (by omega)
  simp only [z_any, Bool.toNat_false] at h
  rw [h, q_B, q_bm]
theorem m_bound_L {P M x p : Nat} {sp : Nat → Nat → Nat} {sf : Nat → Int32} (ok : z_ok P M sp) (hr : z_rep M sp sf) (hx : x < 2 ^ 31) (hp : p < 2 ^ 31) : ∀ d i k, i + d = M → d < k → f_Mo_isBound_L5 (nI M) sf (nI x) (nI p) k (nI (z_any (fun s => x.testBit s && (decide (sp s 0 = 3) && decide (sp s 1 = p))) i).toNat) (nI i) = some (nI (z_und M sp x p 3).toNat) := by
  have hM := ok.2.2.1
  intro d
  induction d with
  | zero =>
    intro i k hi hk
    obtain ⟨k, rfl⟩ : ∃ k', k = k' + 1 := ⟨k - 1, by omega⟩
    have : i = M := by omega
    subst this
    rw [f_Mo_isBound_L5, if_pos (nI_le (Nat.le_refl _) (by omega))]
    rfl
  | succ d ih =>
    intro i k hi hk
    obtain ⟨k, rfl⟩ : ∃ k', k = k' + 1 := ⟨k - 1, by omega⟩
    have hiM : i < M := by omega
    obtain ⟨b0, b1, b2, b3, b4, b5⟩ := z_small ok hiM
    have e0 := (hr i hiM).1 0 (by omega)
    have e1 := (hr i hiM).1 1 (by omega)
    have ih' := ih (i + 1) k (by omega) (by omega)
    rw [f_Mo_isBound_L5]
    rw [Nat.add_zero] at e0
    simp only [z_any] at ih'
    simp (disch := omega) only [f_Mo_isBound_J61, f_Mo_isBound_J57, f_Mo_isBound_J62, q_lit, q_ofn, q_L, q_B, q_Sl, q_Sr, q_I, q_C, nI_ltI, nI_leI, nI_eq, nI_add, q_mul, q_shrm, q_shlm, q_a31s, q_a1, q_a3, q_a7, q_a65535, q_bmod, q_m1lt, q_m1le, q_ltm1, q_lem1, q_eqm1, q_m1eq, nI_clamp, Nat.reduceMul, Nat.reduceAdd, Nat.reducePow, Nat.reduceMod, Nat.reduceDiv, Nat.reduceLT, Nat.reduceLeDiff, if_true, if_false, ite_true, ite_false, Nat.not_lt_zero, reduceIte, m_has, q_b0, e0, e1]
    rw [if_neg (by omega)]
    cases h4 : z_any (fun s => x.testBit s && (decide (sp s 0 = 3) && decide (sp s 1 = p))) i <;> cases h3 : x.testBit i <;> by_cases h1 : sp i 0 = 3 <;> by_cases h2 : sp i 1 = p <;> simp only [h1, h2, h3, h4, decide_true, decide_false, Bool.or_false, Bool.or_true, Bool.false_or, Bool.true_or, Bool.and_false, Bool.and_true, Bool.true_and, Bool.false_and, Bool.toNat_true, Bool.toNat_false, if_true, if_false, reduceCtorEq, ite_true, ite_false] at ih' ⊢ <;> exact ih'
theorem m_bound {P M x p k : Nat} {sp : Nat → Nat → Nat} {sf : Nat → Int32} (ok : z_ok P M sp) (hr : z_rep M sp sf) (hk : 5 < k) (hx : x < 2 ^ 31) (hp : p < 2 ^ 31) : f_Mo_isBound k (nI M) sf (nI x) (nI p) = some (nI (z_und M sp x p 3).toNat) := by
  have hM := ok.2.2.1
  unfold f_Mo_isBound
  simp only [q_lit]
  have h := m_bound_L ok hr hx hp M 0 k (by omega) (by omega)
  simp only [z_any, Bool.toNat_false] at h
  rw [h, q_B, q_bm]
theorem m_so {P M x s i D : Nat} {sp : Nat → Nat → Nat} {sf : Nat → Int32} (ok : z_ok P M sp) (hr : z_rep M sp sf) (hs : s < M) (hi : i < sp s 2) (hx : x < 2 ^ 31) (hD : D < 2 ^ 31) : f_Mo_isSo sf (nI x) (nI s) (nI i) (nI D) = some (nI (z_so sp x s i D).toNat) := by
  obtain ⟨b0, b1, b2, b3, b4, b5⟩ := z_small ok hs
  obtain ⟨c0, c1⟩ := z_smallT ok hs hi
  have e0 := (hr s hs).1 0 (by omega)
  have e1 := (hr s hs).1 1 (by omega)
  have e2 := (hr s hs).1 (4 + 2 * i) (by omega)
  have e3 := (hr s hs).1 (3 + 2 * i) (by omega)
  rw [Nat.add_zero] at e0
  rw [← Nat.add_assoc] at e2 e3
  obtain ⟨t1, t2, t3, t4, t5, t6⟩ := (ok.2.2.2 s hs).2.2.2.2.2.1 i hi
  have hP := ok.2.1
  unfold f_Mo_isSo z_so f_Mo_weepersOf f_Mo_dayOf f_Mo_brokenOf f_Mo_askedOf
  simp (config := { maxSteps := 3000000 }) (disch := omega) only [q_lit, q_ofn, q_L, q_B, q_Sl, q_Sr, q_I, q_C, nI_ltI, nI_leI, nI_eq, nI_add, q_mul, q_shrm, q_shlm, q_a31s, q_a1, q_a3, q_a7, q_a65535, q_bmod, q_m1lt, q_m1le, q_ltm1, q_lem1, q_eqm1, q_m1eq, nI_clamp, Nat.reduceMul, Nat.reduceAdd, Nat.reducePow, Nat.reduceMod, Nat.reduceDiv, Nat.reduceLT, Nat.reduceLeDiff, if_true, if_false, ite_true, ite_false, Nat.not_lt_zero, reduceIte, e0, e1, e2, e3]
  by_cases k0 : sp s (3 + 2 * i) = 0
  · simp (disch := omega) only [k0, if_true, q_lit, q_ofn, q_L, q_B, q_Sl, q_Sr, q_I, q_C, nI_ltI, nI_leI, nI_eq, nI_add, q_mul, q_shrm, q_shlm, q_a31s, q_a1, q_a3, q_a7, q_a65535, q_bmod, q_m1lt, q_m1le, q_ltm1, q_lem1, q_eqm1, q_m1eq, nI_clamp, Nat.reduceMul, Nat.reduceAdd, Nat.reducePow, Nat.reduceMod, Nat.reduceDiv, Nat.reduceLT, Nat.reduceLeDiff, if_true, if_false, ite_true, ite_false, Nat.not_lt_zero, reduceIte]
    by_cases h3 : sp s 0 = 3
    · simp only [h3, if_true]; rfl
    · simp (disch := omega) only [h3, if_false, q_lit, q_ofn, q_L, q_B, q_Sl, q_Sr, q_I, q_C, nI_ltI, nI_leI, nI_eq, nI_add, q_mul, q_shrm, q_shlm, q_a31s, q_a1, q_a3, q_a7, q_a65535, q_bmod, q_m1lt, q_m1le, q_ltm1, q_lem1, q_eqm1, q_m1eq, nI_clamp, Nat.reduceMul, Nat.reduceAdd, Nat.reducePow, Nat.reduceMod, Nat.reduceDiv, Nat.reduceLT, Nat.reduceLeDiff, if_true, if_false, ite_true, ite_false, Nat.not_lt_zero, reduceIte, q_dec]
  by_cases k1 : sp s (3 + 2 * i) = 1
  · have := t2 (by omega)
    simp (disch := omega) only [k1, if_true, if_false, q_lit, q_ofn, q_L, q_B, q_Sl, q_Sr, q_I, q_C, nI_ltI, nI_leI, nI_eq, nI_add, q_mul, q_shrm, q_shlm, q_a31s, q_a1, q_a3, q_a7, q_a65535, q_bmod, q_m1lt, q_m1le, q_ltm1, q_lem1, q_eqm1, q_m1eq, nI_clamp, Nat.reduceMul, Nat.reduceAdd, Nat.reducePow, Nat.reduceMod, Nat.reduceDiv, Nat.reduceLT, Nat.reduceLeDiff, if_true, if_false, ite_true, ite_false, Nat.not_lt_zero, reduceIte, m_has, q_bm, z_w, reduceCtorEq, Nat.reduceEqDiff]
  by_cases k2 : sp s (3 + 2 * i) = 2
  · simp (disch := omega) only [k2, if_true, if_false, q_lit, q_ofn, q_L, q_B, q_Sl, q_Sr, q_I, q_C, nI_ltI, nI_leI, nI_eq, nI_add, q_mul, q_shrm, q_shlm, q_a31s, q_a1, q_a3, q_a7, q_a65535, q_bmod, q_m1lt, q_m1le, q_ltm1, q_lem1, q_eqm1, q_m1eq, nI_clamp, Nat.reduceMul, Nat.reduceAdd, Nat.reducePow, Nat.reduceMod, Nat.reduceDiv, Nat.reduceLT, Nat.reduceLeDiff, if_true, if_false, ite_true, ite_false, Nat.not_lt_zero, reduceIte, q_dec, Nat.reduceEqDiff]
  by_cases k3 : sp s (3 + 2 * i) = 3
  · have := t4 (by omega)
    simp (disch := omega) only [k3, if_true, if_false, q_lit, q_ofn, q_L, q_B, q_Sl, q_Sr, q_I, q_C, nI_ltI, nI_leI, nI_eq, nI_add, q_mul, q_shrm, q_shlm, q_a31s, q_a1, q_a3, q_a7, q_a65535, q_bmod, q_m1lt, q_m1le, q_ltm1, q_lem1, q_eqm1, q_m1eq, nI_clamp, Nat.reduceMul, Nat.reduceAdd, Nat.reducePow, Nat.reduceMod, Nat.reduceDiv, Nat.reduceLT, Nat.reduceLeDiff, if_true, if_false, ite_true, ite_false, Nat.not_lt_zero, reduceIte, m_has, q_bm, Nat.reduceEqDiff]
  by_cases k4 : sp s (3 + 2 * i) = 4
  · have := t4 (by omega)
    simp (disch := omega) only [k4, if_true, if_false, q_lit, q_ofn, q_L, q_B, q_Sl, q_Sr, q_I, q_C, nI_ltI, nI_leI, nI_eq, nI_add, q_mul, q_shrm, q_shlm, q_a31s, q_a1, q_a3, q_a7, q_a65535, q_bmod, q_m1lt, q_m1le, q_ltm1, q_lem1, q_eqm1, q_m1eq, nI_clamp, Nat.reduceMul, Nat.reduceAdd, Nat.reducePow, Nat.reduceMod, Nat.reduceDiv, Nat.reduceLT, Nat.reduceLeDiff, if_true, if_false, ite_true, ite_false, Nat.not_lt_zero, reduceIte, m_has, q_b0, q_ifn', Nat.reduceEqDiff]
  by_cases k5 : sp s (3 + 2 * i) = 5
  · have := t5 (by omega)
    simp (disch := omega) only [k5, if_true, if_false, q_lit, q_ofn, q_L, q_B, q_Sl, q_Sr, q_I, q_C, nI_ltI, nI_leI, nI_eq, nI_add, q_mul, q_shrm, q_shlm, q_a31s, q_a1, q_a3, q_a7, q_a65535, q_bmod, q_m1lt, q_m1le, q_ltm1, q_lem1, q_eqm1, q_m1eq, nI_clamp, Nat.reduceMul, Nat.reduceAdd, Nat.reducePow, Nat.reduceMod, Nat.reduceDiv, Nat.reduceLT, Nat.reduceLeDiff, if_true, if_false, ite_true, ite_false, Nat.not_lt_zero, reduceIte, m_has, q_bm, z_br, Nat.reduceEqDiff]
  by_cases k6 : sp s (3 + 2 * i) = 6
  · have := t5 (by omega)
    simp (disch := omega) only [k6, if_true, if_false, q_lit, q_ofn, q_L, q_B, q_Sl, q_Sr, q_I, q_C, nI_ltI, nI_leI, nI_eq, nI_add, q_mul, q_shrm, q_shlm, q_a31s, q_a1, q_a3, q_a7, q_a65535, q_bmod, q_m1lt, q_m1le, q_ltm1, q_lem1, q_eqm1, q_m1eq, nI_clamp, Nat.reduceMul, Nat.reduceAdd, Nat.reducePow, Nat.reduceMod, Nat.reduceDiv, Nat.reduceLT, Nat.reduceLeDiff, if_true, if_false, ite_true, ite_false, Nat.not_lt_zero, reduceIte, m_has, q_b0, q_ifn', z_br, Nat.reduceEqDiff]
  · simp (disch := omega) only [k0, k1, k2, k3, k4, k5, k6, if_false, q_lit, q_ofn, q_L, q_B, q_Sl, q_Sr, q_I, q_C, nI_ltI, nI_leI, nI_eq, nI_add, q_mul, q_shrm, q_shlm, q_a31s, q_a1, q_a3, q_a7, q_a65535, q_bmod, q_m1lt, q_m1le, q_ltm1, q_lem1, q_eqm1, q_m1eq, nI_clamp, Nat.reduceMul, Nat.reduceAdd, Nat.reducePow, Nat.reduceMod, Nat.reduceDiv, Nat.reduceLT, Nat.reduceLeDiff, if_true, if_false, ite_true, ite_false, Nat.not_lt_zero, reduceIte, q_dec', Nat.not_lt]
theorem m_soMany_L {P M x s D : Nat} {sp : Nat → Nat → Nat} {sf : Nat → Int32} (ok : z_ok P M sp) (hr : z_rep M sp sf) (hs : s < M) (hx : x < 2 ^ 31) (hD : D < 2 ^ 31) : ∀ d i k, i + d = sp s 2 → d < k → f_Mo_soMany_L6 sf (nI x) (nI s) (nI D) k (nI (z_cnt (fun i => z_so sp x s i D) i)) (nI i) = some (nI (z_cnt (fun i => z_so sp x s i D) (sp s 2))) := by
  obtain ⟨b0, b1, b2, b3, b4, b5⟩ := z_small ok hs
  have e2 := (hr s hs).1 2 (by omega)
  intro d
  induction d with
  | zero =>
    intro i k hi hk
    obtain ⟨k, rfl⟩ : ∃ k', k = k' + 1 := ⟨k - 1, by omega⟩
    have : i = sp s 2 := by omega
    subst this
    rw [f_Mo_soMany_L6]
    simp (disch := omega) only [q_lit, q_ofn, q_L, q_B, q_Sl, q_Sr, q_I, q_C, nI_ltI, nI_leI, nI_eq, nI_add, q_mul, q_shrm, q_shlm, q_a31s, q_a1, q_a3, q_a7, q_a65535, q_bmod, q_m1lt, q_m1le, q_ltm1, q_lem1, q_eqm1, q_m1eq, nI_clamp, Nat.reduceMul, Nat.reduceAdd, Nat.reducePow, Nat.reduceMod, Nat.reduceDiv, Nat.reduceLT, Nat.reduceLeDiff, if_true, if_false, ite_true, ite_false, Nat.not_lt_zero, reduceIte, e2, Nat.le_refl]
  | succ d ih =>
    intro i k hi hk
    obtain ⟨k, rfl⟩ : ∃ k', k = k' + 1 := ⟨k - 1, by omega⟩
    have hi2 : i < sp s 2 := by omega
    have ih' := ih (i + 1) k (by omega) (by omega)
    have hso := m_so ok hr hs hi2 hx hD
    rw [f_Mo_soMany_L6]
    simp only [z_cnt] at ih'
    simp (disch := omega) only [q_lit, q_ofn, q_L, q_B, q_Sl, q_Sr, q_I, q_C, nI_ltI, nI_leI, nI_eq, nI_add, q_mul, q_shrm, q_shlm, q_a31s, q_a1, q_a3, q_a7, q_a65535, q_bmod, q_m1lt, q_m1le, q_ltm1, q_lem1, q_eqm1, q_m1eq, nI_clamp, Nat.reduceMul, Nat.reduceAdd, Nat.reducePow, Nat.reduceMod, Nat.reduceDiv, Nat.reduceLT, Nat.reduceLeDiff, if_true, if_false, ite_true, ite_false, Nat.not_lt_zero, reduceIte, e2, hso, q_b0, f_Mo_soMany_J41]
    rw [if_neg (by omega)]
    cases h : z_so sp x s i D <;> simp only [h, Bool.toNat_true, Bool.toNat_false, if_true, if_false, Nat.add_zero, reduceCtorEq] at ih' ⊢ <;> exact ih'
theorem m_soMany {P M x s D k : Nat} {sp : Nat → Nat → Nat} {sf : Nat → Int32} (ok : z_ok P M sp) (hr : z_rep M sp sf) (hk : 5 < k) (hs : s < M) (hx : x < 2 ^ 31) (hD : D < 2 ^ 31) : f_Mo_soMany k sf (nI x) (nI s) (nI D) = some (nI (z_cnt (fun i => z_so sp x s i D) (sp s 2))) := by
  obtain ⟨b0, b1, b2, b3, b4, b5⟩ := z_small ok hs
  unfold f_Mo_soMany
  simp only [q_lit]
  have h := m_soMany_L ok hr hs hx hD (sp s 2) 0 k (by omega) (by omega)
  simp only [z_cnt] at h
  rw [h, q_B]
theorem q_m897 : (-nI 897 : Int32) = nI 4294966399 := by decide
theorem m_can {P M x D k : Nat} {sp : Nat → Nat → Nat} {sf : Nat → Int32} (ok : z_ok P M sp) (hr : z_rep M sp sf) (hk : 5 < k) (hx : x < 2 ^ 31) (hD : D < 22) : f_Mo_canDo k (nI M) (nI P) sf (nI x) (nI D) = some (nI (z_can P M sp x D).toNat) := by
  have hP := ok.2.1
  have hD7 : D / 7 ≤ 3 := by omega
  have hD8 : D % 7 < 7 := by omega
  have u0 := m_under ok hr hk hx (p := D / 7) (kd := 0) (by omega) (by omega)
  have u1 := m_under ok hr hk hx (p := D / 7) (kd := 1) (by omega) (by omega)
  have u2 := m_under ok hr hk hx (p := D / 7) (kd := 2) (by omega) (by omega)
  unfold f_Mo_canDo z_can f_Mo_canDo_J128 f_Mo_canDo_J64 f_Mo_weepersOf f_Mo_brokenOf f_Mo_askedOf
  simp (config := { maxSteps := 3000000 }) (disch := omega) only [q_lit, ↓q_L, q_div, q_mul, q_rem2]
  simp (config := { maxSteps := 3000000 }) (disch := omega) only [q_lit, q_ofn, q_L, q_B, q_Sl, q_Sr, q_I, q_C, nI_ltI, nI_leI, nI_eq, nI_add, q_mul, q_shrm, q_shlm, q_a31s, q_a1, q_a3, q_a7, q_a65535, q_bmod, q_m1lt, q_m1le, q_ltm1, q_lem1, q_eqm1, q_m1eq, nI_clamp, Nat.reduceMul, Nat.reduceAdd, Nat.reducePow, Nat.reduceMod, Nat.reduceDiv, Nat.reduceLT, Nat.reduceLeDiff, if_true, if_false, ite_true, ite_false, Nat.not_lt_zero, reduceIte, u0, u1, u2, q_b0]
  by_cases h21 : D = 21
  · simp only [h21, if_true]; rfl
  simp only [h21, if_false]
  by_cases hPd : P ≤ D / 7
  · simp only [hPd, if_true]; rfl
  have hd3 : D / 7 < 3 := by omega
  simp only [hPd, if_false]
  cases hu : z_und M sp x (D / 7) 0
  · simp only [if_true, reduceCtorEq, if_false]
    by_cases k3 : 3 ≤ D % 7
    · have k3' : ¬ D % 7 < 3 := by omega
      simp only [k3, k3', if_true, if_false]
      by_cases k4 : D % 7 = 3
      · simp (disch := omega) only [k4, if_true, m_has, z_w, q_lit, q_ofn, q_L, q_B, q_Sl, q_Sr, q_I, q_C, nI_ltI, nI_leI, nI_eq, nI_add, q_mul, q_shrm, q_shlm, q_a31s, q_a1, q_a3, q_a7, q_a65535, q_bmod, q_m1lt, q_m1le, q_ltm1, q_lem1, q_eqm1, q_m1eq, nI_clamp, Nat.reduceMul, Nat.reduceAdd, Nat.reducePow, Nat.reduceMod, Nat.reduceDiv, Nat.reduceLT, Nat.reduceLeDiff, if_true, if_false, ite_true, ite_false, Nat.not_lt_zero, reduceIte, q_b0, q_ifn']
      · simp only [k4, if_false]
        by_cases k6 : 6 ≤ D % 7
        · have k6' : ¬ D % 7 < 6 := by omega
          simp only [k6, k6', if_true, if_false]
          by_cases ha : 7 ≤ x / 1024 % 8
          · simp only [ha, if_true]; rfl
          · simp only [ha, if_false, q_ifn']
        · have k6' : D % 7 < 6 := by omega
          simp (disch := omega) only [k6, k6', if_true, if_false, q_sub, m_has, z_br, q_lit, q_ofn, q_L, q_B, q_Sl, q_Sr, q_I, q_C, nI_ltI, nI_leI, nI_eq, nI_add, q_mul, q_shrm, q_shlm, q_a31s, q_a1, q_a3, q_a7, q_a65535, q_bmod, q_m1lt, q_m1le, q_ltm1, q_lem1, q_eqm1, q_m1eq, nI_clamp, Nat.reduceMul, Nat.reduceAdd, Nat.reducePow, Nat.reduceMod, Nat.reduceDiv, Nat.reduceLT, Nat.reduceLeDiff, if_true, if_false, ite_true, ite_false, Nat.not_lt_zero, reduceIte, q_b0, q_ifn']
          cases hb : x.testBit (5 + (D % 7 - 4))
          · simp only [if_true, reduceCtorEq, if_false]
          · simp only [if_true, reduceCtorEq, if_false]; rfl
    · have k3' : D % 7 < 3 := by omega
      simp only [k3, k3', if_true, if_false]
      by_cases kp : P ≤ D % 7
      · simp only [kp, if_true]; rfl
      · by_cases ke : D % 7 = D / 7
        · rw [if_neg kp, if_neg kp, if_pos ke, if_pos ke]; rfl
        · rw [if_neg kp, if_neg kp, if_neg ke, if_neg ke]; rfl
  · simp only [if_true, reduceCtorEq, if_false]; rfl
theorem m_do {x D : Nat} (hx : x < 2 ^ 16) (hD : D < 22) : f_Mo_doOnly (nI x) (nI D) = some (nI (z_do x D)) := by
  have hD7 : D / 7 ≤ 3 := by omega
  have hD8 : D % 7 < 7 := by omega
  unfold f_Mo_doOnly z_do f_Mo_dayOf
  refine e_L ?_
  simp (disch := omega) only [q_lit, q_div, q_mul, q_rem2, q_a8191, q_m897, nI_eq, nI_leI]
  by_cases h21 : D = 21
  · simp (disch := omega) only [h21, if_true, ↓q_L, q_B, q_a31s, q_shrm, nI_add, q_div, q_mul, q_rem2, q_shlm, Nat.reducePow]
    rw [q_and, q_or]
  · simp only [h21, if_false]
    by_cases k3 : 3 ≤ D % 7
    · have k3' : ¬ D % 7 < 3 := by omega
      simp (disch := omega) only [k3, k3', if_true, if_false]
      by_cases k4 : D % 7 = 3
      · simp (disch := omega) only [k4, if_true, nI_add, q_a31s, q_shlm, q_or, Nat.one_mul]
      · simp (disch := omega) only [k4, if_false]
        by_cases k6 : 6 ≤ D % 7
        · have k6' : ¬ D % 7 < 6 := by omega
          simp only [k6, k6', if_true, if_false, nI_add]
        · have k6' : D % 7 < 6 := by omega
          simp (disch := omega) only [k6, k6', if_true, if_false, nI_add, q_sub, q_a31s, q_shlm, q_or, Nat.one_mul]
    · have k3' : D % 7 < 3 := by omega
      simp (disch := omega) only [k3, k3', if_true, if_false]
theorem z_do_lt {x D : Nat} (hx : x < 57344) (hD : D < 22) (ha : D % 7 = 6 → x / 1024 % 8 < 7) : z_do x D < 2 ^ 16 := by
  unfold z_do
  have hD7 : D / 7 ≤ 3 := by omega
  split
  · refine Nat.or_lt_two_pow ?_ (by omega)
    exact Nat.lt_of_le_of_lt Nat.and_le_left (by omega)
  · split
    · omega
    · split
      · exact Nat.or_lt_two_pow (by omega) (Nat.pow_lt_pow_right (by decide) (by omega))
      · split
        · exact Nat.or_lt_two_pow (by omega) (Nat.pow_lt_pow_right (by decide) (by omega))
        · have := ha (by omega); omega
theorem z_lift_lt {P M D k : Nat} {sp : Nat → Nat → Nat} (ok : z_ok P M sp) (hk : k < M) {a : Nat × Nat} (h1 : a.1 < 2 ^ 16) (h2 : a.2 < 2 ^ 5) : (z_lift M sp D k a).1 < 2 ^ 16 ∧ (z_lift M sp D k a).2 < 2 ^ 5 := by
  obtain ⟨b0, b1, b2, b3, b4, b5⟩ := z_small ok hk
  unfold z_lift
  split
  · refine ⟨Nat.or_lt_two_pow (Nat.lt_of_le_of_lt Nat.and_le_left h1) ?_, Nat.or_lt_two_pow h2 (Nat.pow_lt_pow_right (by decide) b0)⟩
    unfold z_wk
    split
    · decide
    · exact Nat.pow_lt_pow_right (by decide) (by omega)
  · exact ⟨h1, h2⟩
theorem z_fold_lt {P M D : Nat} {sp : Nat → Nat → Nat} (ok : z_ok P M sp) {a : Nat × Nat} (h1 : a.1 < 2 ^ 16) (h2 : a.2 < 2 ^ 5) : ∀ n, n ≤ M → (z_fold (z_lift M sp D) n a).1 < 2 ^ 16 ∧ (z_fold (z_lift M sp D) n a).2 < 2 ^ 5 := by
  intro n
  induction n with
  | zero => intro _; exact ⟨h1, h2⟩
  | succ n ih => intro h; exact z_lift_lt ok (by omega) (ih (by omega)).1 (ih (by omega)).2
theorem m_behind_L {P M D : Nat} {sp : Nat → Nat → Nat} {sf : Nat → Int32} (ok : z_ok P M sp) (hr : z_rep M sp sf) (hD : D < 22) {x : Nat} (hx : x < 2 ^ 16) : ∀ d i k, i + d = M → d + 5 < k → f_Mo_behind_L15 (nI M) sf (nI D) k (nI (z_fold (z_lift M sp D) i (x, 0)).1) (nI i) (nI (z_fold (z_lift M sp D) i (x, 0)).2) = some (nI (z_fold (z_lift M sp D) M (x, 0)).1, nI (z_fold (z_lift M sp D) M (x, 0)).2) := by
  have hM := ok.2.2.1
  intro d
  induction d with
  | zero =>
    intro i k hi hk
    obtain ⟨k, rfl⟩ : ∃ k', k = k' + 1 := ⟨k - 1, by omega⟩
    have : i = M := by omega
    subst this
    rw [f_Mo_behind_L15, if_pos (nI_le (Nat.le_refl _) (by omega))]
  | succ d ih =>
    intro i k hi hk
    obtain ⟨k, rfl⟩ : ∃ k', k = k' + 1 := ⟨k - 1, by omega⟩
    have hiM : i < M := by omega
    obtain ⟨b0, b1, b2, b3, b4, b5⟩ := z_small ok hiM
    have e2 := (hr i hiM).1 2 (by omega)
    have e9 := (hr i hiM).2
    have ih' := ih (i + 1) k (by omega) (by omega)
    obtain ⟨l1, l2⟩ := z_fold_lt ok (D := D) (a := (x, 0)) hx (show (0 : Nat) < 2 ^ 5 by decide) i (by omega)
    simp only [z_fold] at ih'
    generalize z_fold (z_lift M sp D) i (x, 0) = a at ih' l1 l2 ⊢
    obtain ⟨y, lf⟩ := a
    simp only at l1 l2 ih' ⊢
    have hb := m_bound ok hr (k := k) (by omega) (x := y) (p := i) (by omega) (by omega)
    have hs := m_soMany ok hr (k := k) (by omega) hiM (x := y) (D := D) (by omega) (by omega)
    have hc := z_cnt_le (fun j => z_so sp y i j D) (sp i 2)
    rw [f_Mo_behind_L15]
    simp (disch := omega) only [f_Mo_behind_J120, f_Mo_behind_J118, q_lit, q_L, q_B, q_I, m_has, q_b0, hb, hs, e2, q_mul, nI_add, nI_leI, nI_eq, z_cnt_all]
    rw [if_neg (by omega)]
    have ih2 : ∀ q, z_lift M sp D i (y, lf) = q → f_Mo_behind_L15 (nI M) sf (nI D) k (nI q.1) (nI (i + 1)) (nI q.2) = some (nI (z_fold (z_lift M sp D) M (x, 0)).1, nI (z_fold (z_lift M sp D) M (x, 0)).2) := fun q h => h ▸ ih'
    cases h1 : y.testBit i
    · simp only [if_true]
      exact ih2 (y, lf) (by unfold z_lift; simp [h1])
    cases h2 : z_und M sp y i 3
    · cases h3 : z_all (fun j => z_so sp y i j D) (sp i 2)
      · simp only [if_true, reduceCtorEq, if_false]
        exact ih2 (y, lf) (by unfold z_lift; simp [h3])
      · simp only [if_true, reduceCtorEq, if_false]
        simp (disch := omega) only [q_a31s, q_shlm, Nat.one_mul, e9]
        simp only [q_m1, q_xor, q_and, q_or]
        by_cases h9 : sp i 9 = 0
        · simp only [h9, if_true, q_or, Nat.or_zero]
          exact ih2 (_, _) (by unfold z_lift z_wk; simp only [h1, h2, h3, h9, and_self, if_true, Nat.or_zero])
        · simp only [h9, if_false]
          rw [if_neg (show ¬ nI (sp i 9 - 1) = nI 4294967295 from fun e => (q_eqm1 (by omega)).mp (e.trans q_m1.symm))]
          simp (disch := omega) only [q_a31s, q_shlm, Nat.one_mul]
          simp only [q_or]
          exact ih2 (_, _) (by unfold z_lift z_wk; simp only [h1, h2, h3, h9, and_self, if_true, if_false])
    · simp only [if_true, reduceCtorEq, if_false]
      exact ih2 (y, lf) (by unfold z_lift; simp [h2])
theorem m_behind {P M x D k : Nat} {sp : Nat → Nat → Nat} {sf : Nat → Int32} (ok : z_ok P M sp) (hr : z_rep M sp sf) (hk : 11 < k) (hx : x < 57344) (hD : D < 22) (ha : D % 7 = 6 → x / 1024 % 8 < 7) (lf : Int32) : f_Mo_behind k lf (nI M) sf (nI x) (nI D) = some (nI (z_beh M sp x D).1, nI (z_beh M sp x D).2) := by
  have hM := ok.2.2.1
  unfold f_Mo_behind
  rw [m_do (by omega) hD, q_B]
  simp only [q_lit]
  have h := m_behind_L ok hr hD (z_do_lt hx hD ha) M 0 k (by omega) (by omega)
  simp only [z_fold] at h
  rw [h, q_B]
  rfl
