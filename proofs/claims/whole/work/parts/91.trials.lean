/-! a secret spell: what was tried -/
def z_cs (P c : Nat) : Nat := if c < P then 0 else if c < 2 * P then 1 else if c < 2 * P + 7 then 2 else if c < 2 * P + 9 then 5 else 6
def z_cm (P c : Nat) : Nat := if c < P then c else if c < 2 * P then c - P else if c < 2 * P + 7 then c - 2 * P else if c < 2 * P + 9 then c - 2 * P - 7 else c - 2 * P - 9
def z_wso (P c k w d b : Nat) : Bool := if z_cs P c = 0 then decide (k = z_cm P c + 1) else if z_cs P c = 1 then w.testBit (z_cm P c) else if z_cs P c = 2 then decide (d = z_cm P c) else if z_cs P c = 5 then b.testBit (z_cm P c) else !b.testBit (z_cm P c)
theorem t_csort {P c : Nat} (hP : P ≤ 3) (hc : c < 17) : f_Tr_sortOf (nI P) (nI c) = some (nI (z_cs P c)) := by
  unfold f_Tr_sortOf z_cs
  simp (disch := omega) only [q_lit, q_mul, nI_add, nI_leI]
  by_cases h1 : c < P
  · rw [if_pos h1, if_neg (by omega)]
  · rw [if_neg h1, if_pos (by omega)]
    by_cases h2 : c < 2 * P
    · rw [if_pos h2, if_neg (by omega)]
    · rw [if_neg h2, if_pos (by omega)]
      by_cases h3 : c < 2 * P + 7
      · rw [if_pos h3, if_neg (by omega)]
      · rw [if_neg h3, if_pos (by omega)]
        by_cases h4 : c < 2 * P + 9
        · rw [if_pos h4, if_neg (by omega)]
        · rw [if_neg h4, if_pos (by omega)]
theorem z_cs_vals (P c : Nat) : z_cs P c = 0 ∧ c < P ∧ z_cm P c = c ∨ z_cs P c = 1 ∧ P ≤ c ∧ c < 2 * P ∧ z_cm P c = c - P ∨ z_cs P c = 2 ∧ 2 * P ≤ c ∧ c < 2 * P + 7 ∧ z_cm P c = c - 2 * P ∨ z_cs P c = 5 ∧ 2 * P + 7 ≤ c ∧ c < 2 * P + 9 ∧ z_cm P c = c - 2 * P - 7 ∨ z_cs P c = 6 ∧ 2 * P + 9 ≤ c ∧ z_cm P c = c - 2 * P - 9 := by
  unfold z_cs z_cm
  by_cases h1 : c < P
  · rw [if_pos h1, if_pos h1]; exact Or.inl ⟨rfl, h1, rfl⟩
  rw [if_neg h1, if_neg h1]
  by_cases h2 : c < 2 * P
  · rw [if_pos h2, if_pos h2]; exact Or.inr (Or.inl ⟨rfl, by omega, h2, rfl⟩)
  rw [if_neg h2, if_neg h2]
  by_cases h3 : c < 2 * P + 7
  · rw [if_pos h3, if_pos h3]; exact Or.inr (Or.inr (Or.inl ⟨rfl, by omega, h3, rfl⟩))
  rw [if_neg h3, if_neg h3]
  by_cases h4 : c < 2 * P + 9
  · rw [if_pos h4, if_pos h4]; exact Or.inr (Or.inr (Or.inr (Or.inl ⟨rfl, by omega, h4, rfl⟩)))
  · rw [if_neg h4, if_neg h4]; exact Or.inr (Or.inr (Or.inr (Or.inr ⟨rfl, by omega, rfl⟩)))
theorem t_cnum {P c : Nat} (hP : P ≤ 3) (hc : c < 17) : f_Tr_numberOf (nI P) (nI c) = some (nI (z_cm P c)) := by
  unfold f_Tr_numberOf f_Tr_numberOf_J74
  rw [t_csort hP hc, q_B]
  rcases z_cs_vals P c with ⟨h, h1, h2⟩ | ⟨h, h1, h2, h3⟩ | ⟨h, h1, h2, h3⟩ | ⟨h, h1, h2, h3⟩ | ⟨h, h1, h2⟩
  · rw [h, h2]; rfl
  · rw [h, h3]
    refine e_F (by decide) ?_
    refine e_T rfl ?_
    rw [q_sub h1]
  · rw [h, h3]
    refine e_F (by decide) ?_
    refine e_F (by decide) ?_
    refine e_T rfl ?_
    rw [show (2 : Int32) = nI 2 from rfl, q_mul, q_sub h1]
  · rw [h, h3]
    refine e_F (by decide) ?_
    refine e_F (by decide) ?_
    refine e_F (by decide) ?_
    refine e_F (by decide) ?_
    refine e_F (by decide) ?_
    refine e_T rfl ?_
    rw [show (2 : Int32) = nI 2 from rfl, show (7 : Int32) = nI 7 from rfl, q_mul, q_sub (by omega), q_sub (by omega)]
  · rw [h, h2]
    refine e_F (by decide) ?_
    refine e_F (by decide) ?_
    refine e_F (by decide) ?_
    refine e_F (by decide) ?_
    refine e_F (by decide) ?_
    refine e_F (by decide) ?_
    rw [show (2 : Int32) = nI 2 from rfl, show (7 : Int32) = nI 7 from rfl, q_mul, q_sub (by omega), q_sub (by omega), q_sub (by omega), Nat.sub_sub (c - 2 * P) 7 2]
/-- a trial in one number -/
def z_tpk (k w d b : Nat) : Nat := k + w * 8 + d * 64 + b * 512
theorem z_tb8 {x v : Nat} : (x / 2 ^ v % 2 = 0) ↔ x.testBit v = false := z_dig.symm
theorem z_bitN {w v : Nat} : (w / 2 ^ v % 2) = (w.testBit v).toNat := by
  rw [Nat.testBit_eq_decide_div_mod_eq]
  have : w / 2 ^ v % 2 < 2 := Nat.mod_lt _ (by decide)
  by_cases h : w / 2 ^ v % 2 = 1
  · simp [h]
  · simp [h]; omega
theorem z_pk_w {k w d b v : Nat} (hk : k < 8) (hw : w < 8) (hd : d < 8) (hv : v < 3) : z_tpk k w d b / 2 ^ (3 + v) % 2 = w / 2 ^ v % 2 := by
  unfold z_tpk
  have : v = 0 ∨ v = 1 ∨ v = 2 := by omega
  rcases this with rfl | rfl | rfl <;> simp only [Nat.reducePow, Nat.reduceAdd] <;> omega
theorem z_pk_b {k w d b v : Nat} (hk : k < 8) (hw : w < 8) (hd : d < 8) (hb : b < 4) (hv : v < 2) : z_tpk k w d b / 2 ^ (9 + v) % 2 = b / 2 ^ v % 2 := by
  unfold z_tpk
  have : v = 0 ∨ v = 1 := by omega
  rcases this with rfl | rfl <;> simp only [Nat.reducePow, Nat.reduceAdd] <;> omega
theorem z_wso_0 {P c k w d b : Nat} (h : z_cs P c = 0) : z_wso P c k w d b = decide (k = z_cm P c + 1) := by unfold z_wso; rw [h]; rfl
theorem z_wso_1 {P c k w d b : Nat} (h : z_cs P c = 1) : z_wso P c k w d b = w.testBit (z_cm P c) := by unfold z_wso; rw [h]; rfl
theorem z_wso_2 {P c k w d b : Nat} (h : z_cs P c = 2) : z_wso P c k w d b = decide (d = z_cm P c) := by unfold z_wso; rw [h]; rfl
theorem z_wso_5 {P c k w d b : Nat} (h : z_cs P c = 5) : z_wso P c k w d b = b.testBit (z_cm P c) := by unfold z_wso; rw [h]; rfl
theorem z_wso_6 {P c k w d b : Nat} (h : z_cs P c = 6) : z_wso P c k w d b = !b.testBit (z_cm P c) := by unfold z_wso; rw [h]; rfl
theorem t_isSoIn {P c k w d b : Nat} (hP : P ≤ 3) (hc : c < 2 * P + 11) (hk : k < 8) (hw : w < 8) (hd : d < 8) (hb : b < 4) : f_Tr_isSoIn (nI P) (nI c) (nI (z_tpk k w d b)) = some (nI (z_wso P c k w d b).toNat) := by
  have hpk : z_tpk k w d b < 2 ^ 12 := by unfold z_tpk; omega
  unfold f_Tr_isSoIn f_Tr_isSoIn_J114
  rw [t_cnum hP (by omega), q_B, t_csort hP (by omega), q_B]
  rcases z_cs_vals P c with ⟨h, h1, h2⟩ | ⟨h, h1, h2, h3⟩ | ⟨h, h1, h2, h3⟩ | ⟨h, h1, h2, h3⟩ | ⟨h, h1, h2⟩
  · rw [z_wso_0 h, h, h2]
    refine e_T rfl ?_
    have hiff : (nI (z_tpk k w d b) &&& 7 = nI c + 1) ↔ k = c + 1 := by
      simp (disch := omega) only [q_lit, q_a7, nI_add, nI_eq]
      unfold z_tpk; omega
    by_cases hh : k = c + 1
    · rw [decide_eq_true hh]; exact e_T (hiff.mpr hh) rfl
    · rw [decide_eq_false hh]; exact e_F (fun z => hh (hiff.mp z)) rfl
  · rw [z_wso_1 h, h, h3]
    refine e_F (by decide) ?_
    refine e_T rfl ?_
    simp (disch := omega) only [q_lit, nI_add, q_a31s, q_shrm, q_a1, nI_eq]
    rw [z_pk_w hk hw hd (by omega)]
    cases hbit : w.testBit (c - P)
    · exact e_T (z_dig.mp hbit) rfl
    · exact e_F (fun z => by rw [← z_dig, hbit] at z; cases z) rfl
  · rw [z_wso_2 h, h, h3]
    refine e_F (by decide) ?_
    refine e_F (by decide) ?_
    refine e_T rfl ?_
    have hiff : ((nI (z_tpk k w d b) >>> ((6 : Int32) &&& 31)) &&& 7 = nI (c - 2 * P)) ↔ d = c - 2 * P := by
      simp (disch := omega) only [q_lit, q_a31s, q_shrm, q_a7, Nat.reducePow]
      rw [nI_eq (by omega) (by omega)]
      unfold z_tpk; omega
    by_cases hh : d = c - 2 * P
    · rw [decide_eq_true hh]; exact e_T (hiff.mpr hh) rfl
    · rw [decide_eq_false hh]; exact e_F (fun z => hh (hiff.mp z)) rfl
  · rw [z_wso_5 h, h, h3]
    refine e_F (by decide) ?_
    refine e_F (by decide) ?_
    refine e_F (by decide) ?_
    refine e_F (by decide) ?_
    refine e_F (by decide) ?_
    refine e_T rfl ?_
    simp (disch := omega) only [q_lit, nI_add, q_a31s, q_shrm, q_a1, nI_eq]
    rw [z_pk_b hk hw hd hb (by omega)]
    cases hbit : b.testBit (c - 2 * P - 7)
    · exact e_T (z_dig.mp hbit) rfl
    · exact e_F (fun z => by rw [← z_dig, hbit] at z; cases z) rfl
  · rw [z_wso_6 h, h, h2]
    refine e_F (by decide) ?_
    refine e_F (by decide) ?_
    refine e_F (by decide) ?_
    refine e_F (by decide) ?_
    refine e_F (by decide) ?_
    refine e_F (by decide) ?_
    simp (disch := omega) only [q_lit, nI_add, q_a31s, q_shrm, q_a1, nI_eq]
    rw [z_pk_b hk hw hd hb (by omega)]
    cases hbit : b.testBit (c - 2 * P - 9)
    · exact e_T (z_dig.mp hbit) rfl
    · exact e_F (fun z => by rw [← z_dig, hbit] at z; cases z) rfl
/-! the reference -/
/-- a kisser by his number and one more; 0: none -/
def z_kI (k : Nat) : Int32 := if k = 0 then -nI 1 else nI (k - 1)
theorem m_tnum {P c : Nat} (hP : P ≤ 3) (hc : c < 17) : f_Mo_numberOf (nI P) (nI c) = some (nI (z_cm P c)) ∧ f_Mo_termOf (nI P) (nI c) = some (nI (z_cs P c)) := by
  unfold f_Mo_numberOf f_Mo_termOf
  simp only [x_L]
  have e1 : (2 : Int32) * nI P = nI (2 * P) := by rw [show (2 : Int32) = nI 2 from rfl, q_mul]
  rw [e1]
  rcases z_cs_vals P c with ⟨h, h1, h2⟩ | ⟨h, h1, h2, h3⟩ | ⟨h, h1, h2, h3⟩ | ⟨h, h1, h2, h3⟩ | ⟨h, h1, h2⟩
  · rw [h, h2]
    exact ⟨e_F (nI_ge h1 (by omega)) rfl, e_F (nI_ge h1 (by omega)) rfl⟩
  · rw [h, h3]
    have hn : ¬ (0 : Int32) ≤ nI c - nI (2 * P) := by
      rw [Int32.not_le]
      exact pk_sneg (by omega) h2
    refine ⟨?_, ?_⟩
    · refine e_T (nI_le h1 (by omega)) ?_
      refine e_F hn ?_
      rw [q_sub h1]
    · refine e_T (nI_le h1 (by omega)) ?_
      exact e_F hn rfl
  · rw [h, h3, q_sub h1]
    refine ⟨?_, ?_⟩
    · refine e_T (nI_le (by omega) (by omega)) ?_
      refine e_T (nI_pos' (by omega)) ?_
      exact e_F (by simp (disch := omega) only [q_lit, q_ofn, nI_add, q_mul, q_sub, q_shrm, q_shlm, q_a31s, q_a1, q_a3, q_a7, q_a65535, q_div, q_rem2, z_mm, nI_clamp, Nat.reduceMul, Nat.reduceAdd, Nat.reduceSub, Nat.reducePow, Nat.reduceMod, Nat.reduceDiv, Nat.one_mul, nI_ltI, nI_leI, nI_eq, q_b0, q_b1, q_m1lt, q_m1le, q_ltm1, q_lem1, q_eqm1, q_m1eq, not_true_eq_false, not_false_eq_true, reduceCtorEq, *] <;> first | omega | decide) rfl
    · refine e_T (nI_le (by omega) (by omega)) ?_
      refine e_T (nI_pos' (by omega)) ?_
      exact e_F (by simp (disch := omega) only [q_lit, q_ofn, nI_add, q_mul, q_sub, q_shrm, q_shlm, q_a31s, q_a1, q_a3, q_a7, q_a65535, q_div, q_rem2, z_mm, nI_clamp, Nat.reduceMul, Nat.reduceAdd, Nat.reduceSub, Nat.reducePow, Nat.reduceMod, Nat.reduceDiv, Nat.one_mul, nI_ltI, nI_leI, nI_eq, q_b0, q_b1, q_m1lt, q_m1le, q_ltm1, q_lem1, q_eqm1, q_m1eq, not_true_eq_false, not_false_eq_true, reduceCtorEq, *] <;> first | omega | decide) rfl
  · rw [h, h3, q_sub (by omega)]
    refine ⟨?_, ?_⟩
    · refine e_T (nI_le (by omega) (by omega)) ?_
      refine e_T (nI_pos' (by omega)) ?_
      refine e_T (by simp (disch := omega) only [q_lit, q_ofn, nI_add, q_mul, q_sub, q_shrm, q_shlm, q_a31s, q_a1, q_a3, q_a7, q_a65535, q_div, q_rem2, z_mm, nI_clamp, Nat.reduceMul, Nat.reduceAdd, Nat.reduceSub, Nat.reducePow, Nat.reduceMod, Nat.reduceDiv, Nat.one_mul, nI_ltI, nI_leI, nI_eq, q_b0, q_b1, q_m1lt, q_m1le, q_ltm1, q_lem1, q_eqm1, q_m1eq, not_true_eq_false, not_false_eq_true, reduceCtorEq, *] <;> first | omega | decide) ?_
      refine e_F (by simp (disch := omega) only [q_lit, q_ofn, nI_add, q_mul, q_sub, q_shrm, q_shlm, q_a31s, q_a1, q_a3, q_a7, q_a65535, q_div, q_rem2, z_mm, nI_clamp, Nat.reduceMul, Nat.reduceAdd, Nat.reduceSub, Nat.reducePow, Nat.reduceMod, Nat.reduceDiv, Nat.one_mul, nI_ltI, nI_leI, nI_eq, q_b0, q_b1, q_m1lt, q_m1le, q_ltm1, q_lem1, q_eqm1, q_m1eq, not_true_eq_false, not_false_eq_true, reduceCtorEq, *] <;> first | omega | decide) ?_
      rw [show (7 : Int32) = nI 7 from rfl, q_sub (by omega)]
    · refine e_T (nI_le (by omega) (by omega)) ?_
      refine e_T (nI_pos' (by omega)) ?_
      refine e_T (by simp (disch := omega) only [q_lit, q_ofn, nI_add, q_mul, q_sub, q_shrm, q_shlm, q_a31s, q_a1, q_a3, q_a7, q_a65535, q_div, q_rem2, z_mm, nI_clamp, Nat.reduceMul, Nat.reduceAdd, Nat.reduceSub, Nat.reducePow, Nat.reduceMod, Nat.reduceDiv, Nat.one_mul, nI_ltI, nI_leI, nI_eq, q_b0, q_b1, q_m1lt, q_m1le, q_ltm1, q_lem1, q_eqm1, q_m1eq, not_true_eq_false, not_false_eq_true, reduceCtorEq, *] <;> first | omega | decide) ?_
      exact e_F (by simp (disch := omega) only [q_lit, q_ofn, nI_add, q_mul, q_sub, q_shrm, q_shlm, q_a31s, q_a1, q_a3, q_a7, q_a65535, q_div, q_rem2, z_mm, nI_clamp, Nat.reduceMul, Nat.reduceAdd, Nat.reduceSub, Nat.reducePow, Nat.reduceMod, Nat.reduceDiv, Nat.one_mul, nI_ltI, nI_leI, nI_eq, q_b0, q_b1, q_m1lt, q_m1le, q_ltm1, q_lem1, q_eqm1, q_m1eq, not_true_eq_false, not_false_eq_true, reduceCtorEq, *] <;> first | omega | decide) rfl
  · rw [h, h2, q_sub (by omega)]
    refine ⟨?_, ?_⟩
    · refine e_T (nI_le (by omega) (by omega)) ?_
      refine e_T (nI_pos' (by omega)) ?_
      refine e_T (by simp (disch := omega) only [q_lit, q_ofn, nI_add, q_mul, q_sub, q_shrm, q_shlm, q_a31s, q_a1, q_a3, q_a7, q_a65535, q_div, q_rem2, z_mm, nI_clamp, Nat.reduceMul, Nat.reduceAdd, Nat.reduceSub, Nat.reducePow, Nat.reduceMod, Nat.reduceDiv, Nat.one_mul, nI_ltI, nI_leI, nI_eq, q_b0, q_b1, q_m1lt, q_m1le, q_ltm1, q_lem1, q_eqm1, q_m1eq, not_true_eq_false, not_false_eq_true, reduceCtorEq, *] <;> first | omega | decide) ?_
      refine e_T (by simp (disch := omega) only [q_lit, q_ofn, nI_add, q_mul, q_sub, q_shrm, q_shlm, q_a31s, q_a1, q_a3, q_a7, q_a65535, q_div, q_rem2, z_mm, nI_clamp, Nat.reduceMul, Nat.reduceAdd, Nat.reduceSub, Nat.reducePow, Nat.reduceMod, Nat.reduceDiv, Nat.one_mul, nI_ltI, nI_leI, nI_eq, q_b0, q_b1, q_m1lt, q_m1le, q_ltm1, q_lem1, q_eqm1, q_m1eq, not_true_eq_false, not_false_eq_true, reduceCtorEq, *] <;> first | omega | decide) ?_
      rw [show (9 : Int32) = nI 9 from rfl, q_sub (by omega)]
    · refine e_T (nI_le (by omega) (by omega)) ?_
      refine e_T (nI_pos' (by omega)) ?_
      refine e_T (by simp (disch := omega) only [q_lit, q_ofn, nI_add, q_mul, q_sub, q_shrm, q_shlm, q_a31s, q_a1, q_a3, q_a7, q_a65535, q_div, q_rem2, z_mm, nI_clamp, Nat.reduceMul, Nat.reduceAdd, Nat.reduceSub, Nat.reducePow, Nat.reduceMod, Nat.reduceDiv, Nat.one_mul, nI_ltI, nI_leI, nI_eq, q_b0, q_b1, q_m1lt, q_m1le, q_ltm1, q_lem1, q_eqm1, q_m1eq, not_true_eq_false, not_false_eq_true, reduceCtorEq, *] <;> first | omega | decide) ?_
      exact e_T (by simp (disch := omega) only [q_lit, q_ofn, nI_add, q_mul, q_sub, q_shrm, q_shlm, q_a31s, q_a1, q_a3, q_a7, q_a65535, q_div, q_rem2, z_mm, nI_clamp, Nat.reduceMul, Nat.reduceAdd, Nat.reduceSub, Nat.reducePow, Nat.reduceMod, Nat.reduceDiv, Nat.one_mul, nI_ltI, nI_leI, nI_eq, q_b0, q_b1, q_m1lt, q_m1le, q_ltm1, q_lem1, q_eqm1, q_m1eq, not_true_eq_false, not_false_eq_true, reduceCtorEq, *] <;> first | omega | decide) rfl
theorem m_wasSo {P c k w d b : Nat} (hP : P ≤ 3) (hc : c < 2 * P + 11) (hk : k < 8) (hw : w < 8) (hd : d < 8) (hb : b < 4) : f_Mo_wasSo (nI P) (nI c) (z_kI k) (nI w) (nI d) (nI b) = some (nI (z_wso P c k w d b).toNat) := by
  unfold f_Mo_wasSo f_Mo_wasSo_J92
  rw [(m_tnum hP (by omega)).1, q_B, (m_tnum hP (by omega)).2, q_B]
  rcases z_cs_vals P c with ⟨h, h1, h2⟩ | ⟨h, h1, h2, h3⟩ | ⟨h, h1, h2, h3⟩ | ⟨h, h1, h2, h3⟩ | ⟨h, h1, h2⟩
  · rw [z_wso_0 h, h, h2]
    refine e_T rfl ?_
    have hiff : (z_kI k = nI c) ↔ k = c + 1 := by
      unfold z_kI
      split
      · constructor
        · intro e; exact ((q_m1eq (by omega)).mp e).elim
        · intro e; omega
      · rw [nI_eq (by omega) (by omega)]; omega
    by_cases hkc : k = c + 1
    · rw [decide_eq_true hkc]; exact e_T (hiff.mpr hkc) rfl
    · rw [decide_eq_false hkc]; exact e_F (fun z => hkc (hiff.mp z)) rfl
  · rw [z_wso_1 h, h, h3]
    refine e_F (by decide) ?_
    refine e_T rfl ?_
    rw [m_has (by omega) (by omega), q_B, show (1 : Int32) = nI 1 from rfl, q_bm]
  · rw [z_wso_2 h, h, h3]
    refine e_F (by decide) ?_
    refine e_F (by decide) ?_
    refine e_T rfl ?_
    by_cases hdc : d = c - 2 * P
    · rw [decide_eq_true hdc]; exact e_T (by rw [hdc]) rfl
    · rw [decide_eq_false hdc]; exact e_F (by rw [nI_eq (by omega) (by omega)]; exact hdc) rfl
  · rw [z_wso_5 h, h, h3]
    refine e_F (by decide) ?_
    refine e_F (by decide) ?_
    refine e_F (by decide) ?_
    refine e_F (by decide) ?_
    refine e_F (by decide) ?_
    refine e_T rfl ?_
    rw [m_has (by omega) (by omega), q_B, show (1 : Int32) = nI 1 from rfl, q_bm]
  · rw [z_wso_6 h, h, h2]
    refine e_F (by decide) ?_
    refine e_F (by decide) ?_
    refine e_F (by decide) ?_
    refine e_F (by decide) ?_
    refine e_F (by decide) ?_
    refine e_F (by decide) ?_
    rw [m_has (by omega) (by omega), q_B]
    cases b.testBit (c - 2 * P - 9)
    · exact e_T (by decide) rfl
    · exact e_F (by decide) rfl
/-! whether an if may be -/
/-- t trials: kisser (and one more), weepers, day, gifts, lifted -/
def z_tro (P t : Nat) (T : Nat → Nat → Nat) : Prop := t ≤ 8 ∧ ∀ i, i < t → T 0 i ≤ P ∧ T 1 i < 2 ^ P ∧ T 2 i < 7 ∧ T 3 i < 4 ∧ T 4 i < 2
def z_wt (P : Nat) (T : Nat → Nat → Nat) (a i : Nat) : Bool := z_wso P a (T 0 i) (T 1 i) (T 2 i) (T 3 i)
def z_ft (P t : Nat) (T : Nat → Nat → Nat) (a b : Nat) : Bool := z_all (fun i => decide ((z_wt P T a i && z_wt P T b i) = decide (T 4 i = 1))) t
theorem z_bm_eq {f g h : Nat → Bool} {t : Nat} : (z_bm f t &&& z_bm g t = z_bm h t) ↔ ∀ i, i < t → (f i && g i) = h i := by
  constructor
  · intro e i hi
    have := congrArg (fun x => Nat.testBit x i) e
    simp only [Nat.testBit_and, z_bm_bit, decide_eq_true hi, Bool.true_and] at this
    exact this
  · intro h
    apply Nat.eq_of_testBit_eq
    intro i
    rw [Nat.testBit_and, z_bm_bit, z_bm_bit, z_bm_bit]
    by_cases hi : i < t
    · rw [decide_eq_true hi, Bool.true_and, Bool.true_and, Bool.true_and]; exact h i hi
    · rw [decide_eq_false hi]; rfl
/-- the class's trials: lifted, items -/
def z_ctr (P t : Nat) (T : Nat → Nat → Nat) (lf : Int32) (it : Nat → Int32) : Prop := z_tro P t T ∧ lf = nI (z_bm (fun i => decide (T 4 i = 1)) t) ∧ ∀ i, i < t → it i = nI (z_tpk (T 0 i) (T 1 i) (T 2 i) (T 3 i))
def z_mtr (P t : Nat) (T : Nat → Nat → Nat) (tr : Nat → Int32) : Prop := z_tro P t T ∧ ∀ i, i < t → tr (5 * i) = z_kI (T 0 i) ∧ tr (5 * i + 1) = nI (T 1 i) ∧ tr (5 * i + 2) = nI (T 2 i) ∧ tr (5 * i + 3) = nI (T 3 i) ∧ tr (5 * i + 4) = nI (T 4 i)
def z_sor (P t : Nat) (T : Nat → Nat → Nat) (n : Nat) (so : Nat → Int32) : Prop := ∀ a, a < n → so a = nI (z_bm (z_wt P T a) t)
theorem z_tr_lt {P t i : Nat} {T : Nat → Nat → Nat} (hP : P ≤ 3) (h : z_tro P t T) (hi : i < t) : T 0 i < 8 ∧ T 1 i < 8 ∧ T 2 i < 8 ∧ T 3 i < 4 ∧ T 4 i < 2 := by
  obtain ⟨_, h⟩ := h
  obtain ⟨h1, h2, h3, h4, h5⟩ := h i hi
  have : 2 ^ P ≤ 2 ^ 3 := Nat.pow_le_pow_right (by decide) hP
  omega
theorem t_weigh_in {P t a : Nat} {T : Nat → Nat → Nat} {lf : Int32} {it : Nat → Int32} (hP : P ≤ 3) (h : z_ctr P t T lf it) (ha : a < 2 * P + 11) : ∀ r i k (so : Nat → Int32), i + r = t → r < k → so a = nI (z_bm (z_wt P T a) i) → wp (f_Tr_weigh_L30 8 (nI P) (nI t) it (nI a) k (nI i) so) (fun so' => so' a = nI (z_bm (z_wt P T a) t) ∧ ∀ b, b ≠ a → so' b = so b) := by
  obtain ⟨h1, h2, h3⟩ := h
  have ht := h1.1
  intro r
  induction r with
  | zero =>
    intro i k so hi hk hs
    obtain ⟨k, rfl⟩ : ∃ k', k = k' + 1 := ⟨k - 1, by omega⟩
    have : i = t := by omega
    subst this
    rw [f_Tr_weigh_L30]
    refine w_if (fun _ => w_some ⟨hs, fun _ _ => rfl⟩) (fun _ => ?_)
    unfold f_Rw_size
    refine w_Be rfl ?_
    exact w_T (nI_le (Nat.le_refl _) (by omega)) (w_some ⟨hs, fun _ _ => rfl⟩)
  | succ r ih =>
    intro i k so hi hk hs
    obtain ⟨k, rfl⟩ : ∃ k', k = k' + 1 := ⟨k - 1, by omega⟩
    obtain ⟨b1, b2, b3, b4, b5⟩ := z_tr_lt hP h1 (i := i) (by omega)
    rw [f_Tr_weigh_L30]
    refine w_F (by simp (disch := omega) only [q_lit, q_ofn, nI_add, q_mul, q_sub, q_shrm, q_shlm, q_a31s, q_a1, q_a3, q_a7, q_a65535, q_div, q_rem2, z_mm, nI_clamp, Nat.reduceMul, Nat.reduceAdd, Nat.reduceSub, Nat.reducePow, Nat.reduceMod, Nat.reduceDiv, Nat.one_mul, nI_ltI, nI_leI, nI_eq, q_b0, q_b1, q_m1lt, q_m1le, q_ltm1, q_lem1, q_eqm1, q_m1eq, not_true_eq_false, not_false_eq_true, reduceCtorEq, *] <;> first | omega | decide) ?_
    unfold f_Rw_size f_SS_oneIf
    refine w_Be rfl ?_
    refine w_F (nI_ge (by omega) (by omega)) ?_
    refine w_I (i := a) (by first | (with_reducible rfl) | (simp (disch := omega) only [q_lit, q_ofn, nI_add, q_mul, q_sub, q_shrm, q_shlm, q_a31s, q_a1, q_a3, q_a7, q_a65535, q_div, q_rem2, z_mm, nI_clamp, Nat.reduceMul, Nat.reduceAdd, Nat.reduceSub, Nat.reducePow, Nat.reduceMod, Nat.reduceDiv, Nat.one_mul]; done) | (simp (disch := omega) only [q_lit, q_ofn, nI_add, q_mul, q_sub, q_shrm, q_shlm, q_a31s, q_a1, q_a3, q_a7, q_a65535, q_div, q_rem2, z_mm, nI_clamp, Nat.reduceMul, Nat.reduceAdd, Nat.reduceSub, Nat.reducePow, Nat.reduceMod, Nat.reduceDiv, Nat.one_mul]; with_reducible rfl)) (by omega) (by first | decide | omega) ?_
    refine w_Be (t_at (by omega) ht (by decide)) ?_
    rw [h3 i (by omega)]
    refine w_Be (t_isSoIn hP ha b1 b2 b3 b4) ?_
    have e1 : (if nI (z_wso P a (T 0 i) (T 1 i) (T 2 i) (T 3 i)).toNat = 0 then some (0 : Int32) else some 1) = some (nI (z_wt P T a i).toNat) := by
      unfold z_wt
      cases z_wso P a (T 0 i) (T 1 i) (T 2 i) (T 3 i) <;> rfl
    refine w_Be e1 ?_
    rw [hs]
    refine w_Ln (w := nI (z_bm (z_wt P T a) (i + 1))) ?_ ?_
    · simp (disch := omega) only [q_lit, q_a31s, q_shlm, q_or]
      show _ = nI (if z_wt P T a i = true then z_bm (z_wt P T a) i ||| 2 ^ i else z_bm (z_wt P T a) i)
      cases z_wt P T a i
      · simp
      · simp
    · refine w_C (i := a) (by first | (with_reducible rfl) | (simp (disch := omega) only [q_lit, q_ofn, nI_add, q_mul, q_sub, q_shrm, q_shlm, q_a31s, q_a1, q_a3, q_a7, q_a65535, q_div, q_rem2, z_mm, nI_clamp, Nat.reduceMul, Nat.reduceAdd, Nat.reduceSub, Nat.reducePow, Nat.reduceMod, Nat.reduceDiv, Nat.one_mul]; done) | (simp (disch := omega) only [q_lit, q_ofn, nI_add, q_mul, q_sub, q_shrm, q_shlm, q_a31s, q_a1, q_a3, q_a7, q_a65535, q_div, q_rem2, z_mm, nI_clamp, Nat.reduceMul, Nat.reduceAdd, Nat.reduceSub, Nat.reducePow, Nat.reduceMod, Nat.reduceDiv, Nat.one_mul]; with_reducible rfl)) (by omega) (by first | decide | omega) ?_
      refine w_Ln (w := nI (i + 1)) (by first | (with_reducible rfl) | (simp (disch := omega) only [q_lit, q_ofn, nI_add, q_mul, q_sub, q_shrm, q_shlm, q_a31s, q_a1, q_a3, q_a7, q_a65535, q_div, q_rem2, z_mm, nI_clamp, Nat.reduceMul, Nat.reduceAdd, Nat.reduceSub, Nat.reducePow, Nat.reduceMod, Nat.reduceDiv, Nat.one_mul]; done) | (simp (disch := omega) only [q_lit, q_ofn, nI_add, q_mul, q_sub, q_shrm, q_shlm, q_a31s, q_a1, q_a3, q_a7, q_a65535, q_div, q_rem2, z_mm, nI_clamp, Nat.reduceMul, Nat.reduceAdd, Nat.reduceSub, Nat.reducePow, Nat.reduceMod, Nat.reduceDiv, Nat.one_mul]; with_reducible rfl)) ?_
      rw [nI_clamp (by omega)]
      refine w_mono (ih (i + 1) k _ (by omega) (by omega) z_upd_s) (fun q hq => ⟨hq.1, fun b hb => ?_⟩)
      rw [hq.2 b hb, z_upd_n hb]
theorem t_cand {P : Nat} (hP : P ≤ 3) : f_Tr_candidates (nI P) = some (nI (2 * P + 11)) := by
  unfold f_Tr_candidates
  refine e_L ?_
  simp (disch := omega) only [q_lit, q_mul, nI_add, nI_ltI]
  rw [if_neg (by omega)]
theorem t_weigh_L {P t : Nat} {T : Nat → Nat → Nat} {lf : Int32} {it : Nat → Int32} (hP : P ≤ 3) (h : z_ctr P t T lf it) : ∀ r a k (so : Nat → Int32), a + r = 2 * P + 11 → r + 10 < k → z_sor P t T a so → wp (f_Tr_weigh_L7 8 (nI P) (nI t) it k (nI a) so) (z_sor P t T (2 * P + 11)) := by
  have ht := h.1.1
  intro r
  induction r with
  | zero =>
    intro a k so ha hk hs
    obtain ⟨k, rfl⟩ : ∃ k', k = k' + 1 := ⟨k - 1, by omega⟩
    rw [f_Tr_weigh_L7]
    refine w_Be (t_cand hP) ?_
    refine w_T (nI_le (by omega) (by omega)) (w_some ?_)
    rw [show 2 * P + 11 = a by omega]
    exact hs
  | succ r ih =>
    intro a k so ha hk hs
    obtain ⟨k, rfl⟩ : ∃ k', k = k' + 1 := ⟨k - 1, by omega⟩
    rw [f_Tr_weigh_L7]
    refine w_Be (t_cand hP) ?_
    refine w_F (nI_ge (by omega) (by omega)) ?_
    refine w_F (by simp (disch := omega) only [q_lit, q_ofn, nI_add, q_mul, q_sub, q_shrm, q_shlm, q_a31s, q_a1, q_a3, q_a7, q_a65535, q_div, q_rem2, z_mm, nI_clamp, Nat.reduceMul, Nat.reduceAdd, Nat.reduceSub, Nat.reducePow, Nat.reduceMod, Nat.reduceDiv, Nat.one_mul, nI_ltI, nI_leI, nI_eq, q_b0, q_b1, q_m1lt, q_m1le, q_ltm1, q_lem1, q_eqm1, q_m1eq, not_true_eq_false, not_false_eq_true, reduceCtorEq, *] <;> first | omega | decide) ?_
    refine w_C (i := a) (by first | (with_reducible rfl) | (simp (disch := omega) only [q_lit, q_ofn, nI_add, q_mul, q_sub, q_shrm, q_shlm, q_a31s, q_a1, q_a3, q_a7, q_a65535, q_div, q_rem2, z_mm, nI_clamp, Nat.reduceMul, Nat.reduceAdd, Nat.reduceSub, Nat.reducePow, Nat.reduceMod, Nat.reduceDiv, Nat.one_mul]; done) | (simp (disch := omega) only [q_lit, q_ofn, nI_add, q_mul, q_sub, q_shrm, q_shlm, q_a31s, q_a1, q_a3, q_a7, q_a65535, q_div, q_rem2, z_mm, nI_clamp, Nat.reduceMul, Nat.reduceAdd, Nat.reduceSub, Nat.reducePow, Nat.reduceMod, Nat.reduceDiv, Nat.one_mul]; with_reducible rfl)) (by omega) (by first | decide | omega) ?_
    rw [nI_clamp (by omega)]
    refine w_Bw (t_weigh_in (a := a) hP h (by omega) t 0 k _ (by omega) (by omega) z_upd_s) (fun q hq => ?_)
    unfold f_Tr_weigh_J80
    refine w_Ln (w := nI (a + 1)) (by first | (with_reducible rfl) | (simp (disch := omega) only [q_lit, q_ofn, nI_add, q_mul, q_sub, q_shrm, q_shlm, q_a31s, q_a1, q_a3, q_a7, q_a65535, q_div, q_rem2, z_mm, nI_clamp, Nat.reduceMul, Nat.reduceAdd, Nat.reduceSub, Nat.reducePow, Nat.reduceMod, Nat.reduceDiv, Nat.one_mul]; done) | (simp (disch := omega) only [q_lit, q_ofn, nI_add, q_mul, q_sub, q_shrm, q_shlm, q_a31s, q_a1, q_a3, q_a7, q_a65535, q_div, q_rem2, z_mm, nI_clamp, Nat.reduceMul, Nat.reduceAdd, Nat.reduceSub, Nat.reducePow, Nat.reduceMod, Nat.reduceDiv, Nat.one_mul]; with_reducible rfl)) ?_
    refine ih (a + 1) k q (by omega) (by omega) ?_
    intro b hb
    by_cases hba : b = a
    · subst hba; exact hq.1
    · rw [hq.2 b hba, z_upd_n hba]
      exact hs b (by omega)
theorem t_weigh {P t k : Nat} {T : Nat → Nat → Nat} {lf pe : Int32} {it so : Nat → Int32} (hP : P ≤ 3) (h : z_ctr P t T lf it) (hk : 100 ≤ k) : wp (f_Tr_weigh k 8 pe (nI t) so it (nI P)) (fun q => q.1 = nI P ∧ z_sor P t T (2 * P + 11) q.2) := by
  unfold f_Tr_weigh
  refine w_Bw (t_weigh_L hP h (2 * P + 11) 0 k so (by omega) (by omega) (fun a ha => by omega)) (fun q hq => ?_)
  exact w_some ⟨rfl, hq⟩
theorem t_fits {P t a b : Nat} {T : Nat → Nat → Nat} {lf : Int32} {it so : Nat → Int32} (hP : P ≤ 3) (h : z_ctr P t T lf it) (hs : z_sor P t T (2 * P + 11) so) (ha : a < 2 * P + 11) (hb : b < 2 * P + 11) : f_Tr_fits lf so (nI a) (nI b) = some (nI (z_ft P t T a b).toNat) := by
  obtain ⟨h1, h2, h3⟩ := h
  have ht := h1.1
  have hlt : ∀ f : Nat → Bool, z_bm f t < 2 ^ 31 := fun f => Nat.lt_of_lt_of_le (z_bm_lt f t) (Nat.pow_le_pow_right (by decide) (by omega))
  unfold f_Tr_fits
  refine e_F (by simp (disch := omega) only [q_lit, q_ofn, nI_add, q_mul, q_sub, q_shrm, q_shlm, q_a31s, q_a1, q_a3, q_a7, q_a65535, q_div, q_rem2, z_mm, nI_clamp, Nat.reduceMul, Nat.reduceAdd, Nat.reduceSub, Nat.reducePow, Nat.reduceMod, Nat.reduceDiv, Nat.one_mul, nI_ltI, nI_leI, nI_eq, q_b0, q_b1, q_m1lt, q_m1le, q_ltm1, q_lem1, q_eqm1, q_m1eq, not_true_eq_false, not_false_eq_true, reduceCtorEq, *] <;> first | omega | decide) ?_
  refine e_F (by simp (disch := omega) only [q_lit, q_ofn, nI_add, q_mul, q_sub, q_shrm, q_shlm, q_a31s, q_a1, q_a3, q_a7, q_a65535, q_div, q_rem2, z_mm, nI_clamp, Nat.reduceMul, Nat.reduceAdd, Nat.reduceSub, Nat.reducePow, Nat.reduceMod, Nat.reduceDiv, Nat.one_mul, nI_ltI, nI_leI, nI_eq, q_b0, q_b1, q_m1lt, q_m1le, q_ltm1, q_lem1, q_eqm1, q_m1eq, not_true_eq_false, not_false_eq_true, reduceCtorEq, *] <;> first | omega | decide) ?_
  refine e_F (by simp (disch := omega) only [q_lit, q_ofn, nI_add, q_mul, q_sub, q_shrm, q_shlm, q_a31s, q_a1, q_a3, q_a7, q_a65535, q_div, q_rem2, z_mm, nI_clamp, Nat.reduceMul, Nat.reduceAdd, Nat.reduceSub, Nat.reducePow, Nat.reduceMod, Nat.reduceDiv, Nat.one_mul, nI_ltI, nI_leI, nI_eq, q_b0, q_b1, q_m1lt, q_m1le, q_ltm1, q_lem1, q_eqm1, q_m1eq, not_true_eq_false, not_false_eq_true, reduceCtorEq, *] <;> first | omega | decide) ?_
  refine e_T (by simp (disch := omega) only [q_lit, q_ofn, nI_add, q_mul, q_sub, q_shrm, q_shlm, q_a31s, q_a1, q_a3, q_a7, q_a65535, q_div, q_rem2, z_mm, nI_clamp, Nat.reduceMul, Nat.reduceAdd, Nat.reduceSub, Nat.reducePow, Nat.reduceMod, Nat.reduceDiv, Nat.one_mul, nI_ltI, nI_leI, nI_eq, q_b0, q_b1, q_m1lt, q_m1le, q_ltm1, q_lem1, q_eqm1, q_m1eq, not_true_eq_false, not_false_eq_true, reduceCtorEq, *] <;> first | omega | decide) ?_
  refine e_I (i := a) (by first | (with_reducible rfl) | (simp (disch := omega) only [q_lit, q_ofn, nI_add, q_mul, q_sub, q_shrm, q_shlm, q_a31s, q_a1, q_a3, q_a7, q_a65535, q_div, q_rem2, z_mm, nI_clamp, Nat.reduceMul, Nat.reduceAdd, Nat.reduceSub, Nat.reducePow, Nat.reduceMod, Nat.reduceDiv, Nat.one_mul]; done) | (simp (disch := omega) only [q_lit, q_ofn, nI_add, q_mul, q_sub, q_shrm, q_shlm, q_a31s, q_a1, q_a3, q_a7, q_a65535, q_div, q_rem2, z_mm, nI_clamp, Nat.reduceMul, Nat.reduceAdd, Nat.reduceSub, Nat.reducePow, Nat.reduceMod, Nat.reduceDiv, Nat.one_mul]; with_reducible rfl)) (by omega) (by first | decide | omega) ?_
  refine e_I (i := b) (by first | (with_reducible rfl) | (simp (disch := omega) only [q_lit, q_ofn, nI_add, q_mul, q_sub, q_shrm, q_shlm, q_a31s, q_a1, q_a3, q_a7, q_a65535, q_div, q_rem2, z_mm, nI_clamp, Nat.reduceMul, Nat.reduceAdd, Nat.reduceSub, Nat.reducePow, Nat.reduceMod, Nat.reduceDiv, Nat.one_mul]; done) | (simp (disch := omega) only [q_lit, q_ofn, nI_add, q_mul, q_sub, q_shrm, q_shlm, q_a31s, q_a1, q_a3, q_a7, q_a65535, q_div, q_rem2, z_mm, nI_clamp, Nat.reduceMul, Nat.reduceAdd, Nat.reduceSub, Nat.reducePow, Nat.reduceMod, Nat.reduceDiv, Nat.one_mul]; with_reducible rfl)) (by omega) (by first | decide | omega) ?_
  rw [hs a ha, hs b hb, h2, q_and]
  have hiff : (nI (z_bm (z_wt P T a) t &&& z_bm (z_wt P T b) t) = nI (z_bm (fun i => decide (T 4 i = 1)) t)) ↔ z_ft P t T a b = true := by
    rw [nI_eq (Nat.lt_of_le_of_lt Nat.and_le_left (hlt _)) (hlt _), z_bm_eq]
    unfold z_ft
    rw [z_all_iff]
    constructor
    · intro z i hi; exact decide_eq_true (z i hi)
    · intro z i hi; exact of_decide_eq_true (z i hi)
  cases hf : z_ft P t T a b
  · exact e_F (fun z => by rw [hiff, hf] at z; cases z) rfl
  · exact e_T (hiff.mpr hf) rfl
theorem m_fits_L {P t a b : Nat} {T : Nat → Nat → Nat} {tr : Nat → Int32} (hP : P ≤ 3) (h : z_mtr P t T tr) (ha : a < 2 * P + 11) (hb : b < 2 * P + 11) : ∀ r i k, i + r = t → r < k → f_Mo_fits_L5 (nI P) (nI t) tr (nI a) (nI b) k (nI (z_all (fun i => decide ((z_wt P T a i && z_wt P T b i) = decide (T 4 i = 1))) i).toNat) (nI i) = some (nI (z_ft P t T a b).toNat) := by
  obtain ⟨h1, h2⟩ := h
  have ht := h1.1
  intro r
  induction r with
  | zero =>
    intro i k hi hk
    obtain ⟨k, rfl⟩ : ∃ k', k = k' + 1 := ⟨k - 1, by omega⟩
    have : i = t := by omega
    subst this
    rw [f_Mo_fits_L5]
    exact e_T (nI_le (Nat.le_refl _) (by omega)) rfl
  | succ r ih =>
    intro i k hi hk
    obtain ⟨k, rfl⟩ : ∃ k', k = k' + 1 := ⟨k - 1, by omega⟩
    obtain ⟨b1, b2, b3, b4, b5⟩ := z_tr_lt hP h1 (i := i) (by omega)
    obtain ⟨c1, c2, c3, c4, c5⟩ := h2 i (by omega)
    have ih' := ih (i + 1) k (by omega) (by omega)
    have e5 : (5 : Int32) * nI i = nI (5 * i) := by rw [show (5 : Int32) = nI 5 from rfl, q_mul]
    have ea : ∀ v : Nat, nI (5 * i) + nI v = nI (5 * i + v) := fun v => nI_add _ _
    rw [f_Mo_fits_L5]
    refine e_F (nI_ge (by omega) (by omega)) ?_
    refine e_L ?_
    rw [e5]
    refine e_I (i := 5 * i) rfl (by omega) (by decide) ?_
    refine e_L ?_
    refine e_I (i := 5 * i + 1) (ea 1) (by omega) (by decide) ?_
    refine e_L ?_
    refine e_I (i := 5 * i + 2) (ea 2) (by omega) (by decide) ?_
    refine e_L ?_
    refine e_I (i := 5 * i + 3) (ea 3) (by omega) (by decide) ?_
    rw [c1, c2, c3, c4, m_wasSo hP ha b1 b2 b3 b4, q_B]
    have hz : z_all (fun i => decide ((z_wt P T a i && z_wt P T b i) = decide (T 4 i = 1))) (i + 1) = (z_all (fun i => decide ((z_wt P T a i && z_wt P T b i) = decide (T 4 i = 1))) i && decide ((z_wt P T a i && z_wt P T b i) = decide (T 4 i = 1))) := rfl
    rw [hz] at ih'
    have J109 : ∀ s0 : Int32, s0 = nI (z_wt P T a i && z_wt P T b i).toNat → f_Mo_fits_J109 (f_Mo_fits_L5 (nI P) (nI t) tr (nI a) (nI b) k) k (nI P) (nI t) tr (nI a) (nI b) (nI (z_all (fun i => decide ((z_wt P T a i && z_wt P T b i) = decide (T 4 i = 1))) i).toNat) (nI i) (nI (5 * i)) s0 = some (nI (z_ft P t T a b).toNat) := by
      intro s0 hs
      subst hs
      unfold f_Mo_fits_J109 f_Mo_fits_J135 f_Mo_fits_J142 f_Mo_fits_J143
      have inc : nI i + 1 = nI (i + 1) := by simp only [q_lit, nI_add]
      cases hA : z_all (fun i => decide ((z_wt P T a i && z_wt P T b i) = decide (T 4 i = 1))) i
      · rw [hA, Bool.false_and] at ih'
        refine e_T rfl ?_
        refine e_L ?_
        rw [inc]
        exact ih'
      · rw [hA, Bool.true_and] at ih'
        refine e_F (by decide) ?_
        refine e_L ?_
        refine e_I (i := 5 * i + 4) (ea 4) (by omega) (by decide) ?_
        rw [c5]
        by_cases h4 : T 4 i = 1
        · rw [decide_eq_true h4] at ih'
          refine e_T (by rw [h4]; rfl) ?_
          cases hB : (z_wt P T a i && z_wt P T b i)
          · rw [hB] at ih'
            refine e_F (by decide) ?_
            refine e_L ?_
            rw [inc]
            exact ih'
          · rw [hB] at ih'
            refine e_T rfl ?_
            refine e_L ?_
            rw [inc]
            exact ih'
        · rw [decide_eq_false h4] at ih'
          refine e_F (by rw [q_lit, nI_eq (by omega) (by decide)]; exact h4) ?_
          cases hB : (z_wt P T a i && z_wt P T b i)
          · rw [hB] at ih'
            refine e_T rfl ?_
            refine e_L ?_
            rw [inc]
            exact ih'
          · rw [hB] at ih'
            refine e_F (by decide) ?_
            refine e_L ?_
            rw [inc]
            exact ih'
    unfold f_Mo_fits_J108
    cases hwa : z_wso P a (T 0 i) (T 1 i) (T 2 i) (T 3 i)
    · refine e_T rfl ?_
      exact J109 0 (by unfold z_wt; rw [hwa]; rfl)
    · refine e_F (by decide) ?_
      refine e_I (i := 5 * i) rfl (by omega) (by decide) ?_
      refine e_L ?_
      refine e_I (i := 5 * i + 1) (ea 1) (by omega) (by decide) ?_
      refine e_L ?_
      refine e_I (i := 5 * i + 2) (ea 2) (by omega) (by decide) ?_
      refine e_L ?_
      refine e_I (i := 5 * i + 3) (ea 3) (by omega) (by decide) ?_
      rw [c1, c2, c3, c4, m_wasSo hP hb b1 b2 b3 b4, q_B]
      cases hwb : z_wso P b (T 0 i) (T 1 i) (T 2 i) (T 3 i)
      · refine e_T rfl ?_
        exact J109 0 (by unfold z_wt; rw [hwa, hwb]; rfl)
      · refine e_F (by decide) ?_
        exact J109 1 (by unfold z_wt; rw [hwa, hwb]; rfl)
theorem m_fits {P t a b k : Nat} {T : Nat → Nat → Nat} {tr : Nat → Int32} (hP : P ≤ 3) (h : z_mtr P t T tr) (ha : a < 2 * P + 11) (hb : b < 2 * P + 11) (hk : 10 ≤ k) : f_Mo_fits k (nI P) (nI t) tr (nI a) (nI b) = some (nI (z_ft P t T a b).toNat) := by
  have ht := h.1.1
  unfold f_Mo_fits
  refine e_B (m_fits_L hP h ha hb t 0 k (by omega) (by omega)) ?_
  rw [show (1 : Int32) = nI 1 from rfl, q_bm]
