/-! letters, tokens -/
def z_cl (x : Nat) : Nat := if 97 ≤ x ∧ x ≤ 122 then 1 else if 48 ≤ x ∧ x ≤ 57 then 2 else 0
theorem z_cl_le (x : Nat) : z_cl x ≤ 2 := by unfold z_cl; (repeat' split) <;> omega
theorem m_sort {x : Nat} (h : x < 2 ^ 31) : f_Mo_sort (nI x) = some (nI (z_cl x)) := by
  unfold f_Mo_sort f_Mo_sort_J16 z_cl
  simp (disch := omega) only [q_lit, nI_ltI]
  by_cases h1 : x < 97
  · rw [if_pos h1, if_neg (show ¬ (97 ≤ x ∧ x ≤ 122) by omega)]
    by_cases h2 : x < 48
    · rw [if_pos h2, if_neg (show ¬ (48 ≤ x ∧ x ≤ 57) by omega)]
    · rw [if_neg h2]
      by_cases h3 : 57 < x
      · rw [if_pos h3, if_neg (show ¬ (48 ≤ x ∧ x ≤ 57) by omega)]
      · rw [if_neg h3, if_pos (show 48 ≤ x ∧ x ≤ 57 by omega)]
  · rw [if_neg h1]
    by_cases h2 : 122 < x
    · rw [if_pos h2, if_neg (show ¬ (97 ≤ x ∧ x ≤ 122) by omega), if_neg (show ¬ x < 48 by omega), if_pos (show 57 < x by omega), if_neg (show ¬ (48 ≤ x ∧ x ≤ 57) by omega)]
    · rw [if_neg h2, if_pos (show 97 ≤ x ∧ x ≤ 122 by omega)]
theorem t_isSmall {x : Nat} (h : x < 2 ^ 31) : f_Rd_isSmall (nI x) = some (nI (decide (z_cl x = 1)).toNat) := by
  unfold f_Rd_isSmall
  simp (disch := omega) only [q_lit, nI_ltI]
  have e : z_cl x = 1 ↔ 97 ≤ x ∧ x ≤ 122 := by unfold z_cl; (repeat' split) <;> omega
  by_cases h1 : x < 97
  · rw [if_pos h1, decide_eq_false (fun z => by have := e.mp z; omega)]; rfl
  · rw [if_neg h1]
    by_cases h2 : 122 < x
    · rw [if_pos h2, decide_eq_false (fun z => by have := e.mp z; omega)]; rfl
    · rw [if_neg h2, decide_eq_true (e.mpr (by omega))]; rfl
theorem t_isDigit {x : Nat} (h : x < 2 ^ 31) : f_Rd_isDigit (nI x) = some (nI (decide (z_cl x = 2)).toNat) := by
  unfold f_Rd_isDigit
  simp (disch := omega) only [q_lit, nI_ltI]
  have e : z_cl x = 2 ↔ 48 ≤ x ∧ x ≤ 57 := by unfold z_cl; (repeat' split) <;> omega
  by_cases h1 : x < 48
  · rw [if_pos h1, decide_eq_false (fun z => by have := e.mp z; omega)]; rfl
  · rw [if_neg h1]
    by_cases h2 : 57 < x
    · rw [if_pos h2, decide_eq_false (fun z => by have := e.mp z; omega)]; rfl
    · rw [if_neg h2, decide_eq_true (e.mpr (by omega))]; rfl
/-- a text of n letters -/
def z_tx (c : Nat → Nat) (n : Nat) (f : Nat → Int32) : Prop := n ≤ 240 ∧ ∀ i, i < n → f i = nI (c i) ∧ c i ≤ 255
theorem t_at {m n i : Nat} {f : Nat → Int32} (hi : i < n) (hn : n ≤ m) (hm : m < 2 ^ 31) : f_Rw_at m (nI n) f (nI i) = some (f i) := by
  unfold f_Rw_at
  refine e_F (by simp (disch := omega) only [q_lit, q_ofn, nI_add, q_mul, q_sub, q_shrm, q_shlm, q_a31s, q_a1, q_a3, q_a7, q_a65535, q_div, q_rem2, z_mm, nI_clamp, Nat.reduceMul, Nat.reduceAdd, Nat.reduceSub, Nat.reducePow, Nat.reduceMod, Nat.reduceDiv, Nat.one_mul, nI_ltI, nI_leI, nI_eq, q_b0, q_b1, q_m1lt, q_m1le, q_ltm1, q_lem1, q_eqm1, q_m1eq, not_true_eq_false, not_false_eq_true, reduceCtorEq, *] <;> first | omega | decide) ?_
  refine e_F (nI_ge hi (by omega)) ?_
  rw [q_ofn]
  refine e_T (nI_lt (by omega) hm) ?_
  exact e_I (i := i) rfl (by omega) hm rfl
def z_run (c : Nat → Nat) (n s : Nat) : Nat → Nat → Nat
  | 0, a => a
  | r + 1, a => if n ≤ a then a else if z_cl (c a) = s then z_run c n s r (a + 1) else a
def z_skip (c : Nat → Nat) (n : Nat) : Nat → Nat → Nat
  | 0, a => a
  | r + 1, a => if n ≤ a then a else if c a = 32 then z_skip c n r (a + 1) else a
def z_end (c : Nat → Nat) (n b : Nat) : Nat := if z_cl (c b) = 0 then b + 1 else z_run c n (z_cl (c b)) (n - (b + 1)) (b + 1)
def z_en (c : Nat → Nat) (n b : Nat) : Nat := if n ≤ b then b else z_end c n b
theorem z_run_bd (c : Nat → Nat) (n s : Nat) : ∀ r a, a ≤ n → a ≤ z_run c n s r a ∧ z_run c n s r a ≤ n := by
  intro r
  induction r with
  | zero => intro a h; exact ⟨Nat.le_refl _, h⟩
  | succ r ih =>
    intro a h
    unfold z_run
    split
    · exact ⟨Nat.le_refl _, h⟩
    · split
      · have := ih (a + 1) (by omega); omega
      · exact ⟨Nat.le_refl _, h⟩
theorem z_skip_bd (c : Nat → Nat) (n : Nat) : ∀ r a, a ≤ n → a ≤ z_skip c n r a ∧ z_skip c n r a ≤ n := by
  intro r
  induction r with
  | zero => intro a h; exact ⟨Nat.le_refl _, h⟩
  | succ r ih =>
    intro a h
    unfold z_skip
    split
    · exact ⟨Nat.le_refl _, h⟩
    · split
      · have := ih (a + 1) (by omega); omega
      · exact ⟨Nat.le_refl _, h⟩
theorem z_end_bd {c : Nat → Nat} {n b : Nat} (h : b < n) : b < z_end c n b ∧ z_end c n b ≤ n := by
  unfold z_end
  split
  · omega
  · have := z_run_bd c n (z_cl (c b)) (n - (b + 1)) (b + 1) (by omega); omega
theorem z_en_bd {c : Nat → Nat} {n b : Nat} (h : b ≤ n) : b ≤ z_en c n b ∧ z_en c n b ≤ n := by
  unfold z_en
  split
  · omega
  · have := z_end_bd (c := c) (n := n) (b := b) (by omega); omega
theorem t_run1 {c : Nat → Nat} {n : Nat} {f : Nat → Int32} (ht : z_tx c n f) : ∀ r a k, a + r = n → r < k → f_Rd_endOfToken_L18 240 (nI n) f k (nI a) = some (nI (z_run c n 1 r a)) := by
  have hn := ht.1
  intro r
  induction r with
  | zero =>
    intro a k ha hk
    obtain ⟨k, rfl⟩ : ∃ k', k = k' + 1 := ⟨k - 1, by omega⟩
    rw [f_Rd_endOfToken_L18]
    unfold f_Rw_size
    refine e_B rfl ?_
    exact e_T (nI_le (by omega) (by omega)) rfl
  | succ r ih =>
    intro a k ha hk
    obtain ⟨k, rfl⟩ : ∃ k', k = k' + 1 := ⟨k - 1, by omega⟩
    obtain ⟨h1, h2⟩ := ht.2 a (by omega)
    rw [f_Rd_endOfToken_L18]
    unfold f_Rw_size z_run
    refine e_B rfl ?_
    refine e_F (nI_ge (by omega) (by omega)) ?_
    rw [t_at (by omega) hn (by decide), q_B, h1, t_isSmall (by omega), q_B, if_neg (show ¬ n ≤ a by omega)]
    by_cases hc : z_cl (c a) = 1
    · rw [decide_eq_true hc, if_pos hc]
      refine e_F (by decide) ?_
      refine e_L ?_
      simp only [q_lit, nI_add]
      exact ih (a + 1) k (by omega) (by omega)
    · rw [decide_eq_false hc, if_neg hc]
      exact e_T (by decide) rfl
theorem t_run2 {c : Nat → Nat} {n : Nat} {f : Nat → Int32} (ht : z_tx c n f) : ∀ r a k, a + r = n → r < k → f_Rd_endOfToken_L63 240 (nI n) f k (nI a) = some (nI (z_run c n 2 r a)) := by
  have hn := ht.1
  intro r
  induction r with
  | zero =>
    intro a k ha hk
    obtain ⟨k, rfl⟩ : ∃ k', k = k' + 1 := ⟨k - 1, by omega⟩
    rw [f_Rd_endOfToken_L63]
    unfold f_Rw_size
    refine e_B rfl ?_
    exact e_T (nI_le (by omega) (by omega)) rfl
  | succ r ih =>
    intro a k ha hk
    obtain ⟨k, rfl⟩ : ∃ k', k = k' + 1 := ⟨k - 1, by omega⟩
    obtain ⟨h1, h2⟩ := ht.2 a (by omega)
    rw [f_Rd_endOfToken_L63]
    unfold f_Rw_size z_run
    refine e_B rfl ?_
    refine e_F (nI_ge (by omega) (by omega)) ?_
    rw [t_at (by omega) hn (by decide), q_B, h1, t_isDigit (by omega), q_B, if_neg (show ¬ n ≤ a by omega)]
    by_cases hc : z_cl (c a) = 2
    · rw [decide_eq_true hc, if_pos hc]
      refine e_F (by decide) ?_
      refine e_L ?_
      simp only [q_lit, nI_add]
      exact ih (a + 1) k (by omega) (by omega)
    · rw [decide_eq_false hc, if_neg hc]
      exact e_T (by decide) rfl
theorem t_end {c : Nat → Nat} {n b k : Nat} {f : Nat → Int32} (ht : z_tx c n f) (hb : b < n) (hk : 300 ≤ k) : f_Rd_endOfToken k 240 (nI n) f (nI b) = some (nI (z_end c n b)) := by
  have hn := ht.1
  obtain ⟨h1, h2⟩ := ht.2 b hb
  have hle := z_cl_le (c b)
  unfold f_Rd_endOfToken z_end
  refine e_L ?_
  rw [t_at hb hn (by decide), q_B, h1, t_isSmall (by omega), q_B]
  rw [show nI b + 1 = nI (b + 1) by simp only [q_lit, nI_add]]
  by_cases hc : z_cl (c b) = 1
  · rw [decide_eq_true hc, if_neg (show ¬ z_cl (c b) = 0 by omega), hc]
    refine e_F (by decide) ?_
    rw [t_run1 ht (n - (b + 1)) (b + 1) k (by omega) (by omega), q_B]
  · rw [decide_eq_false hc]
    refine e_T (by decide) ?_
    rw [q_B, t_isDigit (by omega), q_B]
    by_cases hd : z_cl (c b) = 2
    · rw [decide_eq_true hd, if_neg (show ¬ z_cl (c b) = 0 by omega), hd]
      refine e_F (by decide) ?_
      rw [t_run2 ht (n - (b + 1)) (b + 1) k (by omega) (by omega), q_B]
    · rw [decide_eq_false hd, if_pos (show z_cl (c b) = 0 by omega)]
      exact e_T (by decide) rfl
/-! the reference's token -/
theorem m_skip {c : Nat → Nat} {n : Nat} {g : Nat → Int32} {en pl : Int32} (ht : z_tx c n g) : ∀ r a k, a + r = n → r < k → f_Mo_token_L0 en (nI n) pl g k (nI a) = some (nI (z_skip c n r a)) := by
  have hn := ht.1
  intro r
  induction r with
  | zero =>
    intro a k ha hk
    obtain ⟨k, rfl⟩ : ∃ k', k = k' + 1 := ⟨k - 1, by omega⟩
    rw [f_Mo_token_L0]
    exact e_T (nI_le (by omega) (by omega)) rfl
  | succ r ih =>
    intro a k ha hk
    obtain ⟨k, rfl⟩ : ∃ k', k = k' + 1 := ⟨k - 1, by omega⟩
    obtain ⟨h1, h2⟩ := ht.2 a (by omega)
    rw [f_Mo_token_L0]
    unfold z_skip
    refine e_F (nI_ge (by omega) (by omega)) ?_
    refine e_I (i := a) (by first | (with_reducible rfl) | (simp (disch := omega) only [q_lit, q_ofn, nI_add, q_mul, q_sub, q_shrm, q_shlm, q_a31s, q_a1, q_a3, q_a7, q_a65535, q_div, q_rem2, z_mm, nI_clamp, Nat.reduceMul, Nat.reduceAdd, Nat.reduceSub, Nat.reducePow, Nat.reduceMod, Nat.reduceDiv, Nat.one_mul]; done) | (simp (disch := omega) only [q_lit, q_ofn, nI_add, q_mul, q_sub, q_shrm, q_shlm, q_a31s, q_a1, q_a3, q_a7, q_a65535, q_div, q_rem2, z_mm, nI_clamp, Nat.reduceMul, Nat.reduceAdd, Nat.reduceSub, Nat.reducePow, Nat.reduceMod, Nat.reduceDiv, Nat.one_mul]; with_reducible rfl)) (by omega) (by first | decide | omega) ?_
    rw [h1, if_neg (show ¬ n ≤ a by omega)]
    by_cases hc : c a = 32
    · rw [if_pos hc]
      refine e_T (by rw [hc]; rfl) ?_
      refine e_L ?_
      simp only [q_lit, nI_add]
      exact ih (a + 1) k (by omega) (by omega)
    · rw [if_neg hc]
      refine e_F (by rw [q_lit, nI_eq (by omega) (by decide)]; exact hc) rfl
theorem m_run {c : Nat → Nat} {n b : Nat} {g : Nat → Int32} {en : Int32} (ht : z_tx c n g) (hb : b < n) : ∀ r a k, a + r = n → r < k → f_Mo_token_L71 en (nI n) (nI b) g k (nI a) = some (nI (if z_cl (c b) = 0 then a else z_run c n (z_cl (c b)) r a)) := by
  have hn := ht.1
  obtain ⟨b1, b2⟩ := ht.2 b hb
  have hle := z_cl_le (c b)
  intro r
  induction r with
  | zero =>
    intro a k ha hk
    obtain ⟨k, rfl⟩ : ∃ k', k = k' + 1 := ⟨k - 1, by omega⟩
    rw [f_Mo_token_L71]
    refine e_T (nI_le (by omega) (by omega)) ?_
    split <;> rfl
  | succ r ih =>
    intro a k ha hk
    obtain ⟨k, rfl⟩ : ∃ k', k = k' + 1 := ⟨k - 1, by omega⟩
    obtain ⟨h1, h2⟩ := ht.2 a (by omega)
    have hla := z_cl_le (c a)
    have ih' := ih (a + 1) k (by omega) (by omega)
    rw [f_Mo_token_L71]
    refine e_F (nI_ge (by omega) (by omega)) ?_
    refine e_I (i := b) (by first | (with_reducible rfl) | (simp (disch := omega) only [q_lit, q_ofn, nI_add, q_mul, q_sub, q_shrm, q_shlm, q_a31s, q_a1, q_a3, q_a7, q_a65535, q_div, q_rem2, z_mm, nI_clamp, Nat.reduceMul, Nat.reduceAdd, Nat.reduceSub, Nat.reducePow, Nat.reduceMod, Nat.reduceDiv, Nat.one_mul]; done) | (simp (disch := omega) only [q_lit, q_ofn, nI_add, q_mul, q_sub, q_shrm, q_shlm, q_a31s, q_a1, q_a3, q_a7, q_a65535, q_div, q_rem2, z_mm, nI_clamp, Nat.reduceMul, Nat.reduceAdd, Nat.reduceSub, Nat.reducePow, Nat.reduceMod, Nat.reduceDiv, Nat.one_mul]; with_reducible rfl)) (by omega) (by first | decide | omega) ?_
    rw [b1, m_sort (by omega), q_B]
    by_cases hz : z_cl (c b) = 0
    · rw [if_pos hz]
      refine e_T (by rw [hz]; decide) rfl
    · rw [if_neg hz] at ih' ⊢
      refine e_F (nI_nle (by omega) (by omega)) ?_
      refine e_I (i := a) (by first | (with_reducible rfl) | (simp (disch := omega) only [q_lit, q_ofn, nI_add, q_mul, q_sub, q_shrm, q_shlm, q_a31s, q_a1, q_a3, q_a7, q_a65535, q_div, q_rem2, z_mm, nI_clamp, Nat.reduceMul, Nat.reduceAdd, Nat.reduceSub, Nat.reducePow, Nat.reduceMod, Nat.reduceDiv, Nat.one_mul]; done) | (simp (disch := omega) only [q_lit, q_ofn, nI_add, q_mul, q_sub, q_shrm, q_shlm, q_a31s, q_a1, q_a3, q_a7, q_a65535, q_div, q_rem2, z_mm, nI_clamp, Nat.reduceMul, Nat.reduceAdd, Nat.reduceSub, Nat.reducePow, Nat.reduceMod, Nat.reduceDiv, Nat.one_mul]; with_reducible rfl)) (by omega) (by first | decide | omega) ?_
      rw [h1, m_sort (by omega), q_B]
      refine e_I (i := b) (by first | (with_reducible rfl) | (simp (disch := omega) only [q_lit, q_ofn, nI_add, q_mul, q_sub, q_shrm, q_shlm, q_a31s, q_a1, q_a3, q_a7, q_a65535, q_div, q_rem2, z_mm, nI_clamp, Nat.reduceMul, Nat.reduceAdd, Nat.reduceSub, Nat.reducePow, Nat.reduceMod, Nat.reduceDiv, Nat.one_mul]; done) | (simp (disch := omega) only [q_lit, q_ofn, nI_add, q_mul, q_sub, q_shrm, q_shlm, q_a31s, q_a1, q_a3, q_a7, q_a65535, q_div, q_rem2, z_mm, nI_clamp, Nat.reduceMul, Nat.reduceAdd, Nat.reduceSub, Nat.reducePow, Nat.reduceMod, Nat.reduceDiv, Nat.one_mul]; with_reducible rfl)) (by omega) (by first | decide | omega) ?_
      rw [b1, m_sort (by omega), q_B]
      unfold z_run
      rw [if_neg (show ¬ n ≤ a by omega)]
      by_cases hc : z_cl (c a) = z_cl (c b)
      · rw [if_pos hc]
        refine e_T (by rw [hc]) ?_
        refine e_L ?_
        simp only [q_lit, nI_add]
        exact ih'
      · rw [if_neg hc]
        refine e_F (by rw [nI_eq (by omega) (by omega)]; exact hc) rfl
theorem m_token {c : Nat → Nat} {n a k : Nat} {g : Nat → Int32} {en pl : Int32} (ht : z_tx c n g) (ha : a ≤ n) (hk : 300 ≤ k) : f_Mo_token k (nI a) en (nI n) pl g = some (nI (z_en c n (z_skip c n (n - a) a)), nI (z_en c n (z_skip c n (n - a) a)), nI (z_skip c n (n - a) a)) := by
  have hn := ht.1
  unfold f_Mo_token f_Mo_token_J38
  rw [m_skip ht (n - a) a k (by omega) (by omega), q_B]
  obtain ⟨s1, s2⟩ := z_skip_bd c n (n - a) a ha
  generalize z_skip c n (n - a) a = b at s1 s2
  unfold f_Mo_token_J67 f_Mo_token_J137 z_en
  by_cases hb : n ≤ b
  · rw [if_pos hb]
    refine e_T (nI_le hb (by omega)) ?_
    refine e_L ?_
    rw [show nI b + 0 = nI b by rw [show (0 : Int32) = nI 0 from rfl, nI_add]; rfl]
    obtain ⟨k, rfl⟩ : ∃ k', k = k' + 1 := ⟨k - 1, by omega⟩
    refine e_B (q := nI b) ?_ rfl
    rw [f_Mo_token_L71]
    exact e_T (nI_le hb (by omega)) rfl
  · rw [if_neg hb]
    refine e_F (nI_ge (by omega) (by omega)) ?_
    refine e_L ?_
    rw [show nI b + 1 = nI (b + 1) by simp only [q_lit, nI_add]]
    rw [m_run ht (by omega) (n - (b + 1)) (b + 1) k (by omega) (by omega), q_B]
    rfl
