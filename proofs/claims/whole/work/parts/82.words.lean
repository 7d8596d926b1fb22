/-! words -/
def z_wbl : List Nat := [108, 97, 110, 100, 32, 115, 108, 101, 101, 112, 32, 102, 114, 111, 103, 32, 109, 117, 116, 101, 32, 98, 105, 110, 100, 32, 98, 97, 114, 101, 32, 105, 102, 32, 97, 110, 100, 32, 119, 97, 107, 101, 115, 32, 107, 105, 115, 115, 32, 119, 101, 101, 112, 32, 100, 97, 121, 32, 104, 111, 108, 100, 115, 32, 103, 111, 110, 101, 32, 98, 114, 111, 107, 101, 110, 32, 119, 104, 111, 108, 101, 32, 97, 115, 107, 101, 100, 32]
def z_wb (i : Nat) : Nat := z_wbl.getD i 0
def z_ws (w : Nat) : Nat := ([0, 5, 11, 16, 21, 26, 31, 34, 38, 44, 49, 54, 58, 64, 69, 76, 82, 88] : List Nat).getD w 0
def z_wl (w : Nat) : Nat := ([4, 5, 4, 4, 4, 4, 2, 3, 5, 4, 4, 3, 5, 4, 6, 5, 5] : List Nat).getD w 0
/-- the reference's numbers of the words -/
def z_rw (w : Nat) : Nat := ([145452, 16946579, 245318, 185005, 145698, 182306, 201, 4545, 20098103, 642347, 529591, 25636, 20066792, 178663, 475381314, 5651735, 4370017] : List Nat).getD w 0
theorem z_wb_eq : ∀ i, i < 88 → (wordsB.getD i 0 &&& 255) = nI (z_wb i) := by decide +kernel
theorem z_w_in : ∀ w, w < 17 → z_ws w + z_wl w < 88 ∧ z_ws (w + 1) = z_ws w + z_wl w + 1 ∧ 2 ≤ z_wl w ∧ z_wl w ≤ 6 ∧ z_wb (z_ws w + z_wl w) = 32 := by decide +kernel
theorem z_w_let : ∀ w, w < 17 → ∀ j, j < z_wl w → z_wb (z_ws w + j) ≠ 32 ∧ z_wb (z_ws w + j) < 128 ∧ 97 ≤ z_wb (z_ws w + j) ∧ z_wb (z_ws w + j) ≤ 122 := by decide +kernel
theorem z_w_rw : ∀ w, w < 17 → ∀ j, j < z_wl w → 96 + z_rw w / 2 ^ (5 * j) % 32 = z_wb (z_ws w + j) := by decide +kernel
theorem z_w_rwl : ∀ w, w < 17 → z_rw w < 2 ^ 31 := by decide +kernel
theorem z_w_dist : ∀ w, w < 17 → ∀ v, v < 17 → w = v ∨ z_wl w ≠ z_wl v ∨ z_any (fun j => decide (z_wb (z_ws w + j) ≠ z_wb (z_ws v + j))) (z_wl w) = true := by decide +kernel
/-- the letters from b on are word w -/
def z_m (c : Nat → Nat) (b w : Nat) : Bool := z_all (fun j => decide (c (b + j) = z_wb (z_ws w + j))) (z_wl w)
def z_is (c : Nat → Nat) (b l w : Nat) : Bool := decide (l = z_wl w) && z_m c b w
theorem z_is_inj {c : Nat → Nat} {b l w v : Nat} (hw : w < 17) (hv : v < 17) (h1 : z_is c b l w = true) (h2 : z_is c b l v = true) : w = v := by
  unfold z_is at h1 h2
  simp only [Bool.and_eq_true, decide_eq_true_iff] at h1 h2
  rcases z_w_dist w hw v hv with h | h | h
  · exact h
  · exact absurd (h1.1.symm.trans h2.1) h
  · rw [z_any_iff] at h
    obtain ⟨j, hj, hne⟩ := h
    rw [decide_eq_true_iff] at hne
    have e1 := (z_all_iff _ _).mp h1.2 j hj
    have e2 := (z_all_iff _ _).mp h2.2 j (by omega)
    rw [decide_eq_true_iff] at e1 e2
    exact absurd (e1.symm.trans e2) hne
def z_wcf (c : Nat → Nat) (b l : Nat) : Nat → Nat → Nat
  | 0, _ => 99
  | r + 1, w => if z_is c b l w = true then 12 + w else z_wcf c b l r (w + 1)
theorem z_wcf_iff {c : Nat → Nat} {b l v : Nat} (hv : v < 17) : ∀ r w, w + r = 17 → w ≤ v → (z_wcf c b l r w = 12 + v ↔ z_is c b l v = true) := by
  intro r
  induction r with
  | zero => intro w hw hle; omega
  | succ r ih =>
    intro w hw hle
    unfold z_wcf
    by_cases h : z_is c b l w = true
    · rw [if_pos h]
      constructor
      · intro e
        have : w = v := by omega
        exact this ▸ h
      · intro e
        have := z_is_inj (by omega) hv h e
        omega
    · rw [if_neg h]
      by_cases hwv : w = v
      · subst hwv
        constructor
        · intro e
          exfalso
          have : ∀ r u, w < u → z_wcf c b l r u ≠ 12 + w := by
            intro r
            induction r with
            | zero => intro u hu; unfold z_wcf; intro e; omega
            | succ r ih2 =>
              intro u hu
              unfold z_wcf
              split
              · omega
              · exact ih2 (u + 1) (by omega)
          exact this r (w + 1) (by omega) e
        · intro e; exact absurd e h
      · exact ih (w + 1) (by omega) (by omega)
theorem z_wcf_rng (c : Nat → Nat) (b l : Nat) : ∀ r w, w + r = 17 → z_wcf c b l r w = 99 ∨ (12 ≤ z_wcf c b l r w ∧ z_wcf c b l r w ≤ 28) := by
  intro r
  induction r with
  | zero => intro w _; exact Or.inl rfl
  | succ r ih =>
    intro w hw
    unfold z_wcf
    split
    · right; omega
    · exact ih (w + 1) (by omega)
/-- the code of the token at b -/
def z_code (c : Nat → Nat) (n b : Nat) : Nat := if n ≤ b then 11 else if z_cl (c b) = 1 then z_wcf c b (z_end c n b - b) 17 0 else if z_cl (c b) = 2 then (if z_end c n b - b = 1 then c b - 48 else 99) else if c b = 59 then 10 else 99
def z_cI (x : Nat) : Int32 := if x = 99 then -nI 1 else nI x
theorem z_is_small {c : Nat → Nat} {b l w : Nat} (hw : w < 17) (h : z_is c b l w = true) : z_cl (c b) = 1 ∧ 2 ≤ l := by
  unfold z_is at h
  simp only [Bool.and_eq_true, decide_eq_true_iff] at h
  have h0 := z_w_in w hw
  have e1 := (z_all_iff _ _).mp h.2 0 (by omega)
  rw [decide_eq_true_iff] at e1
  have h1 := z_w_let w hw 0 (by omega)
  rw [Nat.add_zero] at e1
  refine ⟨?_, by omega⟩
  unfold z_cl
  rw [if_pos (by omega)]
theorem z_code_word {c : Nat → Nat} {n b w : Nat} (hb : b ≤ n) (hw : w < 17) : z_code c n b = 12 + w ↔ z_is c b (z_en c n b - b) w = true := by
  unfold z_code z_en
  by_cases h : n ≤ b
  · rw [if_pos h, if_pos h]
    constructor
    · intro e; omega
    · intro e; have := z_is_small hw e; omega
  · rw [if_neg h, if_neg h]
    by_cases h1 : z_cl (c b) = 1
    · rw [if_pos h1]
      exact z_wcf_iff hw 17 0 (by omega) (by omega)
    · rw [if_neg h1]
      constructor
      · intro e
        exfalso
        have hd : z_cl (c b) = 2 → c b ≤ 57 := by intro z; unfold z_cl at z; split at z; omega; split at z <;> omega
        split at e
        · next h2 =>
          have := hd h2
          split at e <;> omega
        · split at e <;> omega
      · intro e
        exact absurd (z_is_small hw e).1 h1
theorem z_code_rng (c : Nat → Nat) (n b : Nat) : z_code c n b ≤ 28 ∨ z_code c n b = 99 := by
  unfold z_code
  split
  · omega
  · split
    · have := z_wcf_rng c b (z_end c n b - b) 17 0 (by omega); omega
    · split
      · next h2 =>
        have hd : c b ≤ 57 := by unfold z_cl at h2; split at h2; omega; split at h2 <;> omega
        split <;> omega
      · split <;> omega
theorem z_code_11 {c : Nat → Nat} {n b : Nat} (hb : b ≤ n) : z_code c n b = 11 ↔ n ≤ b := by
  unfold z_code
  constructor
  · intro e
    split at e
    · assumption
    · split at e
      · have := z_wcf_rng c b (z_end c n b - b) 17 0 (by omega); omega
      · split at e
        · next h2 =>
          have hd : c b ≤ 57 := by unfold z_cl at h2; split at h2; omega; split at h2 <;> omega
          split at e <;> omega
        · split at e <;> omega
  · intro h; rw [if_pos h]
/-! the class's word code -/
theorem t_spelled_L {c : Nat → Nat} {n b w : Nat} {f : Nat → Int32} (ht : z_tx c n f) (hw : w < 17) (hbl : b + z_wl w ≤ n) : ∀ r j k, j + r = z_wl w → r < k → z_all (fun j => decide (c (b + j) = z_wb (z_ws w + j))) j = true → wp (f_Rd_isSpelled_L3 240 (nI n) f (nI b) (nI (z_ws w)) (nI (z_ws w + z_wl w)) k (nI (z_ws w + j))) (fun q => match q with
    | .inl _ => z_m c b w = true
    | .inr v => v = nI 0 ∧ z_m c b w = false) := by
  have hn := ht.1
  obtain ⟨w1, w2, w3, w4, w5⟩ := z_w_in w hw
  intro r
  induction r with
  | zero =>
    intro j k hj hk ha
    obtain ⟨k, rfl⟩ : ∃ k', k = k' + 1 := ⟨k - 1, by omega⟩
    rw [f_Rd_isSpelled_L3]
    refine w_T (nI_le (by omega) (by omega)) (w_some ?_)
    unfold z_m
    rw [show z_wl w = j by omega]
    exact ha
  | succ r ih =>
    intro j k hj hk ha
    obtain ⟨k, rfl⟩ : ∃ k', k = k' + 1 := ⟨k - 1, by omega⟩
    obtain ⟨h1, h2⟩ := ht.2 (b + j) (by omega)
    obtain ⟨l1, l2, l3, l4⟩ := z_w_let w hw j (by omega)
    rw [f_Rd_isSpelled_L3]
    refine w_F (nI_ge (by omega) (by omega)) ?_
    refine w_F (by simp (disch := omega) only [q_lit, q_ofn, nI_add, q_mul, q_sub, q_shrm, q_shlm, q_a31s, q_a1, q_a3, q_a7, q_a65535, q_div, q_rem2, z_mm, nI_clamp, Nat.reduceMul, Nat.reduceAdd, Nat.reduceSub, Nat.reducePow, Nat.reduceMod, Nat.reduceDiv, Nat.one_mul, nI_ltI, nI_leI, nI_eq, q_b0, q_b1, q_m1lt, q_m1le, q_ltm1, q_lem1, q_eqm1, q_m1eq, not_true_eq_false, not_false_eq_true, reduceCtorEq, *] <;> first | omega | decide) ?_
    refine w_I (i := z_ws w + j) rfl (by omega) (by decide) ?_
    rw [z_wb_eq _ (by omega)]
    refine w_Be (q := nI (c (b + j))) ?_ ?_
    · rw [show nI b + nI (z_ws w + j) - nI (z_ws w) = nI (b + j) by rw [nI_add, q_sub (by omega)]; congr 1; omega]
      rw [t_at (by omega) hn (by decide), h1]
    · by_cases hc : c (b + j) = z_wb (z_ws w + j)
      · refine w_T (by rw [hc]) ?_
        refine w_Ln (w := nI (z_ws w + j + 1)) (by first | (with_reducible rfl) | (simp (disch := omega) only [q_lit, q_ofn, nI_add, q_mul, q_sub, q_shrm, q_shlm, q_a31s, q_a1, q_a3, q_a7, q_a65535, q_div, q_rem2, z_mm, nI_clamp, Nat.reduceMul, Nat.reduceAdd, Nat.reduceSub, Nat.reducePow, Nat.reduceMod, Nat.reduceDiv, Nat.one_mul]; done) | (simp (disch := omega) only [q_lit, q_ofn, nI_add, q_mul, q_sub, q_shrm, q_shlm, q_a31s, q_a1, q_a3, q_a7, q_a65535, q_div, q_rem2, z_mm, nI_clamp, Nat.reduceMul, Nat.reduceAdd, Nat.reduceSub, Nat.reducePow, Nat.reduceMod, Nat.reduceDiv, Nat.one_mul]; with_reducible rfl)) ?_
        refine ih (j + 1) k (by omega) (by omega) ?_
        show (z_all _ j && _) = true
        rw [ha, Bool.true_and]
        exact decide_eq_true hc
      · refine w_F (by rw [nI_eq (by omega) (by omega)]; exact fun e => hc e.symm) (w_some ⟨rfl, ?_⟩)
        cases hm : z_m c b w with
        | false => rfl
        | true =>
          have := (z_all_iff _ _).mp hm j (by omega)
          rw [decide_eq_true_iff] at this
          exact absurd this hc
theorem t_spelled {c : Nat → Nat} {n b w k : Nat} {f : Nat → Int32} (ht : z_tx c n f) (hw : w < 17) (hbl : b + z_wl w ≤ n) (hk : 20 ≤ k) : f_Rd_isSpelled k 240 (nI n) f (nI b) (nI (z_ws w)) (nI (z_ws w + z_wl w)) = some (nI (z_m c b w).toNat) := by
  obtain ⟨w1, w2, w3, w4, w5⟩ := z_w_in w hw
  refine w_eq ?_
  unfold f_Rd_isSpelled
  have g := t_spelled_L ht hw hbl (z_wl w) 0 k (by omega) (by omega) rfl
  rw [Nat.add_zero] at g
  refine w_Sw g ?_ ?_
  · intro _ h
    refine w_some ?_
    rw [h]; rfl
  · intro v h
    refine w_some ?_
    rw [h.1, h.2]; rfl
theorem t_word_L {c : Nat → Nat} {n b e : Nat} {f : Nat → Int32} (ht : z_tx c n f) (hbe : b < e) (hen : e ≤ n) : ∀ r w k, w + r = 17 → 8 * r + 30 < k → wp (f_Rd_wordCode_L9 240 (nI n) f (nI b) (nI e) k (nI (12 + w)) (nI (z_ws w)) (nI (z_ws w))) (fun q => match q with
    | .inl _ => z_wcf c b (e - b) r w = 99
    | .inr v => v = nI (z_wcf c b (e - b) r w) ∧ z_wcf c b (e - b) r w ≠ 99) := by
  have hn := ht.1
  intro r
  induction r with
  | zero =>
    intro w k hw hk
    obtain ⟨k, rfl⟩ : ∃ k', k = k' + 1 := ⟨k - 1, by omega⟩
    have : w = 17 := by omega
    subst this
    rw [f_Rd_wordCode_L9]
    exact w_T (by decide) (w_some rfl)
  | succ r ih =>
    intro w k hw hk
    have hw17 : w < 17 := by omega
    obtain ⟨w1, w2, w3, w4, w5⟩ := z_w_in w hw17
    have letters : ∀ s j k, j + s = z_wl w → s + 8 * r + 31 < k → wp (f_Rd_wordCode_L9 240 (nI n) f (nI b) (nI e) k (nI (12 + w)) (nI (z_ws w)) (nI (z_ws w + j))) (fun q => match q with
        | .inl _ => z_wcf c b (e - b) (r + 1) w = 99
        | .inr v => v = nI (z_wcf c b (e - b) (r + 1) w) ∧ z_wcf c b (e - b) (r + 1) w ≠ 99) := by
      intro s
      induction s with
      | zero =>
        intro j k hj hk
        obtain ⟨k, rfl⟩ : ∃ k', k = k' + 1 := ⟨k - 1, by omega⟩
        have : j = z_wl w := by omega
        subst this
        rw [f_Rd_wordCode_L9]
        refine w_F (by simp (disch := omega) only [q_lit, q_ofn, nI_add, q_mul, q_sub, q_shrm, q_shlm, q_a31s, q_a1, q_a3, q_a7, q_a65535, q_div, q_rem2, z_mm, nI_clamp, Nat.reduceMul, Nat.reduceAdd, Nat.reduceSub, Nat.reducePow, Nat.reduceMod, Nat.reduceDiv, Nat.one_mul, nI_ltI, nI_leI, nI_eq, q_b0, q_b1, q_m1lt, q_m1le, q_ltm1, q_lem1, q_eqm1, q_m1eq, not_true_eq_false, not_false_eq_true, reduceCtorEq, *] <;> first | omega | decide) ?_
        refine w_I (i := z_ws w + z_wl w) rfl (by omega) (by decide) ?_
        rw [z_wb_eq _ (by omega), w5]
        refine w_T rfl ?_
        unfold z_wcf
        have nxt : z_is c b (e - b) w = false → wp (f_Rd_wordCode_J56 (f_Rd_wordCode_L9 240 (nI n) f (nI b) (nI e) k) k 240 (nI n) f (nI b) (nI e) (nI (12 + w)) (nI (z_ws w + z_wl w))) (fun q => match q with
            | .inl _ => (if z_is c b (e - b) w = true then 12 + w else z_wcf c b (e - b) r (w + 1)) = 99
            | .inr v => v = nI (if z_is c b (e - b) w = true then 12 + w else z_wcf c b (e - b) r (w + 1)) ∧ (if z_is c b (e - b) w = true then 12 + w else z_wcf c b (e - b) r (w + 1)) ≠ 99) := by
          intro hz
          rw [if_neg (by rw [hz]; decide)]
          unfold f_Rd_wordCode_J56 f_Rd_wordCode_J65
          refine w_Ln (w := nI (12 + (w + 1))) (by rw [show (1 : Int32) = nI 1 from rfl, nI_add]; rfl) ?_
          refine w_Ln (w := nI (z_ws w + z_wl w + 1)) (by first | (with_reducible rfl) | (simp (disch := omega) only [q_lit, q_ofn, nI_add, q_mul, q_sub, q_shrm, q_shlm, q_a31s, q_a1, q_a3, q_a7, q_a65535, q_div, q_rem2, z_mm, nI_clamp, Nat.reduceMul, Nat.reduceAdd, Nat.reduceSub, Nat.reducePow, Nat.reduceMod, Nat.reduceDiv, Nat.one_mul]; done) | (simp (disch := omega) only [q_lit, q_ofn, nI_add, q_mul, q_sub, q_shrm, q_shlm, q_a31s, q_a1, q_a3, q_a7, q_a65535, q_div, q_rem2, z_mm, nI_clamp, Nat.reduceMul, Nat.reduceAdd, Nat.reduceSub, Nat.reducePow, Nat.reduceMod, Nat.reduceDiv, Nat.one_mul]; with_reducible rfl)) ?_
          refine w_Ln (w := nI (z_ws w + z_wl w + 1)) (by first | (with_reducible rfl) | (simp (disch := omega) only [q_lit, q_ofn, nI_add, q_mul, q_sub, q_shrm, q_shlm, q_a31s, q_a1, q_a3, q_a7, q_a65535, q_div, q_rem2, z_mm, nI_clamp, Nat.reduceMul, Nat.reduceAdd, Nat.reduceSub, Nat.reducePow, Nat.reduceMod, Nat.reduceDiv, Nat.one_mul]; done) | (simp (disch := omega) only [q_lit, q_ofn, nI_add, q_mul, q_sub, q_shrm, q_shlm, q_a31s, q_a1, q_a3, q_a7, q_a65535, q_div, q_rem2, z_mm, nI_clamp, Nat.reduceMul, Nat.reduceAdd, Nat.reduceSub, Nat.reducePow, Nat.reduceMod, Nat.reduceDiv, Nat.one_mul]; with_reducible rfl)) ?_
          rw [← w2]
          exact ih (w + 1) k (by omega) (by omega)
        rw [show nI (z_ws w + z_wl w) - nI (z_ws w) = nI (z_wl w) by rw [q_sub (by omega)]; congr 1; omega, q_sub (by omega)]
        by_cases hl : e - b = z_wl w
        · refine w_T (by rw [hl]) ?_
          refine w_Be (t_spelled ht hw17 (by omega) (by omega)) ?_
          cases hm : z_m c b w with
          | false =>
            refine w_T (by decide) ?_
            exact nxt (by unfold z_is; rw [hm, Bool.and_false])
          | true =>
            refine w_F (by decide) (w_some ?_)
            have hz : z_is c b (e - b) w = true := by unfold z_is; rw [hm, decide_eq_true hl]; rfl
            rw [if_pos hz]
            exact ⟨rfl, by omega⟩
        · refine w_F (by rw [nI_eq (by omega) (by omega)]; exact fun z => hl z.symm) ?_
          exact nxt (by unfold z_is; rw [decide_eq_false hl, Bool.false_and])
      | succ s ihs =>
        intro j k hj hk
        obtain ⟨k, rfl⟩ : ∃ k', k = k' + 1 := ⟨k - 1, by omega⟩
        obtain ⟨l1, l2, l3, l4⟩ := z_w_let w hw17 j (by omega)
        rw [f_Rd_wordCode_L9]
        refine w_F (by simp (disch := omega) only [q_lit, q_ofn, nI_add, q_mul, q_sub, q_shrm, q_shlm, q_a31s, q_a1, q_a3, q_a7, q_a65535, q_div, q_rem2, z_mm, nI_clamp, Nat.reduceMul, Nat.reduceAdd, Nat.reduceSub, Nat.reducePow, Nat.reduceMod, Nat.reduceDiv, Nat.one_mul, nI_ltI, nI_leI, nI_eq, q_b0, q_b1, q_m1lt, q_m1le, q_ltm1, q_lem1, q_eqm1, q_m1eq, not_true_eq_false, not_false_eq_true, reduceCtorEq, *] <;> first | omega | decide) ?_
        refine w_I (i := z_ws w + j) rfl (by omega) (by decide) ?_
        rw [z_wb_eq _ (by omega)]
        refine w_F (by rw [q_lit, nI_eq (by omega) (by decide)]; exact l1) ?_
        unfold f_Rd_wordCode_J65
        refine w_Ln (w := nI (z_ws w + j + 1)) (by first | (with_reducible rfl) | (simp (disch := omega) only [q_lit, q_ofn, nI_add, q_mul, q_sub, q_shrm, q_shlm, q_a31s, q_a1, q_a3, q_a7, q_a65535, q_div, q_rem2, z_mm, nI_clamp, Nat.reduceMul, Nat.reduceAdd, Nat.reduceSub, Nat.reducePow, Nat.reduceMod, Nat.reduceDiv, Nat.one_mul]; done) | (simp (disch := omega) only [q_lit, q_ofn, nI_add, q_mul, q_sub, q_shrm, q_shlm, q_a31s, q_a1, q_a3, q_a7, q_a65535, q_div, q_rem2, z_mm, nI_clamp, Nat.reduceMul, Nat.reduceAdd, Nat.reduceSub, Nat.reducePow, Nat.reduceMod, Nat.reduceDiv, Nat.one_mul]; with_reducible rfl)) ?_
        exact ihs (j + 1) k (by omega) (by omega)
    have g := letters (z_wl w) 0 k (by omega) (by omega)
    rw [Nat.add_zero] at g
    exact g
theorem t_word {c : Nat → Nat} {n b e k : Nat} {f : Nat → Int32} (ht : z_tx c n f) (hbe : b < e) (hen : e ≤ n) (hk : 300 ≤ k) : f_Rd_wordCode k 240 (nI n) f (nI b) (nI e) = some (z_cI (z_wcf c b (e - b) 17 0)) := by
  refine w_eq ?_
  unfold f_Rd_wordCode
  refine w_Sw (t_word_L ht hbe hen 17 0 k (by omega) (by omega)) ?_ ?_
  · intro _ h
    refine w_some ?_
    rw [h]; rfl
  · intro v h
    refine w_some ?_
    rw [h.1]
    unfold z_cI
    rw [if_neg h.2]
theorem t_code {c : Nat → Nat} {n b k : Nat} {f : Nat → Int32} (ht : z_tx c n f) (hb : b < n) (hk : 300 ≤ k) : f_Rd_codeOf k 240 (nI n) f (nI b) (nI (z_end c n b)) = some (z_cI (z_code c n b)) := by
  have hn := ht.1
  obtain ⟨h1, h2⟩ := ht.2 b hb
  obtain ⟨e1, e2⟩ := z_end_bd (c := c) hb
  unfold f_Rd_codeOf z_code
  rw [t_at hb hn (by decide), q_B, h1, t_isSmall (by omega), q_B, if_neg (show ¬ n ≤ b by omega)]
  by_cases hc : z_cl (c b) = 1
  · rw [decide_eq_true hc, if_pos hc]
    refine e_F (by decide) ?_
    rw [t_word ht e1 e2 hk, q_B]
  · rw [decide_eq_false hc, if_neg hc]
    refine e_T (by decide) ?_
    rw [t_isDigit (by omega), q_B]
    by_cases hd : z_cl (c b) = 2
    · have hd' : 48 ≤ c b ∧ c b ≤ 57 := by unfold z_cl at hd; split at hd; omega; split at hd <;> omega
      rw [decide_eq_true hd, if_pos hd]
      refine e_F (by decide) ?_
      rw [q_sub (by omega)]
      by_cases hl : z_end c n b - b = 1
      · rw [if_pos hl, hl]
        refine e_T rfl ?_
        rw [show (48 : Int32) = nI 48 from rfl, q_sub (by omega)]
        unfold z_cI
        rw [if_neg (by omega)]
      · rw [if_neg hl]
        refine e_F (by rw [q_lit, nI_eq (by omega) (by decide)]; exact hl) rfl
    · rw [decide_eq_false hd, if_neg hd]
      refine e_T (by decide) ?_
      by_cases h59 : c b = 59
      · rw [if_pos h59]
        exact e_T (by rw [h59]; rfl) rfl
      · rw [if_neg h59]
        exact e_F (by rw [q_lit, nI_eq (by omega) (by decide)]; exact h59) rfl
/-! the reference's isWord -/
theorem m_isWord_L {c : Nat → Nat} {n b w : Nat} {g : Nat → Int32} {en : Int32} (ht : z_tx c n g) (hw : w < 17) (hbl : b + z_wl w ≤ n) : ∀ r j k, j + r = z_wl w → r < k → z_all (fun j => decide (c (b + j) = z_wb (z_ws w + j))) j = true → f_Mo_isWord_L22 en (nI b) g (nI (z_rw w)) (nI (z_wl w)) k (nI 1) (nI j) = some (nI (z_m c b w).toNat) := by
  have hn := ht.1
  obtain ⟨w1, w2, w3, w4, w5⟩ := z_w_in w hw
  have hrw := z_w_rwl w hw
  intro r
  induction r with
  | zero =>
    intro j k hj hk ha
    obtain ⟨k, rfl⟩ : ∃ k', k = k' + 1 := ⟨k - 1, by omega⟩
    rw [f_Mo_isWord_L22]
    refine e_F (by decide) ?_
    refine e_T (nI_le (by omega) (by omega)) ?_
    unfold z_m
    rw [show z_wl w = j by omega, ha]; rfl
  | succ r ih =>
    intro j k hj hk ha
    obtain ⟨k, rfl⟩ : ∃ k', k = k' + 1 := ⟨k - 1, by omega⟩
    obtain ⟨h1, h2⟩ := ht.2 (b + j) (by omega)
    obtain ⟨l1, l2, l3, l4⟩ := z_w_let w hw j (by omega)
    have hlet := z_w_rw w hw j (by omega)
    rw [f_Mo_isWord_L22]
    refine e_F (by decide) ?_
    refine e_F (nI_ge (by omega) (by omega)) ?_
    refine e_L ?_
    refine e_I (i := b + j) (nI_add b j) (by omega) (by decide) ?_
    rw [h1]
    have hval : (96 : Int32) + ((nI (z_rw w) >>> (((5 : Int32) * nI j) &&& 31)) &&& (31 : Int32)) = nI (z_wb (z_ws w + j)) := by
      simp (disch := omega) only [q_lit, q_mul, q_a31s, q_shrm, q_a31, nI_add]
      rw [hlet]
    rw [hval]
    unfold f_Mo_isWord_J64
    by_cases hc : c (b + j) = z_wb (z_ws w + j)
    · refine e_T (by rw [hc]) ?_
      refine e_L ?_
      rw [show nI j + 1 = nI (j + 1) by simp only [q_lit, nI_add]]
      refine ih (j + 1) k (by omega) (by omega) ?_
      show (z_all _ j && _) = true
      rw [ha, Bool.true_and]
      exact decide_eq_true hc
    · refine e_F (by rw [nI_eq (by omega) (by omega)]; exact hc) ?_
      refine e_L ?_
      have hm : z_m c b w = false := by
        cases hm : z_m c b w with
        | false => rfl
        | true =>
          have := (z_all_iff _ _).mp hm j (by omega)
          rw [decide_eq_true_iff] at this
          exact absurd this hc
      obtain ⟨k, rfl⟩ : ∃ k', k = k' + 1 := ⟨k - 1, by omega⟩
      rw [f_Mo_isWord_L22, hm]
      exact e_T rfl rfl
theorem m_isWord {c : Nat → Nat} {n b w k : Nat} {g : Nat → Int32} (ht : z_tx c n g) (hb : b ≤ n) (hw : w < 17) (hk : 20 ≤ k) : f_Mo_isWord k (nI (z_en c n b)) (nI b) g (nI (z_rw w)) (nI (z_wl w)) = some (nI (decide (z_code c n b = 12 + w)).toNat) := by
  have hn := ht.1
  obtain ⟨w1, w2, w3, w4, w5⟩ := z_w_in w hw
  obtain ⟨e1, e2⟩ := z_en_bd (c := c) hb
  have hiff := z_code_word (c := c) hb hw
  unfold f_Mo_isWord f_Mo_isWord_J18
  rw [q_sub e1]
  by_cases hl : z_en c n b - b = z_wl w
  · refine e_T (by rw [hl]) ?_
    refine e_B (m_isWord_L ht hw (by omega) (z_wl w) 0 k (by omega) (by omega) rfl) ?_
    have : decide (z_code c n b = 12 + w) = z_m c b w := by
      have h2 : z_is c b (z_en c n b - b) w = z_m c b w := by unfold z_is; rw [decide_eq_true hl, Bool.true_and]
      rw [h2] at hiff
      cases hm : z_m c b w with
      | true => exact decide_eq_true (hiff.mpr hm)
      | false => exact decide_eq_false (fun z => by have := hiff.mp z; rw [hm] at this; cases this)
    rw [this]
    cases z_m c b w <;> decide
  · refine e_F (by rw [nI_eq (by omega) (by omega)]; exact hl) ?_
    obtain ⟨k, rfl⟩ : ∃ k', k = k' + 1 := ⟨k - 1, by omega⟩
    refine e_B (q := nI 0) ?_ ?_
    · rw [f_Mo_isWord_L22]
      exact e_T rfl rfl
    · have : decide (z_code c n b = 12 + w) = false := decide_eq_false (fun z => by
        have := hiff.mp z
        unfold z_is at this
        rw [decide_eq_false hl, Bool.false_and] at this
        cases this)
      rw [this]
      rfl
