/-! what stays of a state; the class's deed -/
theorem z_orb {x j : Nat} (h : x.testBit j = false) : x ||| 2 ^ j = x + 2 ^ j := by
  have hb : x % 2 ^ (j + 1) < 2 ^ j := by
    rw [Nat.testBit_eq_decide_div_mod_eq] at h
    have h0 : x / 2 ^ j % 2 = 0 := by
      have := of_decide_eq_false h
      omega
    have h1 : x % 2 ^ (j + 1) / 2 ^ j = 0 := by
      rw [Nat.pow_succ, Nat.mod_mul_right_div_self, h0]
    exact (Nat.div_eq_zero_iff_lt (Nat.two_pow_pos j)).mp h1
  have e0 : x = 2 ^ (j + 1) * (x / 2 ^ (j + 1)) + x % 2 ^ (j + 1) := (Nat.div_add_mod x (2 ^ (j + 1))).symm
  generalize x / 2 ^ (j + 1) = a at e0
  generalize x % 2 ^ (j + 1) = b at e0 hb
  have hb2 : b < 2 ^ (j + 1) := by rw [Nat.pow_succ]; omega
  have hb3 : 2 ^ j * 1 + b < 2 ^ (j + 1) := by rw [Nat.pow_succ]; omega
  subst e0
  rw [Nat.two_pow_add_eq_or_of_lt hb2, Nat.or_assoc, Nat.or_comm b, show 2 ^ j ||| b = 2 ^ j * 1 ||| b by rw [Nat.mul_one], ← Nat.two_pow_add_eq_or_of_lt hb, ← Nat.two_pow_add_eq_or_of_lt hb3, ← Nat.two_pow_add_eq_or_of_lt hb2]
  omega
def z_V (P M x : Nat) : Prop := x < 57344 ∧ x % 32 < 2 ^ M ∧ x / 128 % 8 < 2 ^ P
theorem z_msk : ∀ k, k < 5 → (2 ^ k ^^^ 4294967295) >>> 5 = 2 ^ 27 - 1 := by decide +kernel
theorem z_wk_lt {w n : Nat} (h : w ≤ n) (hn : 1 ≤ n) : z_wk w < 2 ^ n := by
  unfold z_wk
  split
  · exact Nat.two_pow_pos n
  · exact Nat.pow_lt_pow_right (by decide) (by omega)
theorem z_lift_hi {P M D k : Nat} {sp : Nat → Nat → Nat} (ok : z_ok P M sp) (hk : k < M) {a : Nat × Nat} (h1 : a.1 < 2 ^ 16) : (z_lift M sp D k a).1 / 32 = a.1 / 32 ∧ (a.1 % 32 < 2 ^ M → (z_lift M sp D k a).1 % 32 < 2 ^ M) := by
  obtain ⟨b0, b1, b2, b3, b4, b5⟩ := z_small ok hk
  have b6 := (ok.2.2.2 k hk).2.2.2.2.2.2
  unfold z_lift
  split
  · constructor
    · show (a.1 &&& (2 ^ k ^^^ 4294967295) ||| z_wk (sp k 9)) / 2 ^ 5 = a.1 / 2 ^ 5
      rw [← Nat.shiftRight_eq_div_pow, ← Nat.shiftRight_eq_div_pow, Nat.shiftRight_or_distrib, Nat.shiftRight_and_distrib, z_msk k b0, Nat.and_two_pow_sub_one_eq_mod]
      have h2 : z_wk (sp k 9) >>> 5 = 0 := by
        rw [Nat.shiftRight_eq_div_pow]
        exact Nat.div_eq_of_lt (z_wk_lt b5 (by decide))
      rw [h2, Nat.or_zero]
      apply Nat.mod_eq_of_lt
      rw [Nat.shiftRight_eq_div_pow]
      omega
    · intro h
      show (a.1 &&& (2 ^ k ^^^ 4294967295) ||| z_wk (sp k 9)) % 2 ^ 5 < 2 ^ M
      rw [Nat.or_mod_two_pow, Nat.and_mod_two_pow]
      exact Nat.or_lt_two_pow (Nat.lt_of_le_of_lt Nat.and_le_left h) (Nat.lt_of_le_of_lt (Nat.mod_le _ _) (z_wk_lt (by omega) (by omega)))
  · exact ⟨rfl, fun h => h⟩
theorem z_fold_hi {P M D : Nat} {sp : Nat → Nat → Nat} (ok : z_ok P M sp) {x : Nat} (h1 : x < 2 ^ 16) : ∀ n, n ≤ M → (z_fold (z_lift M sp D) n (x, 0)).1 / 32 = x / 32 ∧ (x % 32 < 2 ^ M → (z_fold (z_lift M sp D) n (x, 0)).1 % 32 < 2 ^ M) := by
  intro n
  induction n with
  | zero => intro _; exact ⟨rfl, fun h => h⟩
  | succ n ih =>
    intro h
    obtain ⟨i1, i2⟩ := ih (by omega)
    obtain ⟨l1, l2⟩ := z_fold_lt ok (D := D) (a := (x, 0)) h1 (show (0 : Nat) < 2 ^ 5 by decide) n (by omega)
    obtain ⟨j1, j2⟩ := z_lift_hi ok (D := D) (k := n) (by omega) l1
    exact ⟨j1.trans i1, fun q => j2 (i2 q)⟩
theorem z_fold_ask {P M D : Nat} {sp : Nat → Nat → Nat} (ok : z_ok P M sp) {x : Nat} (h1 : x < 2 ^ 16) : ∀ n, n ≤ M → (z_fold (z_lift M sp D) n (x, 0)).1 / 1024 % 8 = x / 1024 % 8 := by
  intro n hn
  have := (z_fold_hi ok (D := D) h1 n hn).1
  omega
theorem z_dig {x j : Nat} : x.testBit j = false ↔ x / 2 ^ j % 2 = 0 := by
  rw [Nat.testBit_eq_decide_div_mod_eq, decide_eq_false_iff_not]
  omega
/-- what can be done: its cases -/
theorem z_can_do {P M x D : Nat} {sp : Nat → Nat → Nat} (hD : D < 22) (h : z_can P M sp x D = true) : D = 21 ∨ (D ≠ 21 ∧ D / 7 < P ∧ ((D % 7 < 3 ∧ z_do x D = x) ∨ (D % 7 = 3 ∧ x.testBit (7 + D / 7) = false ∧ z_do x D = x + 2 ^ (7 + D / 7)) ∨ (4 ≤ D % 7 ∧ D % 7 < 6 ∧ x.testBit (5 + (D % 7 - 4)) = false ∧ z_do x D = x + 2 ^ (5 + (D % 7 - 4))) ∨ (D % 7 = 6 ∧ x / 1024 % 8 < 7 ∧ z_do x D = x + 1024))) := by
  by_cases h21 : D = 21
  · exact Or.inl h21
  refine Or.inr ⟨h21, ?_⟩
  unfold z_can at h
  rw [if_neg h21] at h
  by_cases hp : P ≤ D / 7
  · rw [if_pos hp] at h; cases h
  rw [if_neg hp] at h
  refine ⟨by omega, ?_⟩
  by_cases hu : z_und M sp x (D / 7) 0 = true
  · rw [if_pos hu] at h; cases h
  rw [if_neg hu] at h
  unfold z_do
  rw [if_neg h21]
  by_cases k3 : D % 7 < 3
  · exact Or.inl ⟨k3, by rw [if_pos k3]⟩
  rw [if_neg k3] at h ⊢
  by_cases k4 : D % 7 = 3
  · rw [if_pos k4] at h ⊢
    have hb : x.testBit (7 + D / 7) = false := by cases hb : x.testBit (7 + D / 7) <;> simp [hb] at h ⊢
    exact Or.inr (Or.inl ⟨k4, hb, z_orb hb⟩)
  rw [if_neg k4] at h ⊢
  by_cases k6 : D % 7 < 6
  · rw [if_pos k6] at h ⊢
    have hb : x.testBit (5 + (D % 7 - 4)) = false := by cases hb : x.testBit (5 + (D % 7 - 4)) <;> simp [hb] at h ⊢
    refine Or.inr (Or.inr (Or.inl ⟨by omega, k6, hb, ?_⟩))
    rw [show 5 + D % 7 - 4 = 5 + (D % 7 - 4) by omega]
    exact z_orb hb
  rw [if_neg k6] at h ⊢
  by_cases ka : 7 ≤ x / 1024 % 8
  · rw [if_pos ka] at h; cases h
  exact Or.inr (Or.inr (Or.inr ⟨by omega, by omega, rfl⟩))
theorem z_do_night {x : Nat} (hx : x < 57344) : z_do x 21 = (x / 8192 + 1) % 7 * 8192 + x / 1024 % 8 * 1024 + x % 128 := by
  unfold z_do
  rw [if_pos rfl]
  have h2 := z_nd2 (x / 128 % 64) (by omega) (x % 128) (by omega)
  rw [show x / 128 % 64 * 128 + x % 128 = x % 8192 by omega] at h2
  rw [h2, Nat.or_comm, Nat.mul_comm _ (2 ^ 13), ← Nat.two_pow_add_eq_or_of_lt (by omega)]
  omega
theorem z_do_V {P M x D : Nat} {sp : Nat → Nat → Nat} (hP : P ≤ 3) (hx : z_V P M x) (hD : D < 22) (h : z_can P M sp x D = true) : z_V P M (z_do x D) := by
  obtain ⟨v1, v2, v3⟩ := hx
  have hp2 : 0 < 2 ^ P := Nat.two_pow_pos P
  rcases z_can_do hD h with rfl | ⟨h21, hp, h | h | h | h⟩
  · rw [z_do_night v1]
    exact ⟨by omega, by omega, by omega⟩
  · rw [h.2]; exact ⟨v1, v2, v3⟩
  · obtain ⟨k, hb, e⟩ := h
    rw [z_dig] at hb
    rw [e]
    have hq : 2 ^ (D / 7) < 2 ^ P := Nat.pow_lt_pow_right (by decide) hp
    have hor : x / 128 % 8 ||| 2 ^ (D / 7) < 2 ^ P := Nat.or_lt_two_pow v3 hq
    have hz : (x / 128 % 8).testBit (D / 7) = false := by rw [z_w _ (by omega), z_dig]; exact hb
    rw [z_orb hz] at hor
    have hd : D / 7 = 0 ∨ D / 7 = 1 ∨ D / 7 = 2 := by omega
    rcases hd with hd | hd | hd <;> rw [hd] at hb hor ⊢ <;> refine ⟨?_, ?_, ?_⟩ <;> omega
  · obtain ⟨k1, k2, hb, e⟩ := h
    rw [z_dig] at hb
    rw [e]
    have hd : D % 7 - 4 = 0 ∨ D % 7 - 4 = 1 := by omega
    rcases hd with hd | hd <;> rw [hd] at hb ⊢ <;> refine ⟨?_, ?_, ?_⟩ <;> omega
  · obtain ⟨k, ha, e⟩ := h
    rw [e]
    exact ⟨by omega, by omega, by omega⟩
theorem z_beh_V {P M x D : Nat} {sp : Nat → Nat → Nat} (ok : z_ok P M sp) (hx : z_V P M x) (hD : D < 22) (h : z_can P M sp x D = true) : z_V P M (z_beh M sp x D).1 ∧ (z_beh M sp x D).2 < 32 := by
  obtain ⟨v1, v2, v3⟩ := z_do_V ok.2.1 hx hD h
  obtain ⟨i1, i2⟩ := z_fold_hi ok (D := D) (x := z_do x D) (by omega) M (Nat.le_refl _)
  obtain ⟨l1, l2⟩ := z_fold_lt ok (D := D) (a := (z_do x D, 0)) (show z_do x D < 2 ^ 16 by omega) (show (0 : Nat) < 2 ^ 5 by decide) M (Nat.le_refl _)
  have i3 := i2 v2
  unfold z_beh
  exact ⟨⟨by omega, i3, by omega⟩, l2⟩
