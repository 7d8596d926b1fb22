/-! a deed done by the class: Rules.after, over rules that say what the land says -/
def z_kc (D : Nat) : Nat := if D = 21 then 0 else if D % 7 < 3 then 1 + D / 7 * 3 + D % 7 else 0
/-- the spells' masks -/
def z_RA (M : Nat) (sp : Nat → Nat → Nat) (ak kn mk va wk : Nat → Int32) : Prop := ∀ s, s < M → wk s = nI (z_wk (sp s 9)) ∧ ∀ y D, y < 2 ^ 16 → D < 22 →
  ((nI y &&& mk s = va s ∧ ¬ nI (y / 1024 % 8) < ak s ∧ (kn s = nI 0 ∨ kn s = nI (z_kc D))) ↔ (y.testBit s = true ∧ z_und M sp y s 3 = false ∧ z_all (fun i => z_so sp y s i D) (sp s 2) = true))
/-- the deeds: n of them, dd d is the reference's number -/
def z_RB (P M : Nat) (sp : Nat → Nat → Nat) (n : Nat) (dd : Nat → Nat) (ba bi ks so : Nat → Int32) : Prop := n ≤ 19 ∧ ∀ d, d < n → dd d < 22 ∧ ks d = nI (z_kc (dd d)) ∧ ∃ q, q ≤ 4 ∧ so d = nI q ∧ (q = 4 ↔ dd d = 21) ∧ (q = 3 ↔ dd d ≠ 21 ∧ dd d % 7 = 6) ∧
  ∀ x, x < 57344 → ((nI x &&& ba d = nI 0 ∧ (q = 3 → x / 1024 % 8 < 7)) ↔ z_can P M sp x (dd d) = true) ∧ (dd d ≠ 21 → z_can P M sp x (dd d) = true → nI x + bi d = nI (z_do x (dd d)))
theorem z_nd1 : ∀ a, a < 8 → ∀ b, b < 64 → ∀ c, c < 128 → ((a * 8192 + b * 128 + c) &&& 4294909055) = b / 8 * 1024 + c := by decide +kernel
theorem z_nd2 : ∀ b, b < 64 → ∀ c, c < 128 → ((b * 128 + c) &&& 4294966399) = b / 8 * 1024 + c := by decide +kernel
theorem q_m58241 : (-nI 58241 : Int32) = nI 4294909055 := by decide
theorem z_night {x : Nat} (hx : x < 65536) : (x &&& 4294909055) = ((x % 8192) &&& 4294966399) := by
  have h1 := z_nd1 (x / 8192) (by omega) (x / 128 % 64) (by omega) (x % 128) (by omega)
  have h2 := z_nd2 (x / 128 % 64) (by omega) (x % 128) (by omega)
  rw [show x / 8192 * 8192 + x / 128 % 64 * 128 + x % 128 = x by omega] at h1
  rw [show x / 128 % 64 * 128 + x % 128 = x % 8192 by omega] at h2
  rw [h1, h2]
theorem s_nextDay {x : Nat} (hx : x < 57344) : f_St_nextDay (nI x) = some (nI (z_do x 21)) := by
  unfold f_St_nextDay f_St_nextDay_J21 z_do
  refine e_L ?_
  simp (disch := omega) only [q_lit, q_a31s, q_shrm, q_a7, nI_ltI, nI_add, q_m58241, Nat.reducePow, if_true]
  have hd : x / 8192 % 8 = x / 8192 := by omega
  rw [hd]
  by_cases h : x / 8192 < 6
  · rw [if_pos h]
    simp (disch := omega) only [q_shlm]
    rw [q_and, q_or, z_night (by omega), show (x / 8192 + 1) % 7 = x / 8192 + 1 by omega]
  · rw [if_neg h]
    simp (disch := omega) only [q_shlm]
    rw [q_and, q_or, z_night (by omega), show (x / 8192 + 1) % 7 = 0 by omega]
theorem z_or16 {y lf : Nat} (h : y < 2 ^ 16) : y ||| lf * 2 ^ 16 = lf * 65536 + y := by
  have := Nat.shiftLeft_add_eq_or_of_lt h lf
  rw [Nat.shiftLeft_eq] at this
  rw [Nat.or_comm, ← this]
theorem s_after_L {P M D : Nat} {sp : Nat → Nat → Nat} {n : Nat} {ak ba bi ks kn mk so va wk : Nat → Int32} (ok : z_ok P M sp) (hA : z_RA M sp ak kn mk va wk) (hD : D < 22) {x : Nat} (hx : x < 2 ^ 16) (hask : ∀ i, i ≤ M → (z_fold (z_lift M sp D) i (x, 0)).1 / 1024 % 8 = x / 1024 % 8) : ∀ d i k, i + d = M → d < k → f_Ru_after_L98 (nI n) (nI M) ak ba bi ks kn mk so va wk (nI (z_kc D)) (nI (x / 1024 % 8)) k (nI (z_fold (z_lift M sp D) i (x, 0)).1) (nI (z_fold (z_lift M sp D) i (x, 0)).2) (nI i) = some (nI (z_fold (z_lift M sp D) M (x, 0)).1, nI (z_fold (z_lift M sp D) M (x, 0)).2) := by
  have hM := ok.2.2.1
  intro d
  induction d with
  | zero =>
    intro i k hi hk
    obtain ⟨k, rfl⟩ : ∃ k', k = k' + 1 := ⟨k - 1, by omega⟩
    have : i = M := by omega
    subst this
    rw [f_Ru_after_L98, if_pos (nI_le (Nat.le_refl _) (by omega))]
  | succ d ih =>
    intro i k hi hk
    obtain ⟨k, rfl⟩ : ∃ k', k = k' + 1 := ⟨k - 1, by omega⟩
    have hiM : i < M := by omega
    have ih' := ih (i + 1) k (by omega) (by omega)
    have ha := hask i (by omega)
    obtain ⟨l1, l2⟩ := z_fold_lt ok (D := D) (a := (x, 0)) hx (show (0 : Nat) < 2 ^ 5 by decide) i (by omega)
    simp only [z_fold] at ih'
    generalize z_fold (z_lift M sp D) i (x, 0) = a at ih' l1 l2 ha ⊢
    obtain ⟨y, lf⟩ := a
    simp only at l1 l2 ih' ha ⊢
    obtain ⟨hw, hA2⟩ := hA i hiM
    have hA3 := hA2 y D l1 hD
    rw [ha] at hA3
    have ih2 : ∀ q, z_lift M sp D i (y, lf) = q → f_Ru_after_L98 (nI n) (nI M) ak ba bi ks kn mk so va wk (nI (z_kc D)) (nI (x / 1024 % 8)) k (nI q.1) (nI q.2) (nI (i + 1)) = some (nI (z_fold (z_lift M sp D) M (x, 0)).1, nI (z_fold (z_lift M sp D) M (x, 0)).2) := fun q h => h ▸ ih'
    have no : ¬ (nI y &&& mk i = va i ∧ ¬ nI (x / 1024 % 8) < ak i ∧ (kn i = nI 0 ∨ kn i = nI (z_kc D))) → z_lift M sp D i (y, lf) = (y, lf) := fun h => by
      unfold z_lift
      rw [if_neg (fun z => h (hA3.mpr z))]
    have yes : (nI y &&& mk i = va i ∧ ¬ nI (x / 1024 % 8) < ak i ∧ (kn i = nI 0 ∨ kn i = nI (z_kc D))) → z_lift M sp D i (y, lf) = ((y &&& (2 ^ i ^^^ 4294967295)) ||| z_wk (sp i 9), lf ||| 2 ^ i) := fun h => by
      unfold z_lift
      rw [if_pos (hA3.mp h)]
    rw [f_Ru_after_L98]
    simp (disch := omega) only [f_Ru_after_J192, f_Ru_after_J166, q_lit, ↓q_L, q_I, nI_leI, nI_add, hw, q_a31s, q_shlm, Nat.one_mul]
    rw [if_neg (by omega), if_neg (by omega)]
    simp only [q_m1, q_xor, q_and, q_or]
    by_cases c1 : nI y &&& mk i = va i
    · rw [if_pos c1]
      by_cases c2 : nI (x / 1024 % 8) < ak i
      · rw [if_pos c2]
        exact ih2 (y, lf) (no (fun z => z.2.1 c2))
      · rw [if_neg c2]
        by_cases c3 : kn i = nI 0
        · rw [if_pos c3]
          exact ih2 (_, _) (yes ⟨c1, c2, Or.inl c3⟩)
        · rw [if_neg c3]
          by_cases c4 : kn i = nI (z_kc D)
          · rw [if_pos c4]
            exact ih2 (_, _) (yes ⟨c1, c2, Or.inr c4⟩)
          · rw [if_neg c4]
            exact ih2 (y, lf) (no (fun z => z.2.2.elim c3 c4))
    · rw [if_neg c1]
      exact ih2 (y, lf) (no (fun z => c1 z.1))
