/-! a text that lands has three letters at least -/
theorem z_li_start {P M : Nat} {C : Nat → Nat} {j : Nat} (h : (z_li P M C j).1 = true) : ∃ v, C j = 12 + v ∧ v < 17 ∧ 3 ≤ z_wl v := by
  unfold z_li at h
  by_cases h1 : 13 ≤ C j ∧ C j ≤ 16
  · refine ⟨C j - 12, by omega, by omega, ?_⟩
    have : C j - 12 = 1 ∨ C j - 12 = 2 ∨ C j - 12 = 3 ∨ C j - 12 = 4 := by omega
    rcases this with hh | hh | hh | hh <;> rw [hh] <;> decide
  · rw [if_neg h1] at h
    by_cases h2 : C j = 17
    · exact ⟨5, h2, by decide, by decide⟩
    · rw [if_neg h2] at h
      by_cases h3 : C j = 12 ∨ C j = 23 ∨ C j = 26
      · rcases h3 with h3 | h3 | h3
        · exact ⟨0, h3, by decide, by decide⟩
        · exact ⟨11, h3, by decide, by decide⟩
        · exact ⟨14, h3, by decide, by decide⟩
      · rw [if_neg h3] at h
        cases h
theorem z_txt_len {c : Nat → Nat} {n r : Nat} {S : zS} {R : List zL} (h : (z_txt (z_C c n) r S 0 R).1 = true) : 3 ≤ n := by
  rw [z_txt_eq] at h
  by_cases hl : (z_li S.1 S.2.1 (z_C c n) 0).1 = false
  · rw [if_pos hl] at h; cases h
  · obtain ⟨v, hv, hv17, hw⟩ := z_li_start (Bool.not_eq_false _ ▸ hl)
    unfold z_C z_code at hv
    generalize z_tp c n 0 = b at hv
    by_cases hb : n ≤ b
    · rw [if_pos hb] at hv; omega
    · rw [if_neg hb] at hv
      have he := z_end_bd (c := c) (n := n) (b := b) (by omega)
      by_cases h1 : z_cl (c b) = 1
      · rw [if_pos h1] at hv
        have := (z_wcf_iff hv17 17 0 rfl (by omega)).mp hv
        unfold z_is at this
        simp only [Bool.and_eq_true, decide_eq_true_iff] at this
        omega
      · rw [if_neg h1] at hv
        by_cases h2 : z_cl (c b) = 2
        · rw [if_pos h2] at hv
          have hd : c b ≤ 57 := by
            unfold z_cl at h2
            repeat' split at h2
            all_goals omega
          split at hv <;> omega
        · rw [if_neg h2] at hv
          split at hv <;> omega
