/-! lines, by codes -/
theorem z_bt {b : Bool} (h : ¬ b = false) : b = true := by cases b; exact absurd rfl h; rfl
def z_tm (P M : Nat) (C : Nat → Nat) (j : Nat) : Bool × Nat := if 21 ≤ C j ∧ C j ≤ 28 then (if z_nok (C j) P M (C (j + 1)) = true then (true, j + 2) else (false, j + 1)) else (false, j)
/-- terms from t on (t of them are read): whether, how many, where it fails -/
def z_ts (P M : Nat) (C : Nat → Nat) (j : Nat) : Nat → Nat → Bool × Nat × Nat
  | 0, t => (true, t, 0)
  | r + 1, t => if C (j + 2 + 3 * t) = 19 then (if (z_tm P M C (j + 3 + 3 * t)).1 = true then z_ts P M C j r (t + 1) else (false, t, (z_tm P M C (j + 3 + 3 * t)).2)) else (true, t, 0)
/-- a line of a spell: whether, where it ends or fails, how many terms -/
def z_sp (P M : Nat) (C : Nat → Nat) (j : Nat) : Bool × Nat × Nat :=
  if M = 5 then (false, j, 0) else
  if z_nok (C j) P M (C (j + 1)) = false then (false, j + 1, 0) else
  if C (j + 2) ≠ 18 then (false, j + 2, 0) else
  if (z_tm P M C (j + 3)).1 = false then (false, (z_tm P M C (j + 3)).2, 0) else
  if (z_ts P M C j 2 1).1 = false then (false, (z_ts P M C j 2 1).2.2, 0) else
  if C (j + 2 + 3 * (z_ts P M C j 2 1).2.1) = 20 then (if z_nok 20 P M (C (j + 3 + 3 * (z_ts P M C j 2 1).2.1)) = true then (true, j + 4 + 3 * (z_ts P M C j 2 1).2.1, (z_ts P M C j 2 1).2.1) else (false, j + 3 + 3 * (z_ts P M C j 2 1).2.1, 0))
  else (true, j + 2 + 3 * (z_ts P M C j 2 1).2.1, (z_ts P M C j 2 1).2.1)
def z_rec (kind target nt wk : Nat) (so nu : Nat → Nat) (i : Nat) : Nat := if i = 0 then kind else if i = 1 then target else if i = 2 then nt else if i = 9 then wk else if i % 2 = 1 then so ((i - 3) / 2) else nu ((i - 4) / 2)
theorem z_rec_so {kind target nt wk i : Nat} {so nu : Nat → Nat} (h : i < 3) : z_rec kind target nt wk so nu (3 + 2 * i) = so i ∧ z_rec kind target nt wk so nu (4 + 2 * i) = nu i := by
  have hc : i = 0 ∨ i = 1 ∨ i = 2 := by omega
  rcases hc with rfl | rfl | rfl <;> exact ⟨rfl, rfl⟩
/-- the spell that the line tells -/
def z_srec (C : Nat → Nat) (j nt : Nat) : Nat → Nat := z_rec (C j - 13) (C (j + 1)) nt (if C (j + 2 + 3 * nt) = 20 then C (j + 3 + 3 * nt) + 1 else 0) (fun t => C (j + 3 + 3 * t) - 21) (fun t => C (j + 4 + 3 * t))
theorem z_tm_t {P M j : Nat} {C : Nat → Nat} (h : (z_tm P M C j).1 = true) : 21 ≤ C j ∧ C j ≤ 28 ∧ z_nok (C j) P M (C (j + 1)) = true ∧ (z_tm P M C j).2 = j + 2 := by
  unfold z_tm at h ⊢
  by_cases h1 : 21 ≤ C j ∧ C j ≤ 28
  · rw [if_pos h1] at h ⊢
    by_cases h2 : z_nok (C j) P M (C (j + 1)) = true
    · rw [if_pos h2]; exact ⟨h1.1, h1.2, h2, rfl⟩
    · rw [if_neg h2] at h; cases h
  · rw [if_neg h1] at h; cases h
theorem z_nok_t {wd P M v : Nat} (h : z_nok wd P M v = true) : z_lst wd ≤ v ∧ v ≤ 9 ∧ v < z_lim wd P M := of_decide_eq_true h
theorem z_ts_t {P M j : Nat} {C : Nat → Nat} : ∀ r t, t + r = 3 → (z_ts P M C j r t).1 = true → t ≤ (z_ts P M C j r t).2.1 ∧ (z_ts P M C j r t).2.1 ≤ 3 ∧ ∀ u, t ≤ u → u < (z_ts P M C j r t).2.1 → (z_tm P M C (j + 3 + 3 * u)).1 = true := by
  intro r
  induction r with
  | zero =>
    intro t ht _
    exact ⟨Nat.le_refl _, by show t ≤ 3; omega, fun u h1 h2 => by have h2 : u < t := h2; omega⟩
  | succ r ih =>
    intro t ht h
    unfold z_ts at h ⊢
    by_cases h1 : C (j + 2 + 3 * t) = 19
    · rw [if_pos h1] at h ⊢
      by_cases h2 : (z_tm P M C (j + 3 + 3 * t)).1 = true
      · rw [if_pos h2] at h ⊢
        obtain ⟨a1, a2, a3⟩ := ih (t + 1) (by omega) h
        refine ⟨by omega, a2, fun u u1 u2 => ?_⟩
        by_cases hu : u = t
        · subst hu; exact h2
        · exact a3 u (by omega) u2
      · rw [if_neg h2] at h; cases h
    · rw [if_neg h1]
      exact ⟨Nat.le_refl _, by show t ≤ 3; omega, fun u h1 h2 => by have h2 : u < t := h2; omega⟩
/-- the land told: people, spells, day, gifts -/
def z_apS (M : Nat) (sp : Nat → Nat → Nat) (rc : Nat → Nat) : Nat → Nat → Nat := fun s => if s = M then rc else sp s
/-- what a good line of a spell gives -/
theorem z_sp_ok {P M j : Nat} {C : Nat → Nat} {sp : Nat → Nat → Nat} (ok : z_ok P M sp) (h1 : 13 ≤ C j) (h2 : C j ≤ 16) (h : (z_sp P M C j).1 = true) : M < 5 ∧ z_ok P (M + 1) (z_apS M sp (z_srec C j (z_sp P M C j).2.2)) ∧ 1 ≤ (z_sp P M C j).2.2 ∧ (z_sp P M C j).2.2 ≤ 3 := by
  unfold z_sp at h ⊢
  by_cases c1 : M = 5
  · rw [if_pos c1] at h; cases h
  rw [if_neg c1] at h ⊢
  by_cases c2 : z_nok (C j) P M (C (j + 1)) = false
  · rw [if_pos c2] at h; cases h
  rw [if_neg c2] at h ⊢
  by_cases c3 : C (j + 2) ≠ 18
  · rw [if_pos c3] at h; cases h
  rw [if_neg c3] at h ⊢
  by_cases c4 : (z_tm P M C (j + 3)).1 = false
  · rw [if_pos c4] at h; cases h
  rw [if_neg c4] at h ⊢
  by_cases c5 : (z_ts P M C j 2 1).1 = false
  · rw [if_pos c5] at h; cases h
  rw [if_neg c5] at h ⊢
  have c2' := z_nok_t (z_bt c2)
  have c4' : (z_tm P M C (j + 3)).1 = true := z_bt c4
  obtain ⟨a1, a2, a3⟩ := z_ts_t 2 1 (by omega) (z_bt c5)
  have hP := ok.2.1
  have hM := ok.2.2.1
  have key : ∀ nt wk, nt = (z_ts P M C j 2 1).2.1 → wk ≤ M + 1 → z_ok P (M + 1) (z_apS M sp (z_rec (C j - 13) (C (j + 1)) nt wk (fun t => C (j + 3 + 3 * t) - 21) (fun t => C (j + 4 + 3 * t)))) := by
    intro nt wk hnt hwk
    subst hnt
    refine ⟨ok.1, ok.2.1, by omega, ?_⟩
    intro s hs
    by_cases hsM : s = M
    · subst hsM
      have hsp : z_apS s sp (z_rec (C j - 13) (C (j + 1)) (z_ts P s C j 2 1).2.1 wk (fun t => C (j + 3 + 3 * t) - 21) (fun t => C (j + 4 + 3 * t))) s = z_rec (C j - 13) (C (j + 1)) (z_ts P s C j 2 1).2.1 wk (fun t => C (j + 3 + 3 * t) - 21) (fun t => C (j + 4 + 3 * t)) := if_pos rfl
      unfold z_okS
      rw [hsp]
      refine ⟨by show C j - 13 ≤ 3; omega, ?_, ?_, a1, a2, ?_, hwk⟩
      · intro h3
        have h3 : C j - 13 = 3 := h3
        show C (j + 1) < s
        have : z_lim (C j) P s = s := by unfold z_lim; rw [if_neg (by omega), if_neg (by omega), if_pos (by omega)]
        omega
      · intro h3
        have h3 : C j - 13 ≠ 3 := h3
        show C (j + 1) < P
        have : z_lim (C j) P s = P := by unfold z_lim; rw [if_neg (by omega), if_pos (by omega)]
        omega
      · intro i hi
        have hi : i < (z_ts P s C j 2 1).2.1 := hi
        rw [(z_rec_so (by omega)).1, (z_rec_so (by omega)).2]
        have ht : (z_tm P s C (j + 3 + 3 * i)).1 = true := by
          by_cases hi0 : i = 0
          · subst hi0; exact c4'
          · exact a3 i (by omega) hi
        obtain ⟨b1, b2, b3, _⟩ := z_tm_t ht
        obtain ⟨d1, d2, d3⟩ := z_nok_t b3
        show z_okT P s (C (j + 3 + 3 * i) - 21) (C (j + 4 + 3 * i))
        rw [show j + 3 + 3 * i + 1 = j + 4 + 3 * i by omega] at d1 d2 d3
        generalize C (j + 3 + 3 * i) = w at b1 b2 d1 d3
        generalize C (j + 4 + 3 * i) = v at d1 d2 d3
        have hw : w = 21 ∨ w = 22 ∨ w = 23 ∨ w = 24 ∨ w = 25 ∨ w = 26 ∨ w = 27 ∨ w = 28 := by omega
        unfold z_okT
        rcases hw with rfl | rfl | rfl | rfl | rfl | rfl | rfl | rfl <;> simp [z_lim, z_lst] at d1 d3 ⊢ <;> omega
    · have hs2 : s < M := by omega
      have hsp : z_apS M sp (z_rec (C j - 13) (C (j + 1)) (z_ts P M C j 2 1).2.1 wk (fun t => C (j + 3 + 3 * t) - 21) (fun t => C (j + 4 + 3 * t))) s = sp s := if_neg hsM
      have := ok.2.2.2 s hs2
      unfold z_okS at this ⊢
      rw [hsp]
      exact this
  refine ⟨by omega, ?_, ?_, ?_⟩
  · by_cases c6 : C (j + 2 + 3 * (z_ts P M C j 2 1).2.1) = 20
    · rw [if_pos c6] at h ⊢
      by_cases c7 : z_nok 20 P M (C (j + 3 + 3 * (z_ts P M C j 2 1).2.1)) = true
      · rw [if_pos c7]
        have := (z_nok_t c7).2.2
        refine key _ _ rfl ?_
        rw [if_pos c6]
        simp [z_lim] at this
        show C (j + 3 + 3 * (z_ts P M C j 2 1).2.1) + 1 ≤ M + 1
        omega
      · rw [if_neg c7] at h; cases h
    · rw [if_neg c6]
      refine key _ _ rfl ?_
      rw [if_neg c6]
      omega
  · by_cases c6 : C (j + 2 + 3 * (z_ts P M C j 2 1).2.1) = 20
    · rw [if_pos c6] at h ⊢
      by_cases c7 : z_nok 20 P M (C (j + 3 + 3 * (z_ts P M C j 2 1).2.1)) = true
      · rw [if_pos c7]; exact a1
      · rw [if_neg c7] at h; cases h
    · rw [if_neg c6]; exact a1
  · by_cases c6 : C (j + 2 + 3 * (z_ts P M C j 2 1).2.1) = 20
    · rw [if_pos c6] at h ⊢
      by_cases c7 : z_nok 20 P M (C (j + 3 + 3 * (z_ts P M C j 2 1).2.1)) = true
      · rw [if_pos c7]; exact a2
      · rw [if_neg c7] at h; cases h
    · rw [if_neg c6]; exact a2
/-! the class reads a spell -/
theorem t_isFull {M : Nat} (hM : M ≤ 5) : f_To_isFull (nI M) = some (nI (decide (M = 5)).toNat) := by
  unfold f_To_isFull f_To_isFull_J15
  refine e_F (by simp (disch := omega) only [q_lit, q_ofn, nI_add, q_mul, q_sub, q_shrm, q_shlm, q_a31s, q_a1, q_a3, q_a7, q_a65535, q_div, q_rem2, z_mm, nI_clamp, Nat.reduceMul, Nat.reduceAdd, Nat.reduceSub, Nat.reducePow, Nat.reduceMod, Nat.reduceDiv, Nat.one_mul, nI_ltI, nI_leI, nI_eq, q_b0, q_b1, q_m1lt, q_m1le, q_ltm1, q_lem1, q_eqm1, q_m1eq, not_true_eq_false, not_false_eq_true, reduceCtorEq, *] <;> first | omega | decide) ?_
  by_cases h : M = 5
  · rw [decide_eq_true h]
    exact e_F (by simp (disch := omega) only [q_lit, q_ofn, nI_add, q_mul, q_sub, q_shrm, q_shlm, q_a31s, q_a1, q_a3, q_a7, q_a65535, q_div, q_rem2, z_mm, nI_clamp, Nat.reduceMul, Nat.reduceAdd, Nat.reduceSub, Nat.reducePow, Nat.reduceMod, Nat.reduceDiv, Nat.one_mul, nI_ltI, nI_leI, nI_eq, q_b0, q_b1, q_m1lt, q_m1le, q_ltm1, q_lem1, q_eqm1, q_m1eq, not_true_eq_false, not_false_eq_true, reduceCtorEq, *] <;> first | omega | decide) rfl
  · rw [decide_eq_false h]
    exact e_T (by simp (disch := omega) only [q_lit, q_ofn, nI_add, q_mul, q_sub, q_shrm, q_shlm, q_a31s, q_a1, q_a3, q_a7, q_a65535, q_div, q_rem2, z_mm, nI_clamp, Nat.reduceMul, Nat.reduceAdd, Nat.reduceSub, Nat.reducePow, Nat.reduceMod, Nat.reduceDiv, Nat.one_mul, nI_ltI, nI_leI, nI_eq, q_b0, q_b1, q_m1lt, q_m1le, q_ltm1, q_lem1, q_eqm1, q_m1eq, not_true_eq_false, not_false_eq_true, reduceCtorEq, *] <;> first | omega | decide) rfl
theorem t_addTerm {M t : Nat} {nf sf mf : Nat → Int32} {so v : Int32} (hM : M < 5) (ht : t < 3) (hm : mf M = nI t) : f_To_addTerm (nI M) nf sf mf so v = some (upd nf (3 * M + t) v, upd sf (3 * M + t) so, upd mf M (nI (t + 1))) := by
  unfold f_To_addTerm
  rw [t_isFull (by omega), q_B, decide_eq_false (by omega)]
  refine e_T (by decide) ?_
  refine e_I (i := M) (by first | (with_reducible rfl) | (simp (disch := omega) only [q_lit, q_ofn, nI_add, q_mul, q_sub, q_shrm, q_shlm, q_a31s, q_a1, q_a3, q_a7, q_a65535, q_div, q_rem2, z_mm, nI_clamp, Nat.reduceMul, Nat.reduceAdd, Nat.reduceSub, Nat.reducePow, Nat.reduceMod, Nat.reduceDiv, Nat.one_mul]; done) | (simp (disch := omega) only [q_lit, q_ofn, nI_add, q_mul, q_sub, q_shrm, q_shlm, q_a31s, q_a1, q_a3, q_a7, q_a65535, q_div, q_rem2, z_mm, nI_clamp, Nat.reduceMul, Nat.reduceAdd, Nat.reduceSub, Nat.reducePow, Nat.reduceMod, Nat.reduceDiv, Nat.one_mul]; with_reducible rfl)) (by omega) (by first | decide | omega) ?_
  rw [hm]
  refine e_F (by simp (disch := omega) only [q_lit, q_ofn, nI_add, q_mul, q_sub, q_shrm, q_shlm, q_a31s, q_a1, q_a3, q_a7, q_a65535, q_div, q_rem2, z_mm, nI_clamp, Nat.reduceMul, Nat.reduceAdd, Nat.reduceSub, Nat.reducePow, Nat.reduceMod, Nat.reduceDiv, Nat.one_mul, nI_ltI, nI_leI, nI_eq, q_b0, q_b1, q_m1lt, q_m1le, q_ltm1, q_lem1, q_eqm1, q_m1eq, not_true_eq_false, not_false_eq_true, reduceCtorEq, *] <;> first | omega | decide) ?_
  refine e_I (i := M) (by first | (with_reducible rfl) | (simp (disch := omega) only [q_lit, q_ofn, nI_add, q_mul, q_sub, q_shrm, q_shlm, q_a31s, q_a1, q_a3, q_a7, q_a65535, q_div, q_rem2, z_mm, nI_clamp, Nat.reduceMul, Nat.reduceAdd, Nat.reduceSub, Nat.reducePow, Nat.reduceMod, Nat.reduceDiv, Nat.one_mul]; done) | (simp (disch := omega) only [q_lit, q_ofn, nI_add, q_mul, q_sub, q_shrm, q_shlm, q_a31s, q_a1, q_a3, q_a7, q_a65535, q_div, q_rem2, z_mm, nI_clamp, Nat.reduceMul, Nat.reduceAdd, Nat.reduceSub, Nat.reducePow, Nat.reduceMod, Nat.reduceDiv, Nat.one_mul]; with_reducible rfl)) (by omega) (by first | decide | omega) ?_
  rw [hm]
  refine e_F (by simp (disch := omega) only [q_lit, q_ofn, nI_add, q_mul, q_sub, q_shrm, q_shlm, q_a31s, q_a1, q_a3, q_a7, q_a65535, q_div, q_rem2, z_mm, nI_clamp, Nat.reduceMul, Nat.reduceAdd, Nat.reduceSub, Nat.reducePow, Nat.reduceMod, Nat.reduceDiv, Nat.one_mul, nI_ltI, nI_leI, nI_eq, q_b0, q_b1, q_m1lt, q_m1le, q_ltm1, q_lem1, q_eqm1, q_m1eq, not_true_eq_false, not_false_eq_true, reduceCtorEq, *] <;> first | omega | decide) ?_
  refine e_I (i := M) (by first | (with_reducible rfl) | (simp (disch := omega) only [q_lit, q_ofn, nI_add, q_mul, q_sub, q_shrm, q_shlm, q_a31s, q_a1, q_a3, q_a7, q_a65535, q_div, q_rem2, z_mm, nI_clamp, Nat.reduceMul, Nat.reduceAdd, Nat.reduceSub, Nat.reducePow, Nat.reduceMod, Nat.reduceDiv, Nat.one_mul]; done) | (simp (disch := omega) only [q_lit, q_ofn, nI_add, q_mul, q_sub, q_shrm, q_shlm, q_a31s, q_a1, q_a3, q_a7, q_a65535, q_div, q_rem2, z_mm, nI_clamp, Nat.reduceMul, Nat.reduceAdd, Nat.reduceSub, Nat.reducePow, Nat.reduceMod, Nat.reduceDiv, Nat.one_mul]; with_reducible rfl)) (by omega) (by first | decide | omega) ?_
  rw [hm]
  refine e_L ?_
  rw [show nI M * (3 : Int32) + nI t = nI (3 * M + t) by rw [show (3 : Int32) = nI 3 from rfl, q_mul, nI_add, Nat.mul_comm]]
  refine e_C (i := 3 * M + t) (by first | (with_reducible rfl) | (simp (disch := omega) only [q_lit, q_ofn, nI_add, q_mul, q_sub, q_shrm, q_shlm, q_a31s, q_a1, q_a3, q_a7, q_a65535, q_div, q_rem2, z_mm, nI_clamp, Nat.reduceMul, Nat.reduceAdd, Nat.reduceSub, Nat.reducePow, Nat.reduceMod, Nat.reduceDiv, Nat.one_mul]; done) | (simp (disch := omega) only [q_lit, q_ofn, nI_add, q_mul, q_sub, q_shrm, q_shlm, q_a31s, q_a1, q_a3, q_a7, q_a65535, q_div, q_rem2, z_mm, nI_clamp, Nat.reduceMul, Nat.reduceAdd, Nat.reduceSub, Nat.reducePow, Nat.reduceMod, Nat.reduceDiv, Nat.one_mul]; with_reducible rfl)) (by omega) (by first | decide | omega) ?_
  refine e_C (i := 3 * M + t) (by first | (with_reducible rfl) | (simp (disch := omega) only [q_lit, q_ofn, nI_add, q_mul, q_sub, q_shrm, q_shlm, q_a31s, q_a1, q_a3, q_a7, q_a65535, q_div, q_rem2, z_mm, nI_clamp, Nat.reduceMul, Nat.reduceAdd, Nat.reduceSub, Nat.reducePow, Nat.reduceMod, Nat.reduceDiv, Nat.one_mul]; done) | (simp (disch := omega) only [q_lit, q_ofn, nI_add, q_mul, q_sub, q_shrm, q_shlm, q_a31s, q_a1, q_a3, q_a7, q_a65535, q_div, q_rem2, z_mm, nI_clamp, Nat.reduceMul, Nat.reduceAdd, Nat.reduceSub, Nat.reducePow, Nat.reduceMod, Nat.reduceDiv, Nat.one_mul]; with_reducible rfl)) (by omega) (by first | decide | omega) ?_
  refine e_I (i := M) (by first | (with_reducible rfl) | (simp (disch := omega) only [q_lit, q_ofn, nI_add, q_mul, q_sub, q_shrm, q_shlm, q_a31s, q_a1, q_a3, q_a7, q_a65535, q_div, q_rem2, z_mm, nI_clamp, Nat.reduceMul, Nat.reduceAdd, Nat.reduceSub, Nat.reducePow, Nat.reduceMod, Nat.reduceDiv, Nat.one_mul]; done) | (simp (disch := omega) only [q_lit, q_ofn, nI_add, q_mul, q_sub, q_shrm, q_shlm, q_a31s, q_a1, q_a3, q_a7, q_a65535, q_div, q_rem2, z_mm, nI_clamp, Nat.reduceMul, Nat.reduceAdd, Nat.reduceSub, Nat.reducePow, Nat.reduceMod, Nat.reduceDiv, Nat.one_mul]; with_reducible rfl)) (by omega) (by first | decide | omega) ?_
  rw [hm]
  refine e_L ?_
  refine e_C (i := M) (by first | (with_reducible rfl) | (simp (disch := omega) only [q_lit, q_ofn, nI_add, q_mul, q_sub, q_shrm, q_shlm, q_a31s, q_a1, q_a3, q_a7, q_a65535, q_div, q_rem2, z_mm, nI_clamp, Nat.reduceMul, Nat.reduceAdd, Nat.reduceSub, Nat.reducePow, Nat.reduceMod, Nat.reduceDiv, Nat.one_mul]; done) | (simp (disch := omega) only [q_lit, q_ofn, nI_add, q_mul, q_sub, q_shrm, q_shlm, q_a31s, q_a1, q_a3, q_a7, q_a65535, q_div, q_rem2, z_mm, nI_clamp, Nat.reduceMul, Nat.reduceAdd, Nat.reduceSub, Nat.reducePow, Nat.reduceMod, Nat.reduceDiv, Nat.one_mul]; with_reducible rfl)) (by omega) (by first | decide | omega) ?_
  rw [nI_clamp (by omega), nI_clamp (by omega)]
  simp only [q_lit, nI_add]
theorem t_readTerm {c : Nat → Nat} {n m j P M t : Nat} {cs ps : Int32} {cf pf nf sf mf : Nat → Int32} (h : z_tk c n m cs ps cf pf) (hj : j ≤ m) (hP : P ≤ 3) (hM : M < 5) (ht : t < 3) (hm : mf M = nI t) : f_Rd_readTerm 241 (nI j) cs (nI P) (nI M) cf nf sf mf = some (if (z_tm P M (z_C c n) j).1 = true then (nI 1, nI (j + 2), upd nf (3 * M + t) (nI (z_C c n (j + 1))), upd sf (3 * M + t) (nI (z_C c n j - 21)), upd mf M (nI (t + 1))) else (nI 0, nI (z_tm P M (z_C c n) j).2, nf, sf, mf)) := by
  have hr := z_C_rng c n j
  have hm240 := h.1
  unfold f_Rd_readTerm
  rw [(z_tk_at h hj).1, q_B]
  by_cases h1 : 21 ≤ z_C c n j ∧ z_C c n j ≤ 28
  · have e0 : z_cI (z_C c n j) = nI (z_C c n j) := by unfold z_cI; rw [if_neg (by omega)]
    have hj1 := z_tk_next h hj (by omega)
    rw [e0]
    refine e_F (by simp (disch := omega) only [q_lit, q_ofn, nI_add, q_mul, q_sub, q_shrm, q_shlm, q_a31s, q_a1, q_a3, q_a7, q_a65535, q_div, q_rem2, z_mm, nI_clamp, Nat.reduceMul, Nat.reduceAdd, Nat.reduceSub, Nat.reducePow, Nat.reduceMod, Nat.reduceDiv, Nat.one_mul, nI_ltI, nI_leI, nI_eq, q_b0, q_b1, q_m1lt, q_m1le, q_ltm1, q_lem1, q_eqm1, q_m1eq, not_true_eq_false, not_false_eq_true, reduceCtorEq, *] <;> first | omega | decide) ?_
    refine e_T (by simp (disch := omega) only [q_lit, q_ofn, nI_add, q_mul, q_sub, q_shrm, q_shlm, q_a31s, q_a1, q_a3, q_a7, q_a65535, q_div, q_rem2, z_mm, nI_clamp, Nat.reduceMul, Nat.reduceAdd, Nat.reduceSub, Nat.reducePow, Nat.reduceMod, Nat.reduceDiv, Nat.one_mul, nI_ltI, nI_leI, nI_eq, q_b0, q_b1, q_m1lt, q_m1le, q_ltm1, q_lem1, q_eqm1, q_m1eq, not_true_eq_false, not_false_eq_true, reduceCtorEq, *] <;> first | omega | decide) ?_
    refine e_L ?_
    rw [show nI j + 1 = nI (j + 1) by simp only [q_lit, nI_add]]
    rw [t_takeNum h hj1 (by omega) (by omega) hP (by omega), q_B]
    unfold z_tm
    rw [if_pos h1]
    by_cases h2 : z_nok (z_C c n j) P M (z_C c n (j + 1)) = true
    · have hv := (z_nok_t h2).2.1
      rw [if_pos h2, if_pos h2]
      refine e_F (fun z => (q_eqm1 (by omega)).mp z) ?_
      rw [t_addTerm hM ht hm, q_B]
      rw [show (21 : Int32) = nI 21 from rfl, q_sub h1.1]
      rfl
    · rw [if_neg h2, if_neg h2]
      exact e_T rfl rfl
  · unfold z_tm
    rw [if_neg h1]
    by_cases h99 : z_C c n j = 99
    · rw [h99]
      exact e_T ((q_m1lt (by decide)).mpr trivial) rfl
    · have e0 : z_cI (z_C c n j) = nI (z_C c n j) := by unfold z_cI; rw [if_neg h99]
      rw [e0]
      exact e_T (by simp (disch := omega) only [q_lit, q_ofn, nI_add, q_mul, q_sub, q_shrm, q_shlm, q_a31s, q_a1, q_a3, q_a7, q_a65535, q_div, q_rem2, z_mm, nI_clamp, Nat.reduceMul, Nat.reduceAdd, Nat.reduceSub, Nat.reducePow, Nat.reduceMod, Nat.reduceDiv, Nat.one_mul, nI_ltI, nI_leI, nI_eq, q_b0, q_b1, q_m1lt, q_m1le, q_ltm1, q_lem1, q_eqm1, q_m1eq, not_true_eq_false, not_false_eq_true, reduceCtorEq, *] <;> first | omega | decide) rfl
/-- the spell that is being told, with t terms read -/
def z_pt (M : Nat) (sp : Nat → Nat → Nat) (C : Nat → Nat) (j t : Nat) (kf nf sf tf mf wf : Nat → Int32) : Prop := z_tol M sp kf nf sf tf mf wf ∧ kf M = nI (C j - 13) ∧ tf M = nI (C (j + 1)) ∧ mf M = nI t ∧ wf M = -nI 1 ∧ ∀ u, u < t → sf (3 * M + u) = nI (C (j + 3 + 3 * u) - 21) ∧ nf (3 * M + u) = nI (C (j + 4 + 3 * u))
theorem z_pt_add {P M j t : Nat} {sp : Nat → Nat → Nat} {C : Nat → Nat} {kf nf sf tf mf wf : Nat → Int32} (ok : z_ok P M sp) (h : z_pt M sp C j t kf nf sf tf mf wf) : z_pt M sp C j (t + 1) kf (upd nf (3 * M + t) (nI (C (j + 4 + 3 * t)))) (upd sf (3 * M + t) (nI (C (j + 3 + 3 * t) - 21))) tf (upd mf M (nI (t + 1))) wf := by
  obtain ⟨h1, h2, h3, h4, h5, h6⟩ := h
  refine ⟨?_, h2, h3, z_upd_s, h5, ?_⟩
  · intro s hs
    obtain ⟨a1, a2, a3, a4, a5⟩ := h1 s hs
    have b4 := (z_small ok hs).2.2.2.2.1
    refine ⟨a1, a2, ?_, a4, ?_⟩
    · rw [z_upd_n (by omega)]; exact a3
    · intro i hi
      rw [z_upd_n (by omega), z_upd_n (by omega)]
      exact a5 i hi
  · intro u hu
    by_cases hut : u = t
    · subst hut
      rw [z_upd_s, z_upd_s]
      exact ⟨rfl, rfl⟩
    · rw [z_upd_n (by omega), z_upd_n (by omega)]
      exact h6 u (by omega)
theorem t_terms {c : Nat → Nat} {n m j P M : Nat} {sp : Nat → Nat → Nat} {cs ps : Int32} {cf pf kf tf wf : Nat → Int32} (h : z_tk c n m cs ps cf pf) (ok : z_ok P M sp) (hM : M < 5) : ∀ r t k (nf sf mf : Nat → Int32), t + r = 3 → 1 ≤ t → r < k → j + 2 + 3 * t ≤ m → z_pt M sp (z_C c n) j t kf nf sf tf mf wf → wp (f_Rd_readSpell_L58 241 cs (nI P) (nI M) cf kf tf wf k (nI t) (nI (j + 2 + 3 * t)) nf sf mf) (fun q => match q with
    | .inl (a, nf', sf', mf') => (z_ts P M (z_C c n) j r t).1 = true ∧ a = nI (j + 2 + 3 * (z_ts P M (z_C c n) j r t).2.1) ∧ j + 2 + 3 * (z_ts P M (z_C c n) j r t).2.1 ≤ m ∧ z_pt M sp (z_C c n) j (z_ts P M (z_C c n) j r t).2.1 kf nf' sf' tf mf' wf
    | .inr q => (z_ts P M (z_C c n) j r t).1 = false ∧ q.1 = nI 0 ∧ q.2.1 = nI (z_ts P M (z_C c n) j r t).2.2 ∧ (z_ts P M (z_C c n) j r t).2.2 ≤ m) := by
  have hP := ok.2.1
  intro r
  induction r with
  | zero =>
    intro t k nf sf mf ht h1 hk hjm hp
    obtain ⟨k, rfl⟩ : ∃ k', k = k' + 1 := ⟨k - 1, by omega⟩
    rw [f_Rd_readSpell_L58]
    exact w_T (by simp (disch := omega) only [q_lit, q_ofn, nI_add, q_mul, q_sub, q_shrm, q_shlm, q_a31s, q_a1, q_a3, q_a7, q_a65535, q_div, q_rem2, z_mm, nI_clamp, Nat.reduceMul, Nat.reduceAdd, Nat.reduceSub, Nat.reducePow, Nat.reduceMod, Nat.reduceDiv, Nat.one_mul, nI_ltI, nI_leI, nI_eq, q_b0, q_b1, q_m1lt, q_m1le, q_ltm1, q_lem1, q_eqm1, q_m1eq, not_true_eq_false, not_false_eq_true, reduceCtorEq, *] <;> first | omega | decide) (w_some ⟨rfl, rfl, hjm, hp⟩)
  | succ r ih =>
    intro t k nf sf mf ht h1 hk hjm hp
    obtain ⟨k, rfl⟩ : ∃ k', k = k' + 1 := ⟨k - 1, by omega⟩
    rw [f_Rd_readSpell_L58]
    refine w_F (by simp (disch := omega) only [q_lit, q_ofn, nI_add, q_mul, q_sub, q_shrm, q_shlm, q_a31s, q_a1, q_a3, q_a7, q_a65535, q_div, q_rem2, z_mm, nI_clamp, Nat.reduceMul, Nat.reduceAdd, Nat.reduceSub, Nat.reducePow, Nat.reduceMod, Nat.reduceDiv, Nat.one_mul, nI_ltI, nI_leI, nI_eq, q_b0, q_b1, q_m1lt, q_m1le, q_ltm1, q_lem1, q_eqm1, q_m1eq, not_true_eq_false, not_false_eq_true, reduceCtorEq, *] <;> first | omega | decide) ?_
    refine w_F (by simp (disch := omega) only [q_lit, q_ofn, nI_add, q_mul, q_sub, q_shrm, q_shlm, q_a31s, q_a1, q_a3, q_a7, q_a65535, q_div, q_rem2, z_mm, nI_clamp, Nat.reduceMul, Nat.reduceAdd, Nat.reduceSub, Nat.reducePow, Nat.reduceMod, Nat.reduceDiv, Nat.one_mul, nI_ltI, nI_leI, nI_eq, q_b0, q_b1, q_m1lt, q_m1le, q_ltm1, q_lem1, q_eqm1, q_m1eq, not_true_eq_false, not_false_eq_true, reduceCtorEq, *] <;> first | omega | decide) ?_
    refine w_Be (t_takes (wd := 19) h hjm (by decide)) ?_
    unfold z_ts
    by_cases c1 : z_C c n (j + 2 + 3 * t) = 19
    · have hj1 := z_tk_next h hjm (by omega)
      rw [if_pos c1, if_pos c1]
      refine w_F (by decide) ?_
      unfold f_Rd_readSpell_J76
      rw [show j + 2 + 3 * t + 1 = j + 3 + 3 * t by omega] at hj1 ⊢
      refine w_Be (t_readTerm h hj1 hP hM (by omega) hp.2.2.2.1) ?_
      by_cases c2 : (z_tm P M (z_C c n) (j + 3 + 3 * t)).1 = true
      · obtain ⟨b1, b2, b3, b4⟩ := z_tm_t c2
        have hv := (z_nok_t b3).2.1
        have hj2 := z_tk_next h hj1 (by omega)
        have hj3 := z_tk_next h hj2 (by omega)
        rw [if_pos c2, if_pos c2]
        refine w_F (by decide) ?_
        refine w_Ln (w := nI (t + 1)) (by first | (with_reducible rfl) | (simp (disch := omega) only [q_lit, q_ofn, nI_add, q_mul, q_sub, q_shrm, q_shlm, q_a31s, q_a1, q_a3, q_a7, q_a65535, q_div, q_rem2, z_mm, nI_clamp, Nat.reduceMul, Nat.reduceAdd, Nat.reduceSub, Nat.reducePow, Nat.reduceMod, Nat.reduceDiv, Nat.one_mul]; done) | (simp (disch := omega) only [q_lit, q_ofn, nI_add, q_mul, q_sub, q_shrm, q_shlm, q_a31s, q_a1, q_a3, q_a7, q_a65535, q_div, q_rem2, z_mm, nI_clamp, Nat.reduceMul, Nat.reduceAdd, Nat.reduceSub, Nat.reducePow, Nat.reduceMod, Nat.reduceDiv, Nat.one_mul]; with_reducible rfl)) ?_
        have hp2 := z_pt_add ok hp
        have g := ih (t + 1) k _ _ _ (by omega) (by omega) (by omega) (by omega) hp2
        rw [show j + 3 + 3 * t + 1 = j + 4 + 3 * t by omega, show j + 3 + 3 * t + 2 = j + 2 + 3 * (t + 1) by omega]
        exact g
      · rw [if_neg c2, if_neg c2]
        refine w_T rfl (w_some ⟨rfl, rfl, rfl, ?_⟩)
        show (z_tm P M (z_C c n) (j + 3 + 3 * t)).2 ≤ m
        unfold z_tm at c2 ⊢
        by_cases h1 : 21 ≤ z_C c n (j + 3 + 3 * t) ∧ z_C c n (j + 3 + 3 * t) ≤ 28
        · have hj2 := z_tk_next h hj1 (by omega)
          rw [if_pos h1] at c2 ⊢
          by_cases h2 : z_nok (z_C c n (j + 3 + 3 * t)) P M (z_C c n (j + 3 + 3 * t + 1)) = true
          · rw [if_pos h2] at c2; exact absurd rfl c2
          · rw [if_neg h2]; exact hj2
        · rw [if_neg h1]; exact hj1
    · rw [if_neg c1, if_neg c1]
      exact w_T rfl (w_some ⟨rfl, rfl, hjm, hp⟩)
