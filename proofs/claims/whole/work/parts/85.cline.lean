/-! the class reads lines -/
theorem z_tm_m {c : Nat → Nat} {n m j P M : Nat} {cs ps : Int32} {cf pf : Nat → Int32} (h : z_tk c n m cs ps cf pf) (hj : j ≤ m) (hf : ¬ (z_tm P M (z_C c n) j).1 = true) : (z_tm P M (z_C c n) j).2 ≤ m := by
  unfold z_tm at hf ⊢
  by_cases h1 : 21 ≤ z_C c n j ∧ z_C c n j ≤ 28
  · have hj2 := z_tk_next h hj (by omega)
    rw [if_pos h1] at hf ⊢
    by_cases h2 : z_nok (z_C c n j) P M (z_C c n (j + 1)) = true
    · rw [if_pos h2] at hf; exact absurd rfl hf
    · rw [if_neg h2]; exact hj2
  · rw [if_neg h1]; exact hj
theorem t_beginSpell {M : Nat} {kf tf mf wf : Nat → Int32} {a b : Int32} (hM : M < 5) : f_To_beginSpell (nI M) kf tf mf wf a b = some (upd kf M a, upd tf M b, upd mf M (nI 0), upd wf M (-nI 1)) := by
  unfold f_To_beginSpell
  rw [t_isFull (by omega), q_B, decide_eq_false (by omega)]
  refine e_T (by decide) ?_
  refine e_C (i := M) (by first | (with_reducible rfl) | (simp (disch := omega) only [q_lit, q_ofn, nI_add, q_mul, q_sub, q_shrm, q_shlm, q_a31s, q_a1, q_a3, q_a7, q_a65535, q_div, q_rem2, z_mm, nI_clamp, Nat.reduceMul, Nat.reduceAdd, Nat.reduceSub, Nat.reducePow, Nat.reduceMod, Nat.reduceDiv, Nat.one_mul]; done) | (simp (disch := omega) only [q_lit, q_ofn, nI_add, q_mul, q_sub, q_shrm, q_shlm, q_a31s, q_a1, q_a3, q_a7, q_a65535, q_div, q_rem2, z_mm, nI_clamp, Nat.reduceMul, Nat.reduceAdd, Nat.reduceSub, Nat.reducePow, Nat.reduceMod, Nat.reduceDiv, Nat.one_mul]; with_reducible rfl)) (by omega) (by first | decide | omega) ?_
  refine e_C (i := M) (by first | (with_reducible rfl) | (simp (disch := omega) only [q_lit, q_ofn, nI_add, q_mul, q_sub, q_shrm, q_shlm, q_a31s, q_a1, q_a3, q_a7, q_a65535, q_div, q_rem2, z_mm, nI_clamp, Nat.reduceMul, Nat.reduceAdd, Nat.reduceSub, Nat.reducePow, Nat.reduceMod, Nat.reduceDiv, Nat.one_mul]; done) | (simp (disch := omega) only [q_lit, q_ofn, nI_add, q_mul, q_sub, q_shrm, q_shlm, q_a31s, q_a1, q_a3, q_a7, q_a65535, q_div, q_rem2, z_mm, nI_clamp, Nat.reduceMul, Nat.reduceAdd, Nat.reduceSub, Nat.reducePow, Nat.reduceMod, Nat.reduceDiv, Nat.one_mul]; with_reducible rfl)) (by omega) (by first | decide | omega) ?_
  refine e_C (i := M) (by first | (with_reducible rfl) | (simp (disch := omega) only [q_lit, q_ofn, nI_add, q_mul, q_sub, q_shrm, q_shlm, q_a31s, q_a1, q_a3, q_a7, q_a65535, q_div, q_rem2, z_mm, nI_clamp, Nat.reduceMul, Nat.reduceAdd, Nat.reduceSub, Nat.reducePow, Nat.reduceMod, Nat.reduceDiv, Nat.one_mul]; done) | (simp (disch := omega) only [q_lit, q_ofn, nI_add, q_mul, q_sub, q_shrm, q_shlm, q_a31s, q_a1, q_a3, q_a7, q_a65535, q_div, q_rem2, z_mm, nI_clamp, Nat.reduceMul, Nat.reduceAdd, Nat.reduceSub, Nat.reducePow, Nat.reduceMod, Nat.reduceDiv, Nat.one_mul]; with_reducible rfl)) (by omega) (by first | decide | omega) ?_
  refine e_C (i := M) (by first | (with_reducible rfl) | (simp (disch := omega) only [q_lit, q_ofn, nI_add, q_mul, q_sub, q_shrm, q_shlm, q_a31s, q_a1, q_a3, q_a7, q_a65535, q_div, q_rem2, z_mm, nI_clamp, Nat.reduceMul, Nat.reduceAdd, Nat.reduceSub, Nat.reducePow, Nat.reduceMod, Nat.reduceDiv, Nat.one_mul]; done) | (simp (disch := omega) only [q_lit, q_ofn, nI_add, q_mul, q_sub, q_shrm, q_shlm, q_a31s, q_a1, q_a3, q_a7, q_a65535, q_div, q_rem2, z_mm, nI_clamp, Nat.reduceMul, Nat.reduceAdd, Nat.reduceSub, Nat.reducePow, Nat.reduceMod, Nat.reduceDiv, Nat.one_mul]; with_reducible rfl)) (by omega) (by first | decide | omega) ?_
  rw [nI_clamp (by omega)]
  rfl
theorem t_endSpell {M : Nat} {wf : Nat → Int32} {a : Int32} (hM : M < 5) : f_To_endSpell (nI M) wf a = some (nI (M + 1), upd wf M a) := by
  unfold f_To_endSpell
  rw [t_isFull (by omega), q_B, decide_eq_false (by omega)]
  refine e_T (by decide) ?_
  refine e_C (i := M) (by first | (with_reducible rfl) | (simp (disch := omega) only [q_lit, q_ofn, nI_add, q_mul, q_sub, q_shrm, q_shlm, q_a31s, q_a1, q_a3, q_a7, q_a65535, q_div, q_rem2, z_mm, nI_clamp, Nat.reduceMul, Nat.reduceAdd, Nat.reduceSub, Nat.reducePow, Nat.reduceMod, Nat.reduceDiv, Nat.one_mul]; done) | (simp (disch := omega) only [q_lit, q_ofn, nI_add, q_mul, q_sub, q_shrm, q_shlm, q_a31s, q_a1, q_a3, q_a7, q_a65535, q_div, q_rem2, z_mm, nI_clamp, Nat.reduceMul, Nat.reduceAdd, Nat.reduceSub, Nat.reducePow, Nat.reduceMod, Nat.reduceDiv, Nat.one_mul]; with_reducible rfl)) (by omega) (by first | decide | omega) ?_
  refine e_L ?_
  rw [nI_clamp (by omega)]
  simp only [q_lit, nI_add]
/-- the spell is whole -/
theorem z_pt_end {P M j nt : Nat} {sp : Nat → Nat → Nat} {C : Nat → Nat} {kf nf sf tf mf wf : Nat → Int32} {w : Int32} (ok : z_ok P M sp) (h : z_pt M sp C j nt kf nf sf tf mf wf) (hnt : nt ≤ 3) (hw : w = if (if C (j + 2 + 3 * nt) = 20 then C (j + 3 + 3 * nt) + 1 else 0) = 0 then -nI 1 else nI ((if C (j + 2 + 3 * nt) = 20 then C (j + 3 + 3 * nt) + 1 else 0) - 1)) : z_tol (M + 1) (z_apS M sp (z_srec C j nt)) kf nf sf tf mf (upd wf M w) := by
  obtain ⟨h1, h2, h3, h4, h5, h6⟩ := h
  intro s hs
  by_cases hsM : s = M
  · subst hsM
    have hsp : z_apS s sp (z_srec C j nt) s = z_srec C j nt := if_pos rfl
    rw [hsp, z_upd_s]
    refine ⟨h2, h3, h4, hw, ?_⟩
    intro i hi
    have hi : i < nt := hi
    unfold z_srec
    rw [(z_rec_so (by omega)).1, (z_rec_so (by omega)).2]
    exact h6 i hi
  · have hsp : z_apS M sp (z_srec C j nt) s = sp s := if_neg hsM
    rw [hsp, z_upd_n hsM]
    exact h1 s (by omega)
/-- a line of a spell, as the class reads it: answer, at, spells, kinds, numbers, sorts, targets, terms, wakes -/
def z_spQ (P M m : Nat) (sp : Nat → Nat → Nat) (C : Nat → Nat) (j : Nat) (q : Int32 × Int32 × Int32 × (Nat → Int32) × (Nat → Int32) × (Nat → Int32) × (Nat → Int32) × (Nat → Int32) × (Nat → Int32)) : Prop := (q.2.1 = nI (z_sp P M C j).2.1 ∧ (z_sp P M C j).2.1 ≤ m) ∧ (((z_sp P M C j).1 = true ∧ q.1 = nI 1 ∧ q.2.2.1 = nI (M + 1) ∧ z_tol (M + 1) (z_apS M sp (z_srec C j (z_sp P M C j).2.2)) q.2.2.2.1 q.2.2.2.2.1 q.2.2.2.2.2.1 q.2.2.2.2.2.2.1 q.2.2.2.2.2.2.2.1 q.2.2.2.2.2.2.2.2) ∨ ((z_sp P M C j).1 = false ∧ q.1 = nI 0))
theorem t_readSpell {c : Nat → Nat} {n m j P M k : Nat} {sp : Nat → Nat → Nat} {cs ps : Int32} {cf pf kf nf sf tf mf wf : Nat → Int32} (h : z_tk c n m cs ps cf pf) (ok : z_ok P M sp) (hj : j ≤ m) (hw1 : 13 ≤ z_C c n j) (hw2 : z_C c n j ≤ 16) (ht : z_tol M sp kf nf sf tf mf wf) (hk : 20 ≤ k) : wp (f_Rd_readSpell k 241 (nI j) cs (nI P) (nI M) cf kf nf sf tf mf wf (nI (z_C c n j))) (z_spQ P M m sp (z_C c n) j) := by
  have hP := ok.2.1
  have hM := ok.2.2.1
  have hj1 := z_tk_next h hj (by omega)
  unfold f_Rd_readSpell
  refine w_Be (t_isFull hM) ?_
  have fail : ∀ (a : Nat) (z : Nat) (x3 x4 x5 x6 x7 x8 : Nat → Int32) (y : Int32), z_sp P M (z_C c n) j = (false, a, z) → a ≤ m → wp (some (nI 0, nI a, y, x3, x4, x5, x6, x7, x8)) (z_spQ P M m sp (z_C c n) j) := by
    intro a z x3 x4 x5 x6 x7 x8 y e ha
    refine w_some ?_
    unfold z_spQ
    rw [e]
    exact ⟨⟨rfl, ha⟩, Or.inr ⟨rfl, rfl⟩⟩
  by_cases c1 : M = 5
  · rw [decide_eq_true c1]
    refine w_F (by decide) ?_
    exact fail j 0 _ _ _ _ _ _ _ (by unfold z_sp; rw [if_pos c1]) hj
  rw [decide_eq_false c1]
  refine w_T (by decide) ?_
  refine w_Ln (w := nI (j + 1)) (by first | (with_reducible rfl) | (simp (disch := omega) only [q_lit, q_ofn, nI_add, q_mul, q_sub, q_shrm, q_shlm, q_a31s, q_a1, q_a3, q_a7, q_a65535, q_div, q_rem2, z_mm, nI_clamp, Nat.reduceMul, Nat.reduceAdd, Nat.reduceSub, Nat.reducePow, Nat.reduceMod, Nat.reduceDiv, Nat.one_mul]; done) | (simp (disch := omega) only [q_lit, q_ofn, nI_add, q_mul, q_sub, q_shrm, q_shlm, q_a31s, q_a1, q_a3, q_a7, q_a65535, q_div, q_rem2, z_mm, nI_clamp, Nat.reduceMul, Nat.reduceAdd, Nat.reduceSub, Nat.reducePow, Nat.reduceMod, Nat.reduceDiv, Nat.one_mul]; with_reducible rfl)) ?_
  refine w_Be (t_takeNum h hj1 (by omega) (by omega) hP hM) ?_
  by_cases c2 : z_nok (z_C c n j) P M (z_C c n (j + 1)) = false
  · rw [c2]
    refine w_T rfl ?_
    exact fail (j + 1) 0 _ _ _ _ _ _ _ (by unfold z_sp; rw [if_neg c1, if_pos c2]) hj1
  have c2t := z_bt c2
  have hv := (z_nok_t c2t).2.1
  have hj2 := z_tk_next h hj1 (by omega)
  rw [if_pos c2t]
  refine w_F (fun z => (q_eqm1 (by omega)).mp z) ?_
  refine w_Be (t_takes (wd := 18) h hj2 (by decide)) ?_
  by_cases c3 : z_C c n (j + 2) ≠ 18
  · rw [if_neg c3]
    refine w_T rfl ?_
    exact fail (j + 2) 0 _ _ _ _ _ _ _ (by unfold z_sp; rw [if_neg c1, if_neg c2, if_pos c3]) hj2
  have c3' : z_C c n (j + 1 + 1) = 18 := Decidable.of_not_not c3
  have hj3 := z_tk_next h hj2 (by omega)
  rw [if_pos c3']
  refine w_F (by decide) ?_
  refine w_Be (t_beginSpell (by omega)) ?_
  have hp0 : z_pt M sp (z_C c n) j 0 (upd kf M (nI (z_C c n j) - 13)) nf sf (upd tf M (nI (z_C c n (j + 1)))) (upd mf M (nI 0)) (upd wf M (-nI 1)) := by
    refine ⟨?_, ?_, z_upd_s, z_upd_s, z_upd_s, fun u hu => by omega⟩
    · intro s hs
      have : s ≠ M := by omega
      simp only [z_upd_n this]
      exact ht s hs
    · rw [z_upd_s, show (13 : Int32) = nI 13 from rfl, q_sub hw1]
  refine w_Sw (R := fun q => match q with
    | .inl (a, nf', sf', mf') => (z_tm P M (z_C c n) (j + 3)).1 = true ∧ (z_ts P M (z_C c n) j 2 1).1 = true ∧ a = nI (j + 2 + 3 * (z_ts P M (z_C c n) j 2 1).2.1) ∧ j + 2 + 3 * (z_ts P M (z_C c n) j 2 1).2.1 ≤ m ∧ z_pt M sp (z_C c n) j (z_ts P M (z_C c n) j 2 1).2.1 (upd kf M (nI (z_C c n j) - 13)) nf' sf' (upd tf M (nI (z_C c n (j + 1)))) mf' (upd wf M (-nI 1))
    | .inr q => q.1 = nI 0 ∧ ∃ a, q.2.1 = nI a ∧ a ≤ m ∧ (((z_tm P M (z_C c n) (j + 3)).1 = false ∧ a = (z_tm P M (z_C c n) (j + 3)).2) ∨ ((z_tm P M (z_C c n) (j + 3)).1 = true ∧ (z_ts P M (z_C c n) j 2 1).1 = false ∧ a = (z_ts P M (z_C c n) j 2 1).2.2))) ?_ ?_ ?_
  · obtain ⟨k, rfl⟩ : ∃ k', k = k' + 1 := ⟨k - 1, by omega⟩
    rw [f_Rd_readSpell_L58]
    refine w_F (by decide) ?_
    refine w_T rfl ?_
    unfold f_Rd_readSpell_J76
    refine w_Be (t_readTerm h hj3 hP (by omega) (by decide) hp0.2.2.2.1) ?_
    rw [show j + 1 + 1 + 1 = j + 3 by omega] at hj3 ⊢
    by_cases c4 : (z_tm P M (z_C c n) (j + 3)).1 = true
    · obtain ⟨b1, b2, b3, b4⟩ := z_tm_t c4
      have hv := (z_nok_t b3).2.1
      have hj4 := z_tk_next h hj3 (by omega)
      have hj5 := z_tk_next h hj4 (by omega)
      rw [if_pos c4]
      refine w_F (by decide) ?_
      refine w_Ln (w := nI 1) rfl ?_
      have hp1 := z_pt_add ok hp0
      refine w_mono (t_terms (j := j) h ok (by omega) 2 1 k _ _ _ (by omega) (by omega) (by omega) (by omega) hp1) (fun q hq => ?_)
      match q, hq with
      | .inl (a, nf', sf', mf'), hq => exact ⟨c4, hq⟩
      | .inr q, hq => exact ⟨hq.2.1, _, hq.2.2.1, hq.2.2.2, Or.inr ⟨c4, hq.1, rfl⟩⟩
    · rw [if_neg c4]
      refine w_T rfl (w_some ?_)
      exact ⟨rfl, _, rfl, z_tm_m h hj3 c4, Or.inl ⟨by cases hz : (z_tm P M (z_C c n) (j + 3)).1; rfl; exact absurd hz c4, rfl⟩⟩
  · intro q hq
    obtain ⟨a, nf', sf', mf'⟩ := q
    obtain ⟨c4, c5, rfl, ha, hp⟩ := hq
    obtain ⟨a1, a2, a3⟩ := z_ts_t 2 1 (by omega) c5
    unfold f_Rd_readSpell_J91
    refine w_Be (t_takes (wd := 20) h ha (by decide)) ?_
    have base : z_sp P M (z_C c n) j = if z_C c n (j + 2 + 3 * (z_ts P M (z_C c n) j 2 1).2.1) = 20 then (if z_nok 20 P M (z_C c n (j + 3 + 3 * (z_ts P M (z_C c n) j 2 1).2.1)) = true then (true, j + 4 + 3 * (z_ts P M (z_C c n) j 2 1).2.1, (z_ts P M (z_C c n) j 2 1).2.1) else (false, j + 3 + 3 * (z_ts P M (z_C c n) j 2 1).2.1, 0)) else (true, j + 2 + 3 * (z_ts P M (z_C c n) j 2 1).2.1, (z_ts P M (z_C c n) j 2 1).2.1) := by
      unfold z_sp
      rw [if_neg c1, if_neg c2, if_neg c3, if_neg (by rw [c4]; decide), if_neg (by rw [c5]; decide)]
    unfold f_Rd_readSpell_J116
    by_cases c6 : z_C c n (j + 2 + 3 * (z_ts P M (z_C c n) j 2 1).2.1) = 20
    · have hj6 := z_tk_next h ha (by omega)
      rw [if_pos c6] at base ⊢
      refine w_F (by decide) ?_
      rw [show j + 2 + 3 * (z_ts P M (z_C c n) j 2 1).2.1 + 1 = j + 3 + 3 * (z_ts P M (z_C c n) j 2 1).2.1 by omega] at hj6 ⊢
      refine w_Be (t_takeNum (wd := 20) h hj6 (by decide) (by decide) hP hM) ?_
      by_cases c7 : z_nok 20 P M (z_C c n (j + 3 + 3 * (z_ts P M (z_C c n) j 2 1).2.1)) = true
      · have hv7 := (z_nok_t c7).2.1
        have hj7 := z_tk_next h hj6 (by omega)
        rw [if_pos c7] at base ⊢
        refine w_F (fun z => (q_eqm1 (by omega)).mp z) ?_
        refine w_Be (t_endSpell (by omega)) ?_
        refine w_some ?_
        unfold z_spQ
        rw [base]
        refine ⟨⟨?_, by show j + 4 + 3 * (z_ts P M (z_C c n) j 2 1).2.1 ≤ m; omega⟩, Or.inl ⟨rfl, rfl, rfl, ?_⟩⟩
        · show nI _ = nI _
          congr 1
          show j + 3 + 3 * (z_ts P M (z_C c n) j 2 1).2.1 + 1 = j + 4 + 3 * (z_ts P M (z_C c n) j 2 1).2.1
          omega
        · refine z_pt_end ok hp a2 ?_
          rw [if_pos c6, if_neg (by omega)]
          rfl
      · rw [if_neg c7] at base ⊢
        refine w_T rfl ?_
        exact fail _ _ _ _ _ _ _ _ _ base hj6
    · rw [if_neg c6] at base ⊢
      refine w_T rfl ?_
      refine w_Be (t_endSpell (by omega)) ?_
      refine w_some ?_
      unfold z_spQ
      rw [base]
      refine ⟨⟨rfl, ha⟩, Or.inl ⟨rfl, rfl, rfl, ?_⟩⟩
      refine z_pt_end ok hp a2 ?_
      rw [if_neg c6, if_pos rfl]
      rfl
  · intro q hq
    obtain ⟨q1, q2, q3, q4, q5, q6, q7, q8, q9⟩ := q
    obtain ⟨g1, a, g2, g3, g4⟩ := hq
    simp only at g1 g2
    subst g1; subst g2
    rcases g4 with ⟨g4, g5⟩ | ⟨g4, g5, g6⟩
    · refine fail a 0 _ _ _ _ _ _ _ ?_ g3
      unfold z_sp
      rw [if_neg c1, if_neg c2, if_neg c3, if_pos g4, g5]
    · refine fail a 0 _ _ _ _ _ _ _ ?_ g3
      unfold z_sp
      rw [if_neg c1, if_neg c2, if_neg c3, if_neg (by rw [g4]; decide), if_pos g5, g6]
/-! lines of all sorts -/
/-- whether, where it ends or fails, which line, its number, its spell -/
def z_li (P M : Nat) (C : Nat → Nat) (j : Nat) : Bool × Nat × Nat × Nat × (Nat → Nat) :=
  if 13 ≤ C j ∧ C j ≤ 16 then ((z_sp P M C j).1, (z_sp P M C j).2.1, C j - 12, C (j + 1), z_srec C j (z_sp P M C j).2.2) else
  if C j = 17 then (true, j + 1, 7, 0, fun _ => 0) else
  if C j = 12 ∨ C j = 23 ∨ C j = 26 then (if z_nok (C j) P M (C (j + 1)) = true then (true, j + 2, (if C j = 12 then 0 else if C j = 23 then 5 else 6), C (j + 1), fun _ => 0) else (false, j + 1, 0, 0, fun _ => 0))
  else (false, j, 0, 0, fun _ => 0)
abbrev zS : Type := Nat × Nat × Nat × Nat × (Nat → Nat → Nat)
def z_ap (S : zS) (lw a : Nat) (rc : Nat → Nat) : zS := if lw = 0 then (a, 0, 0, 0, S.2.2.2.2) else if lw = 5 then (S.1, S.2.1, a, S.2.2.2.1, S.2.2.2.2) else if lw = 6 then (S.1, S.2.1, S.2.2.1, S.2.2.2.1 ||| 2 ^ a, S.2.2.2.2) else if lw = 7 then (S.1, 0, S.2.2.1, S.2.2.2.1, S.2.2.2.2) else (S.1, S.2.1 + 1, S.2.2.1, S.2.2.2.1, z_apS S.2.1 S.2.2.2.2 rc)
def z_okL (S : zS) : Prop := z_ok S.1 S.2.1 S.2.2.2.2 ∧ S.2.2.1 < 7 ∧ S.2.2.2.1 < 4
theorem z_li_ok {S : zS} {C : Nat → Nat} {j : Nat} (ok : z_okL S) (h : (z_li S.1 S.2.1 C j).1 = true) : z_okL (z_ap S (z_li S.1 S.2.1 C j).2.2.1 (z_li S.1 S.2.1 C j).2.2.2.1 (z_li S.1 S.2.1 C j).2.2.2.2) := by
  obtain ⟨P, M, dy, br, sp⟩ := S
  obtain ⟨ok1, ok2, ok3⟩ := ok
  simp only at ok1 ok2 ok3 h ⊢
  unfold z_li at h ⊢
  by_cases h1 : 13 ≤ C j ∧ C j ≤ 16
  · rw [if_pos h1] at h ⊢
    obtain ⟨a1, a2, a3, a4⟩ := z_sp_ok ok1 h1.1 h1.2 h
    unfold z_ap
    simp only
    rw [if_neg (by omega), if_neg (by omega), if_neg (by omega), if_neg (by omega)]
    exact ⟨a2, ok2, ok3⟩
  rw [if_neg h1] at h ⊢
  have bare : ∀ dy br, dy < 7 → br < 4 → z_okL (P, 0, dy, br, sp) := fun dy br h1 h2 => ⟨⟨ok1.1, ok1.2.1, Nat.zero_le _, fun s hs => by have hs : s < 0 := hs; omega⟩, h1, h2⟩
  by_cases h2 : C j = 17
  · rw [if_pos h2]
    exact bare dy br ok2 ok3
  rw [if_neg h2] at h ⊢
  by_cases h3 : C j = 12 ∨ C j = 23 ∨ C j = 26
  · rw [if_pos h3] at h ⊢
    by_cases h4 : z_nok (C j) P M (C (j + 1)) = true
    · rw [if_pos h4]
      obtain ⟨d1, d2, d3⟩ := z_nok_t h4
      rcases h3 with h3 | h3 | h3
      · rw [h3] at d1 d3 ⊢
        simp [z_lim, z_lst] at d1 d3
        refine ⟨⟨d1, by show C (j + 1) ≤ 3; omega, Nat.zero_le _, fun s hs => by have hs : s < 0 := hs; omega⟩, by show 0 < 7; omega, by show 0 < 4; omega⟩
      · rw [h3] at d1 d3 ⊢
        simp [z_lim, z_lst] at d1 d3
        exact ⟨ok1, d3, ok3⟩
      · rw [h3] at d1 d3 ⊢
        simp [z_lim, z_lst] at d1 d3
        refine ⟨ok1, ok2, ?_⟩
        show br ||| 2 ^ C (j + 1) < 2 ^ 2
        exact Nat.or_lt_two_pow ok3 (Nat.pow_lt_pow_right (by decide) d3)
    · rw [if_neg h4] at h; cases h
  · rw [if_neg h3] at h; cases h
/-- the class's draft: broken, day, people, spells, kinds, numbers, sorts, targets, terms, wakes -/
def z_dr (S : zS) (q : Int32 × Int32 × Int32 × Int32 × (Nat → Int32) × (Nat → Int32) × (Nat → Int32) × (Nat → Int32) × (Nat → Int32) × (Nat → Int32)) : Prop := q.1 = nI S.2.2.2.1 ∧ q.2.1 = nI S.2.2.1 ∧ q.2.2.1 = nI S.1 ∧ q.2.2.2.1 = nI S.2.1 ∧ z_tol S.2.1 S.2.2.2.2 q.2.2.2.2.1 q.2.2.2.2.2.1 q.2.2.2.2.2.2.1 q.2.2.2.2.2.2.2.1 q.2.2.2.2.2.2.2.2.1 q.2.2.2.2.2.2.2.2.2
def z_lnQ (m : Nat) (S : zS) (L : Bool × Nat × Nat × Nat × (Nat → Nat)) (q : Int32 × Int32 × Int32 × Int32 × Int32 × Int32 × (Nat → Int32) × (Nat → Int32) × (Nat → Int32) × (Nat → Int32) × (Nat → Int32) × (Nat → Int32)) : Prop := q.2.1 = nI L.2.1 ∧ L.2.1 ≤ m ∧ ((L.1 = true ∧ q.1 = nI 1 ∧ z_dr (z_ap S L.2.2.1 L.2.2.2.1 L.2.2.2.2) q.2.2) ∨ (L.1 = false ∧ q.1 = nI 0))
theorem t_readLine {c : Nat → Nat} {n m j k : Nat} {S : zS} {cs ps : Int32} {cf pf kf nf sf tf mf wf : Nat → Int32} {vb vd vp vs : Int32} (h : z_tk c n m cs ps cf pf) (ok : z_okL S) (hj : j ≤ m) (hd : z_dr S (vb, vd, vp, vs, kf, nf, sf, tf, mf, wf)) (hk : 20 ≤ k) : wp (f_Rd_readLine k 241 (nI j) cs vb vd vp vs cf kf nf sf tf mf wf) (z_lnQ m S (z_li S.1 S.2.1 (z_C c n) j)) := by
  obtain ⟨P, M, dy, br, sp⟩ := S
  obtain ⟨ok1, ok2, ok3⟩ := ok
  obtain ⟨rfl, rfl, rfl, rfl, ht⟩ := hd
  simp only at ok1 ok2 ok3 ht ⊢
  have hP := ok1.2.1
  have hM := ok1.2.2.1
  have hr := z_C_rng c n j
  unfold f_Rd_readLine
  refine w_Be (z_tk_at h hj).1 ?_
  by_cases h1 : 13 ≤ z_C c n j ∧ z_C c n j ≤ 16
  · have e0 : z_cI (z_C c n j) = nI (z_C c n j) := by unfold z_cI; rw [if_neg (by omega)]
    have eL : z_li P M (z_C c n) j = ((z_sp P M (z_C c n) j).1, (z_sp P M (z_C c n) j).2.1, z_C c n j - 12, z_C c n (j + 1), z_srec (z_C c n) j (z_sp P M (z_C c n) j).2.2) := by unfold z_li; rw [if_pos h1]
    rw [e0, eL]
    refine w_F (by simp (disch := omega) only [q_lit, q_ofn, nI_add, q_mul, q_sub, q_shrm, q_shlm, q_a31s, q_a1, q_a3, q_a7, q_a65535, q_div, q_rem2, z_mm, nI_clamp, Nat.reduceMul, Nat.reduceAdd, Nat.reduceSub, Nat.reducePow, Nat.reduceMod, Nat.reduceDiv, Nat.one_mul, nI_ltI, nI_leI, nI_eq, q_b0, q_b1, q_m1lt, q_m1le, q_ltm1, q_lem1, q_eqm1, q_m1eq, not_true_eq_false, not_false_eq_true, reduceCtorEq, *] <;> first | omega | decide) ?_
    refine w_F (by simp (disch := omega) only [q_lit, q_ofn, nI_add, q_mul, q_sub, q_shrm, q_shlm, q_a31s, q_a1, q_a3, q_a7, q_a65535, q_div, q_rem2, z_mm, nI_clamp, Nat.reduceMul, Nat.reduceAdd, Nat.reduceSub, Nat.reducePow, Nat.reduceMod, Nat.reduceDiv, Nat.one_mul, nI_ltI, nI_leI, nI_eq, q_b0, q_b1, q_m1lt, q_m1le, q_ltm1, q_lem1, q_eqm1, q_m1eq, not_true_eq_false, not_false_eq_true, reduceCtorEq, *] <;> first | omega | decide) ?_
    refine w_Bw (t_readSpell h ok1 hj h1.1 h1.2 ht hk) (fun q hq => ?_)
    obtain ⟨q1, q2, q3, q4, q5, q6, q7, q8, q9⟩ := q
    obtain ⟨⟨g1, g2⟩, g3⟩ := hq
    refine w_some ⟨g1, g2, ?_⟩
    rcases g3 with ⟨g3, g4, g5, g6⟩ | ⟨g3, g4⟩
    · refine Or.inl ⟨g3, ?_, ?_⟩
      · show q1 &&& 1 = nI 1
        simp only at g4
        rw [g4]; decide
      · unfold z_ap
        simp only
        rw [if_neg (by omega), if_neg (by omega), if_neg (by omega), if_neg (by omega)]
        exact ⟨rfl, rfl, rfl, g5, g6⟩
    · refine Or.inr ⟨g3, ?_⟩
      show q1 &&& 1 = nI 0
      simp only at g4
      rw [g4]; decide
  have J30 : wp (f_Rd_readLine_J30 k 241 (nI j) cs (nI br) (nI dy) (nI P) (nI M) cf kf nf sf tf mf wf (z_cI (z_C c n j))) (z_lnQ m (P, M, dy, br, sp) (z_li P M (z_C c n) j)) := by
    unfold f_Rd_readLine_J30
    refine w_Be (t_takes (wd := 17) h hj (by decide)) ?_
    by_cases h2 : z_C c n j = 17
    · have hj1 := z_tk_next h hj (by omega)
      have eL : z_li P M (z_C c n) j = (true, j + 1, 7, 0, fun _ => 0) := by unfold z_li; rw [if_neg h1, if_pos h2]
      rw [if_pos h2, eL]
      refine w_F (by decide) ?_
      unfold f_To_tellBare
      refine w_Be rfl (w_some ⟨rfl, hj1, Or.inl ⟨rfl, rfl, rfl, rfl, rfl, rfl, ?_⟩⟩)
      intro s hs
      have hs : s < 0 := hs
      omega
    · rw [if_neg h2]
      refine w_T rfl ?_
      have J68 : (z_C c n j = 12 ∨ z_C c n j = 23 ∨ z_C c n j = 26) → wp (f_Rd_readLine_J68 k 241 (nI j) cs (nI br) (nI dy) (nI P) (nI M) cf kf nf sf tf mf wf (z_cI (z_C c n j))) (fun q => (z_nok (z_C c n j) P M (z_C c n (j + 1)) = true ∧ q.2.1 = nI (j + 2) ∧ j + 2 ≤ m ∧ q.1 = nI 1 ∧ z_dr (z_ap (P, M, dy, br, sp) (if z_C c n j = 12 then 0 else if z_C c n j = 23 then 5 else 6) (z_C c n (j + 1)) (fun _ => 0)) q.2.2) ∨ (¬ z_nok (z_C c n j) P M (z_C c n (j + 1)) = true ∧ q.2.1 = nI (j + 1) ∧ j + 1 ≤ m ∧ q.1 = nI 0)) := by
        intro h3
        have e0 : z_cI (z_C c n j) = nI (z_C c n j) := by unfold z_cI; rw [if_neg (by omega)]
        have hj1 := z_tk_next h hj (by omega)
        unfold f_Rd_readLine_J68
        rw [e0]
        refine w_Ln (w := nI (j + 1)) (by first | (with_reducible rfl) | (simp (disch := omega) only [q_lit, q_ofn, nI_add, q_mul, q_sub, q_shrm, q_shlm, q_a31s, q_a1, q_a3, q_a7, q_a65535, q_div, q_rem2, z_mm, nI_clamp, Nat.reduceMul, Nat.reduceAdd, Nat.reduceSub, Nat.reducePow, Nat.reduceMod, Nat.reduceDiv, Nat.one_mul]; done) | (simp (disch := omega) only [q_lit, q_ofn, nI_add, q_mul, q_sub, q_shrm, q_shlm, q_a31s, q_a1, q_a3, q_a7, q_a65535, q_div, q_rem2, z_mm, nI_clamp, Nat.reduceMul, Nat.reduceAdd, Nat.reduceSub, Nat.reducePow, Nat.reduceMod, Nat.reduceDiv, Nat.one_mul]; with_reducible rfl)) ?_
        refine w_Be (t_takeNum h hj1 (by omega) (by omega) hP hM) ?_
        by_cases h4 : z_nok (z_C c n j) P M (z_C c n (j + 1)) = true
        · have hv := (z_nok_t h4).2.1
          have hj2 := z_tk_next h hj1 (by omega)
          rw [if_pos h4]
          refine w_F (fun z => (q_eqm1 (by omega)).mp z) ?_
          by_cases k1 : z_C c n j = 12
          · refine w_T (by rw [k1]; rfl) ?_
            unfold f_To_tellPeople
            refine w_Be rfl (w_some (Or.inl ⟨h4, rfl, hj2, rfl, ?_⟩))
            rw [if_pos k1]
            refine ⟨rfl, rfl, rfl, rfl, ?_⟩
            intro s hs
            have hs : s < 0 := hs
            omega
          · refine w_F (by rw [q_lit, nI_eq (by omega) (by decide)]; exact k1) ?_
            rw [if_neg k1]
            by_cases k2 : z_C c n j = 23
            · refine w_T (by rw [k2]; rfl) ?_
              unfold f_To_tellDay
              refine w_Be rfl (w_some (Or.inl ⟨h4, rfl, hj2, rfl, ?_⟩))
              rw [if_pos k2]
              exact ⟨rfl, rfl, rfl, rfl, ht⟩
            · refine w_F (by rw [q_lit, nI_eq (by omega) (by decide)]; exact k2) ?_
              unfold f_To_tellBroken
              refine w_Be rfl (w_some (Or.inl ⟨h4, rfl, hj2, rfl, ?_⟩))
              rw [if_neg k2]
              refine ⟨?_, rfl, rfl, rfl, ht⟩
              show nI br ||| ((1 : Int32) <<< (nI (z_C c n (j + 1)) &&& 31)) = nI (br ||| 2 ^ z_C c n (j + 1))
              simp (disch := omega) only [q_lit, q_a31s, q_shlm, Nat.one_mul, q_or]
        · rw [if_neg h4]
          exact w_T rfl (w_some (Or.inr ⟨h4, rfl, hj1, rfl⟩))
      have fin : (z_C c n j = 12 ∨ z_C c n j = 23 ∨ z_C c n j = 26) → wp (f_Rd_readLine_J68 k 241 (nI j) cs (nI br) (nI dy) (nI P) (nI M) cf kf nf sf tf mf wf (z_cI (z_C c n j))) (z_lnQ m (P, M, dy, br, sp) (z_li P M (z_C c n) j)) := fun h3 => w_mono (J68 h3) (fun q hq => by
        unfold z_li
        rw [if_neg h1, if_neg h2, if_pos h3]
        rcases hq with ⟨g1, g2, g3, g4, g5⟩ | ⟨g1, g2, g3, g4⟩
        · rw [if_pos g1]
          exact ⟨g2, g3, Or.inl ⟨rfl, g4, g5⟩⟩
        · rw [if_neg g1]
          exact ⟨g2, g3, Or.inr ⟨rfl, g4⟩⟩)
      by_cases k1 : z_C c n j = 12
      · refine w_T ((z_cI_eq hr (by decide)).mpr k1) (fin (Or.inl k1))
      refine w_F (fun z => k1 ((z_cI_eq hr (by decide)).mp z)) ?_
      by_cases k2 : z_C c n j = 23
      · refine w_T ((z_cI_eq hr (by decide)).mpr k2) (fin (Or.inr (Or.inl k2)))
      refine w_F (fun z => k2 ((z_cI_eq hr (by decide)).mp z)) ?_
      by_cases k3 : z_C c n j = 26
      · refine w_T ((z_cI_eq hr (by decide)).mpr k3) (fin (Or.inr (Or.inr k3)))
      refine w_F (fun z => k3 ((z_cI_eq hr (by decide)).mp z)) (w_some ?_)
      unfold z_li
      rw [if_neg h1, if_neg h2, if_neg (by omega)]
      exact ⟨rfl, hj, Or.inr ⟨rfl, rfl⟩⟩
  by_cases h99 : z_C c n j = 99
  · refine w_T ?_ J30
    rw [h99]
    decide
  · have e0 : z_cI (z_C c n j) = nI (z_C c n j) := by unfold z_cI; rw [if_neg h99]
    by_cases hlt : z_C c n j < 13
    · refine w_T ?_ J30
      rw [e0]
      simp (disch := omega) only [q_lit, q_ofn, nI_add, q_mul, q_sub, q_shrm, q_shlm, q_a31s, q_a1, q_a3, q_a7, q_a65535, q_div, q_rem2, z_mm, nI_clamp, Nat.reduceMul, Nat.reduceAdd, Nat.reduceSub, Nat.reducePow, Nat.reduceMod, Nat.reduceDiv, Nat.one_mul, nI_ltI, nI_leI, nI_eq, q_b0, q_b1, q_m1lt, q_m1le, q_ltm1, q_lem1, q_eqm1, q_m1eq, not_true_eq_false, not_false_eq_true, reduceCtorEq, *] <;> first | omega | decide
    · refine w_F ?_ ?_
      · rw [e0]
        simp (disch := omega) only [q_lit, q_ofn, nI_add, q_mul, q_sub, q_shrm, q_shlm, q_a31s, q_a1, q_a3, q_a7, q_a65535, q_div, q_rem2, z_mm, nI_clamp, Nat.reduceMul, Nat.reduceAdd, Nat.reduceSub, Nat.reducePow, Nat.reduceMod, Nat.reduceDiv, Nat.one_mul, nI_ltI, nI_leI, nI_eq, q_b0, q_b1, q_m1lt, q_m1le, q_ltm1, q_lem1, q_eqm1, q_m1eq, not_true_eq_false, not_false_eq_true, reduceCtorEq, *] <;> first | omega | decide
      · refine w_T ?_ J30
        rw [e0]
        simp (disch := omega) only [q_lit, q_ofn, nI_add, q_mul, q_sub, q_shrm, q_shlm, q_a31s, q_a1, q_a3, q_a7, q_a65535, q_div, q_rem2, z_mm, nI_clamp, Nat.reduceMul, Nat.reduceAdd, Nat.reduceSub, Nat.reducePow, Nat.reduceMod, Nat.reduceDiv, Nat.one_mul, nI_ltI, nI_leI, nI_eq, q_b0, q_b1, q_m1lt, q_m1le, q_ltm1, q_lem1, q_eqm1, q_m1eq, not_true_eq_false, not_false_eq_true, reduceCtorEq, *] <;> first | omega | decide
