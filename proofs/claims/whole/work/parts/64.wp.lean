/-! a function's answer, by what holds of it -/
def wp {α : Type} (o : Option α) (Q : α → Prop) : Prop := ∃ r, o = some r ∧ Q r
theorem w_some {α : Type} {r : α} {Q : α → Prop} (h : Q r) : wp (some r) Q := ⟨r, rfl, h⟩
theorem w_L {α β : Type} {v : β} {k : β → Option α} {Q : α → Prop} (h : wp (k v) Q) : wp (x_L v k) Q := h
theorem w_Ln {α β : Type} {v w : β} {k : β → Option α} {Q : α → Prop} (e : v = w) (h : wp (k w) Q) : wp (x_L v k) Q := by subst e; exact h
theorem w_Be {α β : Type} {o : Option β} {q : β} {k : β → Option α} {Q : α → Prop} (ho : o = some q) (h : wp (k q) Q) : wp (x_B o k) Q := by subst ho; exact h
theorem w_Bw {α β : Type} {o : Option β} {R : β → Prop} {k : β → Option α} {Q : α → Prop} (ho : wp o R) (h : ∀ q, R q → wp (k q) Q) : wp (x_B o k) Q := by
  obtain ⟨r, e, hr⟩ := ho
  subst e
  exact h r hr
theorem w_Sw {α β γ : Type} {o : Option (β ⊕ γ)} {R : β ⊕ γ → Prop} {k : β → Option α} {j : γ → Option α} {Q : α → Prop} (ho : wp o R) (h1 : ∀ b, R (.inl b) → wp (k b) Q) (h2 : ∀ c, R (.inr c) → wp (j c) Q) : wp (x_S o k j) Q := by
  obtain ⟨r, e, hr⟩ := ho
  subst e
  cases r with
  | inl b => exact h1 b hr
  | inr c => exact h2 c hr
theorem w_I {α β : Type} {n i : Nat} {f : Nat → β} {e : Int32} {k : β → Option α} {Q : α → Prop} (he : e = nI i) (hi : i < n) (hn : n < 2 ^ 31) (h : wp (k (f i)) Q) : wp (x_I n f e k) Q := by rw [he, q_I f k hi hn]; exact h
theorem w_C {α : Type} {n i : Nat} {e : Int32} {k : Option α} {Q : α → Prop} (he : e = nI i) (hi : i < n) (hn : n < 2 ^ 31) (h : wp k Q) : wp (x_C n e k) Q := by rw [he, q_C k hi hn]; exact h
theorem w_T {α : Type} {c : Prop} [Decidable c] {a b : Option α} {Q : α → Prop} (hc : c) (h : wp a Q) : wp (if c then a else b) Q := by rw [if_pos hc]; exact h
theorem w_F {α : Type} {c : Prop} [Decidable c] {a b : Option α} {Q : α → Prop} (hc : ¬ c) (h : wp b Q) : wp (if c then a else b) Q := by rw [if_neg hc]; exact h
theorem w_X {α : Type} {c d : Prop} [Decidable c] {a b : Option α} {Q : α → Prop} (hc : c ↔ d) (h1 : d → wp a Q) (h2 : ¬ d → wp b Q) : wp (if c then a else b) Q := by
  by_cases h : c
  · rw [if_pos h]; exact h1 (hc.mp h)
  · rw [if_neg h]; exact h2 (fun z => h (hc.mpr z))
theorem w_if {α : Type} {c : Prop} [Decidable c] {a b : Option α} {Q : α → Prop} (h1 : c → wp a Q) (h2 : ¬ c → wp b Q) : wp (if c then a else b) Q := w_X Iff.rfl h1 h2
theorem w_G {α : Type} {c : Prop} [Decidable c] {k : Option α} {Q : α → Prop} (hc : c) (h : wp k Q) : wp (x_G c k) Q := by unfold x_G; rw [if_pos hc]; exact h
theorem w_mono {α : Type} {o : Option α} {Q R : α → Prop} (h : wp o Q) (i : ∀ r, Q r → R r) : wp o R := by
  obtain ⟨r, e, hr⟩ := h
  exact ⟨r, e, i r hr⟩
theorem w_eq {α : Type} {o : Option α} {r : α} (h : wp o (fun q => q = r)) : o = some r := by
  obtain ⟨q, e, rfl⟩ := h
  exact e
theorem w_of {α : Type} {o : Option α} {r : α} {Q : α → Prop} (h : o = some r) (hq : Q r) : wp o Q := ⟨r, h, hq⟩
/-! a deed done by the class -/
theorem s_after_J77 {P M d n k : Nat} {sp : Nat → Nat → Nat} {dd : Nat → Nat} {ak ba bi ks kn mk so va wk : Nat → Int32} (ok : z_ok P M sp) (hA : z_RA M sp ak kn mk va wk) (hD : dd d < 22) (hks : ks d = nI (z_kc (dd d))) (hd : d < 19) (hk : 5 < k) {y : Nat} (hy : y < 2 ^ 16) : f_Ru_after_J77 k (nI n) (nI M) ak ba bi ks kn mk so va wk (nI d) (nI y) = some (nI ((z_fold (z_lift M sp (dd d)) M (y, 0)).2 * 65536 + (z_fold (z_lift M sp (dd d)) M (y, 0)).1)) := by
  have hM := ok.2.2.1
  have h := s_after_L (n := n) (ba := ba) (bi := bi) (ks := ks) (so := so) ok hA hD hy (z_fold_ask ok hy) M 0 k (by omega) (by omega)
  simp only [z_fold] at h
  obtain ⟨l1, l2⟩ := z_fold_lt ok (D := dd d) (a := (y, 0)) hy (show (0 : Nat) < 2 ^ 5 by decide) M (Nat.le_refl _)
  unfold f_Ru_after_J77
  refine e_I (i := d) (by first | (with_reducible rfl) | (simp (disch := omega) only [q_lit, q_ofn, nI_add, q_mul, q_sub, q_shrm, q_shlm, q_a31s, q_a1, q_a3, q_a7, q_a65535, q_div, q_rem2, z_mm, nI_clamp, Nat.reduceMul, Nat.reduceAdd, Nat.reduceSub, Nat.reducePow, Nat.reduceMod, Nat.reduceDiv, Nat.one_mul]; done) | (simp (disch := omega) only [q_lit, q_ofn, nI_add, q_mul, q_sub, q_shrm, q_shlm, q_a31s, q_a1, q_a3, q_a7, q_a65535, q_div, q_rem2, z_mm, nI_clamp, Nat.reduceMul, Nat.reduceAdd, Nat.reduceSub, Nat.reducePow, Nat.reduceMod, Nat.reduceDiv, Nat.one_mul]; with_reducible rfl)) (by omega) (by first | decide | omega) ?_
  rw [hks]
  unfold f_St_asked
  rw [q_B]
  simp (disch := omega) only [q_lit, q_a31s, q_shrm, q_a7, Nat.reducePow]
  rw [h, q_B]
  unfold f_Ru_after_J198
  simp (disch := omega) only [q_lit, q_a31s, q_shlm, q_or]
  rw [z_or16 l1]
theorem s_after {P M x d n k : Nat} {sp : Nat → Nat → Nat} {dd : Nat → Nat} {ak ba bi ks kn mk so va wk : Nat → Int32} (ok : z_ok P M sp) (hA : z_RA M sp ak kn mk va wk) (hB : z_RB P M sp n dd ba bi ks so) (hk : 5 < k) (hx : z_V P M x) (hd : d < n) : f_Ru_after k (nI n) (nI M) ak ba bi ks kn mk so va wk (nI x) (nI d) = some (if z_can P M sp x (dd d) = true then nI ((z_beh M sp x (dd d)).2 * 65536 + (z_beh M sp x (dd d)).1) else -nI 1) := by
  obtain ⟨hn, hB⟩ := hB
  obtain ⟨hD, hks, q, hq, hso, hq4, hq3, hBx⟩ := hB d hd
  have hx1 := hx.1
  obtain ⟨hcan, hbit⟩ := hBx x hx1
  have main : z_can P M sp x (dd d) = true → f_Ru_after_J52 k (nI n) (nI M) ak ba bi ks kn mk so va wk (nI x) (nI d) = some (nI ((z_beh M sp x (dd d)).2 * 65536 + (z_beh M sp x (dd d)).1)) := by
    intro hc
    have hv := (z_do_V ok.2.1 hx hD hc).1
    have tail := s_after_J77 (n := n) (ba := ba) (bi := bi) (so := so) ok hA hD hks (by omega) hk (y := z_do x (dd d)) (by omega)
    unfold f_Ru_after_J52
    refine e_I (i := d) (by first | (with_reducible rfl) | (simp (disch := omega) only [q_lit, q_ofn, nI_add, q_mul, q_sub, q_shrm, q_shlm, q_a31s, q_a1, q_a3, q_a7, q_a65535, q_div, q_rem2, z_mm, nI_clamp, Nat.reduceMul, Nat.reduceAdd, Nat.reduceSub, Nat.reducePow, Nat.reduceMod, Nat.reduceDiv, Nat.one_mul]; done) | (simp (disch := omega) only [q_lit, q_ofn, nI_add, q_mul, q_sub, q_shrm, q_shlm, q_a31s, q_a1, q_a3, q_a7, q_a65535, q_div, q_rem2, z_mm, nI_clamp, Nat.reduceMul, Nat.reduceAdd, Nat.reduceSub, Nat.reducePow, Nat.reduceMod, Nat.reduceDiv, Nat.one_mul]; with_reducible rfl)) (by omega) (by first | decide | omega) ?_
    rw [hso]
    by_cases h4 : q = 4
    · refine e_T (by rw [h4, q_lit]) ?_
      have h21 := hq4.mp h4
      rw [s_nextDay hx1, q_B, ← h21]
      exact tail
    · refine e_F (by simp (disch := omega) only [q_lit, nI_eq]; exact h4) ?_
      refine e_I (i := d) (by first | (with_reducible rfl) | (simp (disch := omega) only [q_lit, q_ofn, nI_add, q_mul, q_sub, q_shrm, q_shlm, q_a31s, q_a1, q_a3, q_a7, q_a65535, q_div, q_rem2, z_mm, nI_clamp, Nat.reduceMul, Nat.reduceAdd, Nat.reduceSub, Nat.reducePow, Nat.reduceMod, Nat.reduceDiv, Nat.one_mul]; done) | (simp (disch := omega) only [q_lit, q_ofn, nI_add, q_mul, q_sub, q_shrm, q_shlm, q_a31s, q_a1, q_a3, q_a7, q_a65535, q_div, q_rem2, z_mm, nI_clamp, Nat.reduceMul, Nat.reduceAdd, Nat.reduceSub, Nat.reducePow, Nat.reduceMod, Nat.reduceDiv, Nat.one_mul]; with_reducible rfl)) (by omega) (by first | decide | omega) ?_
      rw [hbit (fun e => h4 (hq4.mpr e)) hc]
      exact tail
  unfold f_Ru_after
  refine e_F (by simp (disch := omega) only [q_lit, q_ofn, nI_add, q_mul, q_sub, q_shrm, q_shlm, q_a31s, q_a1, q_a3, q_a7, q_a65535, q_div, q_rem2, z_mm, nI_clamp, Nat.reduceMul, Nat.reduceAdd, Nat.reduceSub, Nat.reducePow, Nat.reduceMod, Nat.reduceDiv, Nat.one_mul, nI_ltI, nI_leI, nI_eq, q_b0, q_b1, q_m1lt, q_m1le, q_ltm1, q_lem1, q_eqm1, q_m1eq, not_true_eq_false, not_false_eq_true, reduceCtorEq, *] <;> first | omega | decide) ?_
  refine e_F (by simp (disch := omega) only [q_lit, q_ofn, nI_add, q_mul, q_sub, q_shrm, q_shlm, q_a31s, q_a1, q_a3, q_a7, q_a65535, q_div, q_rem2, z_mm, nI_clamp, Nat.reduceMul, Nat.reduceAdd, Nat.reduceSub, Nat.reducePow, Nat.reduceMod, Nat.reduceDiv, Nat.one_mul, nI_ltI, nI_leI, nI_eq, q_b0, q_b1, q_m1lt, q_m1le, q_ltm1, q_lem1, q_eqm1, q_m1eq, not_true_eq_false, not_false_eq_true, reduceCtorEq, *] <;> first | omega | decide) ?_
  refine e_F (by simp (disch := omega) only [q_lit, q_ofn, nI_add, q_mul, q_sub, q_shrm, q_shlm, q_a31s, q_a1, q_a3, q_a7, q_a65535, q_div, q_rem2, z_mm, nI_clamp, Nat.reduceMul, Nat.reduceAdd, Nat.reduceSub, Nat.reducePow, Nat.reduceMod, Nat.reduceDiv, Nat.one_mul, nI_ltI, nI_leI, nI_eq, q_b0, q_b1, q_m1lt, q_m1le, q_ltm1, q_lem1, q_eqm1, q_m1eq, not_true_eq_false, not_false_eq_true, reduceCtorEq, *] <;> first | omega | decide) ?_
  refine e_I (i := d) (by first | (with_reducible rfl) | (simp (disch := omega) only [q_lit, q_ofn, nI_add, q_mul, q_sub, q_shrm, q_shlm, q_a31s, q_a1, q_a3, q_a7, q_a65535, q_div, q_rem2, z_mm, nI_clamp, Nat.reduceMul, Nat.reduceAdd, Nat.reduceSub, Nat.reducePow, Nat.reduceMod, Nat.reduceDiv, Nat.one_mul]; done) | (simp (disch := omega) only [q_lit, q_ofn, nI_add, q_mul, q_sub, q_shrm, q_shlm, q_a31s, q_a1, q_a3, q_a7, q_a65535, q_div, q_rem2, z_mm, nI_clamp, Nat.reduceMul, Nat.reduceAdd, Nat.reduceSub, Nat.reducePow, Nat.reduceMod, Nat.reduceDiv, Nat.one_mul]; with_reducible rfl)) (by omega) (by first | decide | omega) ?_
  by_cases hz : nI x &&& ba d = nI 0
  · refine e_T hz ?_
    refine e_I (i := d) (by first | (with_reducible rfl) | (simp (disch := omega) only [q_lit, q_ofn, nI_add, q_mul, q_sub, q_shrm, q_shlm, q_a31s, q_a1, q_a3, q_a7, q_a65535, q_div, q_rem2, z_mm, nI_clamp, Nat.reduceMul, Nat.reduceAdd, Nat.reduceSub, Nat.reducePow, Nat.reduceMod, Nat.reduceDiv, Nat.one_mul]; done) | (simp (disch := omega) only [q_lit, q_ofn, nI_add, q_mul, q_sub, q_shrm, q_shlm, q_a31s, q_a1, q_a3, q_a7, q_a65535, q_div, q_rem2, z_mm, nI_clamp, Nat.reduceMul, Nat.reduceAdd, Nat.reduceSub, Nat.reducePow, Nat.reduceMod, Nat.reduceDiv, Nat.one_mul]; with_reducible rfl)) (by omega) (by first | decide | omega) ?_
    rw [hso]
    by_cases h3 : q = 3
    · refine e_T (by rw [h3, q_lit]) ?_
      unfold f_St_asked
      rw [q_B]
      simp (disch := omega) only [q_lit, q_a31s, q_shrm, q_a7, Nat.reducePow, nI_ltI]
      by_cases ha : x / 1024 % 8 < 7
      · have hc := hcan.mp ⟨hz, fun _ => ha⟩
        rw [if_pos ha, if_pos hc]
        exact main hc
      · rw [if_neg ha, if_neg (fun hc => ha ((hcan.mpr hc).2 h3))]
    · refine e_F (by simp (disch := omega) only [q_lit, nI_eq]; exact h3) ?_
      have hc := hcan.mp ⟨hz, fun h => absurd h h3⟩
      rw [if_pos hc]
      exact main hc
  · refine e_F hz ?_
    rw [if_neg (fun hc => hz (hcan.mpr hc).1)]
    rfl
theorem s_of {y l : Nat} (hy : y < 65536) : f_St_of (nI (l * 65536 + y)) = some (nI y) := by
  unfold f_St_of
  rw [q_lit, q_a65535]
  congr 2
  omega
theorem s_lifted {y l : Nat} (hy : y < 65536) (hl : l < 32) : f_St_lifted (nI (l * 65536 + y)) = some (nI l) := by
  unfold f_St_lifted
  simp (disch := omega) only [q_lit, q_a31s, q_shrm, q_a31, Nat.reducePow]
  congr 2
  omega
