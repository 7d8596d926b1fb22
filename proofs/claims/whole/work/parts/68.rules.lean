/-! what is learnt: targets, spells, deeds -/
theorem t_fillI_L {n k : Nat} {v : Int32} (hn : n < 2 ^ 31) : ∀ r i k (f : Nat → Int32), i + r = n → r < k → (∀ j, j < i → f j = v) → wp (f_fillI_L5 n v (nI n) k (nI i) f) (fun g => ∀ j, j < n → g j = v) := by
  intro r
  induction r with
  | zero =>
    intro i k f hi hk hf
    obtain ⟨k, rfl⟩ : ∃ k', k = k' + 1 := ⟨k - 1, by omega⟩
    rw [f_fillI_L5]
    refine w_T (nI_le (by omega) (by omega)) ?_
    exact w_some (fun j hj => hf j (by omega))
  | succ r ih =>
    intro i k f hi hk hf
    obtain ⟨k, rfl⟩ : ∃ k', k = k' + 1 := ⟨k - 1, by omega⟩
    rw [f_fillI_L5]
    refine w_F (by simp (disch := omega) only [q_lit, q_ofn, nI_add, q_mul, q_sub, q_shrm, q_shlm, q_a31s, q_a1, q_a3, q_a7, q_a65535, q_div, q_rem2, z_mm, nI_clamp, Nat.reduceMul, Nat.reduceAdd, Nat.reduceSub, Nat.reducePow, Nat.reduceMod, Nat.reduceDiv, Nat.one_mul, nI_ltI, nI_leI, nI_eq, q_b0, q_b1, q_m1lt, q_m1le, q_ltm1, q_lem1, q_eqm1, q_m1eq, not_true_eq_false, not_false_eq_true, reduceCtorEq, *] <;> first | omega | decide) ?_
    refine w_C (i := i) rfl (by omega) hn ?_
    refine w_Ln (w := nI (i + 1)) (by simp only [q_lit, nI_add]) ?_
    refine ih (i + 1) k _ (by omega) (by omega) ?_
    intro j hj
    rw [nI_clamp (by omega), q_upd]
    split
    · rfl
    · exact hf j (by omega)
theorem t_fillI {n k : Nat} {v : Int32} {f : Nat → Int32} (hn : n < 2 ^ 31) (hk : n < k) : wp (f_fillI k n f v) (fun g => ∀ j, j < n → g j = v) := by
  unfold f_fillI
  refine w_L ?_
  rw [q_ofn]
  exact w_Bw (t_fillI_L (k := k) hn n 0 k f (by omega) hk (fun j hj => by omega)) (fun g hg => w_some hg)
def z_cur (M : Nat) (sp : Nat → Nat → Nat) (kd p : Nat) : Nat := z_bm (fun j => decide (sp j 0 = kd) && decide (sp j 1 = p)) M
/-- who is bound, who is under what -/
def z_tg (M : Nat) (sp : Nat → Nat → Nat) (bn cu : Nat → Int32) : Prop := (∀ t, t < 5 → bn t = nI (z_cur M sp 3 t)) ∧ ∀ kd, kd < 3 → ∀ p, p < 3 → cu (kd * 3 + p) = nI (z_cur M sp kd p)
theorem t_isCurse {a b : Nat} (ha : a < 2 ^ 31) (hb : b < 2 ^ 31) : f_Ru_isCurse (nI a) (nI b) = some (nI (decide (a < 3 ∧ b < 3)).toNat) := by
  unfold f_Ru_isCurse
  simp (disch := omega) only [q_lit, nI_ltI, nI_leI, Nat.not_lt_zero, if_false]
  by_cases h1 : 3 ≤ a
  · rw [if_pos h1, decide_eq_false (by omega)]; rfl
  · rw [if_neg h1]
    by_cases h2 : 3 ≤ b
    · rw [if_pos h2, decide_eq_false (by omega)]; rfl
    · rw [if_neg h2, decide_eq_true (by omega)]; rfl
theorem z_cur_succ (i : Nat) (sp : Nat → Nat → Nat) (kd p : Nat) : z_cur (i + 1) sp kd p = if sp i 0 = kd ∧ sp i 1 = p then z_cur i sp kd p ||| 2 ^ i else z_cur i sp kd p := by
  unfold z_cur
  show (if (decide (sp i 0 = kd) && decide (sp i 1 = p)) = true then _ else _) = _
  simp only [Bool.and_eq_true, decide_eq_true_iff]
theorem z_cur_lt (i : Nat) (sp : Nat → Nat → Nat) (kd p : Nat) : z_cur i sp kd p < 2 ^ i := z_bm_lt _ i
theorem s_targets_L {P M : Nat} {sp : Nat → Nat → Nat} {kf nf sf tf mf wf : Nat → Int32} (ok : z_ok P M sp) (ht : z_tol M sp kf nf sf tf mf wf) : ∀ r i k (bn cu : Nat → Int32), i + r = M → r < k → z_tg i sp bn cu → wp (f_Ru_learnTargets_L18 (nI M) (nI M) kf tf k (nI i) bn cu) (fun q => z_tg M sp q.1 q.2) := by
  have hM := ok.2.2.1
  have hP := ok.2.1
  intro r
  induction r with
  | zero =>
    intro i k bn cu hi hk hg
    obtain ⟨k, rfl⟩ : ∃ k', k = k' + 1 := ⟨k - 1, by omega⟩
    have : i = M := by omega
    subst this
    rw [f_Ru_learnTargets_L18]
    refine w_T (nI_le (by omega) (by omega)) ?_
    exact w_some hg
  | succ r ih =>
    intro i k bn cu hi hk hg
    obtain ⟨k, rfl⟩ : ∃ k', k = k' + 1 := ⟨k - 1, by omega⟩
    have hiM : i < M := by omega
    obtain ⟨e0, e1, e2, e9, et⟩ := ht i hiM
    obtain ⟨b0, b1, b2, b3, b4, b5⟩ := z_small ok hiM
    obtain ⟨g1, g2⟩ := hg
    have okS := ok.2.2.2 i hiM
    rw [f_Ru_learnTargets_L18]
    refine w_F (by simp (disch := omega) only [q_lit, q_ofn, nI_add, q_mul, q_sub, q_shrm, q_shlm, q_a31s, q_a1, q_a3, q_a7, q_a65535, q_div, q_rem2, z_mm, nI_clamp, Nat.reduceMul, Nat.reduceAdd, Nat.reduceSub, Nat.reducePow, Nat.reduceMod, Nat.reduceDiv, Nat.one_mul, nI_ltI, nI_leI, nI_eq, q_b0, q_b1, q_m1lt, q_m1le, q_ltm1, q_lem1, q_eqm1, q_m1eq, not_true_eq_false, not_false_eq_true, reduceCtorEq, *] <;> first | omega | decide) ?_
    refine w_F (by simp (disch := omega) only [q_lit, q_ofn, nI_add, q_mul, q_sub, q_shrm, q_shlm, q_a31s, q_a1, q_a3, q_a7, q_a65535, q_div, q_rem2, z_mm, nI_clamp, Nat.reduceMul, Nat.reduceAdd, Nat.reduceSub, Nat.reducePow, Nat.reduceMod, Nat.reduceDiv, Nat.one_mul, nI_ltI, nI_leI, nI_eq, q_b0, q_b1, q_m1lt, q_m1le, q_ltm1, q_lem1, q_eqm1, q_m1eq, not_true_eq_false, not_false_eq_true, reduceCtorEq, *] <;> first | omega | decide) ?_
    refine w_Be (t_kindOf hM hiM kf) ?_
    refine w_Be (t_targetOf hM hiM tf) ?_
    rw [e0, e1]
    by_cases h3 : sp i 0 = 3
    · refine w_T (by rw [h3, q_lit]) ?_
      refine w_F (by simp (disch := omega) only [q_lit, q_ofn, nI_add, q_mul, q_sub, q_shrm, q_shlm, q_a31s, q_a1, q_a3, q_a7, q_a65535, q_div, q_rem2, z_mm, nI_clamp, Nat.reduceMul, Nat.reduceAdd, Nat.reduceSub, Nat.reducePow, Nat.reduceMod, Nat.reduceDiv, Nat.one_mul, nI_ltI, nI_leI, nI_eq, q_b0, q_b1, q_m1lt, q_m1le, q_ltm1, q_lem1, q_eqm1, q_m1eq, not_true_eq_false, not_false_eq_true, reduceCtorEq, *] <;> first | omega | decide) ?_
      refine w_F (by simp (disch := omega) only [q_lit, q_ofn, nI_add, q_mul, q_sub, q_shrm, q_shlm, q_a31s, q_a1, q_a3, q_a7, q_a65535, q_div, q_rem2, z_mm, nI_clamp, Nat.reduceMul, Nat.reduceAdd, Nat.reduceSub, Nat.reducePow, Nat.reduceMod, Nat.reduceDiv, Nat.one_mul, nI_ltI, nI_leI, nI_eq, q_b0, q_b1, q_m1lt, q_m1le, q_ltm1, q_lem1, q_eqm1, q_m1eq, not_true_eq_false, not_false_eq_true, reduceCtorEq, *] <;> first | omega | decide) ?_
      refine w_I (i := sp i 1) rfl (by omega) (by decide) ?_
      rw [g1 _ b2]
      refine w_Ln (w := nI (z_cur i sp 3 (sp i 1) ||| 2 ^ i)) (by simp (disch := omega) only [q_lit, q_a31s, q_shlm, Nat.one_mul, q_or]) ?_
      refine w_C (i := sp i 1) rfl (by omega) (by decide) ?_
      unfold f_Ru_learnTargets_J102
      refine w_Ln (w := nI (i + 1)) (by simp only [q_lit, nI_add]) ?_
      refine ih (i + 1) k _ _ (by omega) (by omega) ⟨?_, ?_⟩
      · intro t ht
        rw [nI_clamp (by omega), q_upd, z_cur_succ]
        by_cases h : t = sp i 1
        · rw [if_pos h, if_pos ⟨h3, h.symm⟩, h]
        · rw [if_neg h, if_neg (fun z => h z.2.symm), g1 t ht]
      · intro kd hkd p hp
        rw [z_cur_succ, if_neg (by omega), g2 kd hkd p hp]
    · have h1 := okS.2.2.1 h3
      refine w_F (by simp (disch := omega) only [q_lit, q_ofn, nI_add, q_mul, q_sub, q_shrm, q_shlm, q_a31s, q_a1, q_a3, q_a7, q_a65535, q_div, q_rem2, z_mm, nI_clamp, Nat.reduceMul, Nat.reduceAdd, Nat.reduceSub, Nat.reducePow, Nat.reduceMod, Nat.reduceDiv, Nat.one_mul, nI_ltI, nI_leI, nI_eq, q_b0, q_b1, q_m1lt, q_m1le, q_ltm1, q_lem1, q_eqm1, q_m1eq, not_true_eq_false, not_false_eq_true, reduceCtorEq, *] <;> first | omega | decide) ?_
      unfold f_Ru_learnTargets_J76
      refine w_Be (t_isCurse (by omega) (by omega)) ?_
      rw [decide_eq_true (by omega)]
      refine w_F (by decide) ?_
      refine w_Ln (w := nI (sp i 0 * 3 + sp i 1)) (by simp only [q_lit, q_mul, nI_add]) ?_
      refine w_I (i := sp i 0 * 3 + sp i 1) rfl (by omega) (by decide) ?_
      rw [g2 _ (by omega) _ (by omega)]
      refine w_Ln (w := nI (z_cur i sp (sp i 0) (sp i 1) ||| 2 ^ i)) (by simp (disch := omega) only [q_lit, q_a31s, q_shlm, Nat.one_mul, q_or]) ?_
      refine w_C (i := sp i 0 * 3 + sp i 1) rfl (by omega) (by decide) ?_
      unfold f_Ru_learnTargets_J102
      refine w_Ln (w := nI (i + 1)) (by simp only [q_lit, nI_add]) ?_
      refine ih (i + 1) k _ _ (by omega) (by omega) ⟨?_, ?_⟩
      · intro t ht
        rw [z_cur_succ, if_neg (fun z => h3 z.1), g1 t ht]
      · intro kd hkd p hp
        rw [nI_clamp (by omega), q_upd, z_cur_succ]
        by_cases h : kd * 3 + p = sp i 0 * 3 + sp i 1
        · have : sp i 0 = kd ∧ sp i 1 = p := by omega
          rw [if_pos h, if_pos this, this.1, this.2]
        · rw [if_neg h, if_neg (fun z => h (by rw [z.1, z.2])), g2 kd hkd p hp]
theorem s_targets {P M k : Nat} {sp : Nat → Nat → Nat} {kf nf sf tf mf wf bn cu : Nat → Int32} (ok : z_ok P M sp) (ht : z_tol M sp kf nf sf tf mf wf) (hk : 20 ≤ k) : wp (f_Ru_learnTargets k (nI M) (nI M) kf tf bn cu) (fun q => z_tg M sp q.1 q.2) := by
  have hM := ok.2.2.1
  unfold f_Ru_learnTargets
  refine w_Bw (t_fillI (by decide) (by omega)) (fun cu1 h1 => ?_)
  refine w_Bw (t_fillI (by decide) (by omega)) (fun bn1 h2 => ?_)
  refine w_Bw (s_targets_L ok ht M 0 k bn1 cu1 (by omega) (by omega) ⟨fun t h => h2 t h, fun kd hkd p hp => h1 _ (by omega)⟩) (fun q hq => ?_)
  obtain ⟨q1, q2⟩ := q
  exact w_some hq
/-- one spell's masks after its first i terms -/
def z_Ri (M : Nat) (sp : Nat → Nat → Nat) (s i : Nat) (ak kn mk va : Int32) : Prop := ∃ a m v, ak = nI a ∧ mk = nI m ∧ va = nI v ∧ a ≤ 7 ∧ m < 2 ^ 16 ∧ v < 2 ^ 16 ∧ v &&& m = v ∧ (kn = -nI 1 ∨ ∃ q, q < 32 ∧ kn = nI q) ∧ ∀ y D, y < 2 ^ 16 → D < 22 → ((y &&& m = v ∧ a ≤ y / 1024 % 8 ∧ (kn = nI 0 ∨ kn = nI (z_kc D))) ↔ (y.testBit s = true ∧ z_und M sp y s 3 = false ∧ z_all (fun i => z_so sp y s i D) i = true))
theorem z_kc_lt (D : Nat) (h : D < 22) : z_kc D < 32 := by unfold z_kc; split; omega; split <;> omega
theorem z_kc_eq {D v t : Nat} (hD : D < 22) (hv : v < 3) (ht : t < 3) : (1 + v * 3 + t = z_kc D) ↔ D = 7 * v + t := by unfold z_kc; split; omega; split <;> omega
theorem z_andEq {P Q R S : Prop} (h : P ↔ Q) (h2 : R ↔ S) : (P ∧ R) ↔ (Q ∧ S) := and_congr h h2
theorem z_Ri_kiss {M s i : Nat} {sp : Nat → Nat → Nat} {kn kn' : Int32} {ak mk va : Int32} (h : z_Ri M sp s i ak kn mk va) (hb : ∀ y D, D < 22 → (z_so sp y s i D = true ↔ kn' ≠ -nI 1 ∧ kn' = nI (z_kc D))) (hk : kn' = -nI 1 ∨ ∃ q, 0 < q ∧ q < 32 ∧ kn' = nI q) : z_Ri M sp s (i + 1) ak (if kn = nI 0 ∨ kn = kn' then kn' else -nI 1) mk va := by
  obtain ⟨a, m, v, h1, h2, h3, h4, h5, h6, h7, h8, h9⟩ := h
  refine ⟨a, m, v, h1, h2, h3, h4, h5, h6, h7, ?_, ?_⟩
  · split
    · rcases hk with hk | ⟨q, q0, q1, hk⟩
      · exact Or.inl hk
      · exact Or.inr ⟨q, q1, hk⟩
    · exact Or.inl rfl
  · intro y D hy hD
    have hn1 : ∀ q, q < 32 → (-nI 1 : Int32) ≠ nI q := fun q hq e => (q_m1eq (by omega)).mp e
    have hz := z_kc_lt D hD
    have h9' := h9 y D hy hD
    simp only [z_all, Bool.and_eq_true, hb y D hD]
    rw [← and_assoc (a := z_und M sp y s 3 = false), ← and_assoc (a := y.testBit s = true), ← h9']
    have key : ((if kn = nI 0 ∨ kn = kn' then kn' else -nI 1) = nI 0 ∨ (if kn = nI 0 ∨ kn = kn' then kn' else -nI 1) = nI (z_kc D)) ↔ ((kn = nI 0 ∨ kn = nI (z_kc D)) ∧ kn' ≠ -nI 1 ∧ kn' = nI (z_kc D)) := by
      constructor
      · intro hh
        split at hh
        · next hc =>
          rcases hk with hk | ⟨q, q0, q1, hk⟩
          · rcases hh with hh | hh
            · exact absurd (hk.symm.trans hh) (hn1 0 (by omega))
            · exact absurd (hk.symm.trans hh) (hn1 _ hz)
          · rcases hh with hh | hh
            · rw [hk, nI_eq (by omega) (by omega)] at hh; omega
            · refine ⟨?_, by rw [hk]; exact (hn1 q q1).symm, hh⟩
              rcases hc with hc | hc
              · exact Or.inl hc
              · exact Or.inr (hc.trans hh)
        · rcases hh with hh | hh
          · exact absurd hh (hn1 0 (by omega))
          · exact absurd hh (hn1 _ hz)
      · rintro ⟨hc, _, he⟩
        rw [if_pos (hc.imp id (fun z => z.trans he.symm))]
        exact Or.inr he
    rw [key, and_assoc, and_assoc]
theorem z_Ri_ask {M s i n : Nat} {sp : Nat → Nat → Nat} {kn ak mk va : Int32} (h : z_Ri M sp s i ak kn mk va) (hn : n ≤ 7) (hb : ∀ y D, D < 22 → (z_so sp y s i D = true ↔ n ≤ y / 1024 % 8)) : z_Ri M sp s (i + 1) (if ak < nI n then nI n else ak) kn mk va := by
  obtain ⟨a, m, v, h1, h2, h3, h4, h5, h6, h7, h8, h9⟩ := h
  have he : (if ak < nI n then nI n else ak) = nI (if a < n then n else a) := by
    rw [h1]
    simp (disch := omega) only [nI_ltI]
    split <;> rfl
  refine ⟨if a < n then n else a, m, v, he, h2, h3, by split <;> omega, h5, h6, h7, h8, ?_⟩
  intro y D hy hD
  simp only [z_all, Bool.and_eq_true, hb y D hD]
  rw [← and_assoc (a := z_und M sp y s 3 = false), ← and_assoc (a := y.testBit s = true), ← h9 y D hy hD]
  have : ((if a < n then n else a) ≤ y / 1024 % 8) ↔ (a ≤ y / 1024 % 8 ∧ n ≤ y / 1024 % 8) := by split <;> omega
  rw [this]
  constructor
  · rintro ⟨p1, ⟨p2, p3⟩, p4⟩; exact ⟨⟨p1, p2, p4⟩, p3⟩
  · rintro ⟨⟨p1, p2, p4⟩, p3⟩; exact ⟨p1, ⟨p2, p3⟩, p4⟩
theorem z_Ri_bits {M s i m' v' : Nat} {sp : Nat → Nat → Nat} {kn ak mk va : Int32} (h : z_Ri M sp s i ak kn mk va) (hm : m' < 2 ^ 16) (hv : v' &&& m' = v') (hb : ∀ y D, y < 2 ^ 16 → D < 22 → (z_so sp y s i D = true ↔ y &&& m' = v')) : z_Ri M sp s (i + 1) ak (if (mk &&& nI m') &&& (va ^^^ nI v') = nI 0 then kn else -nI 1) (mk ||| nI m') (va ||| nI v') := by
  obtain ⟨a, m, v, h1, h2, h3, h4, h5, h6, h7, h8, h9⟩ := h
  have hv' : v' < 2 ^ 16 := Nat.lt_of_le_of_lt (hv ▸ Nat.and_le_right) hm
  have hc : ((mk &&& nI m') &&& (va ^^^ nI v') = nI 0) ↔ (m &&& m') &&& (v ^^^ v') = 0 := by
    rw [h2, h3, q_and, q_xor, q_and, nI_eq ?_ (by decide)]
    exact Nat.lt_of_le_of_lt Nat.and_le_left (Nat.lt_of_le_of_lt Nat.and_le_left (by omega))
  refine ⟨a, m ||| m', v ||| v', h1, by rw [h2, q_or], by rw [h3, q_or], h4, Nat.or_lt_two_pow h5 hm, Nat.or_lt_two_pow h6 hv', ?_, ?_, ?_⟩
  · apply Nat.eq_of_testBit_eq
    intro j
    have t1 : (v.testBit j && m.testBit j) = v.testBit j := by rw [← Nat.testBit_and, h7]
    have t2 : (v'.testBit j && m'.testBit j) = v'.testBit j := by rw [← Nat.testBit_and, hv]
    rw [Nat.testBit_and, Nat.testBit_or, Nat.testBit_or]
    revert t1 t2
    cases v.testBit j <;> cases m.testBit j <;> cases v'.testBit j <;> cases m'.testBit j <;> decide
  · split
    · exact h8
    · exact Or.inl rfl
  · intro y D hy hD
    simp only [z_all, Bool.and_eq_true, hb y D hy hD]
    rw [← and_assoc (a := z_und M sp y s 3 = false), ← and_assoc (a := y.testBit s = true), ← h9 y D hy hD]
    by_cases hh : (m &&& m') &&& (v ^^^ v') = 0
    · rw [if_pos (hc.mpr hh), z_masks h7 hv hh]
      constructor
      · rintro ⟨⟨p1, p2⟩, p3, p4⟩; exact ⟨⟨p1, p3, p4⟩, p2⟩
      · rintro ⟨⟨p1, p3, p4⟩, p2⟩; exact ⟨⟨p1, p2⟩, p3, p4⟩
    · rw [if_neg (fun z => hh (hc.mp z))]
      have hz := z_kc_lt D hD
      constructor
      · rintro ⟨_, _, p | p⟩
        · exact ((q_m1eq (by omega)).mp p).elim
        · exact ((q_m1eq (by omega)).mp p).elim
      · rintro ⟨⟨p1, _⟩, p2⟩
        exact absurd ⟨p1, p2⟩ (z_maskc hh)
theorem t_needKiss {s : Nat} {kn : Nat → Int32} {q : Int32} (hs : s < 5) : f_Ru_needKiss kn (nI s) q = some (upd kn s (if kn s = nI 0 ∨ kn s = q then q else -nI 1)) := by
  unfold f_Ru_needKiss f_Ru_needKiss_J28 f_Ru_needKiss_J33 f_Ru_needKiss_J48
  refine e_F (by simp (disch := omega) only [q_lit, q_ofn, nI_add, q_mul, q_sub, q_shrm, q_shlm, q_a31s, q_a1, q_a3, q_a7, q_a65535, q_div, q_rem2, z_mm, nI_clamp, Nat.reduceMul, Nat.reduceAdd, Nat.reduceSub, Nat.reducePow, Nat.reduceMod, Nat.reduceDiv, Nat.one_mul, nI_ltI, nI_leI, nI_eq, q_b0, q_b1, q_m1lt, q_m1le, q_ltm1, q_lem1, q_eqm1, q_m1eq, not_true_eq_false, not_false_eq_true, reduceCtorEq, *] <;> first | omega | decide) ?_
  refine e_F (by simp (disch := omega) only [q_lit, q_ofn, nI_add, q_mul, q_sub, q_shrm, q_shlm, q_a31s, q_a1, q_a3, q_a7, q_a65535, q_div, q_rem2, z_mm, nI_clamp, Nat.reduceMul, Nat.reduceAdd, Nat.reduceSub, Nat.reducePow, Nat.reduceMod, Nat.reduceDiv, Nat.one_mul, nI_ltI, nI_leI, nI_eq, q_b0, q_b1, q_m1lt, q_m1le, q_ltm1, q_lem1, q_eqm1, q_m1eq, not_true_eq_false, not_false_eq_true, reduceCtorEq, *] <;> first | omega | decide) ?_
  refine e_I (i := s) rfl (by omega) (by decide) ?_
  by_cases h1 : kn s = nI 0
  · refine e_T h1 ?_
    refine e_F (by decide) ?_
    refine e_C (i := s) rfl (by omega) (by decide) ?_
    rw [if_pos (Or.inl h1), nI_clamp (by omega)]
  · refine e_F h1 ?_
    refine e_I (i := s) rfl (by omega) (by decide) ?_
    by_cases h2 : kn s = q
    · refine e_T h2 ?_
      refine e_F (by decide) ?_
      refine e_C (i := s) rfl (by omega) (by decide) ?_
      rw [if_pos (Or.inr h2), nI_clamp (by omega)]
    · refine e_F h2 ?_
      refine e_T rfl ?_
      refine e_C (i := s) rfl (by omega) (by decide) ?_
      rw [if_neg (fun z => z.elim h1 h2), nI_clamp (by omega)]
      rfl
theorem t_needBits {s : Nat} {kn mk va : Nat → Int32} {m v : Int32} (hs : s < 5) : f_Ru_needBits kn mk va (nI s) m v = some ((if (mk s &&& m) &&& (va s ^^^ v) = nI 0 then kn else upd kn s (-nI 1)), upd mk s (mk s ||| m), upd va s (va s ||| v)) := by
  unfold f_Ru_needBits f_Ru_needBits_J37
  refine e_F (by simp (disch := omega) only [q_lit, q_ofn, nI_add, q_mul, q_sub, q_shrm, q_shlm, q_a31s, q_a1, q_a3, q_a7, q_a65535, q_div, q_rem2, z_mm, nI_clamp, Nat.reduceMul, Nat.reduceAdd, Nat.reduceSub, Nat.reducePow, Nat.reduceMod, Nat.reduceDiv, Nat.one_mul, nI_ltI, nI_leI, nI_eq, q_b0, q_b1, q_m1lt, q_m1le, q_ltm1, q_lem1, q_eqm1, q_m1eq, not_true_eq_false, not_false_eq_true, reduceCtorEq, *] <;> first | omega | decide) ?_
  refine e_T (by simp (disch := omega) only [q_lit, q_ofn, nI_add, q_mul, q_sub, q_shrm, q_shlm, q_a31s, q_a1, q_a3, q_a7, q_a65535, q_div, q_rem2, z_mm, nI_clamp, Nat.reduceMul, Nat.reduceAdd, Nat.reduceSub, Nat.reducePow, Nat.reduceMod, Nat.reduceDiv, Nat.one_mul, nI_ltI, nI_leI, nI_eq, q_b0, q_b1, q_m1lt, q_m1le, q_ltm1, q_lem1, q_eqm1, q_m1eq, not_true_eq_false, not_false_eq_true, reduceCtorEq, *] <;> first | omega | decide) ?_
  refine e_I (i := s) rfl (by omega) (by decide) ?_
  refine e_I (i := s) rfl (by omega) (by decide) ?_
  by_cases h : (mk s &&& m) &&& (va s ^^^ v) = nI 0
  · refine e_T h ?_
    refine e_I (i := s) rfl (by omega) (by decide) ?_
    refine e_L ?_
    refine e_C (i := s) rfl (by omega) (by decide) ?_
    refine e_I (i := s) rfl (by omega) (by decide) ?_
    refine e_L ?_
    refine e_C (i := s) rfl (by omega) (by decide) ?_
    rw [if_pos h, nI_clamp (by omega)]
  · refine e_F h ?_
    refine e_C (i := s) rfl (by omega) (by decide) ?_
    refine e_I (i := s) rfl (by omega) (by decide) ?_
    refine e_L ?_
    refine e_C (i := s) rfl (by omega) (by decide) ?_
    refine e_I (i := s) rfl (by omega) (by decide) ?_
    refine e_L ?_
    refine e_C (i := s) rfl (by omega) (by decide) ?_
    rw [if_neg h, nI_clamp (by omega)]
    rfl
theorem z_upd_s {f : Nat → Int32} {s : Nat} {v : Int32} : upd f s v s = v := by rw [q_upd, if_pos rfl]
theorem z_upd_n {f : Nat → Int32} {s j : Nat} {v : Int32} (h : j ≠ s) : upd f s v j = f j := by rw [q_upd, if_neg h]
theorem s_learnSpell_L {P M s : Nat} {sp : Nat → Nat → Nat} {kf nf sf tf mf wf bn wk : Nat → Int32} (ok : z_ok P M sp) (ht : z_tol M sp kf nf sf tf mf wf) (hs : s < M) : ∀ r i k (ak kn mk va : Nat → Int32), i + r = sp s 2 → r < k → z_Ri M sp s i (ak s) (kn s) (mk s) (va s) → wp (f_Ru_learnSpell_L76 (nI M) kf nf sf tf mf wf bn wk (nI s) k (nI i) ak kn mk va) (fun q => z_Ri M sp s (sp s 2) (q.1 s) (q.2.1 s) (q.2.2.1 s) (q.2.2.2 s) ∧ ∀ j, j ≠ s → q.1 j = ak j ∧ q.2.1 j = kn j ∧ q.2.2.1 j = mk j ∧ q.2.2.2 j = va j) := by
  have hM := ok.2.2.1
  have hP := ok.2.1
  obtain ⟨e0, e1, e2, e9, et⟩ := ht s hs
  obtain ⟨b0, b1, b2, b3, b4, b5⟩ := z_small ok hs
  have okS := ok.2.2.2 s hs
  intro r
  induction r with
  | zero =>
    intro i k ak kn mk va hi hk hR
    obtain ⟨k, rfl⟩ : ∃ k', k = k' + 1 := ⟨k - 1, by omega⟩
    have : i = sp s 2 := by omega
    subst this
    rw [f_Ru_learnSpell_L76]
    have fin : wp (some (ak, kn, mk, va)) (fun q => z_Ri M sp s (sp s 2) (q.1 s) (q.2.1 s) (q.2.2.1 s) (q.2.2.2 s) ∧ ∀ j, j ≠ s → q.1 j = ak j ∧ q.2.1 j = kn j ∧ q.2.2.1 j = mk j ∧ q.2.2.2 j = va j) := w_some ⟨hR, fun j _ => ⟨rfl, rfl, rfl, rfl⟩⟩
    refine w_if (fun _ => fin) (fun _ => ?_)
    refine w_Be (t_termsOf hM hs mf) ?_
    rw [e2]
    refine w_T (nI_le (Nat.le_refl _) (by omega)) fin
  | succ r ih =>
    intro i k ak kn mk va hi hk hR
    obtain ⟨k, rfl⟩ : ∃ k', k = k' + 1 := ⟨k - 1, by omega⟩
    have hi2 : i < sp s 2 := by omega
    obtain ⟨f1, f2⟩ := et i hi2
    obtain ⟨c0, c1⟩ := z_smallT ok hs hi2
    have okT := okS.2.2.2.2.2.1 i hi2
    obtain ⟨t1, t2, t3, t4, t5, t6⟩ := id okT
    rw [f_Ru_learnSpell_L76]
    refine w_F (by simp (disch := omega) only [q_lit, q_ofn, nI_add, q_mul, q_sub, q_shrm, q_shlm, q_a31s, q_a1, q_a3, q_a7, q_a65535, q_div, q_rem2, z_mm, nI_clamp, Nat.reduceMul, Nat.reduceAdd, Nat.reduceSub, Nat.reducePow, Nat.reduceMod, Nat.reduceDiv, Nat.one_mul, nI_ltI, nI_leI, nI_eq, q_b0, q_b1, q_m1lt, q_m1le, q_ltm1, q_lem1, q_eqm1, q_m1eq, not_true_eq_false, not_false_eq_true, reduceCtorEq, *] <;> first | omega | decide) ?_
    refine w_Be (t_termsOf hM hs mf) ?_
    rw [e2]
    refine w_F (by simp (disch := omega) only [q_lit, q_ofn, nI_add, q_mul, q_sub, q_shrm, q_shlm, q_a31s, q_a1, q_a3, q_a7, q_a65535, q_div, q_rem2, z_mm, nI_clamp, Nat.reduceMul, Nat.reduceAdd, Nat.reduceSub, Nat.reducePow, Nat.reduceMod, Nat.reduceDiv, Nat.one_mul, nI_ltI, nI_leI, nI_eq, q_b0, q_b1, q_m1lt, q_m1le, q_ltm1, q_lem1, q_eqm1, q_m1eq, not_true_eq_false, not_false_eq_true, reduceCtorEq, *] <;> first | omega | decide) ?_
    refine w_Be (t_sortOf hM hs e2 b4 hi2 sf) ?_
    refine w_Be (t_numberOf hM hs e2 b4 hi2 nf) ?_
    rw [f1, f2]
    have next : ∀ (ak' kn' mk' va' : Nat → Int32), z_Ri M sp s (i + 1) (ak' s) (kn' s) (mk' s) (va' s) → (∀ j, j ≠ s → ak' j = ak j ∧ kn' j = kn j ∧ mk' j = mk j ∧ va' j = va j) → wp (f_Ru_learnSpell_L76 (nI M) kf nf sf tf mf wf bn wk (nI s) k (nI i + 1) ak' kn' mk' va') (fun q => z_Ri M sp s (sp s 2) (q.1 s) (q.2.1 s) (q.2.2.1 s) (q.2.2.2 s) ∧ ∀ j, j ≠ s → q.1 j = ak j ∧ q.2.1 j = kn j ∧ q.2.2.1 j = mk j ∧ q.2.2.2 j = va j) := by
      intro ak' kn' mk' va' h1 h2
      rw [show nI i + 1 = nI (i + 1) by simp only [q_lit, nI_add]]
      refine w_mono (ih (i + 1) k ak' kn' mk' va' (by omega) (by omega) h1) (fun q hq => ⟨hq.1, fun j hj => ?_⟩)
      obtain ⟨u1, u2, u3, u4⟩ := hq.2 j hj
      obtain ⟨w1, w2, w3, w4⟩ := h2 j hj
      exact ⟨u1.trans w1, u2.trans w2, u3.trans w3, u4.trans w4⟩
    by_cases h0 : sp s (3 + 2 * i) = 0
    · refine w_T (by rw [h0]; rfl) ?_
      refine w_Be (t_kindOf hM hs kf) ?_
      rw [e0]
      by_cases h3 : sp s 0 = 3
      · refine w_T (by rw [h3, q_lit]) ?_
        unfold f_Ru_learnSpell_J140 f_Ru_learnSpell_J192
        refine w_Be (t_needKiss (by omega)) ?_
        refine w_L ?_
        refine next _ _ _ _ ?_ (fun j hj => ⟨rfl, z_upd_n hj, rfl, rfl⟩)
        rw [z_upd_s]
        refine z_Ri_kiss hR (fun y D hD => ?_) (Or.inl rfl)
        unfold z_so
        rw [if_pos h0, if_pos h3]
        exact ⟨fun h => (by cases h), fun h => absurd rfl h.1⟩
      · have hp := okS.2.2.1 h3
        have hv := t2 (by omega)
        refine w_F (by simp (disch := omega) only [q_lit, q_ofn, nI_add, q_mul, q_sub, q_shrm, q_shlm, q_a31s, q_a1, q_a3, q_a7, q_a65535, q_div, q_rem2, z_mm, nI_clamp, Nat.reduceMul, Nat.reduceAdd, Nat.reduceSub, Nat.reducePow, Nat.reduceMod, Nat.reduceDiv, Nat.one_mul, nI_ltI, nI_leI, nI_eq, q_b0, q_b1, q_m1lt, q_m1le, q_ltm1, q_lem1, q_eqm1, q_m1eq, not_true_eq_false, not_false_eq_true, reduceCtorEq, *] <;> first | omega | decide) ?_
        refine w_Be (t_targetOf hM hs tf) ?_
        rw [e1]
        unfold f_Ru_kissOf
        refine w_Be (q := nI (1 + sp s (4 + 2 * i) * 3 + sp s 1)) (by simp only [q_lit, q_mul, nI_add]) ?_
        unfold f_Ru_learnSpell_J140 f_Ru_learnSpell_J192
        refine w_Be (t_needKiss (by omega)) ?_
        refine w_L ?_
        refine next _ _ _ _ ?_ (fun j hj => ⟨rfl, z_upd_n hj, rfl, rfl⟩)
        rw [z_upd_s]
        refine z_Ri_kiss hR (fun y D hD => ?_) (Or.inr ⟨_, by omega, by omega, rfl⟩)
        unfold z_so
        have hz := z_kc_lt D hD
        rw [if_pos h0, if_neg h3, decide_eq_true_iff, nI_eq (by omega) (by omega), z_kc_eq hD (by omega) (by omega)]
        exact ⟨fun h => ⟨fun e => (q_eqm1 (by omega)).mp e, h⟩, fun h => h.2⟩
    · refine w_F (by simp (disch := omega) only [q_lit, q_ofn, nI_add, q_mul, q_sub, q_shrm, q_shlm, q_a31s, q_a1, q_a3, q_a7, q_a65535, q_div, q_rem2, z_mm, nI_clamp, Nat.reduceMul, Nat.reduceAdd, Nat.reduceSub, Nat.reducePow, Nat.reduceMod, Nat.reduceDiv, Nat.one_mul, nI_ltI, nI_leI, nI_eq, q_b0, q_b1, q_m1lt, q_m1le, q_ltm1, q_lem1, q_eqm1, q_m1eq, not_true_eq_false, not_false_eq_true, reduceCtorEq, *] <;> first | omega | decide) ?_
      by_cases h7 : sp s (3 + 2 * i) = 7
      · have hv := t6 h7
        refine w_T (by rw [h7, q_lit]) ?_
        refine w_I (i := s) rfl (by omega) (by decide) ?_
        refine w_L ?_
        refine w_C (i := s) rfl (by omega) (by decide) ?_
        unfold f_Ru_learnSpell_J192
        refine w_L ?_
        rw [nI_clamp (by omega)]
        refine next _ _ _ _ ?_ (fun j hj => ⟨z_upd_n hj, rfl, rfl, rfl⟩)
        rw [z_upd_s]
        refine z_Ri_ask hR (by omega) (fun y D hD => ?_)
        unfold z_so
        simp only [h7, Nat.reduceEqDiff, if_false, decide_eq_true_iff]
      · refine w_F (by simp (disch := omega) only [q_lit, q_ofn, nI_add, q_mul, q_sub, q_shrm, q_shlm, q_a31s, q_a1, q_a3, q_a7, q_a65535, q_div, q_rem2, z_mm, nI_clamp, Nat.reduceMul, Nat.reduceAdd, Nat.reduceSub, Nat.reducePow, Nat.reduceMod, Nat.reduceDiv, Nat.one_mul, nI_ltI, nI_leI, nI_eq, q_b0, q_b1, q_m1lt, q_m1le, q_ltm1, q_lem1, q_eqm1, q_m1eq, not_true_eq_false, not_false_eq_true, reduceCtorEq, *] <;> first | omega | decide) ?_
        refine w_Be (t_mask t1 c1) ?_
        refine w_Be (t_value t1 c1) ?_
        refine w_Be (t_needBits (by omega)) ?_
        unfold f_Ru_learnSpell_J192
        refine w_L ?_
        obtain ⟨g1, g2⟩ := z_mk_lt hP b0 okT
        refine next _ _ _ _ ?_ (fun j hj => ⟨rfl, by split <;> first | rfl | exact z_upd_n hj, z_upd_n hj, z_upd_n hj⟩)
        rw [z_upd_s, z_upd_s]
        have hkn : (if (mk s &&& nI (z_mk (sp s (3 + 2 * i)) (sp s (4 + 2 * i)))) &&& (va s ^^^ nI (z_vl (sp s (3 + 2 * i)) (sp s (4 + 2 * i)))) = nI 0 then kn else upd kn s (-nI 1)) s = (if (mk s &&& nI (z_mk (sp s (3 + 2 * i)) (sp s (4 + 2 * i)))) &&& (va s ^^^ nI (z_vl (sp s (3 + 2 * i)) (sp s (4 + 2 * i)))) = nI 0 then kn s else -nI 1) := by
          split
          · rfl
          · exact z_upd_s
        rw [hkn]
        refine z_Ri_bits hR g1 g2 (fun y D hy hD => ?_)
        rw [z_term hy (by omega) (by omega)]
        unfold z_so
        rw [if_neg h0]
        by_cases h6 : sp s (3 + 2 * i) = 6
        · simp only [h6, Nat.reduceEqDiff, if_false, if_true]
        · rw [if_neg h6]
          have hc : sp s (3 + 2 * i) = 1 ∨ sp s (3 + 2 * i) = 2 ∨ sp s (3 + 2 * i) = 3 ∨ sp s (3 + 2 * i) = 4 ∨ sp s (3 + 2 * i) = 5 := by omega
          rcases hc with hc | hc | hc | hc | hc <;> simp only [hc, Nat.reduceEqDiff, if_false, if_true]
