/-! a spell learnt whole; the deeds; all -/
def z_R1 (M : Nat) (sp : Nat → Nat → Nat) (s : Nat) (ak kn mk va wk : Int32) : Prop := wk = nI (z_wk (sp s 9)) ∧ ∀ y D, y < 2 ^ 16 → D < 22 →
  ((nI y &&& mk = va ∧ ¬ nI (y / 1024 % 8) < ak ∧ (kn = nI 0 ∨ kn = nI (z_kc D))) ↔ (y.testBit s = true ∧ z_und M sp y s 3 = false ∧ z_all (fun i => z_so sp y s i D) (sp s 2) = true))
theorem z_R1_of {M s : Nat} {sp : Nat → Nat → Nat} {ak kn mk va wk : Int32} (h : z_Ri M sp s (sp s 2) ak kn mk va) (hw : wk = nI (z_wk (sp s 9))) : z_R1 M sp s ak kn mk va wk := by
  obtain ⟨a, m, v, h1, h2, h3, h4, h5, h6, h7, h8, h9⟩ := h
  refine ⟨hw, fun y D hy hD => ?_⟩
  rw [← h9 y D hy hD, h1, h2, h3, q_and, nI_eq (Nat.lt_of_le_of_lt Nat.and_le_left (by omega)) (by omega), nI_ltI (by omega) (by omega)]
  rw [Nat.not_lt]
theorem z_cur_nos {P M s : Nat} {sp : Nat → Nat → Nat} (ok : z_ok P M sp) : (z_cur M sp 3 s).testBit s = false := by
  unfold z_cur
  rw [z_bm_bit]
  by_cases h : s < M
  · by_cases h3 : sp s 0 = 3
    · have := (ok.2.2.2 s h).2.1 h3
      simp [h, h3]; omega
    · simp [h3]
  · simp [h]
theorem z_Ri_0 {P M s : Nat} {sp : Nat → Nat → Nat} (ok : z_ok P M sp) (hs : s < M) : z_Ri M sp s 0 (nI 0) (nI 0) (nI (2 ^ s ||| z_cur M sp 3 s)) (nI (2 ^ s)) := by
  have hM := ok.2.2.1
  have l1 : 2 ^ s < 2 ^ 16 := Nat.pow_lt_pow_right (by decide) (by omega)
  have l2 : z_cur M sp 3 s < 2 ^ 16 := Nat.lt_of_lt_of_le (z_cur_lt M sp 3 s) (Nat.pow_le_pow_right (by decide) (by omega))
  refine ⟨0, _, _, rfl, rfl, rfl, by omega, Nat.or_lt_two_pow l1 l2, l1, ?_, Or.inr ⟨0, by omega, rfl⟩, ?_⟩
  · rw [Nat.and_or_distrib_left, Nat.and_self, Nat.and_comm, (z_andp0 _ _).mpr (z_cur_nos ok), Nat.or_zero]
  · intro y D hy hD
    have hm := z_masks (y := y) (a := 2 ^ s) (va := 2 ^ s) (b := z_cur M sp 3 s) (vb := 0) (Nat.and_self _) (Nat.zero_and _) (by rw [Nat.and_comm (2 ^ s), (z_andp0 _ _).mpr (z_cur_nos ok), Nat.zero_and])
    rw [Nat.or_zero] at hm
    rw [hm, z_andp1]
    have hb : (y &&& z_cur M sp 3 s = 0) ↔ z_und M sp y s 3 = false := z_bm_and _ M y
    rw [hb]
    simp only [z_all, Nat.zero_le, true_or, true_and, and_true]
theorem s_learnSpell {P M s k : Nat} {sp : Nat → Nat → Nat} {kf nf sf tf mf wf ak bn cu kn mk va wk : Nat → Int32} (ok : z_ok P M sp) (ht : z_tol M sp kf nf sf tf mf wf) (hg : z_tg M sp bn cu) (hs : s < M) (hk : 5 < k) : wp (f_Ru_learnSpell k (nI M) kf nf sf tf mf wf ak bn kn mk va wk (nI s)) (fun q => z_R1 M sp s (q.1 s) (q.2.1 s) (q.2.2.1 s) (q.2.2.2.1 s) (q.2.2.2.2 s) ∧ ∀ j, j ≠ s → q.1 j = ak j ∧ q.2.1 j = kn j ∧ q.2.2.1 j = mk j ∧ q.2.2.2.1 j = va j ∧ q.2.2.2.2 j = wk j) := by
  have hM := ok.2.2.1
  obtain ⟨e0, e1, e2, e9, et⟩ := ht s hs
  obtain ⟨b0, b1, b2, b3, b4, b5⟩ := z_small ok hs
  unfold f_Ru_learnSpell
  refine w_F (by simp (disch := omega) only [q_lit, q_ofn, nI_add, q_mul, q_sub, q_shrm, q_shlm, q_a31s, q_a1, q_a3, q_a7, q_a65535, q_div, q_rem2, z_mm, nI_clamp, Nat.reduceMul, Nat.reduceAdd, Nat.reduceSub, Nat.reducePow, Nat.reduceMod, Nat.reduceDiv, Nat.one_mul, nI_ltI, nI_leI, nI_eq, q_b0, q_b1, q_m1lt, q_m1le, q_ltm1, q_lem1, q_eqm1, q_m1eq, not_true_eq_false, not_false_eq_true, reduceCtorEq, *] <;> first | omega | decide) ?_
  refine w_T (by simp (disch := omega) only [q_lit, q_ofn, nI_add, q_mul, q_sub, q_shrm, q_shlm, q_a31s, q_a1, q_a3, q_a7, q_a65535, q_div, q_rem2, z_mm, nI_clamp, Nat.reduceMul, Nat.reduceAdd, Nat.reduceSub, Nat.reducePow, Nat.reduceMod, Nat.reduceDiv, Nat.one_mul, nI_ltI, nI_leI, nI_eq, q_b0, q_b1, q_m1lt, q_m1le, q_ltm1, q_lem1, q_eqm1, q_m1eq, not_true_eq_false, not_false_eq_true, reduceCtorEq, *] <;> first | omega | decide) ?_
  refine w_I (i := s) rfl (by omega) (by decide) ?_
  rw [hg.1 s b0]
  refine w_Ln (w := nI (2 ^ s ||| z_cur M sp 3 s)) (by simp (disch := omega) only [q_lit, q_a31s, q_shlm, Nat.one_mul, q_or]) ?_
  refine w_C (i := s) rfl (by omega) (by decide) ?_
  refine w_Ln (w := nI (2 ^ s)) (by simp (disch := omega) only [q_lit, q_a31s, q_shlm, Nat.one_mul]) ?_
  refine w_C (i := s) rfl (by omega) (by decide) ?_
  refine w_C (i := s) rfl (by omega) (by decide) ?_
  refine w_C (i := s) rfl (by omega) (by decide) ?_
  refine w_Be (t_wakenedBy hM hs wf) ?_
  rw [e9]
  have J : ∀ w : Int32, w = nI (z_wk (sp s 9)) → wp (f_Ru_learnSpell_J72 k (nI M) kf nf sf tf mf wf (upd ak (nI s).toNatClampNeg (0 : Int32)) bn (upd kn (nI s).toNatClampNeg (0 : Int32)) (upd mk (nI s).toNatClampNeg (nI (2 ^ s ||| z_cur M sp 3 s))) (upd va (nI s).toNatClampNeg (nI (2 ^ s))) wk (nI s) w (nI s)) (fun q => z_R1 M sp s (q.1 s) (q.2.1 s) (q.2.2.1 s) (q.2.2.2.1 s) (q.2.2.2.2 s) ∧ ∀ j, j ≠ s → q.1 j = ak j ∧ q.2.1 j = kn j ∧ q.2.2.1 j = mk j ∧ q.2.2.2.1 j = va j ∧ q.2.2.2.2 j = wk j) := by
    intro w hw
    unfold f_Ru_learnSpell_J72
    rw [nI_clamp (by omega)]
    refine w_C (i := s) rfl (by omega) (by decide) ?_
    refine w_Bw (s_learnSpell_L ok ht hs (sp s 2) 0 k _ _ _ _ (by omega) (by omega) (by rw [z_upd_s, z_upd_s, z_upd_s, z_upd_s]; exact z_Ri_0 ok hs)) (fun q hq => ?_)
    obtain ⟨q1, q2, q3, q4⟩ := q
    refine w_some ⟨z_R1_of hq.1 ?_, fun j hj => ?_⟩
    · show upd wk s w s = _
      rw [z_upd_s, hw]
    · obtain ⟨u1, u2, u3, u4⟩ := hq.2 j hj
      rw [z_upd_n hj] at u1 u2 u3 u4
      exact ⟨u1, u2, u3, u4, z_upd_n hj⟩
  by_cases h9 : sp s 9 = 0
  · rw [if_pos h9]
    refine w_T rfl ?_
    refine J 0 ?_
    rw [h9]; rfl
  · rw [if_neg h9]
    refine w_F (fun e => (q_eqm1 (by omega)).mp e) ?_
    refine J _ ?_
    simp (disch := omega) only [q_lit, q_a31s, q_shlm, Nat.one_mul]
    unfold z_wk
    rw [if_neg h9]
/-! deeds -/
def z_srt (D : Nat) : Nat := if D = 21 then 4 else if D % 7 < 3 then 0 else if D % 7 = 3 then 1 else if D % 7 < 6 then 2 else 3
def z_whc (D : Nat) : Nat := if D = 21 then 0 else if D % 7 < 3 then D % 7 else if D % 7 = 3 then 0 else if D % 7 < 6 then D % 7 - 4 else 0
def z_bar (M : Nat) (sp : Nat → Nat → Nat) (D : Nat) : Nat := if D = 21 then 0 else if D % 7 < 3 then z_cur M sp 0 (D / 7) else if D % 7 = 3 then z_cur M sp 0 (D / 7) ||| 2 ^ (7 + D / 7) else if D % 7 < 6 then z_cur M sp 0 (D / 7) ||| z_cur M sp 1 (D / 7) ||| 2 ^ (5 + (D % 7 - 4)) else z_cur M sp 0 (D / 7) ||| z_cur M sp 2 (D / 7)
def z_bit (D : Nat) : Nat := if D = 21 then 0 else if D % 7 < 3 then 0 else if D % 7 = 3 then 2 ^ (7 + D / 7) else if D % 7 < 6 then 2 ^ (5 + (D % 7 - 4)) else 1024
/-- deeds in their order: how many, bars, bits, doers, kisses, sorts, whichs -/
def z_dt (M : Nat) (sp : Nat → Nat → Nat) (Ds : List Nat) (o : Int32 × (Nat → Int32) × (Nat → Int32) × (Nat → Int32) × (Nat → Int32) × (Nat → Int32) × (Nat → Int32)) : Prop := o.1 = nI Ds.length ∧ ∀ d D, Ds[d]? = some D → o.2.1 d = nI (z_bar M sp D) ∧ o.2.2.1 d = nI (z_bit D) ∧ o.2.2.2.1 d = (if D = 21 then -nI 1 else nI (D / 7)) ∧ o.2.2.2.2.1 d = nI (z_kc D) ∧ o.2.2.2.2.2.1 d = nI (z_srt D) ∧ o.2.2.2.2.2.2 d = nI (z_whc D)
theorem z_app1 {L : List Nat} {e f : Nat} {i : Nat} (h : (L ++ [e])[i]? = some f) : (i < L.length ∧ L[i]? = some f) ∨ (i = L.length ∧ f = e) := by
  rcases Nat.lt_trichotomy i L.length with hi | hi | hi
  · rw [List.getElem?_append_left hi] at h
    exact Or.inl ⟨hi, h⟩
  · subst hi
    rw [List.getElem?_append_right (Nat.le_refl _), Nat.sub_self] at h
    exact Or.inr ⟨rfl, (Option.some.inj h).symm⟩
  · rw [List.getElem?_eq_none (by rw [List.length_append, List.length_singleton]; omega)] at h
    cases h
theorem s_addDeed {M D : Nat} {sp : Nat → Nat → Nat} {Ds : List Nat} {c : Int32} {ba bi dr ks so wh : Nat → Int32} {p1 p2 p3 p4 p5 : Int32} (h : z_dt M sp Ds (c, ba, bi, dr, ks, so, wh)) (hl : Ds.length < 19) (h1 : p1 = (if D = 21 then -nI 1 else nI (D / 7))) (h2 : p2 = nI (z_srt D)) (h3 : p3 = nI (z_whc D)) (h4 : p4 = nI (z_bar M sp D)) (h5 : p5 = nI (z_bit D)) : wp (f_Ru_addDeed c ba bi dr ks so wh p1 p2 p3 p4 p5) (z_dt M sp (Ds ++ [D])) := by
  obtain ⟨hc, hd⟩ := h
  simp only at hc hd
  subst hc
  have fin : ∀ ks', (∀ j, j ≠ Ds.length → ks' j = ks j) → ks' Ds.length = nI (z_kc D) → wp (some (nI (Ds.length + 1), upd ba Ds.length p4, upd bi Ds.length p5, upd dr Ds.length p1, ks', upd so Ds.length p2, upd wh Ds.length p3)) (z_dt M sp (Ds ++ [D])) := by
    intro ks' k1 k2
    refine w_some ⟨by rw [List.length_append, List.length_singleton], ?_⟩
    intro d E hE
    rcases z_app1 hE with ⟨hl, he⟩ | ⟨hl, he⟩
    · have hne : d ≠ Ds.length := by omega
      obtain ⟨a1, a2, a3, a4, a5, a6⟩ := hd d E he
      simp only [z_upd_n hne]
      exact ⟨a1, a2, a3, (k1 d hne).trans a4, a5, a6⟩
    · subst hl; subst he
      simp only [z_upd_s]
      exact ⟨h4, h5, h1, k2, h2, h3⟩
  unfold f_Ru_addDeed f_Ru_addDeed_J90
  refine w_F (by simp (disch := omega) only [q_lit, q_ofn, nI_add, q_mul, q_sub, q_shrm, q_shlm, q_a31s, q_a1, q_a3, q_a7, q_a65535, q_div, q_rem2, z_mm, nI_clamp, Nat.reduceMul, Nat.reduceAdd, Nat.reduceSub, Nat.reducePow, Nat.reduceMod, Nat.reduceDiv, Nat.one_mul, nI_ltI, nI_leI, nI_eq, q_b0, q_b1, q_m1lt, q_m1le, q_ltm1, q_lem1, q_eqm1, q_m1eq, not_true_eq_false, not_false_eq_true, reduceCtorEq, *] <;> first | omega | decide) ?_
  refine w_T (by simp (disch := omega) only [q_lit, q_ofn, nI_add, q_mul, q_sub, q_shrm, q_shlm, q_a31s, q_a1, q_a3, q_a7, q_a65535, q_div, q_rem2, z_mm, nI_clamp, Nat.reduceMul, Nat.reduceAdd, Nat.reduceSub, Nat.reducePow, Nat.reduceMod, Nat.reduceDiv, Nat.one_mul, nI_ltI, nI_leI, nI_eq, q_b0, q_b1, q_m1lt, q_m1le, q_ltm1, q_lem1, q_eqm1, q_m1eq, not_true_eq_false, not_false_eq_true, reduceCtorEq, *] <;> first | omega | decide) ?_
  refine w_C (i := Ds.length) rfl (by omega) (by decide) ?_
  refine w_C (i := Ds.length) rfl (by omega) (by decide) ?_
  refine w_C (i := Ds.length) rfl (by omega) (by decide) ?_
  refine w_C (i := Ds.length) rfl (by omega) (by decide) ?_
  refine w_C (i := Ds.length) rfl (by omega) (by decide) ?_
  rw [nI_clamp (by omega)]
  by_cases hk : z_srt D = 0
  · have hD : D ≠ 21 ∧ D % 7 < 3 := by
      unfold z_srt at hk
      split at hk
      · omega
      · split at hk
        · omega
        · split at hk
          · omega
          · split at hk <;> omega
    refine w_T (by rw [h2, hk]; rfl) ?_
    unfold f_Ru_kissOf
    refine w_Be (q := nI (z_kc D)) ?_ ?_
    · rw [h1, h3, if_neg hD.1]
      unfold z_whc z_kc
      rw [if_neg hD.1, if_neg hD.1, if_pos hD.2, if_pos hD.2]
      simp only [q_lit, q_mul, nI_add]
    · refine w_C (i := Ds.length) rfl (by omega) (by decide) ?_
      refine w_Ln (w := nI (Ds.length + 1)) (by simp only [q_lit, nI_add]) ?_
      exact fin _ (fun j hj => z_upd_n hj) z_upd_s
  · have hs : z_srt D ≤ 4 := by unfold z_srt; (repeat' split) <;> omega
    refine w_F (by rw [h2]; simp (disch := omega) only [q_lit, nI_eq]; exact hk) ?_
    refine w_C (i := Ds.length) rfl (by omega) (by decide) ?_
    refine w_Ln (w := nI (Ds.length + 1)) (by simp only [q_lit, nI_add]) ?_
    refine fin _ (fun j hj => z_upd_n hj) ?_
    rw [z_upd_s]
    have hz : z_kc D = 0 := by
      unfold z_kc
      split
      · rfl
      · split
        · next h21 h3 =>
          exfalso
          apply hk
          unfold z_srt
          rw [if_neg h21, if_pos h3]
        · rfl
    rw [hz]; rfl
theorem t_cursesOn {M p kd : Nat} {sp : Nat → Nat → Nat} {bn cu : Nat → Int32} (hg : z_tg M sp bn cu) (hp : p < 3) (hk : kd < 3) : f_Ru_cursesOn cu (nI p) (nI kd) = some (nI (z_cur M sp kd p)) := by
  unfold f_Ru_cursesOn
  rw [t_isCurse (by omega) (by omega), q_B, decide_eq_true ⟨hp, hk⟩]
  refine e_F (by decide) ?_
  refine e_L ?_
  simp only [q_lit, q_mul, nI_add]
  rw [q_I cu _ (by omega) (by decide), hg.2 kd hk p hp]
def z_kl (p : Nat) : Nat → Nat → List Nat
  | _, 0 => []
  | i, r + 1 => (if i = p then [] else [7 * p + i]) ++ z_kl p (i + 1) r
theorem z_kl_len (p i r : Nat) : (z_kl p i r).length ≤ r := by
  induction r generalizing i with
  | zero => exact Nat.le_refl _
  | succ r ih =>
    have := ih (i + 1)
    unfold z_kl
    rw [List.length_append]
    split
    · simp; omega
    · simp; omega
theorem s_deeds_kiss {P M p : Nat} {sp : Nat → Nat → Nat} {cu : Nat → Int32} (hP : P ≤ 3) (hp : p < P) : ∀ r i k (Ds : List Nat) (c : Int32) (ba bi dr ks so wh : Nat → Int32), i + r = P → r < k → Ds.length + r ≤ 18 → z_dt M sp Ds (c, ba, bi, dr, ks, so, wh) → wp (f_Ru_learnDeeds_L29 (nI P) cu (nI p) (nI (z_cur M sp 0 p)) k (nI i) c ba bi dr ks so wh) (z_dt M sp (Ds ++ z_kl p i r)) := by
  intro r
  induction r with
  | zero =>
    intro i k Ds c ba bi dr ks so wh hi hk hl hd
    obtain ⟨k, rfl⟩ : ∃ k', k = k' + 1 := ⟨k - 1, by omega⟩
    have : i = P := by omega
    subst this
    rw [f_Ru_learnDeeds_L29]
    refine w_T (nI_le (Nat.le_refl _) (by omega)) (w_some ?_)
    unfold z_kl
    rw [List.append_nil]
    exact hd
  | succ r ih =>
    intro i k Ds c ba bi dr ks so wh hi hk hl hd
    obtain ⟨k, rfl⟩ : ∃ k', k = k' + 1 := ⟨k - 1, by omega⟩
    rw [f_Ru_learnDeeds_L29]
    refine w_F (by simp (disch := omega) only [q_lit, q_ofn, nI_add, q_mul, q_sub, q_shrm, q_shlm, q_a31s, q_a1, q_a3, q_a7, q_a65535, q_div, q_rem2, z_mm, nI_clamp, Nat.reduceMul, Nat.reduceAdd, Nat.reduceSub, Nat.reducePow, Nat.reduceMod, Nat.reduceDiv, Nat.one_mul, nI_ltI, nI_leI, nI_eq, q_b0, q_b1, q_m1lt, q_m1le, q_ltm1, q_lem1, q_eqm1, q_m1eq, not_true_eq_false, not_false_eq_true, reduceCtorEq, *] <;> first | omega | decide) ?_
    refine w_F (by simp (disch := omega) only [q_lit, q_ofn, nI_add, q_mul, q_sub, q_shrm, q_shlm, q_a31s, q_a1, q_a3, q_a7, q_a65535, q_div, q_rem2, z_mm, nI_clamp, Nat.reduceMul, Nat.reduceAdd, Nat.reduceSub, Nat.reducePow, Nat.reduceMod, Nat.reduceDiv, Nat.one_mul, nI_ltI, nI_leI, nI_eq, q_b0, q_b1, q_m1lt, q_m1le, q_ltm1, q_lem1, q_eqm1, q_m1eq, not_true_eq_false, not_false_eq_true, reduceCtorEq, *] <;> first | omega | decide) ?_
    unfold z_kl
    by_cases h : i = p
    · refine w_T (by rw [h]) ?_
      rw [if_pos h, List.nil_append]
      unfold f_Ru_learnDeeds_J56
      refine w_Ln (w := nI (i + 1)) (by simp only [q_lit, nI_add]) ?_
      exact ih (i + 1) k Ds c ba bi dr ks so wh (by omega) (by omega) (by omega) hd
    · refine w_F (by simp (disch := omega) only [nI_eq]; exact h) ?_
      rw [if_neg h, ← List.append_assoc]
      have e1 : (7 * p + i) / 7 = p := by omega
      have e2 : (7 * p + i) % 7 = i := by omega
      have e3 : 7 * p + i ≠ 21 := by omega
      have e4 : i < 3 := by omega
      refine w_Bw (s_addDeed (D := 7 * p + i) hd (by omega) (by rw [if_neg e3, e1]) ?_ ?_ ?_ ?_) (fun q hq => ?_)
      · unfold z_srt; rw [if_neg e3, e2, if_pos e4]; rfl
      · unfold z_whc; rw [if_neg e3, e2, if_pos e4]
      · unfold z_bar; rw [if_neg e3, e2, e1, if_pos e4]
      · unfold z_bit; rw [if_neg e3, e2, if_pos e4]; rfl
      · obtain ⟨q1, q2, q3, q4, q5, q6, q7⟩ := q
        unfold f_Ru_learnDeeds_J56
        refine w_Ln (w := nI (i + 1)) (by simp only [q_lit, nI_add]) ?_
        exact ih (i + 1) k _ q1 q2 q3 q4 q5 q6 q7 (by omega) (by omega) (by rw [List.length_append, List.length_singleton]; omega) hq
theorem s_deeds_gift {P M p : Nat} {sp : Nat → Nat → Nat} {bn cu : Nat → Int32} (hg : z_tg M sp bn cu) (hp : p < 3) : ∀ r i k (Ds : List Nat) (c : Int32) (ba bi dr ks so wh : Nat → Int32), i + r = 2 → r < k → Ds.length + r ≤ 18 → z_dt M sp Ds (c, ba, bi, dr, ks, so, wh) → wp (f_Ru_learnDeeds_L83 (nI P) cu (nI p) (nI (z_cur M sp 0 p)) k (nI i) c ba bi dr ks so wh) (z_dt M sp (Ds ++ (List.range' i r).map (fun g => 7 * p + 4 + g))) := by
  intro r
  induction r with
  | zero =>
    intro i k Ds c ba bi dr ks so wh hi hk hl hd
    obtain ⟨k, rfl⟩ : ∃ k', k = k' + 1 := ⟨k - 1, by omega⟩
    rw [f_Ru_learnDeeds_L83]
    refine w_T (by simp (disch := omega) only [q_lit, q_ofn, nI_add, q_mul, q_sub, q_shrm, q_shlm, q_a31s, q_a1, q_a3, q_a7, q_a65535, q_div, q_rem2, z_mm, nI_clamp, Nat.reduceMul, Nat.reduceAdd, Nat.reduceSub, Nat.reducePow, Nat.reduceMod, Nat.reduceDiv, Nat.one_mul, nI_ltI, nI_leI, nI_eq, q_b0, q_b1, q_m1lt, q_m1le, q_ltm1, q_lem1, q_eqm1, q_m1eq, not_true_eq_false, not_false_eq_true, reduceCtorEq, *] <;> first | omega | decide) (w_some ?_)
    rw [List.range'_zero, List.map_nil, List.append_nil]
    exact hd
  | succ r ih =>
    intro i k Ds c ba bi dr ks so wh hi hk hl hd
    obtain ⟨k, rfl⟩ : ∃ k', k = k' + 1 := ⟨k - 1, by omega⟩
    rw [f_Ru_learnDeeds_L83]
    refine w_F (by simp (disch := omega) only [q_lit, q_ofn, nI_add, q_mul, q_sub, q_shrm, q_shlm, q_a31s, q_a1, q_a3, q_a7, q_a65535, q_div, q_rem2, z_mm, nI_clamp, Nat.reduceMul, Nat.reduceAdd, Nat.reduceSub, Nat.reducePow, Nat.reduceMod, Nat.reduceDiv, Nat.one_mul, nI_ltI, nI_leI, nI_eq, q_b0, q_b1, q_m1lt, q_m1le, q_ltm1, q_lem1, q_eqm1, q_m1eq, not_true_eq_false, not_false_eq_true, reduceCtorEq, *] <;> first | omega | decide) ?_
    refine w_Ln (w := nI (2 ^ (5 + i))) (by simp (disch := omega) only [q_lit, nI_add, q_a31s, q_shlm, Nat.one_mul]) ?_
    refine w_Be (t_cursesOn hg hp (by decide : 1 < 3)) ?_
    have e1 : (7 * p + 4 + i) / 7 = p := by omega
    have e2 : (7 * p + 4 + i) % 7 = 4 + i := by omega
    have e3 : 7 * p + 4 + i ≠ 21 := by omega
    have n1 : ¬ 4 + i < 3 := by omega
    have n2 : ¬ 4 + i = 3 := by omega
    have n3 : 4 + i < 6 := by omega
    have n4 : 4 + i - 4 = i := by omega
    refine w_Bw (s_addDeed (D := 7 * p + 4 + i) hd (by omega) (by rw [if_neg e3, e1]) ?_ ?_ ?_ ?_) (fun q hq => ?_)
    · unfold z_srt; rw [if_neg e3, e2, if_neg n1, if_neg n2, if_pos n3]; rfl
    · unfold z_whc; rw [if_neg e3, e2, if_neg n1, if_neg n2, if_pos n3, n4]
    · unfold z_bar; rw [if_neg e3, e2, e1, if_neg n1, if_neg n2, if_pos n3, n4, q_or, q_or]
    · unfold z_bit; rw [if_neg e3, e2, if_neg n1, if_neg n2, if_pos n3, n4]
    · obtain ⟨q1, q2, q3, q4, q5, q6, q7⟩ := q
      refine w_Ln (w := nI (i + 1)) (by simp only [q_lit, nI_add]) ?_
      rw [List.range'_succ, List.map_cons, List.append_cons]
      exact ih (i + 1) k _ q1 q2 q3 q4 q5 q6 q7 (by omega) (by omega) (by rw [List.length_append, List.length_singleton]; omega) hq
/-- the deeds of one, of all -/
def z_dp (P p : Nat) : List Nat := z_kl p 0 P ++ [7 * p + 3] ++ (List.range' 0 2).map (fun g => 7 * p + 4 + g) ++ [7 * p + 6]
def z_dl (P : Nat) : Nat → Nat → List Nat
  | _, 0 => []
  | p, r + 1 => z_dp P p ++ z_dl P (p + 1) r
def z_dsv (P D : Nat) : Bool := decide (D = 21) || (decide (D / 7 < P) && (decide (3 ≤ D % 7) || (decide (D % 7 < P) && decide (D % 7 ≠ D / 7))))
def z_ds (P : Nat) : List Nat := (List.range 22).filter (z_dsv P)
theorem z_ds_eq {P : Nat} (h1 : 1 ≤ P) (h3 : P ≤ 3) : z_dl P 0 P ++ [21] = z_ds P := by
  have h : P = 1 ∨ P = 2 ∨ P = 3 := by omega
  rcases h with rfl | rfl | rfl <;> decide +kernel
theorem z_dp_len {P p : Nat} : (z_dp P p).length ≤ P + 4 := by
  have := z_kl_len p 0 P
  unfold z_dp
  simp only [List.length_append, List.length_singleton, List.length_map, List.length_range']
  omega
theorem z_kl3 : ∀ P, P ≤ 3 → ∀ p, p < P → (z_kl p 0 P).length + 1 = P := by decide +kernel
theorem z_dp_len3 {P p : Nat} (hP : P ≤ 3) (hp : p < P) : (z_dp P p).length = P + 3 := by
  have := z_kl3 P hP p hp
  unfold z_dp
  simp only [List.length_append, List.length_singleton, List.length_map, List.length_range']
  omega
theorem s_deeds_L7 {P M : Nat} {sp : Nat → Nat → Nat} {bn cu : Nat → Int32} (hg : z_tg M sp bn cu) (hP : P ≤ 3) : ∀ r p k (Ds : List Nat) (c : Int32) (ba bi dr ks so wh : Nat → Int32), p + r = P → r + 4 < k → Ds.length + r * (P + 3) ≤ 18 → z_dt M sp Ds (c, ba, bi, dr, ks, so, wh) → wp (f_Ru_learnDeeds_L7 (nI P) cu k (nI p) c ba bi dr ks so wh) (z_dt M sp (Ds ++ z_dl P p r)) := by
  intro r
  induction r with
  | zero =>
    intro p k Ds c ba bi dr ks so wh hi hk hl hd
    obtain ⟨k, rfl⟩ : ∃ k', k = k' + 1 := ⟨k - 1, by omega⟩
    have : p = P := by omega
    subst this
    rw [f_Ru_learnDeeds_L7]
    refine w_T (nI_le (Nat.le_refl _) (by omega)) (w_some ?_)
    unfold z_dl
    rw [List.append_nil]
    exact hd
  | succ r ih =>
    intro p k Ds c ba bi dr ks so wh hi hk hl hd
    obtain ⟨k, rfl⟩ : ∃ k', k = k' + 1 := ⟨k - 1, by omega⟩
    have hpP : p < P := by omega
    have hl' : Ds.length + (P + 3) ≤ 18 := by
      rw [Nat.add_mul, Nat.one_mul] at hl
      omega
    have hk3 := z_kl3 P hP p hpP
    rw [f_Ru_learnDeeds_L7]
    refine w_F (by simp (disch := omega) only [q_lit, q_ofn, nI_add, q_mul, q_sub, q_shrm, q_shlm, q_a31s, q_a1, q_a3, q_a7, q_a65535, q_div, q_rem2, z_mm, nI_clamp, Nat.reduceMul, Nat.reduceAdd, Nat.reduceSub, Nat.reducePow, Nat.reduceMod, Nat.reduceDiv, Nat.one_mul, nI_ltI, nI_leI, nI_eq, q_b0, q_b1, q_m1lt, q_m1le, q_ltm1, q_lem1, q_eqm1, q_m1eq, not_true_eq_false, not_false_eq_true, reduceCtorEq, *] <;> first | omega | decide) ?_
    refine w_F (by simp (disch := omega) only [q_lit, q_ofn, nI_add, q_mul, q_sub, q_shrm, q_shlm, q_a31s, q_a1, q_a3, q_a7, q_a65535, q_div, q_rem2, z_mm, nI_clamp, Nat.reduceMul, Nat.reduceAdd, Nat.reduceSub, Nat.reducePow, Nat.reduceMod, Nat.reduceDiv, Nat.one_mul, nI_ltI, nI_leI, nI_eq, q_b0, q_b1, q_m1lt, q_m1le, q_ltm1, q_lem1, q_eqm1, q_m1eq, not_true_eq_false, not_false_eq_true, reduceCtorEq, *] <;> first | omega | decide) ?_
    refine w_Be (t_cursesOn hg (by omega) (by decide : 0 < 3)) ?_
    refine w_Bw (s_deeds_kiss hP hpP P 0 k Ds c ba bi dr ks so wh (by omega) (by omega) (by omega) hd) (fun q hq => ?_)
    obtain ⟨q1, q2, q3, q4, q5, q6, q7⟩ := q
    unfold f_Ru_learnDeeds_J62
    refine w_Ln (w := nI (2 ^ (7 + p))) (by simp (disch := omega) only [q_lit, nI_add, q_a31s, q_shlm, Nat.one_mul]) ?_
    have g1 : (7 * p + 3) / 7 = p := by omega
    have g2 : (7 * p + 3) % 7 = 3 := by omega
    have g3 : 7 * p + 3 ≠ 21 := by omega
    refine w_Bw (s_addDeed (D := 7 * p + 3) hq (by rw [List.length_append]; omega) (by rw [if_neg g3, g1]) ?_ ?_ ?_ ?_) (fun q hq2 => ?_)
    · unfold z_srt; rw [if_neg g3, g2]; rfl
    · unfold z_whc; rw [if_neg g3, g2]; rfl
    · unfold z_bar; rw [if_neg g3, g2, g1, q_or]; rfl
    · unfold z_bit; rw [if_neg g3, g2, g1]; rfl
    obtain ⟨u1, u2, u3, u4, u5, u6, u7⟩ := q
    refine w_Bw (s_deeds_gift (P := P) hg (by omega) 2 0 k _ u1 u2 u3 u4 u5 u6 u7 (by omega) (by omega) (by simp only [List.length_append, List.length_singleton]; omega) hq2) (fun q hq3 => ?_)
    obtain ⟨v1, v2, v3, v4, v5, v6, v7⟩ := q
    refine w_Be (t_cursesOn hg (by omega) (by decide : 2 < 3)) ?_
    have j1 : (7 * p + 6) / 7 = p := by omega
    have j2 : (7 * p + 6) % 7 = 6 := by omega
    have j3 : 7 * p + 6 ≠ 21 := by omega
    refine w_Bw (s_addDeed (D := 7 * p + 6) hq3 (by simp only [List.length_append, List.length_singleton, List.length_map, List.length_range']; omega) (by rw [if_neg j3, j1]) ?_ ?_ ?_ ?_) (fun q hq4 => ?_)
    · unfold z_srt; rw [if_neg j3, j2]; rfl
    · unfold z_whc; rw [if_neg j3, j2]; rfl
    · unfold z_bar; rw [if_neg j3, j2, j1, q_or]; rfl
    · unfold z_bit; rw [if_neg j3, j2]; rfl
    obtain ⟨x1, x2, x3, x4, x5, x6, x7⟩ := q
    refine w_Ln (w := nI (p + 1)) (by simp only [q_lit, nI_add]) ?_
    have hd5 : z_dt M sp (Ds ++ z_dp P p) (x1, x2, x3, x4, x5, x6, x7) := by
      unfold z_dp
      simp only [List.append_assoc] at hq4 ⊢
      exact hq4
    have e := ih (p + 1) k (Ds ++ z_dp P p) x1 x2 x3 x4 x5 x6 x7 (by omega) (by omega) (by rw [List.length_append, z_dp_len3 hP hpP]; rw [Nat.add_mul, Nat.one_mul] at hl; omega) hd5
    rw [List.append_assoc] at e
    exact e
theorem s_deeds {P M k : Nat} {sp : Nat → Nat → Nat} {bn cu : Nat → Int32} {c : Int32} {ba bi dr ks so wh : Nat → Int32} (hg : z_tg M sp bn cu) (h1 : 1 ≤ P) (hP : P ≤ 3) (hk : 10 ≤ k) : wp (f_Ru_learnDeeds k c (nI P) ba bi cu dr ks so wh) (z_dt M sp (z_ds P)) := by
  unfold f_Ru_learnDeeds
  have hp : P * (P + 3) ≤ 18 := by
    have h : P = 1 ∨ P = 2 ∨ P = 3 := by omega
    rcases h with rfl | rfl | rfl <;> decide
  refine w_Bw (s_deeds_L7 hg hP P 0 k [] 0 ba bi dr ks so wh (by omega) (by omega) (by simp only [List.length_nil]; omega) ⟨rfl, fun d D h => by simp at h⟩) (fun q hq => ?_)
  obtain ⟨q1, q2, q3, q4, q5, q6, q7⟩ := q
  unfold f_Ru_learnDeeds_J148
  rw [List.nil_append] at hq
  have hlen : (z_dl P 0 P).length < 19 := by
    have h : P = 1 ∨ P = 2 ∨ P = 3 := by omega
    rcases h with rfl | rfl | rfl <;> decide +kernel
  refine w_Bw (s_addDeed (D := 21) hq hlen rfl rfl rfl rfl rfl) (fun q hq2 => ?_)
  obtain ⟨v1, v2, v3, v4, v5, v6, v7⟩ := q
  rw [z_ds_eq h1 hP] at hq2
  exact w_some hq2
theorem s_learn_L {P M : Nat} {sp : Nat → Nat → Nat} {kf nf sf tf mf wf bn cu ba bi dr ks so wh : Nat → Int32} {pe c : Int32} (ok : z_ok P M sp) (ht : z_tol M sp kf nf sf tf mf wf) (hg : z_tg M sp bn cu) : ∀ r i k (ak kn mk va wk : Nat → Int32), i + r = M → r + 5 < k → (∀ s, s < i → z_R1 M sp s (ak s) (kn s) (mk s) (va s) (wk s)) → wp (f_Ru_learn_L27 pe (nI M) c (nI P) (nI M) kf nf sf tf mf wf ba bn bi cu dr ks so wh k (nI i) ak kn mk va wk) (fun q => ∀ s, s < M → z_R1 M sp s (q.1 s) (q.2.1 s) (q.2.2.1 s) (q.2.2.2.1 s) (q.2.2.2.2 s)) := by
  have hM := ok.2.2.1
  intro r
  induction r with
  | zero =>
    intro i k ak kn mk va wk hi hk hR
    obtain ⟨k, rfl⟩ : ∃ k', k = k' + 1 := ⟨k - 1, by omega⟩
    have : i = M := by omega
    subst this
    rw [f_Ru_learn_L27]
    exact w_T (nI_le (Nat.le_refl _) (by omega)) (w_some hR)
  | succ r ih =>
    intro i k ak kn mk va wk hi hk hR
    obtain ⟨k, rfl⟩ : ∃ k', k = k' + 1 := ⟨k - 1, by omega⟩
    rw [f_Ru_learn_L27]
    refine w_F (by simp (disch := omega) only [q_lit, q_ofn, nI_add, q_mul, q_sub, q_shrm, q_shlm, q_a31s, q_a1, q_a3, q_a7, q_a65535, q_div, q_rem2, z_mm, nI_clamp, Nat.reduceMul, Nat.reduceAdd, Nat.reduceSub, Nat.reducePow, Nat.reduceMod, Nat.reduceDiv, Nat.one_mul, nI_ltI, nI_leI, nI_eq, q_b0, q_b1, q_m1lt, q_m1le, q_ltm1, q_lem1, q_eqm1, q_m1eq, not_true_eq_false, not_false_eq_true, reduceCtorEq, *] <;> first | omega | decide) ?_
    refine w_F (by simp (disch := omega) only [q_lit, q_ofn, nI_add, q_mul, q_sub, q_shrm, q_shlm, q_a31s, q_a1, q_a3, q_a7, q_a65535, q_div, q_rem2, z_mm, nI_clamp, Nat.reduceMul, Nat.reduceAdd, Nat.reduceSub, Nat.reducePow, Nat.reduceMod, Nat.reduceDiv, Nat.one_mul, nI_ltI, nI_leI, nI_eq, q_b0, q_b1, q_m1lt, q_m1le, q_ltm1, q_lem1, q_eqm1, q_m1eq, not_true_eq_false, not_false_eq_true, reduceCtorEq, *] <;> first | omega | decide) ?_
    refine w_Bw (s_learnSpell ok ht hg (by omega) (by omega)) (fun q hq => ?_)
    obtain ⟨q1, q2, q3, q4, q5⟩ := q
    refine w_Ln (w := nI (i + 1)) (by simp only [q_lit, nI_add]) ?_
    refine ih (i + 1) k q1 q2 q3 q4 q5 (by omega) (by omega) ?_
    intro s hs
    by_cases h : s = i
    · subst h; exact hq.1
    · obtain ⟨u1, u2, u3, u4, u5⟩ := hq.2 s h
      simp only at u1 u2 u3 u4 u5
      rw [u1, u2, u3, u4, u5]
      exact hR s (by omega)
/-- the rules as they follow from the land: deedCount people spells askings bars binders bits curses doers kisses kissesNeeded masks sorts values wakings whichs -/
def z_RU (P M : Nat) (sp : Nat → Nat → Nat) (q : Int32 × Int32 × Int32 × (Nat → Int32) × (Nat → Int32) × (Nat → Int32) × (Nat → Int32) × (Nat → Int32) × (Nat → Int32) × (Nat → Int32) × (Nat → Int32) × (Nat → Int32) × (Nat → Int32) × (Nat → Int32) × (Nat → Int32) × (Nat → Int32)) : Prop :=
  q.2.1 = nI P ∧ q.2.2.1 = nI M ∧ z_RA M sp q.2.2.2.1 q.2.2.2.2.2.2.2.2.2.2.1 q.2.2.2.2.2.2.2.2.2.2.2.1 q.2.2.2.2.2.2.2.2.2.2.2.2.2.1 q.2.2.2.2.2.2.2.2.2.2.2.2.2.2.1 ∧ z_tg M sp q.2.2.2.2.2.1 q.2.2.2.2.2.2.2.1 ∧ z_dt M sp (z_ds P) (q.1, q.2.2.2.2.1, q.2.2.2.2.2.2.1, q.2.2.2.2.2.2.2.2.1, q.2.2.2.2.2.2.2.2.2.1, q.2.2.2.2.2.2.2.2.2.2.2.2.1, q.2.2.2.2.2.2.2.2.2.2.2.2.2.2.2)
theorem s_learn {P M k : Nat} {sp : Nat → Nat → Nat} {kf nf sf tf mf wf ak ba bn bi cu dr ks kn mk so va wk wh : Nat → Int32} {c pe se : Int32} (ok : z_ok P M sp) (ht : z_tol M sp kf nf sf tf mf wf) (hk : 20 ≤ k) : wp (f_Ru_learn k (nI P) (nI M) c pe se kf nf sf tf mf wf ak ba bn bi cu dr ks kn mk so va wk wh) (z_RU P M sp) := by
  have hM := ok.2.2.1
  unfold f_Ru_learn f_To_people f_To_spells
  refine w_Be rfl ?_
  refine w_Be rfl ?_
  refine w_Ln (w := nI M) (by rw [if_neg (by simp (disch := omega) only [q_lit, q_ofn, nI_add, q_mul, q_sub, q_shrm, q_shlm, q_a31s, q_a1, q_a3, q_a7, q_a65535, q_div, q_rem2, z_mm, nI_clamp, Nat.reduceMul, Nat.reduceAdd, Nat.reduceSub, Nat.reducePow, Nat.reduceMod, Nat.reduceDiv, Nat.one_mul, nI_ltI, nI_leI, nI_eq, q_b0, q_b1, q_m1lt, q_m1le, q_ltm1, q_lem1, q_eqm1, q_m1eq, not_true_eq_false, not_false_eq_true, reduceCtorEq, *] <;> first | omega | decide)]) ?_
  refine w_Bw (s_targets ok ht hk) (fun q hg => ?_)
  obtain ⟨bn1, cu1⟩ := q
  refine w_Bw (s_learn_L ok ht hg M 0 k ak kn mk va wk (by omega) (by omega) (fun s hs => by omega)) (fun q hA => ?_)
  obtain ⟨q1, q2, q3, q4, q5⟩ := q
  unfold f_Ru_learn_J52
  refine w_Bw (s_deeds hg ok.1 ok.2.1 (by omega)) (fun q hd => ?_)
  obtain ⟨v1, v2, v3, v4, v5, v6, v7⟩ := q
  exact w_some ⟨rfl, rfl, hA, hg, hd⟩
