/-! the class's deeds by their numbers -/
def z_dd (P d : Nat) : Nat := (z_ds P)[d]?.getD 0
theorem z_dd_at {P d : Nat} (h : d < (z_ds P).length) : (z_ds P)[d]? = some (z_dd P d) := by
  unfold z_dd
  rw [List.getElem?_eq_getElem h]; rfl
theorem z_ds_mem {P D : Nat} : D ∈ z_ds P ↔ D < 22 ∧ z_dsv P D = true := by
  unfold z_ds
  rw [List.mem_filter, List.mem_range]
theorem z_ds_nd (P : Nat) : (z_ds P).Nodup := List.Pairwise.filter _ List.nodup_range
theorem z_ds_len {P : Nat} (h1 : 1 ≤ P) (hP : P ≤ 3) : 5 ≤ (z_ds P).length ∧ (z_ds P).length ≤ 19 := by
  have h : P = 1 ∨ P = 2 ∨ P = 3 := by omega
  rcases h with rfl | rfl | rfl <;> decide +kernel
theorem z_ds_last {P : Nat} (h1 : 1 ≤ P) (hP : P ≤ 3) : (z_ds P)[(z_ds P).length - 1]? = some 21 := by
  have h : P = 1 ∨ P = 2 ∨ P = 3 := by omega
  rcases h with rfl | rfl | rfl <;> decide +kernel
theorem z_dd_mem {P d : Nat} (h : d < (z_ds P).length) : z_dd P d < 22 ∧ z_dsv P (z_dd P d) = true := z_ds_mem.mp (List.mem_of_getElem? (z_dd_at h))
theorem z_or0 {x a b : Nat} : (x &&& (a ||| b) = 0) ↔ (x &&& a = 0 ∧ x &&& b = 0) := by rw [Nat.and_or_distrib_left, Nat.or_eq_zero_iff]
theorem z_und_bm {M x p kd : Nat} {sp : Nat → Nat → Nat} : (x &&& z_cur M sp kd p = 0) ↔ z_und M sp x p kd = false := z_bm_and _ M x
theorem z_can_dsv {P M x D : Nat} {sp : Nat → Nat → Nat} (h : z_can P M sp x D = true) : z_dsv P D = true := by
  unfold z_can at h
  unfold z_dsv
  by_cases h21 : D = 21
  · simp [h21]
  rw [if_neg h21] at h
  by_cases hp : P ≤ D / 7
  · rw [if_pos hp] at h; cases h
  rw [if_neg hp] at h
  by_cases hu : z_und M sp x (D / 7) 0 = true
  · rw [if_pos hu] at h; cases h
  rw [if_neg hu] at h
  by_cases k3 : D % 7 < 3
  · rw [if_pos k3] at h
    by_cases k1 : P ≤ D % 7
    · rw [if_pos k1] at h; cases h
    rw [if_neg k1] at h
    by_cases k2 : D % 7 = D / 7
    · rw [if_pos k2] at h; cases h
    simp [h21, k2]
    omega
  · simp [h21]
    omega
theorem z_can_bar {P M x D : Nat} {sp : Nat → Nat → Nat} (hv : z_dsv P D = true) : (x &&& z_bar M sp D = 0 ∧ (z_srt D = 3 → x / 1024 % 8 < 7)) ↔ z_can P M sp x D = true := by
  unfold z_bar z_srt z_can
  by_cases h21 : D = 21
  · simp [h21]
  have hv' : D / 7 < P ∧ (3 ≤ D % 7 ∨ (D % 7 < P ∧ D % 7 ≠ D / 7)) := by
    unfold z_dsv at hv
    simpa [h21] using hv
  obtain ⟨hp, hk⟩ := hv'
  simp only [h21, if_false]
  rw [if_neg (show ¬ P ≤ D / 7 by omega)]
  by_cases k3 : D % 7 < 3
  · have hk2 : D % 7 < P ∧ D % 7 ≠ D / 7 := by omega
    simp only [k3, if_true]
    rw [z_und_bm, if_neg (show ¬ P ≤ D % 7 by omega), if_neg hk2.2]
    cases z_und M sp x (D / 7) 0 <;> simp
  simp only [k3, if_false]
  by_cases k4 : D % 7 = 3
  · simp only [k4, if_true]
    rw [z_or0, z_und_bm, z_andp0]
    cases z_und M sp x (D / 7) 0 <;> cases x.testBit (7 + D / 7) <;> simp
  simp only [k4, if_false]
  by_cases k6 : D % 7 < 6
  · simp only [k6, if_true]
    rw [z_or0, z_or0, z_und_bm, z_und_bm, z_andp0]
    cases z_und M sp x (D / 7) 0 <;> cases z_und M sp x (D / 7) 1 <;> cases x.testBit (5 + (D % 7 - 4)) <;> simp
  simp only [k6, if_false]
  rw [z_or0, z_und_bm, z_und_bm]
  by_cases ka : 7 ≤ x / 1024 % 8
  · rw [if_pos ka]
    have : ¬ x / 1024 % 8 < 7 := by omega
    simp [this]
  · rw [if_neg ka]
    have : x / 1024 % 8 < 7 := by omega
    cases z_und M sp x (D / 7) 0 <;> cases z_und M sp x (D / 7) 2 <;> simp [this]
theorem z_do_bit {P M x D : Nat} {sp : Nat → Nat → Nat} (hD : D < 22) (h21 : D ≠ 21) (h : z_can P M sp x D = true) : z_do x D = x + z_bit D := by
  rcases z_can_do hD h with h | ⟨_, hp, h | h | h | h⟩
  · exact absurd h h21
  · unfold z_bit; rw [if_neg h21, if_pos h.1, h.2]; rfl
  · unfold z_bit; rw [if_neg h21, if_neg (by omega), if_pos h.1, h.2.2]
  · unfold z_bit; rw [if_neg h21, if_neg (by omega), if_neg (by omega), if_pos h.2.1, h.2.2.2]
  · unfold z_bit; rw [if_neg h21, if_neg (by omega), if_neg (by omega), if_neg (by omega), h.2.2]
theorem z_bar_lt {P M D : Nat} {sp : Nat → Nat → Nat} (hP : P ≤ 3) (hM : M ≤ 5) (hD : D < 22) : z_bar M sp D < 2 ^ 16 := by
  have hc : ∀ kd p, z_cur M sp kd p < 2 ^ 16 := fun kd p => Nat.lt_of_lt_of_le (z_cur_lt M sp kd p) (Nat.pow_le_pow_right (by decide) (by omega))
  have hp : ∀ j, j < 16 → 2 ^ j < 2 ^ 16 := fun j hj => Nat.pow_lt_pow_right (by decide) hj
  unfold z_bar
  split
  · decide
  · split
    · exact hc _ _
    · split
      · exact Nat.or_lt_two_pow (hc _ _) (hp _ (by omega))
      · split
        · exact Nat.or_lt_two_pow (Nat.or_lt_two_pow (hc _ _) (hc _ _)) (hp _ (by omega))
        · exact Nat.or_lt_two_pow (hc _ _) (hc _ _)
theorem z_srt_le (D : Nat) : z_srt D ≤ 4 := by unfold z_srt; (repeat' split) <;> omega
theorem z_RB_of {P M : Nat} {sp : Nat → Nat → Nat} {c : Int32} {ba bi dr ks so wh : Nat → Int32} (ok : z_ok P M sp) (h : z_dt M sp (z_ds P) (c, ba, bi, dr, ks, so, wh)) : z_RB P M sp (z_ds P).length (z_dd P) ba bi ks so := by
  refine ⟨(z_ds_len ok.1 ok.2.1).2, fun d hd => ?_⟩
  obtain ⟨a1, a2, a3, a4, a5, a6⟩ := h.2 d _ (z_dd_at hd)
  obtain ⟨hD, hv⟩ := z_dd_mem hd
  simp only at a1 a2 a3 a4 a5 a6
  generalize z_dd P d = D at a1 a2 a3 a4 a5 a6 hD hv
  refine ⟨hD, a4, z_srt D, z_srt_le D, a5, ?_, ?_, ?_⟩
  · unfold z_srt; (repeat' split) <;> omega
  · unfold z_srt; (repeat' split) <;> omega
  · intro x hx
    have hb := z_bar_lt (sp := sp) ok.2.1 ok.2.2.1 hD
    constructor
    · rw [a1, q_and, nI_eq (Nat.lt_of_le_of_lt Nat.and_le_left (by omega)) (by decide)]
      exact z_can_bar hv
    · intro h21 hc
      rw [a2, nI_add, z_do_bit hD h21 hc]
/-! the number of a deed -/
def z_D (p q w : Nat) : Nat := if q = 0 then 7 * p + w else if q = 1 then 7 * p + 3 else if q = 2 then 7 * p + 4 + w else if q = 3 then 7 * p + 6 else 21
def z_Dt (D p q w : Nat) : Bool := (decide (z_srt D = q) && (decide (q = 4) || (decide (D ≠ 21) && decide (D / 7 = p))) && ((decide (q ≠ 0) && decide (q ≠ 2)) || decide (z_whc D = w))) == decide (D = z_D p q w)
theorem z_Dt_all0 : ((List.range 22).all fun D => (List.range 3).all fun p => (List.range 5).all fun q => (List.range 3).all fun w => (decide (q = 2) && decide (w = 2)) || z_Dt D p q w) = true := by decide +kernel
theorem z_Dt_all (D : Nat) (hD : D < 22) (p : Nat) (hp : p < 3) (q : Nat) (hq : q < 5) (w : Nat) (hw : w < 3) : (q = 2 ∧ w = 2) ∨ z_Dt D p q w = true := by
  have h := z_Dt_all0
  rw [List.all_eq_true] at h
  have h := h D (List.mem_range.mpr hD)
  rw [List.all_eq_true] at h
  have h := h p (List.mem_range.mpr hp)
  rw [List.all_eq_true] at h
  have h := h q (List.mem_range.mpr hq)
  rw [List.all_eq_true] at h
  have h := h w (List.mem_range.mpr hw)
  simpa only [Bool.or_eq_true, Bool.and_eq_true, decide_eq_true_iff] using h
theorem z_D_iff (D : Nat) (hD : D < 22) (p : Nat) (hp : p < 3) (q : Nat) (hq : q < 5) (w : Nat) (hw : w < 3) (h2 : q = 2 → w < 2) : ((z_srt D = q ∧ (q = 4 ∨ (D ≠ 21 ∧ D / 7 = p)) ∧ ((q ≠ 0 ∧ q ≠ 2) ∨ z_whc D = w)) ↔ D = z_D p q w) := by
  rcases z_Dt_all D hD p hp q hq w hw with h | h
  · have := h2 h.1; omega
  · unfold z_Dt at h
    rw [beq_iff_eq] at h
    have h' := congrArg (fun b => b = true) h
    simp only [Bool.and_eq_true, Bool.or_eq_true, decide_eq_true_iff, eq_iff_iff] at h'
    rw [← h', and_assoc]
theorem z_D_mem {P p q w : Nat} (hp : p < P) (hP : P ≤ 3) (hq : q < 5) (h0 : q = 0 → w < P ∧ w ≠ p) (h2 : q = 2 → w < 2) : z_D p q w ∈ z_ds P := by
  rw [z_ds_mem]
  unfold z_D z_dsv
  by_cases k0 : q = 0
  · obtain ⟨h3, h4⟩ := h0 k0
    have e1 : (7 * p + w) / 7 = p := by omega
    have e2 : (7 * p + w) % 7 = w := by omega
    rw [if_pos k0, e1, e2]
    exact ⟨by omega, by simp [hp, h3, h4]⟩
  rw [if_neg k0]
  by_cases k1 : q = 1
  · have e1 : (7 * p + 3) / 7 = p := by omega
    have e2 : (7 * p + 3) % 7 = 3 := by omega
    rw [if_pos k1, e1, e2]
    exact ⟨by omega, by simp [hp]⟩
  rw [if_neg k1]
  by_cases k2 : q = 2
  · have := h2 k2
    have e1 : (7 * p + 4 + w) / 7 = p := by omega
    have e2 : (7 * p + 4 + w) % 7 = 4 + w := by omega
    rw [if_pos k2, e1, e2]
    refine ⟨by omega, ?_⟩
    have : 3 ≤ 4 + w := by omega
    simp [hp, this]
  rw [if_neg k2]
  by_cases k3 : q = 3
  · have e1 : (7 * p + 6) / 7 = p := by omega
    have e2 : (7 * p + 6) % 7 = 6 := by omega
    rw [if_pos k3, e1, e2]
    exact ⟨by omega, by simp [hp]⟩
  rw [if_neg k3]
  exact ⟨by omega, by simp⟩
theorem s_deedOf_L {P M p q w d0 : Nat} {sp : Nat → Nat → Nat} {c x3 : Int32} {ba bi dr ks so wh : Nat → Int32} (h1 : 1 ≤ P) (hP : P ≤ 3) (h : z_dt M sp (z_ds P) (c, ba, bi, dr, ks, so, wh)) (hp : p < 3) (hq : q < 5) (hw : w < 3) (h2 : q = 2 → w < 2) (hx : q = 0 ∨ q = 2 → x3 = nI w) (h0 : (z_ds P)[d0]? = some (z_D p q w)) : ∀ r i k, i + r = d0 → r < k → f_Ru_deedOf_L3 (nI (z_ds P).length) dr so wh (nI p) (nI q) x3 k (nI i) = some (.inr (nI d0)) := by
  obtain ⟨l1, l2⟩ := z_ds_len h1 hP
  have hd0 : d0 < (z_ds P).length := (List.getElem?_eq_some_iff.mp h0).1
  have step : ∀ i (rec : Int32 → Option (Unit ⊕ Int32)) k, i < (z_ds P).length → ∀ R : Option (Unit ⊕ Int32), (z_dd P i = z_D p q w → some (.inr (nI i)) = R) → (z_dd P i ≠ z_D p q w → rec (nI i + 1) = R) → (if nI q = (4 : Int32) then f_Ru_deedOf_J35 rec k (nI (z_ds P).length) dr so wh (nI p) (nI q) x3 (nI i) else x_I 19 dr (nI i) (fun v16 => if v16 = nI p then f_Ru_deedOf_J35 rec k (nI (z_ds P).length) dr so wh (nI p) (nI q) x3 (nI i) else f_Ru_deedOf_J40 rec k (nI (z_ds P).length) dr so wh (nI p) (nI q) x3 (nI i) (0 : Int32))) = R := by
    intro i rec k hi R hyes hno
    obtain ⟨a1, a2, a3, a4, a5, a6⟩ := h.2 i _ (z_dd_at hi)
    obtain ⟨hD, hv⟩ := z_dd_mem hi
    simp only at a1 a2 a3 a4 a5 a6
    have iff := z_D_iff (z_dd P i) hD p hp q hq w hw h2
    generalize z_dd P i = D at a1 a2 a3 a4 a5 a6 hD hv hyes hno iff
    have hs := z_srt_le D
    have J67 : ∀ (x5 s0 : Int32), (x5 = nI 0 ∨ s0 = nI 0 → D ≠ z_D p q w) → (x5 = nI 1 → s0 = nI 1 → z_srt D = q → D = z_D p q w) → (x5 = nI 0 ∨ x5 = nI 1) → (s0 = nI 0 ∨ s0 = nI 1) → f_Ru_deedOf_J67 rec k (nI (z_ds P).length) dr so wh (nI p) (nI q) x3 (nI i) x5 s0 = R := by
      intro x5 s0 c1 c2 c3 c4
      unfold f_Ru_deedOf_J67 f_Ru_deedOf_J93
      refine e_I (i := i) (by first | (with_reducible rfl) | (simp (disch := omega) only [q_lit, q_ofn, nI_add, q_mul, q_sub, q_shrm, q_shlm, q_a31s, q_a1, q_a3, q_a7, q_a65535, q_div, q_rem2, z_mm, nI_clamp, Nat.reduceMul, Nat.reduceAdd, Nat.reduceSub, Nat.reducePow, Nat.reduceMod, Nat.reduceDiv, Nat.one_mul]; done) | (simp (disch := omega) only [q_lit, q_ofn, nI_add, q_mul, q_sub, q_shrm, q_shlm, q_a31s, q_a1, q_a3, q_a7, q_a65535, q_div, q_rem2, z_mm, nI_clamp, Nat.reduceMul, Nat.reduceAdd, Nat.reduceSub, Nat.reducePow, Nat.reduceMod, Nat.reduceDiv, Nat.one_mul]; with_reducible rfl)) (by omega) (by first | decide | omega) ?_
      rw [a5]
      by_cases hsq : z_srt D = q
      · refine e_T (by rw [hsq]) ?_
        rcases c3 with c3 | c3
        · refine e_T (by rw [c3]; rfl) ?_
          exact hno (c1 (Or.inl c3))
        · refine e_F (by rw [c3]; decide) ?_
          rcases c4 with c4 | c4
          · refine e_T (by rw [c4]; rfl) ?_
            exact hno (c1 (Or.inr c4))
          · refine e_F (by rw [c4]; decide) ?_
            exact hyes (c2 c3 c4 hsq)
      · refine e_F (by simp (disch := omega) only [nI_eq]; exact hsq) ?_
        exact hno (fun e => hsq (iff.mpr e).1)
    have J40 : ∀ x5 : Int32, (x5 = nI 0 → D ≠ z_D p q w) → (x5 = nI 1 → q = 4 ∨ (D ≠ 21 ∧ D / 7 = p)) → (x5 = nI 0 ∨ x5 = nI 1) → f_Ru_deedOf_J40 rec k (nI (z_ds P).length) dr so wh (nI p) (nI q) x3 (nI i) x5 = R := by
      intro x5 c1 c2 c3
      have J51 : (q = 0 ∨ q = 2) → f_Ru_deedOf_J51 rec k (nI (z_ds P).length) dr so wh (nI p) (nI q) x3 (nI i) x5 = R := by
        intro hq02
        unfold f_Ru_deedOf_J51 f_Ru_deedOf_J62
        have hx3 := hx hq02
        subst hx3
        refine e_I (i := i) (by first | (with_reducible rfl) | (simp (disch := omega) only [q_lit, q_ofn, nI_add, q_mul, q_sub, q_shrm, q_shlm, q_a31s, q_a1, q_a3, q_a7, q_a65535, q_div, q_rem2, z_mm, nI_clamp, Nat.reduceMul, Nat.reduceAdd, Nat.reduceSub, Nat.reducePow, Nat.reduceMod, Nat.reduceDiv, Nat.one_mul]; done) | (simp (disch := omega) only [q_lit, q_ofn, nI_add, q_mul, q_sub, q_shrm, q_shlm, q_a31s, q_a1, q_a3, q_a7, q_a65535, q_div, q_rem2, z_mm, nI_clamp, Nat.reduceMul, Nat.reduceAdd, Nat.reduceSub, Nat.reducePow, Nat.reduceMod, Nat.reduceDiv, Nat.one_mul]; with_reducible rfl)) (by omega) (by first | decide | omega) ?_
        rw [a6]
        have hwl : z_whc D < 7 := by unfold z_whc; (repeat' split) <;> omega
        by_cases hw2 : z_whc D = w
        · refine e_T (by rw [hw2]) ?_
          refine J67 x5 (nI 1) (fun z => z.elim c1 (fun z => absurd z (by decide))) (fun z1 _ z3 => iff.mp ⟨z3, c2 z1, Or.inr hw2⟩) c3 (Or.inr rfl)
        · refine e_F (by simp (disch := omega) only [nI_eq]; exact hw2) ?_
          refine J67 x5 (nI 0) (fun _ e => ?_) (fun _ z2 => absurd z2 (by decide)) c3 (Or.inl rfl)
          rcases (iff.mpr e).2.2 with z | z
          · omega
          · exact hw2 z
      unfold f_Ru_deedOf_J40
      by_cases q0 : q = 0
      · refine e_T (by rw [q0]; rfl) (J51 (Or.inl q0))
      · refine e_F (by simp (disch := omega) only [q_lit, nI_eq]; exact q0) ?_
        by_cases q2 : q = 2
        · refine e_T (by rw [q2]; rfl) (J51 (Or.inr q2))
        · refine e_F (by simp (disch := omega) only [q_lit, nI_eq]; exact q2) ?_
          unfold f_Ru_deedOf_J62
          exact J67 x5 (nI 1) (fun z => z.elim c1 (fun z => absurd z (by decide))) (fun z1 _ z3 => iff.mp ⟨z3, c2 z1, Or.inl ⟨q0, q2⟩⟩) c3 (Or.inr rfl)
    unfold f_Ru_deedOf_J35
    by_cases q4 : q = 4
    · refine e_T (by rw [q4]; rfl) ?_
      exact J40 (nI 1) (fun z => absurd z (by decide)) (fun _ => Or.inl q4) (Or.inr rfl)
    · refine e_F (by simp (disch := omega) only [q_lit, nI_eq]; exact q4) ?_
      refine e_I (i := i) (by first | (with_reducible rfl) | (simp (disch := omega) only [q_lit, q_ofn, nI_add, q_mul, q_sub, q_shrm, q_shlm, q_a31s, q_a1, q_a3, q_a7, q_a65535, q_div, q_rem2, z_mm, nI_clamp, Nat.reduceMul, Nat.reduceAdd, Nat.reduceSub, Nat.reducePow, Nat.reduceMod, Nat.reduceDiv, Nat.one_mul]; done) | (simp (disch := omega) only [q_lit, q_ofn, nI_add, q_mul, q_sub, q_shrm, q_shlm, q_a31s, q_a1, q_a3, q_a7, q_a65535, q_div, q_rem2, z_mm, nI_clamp, Nat.reduceMul, Nat.reduceAdd, Nat.reduceSub, Nat.reducePow, Nat.reduceMod, Nat.reduceDiv, Nat.one_mul]; with_reducible rfl)) (by omega) (by first | decide | omega) ?_
      rw [a3]
      by_cases hpp : D ≠ 21 ∧ D / 7 = p
      · refine e_T (by rw [if_neg hpp.1, hpp.2]) ?_
        exact J40 (nI 1) (fun z => absurd z (by decide)) (fun _ => Or.inr hpp) (Or.inr rfl)
      · refine e_F ?_ ?_
        · split
          · intro e; exact (q_m1eq (by omega)).mp e
          · next h21 => simp (disch := omega) only [nI_eq]; exact fun e => hpp ⟨h21, e⟩
        · exact J40 (nI 0) (fun _ e => ((iff.mpr e).2.1).elim q4 hpp) (fun z => absurd z (by decide)) (Or.inl rfl)
  intro r
  induction r with
  | zero =>
    intro i k hi hk
    obtain ⟨k, rfl⟩ : ∃ k', k = k' + 1 := ⟨k - 1, by omega⟩
    have : i = d0 := by omega
    subst this
    rw [f_Ru_deedOf_L3]
    refine e_F (by simp (disch := omega) only [q_lit, q_ofn, nI_add, q_mul, q_sub, q_shrm, q_shlm, q_a31s, q_a1, q_a3, q_a7, q_a65535, q_div, q_rem2, z_mm, nI_clamp, Nat.reduceMul, Nat.reduceAdd, Nat.reduceSub, Nat.reducePow, Nat.reduceMod, Nat.reduceDiv, Nat.one_mul, nI_ltI, nI_leI, nI_eq, q_b0, q_b1, q_m1lt, q_m1le, q_ltm1, q_lem1, q_eqm1, q_m1eq, not_true_eq_false, not_false_eq_true, reduceCtorEq, *] <;> first | omega | decide) ?_
    refine e_F (by simp (disch := omega) only [q_lit, q_ofn, nI_add, q_mul, q_sub, q_shrm, q_shlm, q_a31s, q_a1, q_a3, q_a7, q_a65535, q_div, q_rem2, z_mm, nI_clamp, Nat.reduceMul, Nat.reduceAdd, Nat.reduceSub, Nat.reducePow, Nat.reduceMod, Nat.reduceDiv, Nat.one_mul, nI_ltI, nI_leI, nI_eq, q_b0, q_b1, q_m1lt, q_m1le, q_ltm1, q_lem1, q_eqm1, q_m1eq, not_true_eq_false, not_false_eq_true, reduceCtorEq, *] <;> first | omega | decide) ?_
    refine step i _ k hd0 _ (fun _ => rfl) (fun z => ?_)
    exfalso
    have := z_dd_at hd0
    rw [h0] at this
    exact z (Option.some.inj this).symm
  | succ r ih =>
    intro i k hi hk
    obtain ⟨k, rfl⟩ : ∃ k', k = k' + 1 := ⟨k - 1, by omega⟩
    have hi2 : i < (z_ds P).length := by omega
    rw [f_Ru_deedOf_L3]
    refine e_F (by simp (disch := omega) only [q_lit, q_ofn, nI_add, q_mul, q_sub, q_shrm, q_shlm, q_a31s, q_a1, q_a3, q_a7, q_a65535, q_div, q_rem2, z_mm, nI_clamp, Nat.reduceMul, Nat.reduceAdd, Nat.reduceSub, Nat.reducePow, Nat.reduceMod, Nat.reduceDiv, Nat.one_mul, nI_ltI, nI_leI, nI_eq, q_b0, q_b1, q_m1lt, q_m1le, q_ltm1, q_lem1, q_eqm1, q_m1eq, not_true_eq_false, not_false_eq_true, reduceCtorEq, *] <;> first | omega | decide) ?_
    refine e_F (by simp (disch := omega) only [q_lit, q_ofn, nI_add, q_mul, q_sub, q_shrm, q_shlm, q_a31s, q_a1, q_a3, q_a7, q_a65535, q_div, q_rem2, z_mm, nI_clamp, Nat.reduceMul, Nat.reduceAdd, Nat.reduceSub, Nat.reducePow, Nat.reduceMod, Nat.reduceDiv, Nat.one_mul, nI_ltI, nI_leI, nI_eq, q_b0, q_b1, q_m1lt, q_m1le, q_ltm1, q_lem1, q_eqm1, q_m1eq, not_true_eq_false, not_false_eq_true, reduceCtorEq, *] <;> first | omega | decide) ?_
    refine step i _ k hi2 _ (fun z => ?_) (fun _ => ?_)
    · exfalso
      have e1 := z_dd_at hi2
      rw [z] at e1
      have := (List.getElem?_inj hi2 (z_ds_nd P)).mp (e1.trans h0.symm)
      omega
    · rw [show nI i + 1 = nI (i + 1) by simp only [q_lit, nI_add]]
      exact ih (i + 1) k (by omega) (by omega)
theorem s_deedOf {P M p q w k : Nat} {sp : Nat → Nat → Nat} {c x3 : Int32} {ba bi dr ks so wh : Nat → Int32} (h1 : 1 ≤ P) (hP : P ≤ 3) (h : z_dt M sp (z_ds P) (c, ba, bi, dr, ks, so, wh)) (hp : p < P) (hq : q < 5) (hw : w < 3) (h0 : q = 0 → w < P ∧ w ≠ p) (h2 : q = 2 → w < 2) (hx : q = 0 ∨ q = 2 → x3 = nI w) (hk : 20 ≤ k) : ∃ d, (z_ds P)[d]? = some (z_D p q w) ∧ f_Ru_deedOf k (nI (z_ds P).length) dr so wh (nI p) (nI q) x3 = some (nI d) := by
  obtain ⟨d, hd⟩ := List.getElem?_of_mem (z_D_mem (w := w) hp hP hq h0 h2)
  have hd0 : d < (z_ds P).length := (List.getElem?_eq_some_iff.mp hd).1
  have := (z_ds_len h1 hP).2
  refine ⟨d, hd, ?_⟩
  unfold f_Ru_deedOf
  have e := s_deedOf_L h1 hP h (by omega) hq hw h2 hx hd d 0 k (by omega) (by omega)
  rw [show (0 : Int32) = nI 0 from rfl, e]
  rfl
def z_by (P who d : Nat) : Bool := decide (z_dd P d = 21) || who.testBit (z_dd P d / 7)
theorem s_deedsBy_L {P M who : Nat} {sp : Nat → Nat → Nat} {c : Int32} {ba bi dr ks so wh : Nat → Int32} (h1 : 1 ≤ P) (hP : P ≤ 3) (h : z_dt M sp (z_ds P) (c, ba, bi, dr, ks, so, wh)) (hw : who < 2 ^ 31) : ∀ r i k, i + r = (z_ds P).length → r < k → f_Ru_deedsBy_L4 (nI (z_ds P).length) dr (nI who) k (nI (z_bm (z_by P who) i)) (nI i) = some (nI (z_bm (z_by P who) (z_ds P).length)) := by
  obtain ⟨l1, l2⟩ := z_ds_len h1 hP
  intro r
  induction r with
  | zero =>
    intro i k hi hk
    obtain ⟨k, rfl⟩ : ∃ k', k = k' + 1 := ⟨k - 1, by omega⟩
    have : i = (z_ds P).length := by omega
    subst this
    rw [f_Ru_deedsBy_L4]
    exact e_T (nI_le (Nat.le_refl _) (by omega)) rfl
  | succ r ih =>
    intro i k hi hk
    obtain ⟨k, rfl⟩ : ∃ k', k = k' + 1 := ⟨k - 1, by omega⟩
    have hi2 : i < (z_ds P).length := by omega
    have ih' := ih (i + 1) k (by omega) (by omega)
    rw [show z_bm (z_by P who) (i + 1) = if z_by P who i = true then z_bm (z_by P who) i ||| 2 ^ i else z_bm (z_by P who) i from rfl] at ih'
    obtain ⟨a1, a2, a3, a4, a5, a6⟩ := h.2 i _ (z_dd_at hi2)
    obtain ⟨hD, hv⟩ := z_dd_mem hi2
    simp only at a3
    rw [f_Ru_deedsBy_L4]
    refine e_F (by simp (disch := omega) only [q_lit, q_ofn, nI_add, q_mul, q_sub, q_shrm, q_shlm, q_a31s, q_a1, q_a3, q_a7, q_a65535, q_div, q_rem2, z_mm, nI_clamp, Nat.reduceMul, Nat.reduceAdd, Nat.reduceSub, Nat.reducePow, Nat.reduceMod, Nat.reduceDiv, Nat.one_mul, nI_ltI, nI_leI, nI_eq, q_b0, q_b1, q_m1lt, q_m1le, q_ltm1, q_lem1, q_eqm1, q_m1eq, not_true_eq_false, not_false_eq_true, reduceCtorEq, *] <;> first | omega | decide) ?_
    refine e_F (by simp (disch := omega) only [q_lit, q_ofn, nI_add, q_mul, q_sub, q_shrm, q_shlm, q_a31s, q_a1, q_a3, q_a7, q_a65535, q_div, q_rem2, z_mm, nI_clamp, Nat.reduceMul, Nat.reduceAdd, Nat.reduceSub, Nat.reducePow, Nat.reduceMod, Nat.reduceDiv, Nat.one_mul, nI_ltI, nI_leI, nI_eq, q_b0, q_b1, q_m1lt, q_m1le, q_ltm1, q_lem1, q_eqm1, q_m1eq, not_true_eq_false, not_false_eq_true, reduceCtorEq, *] <;> first | omega | decide) ?_
    refine e_I (i := i) (by first | (with_reducible rfl) | (simp (disch := omega) only [q_lit, q_ofn, nI_add, q_mul, q_sub, q_shrm, q_shlm, q_a31s, q_a1, q_a3, q_a7, q_a65535, q_div, q_rem2, z_mm, nI_clamp, Nat.reduceMul, Nat.reduceAdd, Nat.reduceSub, Nat.reducePow, Nat.reduceMod, Nat.reduceDiv, Nat.one_mul]; done) | (simp (disch := omega) only [q_lit, q_ofn, nI_add, q_mul, q_sub, q_shrm, q_shlm, q_a31s, q_a1, q_a3, q_a7, q_a65535, q_div, q_rem2, z_mm, nI_clamp, Nat.reduceMul, Nat.reduceAdd, Nat.reduceSub, Nat.reducePow, Nat.reduceMod, Nat.reduceDiv, Nat.one_mul]; with_reducible rfl)) (by omega) (by first | decide | omega) ?_
    rw [a3]
    unfold f_Ru_deedsBy_J41 f_Ru_deedsBy_J47
    by_cases h21 : z_dd P i = 21
    · rw [if_pos h21]
      refine e_T rfl ?_
      refine e_L ?_
      refine e_L ?_
      simp (disch := omega) only [q_lit, nI_add, q_a31s, q_shlm, Nat.one_mul, q_or]
      rw [if_pos (by unfold z_by; simp [h21])] at ih'
      exact ih'
    · rw [if_neg h21]
      refine e_F (fun e => (q_eqm1 (by omega)).mp e) ?_
      refine e_I (i := i) (by first | (with_reducible rfl) | (simp (disch := omega) only [q_lit, q_ofn, nI_add, q_mul, q_sub, q_shrm, q_shlm, q_a31s, q_a1, q_a3, q_a7, q_a65535, q_div, q_rem2, z_mm, nI_clamp, Nat.reduceMul, Nat.reduceAdd, Nat.reduceSub, Nat.reducePow, Nat.reduceMod, Nat.reduceDiv, Nat.one_mul]; done) | (simp (disch := omega) only [q_lit, q_ofn, nI_add, q_mul, q_sub, q_shrm, q_shlm, q_a31s, q_a1, q_a3, q_a7, q_a65535, q_div, q_rem2, z_mm, nI_clamp, Nat.reduceMul, Nat.reduceAdd, Nat.reduceSub, Nat.reducePow, Nat.reduceMod, Nat.reduceDiv, Nat.one_mul]; with_reducible rfl)) (by omega) (by first | decide | omega) ?_
      rw [a3, if_neg h21]
      have hd7 : z_dd P i / 7 < 3 := by omega
      have hb : z_by P who i = who.testBit (z_dd P i / 7) := by unfold z_by; simp [h21]
      simp (disch := omega) only [q_lit, nI_add, q_a31s, q_shrm, q_a1, nI_eq]
      rw [hb] at ih'
      by_cases ht : who / 2 ^ (z_dd P i / 7) % 2 = 0
      · rw [if_pos ht]
        rw [if_neg (by rw [z_dig.mpr ht]; decide)] at ih'
        exact ih'
      · rw [if_neg ht]
        refine e_L ?_
        refine e_L ?_
        simp (disch := omega) only [q_lit, nI_add, q_a31s, q_shlm, Nat.one_mul, q_or]
        rw [if_pos (by cases hz : who.testBit (z_dd P i / 7) with | true => rfl | false => exact absurd (z_dig.mp hz) ht)] at ih'
        exact ih'
theorem s_deedsBy {P M who k : Nat} {sp : Nat → Nat → Nat} {c : Int32} {ba bi dr ks so wh : Nat → Int32} (h1 : 1 ≤ P) (hP : P ≤ 3) (h : z_dt M sp (z_ds P) (c, ba, bi, dr, ks, so, wh)) (hw : who < 2 ^ 31) (hk : 20 ≤ k) : f_Ru_deedsBy k (nI (z_ds P).length) dr (nI who) = some (nI (z_bm (z_by P who) (z_ds P).length)) := by
  have := (z_ds_len h1 hP).2
  unfold f_Ru_deedsBy
  have e := s_deedsBy_L h1 hP h hw (z_ds P).length 0 k (by omega) (by omega)
  rw [show (0 : Int32) = nI 0 from rfl]
  rw [show z_bm (z_by P who) 0 = 0 from rfl] at e
  rw [e]
  rfl
