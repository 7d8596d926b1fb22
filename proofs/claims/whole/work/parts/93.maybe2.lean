/-! how many ifs may be: the reference; the best day -/
def z_or1 (o : Option Nat) (v : Int32) (f : Nat → Int32) : Int32 := match o with
  | some a => f a
  | none => v
/-- the loops: n and fs as they are before r more; n stays small -/
theorem m_may_1 {P t : Nat} {T : Nat → Nat → Nat} {tr : Nat → Int32} (hP : P ≤ 3) (h : z_mtr P t T tr) {x1 : Int32} : ∀ r a k n (fs : Int32), a + r = 2 * P + 11 → r + 20 < k → n + r < 1000 → f_Mo_mayBe_L28 (nI P) (nI t) tr x1 (nI (2 * P + 11)) k (nI n) fs (nI a) = some (nI (n + z_cn (fun a => z_ft P t T a a) r a), if n = 0 then z_or1 (z_fst (fun a => z_ft P t T a a) r a) fs (fun i => nI (20 * i + i)) else fs) := by
  intro r
  induction r with
  | zero =>
    intro a k n fs ha hk hn
    obtain ⟨k, rfl⟩ : ∃ k', k = k' + 1 := ⟨k - 1, by omega⟩
    rw [f_Mo_mayBe_L28]
    refine e_T (nI_le (by omega) (by omega)) ?_
    show some (nI n, fs) = some (nI (n + 0), if n = 0 then fs else fs)
    rw [Nat.add_zero]
    split <;> rfl
  | succ r ih =>
    intro a k n fs ha hk hn
    obtain ⟨k, rfl⟩ : ∃ k', k = k' + 1 := ⟨k - 1, by omega⟩
    have inc : nI a + 1 = nI (a + 1) := by simp only [q_lit, nI_add]
    have hft := m_fits (k := k) hP h (a := a) (b := a) (by omega) (by omega) (by omega)
    have J62 : ∀ s0 : Int32, f_Mo_mayBe_J62 (f_Mo_mayBe_L28 (nI P) (nI t) tr x1 (nI (2 * P + 11)) k) k (nI P) (nI t) tr x1 (nI n) (nI (2 * P + 11)) (nI a) s0 = some (nI (n + ((z_ft P t T a a).toNat + z_cn (fun a => z_ft P t T a a) r (a + 1))), if n + (z_ft P t T a a).toNat = 0 then z_or1 (z_fst (fun a => z_ft P t T a a) r (a + 1)) s0 (fun i => nI (20 * i + i)) else s0) := by
      intro s0
      unfold f_Mo_mayBe_J62 f_Mo_mayBe_J80
      rw [hft, q_B, ← Nat.add_assoc]
      cases hz : z_ft P t T a a
      · refine e_T rfl ?_
        refine e_L ?_
        refine e_L ?_
        rw [inc, show nI n + 0 = nI (n + 0) from nI_add n 0]
        exact ih (a + 1) k (n + 0) s0 (by omega) (by omega) (by omega)
      · refine e_F (by decide) ?_
        refine e_L ?_
        refine e_L ?_
        rw [inc, show nI n + 1 = nI (n + 1) from nI_add n 1]
        exact ih (a + 1) k (n + 1) s0 (by omega) (by omega) (by omega)
    rw [f_Mo_mayBe_L28]
    refine e_F (nI_ge (by omega) (by omega)) ?_
    unfold f_Mo_mayBe_J61
    show _ = some (nI (n + ((z_ft P t T a a).toNat + z_cn (fun a => z_ft P t T a a) r (a + 1))), if n = 0 then z_or1 (if z_ft P t T a a = true then some a else z_fst (fun a => z_ft P t T a a) r (a + 1)) fs (fun i => nI (20 * i + i)) else fs)
    by_cases hn0 : n = 0
    · subst hn0
      refine e_T rfl ?_
      rw [hft, q_B, if_pos rfl]
      cases hz : z_ft P t T a a
      · refine e_T rfl ?_
        rw [J62 fs, hz]
        rfl
      · refine e_F (by decide) ?_
        rw [show (20 : Int32) * nI a + nI a = nI (20 * a + a) by rw [show (20 : Int32) = nI 20 from rfl, q_mul, nI_add], J62, hz]
        rfl
    · refine e_F (nI_ne0 (by omega) (by omega)) ?_
      rw [J62 fs, if_neg (by omega), if_neg hn0]
theorem m_may_in {P t : Nat} {T : Nat → Nat → Nat} {tr : Nat → Int32} (hP : P ≤ 3) (h : z_mtr P t T tr) {x1 : Int32} {a : Nat} (ha : a < 2 * P + 11) : ∀ r b k n (fs : Int32), b + r = 2 * P + 11 → r + 20 < k → n + r < 1000 → f_Mo_mayBe_L104 (nI P) (nI t) tr x1 (nI (2 * P + 11)) (nI a) k (nI n) fs (nI b) = some (nI (n + z_cn (z_ft P t T a) r b), if n = 0 then z_or1 (z_fst (z_ft P t T a) r b) fs (fun i => nI (20 * a + i)) else fs) := by
  intro r
  induction r with
  | zero =>
    intro b k n fs hb hk hn
    obtain ⟨k, rfl⟩ : ∃ k', k = k' + 1 := ⟨k - 1, by omega⟩
    rw [f_Mo_mayBe_L104]
    refine e_T (nI_le (by omega) (by omega)) ?_
    show some (nI n, fs) = some (nI (n + 0), if n = 0 then fs else fs)
    rw [Nat.add_zero]
    split <;> rfl
  | succ r ih =>
    intro b k n fs hb hk hn
    obtain ⟨k, rfl⟩ : ∃ k', k = k' + 1 := ⟨k - 1, by omega⟩
    have inc : nI b + 1 = nI (b + 1) := by simp only [q_lit, nI_add]
    have hft := m_fits (k := k) hP h (a := a) (b := b) (by omega) (by omega) (by omega)
    have J138 : ∀ s0 : Int32, f_Mo_mayBe_J138 (f_Mo_mayBe_L104 (nI P) (nI t) tr x1 (nI (2 * P + 11)) (nI a) k) k (nI P) (nI t) tr x1 (nI n) (nI (2 * P + 11)) (nI a) (nI b) s0 = some (nI (n + ((z_ft P t T a b).toNat + z_cn (z_ft P t T a) r (b + 1))), if n + (z_ft P t T a b).toNat = 0 then z_or1 (z_fst (z_ft P t T a) r (b + 1)) s0 (fun i => nI (20 * a + i)) else s0) := by
      intro s0
      unfold f_Mo_mayBe_J138 f_Mo_mayBe_J156
      rw [hft, q_B, ← Nat.add_assoc]
      cases hz : z_ft P t T a b
      · refine e_T rfl ?_
        refine e_L ?_
        refine e_L ?_
        rw [inc, show nI n + 0 = nI (n + 0) from nI_add n 0]
        exact ih (b + 1) k (n + 0) s0 (by omega) (by omega) (by omega)
      · refine e_F (by decide) ?_
        refine e_L ?_
        refine e_L ?_
        rw [inc, show nI n + 1 = nI (n + 1) from nI_add n 1]
        exact ih (b + 1) k (n + 1) s0 (by omega) (by omega) (by omega)
    rw [f_Mo_mayBe_L104]
    refine e_F (nI_ge (by omega) (by omega)) ?_
    unfold f_Mo_mayBe_J137
    show _ = some (nI (n + ((z_ft P t T a b).toNat + z_cn (z_ft P t T a) r (b + 1))), if n = 0 then z_or1 (if z_ft P t T a b = true then some b else z_fst (z_ft P t T a) r (b + 1)) fs (fun i => nI (20 * a + i)) else fs)
    by_cases hn0 : n = 0
    · subst hn0
      refine e_T rfl ?_
      rw [hft, q_B, if_pos rfl]
      cases hz : z_ft P t T a b
      · refine e_T rfl ?_
        rw [J138 fs, hz]
        rfl
      · refine e_F (by decide) ?_
        rw [show (20 : Int32) * nI a + nI b = nI (20 * a + b) by rw [show (20 : Int32) = nI 20 from rfl, q_mul, nI_add], J138, hz]
        rfl
    · refine e_F (nI_ne0 (by omega) (by omega)) ?_
      rw [J138 fs, if_neg (by omega), if_neg hn0]
theorem z_em_le (ft : Nat → Nat → Bool) (N : Nat) : ∀ r a, z_em ft N r a ≤ r * N := by
  intro r
  induction r with
  | zero => intro a; exact Nat.zero_le _
  | succ r ih =>
    intro a
    have := ih (a + 1)
    have := z_cn_le (ft a) (N - (a + 1)) (a + 1)
    unfold z_em
    rw [Nat.succ_mul]
    omega
/-- the first pair of unlike ones -/
def z_fp (P t : Nat) (T : Nat → Nat → Nat) (r a : Nat) (v : Int32) : Int32 := z_or1 (z_fst (fun a => (z_pr P t T a).isSome) r a) v (fun a => z_or1 (z_pr P t T a) v (fun i => nI (20 * a + i)))
theorem m_may_2 {P t : Nat} {T : Nat → Nat → Nat} {tr : Nat → Int32} (hP : P ≤ 3) (h : z_mtr P t T tr) {x1 : Int32} : ∀ r a k n (fs : Int32), a + r = 2 * P + 11 → r + 50 < k → n + r * 17 < 900 → f_Mo_mayBe_L91 (nI P) (nI t) tr x1 (nI (2 * P + 11)) k (nI n) fs (nI a) = some (nI (n + z_em (z_ft P t T) (2 * P + 11) r a), if n = 0 then z_fp P t T r a fs else fs) := by
  intro r
  induction r with
  | zero =>
    intro a k n fs ha hk hn
    obtain ⟨k, rfl⟩ : ∃ k', k = k' + 1 := ⟨k - 1, by omega⟩
    rw [f_Mo_mayBe_L91]
    refine e_T (nI_le (by omega) (by omega)) ?_
    show some (nI n, fs) = some (nI (n + 0), if n = 0 then fs else fs)
    rw [Nat.add_zero]
    split <;> rfl
  | succ r ih =>
    intro a k n fs ha hk hn
    obtain ⟨k, rfl⟩ : ∃ k', k = k' + 1 := ⟨k - 1, by omega⟩
    have inc : nI a + 1 = nI (a + 1) := by simp only [q_lit, nI_add]
    have hle := z_cn_le (z_ft P t T a) (2 * P + 11 - (a + 1)) (a + 1)
    rw [f_Mo_mayBe_L91]
    refine e_F (nI_ge (by omega) (by omega)) ?_
    refine e_L ?_
    rw [inc, m_may_in hP h (a := a) (by omega) (2 * P + 11 - (a + 1)) (a + 1) k n fs (by omega) (by omega) (by omega), q_B]
    refine e_L ?_
    rw [ih (a + 1) k _ _ (by omega) (by omega) (by omega)]
    show some (nI (n + z_cn (z_ft P t T a) (2 * P + 11 - (a + 1)) (a + 1) + z_em (z_ft P t T) (2 * P + 11) r (a + 1)), _) = some (nI (n + (z_cn (z_ft P t T a) (2 * P + 11 - (a + 1)) (a + 1) + z_em (z_ft P t T) (2 * P + 11) r (a + 1))), _)
    rw [Nat.add_assoc]
    have hiff := z_cn_fst (z_ft P t T a) (2 * P + 11 - (a + 1)) (a + 1)
    congr 2
    by_cases hn0 : n = 0
    · subst hn0
      rw [if_pos rfl, if_pos rfl, Nat.zero_add]
      unfold z_fp
      show _ = z_or1 (if (z_pr P t T a).isSome = true then some a else z_fst (fun a => (z_pr P t T a).isSome) r (a + 1)) fs _
      by_cases hz : z_cn (z_ft P t T a) (2 * P + 11 - (a + 1)) (a + 1) = 0
      · have hpr : z_pr P t T a = none := hiff.mp hz
        rw [if_pos hz, hpr, if_neg (by decide), hiff.mp hz]
        rfl
      · rw [if_neg hz]
        cases hpr : z_pr P t T a with
        | none => exact absurd (hiff.mpr hpr) hz
        | some i =>
          have hpr' : z_fst (z_ft P t T a) (2 * P + 11 - (a + 1)) (a + 1) = some i := hpr
          rw [hpr']
          show nI (20 * a + i) = z_or1 (z_pr P t T a) fs (fun i => nI (20 * a + i))
          rw [hpr]
          rfl
    · rw [if_neg (by omega), if_neg hn0, if_neg hn0]
/-- what mayBe answers of the first if -/
def z_mb (P t : Nat) (T : Nat → Nat → Nat) (w : Nat) : Int32 := if w = 0 then nI (z_hm (z_ft P t T) (2 * P + 11) (2 * P + 11) 0) else match z_ff P t T with
  | none => -nI 4
  | some q => if w = 1 then nI (z_cs P q.1) else if w = 2 then nI (z_cm P q.1) else match q.2 with
    | none => -nI 1
    | some b => if w = 3 then nI (z_cs P b) else nI (z_cm P b)
theorem m_mayBe {P t : Nat} {T : Nat → Nat → Nat} {tr : Nat → Int32} (hP : P ≤ 3) (h : z_mtr P t T tr) {w k : Nat} (hw : w ≤ 4) (hk : 200 ≤ k) : f_Mo_mayBe k (nI P) (nI t) tr (nI w) = some (z_mb P t T w) := by
  have hD := z_cn_le (fun a => z_ft P t T a a) (2 * P + 11) 0
  have hE := z_em_le (z_ft P t T) (2 * P + 11) (2 * P + 11) 0
  have h17 : 2 * P + 11 ≤ 17 := by omega
  have hE2 : z_em (z_ft P t T) (2 * P + 11) (2 * P + 11) 0 ≤ 289 := Nat.le_trans hE (Nat.mul_le_mul h17 h17)
  have g1 := m_may_1 (x1 := nI w) hP h (2 * P + 11) 0 k 0 (-nI 1) (by omega) (by omega) (by omega)
  rw [Nat.zero_add, if_pos rfl] at g1
  have g2 := m_may_2 (x1 := nI w) hP h (2 * P + 11) 0 k (z_cn (fun a => z_ft P t T a a) (2 * P + 11) 0) (z_or1 (z_fst (fun a => z_ft P t T a a) (2 * P + 11) 0) (-nI 1) (fun i => nI (20 * i + i))) (by omega) (by omega) (by omega)
  unfold f_Mo_mayBe f_Mo_termMany
  refine e_B (m_inN (n := w) (a := 0) (b := 4) (by omega) (by decide) (by decide)) ?_
  rw [decide_eq_true (by omega)]
  refine e_F (by decide) ?_
  refine e_B (q := nI (2 * P + 11)) (by rw [show (2 : Int32) = nI 2 from rfl, show (11 : Int32) = nI 11 from rfl, q_mul, nI_add]) ?_
  refine e_B g1 ?_
  refine e_B g2 ?_
  show (if nI w = 0 then _ else _) = _
  have hsum := z_hm_em (z_ft P t T) (2 * P + 11) (2 * P + 11) 0 (by omega)
  rw [← hsum]
  have hH : z_hm (z_ft P t T) (2 * P + 11) (2 * P + 11) 0 < 1000 := by omega
  unfold z_mb f_Mo_mayBe_J178
  by_cases hw0 : w = 0
  · subst hw0
    refine e_T rfl ?_
    exact e_T rfl rfl
  refine e_F (nI_ne0 (by omega) (by omega)) ?_
  rw [if_neg hw0]
  have i1 := z_cn_fst (fun a => z_ft P t T a a) (2 * P + 11) 0
  have emz : ∀ r a, a + r = 2 * P + 11 → (z_em (z_ft P t T) (2 * P + 11) r a = 0 ↔ z_fst (fun a => (z_pr P t T a).isSome) r a = none) := by
    intro r
    induction r with
    | zero => intro a _; exact ⟨fun _ => rfl, fun _ => rfl⟩
    | succ r ih =>
      intro a ha
      have hiff := z_cn_fst (z_ft P t T a) (2 * P + 11 - (a + 1)) (a + 1)
      show (z_cn (z_ft P t T a) (2 * P + 11 - (a + 1)) (a + 1) + z_em (z_ft P t T) (2 * P + 11) r (a + 1) = 0) ↔ (if (z_pr P t T a).isSome = true then some a else z_fst (fun a => (z_pr P t T a).isSome) r (a + 1)) = none
      cases hpr : z_pr P t T a with
      | none =>
        have hz := hiff.mpr hpr
        rw [hz, Nat.zero_add, if_neg (by decide)]
        exact ih (a + 1) (by omega)
      | some i =>
        show _ ↔ some a = none
        constructor
        · intro z
          have : z_fst (z_ft P t T a) (2 * P + 11 - (a + 1)) (a + 1) = none := hiff.mp (by omega)
          have hpr' : z_fst (z_ft P t T a) (2 * P + 11 - (a + 1)) (a + 1) = some i := hpr
          rw [this] at hpr'
          cases hpr'
        · intro z; cases z
  have i2 := emz (2 * P + 11) 0 (by omega)
  have dec : ∀ a b, a < 17 → b < 17 → nI (20 * a + b) / nI 20 = nI a ∧ nI (20 * a + b) - nI (20 * a + b) / nI 20 * nI 20 = nI b := by
    intro a b ha hb
    rw [q_rem (by omega) (by decide) (by decide), q_div (by omega) (by decide) (by decide)]
    exact ⟨by congr 1; omega, by congr 1; omega⟩
  have tail : ∀ a b, a < 2 * P + 11 → b < 2 * P + 11 → ∀ (fs : Int32), fs = nI (20 * a + b) → x_L (fs / nI 20) (fun y32 => x_L (fs - fs / nI 20 * nI 20) (fun y33 => if nI w = nI 1 then (x_B (f_Mo_termOf (nI P) y32) (fun y41 => some y41)) else if nI w = nI 2 then (x_B (f_Mo_numberOf (nI P) y32) (fun y40 => some y40)) else if y32 = y33 then (some (-nI 1)) else if nI w = nI 3 then (x_B (f_Mo_termOf (nI P) y33) (fun y39 => some y39)) else x_B (f_Mo_numberOf (nI P) y33) (fun y38 => some y38))) = some (if w = 1 then nI (z_cs P a) else if w = 2 then nI (z_cm P a) else if a = b then -nI 1 else if w = 3 then nI (z_cs P b) else nI (z_cm P b)) := by
    intro a b ha hb fs hfs
    subst hfs
    obtain ⟨d1, d2⟩ := dec a b (by omega) (by omega)
    refine e_L ?_
    refine e_L ?_
    rw [d2, d1, (m_tnum hP (by omega)).1, (m_tnum hP (by omega)).2, (m_tnum (c := b) hP (by omega)).1, (m_tnum (c := b) hP (by omega)).2]
    simp only [q_B]
    by_cases w1 : w = 1
    · rw [if_pos w1]; exact e_T (by rw [w1]) rfl
    rw [if_neg w1]
    refine e_F (fun z => w1 ((nI_eq (by omega) (by decide)).mp z)) ?_
    by_cases w2 : w = 2
    · rw [if_pos w2]; exact e_T (by rw [w2]) rfl
    rw [if_neg w2]
    refine e_F (fun z => w2 ((nI_eq (by omega) (by decide)).mp z)) ?_
    by_cases hab : a = b
    · rw [if_pos hab]; exact e_T (by rw [hab]) rfl
    rw [if_neg hab]
    refine e_F (fun z => hab ((nI_eq (by omega) (by omega)).mp z)) ?_
    by_cases w3 : w = 3
    · rw [if_pos w3]; exact e_T (by rw [w3]) rfl
    · rw [if_neg w3]; exact e_F (fun z => w3 ((nI_eq (by omega) (by decide)).mp z)) rfl
  unfold z_ff
  cases h1 : z_fst (fun a => z_ft P t T a a) (2 * P + 11) 0 with
  | some a =>
    obtain ⟨r1, r2, r3⟩ := z_fst_rng _ _ _ _ h1
    have hne : ¬ z_cn (fun a => z_ft P t T a a) (2 * P + 11) 0 = 0 := fun z => by rw [i1.mp z] at h1; cases h1
    refine e_F (nI_ne0 (by omega) (by omega)) ?_
    rw [if_neg hne]
    have g := tail a a (by omega) (by omega) _ (show z_or1 (some a) (-nI 1) (fun i => nI (20 * i + i)) = nI (20 * a + a) from rfl)
    rw [if_pos (rfl : a = a)] at g
    exact g
  | none =>
    have hz := i1.mpr h1
    rw [hz, Nat.zero_add] at hsum
    rw [if_pos hz]
    unfold z_fp
    cases h2 : z_fst (fun a => (z_pr P t T a).isSome) (2 * P + 11) 0 with
    | none =>
      have := i2.mpr h2
      refine e_T (by rw [hsum, this]; rfl) ?_
      exact e_F (nI_ne0 (by omega) (by omega)) rfl
    | some a =>
      obtain ⟨r1, r2, r3⟩ := z_fst_rng _ _ _ _ h2
      have hne : ¬ z_em (z_ft P t T) (2 * P + 11) (2 * P + 11) 0 = 0 := fun z => by rw [i2.mp z] at h2; cases h2
      refine e_F (nI_ne0 (by omega) (by omega)) ?_
      cases hpr : z_pr P t T a with
      | none => rw [hpr] at r3; cases r3
      | some i =>
        obtain ⟨s1, s2, s3⟩ := z_fst_rng _ _ _ _ hpr
        have g := tail a i (by omega) (by omega) _ (show z_or1 (some a) (z_or1 none (-nI 1) (fun i => nI (20 * i + i))) (fun a => z_or1 (z_pr P t T a) (z_or1 none (-nI 1) (fun i => nI (20 * i + i))) (fun i => nI (20 * a + i))) = nI (20 * a + i) by show z_or1 (z_pr P t T a) _ _ = _; rw [hpr]; rfl)
        rw [if_neg (show ¬ a = i by omega)] at g
        simp only [hpr]
        exact g
