/-! the class's told land, and terms as masks -/
def z_tol (M : Nat) (sp : Nat → Nat → Nat) (kf nf sf tf mf wf : Nat → Int32) : Prop := ∀ s, s < M → kf s = nI (sp s 0) ∧ tf s = nI (sp s 1) ∧ mf s = nI (sp s 2) ∧ wf s = (if sp s 9 = 0 then -nI 1 else nI (sp s 9 - 1)) ∧ ∀ i, i < sp s 2 → sf (3 * s + i) = nI (sp s (3 + 2 * i)) ∧ nf (3 * s + i) = nI (sp s (4 + 2 * i))
theorem t_hasSpell {M s : Nat} (hM : M ≤ 5) (hs : s < 2 ^ 31) : f_To_hasSpell (nI M) (nI s) = some (nI (decide (s < M)).toNat) := by
  unfold f_To_hasSpell
  simp (disch := omega) only [q_lit, nI_ltI, nI_leI, Nat.not_lt_zero, if_false]
  by_cases h : s < M
  · rw [if_neg (by omega), if_neg (by omega)]; simp [h]
  · rw [if_pos (by omega)]; simp [h]
theorem t_hasSpellN {M : Nat} {s : Int32} (h : s < nI 0) : f_To_hasSpell (nI M) s = some (nI 0) := by
  unfold f_To_hasSpell
  exact (if_pos h).trans rfl
theorem t_hasPerson {P p : Nat} (hP : P < 2 ^ 31) (hp : p < 2 ^ 31) : f_To_hasPerson (nI P) (nI p) = some (nI (decide (p < P)).toNat) := by
  unfold f_To_hasPerson
  simp (disch := omega) only [q_lit, nI_ltI, nI_leI, Nat.not_lt_zero, if_false]
  by_cases h : p < P
  · rw [if_neg (by omega)]; simp [h]
  · rw [if_pos (by omega)]; simp [h]
theorem t_hasPersonN {P : Nat} {p : Int32} (h : p < nI 0) : f_To_hasPerson (nI P) p = some (nI 0) := by
  unfold f_To_hasPerson
  exact (if_pos h).trans rfl
theorem t_hasAll {M n : Nat} (hM : M ≤ 5) (hn : n < 2 ^ 31) : f_To_hasAll (nI M) (nI n) = some (nI (decide (n < 2 ^ M)).toNat) := by
  have h1 : 2 ^ M < 2 ^ 31 := Nat.pow_lt_pow_right (by decide) (by omega)
  unfold f_To_hasAll
  simp (disch := omega) only [q_lit, q_a31s, q_shlm, Nat.one_mul, nI_ltI, nI_leI, Nat.not_lt_zero, if_false]
  by_cases h : n < 2 ^ M
  · rw [if_neg (by omega)]; simp [h]
  · rw [if_pos (by omega)]; simp [h]
theorem t_hasAllN {M : Nat} {p : Int32} (h : p < nI 0) : f_To_hasAll (nI M) p = some (nI 0) := by
  unfold f_To_hasAll
  exact (if_pos h).trans rfl
theorem t_everybody {P : Nat} (hP : P ≤ 3) : f_To_everybody (nI P) = some (nI (2 ^ P - 1)) := by
  unfold f_To_everybody
  simp (disch := omega) only [q_lit, q_a31s, q_shlm, Nat.one_mul]
  rw [q_sub (Nat.two_pow_pos P)]
theorem t_get {M s : Nat} (hM : M ≤ 5) (hs : s < M) (f : Nat → Int32) : x_B (f_To_hasSpell (nI M) (nI s)) (fun y1 => if y1 = 0 then (some (-1 : Int32)) else x_I 5 f (nI s) (fun v4 => some v4)) = some (f s) := by
  rw [t_hasSpell hM (by omega), q_B]
  simp only [hs, decide_true, Bool.toNat_true]
  rw [if_neg (by decide), q_I f _ (by omega) (by decide)]
theorem t_kindOf {M s : Nat} (hM : M ≤ 5) (hs : s < M) (f : Nat → Int32) : f_To_kindOf (nI M) f (nI s) = some (f s) := t_get hM hs f
theorem t_targetOf {M s : Nat} (hM : M ≤ 5) (hs : s < M) (f : Nat → Int32) : f_To_targetOf (nI M) f (nI s) = some (f s) := t_get hM hs f
theorem t_wakenedBy {M s : Nat} (hM : M ≤ 5) (hs : s < M) (f : Nat → Int32) : f_To_wakenedBy (nI M) f (nI s) = some (f s) := t_get hM hs f
theorem t_termsOf {M s : Nat} (hM : M ≤ 5) (hs : s < M) (f : Nat → Int32) : f_To_termsOf (nI M) f (nI s) = some (f s) := by
  unfold f_To_termsOf
  rw [t_hasSpell hM (by omega), q_B]
  simp only [hs, decide_true, Bool.toNat_true]
  rw [if_neg (by decide), q_I f _ (by omega) (by decide)]
theorem t_hasTerm {M s i n : Nat} {mf : Nat → Int32} (hM : M ≤ 5) (hs : s < M) (hn : mf s = nI n) (h3 : n ≤ 3) (hi : i < n) : f_To_hasTerm (nI M) mf (nI s) (nI i) = some (nI 1) := by
  unfold f_To_hasTerm
  rw [t_hasSpell hM (by omega), q_B]
  simp only [hs, decide_true, Bool.toNat_true]
  rw [if_neg (by decide)]
  simp (disch := omega) only [q_lit, nI_ltI, nI_leI, Nat.not_lt_zero, if_false]
  rw [if_neg (by omega), q_I mf _ (by omega) (by decide), hn]
  simp (disch := omega) only [nI_leI]
  rw [if_neg (by omega)]
theorem t_sortOf {M s i n : Nat} {mf : Nat → Int32} (hM : M ≤ 5) (hs : s < M) (hn : mf s = nI n) (h3 : n ≤ 3) (hi : i < n) (f : Nat → Int32) : f_To_sortOf (nI M) f mf (nI s) (nI i) = some (f (3 * s + i)) := by
  unfold f_To_sortOf
  rw [t_hasTerm hM hs hn h3 hi, q_B, if_neg (by decide)]
  refine e_L ?_
  simp only [q_lit, q_mul, nI_add]
  rw [q_I f _ (by omega) (by decide), Nat.mul_comm]
theorem t_numberOf {M s i n : Nat} {mf : Nat → Int32} (hM : M ≤ 5) (hs : s < M) (hn : mf s = nI n) (h3 : n ≤ 3) (hi : i < n) (f : Nat → Int32) : f_To_numberOf (nI M) f mf (nI s) (nI i) = some (f (3 * s + i)) := t_sortOf hM hs hn h3 hi f
def z_mk (so v : Nat) : Nat := if so = 1 then 2 ^ (7 + v) else if so = 2 then 57344 else if so = 3 then 2 ^ v else if so = 4 then 2 ^ v else if so = 5 then 2 ^ (5 + v) else if so = 6 then 2 ^ (5 + v) else 0
def z_vl (so v : Nat) : Nat := if so = 2 then v * 2 ^ 13 else if so = 3 then z_mk so v else if so = 4 then 0 else if so = 5 then z_mk so v else if so = 6 then 0 else z_mk so v
theorem t_mask {so v : Nat} (h1 : so ≤ 7) (h2 : v ≤ 7) : f_Tm_maskOf (nI so) (nI v) = some (nI (z_mk so v)) := by
  unfold f_Tm_maskOf z_mk f_Tm_maskOf_J54
  simp (disch := omega) only [q_lit, nI_eq, nI_add, q_a31s, q_shlm, Nat.one_mul]
  repeat (split; rfl)
  rfl
theorem t_value {so v : Nat} (h1 : so ≤ 7) (h2 : v ≤ 7) : f_Tm_valueOf (nI so) (nI v) = some (nI (z_vl so v)) := by
  unfold f_Tm_valueOf z_vl f_Tm_valueOf_J43
  rw [t_mask h1 h2]
  simp (disch := omega) only [q_lit, nI_eq, q_a31s, q_shlm, q_B]
  repeat (split; rfl)
  rfl
theorem z_andp (x j : Nat) : x &&& 2 ^ j = if x.testBit j = true then 2 ^ j else 0 := by
  apply Nat.eq_of_testBit_eq
  intro i
  rw [Nat.testBit_and, Nat.testBit_two_pow]
  by_cases h : j = i
  · subst h
    cases hx : x.testBit j <;> simp
  · cases hx : x.testBit j <;> simp [h, Nat.testBit_two_pow]
theorem z_andp1 (x j : Nat) : (x &&& 2 ^ j = 2 ^ j) ↔ x.testBit j = true := by
  rw [z_andp]
  have := Nat.two_pow_pos j
  cases x.testBit j <;> simp <;> omega
theorem z_andp0 (x j : Nat) : (x &&& 2 ^ j = 0) ↔ x.testBit j = false := by
  rw [z_andp]
  have := Nat.two_pow_pos j
  cases x.testBit j <;> simp <;> omega
theorem z_andd {x : Nat} (h : x < 65536) : x &&& 57344 = x / 8192 * 2 ^ 13 := by
  apply Nat.eq_of_testBit_eq
  intro i
  rw [Nat.testBit_and, show 57344 = (2 ^ 3 - 1) * 2 ^ 13 from rfl, Nat.testBit_mul_two_pow, Nat.testBit_mul_two_pow, Nat.testBit_two_pow_sub_one, show 8192 = 2 ^ 13 from rfl, Nat.testBit_div_two_pow]
  by_cases h1 : 13 ≤ i
  · rw [show i - 13 + 13 = i by omega]
    by_cases h2 : i - 13 < 3
    · simp [h1, h2]
    · have : x.testBit i = false := Nat.testBit_lt_two_pow (Nat.lt_of_lt_of_le (show x < 2 ^ 16 from h) (Nat.pow_le_pow_right (by decide) (by omega)))
      simp [this]
  · simp [h1]
theorem z_term {x so v : Nat} (hx : x < 65536) (h1 : 1 ≤ so) (h6 : so ≤ 6) : (x &&& z_mk so v = z_vl so v) ↔ (if so = 1 then x.testBit (7 + v) else if so = 2 then decide (x / 8192 = v) else if so = 3 then x.testBit v else if so = 4 then !x.testBit v else if so = 5 then x.testBit (5 + v) else !x.testBit (5 + v)) = true := by
  have hc : so = 1 ∨ so = 2 ∨ so = 3 ∨ so = 4 ∨ so = 5 ∨ so = 6 := by omega
  rcases hc with rfl | rfl | rfl | rfl | rfl | rfl
  · exact z_andp1 x (7 + v)
  · show (x &&& 57344 = v * 2 ^ 13) ↔ decide (x / 8192 = v) = true
    rw [z_andd hx, decide_eq_true_iff]
    omega
  · exact z_andp1 x v
  · show (x &&& 2 ^ v = 0) ↔ (!x.testBit v) = true
    rw [z_andp0]; cases x.testBit v <;> simp
  · exact z_andp1 x (5 + v)
  · show (x &&& 2 ^ (5 + v) = 0) ↔ (!x.testBit (5 + v)) = true
    rw [z_andp0]; cases x.testBit (5 + v) <;> simp
theorem z_mk_lt {P s so v : Nat} (hP : P ≤ 3) (hs : s < 5) (h : z_okT P s so v) : z_mk so v < 2 ^ 16 ∧ z_vl so v &&& z_mk so v = z_vl so v := by
  obtain ⟨t1, t2, t3, t4, t5, t6⟩ := h
  have hc : so = 0 ∨ so = 1 ∨ so = 2 ∨ so = 3 ∨ so = 4 ∨ so = 5 ∨ so = 6 ∨ so = 7 := by omega
  rcases hc with rfl | rfl | rfl | rfl | rfl | rfl | rfl | rfl
  · exact ⟨show (0 : Nat) < 2 ^ 16 by decide, show (0 : Nat) &&& 0 = 0 by decide⟩
  · have := t2 (by omega)
    exact ⟨Nat.pow_lt_pow_right (by decide) (by omega), Nat.and_self _⟩
  · have := t3 rfl
    refine ⟨show (57344 : Nat) < 2 ^ 16 by decide, ?_⟩
    show v * 2 ^ 13 &&& 57344 = v * 2 ^ 13
    rw [z_andd (by omega)]
    omega
  · have := t4 (by omega)
    exact ⟨Nat.pow_lt_pow_right (by decide) (by omega), Nat.and_self _⟩
  · have := t4 (by omega)
    exact ⟨Nat.pow_lt_pow_right (by decide) (by omega), Nat.zero_and _⟩
  · have := t5 (by omega)
    exact ⟨Nat.pow_lt_pow_right (by decide) (by omega), Nat.and_self _⟩
  · have := t5 (by omega)
    exact ⟨Nat.pow_lt_pow_right (by decide) (by omega), Nat.zero_and _⟩
  · exact ⟨show (0 : Nat) < 2 ^ 16 by decide, show (0 : Nat) &&& 0 = 0 by decide⟩
/-- two masks in one -/
theorem z_masks {y a b va vb : Nat} (ha : va &&& a = va) (hb : vb &&& b = vb) (hc : (a &&& b) &&& (va ^^^ vb) = 0) : (y &&& (a ||| b) = va ||| vb) ↔ (y &&& a = va ∧ y &&& b = vb) := by
  have ta : ∀ i, (va.testBit i && a.testBit i) = va.testBit i := fun i => by rw [← Nat.testBit_and, ha]
  have tb : ∀ i, (vb.testBit i && b.testBit i) = vb.testBit i := fun i => by rw [← Nat.testBit_and, hb]
  have tc : ∀ i, ((a.testBit i && b.testBit i) && (va.testBit i ^^ vb.testBit i)) = false := fun i => by rw [← Nat.testBit_and, ← Nat.testBit_xor, ← Nat.testBit_and, hc, Nat.zero_testBit]
  constructor
  · intro h
    have th : ∀ i, (y.testBit i && (a.testBit i || b.testBit i)) = (va.testBit i || vb.testBit i) := fun i => by rw [← Nat.testBit_or, ← Nat.testBit_and, h, Nat.testBit_or]
    constructor
    · apply Nat.eq_of_testBit_eq
      intro i
      rw [Nat.testBit_and]
      have h1 := ta i; have h2 := tb i; have h3 := tc i; have h4 := th i
      revert h1 h2 h3 h4
      cases y.testBit i <;> cases a.testBit i <;> cases b.testBit i <;> cases va.testBit i <;> cases vb.testBit i <;> decide
    · apply Nat.eq_of_testBit_eq
      intro i
      rw [Nat.testBit_and]
      have h1 := ta i; have h2 := tb i; have h3 := tc i; have h4 := th i
      revert h1 h2 h3 h4
      cases y.testBit i <;> cases a.testBit i <;> cases b.testBit i <;> cases va.testBit i <;> cases vb.testBit i <;> decide
  · rintro ⟨h1, h2⟩
    rw [Nat.and_or_distrib_left, h1, h2]
theorem z_maskc {y a b va vb : Nat} (hc : ¬ (a &&& b) &&& (va ^^^ vb) = 0) : ¬ (y &&& a = va ∧ y &&& b = vb) := by
  rintro ⟨h1, h2⟩
  refine hc ?_
  apply Nat.eq_of_testBit_eq
  intro i
  rw [Nat.testBit_and, Nat.testBit_xor, ← h1, ← h2, Nat.testBit_and, Nat.testBit_and, Nat.testBit_and, Nat.zero_testBit]
  cases y.testBit i <;> cases a.testBit i <;> cases b.testBit i <;> decide
/-- a set of numbers below n, by bits -/
def z_bm (f : Nat → Bool) : Nat → Nat
  | 0 => 0
  | n + 1 => if f n = true then z_bm f n ||| 2 ^ n else z_bm f n
theorem z_bm_bit (f : Nat → Bool) (n j : Nat) : (z_bm f n).testBit j = (decide (j < n) && f j) := by
  induction n with
  | zero => simp [z_bm]
  | succ n ih =>
    unfold z_bm
    split
    · next h =>
      rw [Nat.testBit_or, ih, Nat.testBit_two_pow]
      by_cases hj : n = j
      · subst hj; simp [h]
      · have : (j < n + 1) ↔ j < n := by omega
        simp [hj, this]
    · next h =>
      rw [ih]
      by_cases hj : n = j
      · subst hj; simp [h]
      · have : (j < n + 1) ↔ j < n := by omega
        simp [this]
theorem z_bm_lt (f : Nat → Bool) (n : Nat) : z_bm f n < 2 ^ n := by
  induction n with
  | zero => exact Nat.one_pos
  | succ n ih =>
    have h1 : 2 ^ n < 2 ^ (n + 1) := Nat.pow_lt_pow_right (by decide) (by omega)
    unfold z_bm
    split
    · exact Nat.or_lt_two_pow (by omega) h1
    · omega
theorem z_bm_and (f : Nat → Bool) (n y : Nat) : (y &&& z_bm f n = 0) ↔ z_any (fun s => y.testBit s && f s) n = false := by
  rw [z_any_false]
  constructor
  · intro h i hi
    have h2 : (y &&& z_bm f n).testBit i = false := by rw [h, Nat.zero_testBit]
    rw [Nat.testBit_and, z_bm_bit] at h2
    simpa [hi] using h2
  · intro h
    apply Nat.eq_of_testBit_eq
    intro i
    rw [Nat.testBit_and, z_bm_bit, Nat.zero_testBit]
    by_cases hi : i < n
    · have := h i hi
      simpa [hi] using this
    · simp [hi]
