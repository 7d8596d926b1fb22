/-! numbers: all ints as nI of naturals -/
theorem q_lit (n : Nat) : (OfNat.ofNat n : Int32) = nI n := Int32.toBitVec_inj.1 rfl
theorem q_ofn (n : Nat) : Int32.ofNat n = nI n := Int32.toBitVec_inj.1 rfl
theorem q_L {α β : Type} (v : β) (k : β → Option α) : x_L v k = k v := rfl
theorem q_B {α β : Type} (q : β) (k : β → Option α) : x_B (some q) k = k q := rfl
theorem q_Sl {α β γ : Type} (b : β) (k : β → Option α) (j : γ → Option α) : x_S (some (.inl b)) k j = k b := rfl
theorem q_Sr {α β γ : Type} (b : γ) (k : β → Option α) (j : γ → Option α) : x_S (some (.inr b)) k j = j b := rfl
theorem q_I {α β : Type} {n i : Nat} (f : Nat → β) (k : β → Option α) (h : i < n) (hn : n < 2 ^ 31) : x_I n f (nI i) k = k (f i) := by
  unfold x_I
  rw [if_neg (nI_in h hn), nI_clamp (by omega)]
theorem q_C {α : Type} {n i : Nat} (k : Option α) (h : i < n) (hn : n < 2 ^ 31) : x_C n (nI i) k = k := by
  unfold x_C
  rw [if_neg (nI_in h hn)]
theorem q_mul (a b : Nat) : nI a * nI b = nI (a * b) := pk_mul a b
theorem q_sub {a b : Nat} (h : b ≤ a) : nI a - nI b = nI (a - b) := pk_sub h
theorem q_and (a b : Nat) : nI a &&& nI b = nI (a &&& b) := by
  apply Int32.toBitVec_inj.1
  show BitVec.ofNat 32 a &&& BitVec.ofNat 32 b = BitVec.ofNat 32 (a &&& b)
  apply BitVec.eq_of_getLsbD_eq
  intro i hi
  simp [hi]
theorem q_or (a b : Nat) : nI a ||| nI b = nI (a ||| b) := by
  apply Int32.toBitVec_inj.1
  show BitVec.ofNat 32 a ||| BitVec.ofNat 32 b = BitVec.ofNat 32 (a ||| b)
  apply BitVec.eq_of_getLsbD_eq
  intro i hi
  simp [hi]
theorem q_xor (a b : Nat) : nI a ^^^ nI b = nI (a ^^^ b) := by
  apply Int32.toBitVec_inj.1
  show BitVec.ofNat 32 a ^^^ BitVec.ofNat 32 b = BitVec.ofNat 32 (a ^^^ b)
  apply BitVec.eq_of_getLsbD_eq
  intro i hi
  simp [hi]
theorem q_s32 : ∀ n, n < 32 → ((nI n &&& nI 31).toBitVec.smod 32).toNat = n := by decide +kernel
theorem q_shr {a b : Nat} (ha : a < 2 ^ 31) (hb : b < 32) : nI a >>> (nI b &&& nI 31) = nI (a / 2 ^ b) := pk_shrN ha _ b (q_s32 b hb)
theorem q_shl {a b : Nat} (hb : b < 32) : nI a <<< (nI b &&& nI 31) = nI (a * 2 ^ b) := by
  apply Int32.toBitVec_inj.1
  apply BitVec.eq_of_toNat_eq
  rw [pk_shl _ _ b (q_s32 b hb)]
  show (BitVec.ofNat 32 a).toNat * 2 ^ b % 2 ^ 32 = (BitVec.ofNat 32 (a * 2 ^ b)).toNat
  rw [BitVec.toNat_ofNat, BitVec.toNat_ofNat, Nat.mod_mul_mod]
theorem q_s32m : ∀ n, n < 32 → ((nI n).toBitVec.smod 32).toNat = n := by decide +kernel
theorem q_shrm {a b : Nat} (ha : a < 2 ^ 31) (hb : b < 32) : nI a >>> nI b = nI (a / 2 ^ b) := pk_shrN ha _ b (q_s32m b hb)
theorem q_shlm {a b : Nat} (hb : b < 32) : nI a <<< nI b = nI (a * 2 ^ b) := by
  apply Int32.toBitVec_inj.1
  apply BitVec.eq_of_toNat_eq
  rw [pk_shl _ _ b (q_s32m b hb)]
  show (BitVec.ofNat 32 a).toNat * 2 ^ b % 2 ^ 32 = (BitVec.ofNat 32 (a * 2 ^ b)).toNat
  rw [BitVec.toNat_ofNat, BitVec.toNat_ofNat, Nat.mod_mul_mod]
theorem q_mod (k : Nat) (hk : k ≤ 32) (a : Nat) : nI a &&& nI (2 ^ k - 1) = nI (a % 2 ^ k) := by rw [q_and, Nat.and_two_pow_sub_one_eq_mod]
theorem q_a1 (a : Nat) : nI a &&& nI 1 = nI (a % 2) := q_mod 1 (by decide) a
theorem q_a3 (a : Nat) : nI a &&& nI 3 = nI (a % 4) := q_mod 2 (by decide) a
theorem q_a7 (a : Nat) : nI a &&& nI 7 = nI (a % 8) := q_mod 3 (by decide) a
theorem q_a31 (a : Nat) : nI a &&& nI 31 = nI (a % 32) := q_mod 5 (by decide) a
theorem q_a31s {a : Nat} (h : a < 32) : nI a &&& nI 31 = nI a := by rw [q_a31, Nat.mod_eq_of_lt h]
theorem q_a65535 (a : Nat) : nI a &&& nI 65535 = nI (a % 65536) := q_mod 16 (by decide) a
theorem q_a8191 (a : Nat) : nI a &&& nI 8191 = nI (a % 8192) := q_mod 13 (by decide) a
theorem q_m1T : (-nI 1).toInt = -1 := by decide
theorem q_m1lt {a : Nat} (h : a < 2 ^ 31) : (-nI 1 < nI a) ↔ True := by rw [Int32.lt_iff_toInt_lt, q_m1T, nI_toInt h]; exact ⟨fun _ => trivial, fun _ => by omega⟩
theorem q_m1le {a : Nat} (h : a < 2 ^ 31) : (-nI 1 ≤ nI a) ↔ True := by rw [Int32.le_iff_toInt_le, q_m1T, nI_toInt h]; exact ⟨fun _ => trivial, fun _ => by omega⟩
theorem q_ltm1 {a : Nat} (h : a < 2 ^ 31) : (nI a < -nI 1) ↔ False := by rw [Int32.lt_iff_toInt_lt, q_m1T, nI_toInt h]; exact ⟨fun _ => by omega, fun h => h.elim⟩
theorem q_lem1 {a : Nat} (h : a < 2 ^ 31) : (nI a ≤ -nI 1) ↔ False := by rw [Int32.le_iff_toInt_le, q_m1T, nI_toInt h]; exact ⟨fun _ => by omega, fun h => h.elim⟩
theorem q_eqm1 {a : Nat} (h : a < 2 ^ 31) : (nI a = -nI 1) ↔ False := ⟨fun e => by have := congrArg Int32.toInt e; rw [q_m1T, nI_toInt h] at this; omega, fun h => h.elim⟩
theorem q_m1eq {a : Nat} (h : a < 2 ^ 31) : (-nI 1 = nI a) ↔ False := ⟨fun e => (q_eqm1 h).mp e.symm, fun h => h.elim⟩
theorem q_m1 : (-nI 1 : Int32) = nI 4294967295 := by decide
/-- truth as a number -/
theorem q_b0 (b : Bool) : (nI b.toNat = nI 0) ↔ b = false := by cases b <;> decide
theorem q_b1 (b : Bool) : (nI b.toNat = nI 1) ↔ b = true := by cases b <;> decide
theorem q_bm (b : Bool) : nI b.toNat &&& nI 1 = nI b.toNat := by cases b <;> decide
theorem q_if (b : Bool) : (if b = true then nI 1 else nI 0) = nI b.toNat := by cases b <;> rfl
theorem q_ifs (b : Bool) : (if b = true then some (nI 1) else some (nI 0)) = some (nI b.toNat) := by cases b <;> rfl
theorem q_ifn (b : Bool) : (if b = false then some (nI 0) else some (nI 1)) = some (nI b.toNat) := by cases b <;> rfl
theorem q_ifs' (b : Bool) : (if b = true then some (nI 0) else some (nI 1)) = some (nI (!b).toNat) := by cases b <;> rfl
theorem q_ifn' (b : Bool) : (if b = false then some (nI 1) else some (nI 0)) = some (nI (!b).toNat) := by cases b <;> rfl
theorem q_dec {c : Prop} [Decidable c] : (if c then some (nI 1) else some (nI 0)) = some (nI (decide c).toNat) := by by_cases h : c <;> simp [h]
theorem q_dec' {c : Prop} [Decidable c] : (if c then some (nI 0) else some (nI 1)) = some (nI (decide (¬ c)).toNat) := by by_cases h : c <;> simp [h]
theorem q_bmod (b : Bool) : b.toNat % 2 = b.toNat := by cases b <;> rfl
theorem q_bl (b : Bool) : b.toNat < 2 := by cases b <;> decide
/-- any int: below 0, or a natural -/
theorem q_any (x : Int32) : x < nI 0 ∨ ∃ n : Nat, n < 2 ^ 31 ∧ x = nI n := by
  by_cases h : x < 0
  · exact Or.inl h
  · exact Or.inr (nI_of h)
theorem q_neg {x : Int32} (h : x < nI 0) : x.toInt < 0 := by
  have := Int32.lt_iff_toInt_lt.mp h
  rw [nI_toInt (by decide)] at this
  exact this
theorem q_div {a d : Nat} (ha : a < 2 ^ 31) (h0 : 0 < d) (hd : d < 2 ^ 31) : nI a / nI d = nI (a / d) := pk_div ha h0 hd
theorem q_rem {a d : Nat} (ha : a < 2 ^ 31) (h0 : 0 < d) (hd : d < 2 ^ 31) : nI a - nI a / nI d * nI d = nI (a % d) := pk_rem ha h0 hd
theorem z_mm (a d : Nat) : a - a / d * d = a % d := by rw [Nat.mod_eq_sub_mul_div, Nat.mul_comm]
theorem q_rem2 (a d : Nat) : nI a - nI (a / d * d) = nI (a % d) := by rw [q_sub (Nat.div_mul_le_self a d), z_mm]
/-! one step of a function's reading, the answer known -/
theorem e_L {α β : Type} {v : β} {k : β → Option α} {r : Option α} (h : k v = r) : x_L v k = r := h
theorem e_B {α β : Type} {o : Option β} {q : β} {k : β → Option α} {r : Option α} (ho : o = some q) (h : k q = r) : x_B o k = r := by rw [ho]; exact h
theorem e_Sl {α β γ : Type} {o : Option (β ⊕ γ)} {b : β} {k : β → Option α} {j : γ → Option α} {r : Option α} (ho : o = some (.inl b)) (h : k b = r) : x_S o k j = r := by rw [ho]; exact h
theorem e_Sr {α β γ : Type} {o : Option (β ⊕ γ)} {b : γ} {k : β → Option α} {j : γ → Option α} {r : Option α} (ho : o = some (.inr b)) (h : j b = r) : x_S o k j = r := by rw [ho]; exact h
theorem e_I {α β : Type} {n i : Nat} {f : Nat → β} {e : Int32} {k : β → Option α} {r : Option α} (he : e = nI i) (hi : i < n) (hn : n < 2 ^ 31) (h : k (f i) = r) : x_I n f e k = r := by rw [he, q_I f k hi hn]; exact h
theorem e_C {α : Type} {n i : Nat} {e : Int32} {k r : Option α} (he : e = nI i) (hi : i < n) (hn : n < 2 ^ 31) (h : k = r) : x_C n e k = r := by rw [he, q_C k hi hn]; exact h
theorem e_T {α : Type} {c : Prop} [Decidable c] {a b r : α} (hc : c) (h : a = r) : (if c then a else b) = r := by rw [if_pos hc]; exact h
theorem e_F {α : Type} {c : Prop} [Decidable c] {a b r : α} (hc : ¬ c) (h : b = r) : (if c then a else b) = r := by rw [if_neg hc]; exact h
theorem e_X {α : Type} {c d : Prop} [Decidable c] {a b r : α} (hc : c ↔ d) (h1 : d → a = r) (h2 : ¬ d → b = r) : (if c then a else b) = r := by
  by_cases h : c
  · rw [if_pos h]; exact h1 (hc.mp h)
  · rw [if_neg h]; exact h2 (fun z => h (hc.mpr z))
/-! folds over 0 .. n - 1 -/
def z_fold {α : Type} (g : Nat → α → α) : Nat → α → α
  | 0, a => a
  | n + 1, a => g n (z_fold g n a)
def z_any (f : Nat → Bool) : Nat → Bool
  | 0 => false
  | n + 1 => z_any f n || f n
def z_all (f : Nat → Bool) : Nat → Bool
  | 0 => true
  | n + 1 => z_all f n && f n
def z_cnt (f : Nat → Bool) : Nat → Nat
  | 0 => 0
  | n + 1 => z_cnt f n + (f n).toNat
theorem z_any_iff (f : Nat → Bool) (n : Nat) : z_any f n = true ↔ ∃ i, i < n ∧ f i = true := by
  induction n with
  | zero => simp [z_any]
  | succ n ih =>
    simp only [z_any, Bool.or_eq_true, ih]
    constructor
    · rintro (⟨i, h1, h2⟩ | h)
      · exact ⟨i, by omega, h2⟩
      · exact ⟨n, by omega, h⟩
    · rintro ⟨i, h1, h2⟩
      rcases Nat.lt_or_ge i n with h | h
      · exact Or.inl ⟨i, h, h2⟩
      · have : i = n := by omega
        subst this
        exact Or.inr h2
theorem z_all_iff (f : Nat → Bool) (n : Nat) : z_all f n = true ↔ ∀ i, i < n → f i = true := by
  induction n with
  | zero => simp [z_all]
  | succ n ih =>
    simp only [z_all, Bool.and_eq_true, ih]
    constructor
    · rintro ⟨h1, h2⟩ i hi
      rcases Nat.lt_or_ge i n with h | h
      · exact h1 i h
      · have : i = n := by omega
        subst this
        exact h2
    · intro h
      exact ⟨fun i hi => h i (by omega), h n (by omega)⟩
theorem z_any_false (f : Nat → Bool) (n : Nat) : z_any f n = false ↔ ∀ i, i < n → f i = false := by
  rw [← Bool.not_eq_true, z_any_iff]
  constructor
  · intro h i hi
    cases e : f i
    · rfl
    · exact absurd ⟨i, hi, e⟩ h
  · rintro h ⟨i, hi, e⟩
    rw [h i hi] at e
    cases e
theorem z_cnt_le (f : Nat → Bool) (n : Nat) : z_cnt f n ≤ n := by
  induction n with
  | zero => exact Nat.le_refl _
  | succ n ih =>
    have := q_bl (f n)
    simp only [z_cnt]
    omega
theorem z_cnt_all (f : Nat → Bool) (n : Nat) : z_cnt f n = n ↔ z_all f n = true := by
  induction n with
  | zero => simp [z_cnt, z_all]
  | succ n ih =>
    have := z_cnt_le f n
    simp only [z_cnt, z_all, Bool.and_eq_true]
    cases h : f n <;> simp <;> omega
theorem z_any_congr {f g : Nat → Bool} {n : Nat} (h : ∀ i, i < n → f i = g i) : z_any f n = z_any g n := by
  induction n with
  | zero => rfl
  | succ n ih => simp only [z_any]; rw [ih (fun i hi => h i (by omega)), h n (by omega)]
theorem z_all_congr {f g : Nat → Bool} {n : Nat} (h : ∀ i, i < n → f i = g i) : z_all f n = z_all g n := by
  induction n with
  | zero => rfl
  | succ n ih => simp only [z_all]; rw [ih (fun i hi => h i (by omega)), h n (by omega)]
theorem z_cnt_congr {f g : Nat → Bool} {n : Nat} (h : ∀ i, i < n → f i = g i) : z_cnt f n = z_cnt g n := by
  induction n with
  | zero => rfl
  | succ n ih => simp only [z_cnt]; rw [ih (fun i hi => h i (by omega)), h n (by omega)]
/-- a row with one place changed -/
theorem q_upd {f : Nat → Int32} {k j : Nat} {x : Int32} : upd f k x j = if j = k then x else f j := rfl
/-! the reference's smallest functions -/
theorem q_litJ (n : Nat) : (OfNat.ofNat n : Int64) = lN n := Int64.toBitVec_inj.1 rfl
theorem m_in (x y z : Int64) : f_Mo_in x y z = some (nI (decide (y.toInt ≤ x.toInt ∧ x.toInt ≤ z.toInt)).toNat) := by
  unfold f_Mo_in
  by_cases h1 : lg_cmp x y < 0
  · rw [if_pos h1]
    have := Int64.lt_iff_toInt_lt.mp ((lg_cmp_lt x y).mp h1)
    rw [decide_eq_false (by omega)]; rfl
  · rw [if_neg h1]
    have h1' : ¬ x.toInt < y.toInt := fun h => h1 ((lg_cmp_lt x y).mpr (Int64.lt_iff_toInt_lt.mpr h))
    by_cases h2 : 0 < lg_cmp x z
    · rw [if_pos h2]
      have := Int64.lt_iff_toInt_lt.mp ((lg_cmp_gt x z).mp h2)
      rw [decide_eq_false (by omega)]; rfl
    · rw [if_neg h2]
      have h2' : ¬ z.toInt < x.toInt := fun h => h2 ((lg_cmp_gt x z).mpr (Int64.lt_iff_toInt_lt.mpr h))
      rw [decide_eq_true (by omega)]; rfl
theorem m_inN {n a b : Nat} (hn : n < 2 ^ 31) (ha : a < 2 ^ 31) (hb : b < 2 ^ 31) : f_Mo_in (nI n).toInt64 (lN a) (lN b) = some (nI (decide (a ≤ n ∧ n ≤ b)).toNat) := by
  rw [m_in, nI_l hn, lN_toInt hn, lN_toInt ha, lN_toInt hb]
  congr 4
  apply propext
  omega
theorem m_inneg {p : Int32} (h : p < nI 0) {a : Nat} (ha : a < 2 ^ 31) (z : Int64) : f_Mo_in p.toInt64 (lN a) z = some (nI 0) := by
  have := q_neg h
  rw [m_in, Int32.toInt_toInt64, lN_toInt ha, decide_eq_false (by omega)]
  rfl
theorem q_predT {P : Nat} (h : P < 2 ^ 31) : (nI P - nI 1).toInt = (P : Int) - 1 := by
  cases P with
  | zero => decide
  | succ P => rw [q_sub (by omega), nI_toInt (by omega)]; omega
theorem m_inP {n P : Nat} (hn : n < 2 ^ 31) (hP : P < 2 ^ 31) : f_Mo_in (nI n).toInt64 (lN 0) (nI P - nI 1).toInt64 = some (nI (decide (n < P)).toNat) := by
  rw [m_in, nI_l hn, lN_toInt hn, lN_toInt (by decide), Int32.toInt_toInt64, q_predT hP]
  congr 4
  apply propext
  omega
theorem m_isPerson {P n : Nat} (hP : P < 2 ^ 31) (hn : n < 2 ^ 31) : f_Mo_isPerson (nI P) (nI n) = some (nI (decide (n < P)).toNat) := by
  unfold f_Mo_isPerson
  simp only [q_lit, q_litJ]
  rw [m_inP hn hP, q_B, q_bm]
theorem m_isPersonN {P : Nat} {p : Int32} (h : p < nI 0) : f_Mo_isPerson (nI P) p = some (nI 0) := by
  unfold f_Mo_isPerson
  simp only [q_lit, q_litJ]
  rw [m_inneg h (by decide), q_B]
  decide
theorem m_isSpell {P n : Nat} (hP : P < 2 ^ 31) (hn : n < 2 ^ 31) : f_Mo_isSpell (nI P) (nI n) = some (nI (decide (n < P)).toNat) := m_isPerson hP hn
theorem m_isSpellN {P : Nat} {p : Int32} (h : p < nI 0) : f_Mo_isSpell (nI P) p = some (nI 0) := m_isPersonN h
theorem m_isSet {M n : Nat} (hM : M < 31) (hn : n < 2 ^ 31) : f_Mo_isSet (nI M) (nI n) = some (nI (decide (n < 2 ^ M)).toNat) := by
  have h1 : 2 ^ M < 2 ^ 31 := Nat.pow_lt_pow_right (by decide) hM
  unfold f_Mo_isSet
  simp only [q_lit, q_litJ]
  rw [q_shl (by omega), Nat.one_mul, m_inP hn h1, q_B, q_bm]
theorem m_isSetN {M : Nat} {p : Int32} (h : p < nI 0) : f_Mo_isSet (nI M) p = some (nI 0) := by
  unfold f_Mo_isSet
  simp only [q_lit, q_litJ]
  rw [m_inneg h (by decide), q_B]
  decide
theorem m_has {a v : Nat} (ha : a < 2 ^ 31) (hv : v < 32) : f_Mo_has (nI a) (nI v) = some (nI (a.testBit v).toNat) := by
  unfold f_Mo_has
  simp only [q_lit]
  rw [q_shr ha hv, q_a1, q_dec, Nat.testBit_eq_decide_div_mod_eq]
  congr 4
  apply propext
  rw [nI_eq (by omega) (by omega)]
theorem z_w (x : Nat) {v : Nat} (h : v < 3) : (x / 128 % 8).testBit v = x.testBit (7 + v) := by
  rw [show 8 = 2 ^ 3 from rfl, Nat.testBit_mod_two_pow, show 128 = 2 ^ 7 from rfl, Nat.testBit_div_two_pow]
  simp [h, Nat.add_comm]
theorem z_br (x : Nat) {v : Nat} (h : v < 2) : (x / 32 % 4).testBit v = x.testBit (5 + v) := by
  rw [show 4 = 2 ^ 2 from rfl, Nat.testBit_mod_two_pow, show 32 = 2 ^ 5 from rfl, Nat.testBit_div_two_pow]
  simp [h, Nat.add_comm]
