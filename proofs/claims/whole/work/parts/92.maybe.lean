/-! how many ifs may be, the first, the best day -/
def z_cn (f : Nat → Bool) : Nat → Nat → Nat
  | 0, _ => 0
  | r + 1, b => (f b).toNat + z_cn f r (b + 1)
def z_fst (f : Nat → Bool) : Nat → Nat → Option Nat
  | 0, _ => none
  | r + 1, a => if f a = true then some a else z_fst f r (a + 1)
theorem z_cn_fst (f : Nat → Bool) : ∀ r b, z_cn f r b = 0 ↔ z_fst f r b = none := by
  intro r
  induction r with
  | zero => intro b; exact ⟨fun _ => rfl, fun _ => rfl⟩
  | succ r ih =>
    intro b
    unfold z_cn z_fst
    cases hf : f b
    · rw [if_neg (by decide)]
      have : (false.toNat + z_cn f r (b + 1) = 0) ↔ z_cn f r (b + 1) = 0 := by simp
      rw [this]
      exact ih (b + 1)
    · rw [if_pos rfl]
      have : ¬ (true.toNat + z_cn f r (b + 1) = 0) := by simp
      exact ⟨fun z => absurd z this, fun z => by cases z⟩
theorem z_cn_le (f : Nat → Bool) : ∀ r b, z_cn f r b ≤ r := by
  intro r
  induction r with
  | zero => intro b; exact Nat.le_refl _
  | succ r ih =>
    intro b
    have := ih (b + 1)
    have := q_bl (f b)
    unfold z_cn
    omega
theorem z_fst_rng (f : Nat → Bool) : ∀ r b i, z_fst f r b = some i → b ≤ i ∧ i < b + r ∧ f i = true := by
  intro r
  induction r with
  | zero => intro b i h; cases h
  | succ r ih =>
    intro b i h
    unfold z_fst at h
    by_cases hf : f b = true
    · rw [if_pos hf] at h
      cases h
      exact ⟨Nat.le_refl _, by omega, hf⟩
    · rw [if_neg hf] at h
      obtain ⟨h1, h2, h3⟩ := ih (b + 1) i h
      exact ⟨by omega, by omega, h3⟩
theorem z_fst_cg {f g : Nat → Bool} : ∀ r b, (∀ i, b ≤ i → i < b + r → f i = g i) → z_fst f r b = z_fst g r b := by
  intro r
  induction r with
  | zero => intro b _; rfl
  | succ r ih =>
    intro b h
    unfold z_fst
    rw [h b (Nat.le_refl _) (by omega), ih (b + 1) (fun i h1 h2 => h i (by omega) (by omega))]
/-- all pairs a ≤ b -/
def z_hm (ft : Nat → Nat → Bool) (N : Nat) : Nat → Nat → Nat
  | 0, _ => 0
  | r + 1, a => z_cn (ft a) (N - a) a + z_hm ft N r (a + 1)
def z_em (ft : Nat → Nat → Bool) (N : Nat) : Nat → Nat → Nat
  | 0, _ => 0
  | r + 1, a => z_cn (ft a) (N - (a + 1)) (a + 1) + z_em ft N r (a + 1)
theorem z_hm_em (ft : Nat → Nat → Bool) (N : Nat) : ∀ r a, a + r = N → z_hm ft N r a = z_cn (fun a => ft a a) r a + z_em ft N r a := by
  intro r
  induction r with
  | zero => intro a _; rfl
  | succ r ih =>
    intro a ha
    unfold z_hm z_cn z_em
    rw [ih (a + 1) (by omega), show N - a = (N - (a + 1)) + 1 by omega]
    show (ft a a).toNat + z_cn (ft a) (N - (a + 1)) (a + 1) + _ = _
    omega
theorem z_hm_le (ft : Nat → Nat → Bool) (N : Nat) : ∀ r a, z_hm ft N r a ≤ r * N := by
  intro r
  induction r with
  | zero => intro a; exact Nat.zero_le _
  | succ r ih =>
    intro a
    have := ih (a + 1)
    have := z_cn_le (ft a) (N - a) a
    unfold z_hm
    rw [Nat.succ_mul]
    omega
/-! the class -/
theorem t_many_in {P t : Nat} {T : Nat → Nat → Nat} {lf : Int32} {it so : Nat → Int32} (hP : P ≤ 3) (h : z_ctr P t T lf it) (hs : z_sor P t T (2 * P + 11) so) {a : Nat} (ha : a < 2 * P + 11) : ∀ r b k n, b + r = 2 * P + 11 → r < k → f_Tr_howMany_L14 lf (nI P) so (nI a) k (nI n) (nI b) = some (nI (n + z_cn (z_ft P t T a) r b)) := by
  intro r
  induction r with
  | zero =>
    intro b k n hb hk
    obtain ⟨k, rfl⟩ : ∃ k', k = k' + 1 := ⟨k - 1, by omega⟩
    rw [f_Tr_howMany_L14, t_cand hP, q_B]
    exact e_T (nI_le (by omega) (by omega)) rfl
  | succ r ih =>
    intro b k n hb hk
    obtain ⟨k, rfl⟩ : ∃ k', k = k' + 1 := ⟨k - 1, by omega⟩
    rw [f_Tr_howMany_L14, t_cand hP, q_B]
    refine e_F (nI_ge (by omega) (by omega)) ?_
    rw [t_fits hP h hs ha (by omega), q_B]
    have e1 : f_SS_oneIf (nI (z_ft P t T a b).toNat) = some (nI (z_ft P t T a b).toNat) := by
      unfold f_SS_oneIf
      cases z_ft P t T a b <;> rfl
    rw [e1, q_B]
    refine e_L ?_
    refine e_L ?_
    rw [nI_add, show nI b + 1 = nI (b + 1) by simp only [q_lit, nI_add], ih (b + 1) k _ (by omega) (by omega)]
    show some (nI (n + (z_ft P t T a b).toNat + z_cn (z_ft P t T a) r (b + 1))) = some (nI (n + ((z_ft P t T a b).toNat + z_cn (z_ft P t T a) r (b + 1))))
    rw [Nat.add_assoc]
theorem t_many_L {P t : Nat} {T : Nat → Nat → Nat} {lf : Int32} {it so : Nat → Int32} (hP : P ≤ 3) (h : z_ctr P t T lf it) (hs : z_sor P t T (2 * P + 11) so) : ∀ r a k n, a + r = 2 * P + 11 → r + 20 < k → f_Tr_howMany_L4 lf (nI P) so k (nI n) (nI a) = some (nI (n + z_hm (z_ft P t T) (2 * P + 11) r a)) := by
  intro r
  induction r with
  | zero =>
    intro a k n ha hk
    obtain ⟨k, rfl⟩ : ∃ k', k = k' + 1 := ⟨k - 1, by omega⟩
    rw [f_Tr_howMany_L4, t_cand hP, q_B]
    exact e_T (nI_le (by omega) (by omega)) rfl
  | succ r ih =>
    intro a k n ha hk
    obtain ⟨k, rfl⟩ : ∃ k', k = k' + 1 := ⟨k - 1, by omega⟩
    rw [f_Tr_howMany_L4, t_cand hP, q_B]
    refine e_F (nI_ge (by omega) (by omega)) ?_
    rw [t_many_in hP h hs (a := a) (by omega) (2 * P + 11 - a) a k n (by omega) (by omega), q_B]
    refine e_L ?_
    rw [show nI a + 1 = nI (a + 1) by simp only [q_lit, nI_add], ih (a + 1) k _ (by omega) (by omega)]
    show some (nI (n + z_cn (z_ft P t T a) (2 * P + 11 - a) a + _)) = some (nI (n + (z_cn (z_ft P t T a) (2 * P + 11 - a) a + _)))
    rw [Nat.add_assoc]
theorem t_howMany {P t : Nat} {T : Nat → Nat → Nat} {lf : Int32} {it so : Nat → Int32} (hP : P ≤ 3) (h : z_ctr P t T lf it) (hs : z_sor P t T (2 * P + 11) so) {k : Nat} (hk : 100 ≤ k) : f_Tr_howMany k lf (nI P) so = some (nI (z_hm (z_ft P t T) (2 * P + 11) (2 * P + 11) 0)) := by
  unfold f_Tr_howMany
  have g := t_many_L hP h hs (2 * P + 11) 0 k 0 (by omega) (by omega)
  rw [Nat.zero_add] at g
  exact e_B g rfl
/-- as an answer: none is -1 -/
def z_oI (o : Option Nat) : Int32 := match o with
  | some a => nI a
  | none => -nI 1
theorem t_partner_L {P t : Nat} {T : Nat → Nat → Nat} {lf : Int32} {it so : Nat → Int32} (hP : P ≤ 3) (h : z_ctr P t T lf it) (hs : z_sor P t T (2 * P + 11) so) {a : Nat} (ha : a < 2 * P + 11) : ∀ r b k, b + r = 2 * P + 11 → r < k → f_Tr_partnerOf_L4 lf (nI P) so (nI a) k (nI b) = some (match z_fst (z_ft P t T a) r b with
    | some i => .inr (nI i)
    | none => .inl ()) := by
  intro r
  induction r with
  | zero =>
    intro b k hb hk
    obtain ⟨k, rfl⟩ : ∃ k', k = k' + 1 := ⟨k - 1, by omega⟩
    rw [f_Tr_partnerOf_L4, t_cand hP, q_B]
    exact e_T (nI_le (by omega) (by omega)) rfl
  | succ r ih =>
    intro b k hb hk
    obtain ⟨k, rfl⟩ : ∃ k', k = k' + 1 := ⟨k - 1, by omega⟩
    rw [f_Tr_partnerOf_L4, t_cand hP, q_B]
    refine e_F (nI_ge (by omega) (by omega)) ?_
    rw [t_fits hP h hs ha (by omega), q_B]
    unfold z_fst
    cases hf : z_ft P t T a b
    · refine e_T rfl ?_
      refine e_L ?_
      rw [show nI b + 1 = nI (b + 1) by simp only [q_lit, nI_add], ih (b + 1) k (by omega) (by omega), if_neg (by decide)]
    · refine e_F (by decide) ?_
      rw [if_pos rfl]
def z_pr (P t : Nat) (T : Nat → Nat → Nat) (a : Nat) : Option Nat := z_fst (z_ft P t T a) (2 * P + 11 - (a + 1)) (a + 1)
theorem t_partner {P t : Nat} {T : Nat → Nat → Nat} {lf : Int32} {it so : Nat → Int32} (hP : P ≤ 3) (h : z_ctr P t T lf it) (hs : z_sor P t T (2 * P + 11) so) {a k : Nat} (ha : a < 2 * P + 11) (hk : 30 ≤ k) : f_Tr_partnerOf k lf (nI P) so (nI a) = some (z_oI (z_pr P t T a)) := by
  unfold f_Tr_partnerOf z_pr
  refine e_L ?_
  rw [show nI a + 1 = nI (a + 1) by simp only [q_lit, nI_add], t_partner_L hP h hs ha (2 * P + 11 - (a + 1)) (a + 1) k (by omega) (by omega)]
  cases z_fst (z_ft P t T a) (2 * P + 11 - (a + 1)) (a + 1) <;> rfl
theorem t_first_1 {P t : Nat} {T : Nat → Nat → Nat} {lf : Int32} {it so : Nat → Int32} (hP : P ≤ 3) (h : z_ctr P t T lf it) (hs : z_sor P t T (2 * P + 11) so) : ∀ r b k, b + r = 2 * P + 11 → r < k → f_Tr_firstTerm_L2 lf (nI P) so k (nI b) = some (match z_fst (fun a => z_ft P t T a a) r b with
    | some i => .inr (nI i)
    | none => .inl ()) := by
  intro r
  induction r with
  | zero =>
    intro b k hb hk
    obtain ⟨k, rfl⟩ : ∃ k', k = k' + 1 := ⟨k - 1, by omega⟩
    rw [f_Tr_firstTerm_L2, t_cand hP, q_B]
    exact e_T (nI_le (by omega) (by omega)) rfl
  | succ r ih =>
    intro b k hb hk
    obtain ⟨k, rfl⟩ : ∃ k', k = k' + 1 := ⟨k - 1, by omega⟩
    rw [f_Tr_firstTerm_L2, t_cand hP, q_B]
    refine e_F (nI_ge (by omega) (by omega)) ?_
    rw [t_fits hP h hs (by omega) (by omega), q_B]
    unfold z_fst
    cases hf : z_ft P t T b b
    · refine e_T rfl ?_
      refine e_L ?_
      rw [show nI b + 1 = nI (b + 1) by simp only [q_lit, nI_add], ih (b + 1) k (by omega) (by omega)]
      simp only [hf, Bool.false_eq_true, if_false]
    · refine e_F (by decide) ?_
      simp only [hf, if_true]
theorem t_first_2 {P t : Nat} {T : Nat → Nat → Nat} {lf : Int32} {it so : Nat → Int32} (hP : P ≤ 3) (h : z_ctr P t T lf it) (hs : z_sor P t T (2 * P + 11) so) : ∀ r b k, b + r = 2 * P + 11 → r + 30 < k → f_Tr_firstTerm_L29 lf (nI P) so k (nI b) = some (match z_fst (fun a => (z_pr P t T a).isSome) r b with
    | some i => .inr (nI i)
    | none => .inl ()) := by
  intro r
  induction r with
  | zero =>
    intro b k hb hk
    obtain ⟨k, rfl⟩ : ∃ k', k = k' + 1 := ⟨k - 1, by omega⟩
    rw [f_Tr_firstTerm_L29, t_cand hP, q_B]
    exact e_T (nI_le (by omega) (by omega)) rfl
  | succ r ih =>
    intro b k hb hk
    obtain ⟨k, rfl⟩ : ∃ k', k = k' + 1 := ⟨k - 1, by omega⟩
    rw [f_Tr_firstTerm_L29, t_cand hP, q_B]
    refine e_F (nI_ge (by omega) (by omega)) ?_
    rw [t_partner hP h hs (a := b) (by omega) (by omega), q_B]
    unfold z_fst
    cases hf : z_pr P t T b with
    | none =>
      refine e_T rfl ?_
      refine e_L ?_
      rw [show nI b + 1 = nI (b + 1) by simp only [q_lit, nI_add], ih (b + 1) k (by omega) (by omega)]
      simp only [hf, Option.isSome_none, Bool.false_eq_true, if_false]
    | some i =>
      have := z_fst_rng _ _ _ _ hf
      refine e_F (fun z => (q_eqm1 (by omega)).mp z) ?_
      simp only [hf, Option.isSome_some, if_true]
/-- the first if: its terms -/
def z_ff (P t : Nat) (T : Nat → Nat → Nat) : Option (Nat × Option Nat) := match z_fst (fun a => z_ft P t T a a) (2 * P + 11) 0 with
  | some a => some (a, none)
  | none => match z_fst (fun a => (z_pr P t T a).isSome) (2 * P + 11) 0 with
    | some a => some (a, z_pr P t T a)
    | none => none
theorem t_first {P t : Nat} {T : Nat → Nat → Nat} {lf : Int32} {it so : Nat → Int32} (hP : P ≤ 3) (h : z_ctr P t T lf it) (hs : z_sor P t T (2 * P + 11) so) {k : Nat} (hk : 100 ≤ k) : f_Tr_firstTerm k lf (nI P) so = some (match z_ff P t T with
    | some q => nI q.1
    | none => -nI 1) := by
  unfold f_Tr_firstTerm z_ff
  have g1 := t_first_1 hP h hs (2 * P + 11) 0 k (by omega) (by omega)
  have g2 := t_first_2 hP h hs (2 * P + 11) 0 k (by omega) (by omega)
  rw [show (0 : Int32) = nI 0 from rfl, g1]
  cases hz : z_fst (fun a => z_ft P t T a a) (2 * P + 11) 0 with
  | some a => rfl
  | none =>
    show x_S (f_Tr_firstTerm_L29 lf (nI P) so k (nI 0)) _ _ = _
    rw [g2]
    cases z_fst (fun a => (z_pr P t T a).isSome) (2 * P + 11) 0 <;> rfl
theorem t_second {P t : Nat} {T : Nat → Nat → Nat} {lf : Int32} {it so : Nat → Int32} (hP : P ≤ 3) (h : z_ctr P t T lf it) (hs : z_sor P t T (2 * P + 11) so) {k : Nat} {q : Nat × Option Nat} (hk : 100 ≤ k) (hq : z_ff P t T = some q) : f_Tr_secondTerm k lf (nI P) so (nI q.1) = some (z_oI q.2) ∧ q.1 < 2 * P + 11 := by
  unfold z_ff at hq
  unfold f_Tr_secondTerm
  cases h1 : z_fst (fun a => z_ft P t T a a) (2 * P + 11) 0 with
  | some a =>
    rw [h1] at hq
    cases hq
    obtain ⟨r1, r2, r3⟩ := z_fst_rng _ _ _ _ h1
    refine ⟨?_, by show a < _; omega⟩
    rw [t_fits hP h hs (by omega) (by omega), q_B, r3]
    exact e_F (by decide) rfl
  | none =>
    rw [h1] at hq
    cases h2 : z_fst (fun a => (z_pr P t T a).isSome) (2 * P + 11) 0 with
    | some a =>
      rw [h2] at hq
      cases hq
      obtain ⟨r1, r2, r3⟩ := z_fst_rng _ _ _ _ h2
      refine ⟨?_, by show a < _; omega⟩
      have hno : z_ft P t T a a = false := by
        have hc := (z_cn_fst (fun a => z_ft P t T a a) (2 * P + 11) 0).mpr h1
        have gen : ∀ (f : Nat → Bool) r b i, z_cn f r b = 0 → b ≤ i → i < b + r → f i = false := by
          intro f r
          induction r with
          | zero => intro b i _ h1 h2; omega
          | succ r ih =>
            intro b i hc h1 h2
            unfold z_cn at hc
            by_cases hbi : b = i
            · subst hbi
              cases hf : f b
              · rfl
              · rw [hf] at hc; simp at hc
            · exact ih (b + 1) i (by omega) (by omega) (by omega)
        exact gen (fun a => z_ft P t T a a) _ 0 a hc (Nat.zero_le _) (by omega)
      rw [t_fits hP h hs (by omega) (by omega), q_B, hno]
      refine e_T rfl ?_
      rw [t_partner hP h hs (by omega) (by omega), q_B]
    | none =>
      rw [h2] at hq
      cases hq
