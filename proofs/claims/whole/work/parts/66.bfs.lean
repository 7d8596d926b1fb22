/-! rows of found states, nearest first: (state, deed, from, distance) -/
abbrev zE : Type := Nat × Nat × Nat × Nat
def z_ss (L : List zE) : List Nat := L.map (fun q => q.1)
def z_put (L : List zE) (e : zE) : List zE := if e.1 ∈ z_ss L then L else L ++ [e]
def z_pst (st : Nat → Nat → Option Nat) (dx : Nat → Nat) (x i t : Nat) (L : List zE) (D : Nat) : List zE := match st x D with
  | some y => z_put L (y, dx D, i, t)
  | none => L
def z_op (st : Nat → Nat → Option Nat) (dx : Nat → Nat) (x i t : Nat) (L : List zE) (Ds : List Nat) : List zE := Ds.foldl (z_pst st dx x i t) L
def z_bf (st : Nat → Nat → Option Nat) (dx : Nat → Nat) (Ds : List Nat) (x0 : Nat) : Nat → List zE
  | 0 => [(x0, 0, 0, 0)]
  | n + 1 => match (z_bf st dx Ds x0 n)[n]? with
    | some e => z_op st dx e.1 n (e.2.2.2 + 1) (z_bf st dx Ds x0 n) Ds
    | none => z_bf st dx Ds x0 n
theorem z_put_pre (L : List zE) (e : zE) : L <+: z_put L e := by
  unfold z_put
  split
  · exact List.prefix_refl L
  · exact List.prefix_append L [e]
theorem z_pst_pre (st : Nat → Nat → Option Nat) (dx : Nat → Nat) (x i t : Nat) (L : List zE) (D : Nat) : L <+: z_pst st dx x i t L D := by
  unfold z_pst
  cases st x D with
  | none => exact List.prefix_refl L
  | some y => exact z_put_pre L _
theorem z_op_pre (st : Nat → Nat → Option Nat) (dx : Nat → Nat) (x i t : Nat) : ∀ (Ds : List Nat) (L : List zE), L <+: z_op st dx x i t L Ds := by
  intro Ds
  induction Ds with
  | nil => intro L; exact List.prefix_refl L
  | cons D Ds ih => intro L; exact (z_pst_pre st dx x i t L D).trans (ih (z_pst st dx x i t L D))
theorem z_bf_succ (st : Nat → Nat → Option Nat) (dx : Nat → Nat) (Ds : List Nat) (x0 n : Nat) : z_bf st dx Ds x0 (n + 1) = match (z_bf st dx Ds x0 n)[n]? with
    | some e => z_op st dx e.1 n (e.2.2.2 + 1) (z_bf st dx Ds x0 n) Ds
    | none => z_bf st dx Ds x0 n := rfl
theorem z_bf_pre1 (st : Nat → Nat → Option Nat) (dx : Nat → Nat) (Ds : List Nat) (x0 n : Nat) : z_bf st dx Ds x0 n <+: z_bf st dx Ds x0 (n + 1) := by
  rw [z_bf_succ]
  cases h : (z_bf st dx Ds x0 n)[n]? with
  | none => exact List.prefix_refl _
  | some e => exact z_op_pre st dx _ _ _ Ds _
theorem z_bf_pre (st : Nat → Nat → Option Nat) (dx : Nat → Nat) (Ds : List Nat) (x0 : Nat) {n m : Nat} (h : n ≤ m) : z_bf st dx Ds x0 n <+: z_bf st dx Ds x0 m := by
  obtain ⟨d, rfl⟩ : ∃ d, m = n + d := ⟨m - n, by omega⟩
  clear h
  induction d with
  | zero => exact List.prefix_refl _
  | succ d ih => exact ih.trans (z_bf_pre1 st dx Ds x0 (n + d))
theorem z_bf_pos (st : Nat → Nat → Option Nat) (dx : Nat → Nat) (Ds : List Nat) (x0 n : Nat) : 0 < (z_bf st dx Ds x0 n).length := by
  have h := (z_bf_pre st dx Ds x0 (Nat.zero_le n)).length_le
  exact Nat.lt_of_lt_of_le (by decide : 0 < 1) h
theorem z_bf_0 (st : Nat → Nat → Option Nat) (dx : Nat → Nat) (Ds : List Nat) (x0 n : Nat) : (z_bf st dx Ds x0 n)[0]? = some (x0, 0, 0, 0) := by
  have h := List.prefix_iff_getElem?.mp (z_bf_pre st dx Ds x0 (Nat.zero_le n)) 0 (Nat.zero_lt_one)
  exact h.symm ▸ rfl
theorem z_bf_stable (st : Nat → Nat → Option Nat) (dx : Nat → Nat) (Ds : List Nat) (x0 : Nat) {n m : Nat} (hl : (z_bf st dx Ds x0 n).length ≤ n) (h : n ≤ m) : z_bf st dx Ds x0 m = z_bf st dx Ds x0 n := by
  obtain ⟨d, rfl⟩ : ∃ d, m = n + d := ⟨m - n, by omega⟩
  clear h
  induction d with
  | zero => rfl
  | succ d ih =>
    show z_bf st dx Ds x0 ((n + d) + 1) = _
    rw [z_bf_succ, ih]
    rw [List.getElem?_eq_none (by omega)]
theorem z_bf_at (st : Nat → Nat → Option Nat) (dx : Nat → Nat) (Ds : List Nat) (x0 : Nat) {n m i : Nat} (h : n ≤ m) (hi : i < (z_bf st dx Ds x0 n).length) : (z_bf st dx Ds x0 m)[i]? = (z_bf st dx Ds x0 n)[i]? := by
  have h1 := List.prefix_iff_getElem?.mp (z_bf_pre st dx Ds x0 h) i hi
  rw [h1, List.getElem?_eq_getElem hi]
/-- what holds of all entries -/
theorem z_put_all {p : zE → Prop} {L : List zE} {e : zE} (hL : ∀ q ∈ L, p q) (he : p e) : ∀ q ∈ z_put L e, p q := by
  unfold z_put
  split
  · exact hL
  · intro q hq
    rw [List.mem_append] at hq
    cases hq with
    | inl h => exact hL q h
    | inr h => rw [List.mem_singleton] at h; exact h ▸ he
theorem z_op_all {p : zE → Prop} {st : Nat → Nat → Option Nat} {dx : Nat → Nat} {x i t : Nat} : ∀ (Ds : List Nat) (L : List zE), (∀ q ∈ L, p q) → (∀ D ∈ Ds, ∀ y, st x D = some y → p (y, dx D, i, t)) → ∀ q ∈ z_op st dx x i t L Ds, p q := by
  intro Ds
  induction Ds with
  | nil => intro L hL _; exact hL
  | cons D Ds ih =>
    intro L hL h
    refine ih (z_pst st dx x i t L D) ?_ (fun E hE => h E (List.mem_cons_of_mem _ hE))
    unfold z_pst
    cases hs : st x D with
    | none => exact hL
    | some y => exact z_put_all hL (h D (List.mem_cons_self ..) y hs)
theorem z_put_nd {L : List zE} {e : zE} (h : (z_ss L).Nodup) : (z_ss (z_put L e)).Nodup := by
  unfold z_put
  split
  · exact h
  · next hn =>
    unfold z_ss at h hn ⊢
    rw [List.map_append, List.nodup_append]
    refine ⟨h, by simp, ?_⟩
    intro a ha b hb
    simp only [List.map_cons, List.map_nil, List.mem_singleton] at hb
    subst hb
    exact fun e => hn (e ▸ ha)
theorem z_op_nd {st : Nat → Nat → Option Nat} {dx : Nat → Nat} {x i t : Nat} : ∀ (Ds : List Nat) (L : List zE), (z_ss L).Nodup → (z_ss (z_op st dx x i t L Ds)).Nodup := by
  intro Ds
  induction Ds with
  | nil => intro L h; exact h
  | cons D Ds ih =>
    intro L h
    refine ih _ ?_
    unfold z_pst
    cases st x D with
    | none => exact h
    | some y => exact z_put_nd h
theorem z_bf_nd (st : Nat → Nat → Option Nat) (dx : Nat → Nat) (Ds : List Nat) (x0 : Nat) : ∀ n, (z_ss (z_bf st dx Ds x0 n)).Nodup := by
  intro n
  induction n with
  | zero => simp [z_bf, z_ss]
  | succ n ih =>
    rw [z_bf_succ]
    cases (z_bf st dx Ds x0 n)[n]? with
    | none => exact ih
    | some e => exact z_op_nd Ds _ ih
theorem z_bf_all {p : Nat → Prop} {st : Nat → Nat → Option Nat} {dx : Nat → Nat} {Ds : List Nat} {x0 : Nat} (h0 : p x0) (hs : ∀ x D y, p x → D ∈ Ds → st x D = some y → p y) : ∀ n, ∀ e ∈ z_bf st dx Ds x0 n, p e.1 := by
  intro n
  induction n with
  | zero =>
    intro e he
    simp only [z_bf, List.mem_singleton] at he
    subst he
    exact h0
  | succ n ih =>
    rw [z_bf_succ]
    cases h : (z_bf st dx Ds x0 n)[n]? with
    | none => exact ih
    | some e =>
      have he := ih e (List.mem_of_getElem? h)
      exact z_op_all (p := fun q => p q.1) Ds _ ih (fun D hD y hy => hs e.1 D y he hD hy)
/-- so many at most -/
theorem z_len_le {l : List Nat} {n : Nat} (hn : l.Nodup) (h : ∀ x ∈ l, x < n) : l.length ≤ n := by
  have := hn.length_le_of_subset (l₂ := List.range n) (fun x hx => List.mem_range.mpr (h x hx))
  rwa [List.length_range] at this
theorem z_len_on {l : List Nat} {n : Nat} (c : Nat → Nat) (hn : l.Nodup) (h : ∀ x ∈ l, c x < n) (hi : ∀ x ∈ l, ∀ y ∈ l, c x = c y → x = y) : l.length ≤ n := by
  have h1 : (l.map c).Nodup := by
    rw [List.nodup_iff_pairwise_ne, List.pairwise_map]
    refine List.Pairwise.imp_of_mem ?_ hn
    intro a b ha hb hab e
    exact hab (hi a ha b hb e)
  have := z_len_le h1 (by
    intro x hx
    obtain ⟨y, hy, rfl⟩ := List.mem_map.mp hx
    exact h y hy)
  rwa [List.length_map] at this
def z_cap (P M : Nat) : Nat := 224 * 2 ^ (P + M)
theorem z_cap_le {P M : Nat} (hP : P ≤ 3) (hM : M ≤ 5) : z_cap P M ≤ 57344 := by
  unfold z_cap
  have : 2 ^ (P + M) ≤ 2 ^ 8 := Nat.pow_le_pow_right (by decide) (by omega)
  omega
theorem z_cap_len {P M : Nat} (hP : P ≤ 3) (hM : M ≤ 5) {l : List Nat} (hn : l.Nodup) (h : ∀ x ∈ l, z_V P M x) : l.length ≤ z_cap P M := by
  unfold z_cap
  have hp : P = 0 ∨ P = 1 ∨ P = 2 ∨ P = 3 := by omega
  have hm : M = 0 ∨ M = 1 ∨ M = 2 ∨ M = 3 ∨ M = 4 ∨ M = 5 := by omega
  refine z_len_on (fun x => (x / 1024 * 4 + x / 32 % 4) * 2 ^ (P + M) + x / 128 % 8 * 2 ^ M + x % 32) hn ?_ ?_
  · intro x hx
    obtain ⟨v1, v2, v3⟩ := h x hx
    rcases hp with rfl | rfl | rfl | rfl <;> rcases hm with rfl | rfl | rfl | rfl | rfl | rfl <;> simp only [Nat.reducePow, Nat.reduceAdd] at v2 v3 ⊢ <;> omega
  · intro x hx y hy e
    obtain ⟨v1, v2, v3⟩ := h x hx
    obtain ⟨w1, w2, w3⟩ := h y hy
    have dx : x = 1024 * (x / 1024) + 128 * (x / 128 % 8) + 32 * (x / 32 % 4) + x % 32 := by omega
    have dy : y = 1024 * (y / 1024) + 128 * (y / 128 % 8) + 32 * (y / 32 % 4) + y % 32 := by omega
    have bx : x / 32 % 4 < 4 := by omega
    have by' : y / 32 % 4 < 4 := by omega
    generalize x / 1024 = a1 at *
    generalize x / 128 % 8 = a2 at *
    generalize x / 32 % 4 = a3 at *
    generalize x % 32 = a4 at *
    generalize y / 1024 = c1 at *
    generalize y / 128 % 8 = c2 at *
    generalize y / 32 % 4 = c3 at *
    generalize y % 32 = c4 at *
    have key : a1 = c1 ∧ a2 = c2 ∧ a3 = c3 ∧ a4 = c4 := by
      clear h hx hy dx dy v1 w1 hn
      rcases hp with rfl | rfl | rfl | rfl <;> rcases hm with rfl | rfl | rfl | rfl | rfl | rfl <;> simp only [Nat.reducePow, Nat.reduceAdd] at v2 v3 w2 w3 e <;> omega
    omega
