/-! the first of the shortest ways -/
/-- of each entry: from where it came, and what had been found before it -/
def z_I1 (st : Nat → Nat → Option Nat) (dx : Nat → Nat) (Ds : List Nat) (L : List zE) : Prop := ∀ i y d j t, L[i]? = some (y, d, j, t) → (i = 0 ∧ t = 0) ∨ ∃ x d' j' t' D pre suf, L[j]? = some (x, d', j', t') ∧ j < i ∧ t = t' + 1 ∧ Ds = pre ++ D :: suf ∧ st x D = some y ∧ d = dx D ∧ (∀ E ∈ pre, ∀ z, st x E = some z → z ∈ z_ss (L.take i)) ∧ (∀ b, b < j → ∀ e, L[b]? = some e → ∀ E ∈ Ds, ∀ z, st e.1 E = some z → z ∈ z_ss (L.take i))
/-- all that comes of the first n is found -/
def z_I2 (st : Nat → Nat → Option Nat) (Ds : List Nat) (n : Nat) (L : List zE) : Prop := ∀ b, b < n → ∀ e, L[b]? = some e → ∀ E ∈ Ds, ∀ z, st e.1 E = some z → z ∈ z_ss L
/-- distances -/
def z_I3 (n : Nat) (L : List zE) : Prop := (∀ (a b : Nat) (e f : zE), a ≤ b → L[a]? = some e → L[b]? = some f → e.2.2.2 ≤ f.2.2.2) ∧ ∀ (a : Nat) (e f : zE), L[a]? = some e → L[n]? = some f → e.2.2.2 ≤ f.2.2.2 + 1
theorem z_ss_app (L : List zE) (e : zE) : z_ss (L ++ [e]) = z_ss L ++ [e.1] := by unfold z_ss; rw [List.map_append]; rfl
theorem z_app_at {L : List zE} {e f : zE} {i : Nat} (h : (L ++ [e])[i]? = some f) : (i < L.length ∧ L[i]? = some f) ∨ (i = L.length ∧ f = e) := by
  rcases Nat.lt_trichotomy i L.length with hi | hi | hi
  · rw [List.getElem?_append_left hi] at h
    exact Or.inl ⟨hi, h⟩
  · subst hi
    rw [List.getElem?_append_right (Nat.le_refl _), Nat.sub_self] at h
    exact Or.inr ⟨rfl, (Option.some.inj h).symm⟩
  · rw [List.getElem?_eq_none (by rw [List.length_append, List.length_singleton]; omega)] at h
    cases h
theorem z_at_lt {L : List zE} {i : Nat} {e : zE} (h : L[i]? = some e) : i < L.length := (List.getElem?_eq_some_iff.mp h).1
theorem z_at_app {L : List zE} {i : Nat} {e : zE} (h : L[i]? = some e) (f : zE) : (L ++ [f])[i]? = some e := by
  rw [List.getElem?_append_left (z_at_lt h)]; exact h
theorem z_mem_put {L : List zE} {e : zE} : e.1 ∈ z_ss (z_put L e) := by
  unfold z_put
  split
  · next h => exact h
  · rw [z_ss_app]; exact List.mem_append_right _ (List.mem_singleton.mpr rfl)
theorem z_ss_pre {L K : List zE} (h : L <+: K) {z : Nat} (hz : z ∈ z_ss L) : z ∈ z_ss K := by
  obtain ⟨R, rfl⟩ := h
  unfold z_ss at hz ⊢
  rw [List.map_append]
  exact List.mem_append_left _ hz
/-- one more deed tried at entry n -/
theorem z_I1_pst {st : Nat → Nat → Option Nat} {dx : Nat → Nat} {Ds pre suf : List Nat} {D n t x d j : Nat} {L : List zE} (hn : L[n]? = some (x, d, j, t)) (hDs : Ds = pre ++ D :: suf) (h1 : z_I1 st dx Ds L) (hp : ∀ E ∈ pre, ∀ z, st x E = some z → z ∈ z_ss L) (h2 : z_I2 st Ds n L) : z_I1 st dx Ds (z_pst st dx x n (t + 1) L D) := by
  unfold z_pst
  cases hs : st x D with
  | none => exact h1
  | some y =>
    show z_I1 st dx Ds (z_put L (y, dx D, n, t + 1))
    unfold z_put
    split
    · exact h1
    · intro i y' d' j' t' hi
      rcases z_app_at hi with ⟨hl, hi⟩ | ⟨hl, hi⟩
      · rcases h1 i y' d' j' t' hi with h | ⟨x2, d2, j2, t2, D2, p2, s2, a1, a2, a3, a4, a5, a6, a7, a8⟩
        · exact Or.inl h
        · refine Or.inr ⟨x2, d2, j2, t2, D2, p2, s2, z_at_app a1 _, a2, a3, a4, a5, a6, ?_, ?_⟩
          · rw [List.take_append_of_le_length (by omega)]
            exact a7
          · rw [List.take_append_of_le_length (by omega)]
            intro b hb e he
            rcases z_app_at he with ⟨_, he⟩ | ⟨hb2, _⟩
            · exact a8 b hb e he
            · exact absurd hb2 (by omega)
      · cases hi
        have hnl := z_at_lt hn
        refine Or.inr ⟨x, d, j, t, D, pre, suf, z_at_app hn _, by omega, rfl, hDs, hs, rfl, ?_, ?_⟩
        · rw [hl, List.take_append_of_le_length (Nat.le_refl _), List.take_length]
          exact hp
        · rw [hl, List.take_append_of_le_length (Nat.le_refl _), List.take_length]
          intro b hb e he
          rcases z_app_at he with ⟨_, he⟩ | ⟨hb2, _⟩
          · exact h2 b hb e he
          · exact absurd hb2 (by omega)
theorem z_I2_pre {st : Nat → Nat → Option Nat} {Ds : List Nat} {n : Nat} {L K : List zE} (h : L <+: K) (hn : n ≤ L.length) (h2 : z_I2 st Ds n L) : z_I2 st Ds n K := by
  intro b hb e he E hE z hz
  have hb' : b < L.length := by omega
  have := List.prefix_iff_getElem?.mp h b hb'
  rw [this] at he
  refine z_ss_pre h (h2 b hb e ?_ E hE z hz)
  rw [List.getElem?_eq_getElem hb']
  exact he
theorem z_op_I {st : Nat → Nat → Option Nat} {dx : Nat → Nat} {Ds : List Nat} {n t x d j : Nat} : ∀ (suf pre : List Nat) (L : List zE), Ds = pre ++ suf → L[n]? = some (x, d, j, t) → z_I1 st dx Ds L → (∀ E ∈ pre, ∀ z, st x E = some z → z ∈ z_ss L) → z_I2 st Ds n L → z_I1 st dx Ds (z_op st dx x n (t + 1) L suf) ∧ z_I2 st Ds (n + 1) (z_op st dx x n (t + 1) L suf) := by
  intro suf
  induction suf with
  | nil =>
    intro pre L hDs hn h1 hp h2
    refine ⟨h1, ?_⟩
    intro b hb e he E hE z hz
    rw [List.append_nil] at hDs
    rcases Nat.lt_or_ge b n with h | h
    · exact h2 b h e he E hE z hz
    · have hb' : b = n := by omega
      subst hb'
      have he : L[b]? = some e := he
      rw [hn] at he
      cases he
      exact hp E (hDs ▸ hE) z hz
  | cons D suf ih =>
    intro pre L hDs hn h1 hp h2
    have hpre := z_pst_pre st dx x n (t + 1) L D
    have hnl := z_at_lt hn
    refine ih (pre ++ [D]) (z_pst st dx x n (t + 1) L D) (by rw [hDs]; simp) ?_ (z_I1_pst hn hDs h1 hp h2) ?_ (z_I2_pre hpre (by omega) h2)
    · rw [List.prefix_iff_getElem?.mp hpre n hnl, ← List.getElem?_eq_getElem hnl]
      exact hn
    · intro E hE z hz
      rw [List.mem_append, List.mem_singleton] at hE
      rcases hE with hE | rfl
      · exact z_ss_pre hpre (hp E hE z hz)
      · unfold z_pst
        rw [hz]
        exact z_mem_put (e := (z, dx E, n, t + 1))
theorem z_I3_pst {st : Nat → Nat → Option Nat} {dx : Nat → Nat} {D n t x d j y : Nat} {L : List zE} (hn : L[n]? = some (x, d, j, t)) (h3 : z_I3 n L) : z_I3 n (z_pst st dx x n (t + 1) L D) := by
  unfold z_pst
  cases hs : st x D with
  | none => exact h3
  | some y =>
    show z_I3 n (z_put L (y, dx D, n, t + 1))
    unfold z_put
    split
    · exact h3
    · obtain ⟨s1, s2⟩ := h3
      have hnl := z_at_lt hn
      refine ⟨?_, ?_⟩
      · intro a b e f hab he hf
        rcases z_app_at he with ⟨ha, he⟩ | ⟨ha, he⟩
        · rcases z_app_at hf with ⟨hb, hf⟩ | ⟨hb, hf⟩
          · exact s1 a b e f hab he hf
          · subst hf
            exact s2 a e _ he hn
        · rcases z_app_at hf with ⟨hb, hf⟩ | ⟨hb, hf⟩
          · omega
          · subst hf; subst he; exact Nat.le_refl _
      · intro a e f he hf
        rcases z_app_at hf with ⟨hb, hf⟩ | ⟨hb, hf⟩
        · rcases z_app_at he with ⟨ha, he⟩ | ⟨ha, he⟩
          · exact s2 a e f he hf
          · subst he
            rw [hn] at hf
            cases hf
            exact Nat.le_refl _
        · omega
theorem z_op_I3 {st : Nat → Nat → Option Nat} {dx : Nat → Nat} {n t x d j : Nat} : ∀ (Ds : List Nat) (L : List zE), L[n]? = some (x, d, j, t) → z_I3 n L → z_I3 n (z_op st dx x n (t + 1) L Ds) := by
  intro Ds
  induction Ds with
  | nil => intro L _ h; exact h
  | cons D Ds ih =>
    intro L hn h3
    have hpre := z_pst_pre st dx x n (t + 1) L D
    have hnl := z_at_lt hn
    refine ih _ ?_ (z_I3_pst (y := 0) hn h3)
    rw [List.prefix_iff_getElem?.mp hpre n hnl, ← List.getElem?_eq_getElem hnl]
    exact hn
theorem z_bf_I (st : Nat → Nat → Option Nat) (dx : Nat → Nat) (Ds : List Nat) (x0 : Nat) : ∀ n, z_I1 st dx Ds (z_bf st dx Ds x0 n) ∧ z_I2 st Ds n (z_bf st dx Ds x0 n) ∧ z_I3 n (z_bf st dx Ds x0 n) := by
  intro n
  induction n with
  | zero =>
    refine ⟨?_, ?_, ?_, ?_⟩
    · intro i y d j t h
      cases i with
      | zero => simp [z_bf] at h; exact Or.inl ⟨rfl, h.2.2.2.symm⟩
      | succ i => simp [z_bf] at h
    · intro b hb; omega
    · intro a b e f hab he hf
      cases a with
      | zero => simp [z_bf] at he; subst he; exact Nat.zero_le _
      | succ a => simp [z_bf] at he
    · intro a e f he hf
      cases a with
      | zero => simp [z_bf] at he; subst he; exact Nat.zero_le _
      | succ a => simp [z_bf] at he
  | succ n ih =>
    obtain ⟨h1, h2, h3⟩ := ih
    rw [z_bf_succ]
    cases h : (z_bf st dx Ds x0 n)[n]? with
    | none =>
      have hl := List.getElem?_eq_none_iff.mp h
      refine ⟨h1, ?_, h3.1, ?_⟩
      · intro b hb e he
        have := z_at_lt (L := z_bf st dx Ds x0 n) he
        exact h2 b (by omega) e he
      · intro a e f he hf
        have := z_at_lt (L := z_bf st dx Ds x0 n) hf
        omega
    | some e =>
      obtain ⟨x, d, j, t⟩ := e
      obtain ⟨a1, a2⟩ := z_op_I Ds [] _ rfl h h1 (fun E hE => absurd hE (List.not_mem_nil)) h2
      have a3 := z_op_I3 (st := st) (dx := dx) Ds _ h h3
      refine ⟨a1, a2, a3.1, ?_⟩
      intro a e f he hf
      have hpre := z_op_pre st dx x n (t + 1) Ds (z_bf st dx Ds x0 n)
      have hnl := z_at_lt h
      have hn' : (z_op st dx x n (t + 1) (z_bf st dx Ds x0 n) Ds)[n]? = some (x, d, j, t) := by
        rw [List.prefix_iff_getElem?.mp hpre n hnl, ← List.getElem?_eq_getElem hnl]
        exact h
      have b1 := a3.2 a e _ he hn'
      have b2 := a3.1 n (n + 1) _ f (by omega) hn' hf
      simp only at b1 b2
      omega
/-! ways -/
/-- y is on a way of r deeds more to one of distance 'last' without the set -/
def z_ow (st : Nat → Nat → Option Nat) (Ds : List Nat) (F : List zE) (set last : Nat) : Nat → Nat → Prop
  | 0, y => (∃ b d j : Nat, F[b]? = some (y, d, j, last)) ∧ y &&& set = 0
  | r + 1, y => (∃ b d j : Nat, F[b]? = some (y, d, j, last - (r + 1))) ∧ ∃ D ∈ Ds, ∃ z, st y D = some z ∧ z_ow st Ds F set last r z
theorem z_ow_at {st : Nat → Nat → Option Nat} {Ds : List Nat} {F : List zE} {set last r y : Nat} (h : z_ow st Ds F set last r y) : ∃ b d j : Nat, F[b]? = some (y, d, j, last - r) := by
  cases r with
  | zero => exact h.1
  | succ r => exact h.1
theorem z_idx {F : List zE} (hn : (z_ss F).Nodup) {a b y : Nat} {e f : zE} (ha : F[a]? = some e) (hb : F[b]? = some f) (he : e.1 = y) (hf : f.1 = y) : a = b := by
  have h1 : (z_ss F)[a]? = some y := by unfold z_ss; rw [List.getElem?_map, ha, ← he]; rfl
  have h2 : (z_ss F)[b]? = some y := by unfold z_ss; rw [List.getElem?_map, hb, ← hf]; rfl
  have hl : a < (z_ss F).length := (List.getElem?_eq_some_iff.mp h1).1
  exact (List.getElem?_inj hl hn).mp (h1.trans h2.symm)
theorem z_take_lt {F : List zE} (hn : (z_ss F).Nodup) {i b y : Nat} {e : zE} (h : y ∈ z_ss (F.take i)) (hb : F[b]? = some e) (he : e.1 = y) : b < i := by
  unfold z_ss at h
  obtain ⟨f, hf, hfy⟩ := List.mem_map.mp h
  obtain ⟨c, hc⟩ := List.getElem?_of_mem hf
  rw [List.getElem?_take] at hc
  split at hc
  · next hlt =>
    have := z_idx hn hc hb hfy he
    omega
  · cases hc
/-- the chain of entries to place p -/
def z_up (F : List zE) (p : Nat) : Nat → Nat
  | 0 => p
  | k + 1 => match F[z_up F p k]? with
    | some e => e.2.2.1
    | none => 0
theorem z_up_at {st : Nat → Nat → Option Nat} {dx : Nat → Nat} {Ds : List Nat} {F : List zE} (h1 : z_I1 st dx Ds F) {p last : Nat} {e : zE} (hp : F[p]? = some e) (hl : e.2.2.2 = last) : ∀ k, k ≤ last → ∃ x d j : Nat, F[z_up F p k]? = some (x, d, j, last - k) := by
  intro k
  induction k with
  | zero => intro _; obtain ⟨x, d, j, t⟩ := e; simp only at hl; subst hl; exact ⟨x, d, j, hp⟩
  | succ k ih =>
    intro hk
    obtain ⟨x, d, j, h⟩ := ih (by omega)
    have hj : z_up F p (k + 1) = j := by simp only [z_up, h]
    rcases h1 _ _ _ _ _ h with ⟨_, h0⟩ | ⟨x2, d2, j2, t2, D2, p2, s2, a1, a2, a3, a4⟩
    · omega
    · rw [hj]
      exact ⟨x2, d2, j2, by rw [a1, show t2 = last - (k + 1) by omega]⟩
/-- none that is on a way lies before the chain -/
theorem z_ow_ge {st : Nat → Nat → Option Nat} {dx : Nat → Nat} {Ds : List Nat} {F : List zE} {set : Nat} (hn : (z_ss F).Nodup) (h1 : z_I1 st dx Ds F) {p last : Nat} {e : zE} (hp : F[p]? = some e) (hl : e.2.2.2 = last) (hfirst : ∀ b f, b < p → F[b]? = some f → f.1 &&& set ≠ 0) : ∀ r y b d j, r ≤ last → z_ow st Ds F set last r y → F[b]? = some (y, d, j, last - r) → z_up F p r ≤ b := by
  intro r
  induction r with
  | zero =>
    intro y b d j _ hw hb
    refine Nat.le_of_not_lt (fun h => ?_)
    exact hfirst b _ h hb hw.2
  | succ r ih =>
    intro y b d j hr hw hb
    refine Nat.le_of_not_lt (fun h => ?_)
    obtain ⟨_, D, hD, z, hz, hw2⟩ := hw
    obtain ⟨b2, d2, j2, hb2⟩ := z_ow_at hw2
    have hge := ih z b2 d2 j2 (by omega) hw2 hb2
    obtain ⟨x3, d3, j3, h3⟩ := z_up_at h1 hp hl r (by omega)
    have hj : z_up F p (r + 1) = j3 := by simp only [z_up, h3]
    rcases h1 _ _ _ _ _ h3 with ⟨_, h0⟩ | ⟨x4, d4, j4, t4, D4, p4, s4, a1, a2, a3, a4, a5, a6, a7, a8⟩
    · omega
    · have := a8 b (by omega) _ hb D hD z hz
      have := z_take_lt hn this hb2 rfl
      omega
theorem z_up_ow {st : Nat → Nat → Option Nat} {dx : Nat → Nat} {Ds : List Nat} {F : List zE} {set : Nat} (h1 : z_I1 st dx Ds F) {p last : Nat} {e : zE} (hp : F[p]? = some e) (hl : e.2.2.2 = last) (hs : e.1 &&& set = 0) : ∀ r, r ≤ last → ∀ x d j, F[z_up F p r]? = some (x, d, j, last - r) → z_ow st Ds F set last r x := by
  intro r
  induction r with
  | zero =>
    intro _ x d j h
    have h' : F[p]? = some (x, d, j, last) := h
    rw [hp] at h'
    cases h'
    exact ⟨⟨p, d, j, hp⟩, hs⟩
  | succ r ih =>
    intro hr x d j h
    obtain ⟨x3, d3, j3, h3⟩ := z_up_at h1 hp hl r (by omega)
    have hj : z_up F p (r + 1) = j3 := by simp only [z_up, h3]
    rcases h1 _ _ _ _ _ h3 with ⟨_, h0⟩ | ⟨x4, d4, j4, t4, D4, p4, s4, a1, a2, a3, a4, a5, a6, a7, a8⟩
    · omega
    · rw [hj, a1] at h
      cases h
      refine ⟨⟨j3, d, j, by rw [a1]⟩, D4, ?_, x3, a5, ih (by omega) x3 d3 j3 h3⟩
      rw [a4]
      exact List.mem_append_right _ (List.mem_cons_self ..)
/-- the deed of the chain is the first that leads on -/
theorem z_way {st : Nat → Nat → Option Nat} {dx : Nat → Nat} {Ds : List Nat} {F : List zE} {set : Nat} (hn : (z_ss F).Nodup) (h1 : z_I1 st dx Ds F) {p last : Nat} {e : zE} (hp : F[p]? = some e) (hl : e.2.2.2 = last) (hs : e.1 &&& set = 0) (hfirst : ∀ b f, b < p → F[b]? = some f → f.1 &&& set ≠ 0) {r : Nat} (hr : r < last) : ∃ (x d j x' d' j' D : Nat) (pre suf : List Nat), F[z_up F p (r + 1)]? = some (x, d, j, last - (r + 1)) ∧ F[z_up F p r]? = some (x', d', j', last - r) ∧ Ds = pre ++ D :: suf ∧ st x D = some x' ∧ d' = dx D ∧ z_ow st Ds F set last r x' ∧ (∀ E ∈ pre, ∀ z b d2 j2 : Nat, st x E = some z → F[b]? = some (z, d2, j2, last - r) → ¬ z_ow st Ds F set last r z) := by
  obtain ⟨x3, d3, j3, h3⟩ := z_up_at h1 hp hl r (by omega)
  have hj : z_up F p (r + 1) = j3 := by simp only [z_up, h3]
  rcases h1 _ _ _ _ _ h3 with ⟨_, h0⟩ | ⟨x4, d4, j4, t4, D4, p4, s4, a1, a2, a3, a4, a5, a6, a7, a8⟩
  · omega
  · refine ⟨x4, d4, j4, x3, d3, j3, D4, p4, s4, ?_, h3, a4, a5, a6, z_up_ow h1 hp hl hs r (by omega) x3 d3 j3 h3, ?_⟩
    · rw [hj, a1, show t4 = last - (r + 1) by omega]
    · intro E hE z b d2 j2 hz hb hw
      have g := z_ow_ge hn h1 hp hl hfirst r z b d2 j2 (by omega) hw hb
      have := z_take_lt hn (a7 E hE z hz) hb rfl
      omega
