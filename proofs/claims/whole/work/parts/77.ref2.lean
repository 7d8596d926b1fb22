/-! the reference's search: questions -/
theorem m_few_L {P M set : Nat} {L : List zE} {qd : Int32} {fa qu : Nat → Int32} (hP : P ≤ 3) (hM : M ≤ 5) (h : z_qr P M L qd fa qu) (hset : set < 2 ^ 31) : ∀ r i k, i + r = L.length → r < k → (∀ (b : Nat) (f : zE), b < i → L[b]? = some f → f.1 &&& set ≠ 0) → wp (f_Mo_fewestTo_L2 qd fa qu (nI set) k (nI i)) (fun q => match q with
    | .inl _ => z_few L set = -nI 1
    | .inr r => r = z_few L set) := by
  have hl := Nat.le_trans (z_LI_len hP hM h.1.1) (z_cap_le hP hM)
  intro r
  induction r with
  | zero =>
    intro i k hi hk hf
    obtain ⟨k, rfl⟩ : ∃ k', k = k' + 1 := ⟨k - 1, by omega⟩
    rw [f_Mo_fewestTo_L2]
    refine w_T (by rw [h.1.2.1]; exact nI_le (by omega) (by omega)) (w_some ?_)
    refine z_few_none ?_
    intro e he
    obtain ⟨b, hb⟩ := List.getElem?_of_mem he
    have := z_at_lt hb
    exact hf b e (by omega) hb
  | succ r ih =>
    intro i k hi hk hf
    obtain ⟨k, rfl⟩ : ∃ k', k = k' + 1 := ⟨k - 1, by omega⟩
    have hil : i < L.length := by omega
    obtain ⟨e, he⟩ : ∃ e, L[i]? = some e := ⟨_, List.getElem?_eq_getElem hil⟩
    have hV1 := (h.1.1.2 i e he).1.1
    rw [f_Mo_fewestTo_L2]
    refine w_F (by rw [h.1.2.1]; exact nI_ge (by omega) (by omega)) ?_
    refine w_I (i := i) (by first | (with_reducible rfl) | (simp (disch := omega) only [q_lit, q_ofn, nI_add, q_mul, q_sub, q_shrm, q_shlm, q_a31s, q_a1, q_a3, q_a7, q_a65535, q_div, q_rem2, z_mm, nI_clamp, Nat.reduceMul, Nat.reduceAdd, Nat.reduceSub, Nat.reducePow, Nat.reduceMod, Nat.reduceDiv, Nat.one_mul]; done) | (simp (disch := omega) only [q_lit, q_ofn, nI_add, q_mul, q_sub, q_shrm, q_shlm, q_a31s, q_a1, q_a3, q_a7, q_a65535, q_div, q_rem2, z_mm, nI_clamp, Nat.reduceMul, Nat.reduceAdd, Nat.reduceSub, Nat.reducePow, Nat.reduceMod, Nat.reduceDiv, Nat.one_mul]; with_reducible rfl)) (by omega) (by first | decide | omega) ?_
    rw [h.1.2.2.1 i e he]
    have hand : (nI e.1 &&& nI set = 0) ↔ e.1 &&& set = 0 := by
      rw [q_and, q_lit, nI_eq (Nat.lt_of_le_of_lt Nat.and_le_left (by omega)) (by decide)]
    by_cases hz : e.1 &&& set = 0
    · refine w_T (hand.mpr hz) ?_
      refine w_I (i := i) (by first | (with_reducible rfl) | (simp (disch := omega) only [q_lit, q_ofn, nI_add, q_mul, q_sub, q_shrm, q_shlm, q_a31s, q_a1, q_a3, q_a7, q_a65535, q_div, q_rem2, z_mm, nI_clamp, Nat.reduceMul, Nat.reduceAdd, Nat.reduceSub, Nat.reducePow, Nat.reduceMod, Nat.reduceDiv, Nat.one_mul]; done) | (simp (disch := omega) only [q_lit, q_ofn, nI_add, q_mul, q_sub, q_shrm, q_shlm, q_a31s, q_a1, q_a3, q_a7, q_a65535, q_div, q_rem2, z_mm, nI_clamp, Nat.reduceMul, Nat.reduceAdd, Nat.reduceSub, Nat.reducePow, Nat.reduceMod, Nat.reduceDiv, Nat.one_mul]; with_reducible rfl)) (by omega) (by first | decide | omega) ?_
      rw [h.1.2.2.1 i e he]
      refine w_I (i := e.1) (by first | (with_reducible rfl) | (simp (disch := omega) only [q_lit, q_ofn, nI_add, q_mul, q_sub, q_shrm, q_shlm, q_a31s, q_a1, q_a3, q_a7, q_a65535, q_div, q_rem2, z_mm, nI_clamp, Nat.reduceMul, Nat.reduceAdd, Nat.reduceSub, Nat.reducePow, Nat.reduceMod, Nat.reduceDiv, Nat.one_mul]; done) | (simp (disch := omega) only [q_lit, q_ofn, nI_add, q_mul, q_sub, q_shrm, q_shlm, q_a31s, q_a1, q_a3, q_a7, q_a65535, q_div, q_rem2, z_mm, nI_clamp, Nat.reduceMul, Nat.reduceAdd, Nat.reduceSub, Nat.reducePow, Nat.reduceMod, Nat.reduceDiv, Nat.one_mul]; with_reducible rfl)) (by omega) (by first | decide | omega) ?_
      rw [h.2 i e he]
      exact w_some (z_few_some he hz hf).symm
    · refine w_F (fun z => hz (hand.mp z)) ?_
      refine w_Ln (w := nI (i + 1)) (by first | (with_reducible rfl) | (simp (disch := omega) only [q_lit, q_ofn, nI_add, q_mul, q_sub, q_shrm, q_shlm, q_a31s, q_a1, q_a3, q_a7, q_a65535, q_div, q_rem2, z_mm, nI_clamp, Nat.reduceMul, Nat.reduceAdd, Nat.reduceSub, Nat.reducePow, Nat.reduceMod, Nat.reduceDiv, Nat.one_mul]; done) | (simp (disch := omega) only [q_lit, q_ofn, nI_add, q_mul, q_sub, q_shrm, q_shlm, q_a31s, q_a1, q_a3, q_a7, q_a65535, q_div, q_rem2, z_mm, nI_clamp, Nat.reduceMul, Nat.reduceAdd, Nat.reduceSub, Nat.reducePow, Nat.reduceMod, Nat.reduceDiv, Nat.one_mul]; with_reducible rfl)) ?_
      refine ih (i + 1) k (by omega) (by omega) ?_
      intro b f hb hbf
      by_cases hbi : b = i
      · subst hbi
        rw [he] at hbf
        cases hbf
        exact hz
      · exact hf b f (by omega) hbf
theorem m_few {P M set k : Nat} {L : List zE} {qd : Int32} {fa qu : Nat → Int32} (hP : P ≤ 3) (hM : M ≤ 5) (h : z_qr P M L qd fa qu) (hset : set < 2 ^ 31) (hk : 60000 ≤ k) : f_Mo_fewestTo k qd fa qu (nI set) = some (z_few L set) := by
  have hl := Nat.le_trans (z_LI_len hP hM h.1.1) (z_cap_le hP hM)
  refine w_eq ?_
  unfold f_Mo_fewestTo
  refine w_Sw (m_few_L hP hM h hset L.length 0 k (by omega) (by omega) (fun b f hb => by omega)) ?_ ?_
  · intro b hb
    exact w_some hb.symm
  · intro c hc
    exact w_some hc
theorem m_held_L {P M a0 : Nat} {L : List zE} {qd mm : Int32} {fa qu : Nat → Int32} (hP : P ≤ 3) (hM : M ≤ 5) (h : z_qm P M L qd fa qu) : ∀ r i k, i + r = L.length → r < k → f_Mo_everHeld_L11 mm qd qu k (nI (z_and (L.take i) a0)) (nI i) = some (nI (z_and L a0)) := by
  have hl := Nat.le_trans (z_LI_len hP hM h.1) (z_cap_le hP hM)
  intro r
  induction r with
  | zero =>
    intro i k hi hk
    obtain ⟨k, rfl⟩ : ∃ k', k = k' + 1 := ⟨k - 1, by omega⟩
    rw [f_Mo_everHeld_L11]
    refine e_T (by rw [h.2.1]; exact nI_le (by omega) (by omega)) ?_
    rw [List.take_of_length_le (by omega)]
  | succ r ih =>
    intro i k hi hk
    obtain ⟨k, rfl⟩ : ∃ k', k = k' + 1 := ⟨k - 1, by omega⟩
    have hil : i < L.length := by omega
    obtain ⟨e, he⟩ : ∃ e, L[i]? = some e := ⟨_, List.getElem?_eq_getElem hil⟩
    have ih' := ih (i + 1) k (by omega) (by omega)
    rw [z_and_take he] at ih'
    rw [f_Mo_everHeld_L11]
    refine e_F (by rw [h.2.1]; exact nI_ge (by omega) (by omega)) ?_
    refine e_I (i := i) (by first | (with_reducible rfl) | (simp (disch := omega) only [q_lit, q_ofn, nI_add, q_mul, q_sub, q_shrm, q_shlm, q_a31s, q_a1, q_a3, q_a7, q_a65535, q_div, q_rem2, z_mm, nI_clamp, Nat.reduceMul, Nat.reduceAdd, Nat.reduceSub, Nat.reducePow, Nat.reduceMod, Nat.reduceDiv, Nat.one_mul]; done) | (simp (disch := omega) only [q_lit, q_ofn, nI_add, q_mul, q_sub, q_shrm, q_shlm, q_a31s, q_a1, q_a3, q_a7, q_a65535, q_div, q_rem2, z_mm, nI_clamp, Nat.reduceMul, Nat.reduceAdd, Nat.reduceSub, Nat.reducePow, Nat.reduceMod, Nat.reduceDiv, Nat.one_mul]; with_reducible rfl)) (by omega) (by first | decide | omega) ?_
    rw [h.2.2.1 i e he]
    refine e_L ?_
    refine e_L ?_
    rw [q_and]
    simp only [q_lit, nI_add]
    exact ih'
/-- all that hold everywhere, either way -/
theorem z_held_eq {P M who bar x0 : Nat} {sp : Nat → Nat → Nat} (hM : M ≤ 5) (h0 : z_V P M x0) : z_and (z_F P M sp who bar x0) (2 ^ M - 1) = z_and (z_F P M sp who bar x0) (x0 % 32) := by
  have key : (2 ^ M - 1) &&& x0 = x0 % 32 &&& x0 := by
    rw [Nat.and_comm, Nat.and_two_pow_sub_one_eq_mod]
    have e1 : x0 % 32 &&& x0 = x0 % 32 := by
      apply Nat.eq_of_testBit_eq
      intro j
      rw [Nat.testBit_and, show 32 = 2 ^ 5 from rfl, Nat.testBit_mod_two_pow]
      cases x0.testBit j <;> simp
    rw [e1]
    have h3 := h0.2.1
    have hm : M = 0 ∨ M = 1 ∨ M = 2 ∨ M = 3 ∨ M = 4 ∨ M = 5 := by omega
    rcases hm with rfl | rfl | rfl | rfl | rfl | rfl <;> simp only [Nat.reducePow] at h3 ⊢ <;> omega
  have hz : (z_F P M sp who bar x0)[0]? = some (x0, 0, 0, 0) := z_bf_0 (z_st P M sp who bar) (z_dx P) (z_ds P) x0 57344
  generalize z_F P M sp who bar x0 = F at hz
  cases F with
  | nil => cases hz
  | cons e T =>
    simp only [List.getElem?_cons_zero, Option.some.injEq] at hz
    subst hz
    show z_and T ((2 ^ M - 1) &&& x0) = z_and T (x0 % 32 &&& x0)
    rw [key]
theorem m_held {P M who bar x0 k : Nat} {sp : Nat → Nat → Nat} {qd : Int32} {fa qu : Nat → Int32} (hP : P ≤ 3) (hM : M ≤ 5) (h0 : z_V P M x0) (h : z_qm P M (z_F P M sp who bar x0) qd fa qu) (hk : 60000 ≤ k) : f_Mo_everHeld k (nI M) qd qu = some (nI (z_and (z_F P M sp who bar x0) (x0 % 32))) := by
  have hl := Nat.le_trans (z_LI_len hP hM h.1) (z_cap_le hP hM)
  unfold f_Mo_everHeld
  refine e_L ?_
  have e1 : ((1 : Int32) <<< (nI M &&& 31)) - (1 : Int32) = nI (2 ^ M - 1) := by
    simp (disch := omega) only [q_lit, q_a31s, q_shlm, Nat.one_mul]
    rw [q_sub (Nat.two_pow_pos M)]
  rw [e1]
  have g := m_held_L (mm := nI M) (a0 := 2 ^ M - 1) hP hM h (z_F P M sp who bar x0).length 0 k (by omega) (by omega)
  rw [List.take_zero] at g
  rw [show (0 : Int32) = nI 0 from rfl]
  refine e_B g ?_
  rw [z_held_eq hM h0]
theorem m_many_L {P M t : Nat} {L : List zE} {qd lf mm nw pp : Int32} {fa qu sf : Nat → Int32} (hP : P ≤ 3) (hM : M ≤ 5) (h : z_qr P M L qd fa qu) (ht : t < 2 ^ 31) : ∀ r i k, i + r = L.length → r < k → f_Mo_many_L19 lf mm nw pp qd fa qu sf (nI t) k (nI (z_cd (L.take i) t)) (nI i) = some (nI (z_cd L t)) := by
  have hl := Nat.le_trans (z_LI_len hP hM h.1.1) (z_cap_le hP hM)
  intro r
  induction r with
  | zero =>
    intro i k hi hk
    obtain ⟨k, rfl⟩ : ∃ k', k = k' + 1 := ⟨k - 1, by omega⟩
    rw [f_Mo_many_L19]
    refine e_T (by rw [h.1.2.1]; exact nI_le (by omega) (by omega)) ?_
    rw [List.take_of_length_le (by omega)]
  | succ r ih =>
    intro i k hi hk
    obtain ⟨k, rfl⟩ : ∃ k', k = k' + 1 := ⟨k - 1, by omega⟩
    have hil : i < L.length := by omega
    obtain ⟨e, he⟩ : ∃ e, L[i]? = some e := ⟨_, List.getElem?_eq_getElem hil⟩
    obtain ⟨hV, _, _, hti⟩ := h.1.1.2 i e he
    have hV1 := hV.1
    have ih' := ih (i + 1) k (by omega) (by omega)
    rw [z_cd_take he] at ih'
    rw [f_Mo_many_L19]
    refine e_F (by rw [h.1.2.1]; exact nI_ge (by omega) (by omega)) ?_
    refine e_I (i := i) (by first | (with_reducible rfl) | (simp (disch := omega) only [q_lit, q_ofn, nI_add, q_mul, q_sub, q_shrm, q_shlm, q_a31s, q_a1, q_a3, q_a7, q_a65535, q_div, q_rem2, z_mm, nI_clamp, Nat.reduceMul, Nat.reduceAdd, Nat.reduceSub, Nat.reducePow, Nat.reduceMod, Nat.reduceDiv, Nat.one_mul]; done) | (simp (disch := omega) only [q_lit, q_ofn, nI_add, q_mul, q_sub, q_shrm, q_shlm, q_a31s, q_a1, q_a3, q_a7, q_a65535, q_div, q_rem2, z_mm, nI_clamp, Nat.reduceMul, Nat.reduceAdd, Nat.reduceSub, Nat.reducePow, Nat.reduceMod, Nat.reduceDiv, Nat.one_mul]; with_reducible rfl)) (by omega) (by first | decide | omega) ?_
    rw [h.1.2.2.1 i e he]
    refine e_I (i := e.1) (by first | (with_reducible rfl) | (simp (disch := omega) only [q_lit, q_ofn, nI_add, q_mul, q_sub, q_shrm, q_shlm, q_a31s, q_a1, q_a3, q_a7, q_a65535, q_div, q_rem2, z_mm, nI_clamp, Nat.reduceMul, Nat.reduceAdd, Nat.reduceSub, Nat.reducePow, Nat.reduceMod, Nat.reduceDiv, Nat.one_mul]; done) | (simp (disch := omega) only [q_lit, q_ofn, nI_add, q_mul, q_sub, q_shrm, q_shlm, q_a31s, q_a1, q_a3, q_a7, q_a65535, q_div, q_rem2, z_mm, nI_clamp, Nat.reduceMul, Nat.reduceAdd, Nat.reduceSub, Nat.reducePow, Nat.reduceMod, Nat.reduceDiv, Nat.one_mul]; with_reducible rfl)) (by omega) (by first | decide | omega) ?_
    rw [h.2 i e he]
    unfold f_Mo_many_J48
    by_cases hd : e.2.2.2 = t
    · refine e_T (by rw [hd]) ?_
      refine e_L ?_
      refine e_L ?_
      rw [decide_eq_true hd] at ih'
      simp only [q_lit, nI_add]
      exact ih'
    · refine e_F (by rw [nI_eq (by omega) ht]; exact hd) ?_
      refine e_L ?_
      refine e_L ?_
      rw [decide_eq_false hd] at ih'
      simp only [q_lit, nI_add]
      exact ih'
