/-! the row of tokens -/
def z_tp (c : Nat → Nat) (n : Nat) : Nat → Nat
  | 0 => z_skip c n n 0
  | j + 1 => if n ≤ z_tp c n j then z_tp c n j else z_skip c n (n - z_end c n (z_tp c n j)) (z_end c n (z_tp c n j))
def z_C (c : Nat → Nat) (n j : Nat) : Nat := z_code c n (z_tp c n j)
def z_ze (c : Nat → Nat) (n j : Nat) : Nat := z_en c n (z_tp c n j)
theorem z_tp_le (c : Nat → Nat) (n : Nat) : ∀ j, z_tp c n j ≤ n := by
  intro j
  induction j with
  | zero => exact (z_skip_bd c n n 0 (Nat.zero_le _)).2
  | succ j ih =>
    unfold z_tp
    split
    · exact ih
    · have := z_end_bd (c := c) (n := n) (b := z_tp c n j) (by omega)
      exact (z_skip_bd c n _ _ (by omega)).2
theorem z_C_11 {c : Nat → Nat} {n j : Nat} : z_C c n j = 11 ↔ n ≤ z_tp c n j := z_code_11 (z_tp_le c n j)
theorem t_add {m s : Nat} {f : Nat → Int32} {v : Int32} (hs : s < m) (hm : m < 2 ^ 31) : f_Rw_add m (nI s) f v = some (nI 1, nI (s + 1), upd f s v) := by
  unfold f_Rw_add
  refine e_F (by simp (disch := omega) only [q_lit, q_ofn, nI_add, q_mul, q_sub, q_shrm, q_shlm, q_a31s, q_a1, q_a3, q_a7, q_a65535, q_div, q_rem2, z_mm, nI_clamp, Nat.reduceMul, Nat.reduceAdd, Nat.reduceSub, Nat.reducePow, Nat.reduceMod, Nat.reduceDiv, Nat.one_mul, nI_ltI, nI_leI, nI_eq, q_b0, q_b1, q_m1lt, q_m1le, q_ltm1, q_lem1, q_eqm1, q_m1eq, not_true_eq_false, not_false_eq_true, reduceCtorEq, *] <;> first | omega | decide) ?_
  rw [q_ofn]
  refine e_T (nI_lt hs hm) ?_
  refine e_C (i := s) rfl hs hm ?_
  refine e_L ?_
  rw [nI_clamp (by omega)]
  simp only [q_lit, nI_add]
theorem t_addF {m s : Nat} {f : Nat → Int32} {v : Int32} (hs : m ≤ s) (hm : s < 2 ^ 31) : f_Rw_add m (nI s) f v = some (nI 0, nI s, f) := by
  unfold f_Rw_add
  refine e_F (by simp (disch := omega) only [q_lit, q_ofn, nI_add, q_mul, q_sub, q_shrm, q_shlm, q_a31s, q_a1, q_a3, q_a7, q_a65535, q_div, q_rem2, z_mm, nI_clamp, Nat.reduceMul, Nat.reduceAdd, Nat.reduceSub, Nat.reducePow, Nat.reduceMod, Nat.reduceDiv, Nat.one_mul, nI_ltI, nI_leI, nI_eq, q_b0, q_b1, q_m1lt, q_m1le, q_ltm1, q_lem1, q_eqm1, q_m1eq, not_true_eq_false, not_false_eq_true, reduceCtorEq, *] <;> first | omega | decide) ?_
  rw [q_ofn]
  exact e_F (nI_nlt hs hm) rfl
/-- codes and places of the first m tokens -/
def z_cp (c : Nat → Nat) (n m : Nat) (cf pf : Nat → Int32) : Prop := ∀ j, j < m → cf j = z_cI (z_C c n j) ∧ pf j = nI (z_tp c n j)
theorem z_cp_add {c : Nat → Nat} {n m : Nat} {cf pf : Nat → Int32} (h : z_cp c n m cf pf) {x y : Int32} (hx : x = z_cI (z_C c n m)) (hy : y = nI (z_tp c n m)) : z_cp c n (m + 1) (upd cf m x) (upd pf m y) := by
  intro j hj
  by_cases hjm : j = m
  · subst hjm
    rw [z_upd_s, z_upd_s]
    exact ⟨hx, hy⟩
  · rw [z_upd_n hjm, z_upd_n hjm]
    exact h j (by omega)
theorem t_cut_L {c : Nat → Nat} {n : Nat} {f : Nat → Int32} (ht : z_tx c n f) : ∀ r a m k (cf pf : Nat → Int32), n ≤ a + r → a ≤ n → m ≤ a → r + 310 < k → z_tp c n m = z_skip c n (n - a) a → (∀ j, j < m → z_tp c n j < n) → z_cp c n m cf pf → wp (f_Rd_cutIntoTokens_L20 241 241 240 (nI n) f k (nI a) (nI m) (nI m) cf pf) (fun q => ∃ m', m' ≤ n ∧ q.1 = nI m' ∧ q.2.1 = nI m' ∧ z_cp c n m' q.2.2.1 q.2.2.2 ∧ n ≤ z_tp c n m' ∧ ∀ j, j < m' → z_tp c n j < n) := by
  have hn := ht.1
  intro r
  induction r with
  | zero =>
    intro a m k cf pf h1 h2 h3 hk h4 h5 h6
    obtain ⟨k, rfl⟩ : ∃ k', k = k' + 1 := ⟨k - 1, by omega⟩
    rw [f_Rd_cutIntoTokens_L20]
    unfold f_Rw_size
    refine w_Be rfl ?_
    refine w_T (nI_le (by omega) (by omega)) (w_some ⟨m, by omega, rfl, rfl, h6, ?_, h5⟩)
    rw [h4]
    have := z_skip_bd c n (n - a) a h2
    omega
  | succ r ih =>
    intro a m k cf pf h1 h2 h3 hk h4 h5 h6
    obtain ⟨k, rfl⟩ : ∃ k', k = k' + 1 := ⟨k - 1, by omega⟩
    rw [f_Rd_cutIntoTokens_L20]
    unfold f_Rw_size
    refine w_Be rfl ?_
    by_cases hend : n ≤ a
    · refine w_T (nI_le hend (by omega)) (w_some ⟨m, by omega, rfl, rfl, h6, ?_, h5⟩)
      rw [h4]
      have := z_skip_bd c n (n - a) a h2
      omega
    · have ha : a < n := by omega
      obtain ⟨g1, g2⟩ := ht.2 a ha
      obtain ⟨e1, e2⟩ := z_end_bd (c := c) ha
      refine w_F (nI_ge ha (by omega)) ?_
      refine w_Be (t_end ht ha (by omega)) ?_
      refine w_Be (t_at ha hn (by decide)) ?_
      rw [g1]
      unfold f_Rd_cutIntoTokens_J73
      have hs : z_skip c n (n - a) a = if c a = 32 then z_skip c n (n - (a + 1)) (a + 1) else a := by
        rw [show n - a = (n - (a + 1)) + 1 by omega]
        show (if n ≤ a then a else if c a = 32 then _ else a) = _
        rw [if_neg hend]
      by_cases h32 : c a = 32
      · refine w_T (by rw [h32]; rfl) ?_
        have hcl : z_end c n a = a + 1 := by
          unfold z_end
          rw [h32, if_pos (by decide)]
        rw [hcl]
        rw [if_pos h32] at hs
        exact ih (a + 1) m k cf pf (by omega) (by omega) (by omega) (by omega) (h4.trans hs) h5 h6
      · refine w_F (by rw [q_lit, nI_eq (by omega) (by decide)]; exact h32) ?_
        rw [if_neg h32] at hs
        have htp : z_tp c n m = a := h4.trans hs
        refine w_Be (t_code ht ha (by omega)) ?_
        refine w_Be (t_add (by omega) (by decide)) ?_
        refine w_Be (t_add (by omega) (by decide)) ?_
        refine ih (z_end c n a) (m + 1) k _ _ (by omega) e2 (by omega) (by omega) ?_ ?_ (z_cp_add h6 (by unfold z_C; rw [htp]) (by rw [htp]))
        · show (if n ≤ z_tp c n m then _ else _) = _
          rw [htp, if_neg hend]
        · intro j hj
          by_cases hjm : j = m
          · subst hjm; rw [htp]; exact ha
          · exact h5 j (by omega)
/-- the tokens as the class keeps them: m of them and the end -/
def z_tk (c : Nat → Nat) (n m : Nat) (cs ps : Int32) (cf pf : Nat → Int32) : Prop := m ≤ 240 ∧ cs = nI (m + 1) ∧ ps = nI (m + 1) ∧ z_cp c n (m + 1) cf pf ∧ n ≤ z_tp c n m ∧ ∀ j, j < m → z_tp c n j < n
theorem t_cut {c : Nat → Nat} {n k : Nat} {f cf pf : Nat → Int32} {cs ps : Int32} (ht : z_tx c n f) (hk : 1000 ≤ k) : wp (f_Rd_cutIntoTokens k 241 241 240 cs ps (nI n) cf pf f) (fun q => ∃ m, z_tk c n m q.1 q.2.1 q.2.2.1 q.2.2.2) := by
  have hn := ht.1
  unfold f_Rd_cutIntoTokens f_Rw_empty
  refine w_Be rfl ?_
  refine w_Be rfl ?_
  refine w_Bw (t_cut_L ht n 0 0 k cf pf (by omega) (by omega) (by omega) (by omega) rfl (fun j hj => by omega) (fun j hj => by omega)) (fun q hq => ?_)
  obtain ⟨q1, q2, q3, q4⟩ := q
  obtain ⟨m, h1, h2, h3, h4, h5, h6⟩ := hq
  simp only at h2 h3 h4
  subst h2; subst h3
  refine w_Be (t_add (by omega) (by decide)) ?_
  unfold f_Rw_size
  refine w_Be rfl ?_
  refine w_Be (t_add (by omega) (by decide)) ?_
  have hle := z_tp_le c n m
  refine w_some ⟨m, by omega, rfl, rfl, z_cp_add h4 ?_ ?_, h5, h6⟩
  · rw [z_C_11.mpr h5]; rfl
  · rw [show z_tp c n m = n by omega]
theorem z_tk_at {c : Nat → Nat} {n m j : Nat} {cs ps : Int32} {cf pf : Nat → Int32} (h : z_tk c n m cs ps cf pf) (hj : j ≤ m) : f_Rw_at 241 cs cf (nI j) = some (z_cI (z_C c n j)) ∧ f_Rw_at 241 ps pf (nI j) = some (nI (z_tp c n j)) := by
  obtain ⟨h1, h2, h3, h4, h5, h6⟩ := h
  rw [h2, h3, t_at (by omega) (by omega) (by decide), t_at (by omega) (by omega) (by decide), (h4 j (by omega)).1, (h4 j (by omega)).2]
  exact ⟨rfl, rfl⟩
theorem z_tk_next {c : Nat → Nat} {n m j : Nat} {cs ps : Int32} {cf pf : Nat → Int32} (h : z_tk c n m cs ps cf pf) (hj : j ≤ m) (hc : z_C c n j ≠ 11) : j + 1 ≤ m := by
  obtain ⟨h1, h2, h3, h4, h5, h6⟩ := h
  rcases Nat.lt_or_ge j m with hl | hl
  · omega
  · have : j = m := by omega
    subst this
    exact absurd (z_C_11.mpr h5) hc
theorem z_C_rng (c : Nat → Nat) (n j : Nat) : z_C c n j ≤ 28 ∨ z_C c n j = 99 := z_code_rng c n _
theorem z_cI_eq {x y : Nat} (hx : x ≤ 28 ∨ x = 99) (hy : y ≤ 28) : z_cI x = nI y ↔ x = y := by
  unfold z_cI
  split
  · next h =>
    constructor
    · intro e; exact ((q_m1eq (by omega)).mp e).elim
    · intro e; omega
  · rw [nI_eq (by omega) (by omega)]
/-! numbers behind words -/
def z_lim (wd P M : Nat) : Nat := if wd = 12 then 4 else if wd = 13 ∨ wd = 14 ∨ wd = 15 ∨ wd = 21 ∨ wd = 22 then P else if wd = 16 then M else if wd = 20 ∨ wd = 24 ∨ wd = 25 then M + 1 else if wd = 23 then 7 else if wd = 28 then 8 else 2
def z_lst (wd : Nat) : Nat := if wd = 12 ∨ wd = 28 then 1 else 0
def z_nok (wd P M v : Nat) : Bool := decide (z_lst wd ≤ v ∧ v ≤ 9 ∧ v < z_lim wd P M)
theorem t_last {wd P M : Nat} (h1 : 12 ≤ wd) (h2 : wd ≤ 28) (hP : P ≤ 3) (hM : M ≤ 5) : ∃ y, f_Rd_lastNumberBehind (nI P) (nI M) (nI wd) = some y ∧ y.toInt = (z_lim wd P M : Int) - 1 := by
  have hc : wd = 12 ∨ wd = 13 ∨ wd = 14 ∨ wd = 15 ∨ wd = 16 ∨ wd = 17 ∨ wd = 18 ∨ wd = 19 ∨ wd = 20 ∨ wd = 21 ∨ wd = 22 ∨ wd = 23 ∨ wd = 24 ∨ wd = 25 ∨ wd = 26 ∨ wd = 27 ∨ wd = 28 := by omega
  have hp1 : (nI P - (1 : Int32)).toInt = (P : Int) - 1 := q_predT (by omega)
  have hm1 : (nI M - (1 : Int32)).toInt = (M : Int) - 1 := q_predT (by omega)
  have hm : (nI M).toInt = ((M + 1 : Nat) : Int) - 1 := by rw [nI_toInt (by omega)]; omega
  rcases hc with rfl | rfl | rfl | rfl | rfl | rfl | rfl | rfl | rfl | rfl | rfl | rfl | rfl | rfl | rfl | rfl | rfl
  · exact ⟨_, rfl, by show Int32.toInt 3 = ((4 : Nat) : Int) - 1; decide⟩
  · exact ⟨nI P - 1, rfl, hp1⟩
  · exact ⟨nI P - 1, rfl, hp1⟩
  · exact ⟨nI P - 1, rfl, hp1⟩
  · exact ⟨nI M - 1, rfl, hm1⟩
  · exact ⟨_, rfl, by show Int32.toInt 1 = ((2 : Nat) : Int) - 1; decide⟩
  · exact ⟨_, rfl, by show Int32.toInt 1 = ((2 : Nat) : Int) - 1; decide⟩
  · exact ⟨_, rfl, by show Int32.toInt 1 = ((2 : Nat) : Int) - 1; decide⟩
  · exact ⟨nI M, rfl, hm⟩
  · exact ⟨nI P - 1, rfl, hp1⟩
  · exact ⟨nI P - 1, rfl, hp1⟩
  · exact ⟨_, rfl, by show Int32.toInt 6 = ((7 : Nat) : Int) - 1; decide⟩
  · exact ⟨nI M, rfl, hm⟩
  · exact ⟨nI M, rfl, hm⟩
  · exact ⟨_, rfl, by show Int32.toInt 1 = ((2 : Nat) : Int) - 1; decide⟩
  · exact ⟨_, rfl, by show Int32.toInt 1 = ((2 : Nat) : Int) - 1; decide⟩
  · exact ⟨_, rfl, by show Int32.toInt 7 = ((8 : Nat) : Int) - 1; decide⟩
theorem t_takeNum {c : Nat → Nat} {n m j wd P M : Nat} {cs ps : Int32} {cf pf : Nat → Int32} (h : z_tk c n m cs ps cf pf) (hj : j ≤ m) (h1 : 12 ≤ wd) (h2 : wd ≤ 28) (hP : P ≤ 3) (hM : M ≤ 5) : f_Rd_takeNumberBehind 241 (nI j) cs (nI P) (nI M) cf (nI wd) = some (if z_nok wd P M (z_C c n j) = true then (nI (z_C c n j), nI (j + 1)) else (-nI 1, nI j)) := by
  have hat := (z_tk_at h hj).1
  obtain ⟨y, hy, hyi⟩ := t_last h1 h2 hP hM
  have hr := z_C_rng c n j
  have hm := h.1
  have J29 : ∀ s0 : Int32, s0 = nI (z_lst wd) → f_Rd_takeNumberBehind_J29 241 (nI j) cs (nI P) (nI M) cf (nI wd) (z_cI (z_C c n j)) s0 = some (if z_nok wd P M (z_C c n j) = true then (nI (z_C c n j), nI (j + 1)) else (-nI 1, nI j)) := by
    intro s0 hs
    subst hs
    have hls : z_lst wd ≤ 1 := by unfold z_lst; split <;> omega
    have no : z_nok wd P M (z_C c n j) = false → some ((-1 : Int32), nI j) = some (if z_nok wd P M (z_C c n j) = true then (nI (z_C c n j), nI (j + 1)) else (-nI 1, nI j)) := fun h => by rw [h]; rfl
    unfold f_Rd_takeNumberBehind_J29
    by_cases h99 : z_C c n j = 99
    · have hz : z_nok wd P M (z_C c n j) = false := decide_eq_false (by omega)
      refine e_T ?_ (no hz)
      rw [h99]
      exact (q_m1lt (by omega)).mpr trivial
    · have e0 : z_cI (z_C c n j) = nI (z_C c n j) := by unfold z_cI; rw [if_neg h99]
      rw [e0]
      by_cases c1 : z_C c n j < z_lst wd
      · exact e_T (nI_lt c1 (by omega)) (no (decide_eq_false (by omega)))
      · refine e_F (nI_nlt (by omega) (by omega)) ?_
        by_cases c2 : 9 < z_C c n j
        · exact e_T (by rw [q_lit, nI_ltI (by decide) (by omega)]; exact c2) (no (decide_eq_false (by omega)))
        · refine e_F (by rw [q_lit, nI_ltI (by decide) (by omega)]; exact c2) ?_
          rw [hy, q_B]
          have hle : (nI (z_C c n j) ≤ y) ↔ z_C c n j < z_lim wd P M := by
            rw [Int32.le_iff_toInt_le, nI_toInt (by omega), hyi]
            omega
          by_cases c3 : z_C c n j < z_lim wd P M
          · have hz : z_nok wd P M (z_C c n j) = true := decide_eq_true (by omega)
            refine e_T (hle.mpr c3) ?_
            refine e_L ?_
            rw [hz]
            simp only [q_lit, nI_add]
            rfl
          · exact e_F (fun z => c3 (hle.mp z)) (no (decide_eq_false (by omega)))
  unfold f_Rd_takeNumberBehind f_Rd_takeNumberBehind_J24
  rw [hat, q_B]
  by_cases w12 : wd = 12
  · refine e_T (by rw [w12]; rfl) ?_
    exact J29 1 (by unfold z_lst; rw [if_pos (Or.inl w12)]; rfl)
  · refine e_F (by rw [q_lit, nI_eq (by omega) (by decide)]; exact w12) ?_
    by_cases w28 : wd = 28
    · refine e_T (by rw [w28]; rfl) ?_
      exact J29 1 (by unfold z_lst; rw [if_pos (Or.inr w28)]; rfl)
    · refine e_F (by rw [q_lit, nI_eq (by omega) (by decide)]; exact w28) ?_
      exact J29 0 (by unfold z_lst; rw [if_neg (by omega)]; rfl)
theorem t_takes {c : Nat → Nat} {n m j wd : Nat} {cs ps : Int32} {cf pf : Nat → Int32} (h : z_tk c n m cs ps cf pf) (hj : j ≤ m) (h2 : wd ≤ 28) : f_Rd_takes 241 (nI j) cs cf (nI wd) = some (if z_C c n j = wd then (nI 1, nI (j + 1)) else (nI 0, nI j)) := by
  have hat := (z_tk_at h hj).1
  have hr := z_C_rng c n j
  unfold f_Rd_takes
  rw [hat, q_B]
  by_cases hc : z_C c n j = wd
  · rw [if_pos hc]
    refine e_T ((z_cI_eq hr h2).mpr hc) ?_
    refine e_L ?_
    simp only [q_lit, nI_add]
  · rw [if_neg hc]
    exact e_F (fun z => hc ((z_cI_eq hr h2).mp z)) rfl
