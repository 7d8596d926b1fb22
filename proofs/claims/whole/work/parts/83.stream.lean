/-! the row of tokens -/
def z_tp (c : Nat → Nat) (n : Nat) : Nat → Nat
  | 0 => z_skip c n n 0
  | j + 1 => if n ≤ z_tp c n j then z_tp c n j else z_skip c n (n - z_end c n (z_tp c n j)) (z_end c n (z_tp c n j))
def z_C (c : Nat → Nat) (n j : Nat) : Nat := z_code c n (z_tp c n j)
def z_ze (c : Nat → Nat) (n j : Nat) : Nat := z_en c n (z_tp c n j)
theorem z_tp_le (c : Nat → Nat) (n : Nat) : ∀ j, z_tp c n j ≤ n := by
  intro j
  induction j with
  | zero => exact (z_skip_bd c n n 0 (Nat.zero_le _)).2
  | succ j ih =>
    unfold z_tp
    split
    · exact ih
    · have := z_end_bd (c := c) (n := n) (b := z_tp c n j) (by omega)
      exact (z_skip_bd c n _ _ (by omega)).2
theorem z_C_11 {c : Nat → Nat} {n j : Nat} : z_C c n j = 11 ↔ n ≤ z_tp c n j := z_code_11 (z_tp_le c n j)
theorem t_add {m s : Nat} {f : Nat → Int32} {v : Int32} (hs : s < m) (hm : m < 2 ^ 31) : f_Rw_add m (nI s) f v = some (nI 1, nI (s + 1), upd f s v) := by
  unfold f_Rw_add
  refine e_F (by simp (disch := omega) only [q_lit, q_ofn, nI_add, q_mul, q_sub, q_shrm, q_shlm, q_a31s, q_a1, q_a3, q_a7, q_a65535, q_div, q_rem2, z_mm, nI_clamp, Nat.reduceMul, Nat.reduceAdd, Nat.reduceSub, Nat.reducePow, Nat.reduceMod, Nat.reduceDiv, Nat.one_mul, nI_ltI, nI_leI, nI_eq, q_b0, q_b1, q_m1lt, q_m1le, q_ltm1, q_lem1, q_eqm1, q_m1eq, not_true_eq_false, not_false_eq_true, reduceCtorEq, *] <;> first | omega | decide) ?_
  rw [q_ofn]
  refine e_T (nI_lt hs hm) ?_
  refine e_C (i := s) rfl hs hm ?_
  refine e_L ?_
  rw [nI_clamp (by omega)]
  simp only [q_lit, nI_add]
theorem t_addF {m s : Nat} {f : Nat → Int32} {v : Int32} (hs : m ≤ s) (hm : s < 2 ^ 31) : f_Rw_add m (nI s) f v = some (nI 0, nI s, f) := by
  unfold f_Rw_add
  refine e_F (by simp (disch := omega) only [q_lit, q_ofn, nI_add, q_mul, q_sub, q_shrm, q_shlm, q_a31s, q_a1, q_a3, q_a7, q_a65535, q_div, q_rem2, z_mm, nI_clamp, Nat.reduceMul, Nat.reduceAdd, Nat.reduceSub, Nat.reducePow, Nat.reduceMod, Nat.reduceDiv, Nat.one_mul, nI_ltI, nI_leI, nI_eq, q_b0, q_b1, q_m1lt, q_m1le, q_ltm1, q_lem1, q_eqm1, q_m1eq, not_true_eq_false, not_false_eq_true, reduceCtorEq, *] <;> first | omega | decide) ?_
  rw [q_ofn]
  exact e_F (nI_nlt hs hm) rfl
/-- codes and places of the first m tokens -/
def z_cp (c : Nat → Nat) (n m : Nat) (cf pf : Nat → Int32) : Prop := ∀ j, j < m → cf j = z_cI (z_C c n j) ∧ pf j = nI (z_tp c n j)
theorem z_cp_add {c : Nat → Nat} {n m : Nat} {cf pf : Nat → Int32} (h : z_cp c n m cf pf) {x y : Int32} (hx : x = z_cI (z_C c n m)) (hy : y = nI (z_tp c n m)) : z_cp c n (m + 1) (upd cf m x) (upd pf m y) := by
  intro j hj
  by_cases hjm : j = m
  · subst hjm
    rw [z_upd_s, z_upd_s]
    exact ⟨hx, hy⟩
  · rw [z_upd_n hjm, z_upd_n hjm]
    exact h j (by omega)
/-- the letter goes on with the token of the letter ahead of it -/
def z_go (c : Nat → Nat) (i : Nat) : Bool := decide (0 < i ∧ z_cl (c i) ≠ 0 ∧ z_cl (c i) = z_cl (c (i - 1)))
def z_bgt (c : Nat → Nat) (i : Nat) : Bool := decide (c i ≠ 32) && !z_go c i
theorem z_run_in (c : Nat → Nat) (n s : Nat) : ∀ r a, a + r = n → (∀ i, a ≤ i → i < z_run c n s r a → z_cl (c i) = s) ∧ (z_run c n s r a < n → z_cl (c (z_run c n s r a)) ≠ s) := by
  intro r
  induction r with
  | zero =>
    intro a h
    unfold z_run
    exact ⟨fun i h1 h2 => by omega, fun h1 => by omega⟩
  | succ r ih =>
    intro a h
    unfold z_run
    rw [if_neg (show ¬ n ≤ a by omega)]
    by_cases hc : z_cl (c a) = s
    · rw [if_pos hc]
      obtain ⟨i1, i2⟩ := ih (a + 1) (by omega)
      refine ⟨fun i h1 h2 => ?_, i2⟩
      by_cases hia : i = a
      · rw [hia]; exact hc
      · exact i1 i (by omega) h2
    · rw [if_neg hc]
      exact ⟨fun i h1 h2 => by omega, fun _ => hc⟩
theorem z_end_go {c : Nat → Nat} {n b : Nat} (hb : b < n) : (∀ i, b + 1 ≤ i → i < z_end c n b → z_go c i = true) ∧ (z_end c n b < n → z_go c (z_end c n b) = false) := by
  unfold z_end
  by_cases h0 : z_cl (c b) = 0
  · rw [if_pos h0]
    refine ⟨fun i h1 h2 => by omega, fun _ => ?_⟩
    refine decide_eq_false (fun z => ?_)
    have := z.2.2
    rw [show b + 1 - 1 = b by omega] at this
    exact z.2.1 (this.trans h0)
  · rw [if_neg h0]
    obtain ⟨i1, i2⟩ := z_run_in c n (z_cl (c b)) (n - (b + 1)) (b + 1) (by omega)
    obtain ⟨l1, l2⟩ := z_run_bd c n (z_cl (c b)) (n - (b + 1)) (b + 1) (by omega)
    have all : ∀ i, b ≤ i → i < z_run c n (z_cl (c b)) (n - (b + 1)) (b + 1) → z_cl (c i) = z_cl (c b) := by
      intro i h1 h2
      by_cases hib : i = b
      · rw [hib]
      · exact i1 i (by omega) h2
    refine ⟨fun i h1 h2 => ?_, fun h => ?_⟩
    · have e1 := all i (by omega) h2
      have e2 := all (i - 1) (by omega) (by omega)
      exact decide_eq_true ⟨by omega, by rw [e1]; exact h0, by rw [e1, e2]⟩
    · have e1 := i2 h
      have e2 := all (z_run c n (z_cl (c b)) (n - (b + 1)) (b + 1) - 1) (by omega) (by omega)
      exact decide_eq_false (fun z => e1 (z.2.2.trans e2))
theorem t_bt53 {n x : Nat} {f : Nat → Int32} (hx : x ≤ 255) (g : Bool) : f_Rd_beginsToken_J53 240 (nI n) f (nI x) (nI g.toNat) = some (nI (decide (x ≠ 32) && !g).toNat) := by
  unfold f_Rd_beginsToken_J53
  by_cases h : x = 32
  · refine e_T (by rw [h]; rfl) ?_
    rw [decide_eq_false (fun z => z h)]; rfl
  · refine e_F (by rw [q_lit, nI_eq (by omega) (by decide)]; exact h) ?_
    rw [decide_eq_true h]
    cases g
    · exact e_T (by decide) rfl
    · exact e_F (by decide) rfl
theorem t_begins {c : Nat → Nat} {n i : Nat} {f : Nat → Int32} (ht : z_tx c n f) (hi : i < n) : f_Rd_beginsToken 240 (nI n) f (nI i) = some (nI (z_bgt c i).toNat) := by
  have hn := ht.1
  obtain ⟨h1, h2⟩ := ht.2 i hi
  have hle := z_cl_le (c i)
  obtain ⟨p, a1, a2, hp, hs, hd, e1, e2⟩ : ∃ (p : Int32) (a1 a2 : Bool), f_Rw_at 240 (nI n) f (nI i - (1 : Int32)) = some p ∧ f_Rd_isSmall p = some (nI a1.toNat) ∧ f_Rd_isDigit p = some (nI a2.toNat) ∧ (a1 = true ↔ 0 < i ∧ z_cl (c (i - 1)) = 1) ∧ (a2 = true ↔ 0 < i ∧ z_cl (c (i - 1)) = 2) := by
    rcases i with _ | j
    · refine ⟨-1, false, false, ?_, by decide, by decide, by simp, by simp⟩
      unfold f_Rw_at f_Rw_at_J21
      exact e_T (by decide) rfl
    · obtain ⟨g1, g2⟩ := ht.2 j (by omega)
      refine ⟨nI (c j), decide (z_cl (c j) = 1), decide (z_cl (c j) = 2), ?_, t_isSmall (by omega), t_isDigit (by omega), by simp, by simp⟩
      have hj : nI (j + 1) - (1 : Int32) = nI j := by
        have h := q_sub (a := j + 1) (b := 1) (by omega)
        rw [Nat.add_sub_cancel] at h
        exact h
      rw [hj, t_at (by omega) hn (by decide), g1]
  have hb : z_bgt c i = (decide (c i ≠ 32) && !((decide (z_cl (c i) = 1) && a1) || (decide (z_cl (c i) = 2) && a2))) := by
    have hg : z_go c i = ((decide (z_cl (c i) = 1) && a1) || (decide (z_cl (c i) = 2) && a2)) := by
      unfold z_go
      rw [Bool.eq_iff_iff]
      simp only [Bool.or_eq_true, Bool.and_eq_true, decide_eq_true_eq, e1, e2]
      omega
    unfold z_bgt
    rw [hg]
  rw [hb]
  have J34 : f_Rd_beginsToken_J34 240 (nI n) f (nI (c i)) p = some (nI (decide (c i ≠ 32) && !(decide (z_cl (c i) = 2) && a2)).toNat) := by
    unfold f_Rd_beginsToken_J34 f_Rd_beginsToken_J52 f_Rd_beginsToken_J48
    rw [t_isDigit (by omega), q_B]
    by_cases c2 : z_cl (c i) = 2
    · rw [decide_eq_true c2]
      refine e_F (by decide) ?_
      rw [hd, q_B]
      cases a2
      · exact e_T (by decide) (t_bt53 h2 false)
      · exact e_F (by decide) (t_bt53 h2 true)
    · rw [decide_eq_false c2]
      exact e_T (by decide) (t_bt53 h2 false)
  unfold f_Rd_beginsToken
  rw [t_at hi hn (by decide), q_B, h1, hp, q_B, t_isSmall (by omega), q_B]
  by_cases c1 : z_cl (c i) = 1
  · rw [decide_eq_true c1]
    refine e_F (by decide) ?_
    rw [hs, q_B]
    cases a1
    · refine e_T (by decide) ?_
      rw [J34]
      rfl
    · refine e_F (by decide) ?_
      unfold f_Rd_beginsToken_J48
      exact t_bt53 h2 true
  · rw [decide_eq_false c1]
    refine e_T (by decide) ?_
    rw [J34]
    rfl
theorem t_cut_L {c : Nat → Nat} {n : Nat} {f : Nat → Int32} (ht : z_tx c n f) : ∀ r a e m k (cf pf : Nat → Int32), a + r = n → a ≤ e → e ≤ n → m ≤ a → r + 310 < k → z_tp c n m = z_skip c n (n - e) e → (∀ i, a ≤ i → i < e → z_go c i = true) → (e < n → z_go c e = false) → (∀ j, j < m → z_tp c n j < n) → z_cp c n m cf pf → wp (f_Rd_cutIntoTokens_L18 241 241 240 (nI n) f k (nI a) (nI m) (nI m) cf pf) (fun q => ∃ m', m' ≤ n ∧ q.1 = nI m' ∧ q.2.1 = nI m' ∧ z_cp c n m' q.2.2.1 q.2.2.2 ∧ n ≤ z_tp c n m' ∧ ∀ j, j < m' → z_tp c n j < n) := by
  have hn := ht.1
  intro r
  induction r with
  | zero =>
    intro a e m k cf pf h1 h2 h3 hm hk h4 g1 g2 h5 h6
    obtain ⟨k, rfl⟩ : ∃ k', k = k' + 1 := ⟨k - 1, by omega⟩
    rw [f_Rd_cutIntoTokens_L18]
    unfold f_Rw_size
    refine w_Be rfl ?_
    refine w_T (nI_le (by omega) (by omega)) (w_some ⟨m, by omega, rfl, rfl, h6, ?_, h5⟩)
    rw [h4]
    have := z_skip_bd c n (n - e) e h3
    omega
  | succ r ih =>
    intro a e m k cf pf h1 h2 h3 hm hk h4 g1 g2 h5 h6
    obtain ⟨k, rfl⟩ : ∃ k', k = k' + 1 := ⟨k - 1, by omega⟩
    have ha : a < n := by omega
    rw [f_Rd_cutIntoTokens_L18]
    unfold f_Rw_size
    refine w_Be rfl ?_
    refine w_F (nI_ge ha (by omega)) ?_
    refine w_Be (t_begins ht ha) ?_
    unfold f_Rd_cutIntoTokens_J64
    by_cases hae : a < e
    · have hb : z_bgt c a = false := by unfold z_bgt; rw [g1 a (Nat.le_refl _) hae]; cases decide (c a ≠ 32) <;> rfl
      rw [hb]
      refine w_T (by decide) ?_
      refine w_L ?_
      simp only [q_lit, nI_add]
      exact ih (a + 1) e m k cf pf (by omega) (by omega) h3 (by omega) (by omega) h4 (fun i i1 i2 => g1 i (by omega) i2) g2 h5 h6
    · have hea : e = a := by omega
      subst hea
      have hs : z_skip c n (n - e) e = if c e = 32 then z_skip c n (n - (e + 1)) (e + 1) else e := by
        rw [show n - e = (n - (e + 1)) + 1 by omega]
        show (if n ≤ e then e else if c e = 32 then _ else e) = _
        rw [if_neg (show ¬ n ≤ e by omega)]
      by_cases h32 : c e = 32
      · have hb : z_bgt c e = false := by unfold z_bgt; rw [decide_eq_false (fun z => z h32)]; rfl
        rw [hb]
        refine w_T (by decide) ?_
        refine w_L ?_
        simp only [q_lit, nI_add]
        rw [if_pos h32] at hs
        refine ih (e + 1) (e + 1) m k cf pf (by omega) (Nat.le_refl _) (by omega) (by omega) (by omega) (h4.trans hs) (fun i i1 i2 => by omega) (fun _ => ?_) h5 h6
        refine decide_eq_false (fun z => ?_)
        have z3 := z.2.2
        rw [show e + 1 - 1 = e by omega, h32] at z3
        exact z.2.1 z3
      · have hb : z_bgt c e = true := by unfold z_bgt; rw [g2 ha, decide_eq_true h32]; rfl
        rw [hb]
        refine w_F (by decide) ?_
        rw [if_neg h32] at hs
        have htp : z_tp c n m = e := h4.trans hs
        obtain ⟨b1, b2⟩ := z_end_bd (c := c) ha
        obtain ⟨d1, d2⟩ := z_end_go (c := c) ha
        refine w_Be (t_end ht ha (by omega)) ?_
        refine w_Be (t_code ht ha (by omega)) ?_
        refine w_Be (t_add (by omega) (by decide)) ?_
        refine w_Be (t_add (by omega) (by decide)) ?_
        refine w_Ln (w := nI (e + 1)) (by simp only [q_lit, nI_add]) ?_
        refine ih (e + 1) (z_end c n e) (m + 1) k _ _ (by omega) (by omega) b2 (by omega) (by omega) ?_ d1 d2 ?_ (z_cp_add h6 (by unfold z_C; rw [htp]) (by rw [htp]))
        · show (if n ≤ z_tp c n m then _ else _) = _
          rw [htp, if_neg (show ¬ n ≤ e by omega)]
        · intro j hj
          by_cases hjm : j = m
          · subst hjm; rw [htp]; exact ha
          · exact h5 j (by omega)
/-- the tokens as the class keeps them: m of them and the end -/
def z_tk (c : Nat → Nat) (n m : Nat) (cs ps : Int32) (cf pf : Nat → Int32) : Prop := m ≤ 240 ∧ cs = nI (m + 1) ∧ ps = nI (m + 1) ∧ z_cp c n (m + 1) cf pf ∧ n ≤ z_tp c n m ∧ ∀ j, j < m → z_tp c n j < n
theorem t_cut {c : Nat → Nat} {n k : Nat} {f cf pf : Nat → Int32} {cs ps : Int32} (ht : z_tx c n f) (hk : 1000 ≤ k) : wp (f_Rd_cutIntoTokens k 241 241 240 cs ps (nI n) cf pf f) (fun q => ∃ m, z_tk c n m q.1 q.2.1 q.2.2.1 q.2.2.2) := by
  have hn := ht.1
  unfold f_Rd_cutIntoTokens f_Rw_empty
  refine w_Be rfl ?_
  refine w_Be rfl ?_
  refine w_Bw (t_cut_L ht n 0 0 0 k cf pf (by omega) (by omega) (by omega) (by omega) (by omega) rfl (fun i _ hi => by omega) (fun _ => decide_eq_false (fun z => by omega)) (fun j hj => by omega) (fun j hj => by omega)) (fun q hq => ?_)
  obtain ⟨q1, q2, q3, q4⟩ := q
  obtain ⟨m, h1, h2, h3, h4, h5, h6⟩ := hq
  simp only at h2 h3 h4
  subst h2; subst h3
  refine w_Be (t_add (by omega) (by decide)) ?_
  unfold f_Rw_size
  refine w_Be rfl ?_
  refine w_Be (t_add (by omega) (by decide)) ?_
  have hle := z_tp_le c n m
  refine w_some ⟨m, by omega, rfl, rfl, z_cp_add h4 ?_ ?_, h5, h6⟩
  · rw [z_C_11.mpr h5]; rfl
  · rw [show z_tp c n m = n by omega]
theorem z_tk_at {c : Nat → Nat} {n m j : Nat} {cs ps : Int32} {cf pf : Nat → Int32} (h : z_tk c n m cs ps cf pf) (hj : j ≤ m) : f_Rw_at 241 cs cf (nI j) = some (z_cI (z_C c n j)) ∧ f_Rw_at 241 ps pf (nI j) = some (nI (z_tp c n j)) := by
  obtain ⟨h1, h2, h3, h4, h5, h6⟩ := h
  rw [h2, h3, t_at (by omega) (by omega) (by decide), t_at (by omega) (by omega) (by decide), (h4 j (by omega)).1, (h4 j (by omega)).2]
  exact ⟨rfl, rfl⟩
theorem z_tk_next {c : Nat → Nat} {n m j : Nat} {cs ps : Int32} {cf pf : Nat → Int32} (h : z_tk c n m cs ps cf pf) (hj : j ≤ m) (hc : z_C c n j ≠ 11) : j + 1 ≤ m := by
  obtain ⟨h1, h2, h3, h4, h5, h6⟩ := h
  rcases Nat.lt_or_ge j m with hl | hl
  · omega
  · have : j = m := by omega
    subst this
    exact absurd (z_C_11.mpr h5) hc
theorem z_C_rng (c : Nat → Nat) (n j : Nat) : z_C c n j ≤ 28 ∨ z_C c n j = 99 := z_code_rng c n _
theorem z_cI_eq {x y : Nat} (hx : x ≤ 28 ∨ x = 99) (hy : y ≤ 28) : z_cI x = nI y ↔ x = y := by
  unfold z_cI
  split
  · next h =>
    constructor
    · intro e; exact ((q_m1eq (by omega)).mp e).elim
    · intro e; omega
  · rw [nI_eq (by omega) (by omega)]
/-! numbers behind words -/
def z_lim (wd P M : Nat) : Nat := if wd = 12 then 4 else if wd = 13 ∨ wd = 14 ∨ wd = 15 ∨ wd = 21 ∨ wd = 22 then P else if wd = 16 then M else if wd = 20 ∨ wd = 24 ∨ wd = 25 then M + 1 else if wd = 23 then 7 else if wd = 28 then 8 else 2
def z_lst (wd : Nat) : Nat := if wd = 12 ∨ wd = 28 then 1 else 0
def z_nok (wd P M v : Nat) : Bool := decide (z_lst wd ≤ v ∧ v ≤ 9 ∧ v < z_lim wd P M)
theorem t_last {wd P M : Nat} (h1 : 12 ≤ wd) (h2 : wd ≤ 28) (hP : P ≤ 3) (hM : M ≤ 5) : ∃ y, f_Rd_lastNumberBehind (nI P) (nI M) (nI wd) = some y ∧ y.toInt = (z_lim wd P M : Int) - 1 := by
  have hc : wd = 12 ∨ wd = 13 ∨ wd = 14 ∨ wd = 15 ∨ wd = 16 ∨ wd = 17 ∨ wd = 18 ∨ wd = 19 ∨ wd = 20 ∨ wd = 21 ∨ wd = 22 ∨ wd = 23 ∨ wd = 24 ∨ wd = 25 ∨ wd = 26 ∨ wd = 27 ∨ wd = 28 := by omega
  have hp1 : (nI P - (1 : Int32)).toInt = (P : Int) - 1 := q_predT (by omega)
  have hm1 : (nI M - (1 : Int32)).toInt = (M : Int) - 1 := q_predT (by omega)
  have hm : (nI M).toInt = ((M + 1 : Nat) : Int) - 1 := by rw [nI_toInt (by omega)]; omega
  rcases hc with rfl | rfl | rfl | rfl | rfl | rfl | rfl | rfl | rfl | rfl | rfl | rfl | rfl | rfl | rfl | rfl | rfl
  · exact ⟨_, rfl, by show Int32.toInt 3 = ((4 : Nat) : Int) - 1; decide⟩
  · exact ⟨nI P - 1, rfl, hp1⟩
  · exact ⟨nI P - 1, rfl, hp1⟩
  · exact ⟨nI P - 1, rfl, hp1⟩
  · exact ⟨nI M - 1, rfl, hm1⟩
  · exact ⟨_, rfl, by show Int32.toInt 1 = ((2 : Nat) : Int) - 1; decide⟩
  · exact ⟨_, rfl, by show Int32.toInt 1 = ((2 : Nat) : Int) - 1; decide⟩
  · exact ⟨_, rfl, by show Int32.toInt 1 = ((2 : Nat) : Int) - 1; decide⟩
  · exact ⟨nI M, rfl, hm⟩
  · exact ⟨nI P - 1, rfl, hp1⟩
  · exact ⟨nI P - 1, rfl, hp1⟩
  · exact ⟨_, rfl, by show Int32.toInt 6 = ((7 : Nat) : Int) - 1; decide⟩
  · exact ⟨nI M, rfl, hm⟩
  · exact ⟨nI M, rfl, hm⟩
  · exact ⟨_, rfl, by show Int32.toInt 1 = ((2 : Nat) : Int) - 1; decide⟩
  · exact ⟨_, rfl, by show Int32.toInt 1 = ((2 : Nat) : Int) - 1; decide⟩
  · exact ⟨_, rfl, by show Int32.toInt 7 = ((8 : Nat) : Int) - 1; decide⟩
theorem t_takeNum {c : Nat → Nat} {n m j wd P M : Nat} {cs ps : Int32} {cf pf : Nat → Int32} (h : z_tk c n m cs ps cf pf) (hj : j ≤ m) (h1 : 12 ≤ wd) (h2 : wd ≤ 28) (hP : P ≤ 3) (hM : M ≤ 5) : f_Rd_takeNumberBehind 241 (nI j) cs (nI P) (nI M) cf (nI wd) = some (if z_nok wd P M (z_C c n j) = true then (nI (z_C c n j), nI (j + 1)) else (-nI 1, nI j)) := by
  have hat := (z_tk_at h hj).1
  obtain ⟨y, hy, hyi⟩ := t_last h1 h2 hP hM
  have hr := z_C_rng c n j
  have hm := h.1
  have J29 : ∀ s0 : Int32, s0 = nI (z_lst wd) → f_Rd_takeNumberBehind_J29 241 (nI j) cs (nI P) (nI M) cf (nI wd) (z_cI (z_C c n j)) s0 = some (if z_nok wd P M (z_C c n j) = true then (nI (z_C c n j), nI (j + 1)) else (-nI 1, nI j)) := by
    intro s0 hs
    subst hs
    have hls : z_lst wd ≤ 1 := by unfold z_lst; split <;> omega
    have no : z_nok wd P M (z_C c n j) = false → some ((-1 : Int32), nI j) = some (if z_nok wd P M (z_C c n j) = true then (nI (z_C c n j), nI (j + 1)) else (-nI 1, nI j)) := fun h => by rw [h]; rfl
    unfold f_Rd_takeNumberBehind_J29
    by_cases h99 : z_C c n j = 99
    · have hz : z_nok wd P M (z_C c n j) = false := decide_eq_false (by omega)
      refine e_T ?_ (no hz)
      rw [h99]
      exact (q_m1lt (by omega)).mpr trivial
    · have e0 : z_cI (z_C c n j) = nI (z_C c n j) := by unfold z_cI; rw [if_neg h99]
      rw [e0]
      by_cases c1 : z_C c n j < z_lst wd
      · exact e_T (nI_lt c1 (by omega)) (no (decide_eq_false (by omega)))
      · refine e_F (nI_nlt (by omega) (by omega)) ?_
        by_cases c2 : 9 < z_C c n j
        · exact e_T (by rw [q_lit, nI_ltI (by decide) (by omega)]; exact c2) (no (decide_eq_false (by omega)))
        · refine e_F (by rw [q_lit, nI_ltI (by decide) (by omega)]; exact c2) ?_
          rw [hy, q_B]
          have hle : (nI (z_C c n j) ≤ y) ↔ z_C c n j < z_lim wd P M := by
            rw [Int32.le_iff_toInt_le, nI_toInt (by omega), hyi]
            omega
          by_cases c3 : z_C c n j < z_lim wd P M
          · have hz : z_nok wd P M (z_C c n j) = true := decide_eq_true (by omega)
            refine e_T (hle.mpr c3) ?_
            refine e_L ?_
            rw [hz]
            simp only [q_lit, nI_add]
            rfl
          · exact e_F (fun z => c3 (hle.mp z)) (no (decide_eq_false (by omega)))
  unfold f_Rd_takeNumberBehind f_Rd_takeNumberBehind_J24
  rw [hat, q_B]
  by_cases w12 : wd = 12
  · refine e_T (by rw [w12]; rfl) ?_
    exact J29 1 (by unfold z_lst; rw [if_pos (Or.inl w12)]; rfl)
  · refine e_F (by rw [q_lit, nI_eq (by omega) (by decide)]; exact w12) ?_
    by_cases w28 : wd = 28
    · refine e_T (by rw [w28]; rfl) ?_
      exact J29 1 (by unfold z_lst; rw [if_pos (Or.inr w28)]; rfl)
    · refine e_F (by rw [q_lit, nI_eq (by omega) (by decide)]; exact w28) ?_
      exact J29 0 (by unfold z_lst; rw [if_neg (by omega)]; rfl)
theorem t_takes {c : Nat → Nat} {n m j wd : Nat} {cs ps : Int32} {cf pf : Nat → Int32} (h : z_tk c n m cs ps cf pf) (hj : j ≤ m) (h2 : wd ≤ 28) : f_Rd_takes 241 (nI j) cs cf (nI wd) = some (if z_C c n j = wd then (nI 1, nI (j + 1)) else (nI 0, nI j)) := by
  have hat := (z_tk_at h hj).1
  have hr := z_C_rng c n j
  unfold f_Rd_takes
  rw [hat, q_B]
  by_cases hc : z_C c n j = wd
  · rw [if_pos hc]
    refine e_T ((z_cI_eq hr h2).mpr hc) ?_
    refine e_L ?_
    simp only [q_lit, nI_add]
  · rw [if_neg hc]
    exact e_F (fun z => hc ((z_cI_eq hr h2).mp z)) rfl
