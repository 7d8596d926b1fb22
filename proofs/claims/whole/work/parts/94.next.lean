/-! the best day to try -/
theorem z_d7 : ∀ d, d < 7 → z_tpk 0 0 d 0 = d * 64 := by decide
/-- lifted on a day, nobody kissing or weeping, all gifts whole -/
def z_ld1 (P d a : Nat) : Bool := z_wso P a 0 0 d 0
def z_lf2 (P t : Nat) (T : Nat → Nat → Nat) (d a b : Nat) : Bool := z_ft P t T a b && (z_ld1 P d a && z_ld1 P d b)
theorem t_lift_in {P t : Nat} {T : Nat → Nat → Nat} {lf : Int32} {it so : Nat → Int32} (hP : P ≤ 3) (h : z_ctr P t T lf it) (hs : z_sor P t T (2 * P + 11) so) {d a : Nat} (hd : d < 7) (ha : a < 2 * P + 11) : ∀ r b k n, b + r = 2 * P + 11 → r < k → f_Tr_liftedBy_L15 lf (nI P) so (nI (z_tpk 0 0 d 0)) (nI a) k (nI n) (nI b) = some (nI (n + z_cn (z_lf2 P t T d a) r b)) := by
  intro r
  induction r with
  | zero =>
    intro b k n hb hk
    obtain ⟨k, rfl⟩ : ∃ k', k = k' + 1 := ⟨k - 1, by omega⟩
    rw [f_Tr_liftedBy_L15, t_cand hP, q_B]
    exact e_T (nI_le (by omega) (by omega)) rfl
  | succ r ih =>
    intro b k n hb hk
    obtain ⟨k, rfl⟩ : ∃ k', k = k' + 1 := ⟨k - 1, by omega⟩
    rw [f_Tr_liftedBy_L15, t_cand hP, q_B]
    refine e_F (nI_ge (by omega) (by omega)) ?_
    rw [t_isSoIn hP ha (by decide) (by decide) (by omega) (by decide), q_B]
    have inc : nI b + 1 = nI (b + 1) := by simp only [q_lit, nI_add]
    have ih' := fun m => ih (b + 1) k m (by omega) (by omega)
    show _ = some (nI (n + ((z_lf2 P t T d a b).toNat + z_cn (z_lf2 P t T d a) r (b + 1))))
    rw [← Nat.add_assoc]
    cases h1 : z_wso P a 0 0 d 0 with
    | false =>
      refine e_T rfl ?_
      have z0 : ∀ r b, z_cn (z_lf2 P t T d a) r b = 0 := by
        intro r
        induction r with
        | zero => intro b; rfl
        | succ r ihz =>
          intro b
          show (z_lf2 P t T d a b).toNat + z_cn (z_lf2 P t T d a) r (b + 1) = 0
          rw [ihz (b + 1)]
          unfold z_lf2 z_ld1
          rw [h1, Bool.false_and, Bool.and_false]
          rfl
      have e0 : z_lf2 P t T d a b = false := by unfold z_lf2 z_ld1; rw [h1, Bool.false_and, Bool.and_false]
      rw [z0, e0]
      rfl
    | true =>
      refine e_F (by decide) ?_
      rw [t_fits hP h hs ha (by omega), q_B]
      unfold f_Tr_liftedBy_J58 f_Tr_liftedBy_J59 f_SS_oneIf
      cases h2 : z_ft P t T a b with
      | false =>
        refine e_T rfl ?_
        refine e_B (q := nI 0) rfl ?_
        refine e_L ?_
        refine e_L ?_
        have e0 : z_lf2 P t T d a b = false := by unfold z_lf2; rw [h2, Bool.false_and]
        rw [inc, nI_add, e0]
        exact ih' _
      | true =>
        refine e_F (by decide) ?_
        rw [t_isSoIn hP (by omega) (by decide) (by decide) (by omega) (by decide), q_B]
        cases h3 : z_wso P b 0 0 d 0 with
        | false =>
          refine e_T rfl ?_
          refine e_B (q := nI 0) rfl ?_
          refine e_L ?_
          refine e_L ?_
          have e0 : z_lf2 P t T d a b = false := by unfold z_lf2 z_ld1; rw [h3, Bool.and_false, Bool.and_false]
          rw [inc, nI_add, e0]
          exact ih' _
        | true =>
          refine e_F (by decide) ?_
          refine e_B (q := nI 1) rfl ?_
          refine e_L ?_
          refine e_L ?_
          have e0 : z_lf2 P t T d a b = true := by unfold z_lf2 z_ld1; rw [h1, h2, h3]; rfl
          rw [inc, nI_add, e0]
          exact ih' _
theorem t_lift_L {P t : Nat} {T : Nat → Nat → Nat} {lf : Int32} {it so : Nat → Int32} (hP : P ≤ 3) (h : z_ctr P t T lf it) (hs : z_sor P t T (2 * P + 11) so) {d : Nat} (hd : d < 7) : ∀ r a k n, a + r = 2 * P + 11 → r + 20 < k → f_Tr_liftedBy_L4 lf (nI P) so (nI (z_tpk 0 0 d 0)) k (nI n) (nI a) = some (nI (n + z_hm (z_lf2 P t T d) (2 * P + 11) r a)) := by
  intro r
  induction r with
  | zero =>
    intro a k n ha hk
    obtain ⟨k, rfl⟩ : ∃ k', k = k' + 1 := ⟨k - 1, by omega⟩
    rw [f_Tr_liftedBy_L4, t_cand hP, q_B]
    exact e_T (nI_le (by omega) (by omega)) rfl
  | succ r ih =>
    intro a k n ha hk
    obtain ⟨k, rfl⟩ : ∃ k', k = k' + 1 := ⟨k - 1, by omega⟩
    rw [f_Tr_liftedBy_L4, t_cand hP, q_B]
    refine e_F (nI_ge (by omega) (by omega)) ?_
    rw [t_lift_in hP h hs hd (a := a) (by omega) (2 * P + 11 - a) a k n (by omega) (by omega), q_B]
    unfold f_Tr_liftedBy_J70
    refine e_L ?_
    rw [show nI a + 1 = nI (a + 1) by simp only [q_lit, nI_add], ih (a + 1) k _ (by omega) (by omega)]
    show some (nI (n + z_cn (z_lf2 P t T d a) (2 * P + 11 - a) a + _)) = some (nI (n + (z_cn (z_lf2 P t T d a) (2 * P + 11 - a) a + _)))
    rw [Nat.add_assoc]
theorem t_liftedBy {P t : Nat} {T : Nat → Nat → Nat} {lf : Int32} {it so : Nat → Int32} (hP : P ≤ 3) (h : z_ctr P t T lf it) (hs : z_sor P t T (2 * P + 11) so) {d k : Nat} (hd : d < 7) (hk : 100 ≤ k) : f_Tr_liftedBy k lf (nI P) so (nI (z_tpk 0 0 d 0)) = some (nI (z_hm (z_lf2 P t T d) (2 * P + 11) (2 * P + 11) 0)) := by
  unfold f_Tr_liftedBy
  have g := t_lift_L hP h hs hd (2 * P + 11) 0 k 0 (by omega) (by omega)
  rw [Nat.zero_add] at g
  exact e_B g rfl
theorem z_cn_mono {f g : Nat → Bool} (h : ∀ i, f i = true → g i = true) : ∀ r b, z_cn f r b ≤ z_cn g r b := by
  intro r
  induction r with
  | zero => intro b; exact Nat.le_refl _
  | succ r ih =>
    intro b
    have := ih (b + 1)
    unfold z_cn
    cases hf : f b
    · have := q_bl (g b)
      simp only [Bool.toNat_false]
      omega
    · rw [h b hf]
      omega
theorem z_hm_mono {f g : Nat → Nat → Bool} {N : Nat} (h : ∀ a i, f a i = true → g a i = true) : ∀ r a, z_hm f N r a ≤ z_hm g N r a := by
  intro r
  induction r with
  | zero => intro b; exact Nat.le_refl _
  | succ r ih =>
    intro a
    have := ih (a + 1)
    have := z_cn_mono (h a) (N - a) a
    unfold z_hm
    omega
theorem z_lf2_le (P t : Nat) (T : Nat → Nat → Nat) (d : Nat) : z_hm (z_lf2 P t T d) (2 * P + 11) (2 * P + 11) 0 ≤ z_hm (z_ft P t T) (2 * P + 11) (2 * P + 11) 0 := by
  refine z_hm_mono ?_ _ _
  intro a b hab
  unfold z_lf2 at hab
  rw [Bool.and_eq_true] at hab
  exact hab.1
/-- the more of both -/
def z_more (P t : Nat) (T : Nat → Nat → Nat) (d : Nat) : Nat := if z_hm (z_lf2 P t T d) (2 * P + 11) (2 * P + 11) 0 < z_hm (z_ft P t T) (2 * P + 11) (2 * P + 11) 0 - z_hm (z_lf2 P t T d) (2 * P + 11) (2 * P + 11) 0 then z_hm (z_ft P t T) (2 * P + 11) (2 * P + 11) 0 - z_hm (z_lf2 P t T d) (2 * P + 11) (2 * P + 11) 0 else z_hm (z_lf2 P t T d) (2 * P + 11) (2 * P + 11) 0
theorem z_more_le (P t : Nat) (T : Nat → Nat → Nat) (d : Nat) : z_more P t T d ≤ z_hm (z_ft P t T) (2 * P + 11) (2 * P + 11) 0 := by
  have := z_lf2_le P t T d
  unfold z_more
  split <;> omega
def z_bd (m : Nat → Nat) : Nat → Nat → Int32 → Nat → Int32
  | 0, _, best, _ => best
  | r + 1, d, best, least => if m d < least then z_bd m r (d + 1) (nI d) (m d) else z_bd m r (d + 1) best least
theorem z_bd_eq (m : Nat → Nat) (d : Nat) (best : Int32) (l1 l2 r : Nat) (h1 : m d < l1) (h2 : m d < l2) : z_bd m (r + 1) d best l1 = z_bd m (r + 1) d best l2 := by
  unfold z_bd
  rw [if_pos h1, if_pos h2]
def z_nx (P t : Nat) (T : Nat → Nat → Nat) : Int32 := if z_hm (z_ft P t T) (2 * P + 11) (2 * P + 11) 0 = 0 then -nI 1 else z_bd (z_more P t T) 7 0 (-nI 1) (z_hm (z_ft P t T) (2 * P + 11) (2 * P + 11) 0 + 1)
theorem z_hm_lt {P : Nat} (hP : P ≤ 3) (f : Nat → Nat → Bool) : z_hm f (2 * P + 11) (2 * P + 11) 0 ≤ 289 := by
  have h17 : 2 * P + 11 ≤ 17 := by omega
  exact Nat.le_trans (z_hm_le f (2 * P + 11) (2 * P + 11) 0) (Nat.mul_le_mul h17 h17)
theorem t_day_L {P t : Nat} {T : Nat → Nat → Nat} {lf : Int32} {it so : Nat → Int32} (hP : P ≤ 3) (h : z_ctr P t T lf it) (hs : z_sor P t T (2 * P + 11) so) (hall : 0 < z_hm (z_ft P t T) (2 * P + 11) (2 * P + 11) 0) : ∀ r d k (best : Int32) least, d + r = 7 → r + 110 < k → least < 1000 → f_Tr_bestDay_L14 lf (nI P) so (nI (z_hm (z_ft P t T) (2 * P + 11) (2 * P + 11) 0)) k best (nI least) (nI d) = some (z_bd (z_more P t T) r d best least) := by
  have hH := z_hm_lt hP (z_ft P t T)
  intro r
  induction r with
  | zero =>
    intro d k best least hd hk hl
    obtain ⟨k, rfl⟩ : ∃ k', k = k' + 1 := ⟨k - 1, by omega⟩
    rw [f_Tr_bestDay_L14]
    exact e_T (by simp (disch := omega) only [q_lit, q_ofn, nI_add, q_mul, q_sub, q_shrm, q_shlm, q_a31s, q_a1, q_a3, q_a7, q_a65535, q_div, q_rem2, z_mm, nI_clamp, Nat.reduceMul, Nat.reduceAdd, Nat.reduceSub, Nat.reducePow, Nat.reduceMod, Nat.reduceDiv, Nat.one_mul, nI_ltI, nI_leI, nI_eq, q_b0, q_b1, q_m1lt, q_m1le, q_ltm1, q_lem1, q_eqm1, q_m1eq, not_true_eq_false, not_false_eq_true, reduceCtorEq, *] <;> first | omega | decide) rfl
  | succ r ih =>
    intro d k best least hd hk hl
    obtain ⟨k, rfl⟩ : ∃ k', k = k' + 1 := ⟨k - 1, by omega⟩
    have hle := z_lf2_le P t T d
    have hml := z_more_le P t T d
    rw [f_Tr_bestDay_L14]
    refine e_F (by simp (disch := omega) only [q_lit, q_ofn, nI_add, q_mul, q_sub, q_shrm, q_shlm, q_a31s, q_a1, q_a3, q_a7, q_a65535, q_div, q_rem2, z_mm, nI_clamp, Nat.reduceMul, Nat.reduceAdd, Nat.reduceSub, Nat.reducePow, Nat.reduceMod, Nat.reduceDiv, Nat.one_mul, nI_ltI, nI_leI, nI_eq, q_b0, q_b1, q_m1lt, q_m1le, q_ltm1, q_lem1, q_eqm1, q_m1eq, not_true_eq_false, not_false_eq_true, reduceCtorEq, *] <;> first | omega | decide) ?_
    refine e_F (nI_nle hall (by omega)) ?_
    unfold f_Tr_packed
    refine e_B (q := nI (z_tpk 0 0 d 0)) ?_ ?_
    · have hc : d = 0 ∨ d = 1 ∨ d = 2 ∨ d = 3 ∨ d = 4 ∨ d = 5 ∨ d = 6 := by omega
      rcases hc with rfl | rfl | rfl | rfl | rfl | rfl | rfl <;> decide
    rw [t_liftedBy hP h hs (d := d) (by omega) (by omega), q_B]
    have em : (if nI (z_hm (z_lf2 P t T d) (2 * P + 11) (2 * P + 11) 0) < nI (z_hm (z_ft P t T) (2 * P + 11) (2 * P + 11) 0) - nI (z_hm (z_lf2 P t T d) (2 * P + 11) (2 * P + 11) 0) then nI (z_hm (z_ft P t T) (2 * P + 11) (2 * P + 11) 0) - nI (z_hm (z_lf2 P t T d) (2 * P + 11) (2 * P + 11) 0) else nI (z_hm (z_lf2 P t T d) (2 * P + 11) (2 * P + 11) 0)) = nI (z_more P t T d) := by
      rw [q_sub hle]
      unfold z_more
      by_cases hc : z_hm (z_lf2 P t T d) (2 * P + 11) (2 * P + 11) 0 < z_hm (z_ft P t T) (2 * P + 11) (2 * P + 11) 0 - z_hm (z_lf2 P t T d) (2 * P + 11) (2 * P + 11) 0
      · rw [if_pos hc, if_pos (nI_lt hc (by omega))]
      · rw [if_neg hc, if_neg (nI_nlt (by omega) (by omega))]
    refine e_L ?_
    rw [em]
    unfold f_Tr_bestDay_J62 z_bd
    have inc : nI d + 1 = nI (d + 1) := by simp only [q_lit, nI_add]
    by_cases hc : z_more P t T d < least
    · rw [if_pos hc]
      refine e_F (nI_ge hc (by omega)) ?_
      refine e_L ?_
      rw [inc]
      exact ih (d + 1) k _ _ (by omega) (by omega) (by omega)
    · rw [if_neg hc]
      refine e_T (nI_le (by omega) (by omega)) ?_
      refine e_L ?_
      rw [inc]
      exact ih (d + 1) k _ _ (by omega) (by omega) (by omega)
theorem t_bestDay {P t : Nat} {T : Nat → Nat → Nat} {lf : Int32} {it so : Nat → Int32} (hP : P ≤ 3) (h : z_ctr P t T lf it) (hs : z_sor P t T (2 * P + 11) so) {k : Nat} (hk : 200 ≤ k) : f_Tr_bestDay k lf (nI P) so = some (z_nx P t T) := by
  have hH := z_hm_lt hP (z_ft P t T)
  unfold f_Tr_bestDay z_nx
  rw [t_howMany hP h hs (by omega), q_B]
  refine e_L ?_
  by_cases h0 : z_hm (z_ft P t T) (2 * P + 11) (2 * P + 11) 0 = 0
  · rw [if_pos h0, h0]
    obtain ⟨k, rfl⟩ : ∃ k', k = k' + 1 := ⟨k - 1, by omega⟩
    rw [f_Tr_bestDay_L14]
    rfl
  · rw [if_neg h0]
    have g := t_day_L hP h hs (by omega) 7 0 k (-nI 1) (z_hm (z_ft P t T) (2 * P + 11) (2 * P + 11) 0 + 1) (by omega) (by omega) (by omega)
    rw [show nI (z_hm (z_ft P t T) (2 * P + 11) (2 * P + 11) 0) + 1 = nI (z_hm (z_ft P t T) (2 * P + 11) (2 * P + 11) 0 + 1) by simp only [q_lit, nI_add]]
    exact e_B g rfl
/-! the reference -/
theorem m_next_in {P t : Nat} {T : Nat → Nat → Nat} {tr : Nat → Int32} (hP : P ≤ 3) (h : z_mtr P t T tr) {x1 x2 : Int32} {d a : Nat} (hd : d < 7) (ha : a < 2 * P + 11) : ∀ r b k l n, b + r = 2 * P + 11 → r + 20 < k → f_Mo_next_L40 (nI P) (nI t) tr x1 x2 (nI (2 * P + 11)) (nI d) (nI a) k (nI l) (nI n) (nI b) = some (nI (l + z_cn (z_lf2 P t T d a) r b), nI (n + z_cn (z_ft P t T a) r b)) := by
  intro r
  induction r with
  | zero =>
    intro b k l n hb hk
    obtain ⟨k, rfl⟩ : ∃ k', k = k' + 1 := ⟨k - 1, by omega⟩
    rw [f_Mo_next_L40]
    exact e_T (nI_le (by omega) (by omega)) rfl
  | succ r ih =>
    intro b k l n hb hk
    obtain ⟨k, rfl⟩ : ∃ k', k = k' + 1 := ⟨k - 1, by omega⟩
    have inc : nI b + 1 = nI (b + 1) := by simp only [q_lit, nI_add]
    have ih' := fun m1 m2 => ih (b + 1) k m1 m2 (by omega) (by omega)
    have wa := m_wasSo (k := 0) (w := 0) (d := d) (b := 0) hP ha (by decide) (by decide) (by omega) (by decide)
    have wb := m_wasSo (c := b) (k := 0) (w := 0) (d := d) (b := 0) hP (by omega) (by decide) (by decide) (by omega) (by decide)
    rw [f_Mo_next_L40]
    refine e_F (nI_ge (by omega) (by omega)) ?_
    rw [m_fits hP h ha (by omega) (by omega), q_B]
    show _ = some (nI (l + ((z_lf2 P t T d a b).toNat + z_cn (z_lf2 P t T d a) r (b + 1))), nI (n + ((z_ft P t T a b).toNat + z_cn (z_ft P t T a) r (b + 1))))
    rw [← Nat.add_assoc, ← Nat.add_assoc]
    unfold f_Mo_next_J68 f_Mo_next_J110 f_Mo_next_J111
    cases h2 : z_ft P t T a b with
    | false =>
      have e0 : z_lf2 P t T d a b = false := by unfold z_lf2; rw [h2, Bool.false_and]
      refine e_T rfl ?_
      refine e_L ?_
      refine e_T rfl ?_
      refine e_L ?_
      refine e_L ?_
      rw [inc, e0, show nI n + 0 = nI (n + 0) from nI_add n 0, show nI l + 0 = nI (l + 0) from nI_add l 0]
      exact ih' _ _
    | true =>
      refine e_F (by decide) ?_
      refine e_L ?_
      refine e_F (by decide) ?_
      refine e_B wa ?_
      rw [show nI n + 1 = nI (n + 1) from nI_add n 1]
      cases h1 : z_wso P a 0 0 d 0 with
      | false =>
        have e0 : z_lf2 P t T d a b = false := by unfold z_lf2 z_ld1; rw [h1, Bool.false_and, Bool.and_false]
        refine e_T rfl ?_
        refine e_L ?_
        refine e_L ?_
        rw [inc, e0, show nI l + 0 = nI (l + 0) from nI_add l 0]
        exact ih' _ _
      | true =>
        refine e_F (by decide) ?_
        refine e_B wb ?_
        cases h3 : z_wso P b 0 0 d 0 with
        | false =>
          have e0 : z_lf2 P t T d a b = false := by unfold z_lf2 z_ld1; rw [h3, Bool.and_false, Bool.and_false]
          refine e_T rfl ?_
          refine e_L ?_
          refine e_L ?_
          rw [inc, e0, show nI l + 0 = nI (l + 0) from nI_add l 0]
          exact ih' _ _
        | true =>
          have e0 : z_lf2 P t T d a b = true := by unfold z_lf2 z_ld1; rw [h1, h2, h3]; rfl
          refine e_F (by decide) ?_
          refine e_L ?_
          refine e_L ?_
          rw [inc, e0, show nI l + 1 = nI (l + 1) from nI_add l 1]
          exact ih' _ _
theorem m_next_mid {P t : Nat} {T : Nat → Nat → Nat} {tr : Nat → Int32} (hP : P ≤ 3) (h : z_mtr P t T tr) {x1 x2 : Int32} {d : Nat} (hd : d < 7) : ∀ r a k l n, a + r = 2 * P + 11 → r + 50 < k → f_Mo_next_L30 (nI P) (nI t) tr x1 x2 (nI (2 * P + 11)) (nI d) k (nI l) (nI n) (nI a) = some (nI (l + z_hm (z_lf2 P t T d) (2 * P + 11) r a), nI (n + z_hm (z_ft P t T) (2 * P + 11) r a)) := by
  intro r
  induction r with
  | zero =>
    intro a k l n ha hk
    obtain ⟨k, rfl⟩ : ∃ k', k = k' + 1 := ⟨k - 1, by omega⟩
    rw [f_Mo_next_L30]
    exact e_T (nI_le (by omega) (by omega)) rfl
  | succ r ih =>
    intro a k l n ha hk
    obtain ⟨k, rfl⟩ : ∃ k', k = k' + 1 := ⟨k - 1, by omega⟩
    rw [f_Mo_next_L30]
    refine e_F (nI_ge (by omega) (by omega)) ?_
    rw [m_next_in hP h hd (a := a) (by omega) (2 * P + 11 - a) a k l n (by omega) (by omega), q_B]
    refine e_L ?_
    rw [show nI a + 1 = nI (a + 1) by simp only [q_lit, nI_add], ih (a + 1) k _ _ (by omega) (by omega)]
    show some (nI (l + z_cn (z_lf2 P t T d a) (2 * P + 11 - a) a + _), nI (n + z_cn (z_ft P t T a) (2 * P + 11 - a) a + _)) = some (nI (l + (z_cn (z_lf2 P t T d a) (2 * P + 11 - a) a + _)), nI (n + (z_cn (z_ft P t T a) (2 * P + 11 - a) a + _)))
    rw [Nat.add_assoc, Nat.add_assoc]
def z_bd0 (m : Nat → Nat) (n : Nat) : Nat → Nat → Int32 → Nat → Int32
  | 0, _, best, _ => best
  | r + 1, d, best, least => z_bd0 m n r (d + 1) (if 0 < n ∧ m d < least then nI d else best) (if m d < least then m d else least)
theorem m_next_L {P t : Nat} {T : Nat → Nat → Nat} {tr : Nat → Int32} (hP : P ≤ 3) (h : z_mtr P t T tr) : ∀ r d k (best : Int32) least, d + r = 7 → r + 110 < k → least < 1000 → f_Mo_next_L14 (nI P) (nI t) tr (nI (2 * P + 11)) k best (nI least) (nI d) = some (z_bd0 (z_more P t T) (z_hm (z_ft P t T) (2 * P + 11) (2 * P + 11) 0) r d best least) := by
  have hH := z_hm_lt hP (z_ft P t T)
  intro r
  induction r with
  | zero =>
    intro d k best least hd hk hl
    obtain ⟨k, rfl⟩ : ∃ k', k = k' + 1 := ⟨k - 1, by omega⟩
    rw [f_Mo_next_L14]
    exact e_T (by simp (disch := omega) only [q_lit, q_ofn, nI_add, q_mul, q_sub, q_shrm, q_shlm, q_a31s, q_a1, q_a3, q_a7, q_a65535, q_div, q_rem2, z_mm, nI_clamp, Nat.reduceMul, Nat.reduceAdd, Nat.reduceSub, Nat.reducePow, Nat.reduceMod, Nat.reduceDiv, Nat.one_mul, nI_ltI, nI_leI, nI_eq, q_b0, q_b1, q_m1lt, q_m1le, q_ltm1, q_lem1, q_eqm1, q_m1eq, not_true_eq_false, not_false_eq_true, reduceCtorEq, *] <;> first | omega | decide) rfl
  | succ r ih =>
    intro d k best least hd hk hl
    obtain ⟨k, rfl⟩ : ∃ k', k = k' + 1 := ⟨k - 1, by omega⟩
    have hle := z_lf2_le P t T d
    have hml := z_more_le P t T d
    have g := m_next_mid (x1 := best) (x2 := nI least) hP h (d := d) (by omega) (2 * P + 11) 0 k 0 0 (by omega) (by omega)
    rw [Nat.zero_add, Nat.zero_add] at g
    have inc : nI d + 1 = nI (d + 1) := by simp only [q_lit, nI_add]
    have J146 : f_Mo_next_J146 (f_Mo_next_L14 (nI P) (nI t) tr (nI (2 * P + 11)) k) k (nI P) (nI t) tr best (nI least) (nI (2 * P + 11)) (nI d) (nI (z_hm (z_ft P t T) (2 * P + 11) (2 * P + 11) 0)) (nI (z_more P t T d)) = some (z_bd0 (z_more P t T) (z_hm (z_ft P t T) (2 * P + 11) (2 * P + 11) 0) (r + 1) d best least) := by
      have J165 : ∀ s0 : Int32, s0 = (if 0 < z_hm (z_ft P t T) (2 * P + 11) (2 * P + 11) 0 ∧ z_more P t T d < least then nI d else best) → f_Mo_next_J165 (f_Mo_next_L14 (nI P) (nI t) tr (nI (2 * P + 11)) k) k (nI P) (nI t) tr (nI least) (nI (2 * P + 11)) (nI d) (nI (z_more P t T d)) s0 = some (z_bd0 (z_more P t T) (z_hm (z_ft P t T) (2 * P + 11) (2 * P + 11) 0) (r + 1) d best least) := by
        intro s0 hs0
        unfold f_Mo_next_J165 f_Mo_next_J178
        show _ = some (z_bd0 (z_more P t T) _ r (d + 1) (if 0 < z_hm (z_ft P t T) (2 * P + 11) (2 * P + 11) 0 ∧ z_more P t T d < least then nI d else best) (if z_more P t T d < least then z_more P t T d else least))
        rw [← hs0]
        by_cases hc : z_more P t T d < least
        · rw [if_pos hc]
          refine e_F (nI_ge hc (by omega)) ?_
          refine e_L ?_
          rw [inc]
          exact ih (d + 1) k _ _ (by omega) (by omega) (by omega)
        · rw [if_neg hc]
          refine e_T (nI_le (by omega) (by omega)) ?_
          refine e_L ?_
          rw [inc]
          exact ih (d + 1) k _ _ (by omega) (by omega) (by omega)
      unfold f_Mo_next_J146 f_Mo_next_J164
      by_cases h0 : z_hm (z_ft P t T) (2 * P + 11) (2 * P + 11) 0 = 0
      · refine e_T (by rw [h0]; decide) ?_
        exact J165 best (by rw [if_neg (by omega)])
      · refine e_F (nI_nle (by omega) (by omega)) ?_
        by_cases hc : z_more P t T d < least
        · refine e_F (nI_ge hc (by omega)) ?_
          exact J165 (nI d) (by rw [if_pos (by omega)])
        · refine e_T (nI_le (by omega) (by omega)) ?_
          exact J165 best (by rw [if_neg (by omega)])
    rw [f_Mo_next_L14]
    refine e_F (by simp (disch := omega) only [q_lit, q_ofn, nI_add, q_mul, q_sub, q_shrm, q_shlm, q_a31s, q_a1, q_a3, q_a7, q_a65535, q_div, q_rem2, z_mm, nI_clamp, Nat.reduceMul, Nat.reduceAdd, Nat.reduceSub, Nat.reducePow, Nat.reduceMod, Nat.reduceDiv, Nat.one_mul, nI_ltI, nI_leI, nI_eq, q_b0, q_b1, q_m1lt, q_m1le, q_ltm1, q_lem1, q_eqm1, q_m1eq, not_true_eq_false, not_false_eq_true, reduceCtorEq, *] <;> first | omega | decide) ?_
    refine e_B g ?_
    show (if nI (z_hm (z_lf2 P t T d) (2 * P + 11) (2 * P + 11) 0) ≤ nI (z_hm (z_ft P t T) (2 * P + 11) (2 * P + 11) 0) - nI (z_hm (z_lf2 P t T d) (2 * P + 11) (2 * P + 11) 0) then _ else _) = _
    rw [q_sub hle]
    have em : z_more P t T d = if z_hm (z_lf2 P t T d) (2 * P + 11) (2 * P + 11) 0 ≤ z_hm (z_ft P t T) (2 * P + 11) (2 * P + 11) 0 - z_hm (z_lf2 P t T d) (2 * P + 11) (2 * P + 11) 0 then z_hm (z_ft P t T) (2 * P + 11) (2 * P + 11) 0 - z_hm (z_lf2 P t T d) (2 * P + 11) (2 * P + 11) 0 else z_hm (z_lf2 P t T d) (2 * P + 11) (2 * P + 11) 0 := by
      unfold z_more
      split <;> split <;> omega
    by_cases hc : z_hm (z_lf2 P t T d) (2 * P + 11) (2 * P + 11) 0 ≤ z_hm (z_ft P t T) (2 * P + 11) (2 * P + 11) 0 - z_hm (z_lf2 P t T d) (2 * P + 11) (2 * P + 11) 0
    · rw [if_pos hc] at em
      refine e_T (nI_le hc (by omega)) ?_
      rw [← em]
      exact J146
    · rw [if_neg hc] at em
      refine e_F (nI_ge (by omega) (by omega)) ?_
      rw [← em]
      exact J146
theorem z_bd0_0 (m : Nat → Nat) : ∀ r d best least, z_bd0 m 0 r d best least = best := by
  intro r
  induction r with
  | zero => intro d best least; rfl
  | succ r ih =>
    intro d best least
    unfold z_bd0
    rw [ih, if_neg (by omega)]
theorem z_bd0_p (m : Nat → Nat) {n : Nat} (hn : 0 < n) : ∀ r d best least, z_bd0 m n r d best least = z_bd m r d best least := by
  intro r
  induction r with
  | zero => intro d best least; rfl
  | succ r ih =>
    intro d best least
    unfold z_bd0 z_bd
    rw [ih]
    by_cases hc : m d < least
    · rw [if_pos hc, if_pos hc, if_pos ⟨hn, hc⟩]
    · rw [if_neg hc, if_neg hc, if_neg (fun z => hc z.2)]
theorem m_next {P t : Nat} {T : Nat → Nat → Nat} {tr : Nat → Int32} (hP : P ≤ 3) (h : z_mtr P t T tr) {k : Nat} (hk : 200 ≤ k) : f_Mo_next k (nI P) (nI t) tr = some (z_nx P t T) := by
  have hH := z_hm_lt hP (z_ft P t T)
  have hml := z_more_le P t T 0
  unfold f_Mo_next f_Mo_termMany
  refine e_B (q := nI (2 * P + 11)) (by rw [show (2 : Int32) = nI 2 from rfl, show (11 : Int32) = nI 11 from rfl, q_mul, nI_add]) ?_
  refine e_B (m_next_L hP h 7 0 k (-nI 1) 999 (by omega) (by omega) (by omega)) ?_
  unfold z_nx
  by_cases h0 : z_hm (z_ft P t T) (2 * P + 11) (2 * P + 11) 0 = 0
  · rw [if_pos h0, h0, z_bd0_0]
  · rw [if_neg h0, z_bd0_p _ (by omega), z_bd_eq _ 0 _ 999 (z_hm (z_ft P t T) (2 * P + 11) (2 * P + 11) 0 + 1) 6 (by omega) (by omega)]
