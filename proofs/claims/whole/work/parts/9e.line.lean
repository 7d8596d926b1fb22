/-! inLine -/
theorem z_beh_day {P M x : Nat} {sp : Nat → Nat → Nat} (ok : z_ok P M sp) (hx : z_V P M x) : (z_beh M sp x 21).1 / 8192 = (x / 8192 + 1) % 7 := by
  have h1 := hx.1
  have e := z_do_night h1
  obtain ⟨i1, i2⟩ := z_fold_hi ok (D := 21) (x := z_do x 21) (by omega) M (Nat.le_refl _)
  unfold z_beh
  omega
theorem z_can_21 (P M : Nat) (sp : Nat → Nat → Nat) (x : Nat) : z_can P M sp x 21 = true := by
  unfold z_can
  rw [if_pos rfl]
def z_wn (M : Nat) (sp : Nat → Nat → Nat) (dy : Nat) : Nat → Nat → Nat → Nat → Nat × Nat × Nat
  | 0, x, l, n => (x, l, n)
  | r + 1, x, l, n => if x / 8192 = dy then (x, l, n) else z_wn M sp dy r (z_beh M sp x 21).1 (l + z_pc (z_beh M sp x 21).2) (n + 1)
def z_il (P M : Nat) (sp : Nat → Nat → Nat) (D dy : Nat → Nat) : Nat → Nat → Nat → Nat → Nat → Nat × Nat
  | 0, _, _, l, n => (l, n)
  | r + 1, i, x, l, n => if z_can P M sp (z_wn M sp (dy i) 6 x l n).1 (D i) = true then z_il P M sp D dy r (i + 1) (z_beh M sp (z_wn M sp (dy i) 6 x l n).1 (D i)).1 ((z_wn M sp (dy i) 6 x l n).2.1 + z_pc (z_beh M sp (z_wn M sp (dy i) 6 x l n).1 (D i)).2) (z_wn M sp (dy i) 6 x l n).2.2 else z_il P M sp D dy r (i + 1) (z_wn M sp (dy i) 6 x l n).1 (z_wn M sp (dy i) 6 x l n).2.1 (z_wn M sp (dy i) 6 x l n).2.2
theorem z_wn_V {P M dy : Nat} {sp : Nat → Nat → Nat} (ok : z_ok P M sp) : ∀ r x l n, z_V P M x → z_V P M (z_wn M sp dy r x l n).1 := by
  intro r
  induction r with
  | zero => intro x l n hx; exact hx
  | succ r ih =>
    intro x l n hx
    unfold z_wn
    by_cases hc : x / 8192 = dy
    · rw [if_pos hc]; exact hx
    · rw [if_neg hc]; exact ih _ _ _ (z_beh_V ok hx (by decide) (z_can_21 _ _ _ _)).1
theorem t_day {x : Nat} (h : x < 57344) : f_St_day (nI x) = some (nI (x / 8192)) ∧ f_Mo_dayOf (nI x) = some (nI (x / 8192)) := by
  have e : nI x >>> ((13 : Int32) &&& 31) = nI (x / 8192) := by simp (disch := omega) only [q_lit, q_ofn, nI_add, q_mul, q_sub, q_shrm, q_shlm, q_a31s, q_a1, q_a3, q_a7, q_a65535, q_div, q_rem2, z_mm, nI_clamp, Nat.reduceMul, Nat.reduceAdd, Nat.reduceSub, Nat.reducePow, Nat.reduceMod, Nat.reduceDiv, Nat.one_mul]
  constructor
  · unfold f_St_day; rw [i_day h, e]
  · unfold f_Mo_dayOf; rw [e]
theorem p_inLine {ns k : Nat} {ci : Nat → Int32} {cf : Nat → Nat → Int32} {cl : Nat → Nat → Int64} {cn : Nat → Nat} {mi : Nat → Int32} {mf : Nat → Nat → Int32} (hk : 200000 ≤ k) (h : z_inv ns ci cf cl cn mi mf) (p1 : Int32) : wp (f_SS_inLine k 5 (ci 7) (ci 17) (ci 19) (ci 20) (cf 2) (cf 12) (cf 13) (cf 15) (cf 18) (cf 19) (cf 20) (cf 21) (cf 22) (cf 23) p1) (fun q => wp (f_Mo_inLine k (mi 5) (mi 6) (mi 7) (mi 9) (mi 11) (mf 7) (mf 11) p1) (fun q' => q = q'.1 ∧ z_inv (ns + 1) ci cf cl cn (z_u mi 5 q'.2) mf)) := by
  have h0 := h
  obtain ⟨c, n, S, x, d, hT, ok, hdr, hml, hRU, hN, hU, hK, hR, hQ, hY, hF, hW, hl1, hl2, hb⟩ := h
  have hPe : (ci 24) = nI S.1 := hdr.2.2.1; have hSp : (ci 25) = nI S.2.1 := hdr.2.2.2.1; have hmM : (mi 6) = nI S.2.1 := hml.1; have hmP : (mi 9) = nI S.1 := hml.2.1; have hP1 := ok.1.1; have hP3 := ok.1.2.1; have hM5 := ok.1.2.2.1
  obtain ⟨n1, n2, n3, n4, n5, n6⟩ := hN
  obtain ⟨wn, r1, r2, r3, r4⟩ := hQ
  have hr2 : (ci 19) = nI S.2.1 := hRU.2.1
  have hr3 : (ci 17) = nI (z_ds S.1).length := hRU.2.2.2.2.1
  rw [hmP, hmM, n3, n5, hr2, hr3, r2, r3]
  have hl19 := (z_ds_len hP1 hP3).2
  have hl5 := (z_ds_len hP1 hP3).1
  obtain ⟨dI, D, dy, rr⟩ : ∃ (dI D dy : Nat → Nat), ∀ i, i < wn → dI i < (z_ds S.1).length ∧ z_dd S.1 (dI i) = D i ∧ D i < 22 ∧ dy i < 7 ∧ (cf 2) i = nI (dI i * 8 + dy i) ∧ (∃ p v, p < 3 ∧ v < 3 ∧ (mf 7) (3 * i) = nI p ∧ (mf 7) (3 * i + 2) = nI v ∧ 7 * p + v = D i) ∧ (mf 7) (3 * i + 1) = nI (dy i) := by
    refine ⟨fun i => ((cf 2) i).toNatClampNeg / 8, fun i => 7 * ((mf 7) (3 * i)).toNatClampNeg + ((mf 7) (3 * i + 2)).toNatClampNeg, fun i => ((cf 2) i).toNatClampNeg % 8, fun i hi => ?_⟩
    obtain ⟨a, p, dy, v, g1, g2, g3, g4, g5, g6, g7, g8, g9⟩ := r4 i hi
    have hlen : a < (z_ds S.1).length := (List.getElem?_eq_some_iff.mp g1).1
    have hdd : z_dd S.1 a = 7 * p + v := Option.some.inj ((z_dd_at hlen).symm.trans g1)
    have hb := (z_dd_mem hlen).1
    rw [hdd] at hb
    dsimp only
    rw [g6, g7, g9, nI_clamp (by omega), nI_clamp (by omega), nI_clamp (by omega), show (a * 8 + dy) / 8 = a by omega, show (a * 8 + dy) % 8 = dy by omega]
    exact ⟨hlen, hdd, hb, g5, rfl, ⟨p, v, by omega, by omega, rfl, rfl, rfl⟩, g8⟩
  have hA := hRU.2.2.1
  have hB := z_RB_of ok.1 hRU.2.2.2.2
  have hrep := hml.2.2.2.2
  have cn1 : ∀ (x1 x5 : Int32) (e : Nat), e < 7 → ∀ r i k y l m, i + r = 6 → r + 10 < k → z_V S.1 S.2.1 y → f_SS_inLine_L60 5 (nI wn) (nI (z_ds S.1).length) (nI S.2.1) (nI x) (cf 2) (cf 12) (cf 13) (cf 15) (cf 18) (cf 19) (cf 20) (cf 21) (cf 22) (cf 23) x1 x5 (nI e) k (nI y) (nI l) (nI m) (nI i) = some (nI (z_wn S.2.1 S.2.2.2.2 e r y l m).1, nI (z_wn S.2.1 S.2.2.2.2 e r y l m).2.1, nI (z_wn S.2.1 S.2.2.2.2 e r y l m).2.2) := by
    intro x1 x5 e he r
    induction r with
    | zero =>
      intro i k y l m hi hk' hy
      obtain ⟨k, rfl⟩ : ∃ k', k = k' + 1 := ⟨k - 1, by omega⟩
      rw [f_SS_inLine_L60]
      exact e_T (by simp (disch := omega) only [q_lit, q_ofn, nI_add, q_mul, q_sub, q_shrm, q_shlm, q_a31s, q_a1, q_a3, q_a7, q_a65535, q_div, q_rem2, z_mm, nI_clamp, Nat.reduceMul, Nat.reduceAdd, Nat.reduceSub, Nat.reducePow, Nat.reduceMod, Nat.reduceDiv, Nat.one_mul, nI_ltI, nI_leI, nI_eq, q_b0, q_b1, q_m1lt, q_m1le, q_ltm1, q_lem1, q_eqm1, q_m1eq, not_true_eq_false, not_false_eq_true, reduceCtorEq, *] <;> first | omega | decide) rfl
    | succ r ih =>
      intro i k y l m hi hk' hy
      obtain ⟨k, rfl⟩ : ∃ k', k = k' + 1 := ⟨k - 1, by omega⟩
      have hy1 := hy.1
      have hlast : z_dd S.1 ((z_ds S.1).length - 1) = 21 := Option.some.inj ((z_dd_at (by omega)).symm.trans (z_ds_last hP1 hP3))
      have ea := s_after ok.1 hA hB (k := k) (by omega) hy (show (z_ds S.1).length - 1 < (z_ds S.1).length by omega)
      rw [hlast, if_pos (z_can_21 _ _ _ _)] at ea
      have hV := z_beh_V ok.1 hy (show 21 < 22 by decide) (z_can_21 _ _ _ _)
      have hV1 := hV.1.1
      rw [f_SS_inLine_L60]
      refine e_F (by simp (disch := omega) only [q_lit, q_ofn, nI_add, q_mul, q_sub, q_shrm, q_shlm, q_a31s, q_a1, q_a3, q_a7, q_a65535, q_div, q_rem2, z_mm, nI_clamp, Nat.reduceMul, Nat.reduceAdd, Nat.reduceSub, Nat.reducePow, Nat.reduceMod, Nat.reduceDiv, Nat.one_mul, nI_ltI, nI_leI, nI_eq, q_b0, q_b1, q_m1lt, q_m1le, q_ltm1, q_lem1, q_eqm1, q_m1eq, not_true_eq_false, not_false_eq_true, reduceCtorEq, *] <;> first | omega | decide) (e_B (t_day hy1).1 ?_)
      unfold z_wn
      by_cases hc : y / 8192 = e
      · rw [if_pos hc]
        exact e_T (by rw [hc]) rfl
      · rw [if_neg hc]
        refine e_F (by simp (disch := omega) only [q_lit, q_ofn, nI_add, q_mul, q_sub, q_shrm, q_shlm, q_a31s, q_a1, q_a3, q_a7, q_a65535, q_div, q_rem2, z_mm, nI_clamp, Nat.reduceMul, Nat.reduceAdd, Nat.reduceSub, Nat.reducePow, Nat.reduceMod, Nat.reduceDiv, Nat.one_mul, nI_ltI, nI_leI, nI_eq, q_b0, q_b1, q_m1lt, q_m1le, q_ltm1, q_lem1, q_eqm1, q_m1eq, not_true_eq_false, not_false_eq_true, reduceCtorEq, *] <;> first | omega | decide) ?_
        unfold f_Ru_nightDeed
        refine e_B (q := nI ((z_ds S.1).length - 1)) (by rw [show (1 : Int32) = nI 1 from rfl, q_sub (by omega)]) ?_
        refine e_B ea (e_B (s_of (by omega)) (e_B (s_lifted (by omega) hV.2) (e_B (t_bitAll _ hV.2) (e_L (e_L (e_L ?_))))))
        rw [show (1 : Int32) = nI 1 from rfl, nI_add, nI_add, nI_add]
        exact ih (i + 1) k _ _ _ (by omega) (by omega) hV.1
  have mn1 : ∀ (x1 : Int32) (q e : Nat), q < wn → e < 7 → (mf 7) (3 * q + 1) = nI e → ∀ r k y l m (lf : Int32), (e + 7 - y / 8192) % 7 ≤ r → r + 20 < k → z_V S.1 S.2.1 y → wp (f_Mo_inLine_L35 (nI S.2.1) (nI x) (nI S.1) (nI wn) (mf 7) (mf 11) x1 (nI q) k (nI y) (nI m) (nI l) lf) (fun o => o.1 = nI (z_wn S.2.1 S.2.2.2.2 e r y l m).1 ∧ o.2.1 = nI (z_wn S.2.1 S.2.2.2.2 e r y l m).2.2 ∧ o.2.2.1 = nI (z_wn S.2.1 S.2.2.2.2 e r y l m).2.1) := by
    intro x1 q e hq he hg r
    induction r with
    | zero =>
      intro k y l m lf hd hk' hy
      obtain ⟨k, rfl⟩ : ∃ k', k = k' + 1 := ⟨k - 1, by omega⟩
      have hy1 := hy.1
      rw [f_Mo_inLine_L35]
      refine w_Be (t_day hy1).2 (w_L ?_)
      refine w_I (i := 3 * q + 1) (by first | (with_reducible rfl) | (simp (disch := omega) only [q_lit, q_ofn, nI_add, q_mul, q_sub, q_shrm, q_shlm, q_a31s, q_a1, q_a3, q_a7, q_a65535, q_div, q_rem2, z_mm, nI_clamp, Nat.reduceMul, Nat.reduceAdd, Nat.reduceSub, Nat.reducePow, Nat.reduceMod, Nat.reduceDiv, Nat.one_mul]; done) | (simp (disch := omega) only [q_lit, q_ofn, nI_add, q_mul, q_sub, q_shrm, q_shlm, q_a31s, q_a1, q_a3, q_a7, q_a65535, q_div, q_rem2, z_mm, nI_clamp, Nat.reduceMul, Nat.reduceAdd, Nat.reduceSub, Nat.reducePow, Nat.reduceMod, Nat.reduceDiv, Nat.one_mul]; with_reducible rfl)) (by omega) (by decide) ?_
      rw [hg]
      refine w_T ?_ (w_some ⟨rfl, rfl, rfl⟩)
      have : y / 8192 = e := by omega
      rw [this]
    | succ r ih =>
      intro k y l m lf hd hk' hy
      obtain ⟨k, rfl⟩ : ∃ k', k = k' + 1 := ⟨k - 1, by omega⟩
      have hy1 := hy.1
      have hV := z_beh_V ok.1 hy (show 21 < 22 by decide) (z_can_21 _ _ _ _)
      have hday := z_beh_day ok.1 hy
      rw [f_Mo_inLine_L35]
      refine w_Be (t_day hy1).2 (w_L ?_)
      refine w_I (i := 3 * q + 1) (by first | (with_reducible rfl) | (simp (disch := omega) only [q_lit, q_ofn, nI_add, q_mul, q_sub, q_shrm, q_shlm, q_a31s, q_a1, q_a3, q_a7, q_a65535, q_div, q_rem2, z_mm, nI_clamp, Nat.reduceMul, Nat.reduceAdd, Nat.reduceSub, Nat.reducePow, Nat.reduceMod, Nat.reduceDiv, Nat.one_mul]; done) | (simp (disch := omega) only [q_lit, q_ofn, nI_add, q_mul, q_sub, q_shrm, q_shlm, q_a31s, q_a1, q_a3, q_a7, q_a65535, q_div, q_rem2, z_mm, nI_clamp, Nat.reduceMul, Nat.reduceAdd, Nat.reduceSub, Nat.reducePow, Nat.reduceMod, Nat.reduceDiv, Nat.one_mul]; with_reducible rfl)) (by omega) (by decide) ?_
      rw [hg]
      unfold z_wn
      by_cases hc : y / 8192 = e
      · rw [if_pos hc]
        exact w_T (by rw [hc]) (w_some ⟨rfl, rfl, rfl⟩)
      · rw [if_neg hc]
        refine w_F (by simp (disch := omega) only [q_lit, q_ofn, nI_add, q_mul, q_sub, q_shrm, q_shlm, q_a31s, q_a1, q_a3, q_a7, q_a65535, q_div, q_rem2, z_mm, nI_clamp, Nat.reduceMul, Nat.reduceAdd, Nat.reduceSub, Nat.reducePow, Nat.reduceMod, Nat.reduceDiv, Nat.one_mul, nI_ltI, nI_leI, nI_eq, q_b0, q_b1, q_m1lt, q_m1le, q_ltm1, q_lem1, q_eqm1, q_m1eq, not_true_eq_false, not_false_eq_true, reduceCtorEq, *] <;> first | omega | decide) ?_
        refine w_Be (m_behind ok.1 hrep (k := k) (D := 21) (by omega) hy1 (by decide) (fun h => absurd h (by decide)) lf) ?_
        refine w_Be (m_bits hV.2 (by omega)) (w_L (w_L ?_))
        rw [show (1 : Int32) = nI 1 from rfl, nI_add, nI_add]
        exact ih k _ _ _ _ (by omega) (by omega) hV.1
  have co1 : ∀ (x1 : Int32) r i k y l m, i + r = wn → r + 40 < k → z_V S.1 S.2.1 y → f_SS_inLine_L25 5 (nI wn) (nI (z_ds S.1).length) (nI S.2.1) (nI x) (cf 2) (cf 12) (cf 13) (cf 15) (cf 18) (cf 19) (cf 20) (cf 21) (cf 22) (cf 23) x1 k (nI y) (nI l) (nI m) (nI i) = some (nI (z_il S.1 S.2.1 S.2.2.2.2 D dy r i y l m).1, nI (z_il S.1 S.2.1 S.2.2.2.2 D dy r i y l m).2) := by
    intro x1 r
    induction r with
    | zero =>
      intro i k y l m hi hk' hy
      obtain ⟨k, rfl⟩ : ∃ k', k = k' + 1 := ⟨k - 1, by omega⟩
      rw [f_SS_inLine_L25]
      unfold f_Rw_size
      by_cases h5 : 5 ≤ i
      · exact e_T (by simp (disch := omega) only [q_lit, q_ofn, nI_add, q_mul, q_sub, q_shrm, q_shlm, q_a31s, q_a1, q_a3, q_a7, q_a65535, q_div, q_rem2, z_mm, nI_clamp, Nat.reduceMul, Nat.reduceAdd, Nat.reduceSub, Nat.reducePow, Nat.reduceMod, Nat.reduceDiv, Nat.one_mul, nI_ltI, nI_leI, nI_eq, q_b0, q_b1, q_m1lt, q_m1le, q_ltm1, q_lem1, q_eqm1, q_m1eq, not_true_eq_false, not_false_eq_true, reduceCtorEq, *] <;> first | omega | decide) rfl
      · exact e_F (by simp (disch := omega) only [q_lit, q_ofn, nI_add, q_mul, q_sub, q_shrm, q_shlm, q_a31s, q_a1, q_a3, q_a7, q_a65535, q_div, q_rem2, z_mm, nI_clamp, Nat.reduceMul, Nat.reduceAdd, Nat.reduceSub, Nat.reducePow, Nat.reduceMod, Nat.reduceDiv, Nat.one_mul, nI_ltI, nI_leI, nI_eq, q_b0, q_b1, q_m1lt, q_m1le, q_ltm1, q_lem1, q_eqm1, q_m1eq, not_true_eq_false, not_false_eq_true, reduceCtorEq, *] <;> first | omega | decide) (e_B rfl (e_T (by simp (disch := omega) only [q_lit, q_ofn, nI_add, q_mul, q_sub, q_shrm, q_shlm, q_a31s, q_a1, q_a3, q_a7, q_a65535, q_div, q_rem2, z_mm, nI_clamp, Nat.reduceMul, Nat.reduceAdd, Nat.reduceSub, Nat.reducePow, Nat.reduceMod, Nat.reduceDiv, Nat.one_mul, nI_ltI, nI_leI, nI_eq, q_b0, q_b1, q_m1lt, q_m1le, q_ltm1, q_lem1, q_eqm1, q_m1eq, not_true_eq_false, not_false_eq_true, reduceCtorEq, *] <;> first | omega | decide) rfl))
    | succ r ih =>
      intro i k y l m hi hk' hy
      obtain ⟨k, rfl⟩ : ∃ k', k = k' + 1 := ⟨k - 1, by omega⟩
      obtain ⟨g1, g2, g3, g4, g5, g6, g7⟩ := rr i (by omega)
      have hyV := z_wn_V (dy := dy i) ok.1 6 y l m hy
      rw [f_SS_inLine_L25]
      unfold f_Rw_size f_SS_inLine_J119 f_SS_inLine_J163
      refine e_F (by simp (disch := omega) only [q_lit, q_ofn, nI_add, q_mul, q_sub, q_shrm, q_shlm, q_a31s, q_a1, q_a3, q_a7, q_a65535, q_div, q_rem2, z_mm, nI_clamp, Nat.reduceMul, Nat.reduceAdd, Nat.reduceSub, Nat.reducePow, Nat.reduceMod, Nat.reduceDiv, Nat.one_mul, nI_ltI, nI_leI, nI_eq, q_b0, q_b1, q_m1lt, q_m1le, q_ltm1, q_lem1, q_eqm1, q_m1eq, not_true_eq_false, not_false_eq_true, reduceCtorEq, *] <;> first | omega | decide) (e_B rfl (e_F (by simp (disch := omega) only [q_lit, q_ofn, nI_add, q_mul, q_sub, q_shrm, q_shlm, q_a31s, q_a1, q_a3, q_a7, q_a65535, q_div, q_rem2, z_mm, nI_clamp, Nat.reduceMul, Nat.reduceAdd, Nat.reduceSub, Nat.reducePow, Nat.reduceMod, Nat.reduceDiv, Nat.one_mul, nI_ltI, nI_leI, nI_eq, q_b0, q_b1, q_m1lt, q_m1le, q_ltm1, q_lem1, q_eqm1, q_m1eq, not_true_eq_false, not_false_eq_true, reduceCtorEq, *] <;> first | omega | decide) (e_B (t_at (by omega) (by omega) (by decide)) (e_L ?_))))
      rw [g5, show nI (dI i * 8 + dy i) &&& (7 : Int32) = nI (dy i) by rw [show (7 : Int32) = nI 7 from rfl, q_a7]; congr 1; omega]
      refine e_B (cn1 x1 (nI i) (dy i) g4 6 0 k y l m rfl (by omega) hy) ?_
      unfold z_il
      generalize z_wn S.2.1 S.2.2.2.2 (dy i) 6 y l m = W at hyV
      obtain ⟨w1, w2, w3⟩ := W
      have hyV : z_V S.1 S.2.1 w1 := hyV
      have ea := s_after ok.1 hA hB (k := k) (by omega) hyV g1
      rw [g2] at ea
      refine e_B (t_at (by omega) (by omega) (by decide)) ?_
      rw [g5, show nI (dI i * 8 + dy i) >>> ((3 : Int32) &&& 31) = nI (dI i) by simp (disch := omega) only [q_lit, q_ofn, nI_add, q_mul, q_sub, q_shrm, q_shlm, q_a31s, q_a1, q_a3, q_a7, q_a65535, q_div, q_rem2, z_mm, nI_clamp, Nat.reduceMul, Nat.reduceAdd, Nat.reduceSub, Nat.reducePow, Nat.reduceMod, Nat.reduceDiv, Nat.one_mul]; congr 1; omega]
      refine e_B ea ?_
      dsimp only
      by_cases hc : z_can S.1 S.2.1 S.2.2.2.2 w1 (D i) = true
      · rw [if_pos hc, if_pos hc]
        have hV := z_beh_V ok.1 hyV g3 hc
        have := hV.2
        have := hV.1.1
        refine e_F ((q_eqm1 (by omega)).mp) ?_
        refine e_B (s_of (by omega)) (e_B (s_lifted (by omega) hV.2) (e_B (t_bitAll _ hV.2) (e_L (e_L ?_))))
        rw [show (1 : Int32) = nI 1 from rfl, nI_add, nI_add]
        exact ih (i + 1) k _ _ _ (by omega) (by omega) hV.1
      · rw [if_neg hc, if_neg hc]
        refine e_T rfl (e_L ?_)
        rw [show (1 : Int32) = nI 1 from rfl, nI_add]
        exact ih (i + 1) k _ _ _ (by omega) (by omega) hyV
  have mo1 : ∀ (x1 : Int32) r i k y l m (lf : Int32), i + r = wn → r + 60 < k → z_V S.1 S.2.1 y → wp (f_Mo_inLine_L26 (nI S.2.1) (nI x) (nI S.1) (nI wn) (mf 7) (mf 11) x1 k (nI y) (nI m) (nI l) (nI i) lf) (fun o => o.1 = nI (z_il S.1 S.2.1 S.2.2.2.2 D dy r i y l m).2 ∧ o.2.1 = nI (z_il S.1 S.2.1 S.2.2.2.2 D dy r i y l m).1) := by
    intro x1 r
    induction r with
    | zero =>
      intro i k y l m lf hi hk' hy
      obtain ⟨k, rfl⟩ : ∃ k', k = k' + 1 := ⟨k - 1, by omega⟩
      rw [f_Mo_inLine_L26]
      exact w_T (by simp (disch := omega) only [q_lit, q_ofn, nI_add, q_mul, q_sub, q_shrm, q_shlm, q_a31s, q_a1, q_a3, q_a7, q_a65535, q_div, q_rem2, z_mm, nI_clamp, Nat.reduceMul, Nat.reduceAdd, Nat.reduceSub, Nat.reducePow, Nat.reduceMod, Nat.reduceDiv, Nat.one_mul, nI_ltI, nI_leI, nI_eq, q_b0, q_b1, q_m1lt, q_m1le, q_ltm1, q_lem1, q_eqm1, q_m1eq, not_true_eq_false, not_false_eq_true, reduceCtorEq, *] <;> first | omega | decide) (w_some ⟨rfl, rfl⟩)
    | succ r ih =>
      intro i k y l m lf hi hk' hy
      obtain ⟨k, rfl⟩ : ∃ k', k = k' + 1 := ⟨k - 1, by omega⟩
      obtain ⟨g1, g2, g3, g4, g5, ⟨p, v, hp, hv, g6, g6', g6''⟩, g7⟩ := rr i (by omega)
      have hyV := z_wn_V (dy := dy i) ok.1 6 y l m hy
      have hy1 := hy.1
      rw [f_Mo_inLine_L26]
      unfold f_Mo_inLine_J135
      refine w_F (by simp (disch := omega) only [q_lit, q_ofn, nI_add, q_mul, q_sub, q_shrm, q_shlm, q_a31s, q_a1, q_a3, q_a7, q_a65535, q_div, q_rem2, z_mm, nI_clamp, Nat.reduceMul, Nat.reduceAdd, Nat.reduceSub, Nat.reducePow, Nat.reduceMod, Nat.reduceDiv, Nat.one_mul, nI_ltI, nI_leI, nI_eq, q_b0, q_b1, q_m1lt, q_m1le, q_ltm1, q_lem1, q_eqm1, q_m1eq, not_true_eq_false, not_false_eq_true, reduceCtorEq, *] <;> first | omega | decide) ?_
      refine w_Bw (mn1 x1 i (dy i) (by omega) g4 g7 6 k y l m lf (by omega) (by omega) hy) ?_
      unfold z_il
      generalize z_wn S.2.1 S.2.2.2.2 (dy i) 6 y l m = W at hyV
      obtain ⟨w1, w2, w3⟩ := W
      have hyV : z_V S.1 S.2.1 w1 := hyV
      rintro ⟨q1, q2, q3, q4⟩ ⟨f1, f2, f3⟩
      have f1 : q1 = nI w1 := f1
      have f2 : q2 = nI w3 := f2
      have f3 : q3 = nI w2 := f3
      subst f1 f2 f3
      refine w_L ?_
      refine w_I (i := 3 * i) (by first | (with_reducible rfl) | (simp (disch := omega) only [q_lit, q_ofn, nI_add, q_mul, q_sub, q_shrm, q_shlm, q_a31s, q_a1, q_a3, q_a7, q_a65535, q_div, q_rem2, z_mm, nI_clamp, Nat.reduceMul, Nat.reduceAdd, Nat.reduceSub, Nat.reducePow, Nat.reduceMod, Nat.reduceDiv, Nat.one_mul]; done) | (simp (disch := omega) only [q_lit, q_ofn, nI_add, q_mul, q_sub, q_shrm, q_shlm, q_a31s, q_a1, q_a3, q_a7, q_a65535, q_div, q_rem2, z_mm, nI_clamp, Nat.reduceMul, Nat.reduceAdd, Nat.reduceSub, Nat.reducePow, Nat.reduceMod, Nat.reduceDiv, Nat.one_mul]; with_reducible rfl)) (by omega) (by decide) (w_L ?_)
      refine w_I (i := 3 * i + 2) (by first | (with_reducible rfl) | (simp (disch := omega) only [q_lit, q_ofn, nI_add, q_mul, q_sub, q_shrm, q_shlm, q_a31s, q_a1, q_a3, q_a7, q_a65535, q_div, q_rem2, z_mm, nI_clamp, Nat.reduceMul, Nat.reduceAdd, Nat.reduceSub, Nat.reducePow, Nat.reduceMod, Nat.reduceDiv, Nat.one_mul]; done) | (simp (disch := omega) only [q_lit, q_ofn, nI_add, q_mul, q_sub, q_shrm, q_shlm, q_a31s, q_a1, q_a3, q_a7, q_a65535, q_div, q_rem2, z_mm, nI_clamp, Nat.reduceMul, Nat.reduceAdd, Nat.reduceSub, Nat.reducePow, Nat.reduceMod, Nat.reduceDiv, Nat.one_mul]; with_reducible rfl)) (by omega) (by decide) ?_
      rw [g6, g6']
      refine w_Ln (w := nI (D i)) (by rw [← g6'', show (7 : Int32) = nI 7 from rfl, q_mul, nI_add]) ?_
      have hyV1 := hyV.1
      have em := m_can ok.1 hrep (k := k) (x := w1) (D := D i) (by omega) (by omega) g3
      refine w_Be em ?_
      dsimp only
      by_cases hc : z_can S.1 S.2.1 S.2.2.2.2 w1 (D i) = true
      · rw [if_pos hc, hc]
        have hV := z_beh_V ok.1 hyV g3 hc
        refine w_F (by decide) ?_
        refine w_Be (m_behind ok.1 hrep (k := k) (by omega) hyV1 g3 (z_can_ask g3 hc) q4) ?_
        refine w_Be (m_bits hV.2 (by omega)) (w_L (w_L ?_))
        rw [show (1 : Int32) = nI 1 from rfl, nI_add, nI_add]
        exact ih (i + 1) k _ _ _ _ (by omega) (by omega) hV.1
      · rw [if_neg hc, Bool.eq_false_iff.mpr hc]
        refine w_T rfl (w_L ?_)
        rw [show (1 : Int32) = nI 1 from rfl, nI_add]
        exact ih (i + 1) k _ _ _ _ (by omega) (by omega) hyV
  have inv' : ∀ v : Int32, z_inv (ns + 1) ci cf cl cn (z_u mi 5 v) mf := fun v => ⟨c, n, S, x, d, hT, ok, hdr, hml, hRU, ⟨n1, n2, n3, n4, n5, n6⟩, hU, hK, hR, ⟨wn, r1, r2, r3, r4⟩, hY, hF, hW, hl1, hl2, i_bud_s hb⟩
  rcases z_smal (p := p1) 2 (by decide) with hneg | ⟨v, hv, rfl⟩ | ⟨v, hv, hv', rfl⟩
  · refine w_2 (r1 := -3) (r2 := (-3, (mi 5))) ?_ ?_ ⟨rfl, inv' _⟩
    · unfold f_SS_inLine
      exact e_T hneg rfl
    · unfold f_Mo_inLine
      exact e_B (m_inneg hneg (a := 0) (by decide) (lN 1)) (e_T rfl rfl)
  · have hin := m_in0N (v := v) (b := 1) (by omega) (by decide)
    rw [decide_eq_true (by omega)] at hin
    have hc1 := co1 (nI v) wn 0 k x 0 0 (by omega) (by omega) n1
    have hm1 := mo1 (nI v) wn 0 k x 0 0 (mi 5) (by omega) (by omega) n1
    generalize z_il S.1 S.2.1 S.2.2.2.2 D dy wn 0 x 0 0 = W at hc1 hm1
    refine w_2w (R1 := fun q => q = if v = 0 then nI W.1 else nI W.2) (R2 := fun q => q.1 = if v = 0 then nI W.1 else nI W.2) ?_ ?_ (fun q q' e1 e2 => ⟨by rw [e1, e2], inv' _⟩)
    · unfold f_SS_inLine f_SS_inLine_J169
      refine w_F (nI_pos (by omega)) (w_T (by simp (disch := omega) only [q_lit, q_ofn, nI_add, q_mul, q_sub, q_shrm, q_shlm, q_a31s, q_a1, q_a3, q_a7, q_a65535, q_div, q_rem2, z_mm, nI_clamp, Nat.reduceMul, Nat.reduceAdd, Nat.reduceSub, Nat.reducePow, Nat.reduceMod, Nat.reduceDiv, Nat.one_mul, nI_ltI, nI_leI, nI_eq, q_b0, q_b1, q_m1lt, q_m1le, q_ltm1, q_lem1, q_eqm1, q_m1eq, not_true_eq_false, not_false_eq_true, reduceCtorEq, *] <;> first | omega | decide) (w_Be hc1 ?_))
      by_cases hv0 : v = 0
      · subst hv0
        exact w_T rfl (w_some rfl)
      · refine w_F (nI_ne0 (by omega) (by omega)) (w_some ?_)
        rw [if_neg hv0]
    · unfold f_Mo_inLine
      refine w_Be hin (w_F (by decide) (w_Bw hm1 ?_))
      rintro ⟨q1, q2, q3⟩ ⟨g1, g2⟩
      by_cases hv0 : v = 0
      · subst hv0
        exact w_T rfl (w_some g2)
      · refine w_F (nI_ne0 (by omega) (by omega)) (w_some ?_)
        rw [if_neg hv0]
        exact g1
  · have hin := m_in0N (v := v) (b := 1) (by omega) (by decide)
    rw [decide_eq_false (by omega)] at hin
    refine w_2 (r1 := -3) (r2 := (-3, (mi 5))) ?_ ?_ ⟨rfl, inv' _⟩
    · unfold f_SS_inLine
      exact e_F (nI_pos (by omega)) (e_F (by simp (disch := omega) only [q_lit, q_ofn, nI_add, q_mul, q_sub, q_shrm, q_shlm, q_a31s, q_a1, q_a3, q_a7, q_a65535, q_div, q_rem2, z_mm, nI_clamp, Nat.reduceMul, Nat.reduceAdd, Nat.reduceSub, Nat.reducePow, Nat.reduceMod, Nat.reduceDiv, Nat.one_mul, nI_ltI, nI_leI, nI_eq, q_b0, q_b1, q_m1lt, q_m1le, q_ltm1, q_lem1, q_eqm1, q_m1eq, not_true_eq_false, not_false_eq_true, reduceCtorEq, *] <;> first | omega | decide) rfl)
    · unfold f_Mo_inLine
      exact e_B hin (e_T rfl rfl)
