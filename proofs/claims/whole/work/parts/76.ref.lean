/-! the reference's search -/
def z_qm (P M : Nat) (L : List zE) (qd : Int32) (fa qu : Nat → Int32) : Prop := z_LI P M L ∧ qd = nI L.length ∧ (∀ (i : Nat) (e : zE), L[i]? = some e → qu i = nI e.1) ∧ (∀ x, x < 57344 → (fa x = -nI 1 ↔ ¬ x ∈ z_ss L))
def z_qr (P M : Nat) (L : List zE) (qd : Int32) (fa qu : Nat → Int32) : Prop := z_qm P M L qd fa qu ∧ ∀ (i : Nat) (e : zE), L[i]? = some e → fa e.1 = nI e.2.2.2
theorem z_ss_of {L : List zE} {i : Nat} {e : zE} (h : L[i]? = some e) : e.1 ∈ z_ss L := List.mem_map.mpr ⟨e, List.mem_of_getElem? h, rfl⟩
theorem m_put {P M y d n t t' : Nat} {L : List zE} {qd : Int32} {fa qu : Nat → Int32} (hP : P ≤ 3) (hM : M ≤ 5) (h : z_qm P M L qd fa qu) (hy : z_V P M y) (hd : d < 19) (hn : n < 57344) (ht : t' ≤ L.length) (htt : t < 2 ^ 31) : wp (f_Mo_put qd fa qu (nI y) (nI t)) (fun q => z_qm P M (z_put L (y, d, n, t')) q.1 q.2.1 q.2.2 ∧ ((y ∈ z_ss L ∧ q.2.1 = fa) ∨ (¬ y ∈ z_ss L ∧ q.2.1 = upd fa y (nI t)))) := by
  obtain ⟨h1, rfl, h3, h4⟩ := h
  have hy1 := hy.1
  have hl := Nat.le_trans (z_LI_len hP hM h1) (z_cap_le hP hM)
  unfold f_Mo_put
  refine w_I (i := y) (by first | (with_reducible rfl) | (simp (disch := omega) only [q_lit, q_ofn, nI_add, q_mul, q_sub, q_shrm, q_shlm, q_a31s, q_a1, q_a3, q_a7, q_a65535, q_div, q_rem2, z_mm, nI_clamp, Nat.reduceMul, Nat.reduceAdd, Nat.reduceSub, Nat.reducePow, Nat.reduceMod, Nat.reduceDiv, Nat.one_mul]; done) | (simp (disch := omega) only [q_lit, q_ofn, nI_add, q_mul, q_sub, q_shrm, q_shlm, q_a31s, q_a1, q_a3, q_a7, q_a65535, q_div, q_rem2, z_mm, nI_clamp, Nat.reduceMul, Nat.reduceAdd, Nat.reduceSub, Nat.reducePow, Nat.reduceMod, Nat.reduceDiv, Nat.one_mul]; with_reducible rfl)) (by omega) (by first | decide | omega) ?_
  by_cases hm : y ∈ z_ss L
  · refine w_F (fun e => (h4 y hy1).mp e hm) (w_some ?_)
    have : z_put L (y, d, n, t') = L := by unfold z_put; rw [if_pos hm]
    rw [this]
    exact ⟨⟨h1, rfl, h3, h4⟩, Or.inl ⟨hm, rfl⟩⟩
  · have hput : z_put L (y, d, n, t') = L ++ [(y, d, n, t')] := by unfold z_put; rw [if_neg hm]
    have hLI := z_LI_put (e := (y, d, n, t')) h1 hy hd hn ht
    have hl2 := Nat.le_trans (z_LI_len hP hM hLI) (z_cap_le hP hM)
    rw [hput, List.length_append, List.length_singleton] at hl2
    refine w_T ((h4 y hy1).mpr hm) ?_
    refine w_C (i := y) (by first | (with_reducible rfl) | (simp (disch := omega) only [q_lit, q_ofn, nI_add, q_mul, q_sub, q_shrm, q_shlm, q_a31s, q_a1, q_a3, q_a7, q_a65535, q_div, q_rem2, z_mm, nI_clamp, Nat.reduceMul, Nat.reduceAdd, Nat.reduceSub, Nat.reducePow, Nat.reduceMod, Nat.reduceDiv, Nat.one_mul]; done) | (simp (disch := omega) only [q_lit, q_ofn, nI_add, q_mul, q_sub, q_shrm, q_shlm, q_a31s, q_a1, q_a3, q_a7, q_a65535, q_div, q_rem2, z_mm, nI_clamp, Nat.reduceMul, Nat.reduceAdd, Nat.reduceSub, Nat.reducePow, Nat.reduceMod, Nat.reduceDiv, Nat.one_mul]; with_reducible rfl)) (by omega) (by first | decide | omega) ?_
    refine w_C (i := L.length) (by first | (with_reducible rfl) | (simp (disch := omega) only [q_lit, q_ofn, nI_add, q_mul, q_sub, q_shrm, q_shlm, q_a31s, q_a1, q_a3, q_a7, q_a65535, q_div, q_rem2, z_mm, nI_clamp, Nat.reduceMul, Nat.reduceAdd, Nat.reduceSub, Nat.reducePow, Nat.reduceMod, Nat.reduceDiv, Nat.one_mul]; done) | (simp (disch := omega) only [q_lit, q_ofn, nI_add, q_mul, q_sub, q_shrm, q_shlm, q_a31s, q_a1, q_a3, q_a7, q_a65535, q_div, q_rem2, z_mm, nI_clamp, Nat.reduceMul, Nat.reduceAdd, Nat.reduceSub, Nat.reducePow, Nat.reduceMod, Nat.reduceDiv, Nat.one_mul]; with_reducible rfl)) (by omega) (by first | decide | omega) ?_
    refine w_Ln (w := nI (L.length + 1)) (by first | (with_reducible rfl) | (simp (disch := omega) only [q_lit, q_ofn, nI_add, q_mul, q_sub, q_shrm, q_shlm, q_a31s, q_a1, q_a3, q_a7, q_a65535, q_div, q_rem2, z_mm, nI_clamp, Nat.reduceMul, Nat.reduceAdd, Nat.reduceSub, Nat.reducePow, Nat.reduceMod, Nat.reduceDiv, Nat.one_mul]; done) | (simp (disch := omega) only [q_lit, q_ofn, nI_add, q_mul, q_sub, q_shrm, q_shlm, q_a31s, q_a1, q_a3, q_a7, q_a65535, q_div, q_rem2, z_mm, nI_clamp, Nat.reduceMul, Nat.reduceAdd, Nat.reduceSub, Nat.reducePow, Nat.reduceMod, Nat.reduceDiv, Nat.one_mul]; with_reducible rfl)) ?_
    rw [nI_clamp (by omega), nI_clamp (by omega)]
    refine w_some ⟨⟨hLI, ?_, ?_, ?_⟩, Or.inr ⟨hm, rfl⟩⟩
    · rw [hput, List.length_append, List.length_singleton]
    · intro i e he
      rw [hput] at he
      rcases z_app_at he with ⟨hi, he⟩ | ⟨hi, rfl⟩
      · show upd qu L.length _ i = _
        rw [z_upd_n (by omega)]
        exact h3 i e he
      · subst hi
        exact z_upd_s
    · intro x hx
      rw [hput, z_ss_app]
      by_cases hxy : x = y
      · subst hxy
        show upd fa x _ x = _ ↔ _
        rw [z_upd_s]
        constructor
        · intro e; exact ((q_eqm1 htt).mp e).elim
        · intro e; exact absurd (List.mem_append_right _ (List.mem_singleton.mpr rfl)) e
      · show upd fa y _ x = _ ↔ _
        rw [z_upd_n hxy, h4 x hx]
        simp [hxy]
theorem m_putr {P M y d n t : Nat} {L : List zE} {qd : Int32} {fa qu : Nat → Int32} (hP : P ≤ 3) (hM : M ≤ 5) (h : z_qr P M L qd fa qu) (hy : z_V P M y) (hd : d < 19) (hn : n < 57344) (ht : t ≤ L.length) : wp (f_Mo_put qd fa qu (nI y) (nI t)) (fun q => z_qr P M (z_put L (y, d, n, t)) q.1 q.2.1 q.2.2) := by
  have hl := Nat.le_trans (z_LI_len hP hM h.1.1) (z_cap_le hP hM)
  refine w_mono (m_put hP hM h.1 hy hd hn ht (by omega)) (fun q hq => ⟨hq.1, ?_⟩)
  rcases hq.2 with ⟨hm, e⟩ | ⟨hm, e⟩
  · have : z_put L (y, d, n, t) = L := by unfold z_put; rw [if_pos hm]
    rw [this, e]
    exact h.2
  · have : z_put L (y, d, n, t) = L ++ [(y, d, n, t)] := by unfold z_put; rw [if_neg hm]
    rw [this, e]
    intro i f hf
    rcases z_app_at hf with ⟨hi, hf⟩ | ⟨hi, rfl⟩
    · have hne : f.1 ≠ y := fun e => hm (e ▸ z_ss_of hf)
      rw [z_upd_n hne]
      exact h.2 i f hf
    · exact z_upd_s
theorem m_clear_L {qd : Int32} : ∀ r i k (fa : Nat → Int32), i + r = 57344 → r < k → (∀ j, j < i → fa j = -nI 1) → wp (f_Mo_clearFars_L2 qd k (nI i) fa) (fun g => ∀ j, j < 57344 → g j = -nI 1) := by
  intro r
  induction r with
  | zero =>
    intro i k f hi hk hf
    obtain ⟨k, rfl⟩ : ∃ k', k = k' + 1 := ⟨k - 1, by omega⟩
    rw [f_Mo_clearFars_L2]
    refine w_T (by simp (disch := omega) only [q_lit, q_ofn, nI_add, q_mul, q_sub, q_shrm, q_shlm, q_a31s, q_a1, q_a3, q_a7, q_a65535, q_div, q_rem2, z_mm, nI_clamp, Nat.reduceMul, Nat.reduceAdd, Nat.reduceSub, Nat.reducePow, Nat.reduceMod, Nat.reduceDiv, Nat.one_mul, nI_ltI, nI_leI, nI_eq, q_b0, q_b1, q_m1lt, q_m1le, q_ltm1, q_lem1, q_eqm1, q_m1eq, not_true_eq_false, not_false_eq_true, reduceCtorEq, *] <;> first | omega | decide) ?_
    exact w_some (fun j hj => hf j (by omega))
  | succ r ih =>
    intro i k f hi hk hf
    obtain ⟨k, rfl⟩ : ∃ k', k = k' + 1 := ⟨k - 1, by omega⟩
    rw [f_Mo_clearFars_L2]
    refine w_F (by simp (disch := omega) only [q_lit, q_ofn, nI_add, q_mul, q_sub, q_shrm, q_shlm, q_a31s, q_a1, q_a3, q_a7, q_a65535, q_div, q_rem2, z_mm, nI_clamp, Nat.reduceMul, Nat.reduceAdd, Nat.reduceSub, Nat.reducePow, Nat.reduceMod, Nat.reduceDiv, Nat.one_mul, nI_ltI, nI_leI, nI_eq, q_b0, q_b1, q_m1lt, q_m1le, q_ltm1, q_lem1, q_eqm1, q_m1eq, not_true_eq_false, not_false_eq_true, reduceCtorEq, *] <;> first | omega | decide) ?_
    refine w_C (i := i) (by first | (with_reducible rfl) | (simp (disch := omega) only [q_lit, q_ofn, nI_add, q_mul, q_sub, q_shrm, q_shlm, q_a31s, q_a1, q_a3, q_a7, q_a65535, q_div, q_rem2, z_mm, nI_clamp, Nat.reduceMul, Nat.reduceAdd, Nat.reduceSub, Nat.reducePow, Nat.reduceMod, Nat.reduceDiv, Nat.one_mul]; done) | (simp (disch := omega) only [q_lit, q_ofn, nI_add, q_mul, q_sub, q_shrm, q_shlm, q_a31s, q_a1, q_a3, q_a7, q_a65535, q_div, q_rem2, z_mm, nI_clamp, Nat.reduceMul, Nat.reduceAdd, Nat.reduceSub, Nat.reducePow, Nat.reduceMod, Nat.reduceDiv, Nat.one_mul]; with_reducible rfl)) (by omega) (by first | decide | omega) ?_
    refine w_Ln (w := nI (i + 1)) (by first | (with_reducible rfl) | (simp (disch := omega) only [q_lit, q_ofn, nI_add, q_mul, q_sub, q_shrm, q_shlm, q_a31s, q_a1, q_a3, q_a7, q_a65535, q_div, q_rem2, z_mm, nI_clamp, Nat.reduceMul, Nat.reduceAdd, Nat.reduceSub, Nat.reducePow, Nat.reduceMod, Nat.reduceDiv, Nat.one_mul]; done) | (simp (disch := omega) only [q_lit, q_ofn, nI_add, q_mul, q_sub, q_shrm, q_shlm, q_a31s, q_a1, q_a3, q_a7, q_a65535, q_div, q_rem2, z_mm, nI_clamp, Nat.reduceMul, Nat.reduceAdd, Nat.reduceSub, Nat.reducePow, Nat.reduceMod, Nat.reduceDiv, Nat.one_mul]; with_reducible rfl)) ?_
    refine ih (i + 1) k _ (by omega) (by omega) ?_
    intro j hj
    rw [nI_clamp (by omega)]
    by_cases h : j = i
    · subst h; exact z_upd_s
    · rw [z_upd_n h]; exact hf j (by omega)
theorem m_clear {P M k : Nat} {qd : Int32} {fa qu : Nat → Int32} (hk : 60000 ≤ k) : wp (f_Mo_clearFars k qd fa) (fun q => z_qr P M [] q.1 q.2 qu) := by
  unfold f_Mo_clearFars
  refine w_Bw (m_clear_L 57344 0 k fa (by omega) (by omega) (fun j hj => by omega)) (fun g hg => w_some ?_)
  refine ⟨⟨⟨by simp [z_ss], fun i e he => by simp at he⟩, rfl, fun i e he => by simp at he, fun x hx => ?_⟩, fun i e he => by simp at he⟩
  show g x = _ ↔ _
  rw [hg x hx]
  simp [z_ss]
theorem m_isBy {D who : Nat} (hD : D < 22) (hw : who < 2 ^ 31) : f_Mo_isBy (nI D) (nI who) = some (nI (decide (D = 21 ∨ who.testBit (D / 7) = true)).toNat) := by
  unfold f_Mo_isBy f_Mo_isBy_J17
  by_cases h : D = 21
  · rw [if_pos (by rw [h]; rfl), decide_eq_true (Or.inl h)]; rfl
  · refine e_F (by simp (disch := omega) only [q_lit, nI_eq]; exact h) ?_
    rw [show (7 : Int32) = nI 7 from rfl, q_div (by omega) (by decide) (by decide), m_has hw (by omega), q_B]
    cases hb : who.testBit (D / 7)
    · refine e_T (by decide) ?_
      rw [decide_eq_false (by simp [h])]; rfl
    · refine e_F (by decide) ?_
      rw [decide_eq_true (Or.inr rfl)]; rfl
theorem z_can_ask {P M x D : Nat} {sp : Nat → Nat → Nat} (hD : D < 22) (h : z_can P M sp x D = true) : D % 7 = 6 → x / 1024 % 8 < 7 := by
  intro h6
  rcases z_can_do hD h with rfl | ⟨_, _, h | h | h | h⟩ <;> omega
theorem z_range_op {P M who bar x i t : Nat} {sp : Nat → Nat → Nat} (L : List zE) : z_op (z_st P M sp who bar) (z_dx P) x i t L (List.range 22) = z_op (z_st P M sp who bar) (z_dx P) x i t L (z_ds P) := by
  unfold z_op z_ds
  rw [List.foldl_filter]
  congr 1
  funext K D
  split
  · rfl
  · next h =>
    unfold z_pst z_st
    rw [if_neg (fun z => h (z_can_dsv z.2.1))]
theorem z_range_cons {D : Nat} (h : D < 22) : (List.range 22).drop D = D :: (List.range 22).drop (D + 1) := by
  rw [List.drop_eq_getElem_cons (by rw [List.length_range]; exact h), List.getElem_range]
theorem m_lay_in {P M who bar : Nat} {sp : Nat → Nat → Nat} {sf : Nat → Int32} {x4 : Int32} (ok : z_ok P M sp) (hr : z_rep M sp sf) (hw : who < 2 ^ 31) (hbar : bar < 2 ^ 31) {i : Nat} {e : zE} : ∀ r D k (L : List zE) (lf qd : Int32) (fa qu : Nat → Int32), D + r = 22 → r + 12 < k → L[i]? = some e → z_qr P M L qd fa qu → wp (f_Mo_layFars_L34 (nI M) (nI P) sf (nI who) (nI bar) x4 (nI e.1) k (nI D) lf qd fa qu) (fun q => z_qr P M (z_op (z_st P M sp who bar) (z_dx P) e.1 i (e.2.2.2 + 1) L ((List.range 22).drop D)) q.2.1 q.2.2.1 q.2.2.2) := by
  have hP := ok.2.1
  have hM := ok.2.2.1
  intro r
  induction r with
  | zero =>
    intro D k L lf qd fa qu hD hk he hq
    obtain ⟨k, rfl⟩ : ∃ k', k = k' + 1 := ⟨k - 1, by omega⟩
    rw [f_Mo_layFars_L34]
    refine w_T (by simp (disch := omega) only [q_lit, q_ofn, nI_add, q_mul, q_sub, q_shrm, q_shlm, q_a31s, q_a1, q_a3, q_a7, q_a65535, q_div, q_rem2, z_mm, nI_clamp, Nat.reduceMul, Nat.reduceAdd, Nat.reduceSub, Nat.reducePow, Nat.reduceMod, Nat.reduceDiv, Nat.one_mul, nI_ltI, nI_leI, nI_eq, q_b0, q_b1, q_m1lt, q_m1le, q_ltm1, q_lem1, q_eqm1, q_m1eq, not_true_eq_false, not_false_eq_true, reduceCtorEq, *] <;> first | omega | decide) (w_some ?_)
    rw [List.drop_eq_nil_of_le (by rw [List.length_range]; omega)]
    exact hq
  | succ r ih =>
    intro D k L lf qd fa qu hD hk he hq
    obtain ⟨k, rfl⟩ : ∃ k', k = k' + 1 := ⟨k - 1, by omega⟩
    have hD22 : D < 22 := by omega
    obtain ⟨hV, hde, hfe, hti⟩ := hq.1.1.2 i e he
    have hV1 := hV.1
    have hl := Nat.le_trans (z_LI_len hP hM hq.1.1) (z_cap_le hP hM)
    have hil := z_at_lt he
    rw [z_range_cons hD22]
    have next : ∀ (L' : List zE) (lf' qd' : Int32) (fa' qu' : Nat → Int32), L' = z_pst (z_st P M sp who bar) (z_dx P) e.1 i (e.2.2.2 + 1) L D → z_qr P M L' qd' fa' qu' → wp (f_Mo_layFars_L34 (nI M) (nI P) sf (nI who) (nI bar) x4 (nI e.1) k (nI D + 1) lf' qd' fa' qu') (fun q => z_qr P M (z_op (z_st P M sp who bar) (z_dx P) e.1 i (e.2.2.2 + 1) L (D :: (List.range 22).drop (D + 1))) q.2.1 q.2.2.1 q.2.2.2) := by
      intro L' lf' qd' fa' qu' hL' hq'
      rw [show nI D + 1 = nI (D + 1) by simp only [q_lit, nI_add]]
      have hpre := z_pst_pre (z_st P M sp who bar) (z_dx P) e.1 i (e.2.2.2 + 1) L D
      have g := ih (D + 1) k L' lf' qd' fa' qu' (by omega) (by omega) (by rw [hL', List.prefix_iff_getElem?.mp hpre i hil, ← List.getElem?_eq_getElem hil]; exact he) hq'
      rw [hL'] at g
      exact g
    have skip : z_st P M sp who bar e.1 D = none → L = z_pst (z_st P M sp who bar) (z_dx P) e.1 i (e.2.2.2 + 1) L D := by
      intro hn
      unfold z_pst
      rw [hn]
    rw [f_Mo_layFars_L34]
    refine w_F (by simp (disch := omega) only [q_lit, q_ofn, nI_add, q_mul, q_sub, q_shrm, q_shlm, q_a31s, q_a1, q_a3, q_a7, q_a65535, q_div, q_rem2, z_mm, nI_clamp, Nat.reduceMul, Nat.reduceAdd, Nat.reduceSub, Nat.reducePow, Nat.reduceMod, Nat.reduceDiv, Nat.one_mul, nI_ltI, nI_leI, nI_eq, q_b0, q_b1, q_m1lt, q_m1le, q_ltm1, q_lem1, q_eqm1, q_m1eq, not_true_eq_false, not_false_eq_true, reduceCtorEq, *] <;> first | omega | decide) ?_
    refine w_Be (m_isBy hD22 hw) ?_
    unfold f_Mo_layFars_J95
    by_cases hby : D = 21 ∨ who.testBit (D / 7) = true
    · rw [decide_eq_true hby]
      refine w_F (by decide) ?_
      refine w_Be (m_can ok hr (by omega) (by omega) hD22) ?_
      cases hc : z_can P M sp e.1 D with
      | false =>
        refine w_T (by decide) ?_
        refine w_L ?_
        refine next L lf qd fa qu (skip ?_) hq
        unfold z_st
        rw [if_neg (fun z => by rw [hc] at z; exact absurd z.2.1 (by decide))]
      | true =>
        refine w_F (by decide) ?_
        refine w_Be (m_behind ok hr (by omega) hV1 hD22 (z_can_ask hD22 hc) lf) ?_
        obtain ⟨hV2, hl2⟩ := z_beh_V ok hV hD22 hc
        have hand : (nI (z_beh M sp e.1 D).2 &&& nI bar = 0) ↔ (z_beh M sp e.1 D).2 &&& bar = 0 := by
          rw [q_and, q_lit, nI_eq (Nat.lt_of_le_of_lt Nat.and_le_left (by omega)) (by decide)]
        by_cases hl3 : (z_beh M sp e.1 D).2 &&& bar = 0
        · refine w_T (hand.mpr hl3) ?_
          refine w_I (i := e.1) (by first | (with_reducible rfl) | (simp (disch := omega) only [q_lit, q_ofn, nI_add, q_mul, q_sub, q_shrm, q_shlm, q_a31s, q_a1, q_a3, q_a7, q_a65535, q_div, q_rem2, z_mm, nI_clamp, Nat.reduceMul, Nat.reduceAdd, Nat.reduceSub, Nat.reducePow, Nat.reduceMod, Nat.reduceDiv, Nat.one_mul]; done) | (simp (disch := omega) only [q_lit, q_ofn, nI_add, q_mul, q_sub, q_shrm, q_shlm, q_a31s, q_a1, q_a3, q_a7, q_a65535, q_div, q_rem2, z_mm, nI_clamp, Nat.reduceMul, Nat.reduceAdd, Nat.reduceSub, Nat.reducePow, Nat.reduceMod, Nat.reduceDiv, Nat.one_mul]; with_reducible rfl)) (by omega) (by first | decide | omega) ?_
          rw [hq.2 i e he]
          obtain ⟨d, hd⟩ := List.getElem?_of_mem (z_ds_mem.mpr ⟨hD22, z_can_dsv hc⟩)
          have hdl := (List.getElem?_eq_some_iff.mp hd).1
          have hd19 := (z_ds_len ok.1 hP).2
          refine w_Bw (R := fun q => z_qr P M (z_put L ((z_beh M sp e.1 D).1, d, i, e.2.2.2 + 1)) q.1 q.2.1 q.2.2) ?_ (fun q hq2 => ?_)
          · rw [show nI e.2.2.2 + 1 = nI (e.2.2.2 + 1) by simp only [q_lit, nI_add]]
            exact m_putr hP hM hq hV2 (by omega) (by omega) (by omega)
          obtain ⟨q1, q2, q3⟩ := q
          refine w_L ?_
          refine next _ _ q1 q2 q3 ?_ hq2
          have hst : z_st P M sp who bar e.1 D = some (z_beh M sp e.1 D).1 := by
            unfold z_st
            rw [if_pos ⟨hby, hc, hl3⟩]
          unfold z_pst
          rw [hst, z_dx_at hd]
        · refine w_F (fun z => hl3 (hand.mp z)) ?_
          refine w_L ?_
          refine next L _ qd fa qu (skip ?_) hq
          unfold z_st
          rw [if_neg (fun z => hl3 z.2.2)]
    · rw [decide_eq_false hby]
      refine w_T (by decide) ?_
      refine w_L ?_
      refine next L lf qd fa qu (skip ?_) hq
      unfold z_st
      rw [if_neg (fun z => hby z.1)]
theorem m_lay_L {P M who bar x0 : Nat} {sp : Nat → Nat → Nat} {sf : Nat → Int32} (ok : z_ok P M sp) (hr : z_rep M sp sf) (hw : who < 2 ^ 31) (hbar : bar < 2 ^ 31) (h0 : z_V P M x0) : ∀ r n k (lf qd : Int32) (fa qu : Nat → Int32), n + r = 57344 → r + 40 < k → n ≤ (z_B P M sp who bar x0 n).length → z_qr P M (z_B P M sp who bar x0 n) qd fa qu → wp (f_Mo_layFars_L13 (nI M) (nI P) sf (nI who) (nI bar) k (nI n) lf qd fa qu) (fun q => z_qr P M (z_F P M sp who bar x0) q.2.1 q.2.2.1 q.2.2.2) := by
  have hP := ok.2.1
  have hM := ok.2.2.1
  intro r
  induction r with
  | zero =>
    intro n k lf qd fa qu hi hk hn hq
    obtain ⟨k, rfl⟩ : ∃ k', k = k' + 1 := ⟨k - 1, by omega⟩
    have hlen := z_F_len (who := who) (bar := bar) ok h0 n
    rw [f_Mo_layFars_L13, hq.1.2.1]
    refine w_T (nI_le (by omega) (by omega)) (w_some ?_)
    rw [← hq.1.2.1, ← z_F_eq (n := n) ok h0 (by omega)]
    exact hq
  | succ r ih =>
    intro n k lf qd fa qu hi hk hn hq
    obtain ⟨k, rfl⟩ : ∃ k', k = k' + 1 := ⟨k - 1, by omega⟩
    have hlen := z_F_len (who := who) (bar := bar) ok h0 n
    rw [f_Mo_layFars_L13]
    by_cases hend : (z_B P M sp who bar x0 n).length ≤ n
    · refine w_T (by rw [hq.1.2.1]; exact nI_le hend (by omega)) (w_some ?_)
      rw [← z_F_eq (n := n) ok h0 hend]
      exact hq
    · refine w_F (by rw [hq.1.2.1]; exact nI_ge (by omega) (by omega)) ?_
      have hil : n < (z_B P M sp who bar x0 n).length := by omega
      obtain ⟨e, he⟩ : ∃ e, (z_B P M sp who bar x0 n)[n]? = some e := ⟨_, List.getElem?_eq_getElem hil⟩
      refine w_I (i := n) (by first | (with_reducible rfl) | (simp (disch := omega) only [q_lit, q_ofn, nI_add, q_mul, q_sub, q_shrm, q_shlm, q_a31s, q_a1, q_a3, q_a7, q_a65535, q_div, q_rem2, z_mm, nI_clamp, Nat.reduceMul, Nat.reduceAdd, Nat.reduceSub, Nat.reducePow, Nat.reduceMod, Nat.reduceDiv, Nat.one_mul]; done) | (simp (disch := omega) only [q_lit, q_ofn, nI_add, q_mul, q_sub, q_shrm, q_shlm, q_a31s, q_a1, q_a3, q_a7, q_a65535, q_div, q_rem2, z_mm, nI_clamp, Nat.reduceMul, Nat.reduceAdd, Nat.reduceSub, Nat.reducePow, Nat.reduceMod, Nat.reduceDiv, Nat.one_mul]; with_reducible rfl)) (by omega) (by first | decide | omega) ?_
      rw [hq.1.2.2.1 n e he]
      refine w_Bw (m_lay_in ok hr hw hbar 22 0 k _ lf qd fa qu (by omega) (by omega) he hq) (fun q hq2 => ?_)
      obtain ⟨q1, q2, q3, q4⟩ := q
      refine w_Ln (w := nI (n + 1)) (by first | (with_reducible rfl) | (simp (disch := omega) only [q_lit, q_ofn, nI_add, q_mul, q_sub, q_shrm, q_shlm, q_a31s, q_a1, q_a3, q_a7, q_a65535, q_div, q_rem2, z_mm, nI_clamp, Nat.reduceMul, Nat.reduceAdd, Nat.reduceSub, Nat.reducePow, Nat.reduceMod, Nat.reduceDiv, Nat.one_mul]; done) | (simp (disch := omega) only [q_lit, q_ofn, nI_add, q_mul, q_sub, q_shrm, q_shlm, q_a31s, q_a1, q_a3, q_a7, q_a65535, q_div, q_rem2, z_mm, nI_clamp, Nat.reduceMul, Nat.reduceAdd, Nat.reduceSub, Nat.reducePow, Nat.reduceMod, Nat.reduceDiv, Nat.one_mul]; with_reducible rfl)) ?_
      rw [List.drop_zero, z_range_op] at hq2
      have e2 : z_B P M sp who bar x0 (n + 1) = z_op (z_st P M sp who bar) (z_dx P) e.1 n (e.2.2.2 + 1) (z_B P M sp who bar x0 n) (z_ds P) := by
        show z_bf _ _ _ _ (n + 1) = _
        rw [z_bf_succ, he]
      rw [← e2] at hq2
      refine ih (n + 1) k q1 q2 q3 q4 (by omega) (by omega) ?_ hq2
      have := (z_bf_pre1 (z_st P M sp who bar) (z_dx P) (z_ds P) x0 n).length_le
      have : n < (z_bf (z_st P M sp who bar) (z_dx P) (z_ds P) x0 n).length := hil
      show n + 1 ≤ (z_bf _ _ _ _ (n + 1)).length
      omega
theorem m_layFars {P M who bar x0 : Nat} {sp : Nat → Nat → Nat} {sf : Nat → Int32} (ok : z_ok P M sp) (hr : z_rep M sp sf) (hw : who < 2 ^ 31) (hbar : bar < 2 ^ 31) (h0 : z_V P M x0) {k : Nat} {lf qd : Int32} {fa qu : Nat → Int32} (hk : 60000 ≤ k) : wp (f_Mo_layFars k lf (nI M) (nI P) qd fa qu sf (nI x0) (nI who) (nI bar)) (fun q => z_qr P M (z_F P M sp who bar x0) q.2.1 q.2.2.1 q.2.2.2) := by
  have hP := ok.2.1
  have hM := ok.2.2.1
  unfold f_Mo_layFars
  refine w_Bw (m_clear (P := P) (M := M) (qu := qu) hk) (fun q hq => ?_)
  obtain ⟨q1, q2⟩ := q
  refine w_Bw (m_putr (d := 0) (n := 0) (t := 0) hP hM hq h0 (by decide) (by decide) (Nat.zero_le _)) (fun q hq2 => ?_)
  obtain ⟨v1, v2, v3⟩ := q
  have e0 : z_put [] (x0, 0, 0, 0) = z_B P M sp who bar x0 0 := by
    unfold z_put
    rw [if_neg (by simp [z_ss])]
    rfl
  rw [e0] at hq2
  refine w_Bw (m_lay_L ok hr hw hbar h0 57344 0 k lf v1 v2 v3 (by omega) (by omega) (Nat.zero_le _) hq2) (fun q hq3 => ?_)
  obtain ⟨u1, u2, u3, u4⟩ := q
  exact w_some hq3
/-- all people: by 7, or by just these -/
theorem z_st7 {P M bar : Nat} {sp : Nat → Nat → Nat} (hP : P ≤ 3) : z_st P M sp 7 bar = z_st P M sp (2 ^ P - 1) bar := by
  funext x D
  unfold z_st
  by_cases hc : z_can P M sp x D = true
  · have hv := z_can_dsv hc
    have h7 : ∀ j, j < 3 → (7 : Nat).testBit j = true := by decide
    have : (D = 21 ∨ (7 : Nat).testBit (D / 7) = true) ↔ (D = 21 ∨ (2 ^ P - 1).testBit (D / 7) = true) := by
      rw [Nat.testBit_two_pow_sub_one]
      unfold z_dsv at hv
      simp only [Bool.or_eq_true, Bool.and_eq_true, decide_eq_true_iff] at hv ⊢
      constructor
      · rintro (h | h)
        · exact Or.inl h
        · rcases hv with hv | hv
          · exact Or.inl hv
          · exact Or.inr hv.1
      · rintro (h | h)
        · exact Or.inl h
        · exact Or.inr (h7 _ (by omega))
    simp only [this]
  · simp [hc]
theorem z_F7 {P M bar x0 : Nat} {sp : Nat → Nat → Nat} (hP : P ≤ 3) : z_F P M sp 7 bar x0 = z_F P M sp (2 ^ P - 1) bar x0 := by
  show z_bf (z_st P M sp 7 bar) _ _ _ _ = z_bf (z_st P M sp (2 ^ P - 1) bar) _ _ _ _
  rw [z_st7 hP]
theorem m_layAll {P M x0 k : Nat} {sp : Nat → Nat → Nat} {sf : Nat → Int32} (ok : z_ok P M sp) (hr : z_rep M sp sf) (h0 : z_V P M x0) {lf qd : Int32} {fa qu : Nat → Int32} (hk : 60000 ≤ k) : wp (f_Mo_layAll k lf (nI M) (nI P) qd fa qu sf (nI x0)) (fun q => z_qr P M (z_F P M sp (2 ^ P - 1) 0 x0) q.2.1 q.2.2.1 q.2.2.2) := by
  unfold f_Mo_layAll
  refine w_Bw (m_layFars (who := 7) (bar := 0) ok hr (by decide) (by decide) h0 hk) (fun q hq => ?_)
  obtain ⟨u1, u2, u3, u4⟩ := q
  rw [z_F7 ok.2.1] at hq
  exact w_some hq
