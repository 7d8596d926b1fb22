/-! the way: the reference's deed -/
theorem z_ds_sorted (P : Nat) : (z_ds P).Pairwise (· < ·) := List.Pairwise.filter _ List.pairwise_lt_range
theorem z_ds_pre {P D E : Nat} {pre suf : List Nat} (h : z_ds P = pre ++ D :: suf) (hE : E ∈ z_ds P) (hlt : E < D) : E ∈ pre := by
  have hs := z_ds_sorted P
  rw [h] at hs hE
  rw [List.mem_append] at hE
  rcases hE with hE | hE
  · exact hE
  · have h2 := (List.pairwise_append.mp hs).2.1
    rw [List.mem_cons] at hE
    rcases hE with rfl | hE
    · omega
    · have := (List.pairwise_cons.mp h2).1 E hE
      omega
theorem m_way_find {P M x0 : Nat} {sp : Nat → Nat → Nat} {sf fa qu : Nat → Int32} {qd : Int32} {set last : Nat} (ok : z_ok P M sp) (hr : z_rep M sp sf) (h0 : z_V P M x0) (hq : z_qr P M (z_F P M sp (2 ^ P - 1) 0 x0) qd fa qu) {i D0 : Nat} {e : zE} {ow : Nat → Int32} {x2 x3 x7 nw : Int32} (he : (z_F P M sp (2 ^ P - 1) 0 x0)[i]? = some e) (ht : e.2.2.2 < last) (hw : z_owr P M sp (z_F P M sp (2 ^ P - 1) 0 x0) set last 0 ow) (hD0 : D0 < 22) (hyes : z_ld P M sp (z_F P M sp (2 ^ P - 1) 0 x0) set last (last - (e.2.2.2 + 1)) e.1 D0) (hno : ∀ E, E < D0 → ¬ z_ld P M sp (z_F P M sp (2 ^ P - 1) 0 x0) set last (last - (e.2.2.2 + 1)) e.1 E) : ∀ r D k (lf : Int32), D + r = D0 → r + 20 < k → wp (f_Mo_way_L87 (nI M) nw (nI P) qd fa ow qu sf x2 x3 (nI e.1) x7 k (nI D) lf) (fun q => q.1 = nI D0) := by
  have hw' : ∀ (b : Nat) (f : zE), (z_F P M sp (2 ^ P - 1) 0 x0)[b]? = some f → f.2.2.2 = e.2.2.2 + 1 → z_ok1 (z_gd P M sp (z_F P M sp (2 ^ P - 1) 0 x0) set last f) (ow f.1) := fun b f hb _ => hw b f (Nat.zero_le _) hb
  intro r
  induction r with
  | zero =>
    intro D k lf hD hk
    obtain ⟨k, rfl⟩ : ∃ k', k = k' + 1 := ⟨k - 1, by omega⟩
    have : D = D0 := by omega
    subst this
    rw [f_Mo_way_L87]
    refine w_Bw (m_leads (set := set) (last := last) ok hr h0 hq he ht hD0 (by omega) hw') (fun q hq2 => ?_)
    obtain ⟨q1, q2⟩ := q
    rcases hq2 with ⟨g1, _⟩ | ⟨_, g2⟩
    · simp only at g1
      subst g1
      exact w_F (by decide) (w_some rfl)
    · exact absurd hyes g2
  | succ r ih =>
    intro D k lf hD hk
    obtain ⟨k, rfl⟩ : ∃ k', k = k' + 1 := ⟨k - 1, by omega⟩
    rw [f_Mo_way_L87]
    refine w_Bw (m_leads (set := set) (last := last) ok hr h0 hq he ht (by omega) (by omega) hw') (fun q hq2 => ?_)
    obtain ⟨q1, q2⟩ := q
    rcases hq2 with ⟨_, g2⟩ | ⟨g1, _⟩
    · exact absurd g2 (hno D (by omega))
    · simp only at g1
      subst g1
      refine w_T (by decide) ?_
      refine w_Ln (w := nI (D + 1)) (by first | (with_reducible rfl) | (simp (disch := omega) only [q_lit, q_ofn, nI_add, q_mul, q_sub, q_shrm, q_shlm, q_a31s, q_a1, q_a3, q_a7, q_a65535, q_div, q_rem2, z_mm, nI_clamp, Nat.reduceMul, Nat.reduceAdd, Nat.reduceSub, Nat.reducePow, Nat.reduceMod, Nat.reduceDiv, Nat.one_mul]; done) | (simp (disch := omega) only [q_lit, q_ofn, nI_add, q_mul, q_sub, q_shrm, q_shlm, q_a31s, q_a1, q_a3, q_a7, q_a65535, q_div, q_rem2, z_mm, nI_clamp, Nat.reduceMul, Nat.reduceAdd, Nat.reduceSub, Nat.reducePow, Nat.reduceMod, Nat.reduceDiv, Nat.one_mul]; with_reducible rfl)) ?_
      exact ih (D + 1) k q2 (by omega) (by omega)
theorem m_way_L {P M x0 : Nat} {sp : Nat → Nat → Nat} {sf fa qu : Nat → Int32} {qd : Int32} {set last : Nat} (ok : z_ok P M sp) (hr : z_rep M sp sf) (h0 : z_V P M x0) (hq : z_qr P M (z_F P M sp (2 ^ P - 1) 0 x0) qd fa qu) {p i : Nat} {e : zE} {ow : Nat → Int32} {x3 nw : Int32} (hp : (z_F P M sp (2 ^ P - 1) 0 x0)[p]? = some e) (hlast : e.2.2.2 = last) (hz : e.1 &&& set = 0) (hf : ∀ (b : Nat) (f : zE), b < p → (z_F P M sp (2 ^ P - 1) 0 x0)[b]? = some f → f.1 &&& set ≠ 0) (hw : z_owr P M sp (z_F P M sp (2 ^ P - 1) 0 x0) set last 0 ow) (hi : i < last) : ∀ s j k (x6 lf : Int32) (g : zE), j + s = i → s + 60 < k → (z_F P M sp (2 ^ P - 1) 0 x0)[z_up (z_F P M sp (2 ^ P - 1) 0 x0) p (last - j)]? = some g → wp (f_Mo_way_L78 (nI M) nw (nI P) qd fa ow qu sf (nI i) x3 k (nI g.1) x6 (nI j) lf) (fun q => ∃ (D : Nat) (g' : zE), q.1 = nI D ∧ (z_F P M sp (2 ^ P - 1) 0 x0)[z_up (z_F P M sp (2 ^ P - 1) 0 x0) p (last - 1 - i)]? = some g' ∧ (z_ds P)[g'.2.1]? = some D) := by
  have hP := ok.2.1
  have hM := ok.2.2.1
  have hl := Nat.le_trans (z_LI_len hP hM hq.1.1) (z_cap_le hP hM)
  have I1 := (z_bf_I (z_st P M sp (2 ^ P - 1) 0) (z_dx P) (z_ds P) x0 57344).1
  have hlp := (hq.1.1.2 p e hp).2.2.2
  have hpl := z_at_lt hp
  intro s
  induction s with
  | zero =>
    intro j k x6 lf g hj hk hg
    obtain ⟨k, rfl⟩ : ∃ k', k = k' + 1 := ⟨k - 1, by omega⟩
    obtain ⟨k, rfl⟩ : ∃ k', k = k' + 1 := ⟨k - 1, by omega⟩
    have : j = i := by omega
    subst this
    obtain ⟨x, d, f, x', d', f', D, pre, suf, a1, a2, a3, a4, a5, a6, a7⟩ := z_way hq.1.1.1 I1 hp hlast hz hf (r := last - 1 - j) (by omega)
    rw [show last - 1 - j + 1 = last - j by omega] at a1
    rw [hg] at a1
    cases a1
    have hD := z_ds_mem.mp (a3 ▸ List.mem_append_right _ (List.mem_cons_self ..) : D ∈ z_ds P)
    have hcan : z_can P M sp x D = true ∧ (z_beh M sp x D).1 = x' := by
      rw [z_st_all hP] at a4
      by_cases hc : z_can P M sp x D = true
      · rw [if_pos hc] at a4; cases a4; exact ⟨hc, rfl⟩
      · rw [if_neg hc] at a4; cases a4
    have hV := (hq.1.1.2 _ _ hg).1
    rw [f_Mo_way_L78]
    refine w_F (nI_nlt (Nat.le_refl _) (by omega)) ?_
    refine w_Bw (m_way_find (set := set) (last := last) (D0 := D) ok hr h0 hq hg (by show last - (last - j) < last; omega) hw hD.1 ?_ ?_ D 0 (k + 1) lf (by omega) (by omega)) (fun q hq2 => ?_)
    · refine ⟨hcan.1, ?_⟩
      show z_ow _ _ _ _ _ (last - (last - (last - j) + 1)) _
      rw [show last - (last - (last - j) + 1) = last - 1 - j by omega, hcan.2]
      exact a6
    · intro E hE hld
      obtain ⟨hc, how⟩ := hld
      have how' : z_ow (z_st P M sp (2 ^ P - 1) 0) (z_ds P) (z_F P M sp (2 ^ P - 1) 0 x0) set last (last - 1 - j) (z_beh M sp x E).1 := by
        have : last - (last - (last - j) + 1) = last - 1 - j := by omega
        rw [← this]; exact how
      obtain ⟨b2, d2, j2, hb2⟩ := z_ow_at how'
      exact a7 E (z_ds_pre a3 (z_ds_mem.mpr ⟨by omega, z_can_dsv hc⟩) hE) _ b2 d2 j2 (by rw [z_st_all hP, if_pos hc]) hb2 how'
    · obtain ⟨q1, q2⟩ := q
      simp only at hq2
      subst hq2
      refine w_Be (m_behind ok hr (by omega) hV.1 hD.1 (z_can_ask hD.1 hcan.1) q2) ?_
      refine w_Ln (w := nI (j + 1)) (by first | (with_reducible rfl) | (simp (disch := omega) only [q_lit, q_ofn, nI_add, q_mul, q_sub, q_shrm, q_shlm, q_a31s, q_a1, q_a3, q_a7, q_a65535, q_div, q_rem2, z_mm, nI_clamp, Nat.reduceMul, Nat.reduceAdd, Nat.reduceSub, Nat.reducePow, Nat.reduceMod, Nat.reduceDiv, Nat.one_mul]; done) | (simp (disch := omega) only [q_lit, q_ofn, nI_add, q_mul, q_sub, q_shrm, q_shlm, q_a31s, q_a1, q_a3, q_a7, q_a65535, q_div, q_rem2, z_mm, nI_clamp, Nat.reduceMul, Nat.reduceAdd, Nat.reduceSub, Nat.reducePow, Nat.reduceMod, Nat.reduceDiv, Nat.one_mul]; with_reducible rfl)) ?_
      rw [f_Mo_way_L78]
      refine w_T (nI_lt (by omega) (by omega)) (w_some ⟨D, _, rfl, a2, ?_⟩)
      show (z_ds P)[d']? = some D
      rw [a5]
      obtain ⟨dd, hdd⟩ := List.getElem?_of_mem (z_ds_mem.mpr hD)
      rw [z_dx_at hdd]
      exact hdd
  | succ s ih =>
    intro j k x6 lf g hj hk hg
    obtain ⟨k, rfl⟩ : ∃ k', k = k' + 1 := ⟨k - 1, by omega⟩
    obtain ⟨x, d, f, x', d', f', D, pre, suf, a1, a2, a3, a4, a5, a6, a7⟩ := z_way hq.1.1.1 I1 hp hlast hz hf (r := last - 1 - j) (by omega)
    rw [show last - 1 - j + 1 = last - j by omega] at a1
    rw [hg] at a1
    cases a1
    have hD := z_ds_mem.mp (a3 ▸ List.mem_append_right _ (List.mem_cons_self ..) : D ∈ z_ds P)
    have hcan : z_can P M sp x D = true ∧ (z_beh M sp x D).1 = x' := by
      rw [z_st_all hP] at a4
      by_cases hc : z_can P M sp x D = true
      · rw [if_pos hc] at a4; cases a4; exact ⟨hc, rfl⟩
      · rw [if_neg hc] at a4; cases a4
    have hV := (hq.1.1.2 _ _ hg).1
    rw [f_Mo_way_L78]
    refine w_F (nI_nlt (by omega) (by omega)) ?_
    refine w_Bw (m_way_find (set := set) (last := last) (D0 := D) ok hr h0 hq hg (by show last - (last - j) < last; omega) hw hD.1 ?_ ?_ D 0 k lf (by omega) (by omega)) (fun q hq2 => ?_)
    · refine ⟨hcan.1, ?_⟩
      show z_ow _ _ _ _ _ (last - (last - (last - j) + 1)) _
      rw [show last - (last - (last - j) + 1) = last - 1 - j by omega, hcan.2]
      exact a6
    · intro E hE hld
      obtain ⟨hc, how⟩ := hld
      have how' : z_ow (z_st P M sp (2 ^ P - 1) 0) (z_ds P) (z_F P M sp (2 ^ P - 1) 0 x0) set last (last - 1 - j) (z_beh M sp x E).1 := by
        have : last - (last - (last - j) + 1) = last - 1 - j := by omega
        rw [← this]; exact how
      obtain ⟨b2, d2, j2, hb2⟩ := z_ow_at how'
      exact a7 E (z_ds_pre a3 (z_ds_mem.mpr ⟨by omega, z_can_dsv hc⟩) hE) _ b2 d2 j2 (by rw [z_st_all hP, if_pos hc]) hb2 how'
    · obtain ⟨q1, q2⟩ := q
      simp only at hq2
      subst hq2
      refine w_Be (m_behind ok hr (by omega) hV.1 hD.1 (z_can_ask hD.1 hcan.1) q2) ?_
      refine w_Ln (w := nI (j + 1)) (by first | (with_reducible rfl) | (simp (disch := omega) only [q_lit, q_ofn, nI_add, q_mul, q_sub, q_shrm, q_shlm, q_a31s, q_a1, q_a3, q_a7, q_a65535, q_div, q_rem2, z_mm, nI_clamp, Nat.reduceMul, Nat.reduceAdd, Nat.reduceSub, Nat.reducePow, Nat.reduceMod, Nat.reduceDiv, Nat.one_mul]; done) | (simp (disch := omega) only [q_lit, q_ofn, nI_add, q_mul, q_sub, q_shrm, q_shlm, q_a31s, q_a1, q_a3, q_a7, q_a65535, q_div, q_rem2, z_mm, nI_clamp, Nat.reduceMul, Nat.reduceAdd, Nat.reduceSub, Nat.reducePow, Nat.reduceMod, Nat.reduceDiv, Nat.one_mul]; with_reducible rfl)) ?_
      rw [hcan.2]
      have g2 : (z_F P M sp (2 ^ P - 1) 0 x0)[z_up (z_F P M sp (2 ^ P - 1) 0 x0) p (last - (j + 1))]? = some (x', d', f', last - (last - 1 - j)) := by
        rw [show last - (j + 1) = last - 1 - j by omega]
        exact a2
      exact ih (j + 1) k _ _ _ (by omega) (by omega) g2
