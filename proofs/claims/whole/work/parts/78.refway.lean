/-! the reference's way -/
theorem z_st_all {P M x D : Nat} {sp : Nat → Nat → Nat} (hP : P ≤ 3) : z_st P M sp (2 ^ P - 1) 0 x D = if z_can P M sp x D = true then some (z_beh M sp x D).1 else none := by
  unfold z_st
  by_cases hc : z_can P M sp x D = true
  · have hor : D = 21 ∨ (2 ^ P - 1).testBit (D / 7) = true := by
      have hv := z_can_dsv hc
      unfold z_dsv at hv
      rw [Nat.testBit_two_pow_sub_one]
      simp only [Bool.or_eq_true, Bool.and_eq_true, decide_eq_true_iff] at hv ⊢
      rcases hv with hv | hv
      · exact Or.inl hv
      · exact Or.inr hv.1
    rw [if_pos hc, if_pos ⟨hor, hc, Nat.and_zero _⟩]
  · rw [if_neg hc, if_neg (fun z => hc z.2.1)]
/-- the deed leads on -/
def z_ld (P M : Nat) (sp : Nat → Nat → Nat) (F : List zE) (set last r x D : Nat) : Prop := z_can P M sp x D = true ∧ z_ow (z_st P M sp (2 ^ P - 1) 0) (z_ds P) F set last r (z_beh M sp x D).1
def z_gd (P M : Nat) (sp : Nat → Nat → Nat) (F : List zE) (set last : Nat) (f : zE) : Prop := f.2.2.2 ≤ last ∧ z_ow (z_st P M sp (2 ^ P - 1) 0) (z_ds P) F set last (last - f.2.2.2) f.1
def z_ok1 (A : Prop) (v : Int32) : Prop := (v = nI 1 ∧ A) ∨ (v = nI 0 ∧ ¬ A)
theorem m_leads {P M x0 : Nat} {sp : Nat → Nat → Nat} {sf fa qu : Nat → Int32} {qd : Int32} {set last : Nat} (ok : z_ok P M sp) (hr : z_rep M sp sf) (h0 : z_V P M x0) (hq : z_qr P M (z_F P M sp (2 ^ P - 1) 0 x0) qd fa qu) {i D k : Nat} {e : zE} {ow : Nat → Int32} {lf : Int32} (he : (z_F P M sp (2 ^ P - 1) 0 x0)[i]? = some e) (ht : e.2.2.2 < last) (hD : D < 22) (hk : 20 ≤ k) (hw : ∀ (b : Nat) (f : zE), (z_F P M sp (2 ^ P - 1) 0 x0)[b]? = some f → f.2.2.2 = e.2.2.2 + 1 → z_ok1 (z_gd P M sp (z_F P M sp (2 ^ P - 1) 0 x0) set last f) (ow f.1)) : wp (f_Mo_leads k lf (nI M) (nI P) fa ow sf (nI e.1) (nI D)) (fun q => z_ok1 (z_ld P M sp (z_F P M sp (2 ^ P - 1) 0 x0) set last (last - (e.2.2.2 + 1)) e.1 D) q.1) := by
  have hP := ok.2.1
  have hM := ok.2.2.1
  obtain ⟨hV, _, _, hti⟩ := hq.1.1.2 i e he
  have hV1 := hV.1
  have hl := Nat.le_trans (z_LI_len hP hM hq.1.1) (z_cap_le hP hM)
  have hil := z_at_lt he
  unfold f_Mo_leads
  refine w_Be (m_can ok hr (by omega) (by omega) hD) ?_
  cases hc : z_can P M sp e.1 D with
  | false =>
    refine w_T (by decide) (w_some (Or.inr ⟨rfl, fun z => ?_⟩))
    have := z.1
    rw [hc] at this
    cases this
  | true =>
    refine w_F (by decide) ?_
    refine w_Be (m_behind ok hr (by omega) hV1 hD (z_can_ask hD hc) lf) ?_
    obtain ⟨hV2, hl2⟩ := z_beh_V ok hV hD hc
    have hV21 := hV2.1
    have hst : z_st P M sp (2 ^ P - 1) 0 e.1 D = some (z_beh M sp e.1 D).1 := by rw [z_st_all hP, if_pos hc]
    have hin : (z_beh M sp e.1 D).1 ∈ z_ss (z_F P M sp (2 ^ P - 1) 0 x0) := (z_bf_I (z_st P M sp (2 ^ P - 1) 0) (z_dx P) (z_ds P) x0 57344).2.1 i (by omega) e he D (z_ds_mem.mpr ⟨hD, z_can_dsv hc⟩) _ hst
    obtain ⟨f, hf, hfy⟩ := List.mem_map.mp hin
    obtain ⟨b, hb⟩ := List.getElem?_of_mem hf
    obtain ⟨_, _, _, htb⟩ := hq.1.1.2 b f hb
    have hbl := z_at_lt hb
    have hdist : z_ow (z_st P M sp (2 ^ P - 1) 0) (z_ds P) (z_F P M sp (2 ^ P - 1) 0 x0) set last (last - (e.2.2.2 + 1)) (z_beh M sp e.1 D).1 → f.2.2.2 = e.2.2.2 + 1 := by
      intro h
      obtain ⟨b2, d2, j2, hb2⟩ := z_ow_at h
      have := z_idx hq.1.1.1 hb hb2 hfy rfl
      subst this
      rw [hb] at hb2
      cases hb2
      show last - (last - (e.2.2.2 + 1)) = _
      omega
    refine w_I (i := (z_beh M sp e.1 D).1) rfl (by omega) (by decide) ?_
    by_cases hv : ow (z_beh M sp e.1 D).1 = nI 0
    · refine w_T hv (w_some (Or.inr ⟨rfl, fun z => ?_⟩))
      have hd := hdist z.2
      rcases hw b f hb hd with ⟨g1, _⟩ | ⟨_, g2⟩
      · rw [hfy, hv] at g1; exact absurd g1 (by decide)
      · refine g2 ⟨by omega, ?_⟩
        rw [hd, hfy]
        exact z.2
    · refine w_F hv ?_
      refine w_I (i := (z_beh M sp e.1 D).1) rfl (by omega) (by decide) ?_
      refine w_I (i := e.1) rfl (by omega) (by decide) ?_
      rw [hq.2 i e he, ← hfy, hq.2 b f hb]
      have hcmp : (nI f.2.2.2 = nI e.2.2.2 + 1) ↔ f.2.2.2 = e.2.2.2 + 1 := by
        rw [show nI e.2.2.2 + 1 = nI (e.2.2.2 + 1) by simp only [q_lit, nI_add], nI_eq (by omega) (by omega)]
      by_cases hd : f.2.2.2 = e.2.2.2 + 1
      · refine w_T (hcmp.mpr hd) (w_some (Or.inl ⟨rfl, hc, ?_⟩))
        rcases hw b f hb hd with ⟨_, g2⟩ | ⟨g1, _⟩
        · have := g2.2
          rw [hd, hfy] at this
          exact this
        · rw [hfy] at g1; exact absurd g1 hv
      · refine w_F (fun z => hd (hcmp.mp z)) (w_some (Or.inr ⟨rfl, fun z => hd (hdist z.2)⟩))
theorem m_ways_in {P M x0 : Nat} {sp : Nat → Nat → Nat} {sf fa qu : Nat → Int32} {qd : Int32} {set last : Nat} (ok : z_ok P M sp) (hr : z_rep M sp sf) (h0 : z_V P M x0) (hq : z_qr P M (z_F P M sp (2 ^ P - 1) 0 x0) qd fa qu) {i : Nat} {e : zE} {ow : Nat → Int32} {x1 x3 : Int32} (he : (z_F P M sp (2 ^ P - 1) 0 x0)[i]? = some e) (ht : e.2.2.2 < last) (hlast : last < 2 ^ 31) (hw : ∀ (b : Nat) (f : zE), (z_F P M sp (2 ^ P - 1) 0 x0)[b]? = some f → f.2.2.2 = e.2.2.2 + 1 → z_ok1 (z_gd P M sp (z_F P M sp (2 ^ P - 1) 0 x0) set last f) (ow f.1)) : ∀ r D k (x5 lf : Int32), D + r = 22 → r + 20 < k → (x5 = nI 0 ∨ x5 = nI 1) → wp (f_Mo_layWays_L68 (nI M) (nI P) qd fa ow qu sf x1 (nI last) x3 (nI e.1) k x5 (nI D) lf) (fun q => z_ok1 (x5 = nI 1 ∨ ∃ E, D ≤ E ∧ E < 22 ∧ z_ld P M sp (z_F P M sp (2 ^ P - 1) 0 x0) set last (last - (e.2.2.2 + 1)) e.1 E) q.1) := by
  have hP := ok.2.1
  have hM := ok.2.2.1
  obtain ⟨hV, _, _, hti⟩ := hq.1.1.2 i e he
  have hV1 := hV.1
  intro r
  induction r with
  | zero =>
    intro D k x5 lf hD hk hx
    obtain ⟨k, rfl⟩ : ∃ k', k = k' + 1 := ⟨k - 1, by omega⟩
    rw [f_Mo_layWays_L68]
    refine w_T (by simp (disch := omega) only [q_lit, q_ofn, nI_add, q_mul, q_sub, q_shrm, q_shlm, q_a31s, q_a1, q_a3, q_a7, q_a65535, q_div, q_rem2, z_mm, nI_clamp, Nat.reduceMul, Nat.reduceAdd, Nat.reduceSub, Nat.reducePow, Nat.reduceMod, Nat.reduceDiv, Nat.one_mul, nI_ltI, nI_leI, nI_eq, q_b0, q_b1, q_m1lt, q_m1le, q_ltm1, q_lem1, q_eqm1, q_m1eq, not_true_eq_false, not_false_eq_true, reduceCtorEq, *] <;> first | omega | decide) (w_some ?_)
    rcases hx with rfl | rfl
    · refine Or.inr ⟨rfl, ?_⟩
      rintro (h | ⟨E, h1, h2, _⟩)
      · exact absurd h (by decide)
      · omega
    · exact Or.inl ⟨rfl, Or.inl rfl⟩
  | succ r ih =>
    intro D k x5 lf hD hk hx
    obtain ⟨k, rfl⟩ : ∃ k', k = k' + 1 := ⟨k - 1, by omega⟩
    rw [f_Mo_layWays_L68]
    refine w_F (by simp (disch := omega) only [q_lit, q_ofn, nI_add, q_mul, q_sub, q_shrm, q_shlm, q_a31s, q_a1, q_a3, q_a7, q_a65535, q_div, q_rem2, z_mm, nI_clamp, Nat.reduceMul, Nat.reduceAdd, Nat.reduceSub, Nat.reducePow, Nat.reduceMod, Nat.reduceDiv, Nat.one_mul, nI_ltI, nI_leI, nI_eq, q_b0, q_b1, q_m1lt, q_m1le, q_ltm1, q_lem1, q_eqm1, q_m1eq, not_true_eq_false, not_false_eq_true, reduceCtorEq, *] <;> first | omega | decide) ?_
    rcases hx with rfl | rfl
    · refine w_T rfl ?_
      refine w_I (i := e.1) rfl (by omega) (by decide) ?_
      rw [hq.2 i e he]
      refine w_F (nI_ge ht hlast) ?_
      refine w_Bw (m_leads ok hr h0 hq he ht (by omega) (by omega) hw) (fun q hq2 => ?_)
      obtain ⟨q1, q2⟩ := q
      simp only at hq2
      refine w_Ln (w := nI (D + 1)) (by first | (with_reducible rfl) | (simp (disch := omega) only [q_lit, q_ofn, nI_add, q_mul, q_sub, q_shrm, q_shlm, q_a31s, q_a1, q_a3, q_a7, q_a65535, q_div, q_rem2, z_mm, nI_clamp, Nat.reduceMul, Nat.reduceAdd, Nat.reduceSub, Nat.reducePow, Nat.reduceMod, Nat.reduceDiv, Nat.one_mul]; done) | (simp (disch := omega) only [q_lit, q_ofn, nI_add, q_mul, q_sub, q_shrm, q_shlm, q_a31s, q_a1, q_a3, q_a7, q_a65535, q_div, q_rem2, z_mm, nI_clamp, Nat.reduceMul, Nat.reduceAdd, Nat.reduceSub, Nat.reducePow, Nat.reduceMod, Nat.reduceDiv, Nat.one_mul]; with_reducible rfl)) ?_
      refine w_mono (ih (D + 1) k q1 q2 (by omega) (by omega) (hq2.elim (fun z => Or.inr z.1) (fun z => Or.inl z.1))) (fun o ho => ?_)
      rcases hq2 with ⟨g1, g2⟩ | ⟨g1, g2⟩
      · subst g1
        rcases ho with ⟨o1, _⟩ | ⟨_, o2⟩
        · exact Or.inl ⟨o1, Or.inr ⟨D, Nat.le_refl _, by omega, g2⟩⟩
        · exact absurd (Or.inl rfl) o2
      · subst g1
        rcases ho with ⟨o1, o2⟩ | ⟨o1, o2⟩
        · refine Or.inl ⟨o1, Or.inr ?_⟩
          rcases o2 with o2 | ⟨E, h1, h2, h3⟩
          · exact absurd o2 (by decide)
          · exact ⟨E, by omega, h2, h3⟩
        · refine Or.inr ⟨o1, ?_⟩
          rintro (h | ⟨E, h1, h2, h3⟩)
          · exact absurd h (by decide)
          · by_cases hE : E = D
            · subst hE; exact g2 h3
            · exact o2 (Or.inr ⟨E, by omega, h2, h3⟩)
    · refine w_F (by decide) (w_some ?_)
      exact Or.inl ⟨rfl, Or.inl rfl⟩
theorem z_nar0 : vp_nar .boolean (nI 0) = nI 0 := by decide
theorem z_nar1 : vp_nar .boolean (nI 1) = nI 1 := by decide
theorem m_ways_0 {P M : Nat} {sf fa qu : Nat → Int32} {qd lf x1 x2 : Int32} : ∀ r i k (ow : Nat → Int32), i + r = 57344 → r < k → wp (f_Mo_layWays_L2 lf (nI M) (nI P) qd fa qu sf x1 x2 k (nI i) ow) (fun _ => True) := by
  intro r
  induction r with
  | zero =>
    intro i k ow hi hk
    obtain ⟨k, rfl⟩ : ∃ k', k = k' + 1 := ⟨k - 1, by omega⟩
    rw [f_Mo_layWays_L2]
    exact w_T (by simp (disch := omega) only [q_lit, q_ofn, nI_add, q_mul, q_sub, q_shrm, q_shlm, q_a31s, q_a1, q_a3, q_a7, q_a65535, q_div, q_rem2, z_mm, nI_clamp, Nat.reduceMul, Nat.reduceAdd, Nat.reduceSub, Nat.reducePow, Nat.reduceMod, Nat.reduceDiv, Nat.one_mul, nI_ltI, nI_leI, nI_eq, q_b0, q_b1, q_m1lt, q_m1le, q_ltm1, q_lem1, q_eqm1, q_m1eq, not_true_eq_false, not_false_eq_true, reduceCtorEq, *] <;> first | omega | decide) (w_some trivial)
  | succ r ih =>
    intro i k ow hi hk
    obtain ⟨k, rfl⟩ : ∃ k', k = k' + 1 := ⟨k - 1, by omega⟩
    rw [f_Mo_layWays_L2]
    refine w_F (by simp (disch := omega) only [q_lit, q_ofn, nI_add, q_mul, q_sub, q_shrm, q_shlm, q_a31s, q_a1, q_a3, q_a7, q_a65535, q_div, q_rem2, z_mm, nI_clamp, Nat.reduceMul, Nat.reduceAdd, Nat.reduceSub, Nat.reducePow, Nat.reduceMod, Nat.reduceDiv, Nat.one_mul, nI_ltI, nI_leI, nI_eq, q_b0, q_b1, q_m1lt, q_m1le, q_ltm1, q_lem1, q_eqm1, q_m1eq, not_true_eq_false, not_false_eq_true, reduceCtorEq, *] <;> first | omega | decide) ?_
    refine w_C (i := i) (by first | (with_reducible rfl) | (simp (disch := omega) only [q_lit, q_ofn, nI_add, q_mul, q_sub, q_shrm, q_shlm, q_a31s, q_a1, q_a3, q_a7, q_a65535, q_div, q_rem2, z_mm, nI_clamp, Nat.reduceMul, Nat.reduceAdd, Nat.reduceSub, Nat.reducePow, Nat.reduceMod, Nat.reduceDiv, Nat.one_mul]; done) | (simp (disch := omega) only [q_lit, q_ofn, nI_add, q_mul, q_sub, q_shrm, q_shlm, q_a31s, q_a1, q_a3, q_a7, q_a65535, q_div, q_rem2, z_mm, nI_clamp, Nat.reduceMul, Nat.reduceAdd, Nat.reduceSub, Nat.reducePow, Nat.reduceMod, Nat.reduceDiv, Nat.one_mul]; with_reducible rfl)) (by omega) (by first | decide | omega) ?_
    refine w_Ln (w := nI (i + 1)) (by first | (with_reducible rfl) | (simp (disch := omega) only [q_lit, q_ofn, nI_add, q_mul, q_sub, q_shrm, q_shlm, q_a31s, q_a1, q_a3, q_a7, q_a65535, q_div, q_rem2, z_mm, nI_clamp, Nat.reduceMul, Nat.reduceAdd, Nat.reduceSub, Nat.reducePow, Nat.reduceMod, Nat.reduceDiv, Nat.one_mul]; done) | (simp (disch := omega) only [q_lit, q_ofn, nI_add, q_mul, q_sub, q_shrm, q_shlm, q_a31s, q_a1, q_a3, q_a7, q_a65535, q_div, q_rem2, z_mm, nI_clamp, Nat.reduceMul, Nat.reduceAdd, Nat.reduceSub, Nat.reducePow, Nat.reduceMod, Nat.reduceDiv, Nat.one_mul]; with_reducible rfl)) ?_
    exact ih (i + 1) k _ (by omega) (by omega)
/-- what onWay says of those from place m on -/
def z_owr (P M : Nat) (sp : Nat → Nat → Nat) (F : List zE) (set last m : Nat) (ow : Nat → Int32) : Prop := ∀ (b : Nat) (f : zE), m ≤ b → F[b]? = some f → z_ok1 (z_gd P M sp F set last f) (ow f.1)
theorem z_gd_last {P M set last : Nat} {sp : Nat → Nat → Nat} {F : List zE} {i : Nat} {e : zE} (he : F[i]? = some e) (ht : e.2.2.2 = last) : z_gd P M sp F set last e ↔ e.1 &&& set = 0 := by
  unfold z_gd
  rw [ht, Nat.sub_self]
  constructor
  · intro h; exact h.2.2
  · intro h
    obtain ⟨x, d, j, t⟩ := e
    simp only at ht h
    subst ht
    exact ⟨Nat.le_refl _, ⟨i, d, j, he⟩, h⟩
theorem z_gd_lt {P M set last : Nat} {sp : Nat → Nat → Nat} {F : List zE} (hP : P ≤ 3) {i : Nat} {e : zE} (he : F[i]? = some e) (ht : e.2.2.2 < last) : z_gd P M sp F set last e ↔ ∃ E, E < 22 ∧ z_ld P M sp F set last (last - (e.2.2.2 + 1)) e.1 E := by
  unfold z_gd
  obtain ⟨r, hr⟩ : ∃ r, last - e.2.2.2 = r + 1 := ⟨last - e.2.2.2 - 1, by omega⟩
  have hr2 : last - (e.2.2.2 + 1) = r := by omega
  rw [hr, hr2]
  constructor
  · rintro ⟨_, _, D, hD, z, hz, hw⟩
    rw [z_st_all hP] at hz
    by_cases hc : z_can P M sp e.1 D = true
    · rw [if_pos hc] at hz
      cases hz
      exact ⟨D, (z_ds_mem.mp hD).1, hc, hw⟩
    · rw [if_neg hc] at hz; cases hz
  · rintro ⟨E, hE, hc, hw⟩
    refine ⟨by omega, ?_, E, z_ds_mem.mpr ⟨hE, z_can_dsv hc⟩, _, by rw [z_st_all hP, if_pos hc], hw⟩
    obtain ⟨x, d, j, t⟩ := e
    refine ⟨i, d, j, ?_⟩
    rw [he]
    simp only at ht hr ⊢
    rw [show last - (r + 1) = t by omega]
theorem m_ways_L {P M x0 : Nat} {sp : Nat → Nat → Nat} {sf fa qu : Nat → Int32} {qd : Int32} {set last : Nat} (ok : z_ok P M sp) (hr : z_rep M sp sf) (h0 : z_V P M x0) (hq : z_qr P M (z_F P M sp (2 ^ P - 1) 0 x0) qd fa qu) (hset : set < 2 ^ 31) (hlast : last < 2 ^ 31) : ∀ m k (lf : Int32) (ow : Nat → Int32), m ≤ (z_F P M sp (2 ^ P - 1) 0 x0).length → m + 50 < k → z_owr P M sp (z_F P M sp (2 ^ P - 1) 0 x0) set last m ow → wp (f_Mo_layWays_L28 (nI M) (nI P) qd fa qu sf (nI set) (nI last) k (nI m - 1) lf ow) (fun q => z_owr P M sp (z_F P M sp (2 ^ P - 1) 0 x0) set last 0 q.2) := by
  have hP := ok.2.1
  have hM := ok.2.2.1
  have hl := Nat.le_trans (z_LI_len hP hM hq.1.1) (z_cap_le hP hM)
  intro m
  induction m with
  | zero =>
    intro k lf ow hm hk hw
    obtain ⟨k, rfl⟩ : ∃ k', k = k' + 1 := ⟨k - 1, by omega⟩
    rw [f_Mo_layWays_L28]
    exact w_T (by decide) (w_some hw)
  | succ m ih =>
    intro k lf ow hm hk hw
    obtain ⟨k, rfl⟩ : ∃ k', k = k' + 1 := ⟨k - 1, by omega⟩
    have e1 : nI (m + 1) - 1 = nI m := by rw [show (1 : Int32) = nI 1 from rfl, q_sub (by omega)]; rfl
    rw [f_Mo_layWays_L28, e1]
    refine w_F (nI_pos (by omega)) ?_
    have hil : m < (z_F P M sp (2 ^ P - 1) 0 x0).length := by omega
    obtain ⟨e, he⟩ : ∃ e, (z_F P M sp (2 ^ P - 1) 0 x0)[m]? = some e := ⟨_, List.getElem?_eq_getElem hil⟩
    obtain ⟨hV, _, _, hti⟩ := hq.1.1.2 m e he
    have hV1 := hV.1
    have sorted := (z_bf_I (z_st P M sp (2 ^ P - 1) 0) (z_dx P) (z_ds P) x0 57344).2.2.1
    refine w_I (i := m) (by first | (with_reducible rfl) | (simp (disch := omega) only [q_lit, q_ofn, nI_add, q_mul, q_sub, q_shrm, q_shlm, q_a31s, q_a1, q_a3, q_a7, q_a65535, q_div, q_rem2, z_mm, nI_clamp, Nat.reduceMul, Nat.reduceAdd, Nat.reduceSub, Nat.reducePow, Nat.reduceMod, Nat.reduceDiv, Nat.one_mul]; done) | (simp (disch := omega) only [q_lit, q_ofn, nI_add, q_mul, q_sub, q_shrm, q_shlm, q_a31s, q_a1, q_a3, q_a7, q_a65535, q_div, q_rem2, z_mm, nI_clamp, Nat.reduceMul, Nat.reduceAdd, Nat.reduceSub, Nat.reducePow, Nat.reduceMod, Nat.reduceDiv, Nat.one_mul]; with_reducible rfl)) (by omega) (by first | decide | omega) ?_
    rw [hq.1.2.2.1 m e he]
    refine w_I (i := e.1) (by first | (with_reducible rfl) | (simp (disch := omega) only [q_lit, q_ofn, nI_add, q_mul, q_sub, q_shrm, q_shlm, q_a31s, q_a1, q_a3, q_a7, q_a65535, q_div, q_rem2, z_mm, nI_clamp, Nat.reduceMul, Nat.reduceAdd, Nat.reduceSub, Nat.reducePow, Nat.reduceMod, Nat.reduceDiv, Nat.one_mul]; done) | (simp (disch := omega) only [q_lit, q_ofn, nI_add, q_mul, q_sub, q_shrm, q_shlm, q_a31s, q_a1, q_a3, q_a7, q_a65535, q_div, q_rem2, z_mm, nI_clamp, Nat.reduceMul, Nat.reduceAdd, Nat.reduceSub, Nat.reducePow, Nat.reduceMod, Nat.reduceDiv, Nat.one_mul]; with_reducible rfl)) (by omega) (by first | decide | omega) ?_
    rw [hq.2 m e he]
    have fin : ∀ (x5 lf' : Int32), z_ok1 (z_gd P M sp (z_F P M sp (2 ^ P - 1) 0 x0) set last e) x5 → wp (f_Mo_layWays_J107 (f_Mo_layWays_L28 (nI M) (nI P) qd fa qu sf (nI set) (nI last) k) k lf' (nI M) (nI P) qd fa ow qu sf (nI set) (nI last) (nI m) (nI e.1) x5) (fun q => z_owr P M sp (z_F P M sp (2 ^ P - 1) 0 x0) set last 0 q.2) := by
      intro x5 lf' hx
      unfold f_Mo_layWays_J107
      refine w_C (i := e.1) rfl (by omega) (by decide) ?_
      refine w_Ln (w := nI m - 1) (by rw [Int32.sub_eq_add_neg]) ?_
      rw [nI_clamp (by omega)]
      refine ih k lf' _ (by omega) (by omega) ?_
      intro b f hb hbf
      by_cases hbm : b = m
      · subst hbm
        rw [he] at hbf
        cases hbf
        rw [z_upd_s]
        rcases hx with ⟨h1, h2⟩ | ⟨h1, h2⟩
        · exact Or.inl ⟨by rw [h1, z_nar1], h2⟩
        · exact Or.inr ⟨by rw [h1, z_nar0], h2⟩
      · have hne : f.1 ≠ e.1 := fun z => hbm (z_idx hq.1.1.1 hbf he z rfl)
        rw [z_upd_n hne]
        exact hw b f (by omega) hbf
    have J63 : ∀ (s0 : Int32), (e.2.2.2 < last → s0 = nI 0) → (¬ e.2.2.2 < last → z_ok1 (z_gd P M sp (z_F P M sp (2 ^ P - 1) 0 x0) set last e) s0) → wp (f_Mo_layWays_J63 (f_Mo_layWays_L28 (nI M) (nI P) qd fa qu sf (nI set) (nI last) k) k lf (nI M) (nI P) qd fa ow qu sf (nI set) (nI last) (nI m) (nI e.1) s0) (fun q => z_owr P M sp (z_F P M sp (2 ^ P - 1) 0 x0) set last 0 q.2) := by
      intro s0 hs1 hs2
      unfold f_Mo_layWays_J63
      by_cases ht : e.2.2.2 < last
      · have hs := hs1 ht
        subst hs
        refine w_Bw (m_ways_in (set := set) (x1 := nI set) (x3 := nI m) ok hr h0 hq he ht hlast ?_ 22 0 k (nI 0) lf (by omega) (by omega) (Or.inl rfl)) (fun q hq2 => ?_)
        · intro b f hb hd
          refine hw b f ?_ hb
          refine Nat.lt_of_not_le (fun hle => ?_)
          have := sorted b m f e hle hb he
          omega
        · obtain ⟨q1, q2⟩ := q
          refine fin q1 q2 ?_
          have iff := z_gd_lt (M := M) (sp := sp) (set := set) hP he ht
          rcases hq2 with ⟨g1, g2⟩ | ⟨g1, g2⟩
          · refine Or.inl ⟨g1, iff.mpr ?_⟩
            rcases g2 with g2 | ⟨E, _, h2, h3⟩
            · exact absurd g2 (by decide)
            · exact ⟨E, h2, h3⟩
          · refine Or.inr ⟨g1, fun z => g2 (Or.inr ?_)⟩
            obtain ⟨E, h2, h3⟩ := iff.mp z
            exact ⟨E, Nat.zero_le _, h2, h3⟩
      · have hs := hs2 ht
        obtain ⟨k, rfl⟩ : ∃ k', k = k' + 1 := ⟨k - 1, by omega⟩
        refine w_Be (q := (s0, lf)) ?_ ?_
        · rw [f_Mo_layWays_L68]
          refine e_F (by simp (disch := omega) only [q_lit, q_ofn, nI_add, q_mul, q_sub, q_shrm, q_shlm, q_a31s, q_a1, q_a3, q_a7, q_a65535, q_div, q_rem2, z_mm, nI_clamp, Nat.reduceMul, Nat.reduceAdd, Nat.reduceSub, Nat.reducePow, Nat.reduceMod, Nat.reduceDiv, Nat.one_mul, nI_ltI, nI_leI, nI_eq, q_b0, q_b1, q_m1lt, q_m1le, q_ltm1, q_lem1, q_eqm1, q_m1eq, not_true_eq_false, not_false_eq_true, reduceCtorEq, *] <;> first | omega | decide) ?_
          by_cases hz : s0 = 0
          · refine e_T hz ?_
            refine e_I (i := e.1) rfl (by omega) (by decide) ?_
            rw [hq.2 m e he]
            exact e_T (nI_le (by omega) (by omega)) rfl
          · exact e_F hz rfl
        · exact fin s0 lf hs
    have hand : (nI e.1 &&& nI set = 0) ↔ e.1 &&& set = 0 := by
      rw [q_and, q_lit, nI_eq (Nat.lt_of_le_of_lt Nat.and_le_left (by omega)) (by decide)]
    unfold f_Mo_layWays_J62
    by_cases hd : e.2.2.2 = last
    · refine w_T (by rw [hd]) ?_
      by_cases hz : e.1 &&& set = 0
      · refine w_T (hand.mpr hz) ?_
        exact J63 1 (fun z => by omega) (fun _ => Or.inl ⟨rfl, (z_gd_last he hd).mpr hz⟩)
      · refine w_F (fun z => hz (hand.mp z)) ?_
        exact J63 0 (fun z => by omega) (fun _ => Or.inr ⟨rfl, fun z => hz ((z_gd_last he hd).mp z)⟩)
    · refine w_F (by rw [nI_eq (by omega) hlast]; exact hd) ?_
      exact J63 0 (fun _ => rfl) (fun z => Or.inr ⟨rfl, fun g => by have := g.1; omega⟩)
theorem m_layWays {P M x0 : Nat} {sp : Nat → Nat → Nat} {sf fa qu : Nat → Int32} {qd : Int32} {set last : Nat} (ok : z_ok P M sp) (hr : z_rep M sp sf) (h0 : z_V P M x0) (hq : z_qr P M (z_F P M sp (2 ^ P - 1) 0 x0) qd fa qu) (hset : set < 2 ^ 31) (hlast : last < 2 ^ 31) {k : Nat} {ow : Nat → Int32} {lf : Int32} (hk : 60000 ≤ k) : wp (f_Mo_layWays k lf (nI M) (nI P) qd fa ow qu sf (nI set) (nI last)) (fun q => z_owr P M sp (z_F P M sp (2 ^ P - 1) 0 x0) set last 0 q.2) := by
  have hP := ok.2.1
  have hM := ok.2.2.1
  have hl := Nat.le_trans (z_LI_len hP hM hq.1.1) (z_cap_le hP hM)
  unfold f_Mo_layWays
  refine w_Bw (m_ways_0 57344 0 k ow (by omega) (by omega)) (fun w4 _ => ?_)
  refine w_L ?_
  rw [hq.1.2.1]
  refine w_Bw (R := fun q => z_owr P M sp (z_F P M sp (2 ^ P - 1) 0 x0) set last 0 q.2) ?_ (fun q hq2 => ?_)
  · rw [← hq.1.2.1]
    have g := m_ways_L ok hr h0 hq hset hlast (z_F P M sp (2 ^ P - 1) 0 x0).length k lf w4 (Nat.le_refl _) (by omega) (fun b f hb hbf => by have := z_at_lt hbf; omega)
    rw [← hq.1.2.1] at g
    exact g
  · obtain ⟨q1, q2⟩ := q
    exact w_some hq2
