/-! way -/
def z_ans (w D : Nat) : Int32 := if w = 0 then (if D = 21 then -nI 1 else nI (D / 7)) else if w = 1 then nI (z_srt D) else nI (z_whc D)
theorem z_ans0 (D : Nat) : z_ans 0 D = if D = 21 then -nI 1 else nI (D / 7) := rfl
theorem z_ans1 (D : Nat) : z_ans 1 D = nI (z_srt D) := rfl
theorem z_ans2 (D : Nat) : z_ans 2 D = nI (z_whc D) := rfl
theorem t_isDeed {L d : Nat} (hd : d < L) (hL : L ≤ 19) : f_Ru_isDeed (nI L) (nI d) = some (nI 1) := by
  unfold f_Ru_isDeed
  exact e_F (nI_pos (by omega)) (e_F (by simp (disch := omega) only [q_lit, q_ofn, nI_add, q_mul, q_sub, q_shrm, q_shlm, q_a31s, q_a1, q_a3, q_a7, q_a65535, q_div, q_rem2, z_mm, nI_clamp, Nat.reduceMul, Nat.reduceAdd, Nat.reduceSub, Nat.reducePow, Nat.reduceMod, Nat.reduceDiv, Nat.one_mul, nI_ltI, nI_leI, nI_eq, q_b0, q_b1, q_m1lt, q_m1le, q_ltm1, q_lem1, q_eqm1, q_m1eq, not_true_eq_false, not_false_eq_true, reduceCtorEq, *] <;> first | omega | decide) (e_F (by simp (disch := omega) only [q_lit, q_ofn, nI_add, q_mul, q_sub, q_shrm, q_shlm, q_a31s, q_a1, q_a3, q_a7, q_a65535, q_div, q_rem2, z_mm, nI_clamp, Nat.reduceMul, Nat.reduceAdd, Nat.reduceSub, Nat.reducePow, Nat.reduceMod, Nat.reduceDiv, Nat.one_mul, nI_ltI, nI_leI, nI_eq, q_b0, q_b1, q_m1lt, q_m1le, q_ltm1, q_lem1, q_eqm1, q_m1eq, not_true_eq_false, not_false_eq_true, reduceCtorEq, *] <;> first | omega | decide) rfl))
theorem m_J170 {k D w s : Nat} {lf mm nw pp qd : Int32} {fa ow qu sf : Nat → Int32} (hD : D < 22) (hw : w < 3) (hs : z_srt D = s) : f_Mo_way_J170 k lf mm nw pp qd fa ow qu sf (nI w) (nI D) (nI (D % 7)) (nI s) = some (z_ans w D, lf, qd, fa, ow, qu) := by
  unfold f_Mo_way_J170
  have hw : w = 0 ∨ w = 1 ∨ w = 2 := by omega
  rcases hw with rfl | rfl | rfl
  · refine e_T rfl ?_
    rw [z_ans0]
    by_cases h21 : D = 21
    · subst h21; exact e_T rfl rfl
    · refine e_F (by simp (disch := omega) only [q_lit, q_ofn, nI_add, q_mul, q_sub, q_shrm, q_shlm, q_a31s, q_a1, q_a3, q_a7, q_a65535, q_div, q_rem2, z_mm, nI_clamp, Nat.reduceMul, Nat.reduceAdd, Nat.reduceSub, Nat.reducePow, Nat.reduceMod, Nat.reduceDiv, Nat.one_mul, nI_ltI, nI_leI, nI_eq, q_b0, q_b1, q_m1lt, q_m1le, q_ltm1, q_lem1, q_eqm1, q_m1eq, not_true_eq_false, not_false_eq_true, reduceCtorEq, *] <;> first | omega | decide) ?_
      rw [if_neg h21, show (7 : Int32) = nI 7 from rfl, q_div (by omega) (by decide) (by decide)]
  · refine e_F (by decide) (e_T rfl ?_)
    rw [z_ans1, hs]
  · refine e_F (by decide) (e_F (by decide) ?_)
    rw [z_ans2]
    unfold z_srt at hs
    unfold z_whc
    by_cases h21 : D = 21
    · rw [if_pos h21] at hs ⊢; subst hs
      exact e_F (by decide) (e_F (by decide) rfl)
    · rw [if_neg h21] at hs ⊢
      by_cases h3 : D % 7 < 3
      · rw [if_pos h3] at hs ⊢; subst hs; exact e_T rfl rfl
      · rw [if_neg h3] at hs ⊢
        by_cases h4 : D % 7 = 3
        · rw [if_pos h4] at hs ⊢; subst hs; exact e_F (by decide) (e_F (by decide) rfl)
        · rw [if_neg h4] at hs ⊢
          by_cases h6 : D % 7 < 6
          · rw [if_pos h6] at hs ⊢; subst hs
            refine e_F (by decide) (e_T rfl ?_)
            rw [show (4 : Int32) = nI 4 from rfl, q_sub (by omega)]
          · rw [if_neg h6] at hs ⊢; subst hs; exact e_F (by decide) (e_F (by decide) rfl)
theorem m_wayE {k D w : Nat} {lf mm nw pp qd : Int32} {fa ow qu sf : Nat → Int32} (hD : D < 22) (hw : w < 3) : x_L (nI D - nI D / (7 : Int32) * (7 : Int32)) (fun y32 => if nI D = (21 : Int32) then (f_Mo_way_J170 k lf mm nw pp qd fa ow qu sf (nI w) (nI D) y32 (4 : Int32)) else if (3 : Int32) ≤ y32 then (if y32 = (3 : Int32) then (f_Mo_way_J170 k lf mm nw pp qd fa ow qu sf (nI w) (nI D) y32 (1 : Int32)) else if (6 : Int32) ≤ y32 then (f_Mo_way_J170 k lf mm nw pp qd fa ow qu sf (nI w) (nI D) y32 (3 : Int32)) else f_Mo_way_J170 k lf mm nw pp qd fa ow qu sf (nI w) (nI D) y32 (2 : Int32)) else f_Mo_way_J170 k lf mm nw pp qd fa ow qu sf (nI w) (nI D) y32 (0 : Int32)) = some (z_ans w D, lf, qd, fa, ow, qu) := by
  refine e_L ?_
  rw [show nI D - nI D / (7 : Int32) * (7 : Int32) = nI (D % 7) by simp (disch := omega) only [q_lit, q_div, q_mul, q_rem2]]
  have hm : D % 7 < 7 := Nat.mod_lt _ (by decide)
  by_cases h21 : D = 21
  · subst h21
    exact e_T rfl (m_J170 (s := 4) hD hw rfl)
  · refine e_F (by simp (disch := omega) only [q_lit, q_ofn, nI_add, q_mul, q_sub, q_shrm, q_shlm, q_a31s, q_a1, q_a3, q_a7, q_a65535, q_div, q_rem2, z_mm, nI_clamp, Nat.reduceMul, Nat.reduceAdd, Nat.reduceSub, Nat.reducePow, Nat.reduceMod, Nat.reduceDiv, Nat.one_mul, nI_ltI, nI_leI, nI_eq, q_b0, q_b1, q_m1lt, q_m1le, q_ltm1, q_lem1, q_eqm1, q_m1eq, not_true_eq_false, not_false_eq_true, reduceCtorEq, *] <;> first | omega | decide) ?_
    by_cases h3 : D % 7 < 3
    · exact e_F (by simp (disch := omega) only [q_lit, q_ofn, nI_add, q_mul, q_sub, q_shrm, q_shlm, q_a31s, q_a1, q_a3, q_a7, q_a65535, q_div, q_rem2, z_mm, nI_clamp, Nat.reduceMul, Nat.reduceAdd, Nat.reduceSub, Nat.reducePow, Nat.reduceMod, Nat.reduceDiv, Nat.one_mul, nI_ltI, nI_leI, nI_eq, q_b0, q_b1, q_m1lt, q_m1le, q_ltm1, q_lem1, q_eqm1, q_m1eq, not_true_eq_false, not_false_eq_true, reduceCtorEq, *] <;> first | omega | decide) (m_J170 (s := 0) hD hw (by unfold z_srt; rw [if_neg h21, if_pos h3]))
    · refine e_T (by simp (disch := omega) only [q_lit, q_ofn, nI_add, q_mul, q_sub, q_shrm, q_shlm, q_a31s, q_a1, q_a3, q_a7, q_a65535, q_div, q_rem2, z_mm, nI_clamp, Nat.reduceMul, Nat.reduceAdd, Nat.reduceSub, Nat.reducePow, Nat.reduceMod, Nat.reduceDiv, Nat.one_mul, nI_ltI, nI_leI, nI_eq, q_b0, q_b1, q_m1lt, q_m1le, q_ltm1, q_lem1, q_eqm1, q_m1eq, not_true_eq_false, not_false_eq_true, reduceCtorEq, *] <;> first | omega | decide) ?_
      by_cases h4 : D % 7 = 3
      · exact e_T (by rw [h4]; rfl) (m_J170 (s := 1) hD hw (by unfold z_srt; rw [if_neg h21, if_neg h3, if_pos h4]))
      · refine e_F (by simp (disch := omega) only [q_lit, q_ofn, nI_add, q_mul, q_sub, q_shrm, q_shlm, q_a31s, q_a1, q_a3, q_a7, q_a65535, q_div, q_rem2, z_mm, nI_clamp, Nat.reduceMul, Nat.reduceAdd, Nat.reduceSub, Nat.reducePow, Nat.reduceMod, Nat.reduceDiv, Nat.one_mul, nI_ltI, nI_leI, nI_eq, q_b0, q_b1, q_m1lt, q_m1le, q_ltm1, q_lem1, q_eqm1, q_m1eq, not_true_eq_false, not_false_eq_true, reduceCtorEq, *] <;> first | omega | decide) ?_
        by_cases h6 : D % 7 < 6
        · exact e_F (by simp (disch := omega) only [q_lit, q_ofn, nI_add, q_mul, q_sub, q_shrm, q_shlm, q_a31s, q_a1, q_a3, q_a7, q_a65535, q_div, q_rem2, z_mm, nI_clamp, Nat.reduceMul, Nat.reduceAdd, Nat.reduceSub, Nat.reducePow, Nat.reduceMod, Nat.reduceDiv, Nat.one_mul, nI_ltI, nI_leI, nI_eq, q_b0, q_b1, q_m1lt, q_m1le, q_ltm1, q_lem1, q_eqm1, q_m1eq, not_true_eq_false, not_false_eq_true, reduceCtorEq, *] <;> first | omega | decide) (m_J170 (s := 2) hD hw (by unfold z_srt; rw [if_neg h21, if_neg h3, if_neg h4, if_pos h6]))
        · exact e_T (by simp (disch := omega) only [q_lit, q_ofn, nI_add, q_mul, q_sub, q_shrm, q_shlm, q_a31s, q_a1, q_a3, q_a7, q_a65535, q_div, q_rem2, z_mm, nI_clamp, Nat.reduceMul, Nat.reduceAdd, Nat.reduceSub, Nat.reducePow, Nat.reduceMod, Nat.reduceDiv, Nat.one_mul, nI_ltI, nI_leI, nI_eq, q_b0, q_b1, q_m1lt, q_m1le, q_ltm1, q_lem1, q_eqm1, q_m1eq, not_true_eq_false, not_false_eq_true, reduceCtorEq, *] <;> first | omega | decide) (m_J170 (s := 3) hD hw (by unfold z_srt; rw [if_neg h21, if_neg h3, if_neg h4, if_neg h6]))
theorem p_way {ns k : Nat} {ci : Nat → Int32} {cf : Nat → Nat → Int32} {cl : Nat → Nat → Int64} {cn : Nat → Nat} {mi : Nat → Int32} {mf : Nat → Nat → Int32} (hk : 200000 ≤ k) (h : z_inv ns ci cf cl cn mi mf) (p1 p2 p3 : Int32) : wp (f_SS_way k (cn 0) (ci 1) (ci 2) (ci 3) (ci 4) (ci 5) (ci 6) (ci 17) (ci 18) (ci 19) (ci 20) (ci 24) (ci 25) (cl 0) (cl 1) (cf 12) (cf 13) (cf 15) (cf 17) (cf 18) (cf 19) (cf 20) (cf 21) (cf 22) (cf 23) (cf 24) p1 p2 p3) (fun q => wp (f_Mo_way k (mi 5) (mi 6) (mi 7) (mi 9) (mi 12) (mf 0) (mf 5) (mf 8) (mf 11) p1 p2 p3) (fun q' => q.1 = q'.1 ∧ z_inv ns (z_u (z_u (z_u (z_u (z_u (z_u ci 1 q.2.2.1) 2 q.2.2.2.1) 3 q.2.2.2.2.1) 4 q.2.2.2.2.2.1) 5 q.2.2.2.2.2.2.1) 6 q.2.2.2.2.2.2.2.1) cf (z_u (z_u cl 0 q.2.2.2.2.2.2.2.2.1) 1 q.2.2.2.2.2.2.2.2.2) (z_u cn 0 q.2.1) (z_u (z_u mi 5 q'.2.1) 12 q'.2.2.1) (z_u (z_u (z_u mf 0 q'.2.2.2.1) 5 q'.2.2.2.2.1) 8 q'.2.2.2.2.2))) := by
  obtain ⟨c, n, S, x, d, hT, ok, hdr, hml, hRU, hN, hU, hK, hR, hQ, hY, hF, hW, hl1, hl2, hb⟩ := h
  have hPe : (ci 24) = nI S.1 := hdr.2.2.1; have hSp : (ci 25) = nI S.2.1 := hdr.2.2.2.1; have hmM : (mi 6) = nI S.2.1 := hml.1; have hmP : (mi 9) = nI S.1 := hml.2.1; have hP1 := ok.1.1; have hP3 := ok.1.2.1; have hM5 := ok.1.2.2.1
  have hr1 : (ci 18) = nI S.1 := hRU.1; have hr2 : (ci 19) = nI S.2.1 := hRU.2.1; have hdt := hRU.2.2.2.2; have hr3 : (ci 17) = nI (z_ds S.1).length := hdt.1; have hA := hRU.2.2.1; have hB := z_RB_of ok.1 hdt; have hrep := hml.2.2.2.2; have h8 := z_all8 hP3; obtain ⟨n1, n2, n3, n4, n5, n6⟩ := id hN
  rw [hSp, hPe, hmP, hmM, n3, n5, hr1, hr2, hr3]
  have hl19 := (z_ds_len hP1 hP3).2
  rcases z_set hM5 p1 with ⟨a1, a2⟩ | ⟨v, hv, hv2, rfl, a1, a2⟩
  · refine w_2 (r1 := (-2, (cn 0), (ci 1), (ci 2), (ci 3), (ci 4), (ci 5), (ci 6), (cl 0), (cl 1))) (r2 := (-2, (mi 5), (mi 12), (mf 0), (mf 5), (mf 8))) ?_ ?_ ⟨rfl, c, n, S, x, d, hT, ok, hdr, hml, hRU, hN, hU, hK, hR, hQ, hY, hF, hW, hl1, hl2, hb⟩
    · unfold f_SS_way
      exact e_B a1 (e_T rfl rfl)
    · unfold f_Mo_way
      exact e_B a2 (e_T rfl rfl)
  · rcases q_any p2 with hneg | ⟨i, hi, rfl⟩
    · refine w_2 (r1 := (-3, (cn 0), (ci 1), (ci 2), (ci 3), (ci 4), (ci 5), (ci 6), (cl 0), (cl 1))) (r2 := (-3, (mi 5), (mi 12), (mf 0), (mf 5), (mf 8))) ?_ ?_ ⟨rfl, c, n, S, x, d, hT, ok, hdr, hml, hRU, hN, hU, hK, hR, hQ, hY, hF, hW, hl1, hl2, hb⟩
      · unfold f_SS_way
        exact e_B a1 (e_F (by decide) (e_T hneg rfl))
      · unfold f_Mo_way
        exact e_B a2 (e_F (by decide) (e_T hneg rfl))
    · rcases z_smal (p := p3) 3 (by decide) with hneg | ⟨w, hw, rfl⟩ | ⟨w, hw, hw', rfl⟩
      · refine w_2 (r1 := (-3, (cn 0), (ci 1), (ci 2), (ci 3), (ci 4), (ci 5), (ci 6), (cl 0), (cl 1))) (r2 := (-3, (mi 5), (mi 12), (mf 0), (mf 5), (mf 8))) ?_ ?_ ⟨rfl, c, n, S, x, d, hT, ok, hdr, hml, hRU, hN, hU, hK, hR, hQ, hY, hF, hW, hl1, hl2, hb⟩
        · unfold f_SS_way
          exact e_B a1 (e_F (by decide) (e_F (nI_pos hi) (e_T hneg rfl)))
        · unfold f_Mo_way
          exact e_B a2 (e_F (by decide) (e_F (nI_pos hi) (e_B (m_inneg hneg (a := 0) (by decide) (lN 2)) (e_T rfl rfl))))
      · have hin := m_in0N (v := w) (b := 2) (by omega) (by decide)
        rw [decide_eq_true (by omega)] at hin
        unfold f_SS_way
        refine w_Be a1 (w_F (by decide) (w_F (nI_pos hi) (w_F (nI_pos (by omega)) (w_T (by simp (disch := omega) only [q_lit, q_ofn, nI_add, q_mul, q_sub, q_shrm, q_shlm, q_a31s, q_a1, q_a3, q_a7, q_a65535, q_div, q_rem2, z_mm, nI_clamp, Nat.reduceMul, Nat.reduceAdd, Nat.reduceSub, Nat.reducePow, Nat.reduceMod, Nat.reduceDiv, Nat.one_mul, nI_ltI, nI_leI, nI_eq, q_b0, q_b1, q_m1lt, q_m1le, q_ltm1, q_lem1, q_eqm1, q_m1eq, not_true_eq_false, not_false_eq_true, reduceCtorEq, *] <;> first | omega | decide) ?_))))
        refine w_Bw (q_from ok.1 hdt n1 (by omega) hF) ?_; rintro ⟨w1, w2, w3, w4, w5, w6, w7, w8, w9⟩ ⟨hg, hs⟩; refine w_G (z_gr_nlt hP3 hM5 hs) ?_
        refine w_Bw (q_deedTo ok.1 hA hB (by decide) n1 (by omega) hs hv2 hi) ?_
        rintro ⟨y, o1, o2, o3, o4⟩ ⟨hd, hs2⟩
        have hd : z_dto (z_F S.1 S.2.1 S.2.2.2.2 (2 ^ S.1 - 1) 0 x) v i y := hd
        rcases hd with ⟨rfl, hall | ⟨p, e, g1, g2, g3, g4⟩⟩ | ⟨p, e, g, g1, g2, g3, g4, g5, rfl⟩
        · refine w_T rfl (w_some ?_)
          refine w_mono (Q := fun q' => q'.1 = -1) ?_ (fun q' e => ⟨e.symm, c, n, S, x, d, hT, ok, hdr, hml, hRU, hN, hU, hK, hR, hQ, hY, z_SO_of hs2 h8 (by decide) n1, hW, i_len_gr hP3 hM5 hg hl1, hl2, hb⟩)
          unfold f_Mo_way
          refine w_Be a2 (w_F (by decide) (w_F (nI_pos hi) (w_Be hin (w_F (by decide) ?_))))
          refine w_Bw (m_layAll ok.1 hrep n1 (by omega)) ?_
          rintro ⟨u1, u2, u3, u4⟩ hq
          refine w_Be (m_few hP3 hM5 hq hv2 (by omega)) ?_
          rw [z_few_none hall]
          exact w_T rfl (w_some rfl)
        · refine w_T rfl (w_some ?_)
          refine w_mono (Q := fun q' => q'.1 = -1) ?_ (fun q' e => ⟨e.symm, c, n, S, x, d, hT, ok, hdr, hml, hRU, hN, hU, hK, hR, hQ, hY, z_SO_of hs2 h8 (by decide) n1, hW, i_len_gr hP3 hM5 hg hl1, hl2, hb⟩)
          unfold f_Mo_way
          refine w_Be a2 (w_F (by decide) (w_F (nI_pos hi) (w_Be hin (w_F (by decide) ?_))))
          refine w_Bw (m_layAll ok.1 hrep n1 (by omega)) ?_
          rintro ⟨u1, u2, u3, u4⟩ hq
          have hle := (hq.1.1.2 _ _ g1).2.2.2
          have hlt := z_at_lt g1
          have hlen := z_F_len (who := 2 ^ S.1 - 1) (bar := 0) ok.1 n1 57344
          have hlt : p < (z_B S.1 S.2.1 S.2.2.2.2 (2 ^ S.1 - 1) 0 x 57344).length := hlt
          refine w_Be (m_few hP3 hM5 hq hv2 (by omega)) ?_
          rw [z_few_some g1 g2 g3]
          refine w_F (fun z => (q_eqm1 (by omega)).mp z) ?_
          exact w_F (nI_nlt g4 hi) (w_some rfl)
        · have I1 := (z_bf_I (z_st S.1 S.2.1 S.2.2.2.2 (2 ^ S.1 - 1) 0) (z_dx S.1) (z_ds S.1) x 57344).1
          obtain ⟨x', d', j', hu⟩ := z_up_at I1 g1 rfl (e.2.2.2 - 1 - i) (by omega)
          have hgu : g = (x', d', j', e.2.2.2 - (e.2.2.2 - 1 - i)) := Option.some.inj (g5.symm.trans hu)
          subst hgu
          obtain ⟨D, hdd⟩ : ∃ D, (z_ds S.1)[d']? = some D := by
            rcases I1 _ _ _ _ _ g5 with ⟨_, h0⟩ | ⟨x2, d2, j2, t2, D, pre, suf, b1, b2, b3, b4, b5, b6, b7, b8⟩
            · omega
            · obtain ⟨dd, hdd⟩ := List.getElem?_of_mem (b4 ▸ List.mem_append_right _ (List.mem_cons_self ..) : D ∈ z_ds S.1)
              exact ⟨D, by rw [b6, z_dx_at hdd]; exact hdd⟩
          have hdl : d' < (z_ds S.1).length := (List.getElem?_eq_some_iff.mp hdd).1
          have hD : D < 22 := (z_ds_mem.mp (List.mem_of_getElem? hdd)).1
          obtain ⟨v1, v2, v3, v4, v5, v6⟩ := hdt.2 _ _ hdd
          have isd := t_isDeed hdl hl19
          have ref : wp (f_Mo_way k (mi 5) (mi 6) (mi 7) (mi 9) (mi 12) (mf 0) (mf 5) (mf 8) (mf 11) (nI v) (nI i) (nI w)) (fun q' => q'.1 = z_ans w D) := by
            rw [hmP, hmM, n5]
            unfold f_Mo_way
            refine w_Be a2 (w_F (by decide) (w_F (nI_pos hi) (w_Be hin (w_F (by decide) ?_))))
            refine w_Bw (m_layAll ok.1 hrep n1 (by omega)) ?_
            rintro ⟨u1, u2, u3, u4⟩ hq
            have hle := (hq.1.1.2 _ _ g1).2.2.2
            have hlt := z_at_lt g1
            have hlen := z_F_len (who := 2 ^ S.1 - 1) (bar := 0) ok.1 n1 57344
            have hlt : p < (z_B S.1 S.2.1 S.2.2.2.2 (2 ^ S.1 - 1) 0 x 57344).length := hlt
            refine w_Be (m_few hP3 hM5 hq hv2 (by omega)) ?_
            rw [z_few_some g1 g2 g3]
            refine w_F (fun z => (q_eqm1 (by omega)).mp z) ?_
            refine w_T (nI_lt g4 (by omega)) ?_
            refine w_Bw (m_layWays ok.1 hrep n1 hq hv2 (by omega) (by omega)) ?_
            rintro ⟨t1, t2⟩ how
            obtain ⟨x0', d0, j0, hu0⟩ := z_up_at I1 g1 rfl e.2.2.2 (Nat.le_refl _)
            have hx0 : x0' = x := by
              rcases I1 _ _ _ _ _ hu0 with ⟨h0, _⟩ | ⟨x2, d2, j2, t2, D, pre, suf, b1, b2, b3, b4, b5, b6, b7, b8⟩
              · rw [h0] at hu0
                have := z_bf_0 (z_st S.1 S.2.1 S.2.2.2.2 (2 ^ S.1 - 1) 0) (z_dx S.1) (z_ds S.1) x 57344
                exact (congrArg Prod.fst (Option.some.inj (this.symm.trans hu0))).symm
              · omega
            subst hx0
            refine w_Bw (m_way_L (x3 := nI w) (nw := nI x0') ok.1 hrep n1 hq g1 rfl g2 g3 how g4 i 0 k _ _ _ (by omega) (by omega) hu0) ?_
            rintro ⟨y30, w31⟩ ⟨D', g', e1, e2, e3⟩
            have hgg : g' = (x', d', j', e.2.2.2 - (e.2.2.2 - 1 - i)) := Option.some.inj (e2.symm.trans hu)
            subst hgg
            have hDD : D' = D := Option.some.inj (e3.symm.trans hdd)
            subst hDD
            have e1 : y30 = nI D' := e1
            subst e1
            exact w_of (m_wayE hD hw) rfl
          rw [hmP, hmM, n5] at ref
          refine w_F (fun z => (q_eqm1 (a := d') (by omega)).mp z) ?_
          have hw3 : w = 0 ∨ w = 1 ∨ w = 2 := by omega
          rcases hw3 with rfl | rfl | rfl
          · refine w_T rfl (w_Be (q := z_ans 0 D) ?_ (w_some (w_mono ref (fun q' e => ⟨e.symm, c, n, S, x, d, hT, ok, hdr, hml, hRU, hN, hU, hK, hR, hQ, hY, z_SO_of hs2 h8 (by decide) n1, hW, i_len_gr hP3 hM5 hg hl1, hl2, hb⟩))))
            unfold f_Ru_doerOf
            exact e_B isd (e_F (by decide) (e_I (i := d') rfl (by omega) (by decide) (congrArg some v3)))
          · refine w_F (by decide) (w_T rfl (w_Be (q := z_ans 1 D) ?_ (w_some (w_mono ref (fun q' e => ⟨e.symm, c, n, S, x, d, hT, ok, hdr, hml, hRU, hN, hU, hK, hR, hQ, hY, z_SO_of hs2 h8 (by decide) n1, hW, i_len_gr hP3 hM5 hg hl1, hl2, hb⟩)))))
            unfold f_Ru_sortOf
            exact e_B isd (e_F (by decide) (e_I (i := d') rfl (by omega) (by decide) (congrArg some v5)))
          · refine w_F (by decide) (w_F (by decide) (w_Be (q := z_ans 2 D) ?_ (w_some (w_mono ref (fun q' e => ⟨e.symm, c, n, S, x, d, hT, ok, hdr, hml, hRU, hN, hU, hK, hR, hQ, hY, z_SO_of hs2 h8 (by decide) n1, hW, i_len_gr hP3 hM5 hg hl1, hl2, hb⟩)))))
            unfold f_Ru_whichOf
            exact e_B isd (e_F (by decide) (e_I (i := d') rfl (by omega) (by decide) (congrArg some v6)))
      · have hin := m_in0N (v := w) (b := 2) (by omega) (by decide)
        rw [decide_eq_false (by omega)] at hin
        refine w_2 (r1 := (-3, (cn 0), (ci 1), (ci 2), (ci 3), (ci 4), (ci 5), (ci 6), (cl 0), (cl 1))) (r2 := (-3, (mi 5), (mi 12), (mf 0), (mf 5), (mf 8))) ?_ ?_ ⟨rfl, c, n, S, x, d, hT, ok, hdr, hml, hRU, hN, hU, hK, hR, hQ, hY, hF, hW, hl1, hl2, hb⟩
        · unfold f_SS_way
          exact e_B a1 (e_F (by decide) (e_F (nI_pos hi) (e_F (nI_pos (by omega)) (e_F (by simp (disch := omega) only [q_lit, q_ofn, nI_add, q_mul, q_sub, q_shrm, q_shlm, q_a31s, q_a1, q_a3, q_a7, q_a65535, q_div, q_rem2, z_mm, nI_clamp, Nat.reduceMul, Nat.reduceAdd, Nat.reduceSub, Nat.reducePow, Nat.reduceMod, Nat.reduceDiv, Nat.one_mul, nI_ltI, nI_leI, nI_eq, q_b0, q_b1, q_m1lt, q_m1le, q_ltm1, q_lem1, q_eqm1, q_m1eq, not_true_eq_false, not_false_eq_true, reduceCtorEq, *] <;> first | omega | decide) rfl))))
        · unfold f_Mo_way
          exact e_B a2 (e_F (by decide) (e_F (nI_pos hi) (e_B hin (e_T rfl rfl))))
