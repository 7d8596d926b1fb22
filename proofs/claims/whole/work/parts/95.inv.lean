/-! the two states side by side -/
def z_u {α : Type} (f : Nat → α) (k : Nat) (v : α) : Nat → α := fun j => if j = k then v else f j
def i_text (c : Nat → Nat) (n : Nat) (ts : Int32) (tf : Nat → Int32) (ln : Int32) (mt : Nat → Int32) : Prop := z_tx c n tf ∧ z_tx c n mt ∧ ts = nI n ∧ ln = nI n
def i_now (P M x d : Nat) (st de nw md : Int32) : Prop := z_V P M x ∧ d ≤ 9999 ∧ st = nI x ∧ de = nI d ∧ nw = nI x ∧ md = nI d
def i_past (P M d : Nat) (us : Int32) (uf : Nat → Int32) (pm : Int32) (pf : Nat → Int32) : Prop := ∃ u, u ≤ 8 ∧ u ≤ d ∧ us = nI u ∧ pm = nI u ∧ ∀ i, i < u → ∃ y, z_V P M y ∧ uf i = nI y ∧ pf i = nI y
def i_kept (P M : Nat) (kd ks ik md ms : Nat → Int32) : Prop := ∀ i, i < 2 → (ik i = nI 0 ∧ kd i = -nI 1) ∨ (ik i = nI 1 ∧ ∃ y e, z_V P M y ∧ e ≤ 9999 ∧ kd i = nI e ∧ ks i = nI y ∧ md i = nI e ∧ ms i = nI y)
def i_row (P : Nat) (rs : Int32) (rf : Nat → Int32) (rm : Int32) (mf : Nat → Int32) : Prop := ∃ w, w ≤ 12 ∧ rs = nI w ∧ rm = nI w ∧ ∀ i, i < w → ∃ d D, (z_ds P)[d]? = some D ∧ rf i = nI d ∧ mf i = nI D
def i_prin (P : Nat) (ps : Int32) (pf : Nat → Int32) (pm : Int32) (mf : Nat → Int32) : Prop := ∃ w, w ≤ 5 ∧ ps = nI w ∧ pm = nI w ∧ ∀ i, i < w → ∃ d p dy v, (z_ds P)[d]? = some (7 * p + v) ∧ p < P ∧ v < P ∧ v ≠ p ∧ dy < 7 ∧ pf i = nI (d * 8 + dy) ∧ mf (3 * i) = nI p ∧ mf (3 * i + 1) = nI dy ∧ mf (3 * i + 2) = nI v
def i_try (P : Nat) (lf ts : Int32) (tf : Nat → Int32) (tm : Int32) (mf : Nat → Int32) : Prop := ∃ t T, z_ctr P t T lf tf ∧ z_mtr P t T mf ∧ ts = nI t ∧ tm = nI t
def i_len (n : Nat) : Prop := n = 0 ∨ ∃ j, j ≤ 8 ∧ n = 224 * 2 ^ j
def i_bud (ns n P M : Nat) : Prop := n ≤ ns ∧ (P + M = 2 ∨ 4 ≤ ns)
def z_inv (ns : Nat) (ci : Nat → Int32) (cf : Nat → Nat → Int32) (cl : Nat → Nat → Int64) (cn : Nat → Nat) (mi : Nat → Int32) (mf : Nat → Nat → Int32) : Prop := ∃ (c : Nat → Nat) (n : Nat) (S : zS) (x d : Nat),
  i_text c n (ci 21) (cf 25) (mi 4) (mf 12) ∧
  z_okL S ∧ z_dr S ((ci 22), (ci 23), (ci 24), (ci 25), (cf 26), (cf 27), (cf 28), (cf 29), (cf 30), (cf 31)) ∧
  z_ml S ((mi 6), (mi 9), (mi 17), (mi 18), (mf 11)) ∧
  z_RU S.1 S.2.1 S.2.2.2.2 ((ci 17), (ci 18), (ci 19), (cf 12), (cf 13), (cf 14), (cf 15), (cf 16), (cf 17), (cf 18), (cf 19), (cf 20), (cf 21), (cf 22), (cf 23), (cf 24)) ∧
  i_now S.1 S.2.1 x d (ci 20) (ci 0) (mi 7) (mi 1) ∧
  i_past S.1 S.2.1 d (ci 29) (cf 34) (mi 8) (mf 6) ∧
  i_kept S.1 S.2.1 (cf 0) (cf 1) (mf 1) (mf 2) (mf 3) ∧
  i_row S.1 (ci 16) (cf 11) (mi 16) (mf 10) ∧
  i_prin S.1 (ci 7) (cf 2) (mi 11) (mf 7) ∧
  i_try S.1 (ci 26) (ci 28) (cf 33) (mi 19) (mf 13) ∧
  z_SO S.1 S.2.1 S.2.2.2.2 ((cn 0), (ci 1), (ci 2), (ci 3), (ci 4), (ci 5), (ci 6), (cl 0), (cl 1)) ∧
  z_SO S.1 S.2.1 S.2.2.2.2 ((cn 1), (ci 30), (ci 31), (ci 32), (ci 33), (ci 34), (ci 35), (cl 2), (cl 3)) ∧
  i_len (cn 0) ∧ i_len (cn 1) ∧ i_bud ns n S.1 S.2.1
theorem i_bud_s {ns n P M : Nat} (h : i_bud ns n P M) : i_bud (ns + 1) n P M := ⟨by have := h.1; omega, by have := h.2; omega⟩
theorem w_2 {α β : Type} {o1 : Option α} {o2 : Option β} {r1 : α} {r2 : β} {Q : α → β → Prop} (e1 : o1 = some r1) (e2 : o2 = some r2) (h : Q r1 r2) : wp o1 (fun q => wp o2 (fun q' => Q q q')) := ⟨r1, e1, r2, e2, h⟩
theorem w_2w {α β : Type} {o1 : Option α} {o2 : Option β} {R1 : α → Prop} {R2 : β → Prop} {Q : α → β → Prop} (h1 : wp o1 R1) (h2 : wp o2 R2) (h : ∀ q q', R1 q → R2 q' → Q q q') : wp o1 (fun q => wp o2 (fun q' => Q q q')) := by
  obtain ⟨q, e, hq⟩ := h1
  obtain ⟨q', e', hq'⟩ := h2
  exact ⟨q, e, q', e', h q q' hq hq'⟩
theorem m_in0N {v b : Nat} (hv : v < 2 ^ 31) (hb : b < 2 ^ 31) : f_Mo_in (nI v).toInt64 (0 : Int64) (lN b) = some (nI (decide (v ≤ b)).toNat) := by
  have := m_inN (n := v) (a := 0) (b := b) hv (by decide) hb
  rw [show (0 : Int64) = lN 0 from rfl, this]
  congr 4
  apply propext
  omega
theorem p_write {ns k : Nat} {ci : Nat → Int32} {cf : Nat → Nat → Int32} {cl : Nat → Nat → Int64} {cn : Nat → Nat} {mi : Nat → Int32} {mf : Nat → Nat → Int32} (hk : 200000 ≤ k) (h : z_inv ns ci cf cl cn mi mf) (p1 : Int32) : wp (f_SS_write 240 (ci 21) (cf 25) p1) (fun q => wp (f_Mo_write (mi 4) (mf 12) p1) (fun q' => q.1 = q'.1 ∧ z_inv (ns + 1) (z_u ci 21 q.2.1) (z_u cf 25 q.2.2) cl cn (z_u mi 4 q'.2.1) (z_u mf 12 q'.2.2))) := by
  obtain ⟨c, n, S, x, d, hT, ok, hdr, hml, hRU, hN, hU, hK, hR, hQ, hY, hF, hW, hl1, hl2, hb⟩ := h
  obtain ⟨t1, t2, t3, t4⟩ := hT
  have hn := t1.1
  rw [t3, t4]
  have bad : ∀ r : Int32, (f_SS_write 240 (nI n) (cf 25) p1 = some (r, nI n, cf 25)) → (f_Mo_write (nI n) (mf 12) p1 = some (r, nI n, mf 12)) → wp (f_SS_write 240 (nI n) (cf 25) p1) (fun q => wp (f_Mo_write (nI n) (mf 12) p1) (fun q' => q.1 = q'.1 ∧ z_inv (ns + 1) (z_u ci 21 q.2.1) (z_u cf 25 q.2.2) cl cn (z_u mi 4 q'.2.1) (z_u mf 12 q'.2.2))) := fun r e1 e2 => w_2 e1 e2 ⟨rfl, c, n, S, x, d, ⟨t1, t2, rfl, rfl⟩, ok, hdr, hml, hRU, hN, hU, hK, hR, hQ, hY, hF, hW, hl1, hl2, i_bud_s hb⟩
  rcases q_any p1 with hneg | ⟨v, hv, rfl⟩
  · refine bad (-3) ?_ ?_
    · unfold f_SS_write
      exact e_T hneg rfl
    · unfold f_Mo_write
      exact e_B (m_inneg hneg (a := 0) (by decide) (lN 255)) (e_T rfl rfl)
  · have hin := m_in0N (b := 255) hv (by decide)
    by_cases hle : v ≤ 255
    · rw [decide_eq_true hle] at hin
      by_cases hf : n = 240
      · subst hf
        refine bad (-5) ?_ ?_
        · unfold f_SS_write
          refine e_F (nI_pos hv) ?_
          refine e_T (by simp (disch := omega) only [q_lit, q_ofn, nI_add, q_mul, q_sub, q_shrm, q_shlm, q_a31s, q_a1, q_a3, q_a7, q_a65535, q_div, q_rem2, z_mm, nI_clamp, Nat.reduceMul, Nat.reduceAdd, Nat.reduceSub, Nat.reducePow, Nat.reduceMod, Nat.reduceDiv, Nat.one_mul, nI_ltI, nI_leI, nI_eq, q_b0, q_b1, q_m1lt, q_m1le, q_ltm1, q_lem1, q_eqm1, q_m1eq, not_true_eq_false, not_false_eq_true, reduceCtorEq, *] <;> first | omega | decide) ?_
          exact e_B (t_addF (by omega) (by decide)) (e_T rfl rfl)
        · unfold f_Mo_write
          refine e_B hin ?_
          refine e_F (by decide) ?_
          exact e_T rfl rfl
      · have e1 : f_SS_write 240 (nI n) (cf 25) (nI v) = some (nI (n + 1), nI (n + 1), upd (cf 25) n (nI v)) := by
          unfold f_SS_write f_Rw_size
          refine e_F (nI_pos hv) ?_
          refine e_T (by simp (disch := omega) only [q_lit, q_ofn, nI_add, q_mul, q_sub, q_shrm, q_shlm, q_a31s, q_a1, q_a3, q_a7, q_a65535, q_div, q_rem2, z_mm, nI_clamp, Nat.reduceMul, Nat.reduceAdd, Nat.reduceSub, Nat.reducePow, Nat.reduceMod, Nat.reduceDiv, Nat.one_mul, nI_ltI, nI_leI, nI_eq, q_b0, q_b1, q_m1lt, q_m1le, q_ltm1, q_lem1, q_eqm1, q_m1eq, not_true_eq_false, not_false_eq_true, reduceCtorEq, *] <;> first | omega | decide) ?_
          refine e_B (t_add (by omega) (by decide)) ?_
          refine e_F (by decide) ?_
          exact e_B rfl rfl
        have e2 : f_Mo_write (nI n) (mf 12) (nI v) = some (nI (n + 1), nI (n + 1), upd (mf 12) n (nI v)) := by
          unfold f_Mo_write
          refine e_B hin ?_
          refine e_F (by decide) ?_
          refine e_F (by rw [q_lit, nI_eq (by omega) (by decide)]; exact hf) ?_
          refine e_C (i := n) (by first | (with_reducible rfl) | (simp (disch := omega) only [q_lit, q_ofn, nI_add, q_mul, q_sub, q_shrm, q_shlm, q_a31s, q_a1, q_a3, q_a7, q_a65535, q_div, q_rem2, z_mm, nI_clamp, Nat.reduceMul, Nat.reduceAdd, Nat.reduceSub, Nat.reducePow, Nat.reduceMod, Nat.reduceDiv, Nat.one_mul]; done) | (simp (disch := omega) only [q_lit, q_ofn, nI_add, q_mul, q_sub, q_shrm, q_shlm, q_a31s, q_a1, q_a3, q_a7, q_a65535, q_div, q_rem2, z_mm, nI_clamp, Nat.reduceMul, Nat.reduceAdd, Nat.reduceSub, Nat.reducePow, Nat.reduceMod, Nat.reduceDiv, Nat.one_mul]; with_reducible rfl)) (by omega) (by first | decide | omega) ?_
          refine e_L ?_
          rw [nI_clamp (by omega)]
          simp only [q_lit, nI_add]
        refine w_2 e1 e2 ⟨rfl, fun i => if i = n then v else c i, n + 1, S, x, d, ⟨?_, ?_, rfl, rfl⟩, ok, hdr, hml, hRU, hN, hU, hK, hR, hQ, hY, hF, hW, hl1, hl2, ?_⟩
        · refine ⟨by omega, fun i hi => ?_⟩
          show upd (cf 25) n (nI v) i = nI (if i = n then v else c i) ∧ (if i = n then v else c i) ≤ 255
          by_cases hin : i = n
          · rw [if_pos hin, hin, z_upd_s]; exact ⟨rfl, hle⟩
          · rw [if_neg hin, z_upd_n hin]; exact t1.2 i (by omega)
        · refine ⟨by omega, fun i hi => ?_⟩
          show upd (mf 12) n (nI v) i = nI (if i = n then v else c i) ∧ (if i = n then v else c i) ≤ 255
          by_cases hin : i = n
          · rw [if_pos hin, hin, z_upd_s]; exact ⟨rfl, hle⟩
          · rw [if_neg hin, z_upd_n hin]; exact t2.2 i (by omega)
        · exact ⟨by have := hb.1; omega, by have := hb.2; omega⟩
    · rw [decide_eq_false hle] at hin
      refine bad (-3) ?_ ?_
      · unfold f_SS_write
        refine e_F (nI_pos hv) ?_
        exact e_F (by simp (disch := omega) only [q_lit, q_ofn, nI_add, q_mul, q_sub, q_shrm, q_shlm, q_a31s, q_a1, q_a3, q_a7, q_a65535, q_div, q_rem2, z_mm, nI_clamp, Nat.reduceMul, Nat.reduceAdd, Nat.reduceSub, Nat.reducePow, Nat.reduceMod, Nat.reduceDiv, Nat.one_mul, nI_ltI, nI_leI, nI_eq, q_b0, q_b1, q_m1lt, q_m1le, q_ltm1, q_lem1, q_eqm1, q_m1eq, not_true_eq_false, not_false_eq_true, reduceCtorEq, *] <;> first | omega | decide) rfl
      · unfold f_Mo_write
        exact e_B hin (e_T rfl rfl)
theorem z_tx_0 {c : Nat → Nat} {n : Nat} {f : Nat → Int32} : z_tx c 0 f := ⟨by decide, fun i hi => by omega⟩
theorem p_erase {ns k : Nat} {ci : Nat → Int32} {cf : Nat → Nat → Int32} {cl : Nat → Nat → Int64} {cn : Nat → Nat} {mi : Nat → Int32} {mf : Nat → Nat → Int32} (hk : 200000 ≤ k) (h : z_inv ns ci cf cl cn mi mf) : wp (f_SS_erase (ci 21)) (fun q => wp (f_Mo_erase (mi 4)) (fun q' => q.1 = q'.1 ∧ z_inv (ns + 1) (z_u ci 21 q.2) cf cl cn (z_u mi 4 q'.2) mf)) := by
  obtain ⟨c, n, S, x, d, hT, ok, hdr, hml, hRU, hN, hU, hK, hR, hQ, hY, hF, hW, hl1, hl2, hb⟩ := h
  obtain ⟨t1, t2, t3, t4⟩ := hT
  rw [t3, t4]
  exact w_2 rfl rfl ⟨rfl, c, 0, S, x, d, ⟨z_tx_0 (n := 0), z_tx_0 (n := 0), rfl, rfl⟩, ok, hdr, hml, hRU, hN, hU, hK, hR, hQ, hY, hF, hW, hl1, hl2, ⟨Nat.zero_le _, (i_bud_s hb).2⟩⟩
theorem p_burn {ns k : Nat} {ci : Nat → Int32} {cf : Nat → Nat → Int32} {cl : Nat → Nat → Int64} {cn : Nat → Nat} {mi : Nat → Int32} {mf : Nat → Nat → Int32} (hk : 200000 ≤ k) (h : z_inv ns ci cf cl cn mi mf) : wp (f_SS_burn (ci 16)) (fun q => wp (f_Mo_burn (mi 16)) (fun q' => q.1 = q'.1 ∧ z_inv (ns + 1) (z_u ci 16 q.2) cf cl cn (z_u mi 16 q'.2) mf)) := by
  obtain ⟨c, n, S, x, d, hT, ok, hdr, hml, hRU, hN, hU, hK, hR, hQ, hY, hF, hW, hl1, hl2, hb⟩ := h
  obtain ⟨w, r1, r2, r3, r4⟩ := hR
  rw [r2, r3]
  exact w_2 rfl rfl ⟨rfl, c, n, S, x, d, hT, ok, hdr, hml, hRU, hN, hU, hK, ⟨0, by decide, rfl, rfl, fun i hi => by omega⟩, hQ, hY, hF, hW, hl1, hl2, i_bud_s hb⟩
theorem p_dismiss {ns k : Nat} {ci : Nat → Int32} {cf : Nat → Nat → Int32} {cl : Nat → Nat → Int64} {cn : Nat → Nat} {mi : Nat → Int32} {mf : Nat → Nat → Int32} (hk : 200000 ≤ k) (h : z_inv ns ci cf cl cn mi mf) : wp (f_SS_dismiss (ci 7)) (fun q => wp (f_Mo_dismiss (mi 11)) (fun q' => q.1 = q'.1 ∧ z_inv (ns + 1) (z_u ci 7 q.2) cf cl cn (z_u mi 11 q'.2) mf)) := by
  obtain ⟨c, n, S, x, d, hT, ok, hdr, hml, hRU, hN, hU, hK, hR, hQ, hY, hF, hW, hl1, hl2, hb⟩ := h
  obtain ⟨w, r1, r2, r3, r4⟩ := hQ
  rw [r2, r3]
  exact w_2 rfl rfl ⟨rfl, c, n, S, x, d, hT, ok, hdr, hml, hRU, hN, hU, hK, hR, ⟨0, by decide, rfl, rfl, fun i hi => by omega⟩, hY, hF, hW, hl1, hl2, i_bud_s hb⟩
theorem i_try_0 {P : Nat} {tf mf : Nat → Int32} : i_try P (nI 0) (nI 0) tf (nI 0) mf := ⟨0, fun _ _ => 0, ⟨⟨by decide, fun i hi => by omega⟩, rfl, fun i hi => by omega⟩, ⟨⟨by decide, fun i hi => by omega⟩, fun i hi => by omega⟩, rfl, rfl⟩
theorem p_forget {ns k : Nat} {ci : Nat → Int32} {cf : Nat → Nat → Int32} {cl : Nat → Nat → Int64} {cn : Nat → Nat} {mi : Nat → Int32} {mf : Nat → Nat → Int32} (hk : 200000 ≤ k) (h : z_inv ns ci cf cl cn mi mf) : wp (f_SS_forget (ci 26) (ci 28)) (fun q => wp (f_Mo_forget (mi 19)) (fun q' => q.1 = q'.1 ∧ z_inv (ns + 1) (z_u (z_u ci 26 q.2.1) 28 q.2.2) cf cl cn (z_u mi 19 q'.2) mf)) := by
  obtain ⟨c, n, S, x, d, hT, ok, hdr, hml, hRU, hN, hU, hK, hR, hQ, hY, hF, hW, hl1, hl2, hb⟩ := h
  obtain ⟨t, T, r1, r2, r3, r4⟩ := hY
  rw [r3, r4]
  exact w_2 rfl rfl ⟨rfl, c, n, S, x, d, hT, ok, hdr, hml, hRU, hN, hU, hK, hR, hQ, i_try_0, hF, hW, hl1, hl2, i_bud_s hb⟩
theorem p_undo {ns k : Nat} {ci : Nat → Int32} {cf : Nat → Nat → Int32} {cl : Nat → Nat → Int64} {cn : Nat → Nat} {mi : Nat → Int32} {mf : Nat → Nat → Int32} (hk : 200000 ≤ k) (h : z_inv ns ci cf cl cn mi mf) : wp (f_SS_undo 8 (ci 0) (ci 20) (ci 29) (cf 34)) (fun q => wp (f_Mo_undo (mi 1) (mi 7) (mi 8) (mf 6)) (fun q' => q.1 = q'.1 ∧ z_inv (ns + 1) (z_u (z_u (z_u ci 0 q.2.1) 20 q.2.2.1) 29 q.2.2.2) cf cl cn (z_u (z_u (z_u mi 1 q'.2.1) 7 q'.2.2.1) 8 q'.2.2.2) mf)) := by
  obtain ⟨c, n, S, x, d, hT, ok, hdr, hml, hRU, hN, hU, hK, hR, hQ, hY, hF, hW, hl1, hl2, hb⟩ := h
  obtain ⟨u, u1, u2, u3, u4, u5⟩ := hU
  obtain ⟨n1, n2, n3, n4, n5, n6⟩ := hN
  rw [u3, u4, n3, n4, n5, n6]
  by_cases h0 : u = 0
  · subst h0
    have e1 : f_SS_undo 8 (nI d) (nI x) (nI 0) (cf 34) = some (-4, nI d, nI x, nI 0) := by
      unfold f_SS_undo f_Rw_size
      exact e_B rfl (e_T rfl rfl)
    have e2 : f_Mo_undo (nI d) (nI x) (nI 0) (mf 6) = some (-4, nI d, nI x, nI 0) := by
      unfold f_Mo_undo
      exact e_T rfl rfl
    exact w_2 e1 e2 ⟨rfl, c, n, S, x, d, hT, ok, hdr, hml, hRU, ⟨n1, n2, rfl, rfl, rfl, rfl⟩, ⟨0, by decide, by omega, rfl, rfl, fun i hi => by omega⟩, hK, hR, hQ, hY, hF, hW, hl1, hl2, i_bud_s hb⟩
  · obtain ⟨y, y1, y2, y3⟩ := u5 (u - 1) (by omega)
    have e1 : f_SS_undo 8 (nI d) (nI x) (nI u) (cf 34) = some (nI (u - 1), nI (d - 1), nI y, nI (u - 1)) := by
      unfold f_SS_undo f_Rw_size f_Rw_dropLast
      refine e_B rfl ?_
      refine e_F (nI_ne0 (by omega) (by omega)) ?_
      refine e_B rfl ?_
      rw [show nI u - 1 = nI (u - 1) by rw [show (1 : Int32) = nI 1 from rfl, q_sub (by omega)]]
      refine e_B (t_at (by omega) u1 (by decide)) ?_
      rw [y2, if_neg (nI_pos (by omega))]
      refine e_B rfl ?_
      refine e_L ?_
      refine e_B rfl ?_
      rw [show nI d - 1 = nI (d - 1) by rw [show (1 : Int32) = nI 1 from rfl, q_sub (by omega)]]
    have e2 : f_Mo_undo (nI d) (nI x) (nI u) (mf 6) = some (nI (u - 1), nI (d - 1), nI y, nI (u - 1)) := by
      unfold f_Mo_undo
      refine e_F (nI_ne0 (by omega) (by omega)) ?_
      refine e_L ?_
      rw [show nI u - 1 = nI (u - 1) by rw [show (1 : Int32) = nI 1 from rfl, q_sub (by omega)]]
      refine e_I (i := u - 1) rfl (by omega) (by decide) ?_
      rw [y3]
      refine e_L ?_
      rw [show nI d - 1 = nI (d - 1) by rw [show (1 : Int32) = nI 1 from rfl, q_sub (by omega)]]
    exact w_2 e1 e2 ⟨rfl, c, n, S, y, d - 1, hT, ok, hdr, hml, hRU, ⟨y1, by omega, rfl, rfl, rfl, rfl⟩, ⟨u - 1, by omega, by omega, rfl, rfl, fun i hi => u5 i (by omega)⟩, hK, hR, hQ, hY, hF, hW, hl1, hl2, i_bud_s hb⟩
