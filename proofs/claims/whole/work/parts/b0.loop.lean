theorem lw_bits (z : Int32) : ∃ w, w < 64 ∧ z &&& (63 : Int32) = nI w := by
  have h : z = nI z.toBitVec.toNat := by
    apply Int32.toBitVec_inj.1
    show z.toBitVec = BitVec.ofNat 32 z.toBitVec.toNat
    simp
  refine ⟨z.toBitVec.toNat &&& 63, Nat.lt_of_le_of_lt Nat.and_le_right (by decide), ?_⟩
  rw [← q_and, ← h]
  rfl
theorem lw_sub6 : ∀ L, L < 385 → (Int32.ofNat L - 6).toInt = (L : Int) - 6 := by decide +kernel
theorem lw_gt {n L : Nat} (hL : L ≤ 384) (hn : 6 * n ≤ 384) (h : L < 6 * n + 6) : Int32.ofNat L - 6 < nI (6 * n) := by
  rw [Int32.lt_iff_toInt_lt, lw_sub6 L (by omega), nI_toInt (by omega)]
  omega
theorem lw_inc (n : Nat) : nI (6 * n) + 6 = nI (6 * (n + 1)) := by
  rw [show (6 : Int32) = nI 6 from rfl, nI_add, Nat.mul_add]
theorem lw_out {w : Nat} (h : 35 ≤ w) (hw : w < 64) : (nI w).toInt < 0 ∨ 34 < (nI w).toInt := by
  rw [nI_toInt (by omega)]
  omega
theorem lw_end {ns nq n ce sl : Nat} (h1 : ns + nq = n) (hn : n ≤ 64) (h2 : ce ≤ 69 + 2 * nq) (h3 : sl ≤ 232814 + nq * (if ns < 4 then 1792 else 114688)) : ce ≤ 600000 ∧ sl ≤ 7302250 := by
  by_cases h4 : ns < 4
  · rw [if_pos h4] at h3; omega
  · rw [if_neg h4] at h3; omega
set_option maxHeartbeats 8000000 in
set_option maxRecDepth 100000 in
theorem lw_loop {p : Program} {l : Launch} {e : Env} {s : State} {m : MethodId} {below : List Frame} {meth : Method} {c : Code} {b L : Nat} {xs : Nat → Int32} {G : GG} {aT bT : Nat} {r : Nat → Nat} (hL : L ≤ 384) (C0 : lw_At p s m meth c b L xs) (hbA : ¬ bs G b) (hKK : KK G s s.heap) (hA : ∀ q, s.heap.size ≤ q → bs G q) (hA2 : ∀ q, bs G q → s.heap.size ≤ q) : ∀ t n (q : Nat → Nat) (H : Heap) (lo : List Loc) (ce sl : Nat) (ls : Array Slot), n + t = 65 → 6 * n ≤ L → lw_I G s aT bT r n q H lo ce sl → lv_has ls 4 [(0, .ref b), (1, .ref aT), (2, .ref bT), (3, .int (nI (6 * n)))] → W p l e room_1 s m #[Value.ref b] below meth c H lo ce sl (lw_Z below #[Value.ref b] s) (F0 m 18 ls []) := by
  obtain ⟨hx, hb, hr, hml, hown, hts, hX, hbl, hlocks, hgv⟩ := id C0
  have X : Cx p s m #[Value.ref b] c cL_law 4 "SevenSpellsLaw" lw_tbl := ⟨hx, hb, hml, hown, hts, fun w h => (List.mem_filter.mp h).1⟩
  intro t
  induction t with
  | zero =>
    intro n q H lo ce sl ls hnt hnL
    exact absurd hnL (by omega)
  | succ t ih =>
    intro n q H lo ce sl ls hnt hnL I hl
    obtain ⟨ns, nq, ci, cf, cl, cn, mi, mf, hI, hP, hD, hS, hc1, hc2, hc3⟩ := id I
    refine lv_iload_n hx hb dL_law_18 rfl (lv_at hl 3 rfl) ?_
    refine lv_aload_n hx hb dL_law_19 rfl (lv_at hl 0 rfl) ?_
    refine va_slen hx hb hX hbl hbA hS dL_law_20 ?_
    refine lv_bipush (v := (6 : Int32)) hx hb dL_law_21 (by decide) ?_
    refine lv_isub hx hb dL_law_23 ?_
    refine lv_icmp_gt (tgt := 1099) hx hb dL_law_24 (by decide) (fun c1 => ?_) (fun c1 => ?_)
    · have hrm := lw_end hc1 (show n ≤ 64 by omega) hc2 hc3
      refine lv_iconst (v := (1 : Int32)) hx hb dL_law_1099 (by decide) ?_
      refine va_forget (fun q hq => hA2 _ (hS.2.2 q hq)) ?_
      refine W.widen (k := 600000) (n := 7302250) hrm.1 hrm.2 ?_
      exact lw_ret hx hb hr hlocks dL_law_1100
    · have hn6 : 6 * n + 6 ≤ L := by
        rcases Nat.lt_or_ge L (6 * n + 6) with h | h
        · exact absurd (lw_gt hL (by omega) h) c1
        · exact h
      have hn63 : n ≤ 63 := by omega
      have next : ∀ q H lo ce sl, lw_I G s aT bT r (n + 1) q H lo ce sl → W p l e room_1 s m #[Value.ref b] below meth c H lo ce sl (lw_Z below #[Value.ref b] s) (F0 m 1093 ls []) := by
        intro q H lo ce sl I
        refine lv_iinc (v := nI (6 * (n + 1))) (lv' := [(3, .int (nI (6 * (n + 1)))), (0, .ref b), (1, .ref aT), (2, .ref bT)]) hx hb dL_law_1093 hl (k := 3) rfl (lw_inc n) (by decide) rfl (fun ls hl => ?_)
        refine lv_goto (tgt := 18) hx hb dL_law_1096 (by decide) ?_
        exact ih (n + 1) q H lo ce sl ls (by omega) (by omega) I (lv_sub hl [1, 2, 3, 0] rfl)
      have hin : vp_in (nI (6 * n)) L := vp_in_nI (by omega) (by omega)
      refine lv_aload_n hx hb dL_law_27 rfl (lv_at hl 0 rfl) ?_
      refine lv_iload_n hx hb dL_law_28 rfl (lv_at hl 3 rfl) ?_
      refine va_sld hx hb hX hbl hbA hS hin dL_law_29 ?_
      refine lv_bipush (v := (63 : Int32)) hx hb dL_law_30 (by decide) ?_
      refine lv_iand hx hb dL_law_32 ?_
      obtain ⟨w, hw, ew⟩ := lw_bits (xs (nI (6 * n)).toNatClampNeg)
      rw [ew]
      have hcs : w = 0 ∨ w = 1 ∨ w = 2 ∨ w = 3 ∨ w = 4 ∨ w = 5 ∨ w = 6 ∨ w = 7 ∨ w = 8 ∨ w = 9 ∨ w = 10 ∨ w = 11 ∨ w = 12 ∨ w = 13 ∨ w = 14 ∨ w = 15 ∨ w = 16 ∨ w = 17 ∨ w = 18 ∨ w = 19 ∨ w = 20 ∨ w = 21 ∨ w = 22 ∨ w = 23 ∨ w = 24 ∨ w = 25 ∨ w = 26 ∨ w = 27 ∨ w = 28 ∨ w = 29 ∨ w = 30 ∨ w = 31 ∨ w = 32 ∨ w = 33 ∨ w = 34 ∨ 35 ≤ w := by omega
      rcases hcs with rfl | rfl | rfl | rfl | rfl | rfl | rfl | rfl | rfl | rfl | rfl | rfl | rfl | rfl | rfl | rfl | rfl | rfl | rfl | rfl | rfl | rfl | rfl | rfl | rfl | rfl | rfl | rfl | rfl | rfl | rfl | rfl | rfl | rfl | rfl | hcs
      · refine lv_tableIn (off := 155) (tgt := 188) hx hb dL_law_33 (by decide) (by decide) (by decide) (by decide) ?_
        exact lw_s_write X hX hbl hbA hKK hA hL hn6 hn63 hl next q H lo ce sl I
      · refine lv_tableIn (off := 178) (tgt := 211) hx hb dL_law_33 (by decide) (by decide) (by decide) (by decide) ?_
        exact lw_s_erase X hX hbl hbA hKK hA hL hn6 hn63 hl next q H lo ce sl I
      · refine lv_tableIn (off := 191) (tgt := 224) hx hb dL_law_33 (by decide) (by decide) (by decide) (by decide) ?_
        exact lw_s_fault X hX hbl hbA hKK hA hL hn6 hn63 hl next q H lo ce sl I
      · refine lv_tableIn (off := 204) (tgt := 237) hx hb dL_law_33 (by decide) (by decide) (by decide) (by decide) ?_
        exact lw_s_land X hX hbl hbA hKK hA hL hn6 hn63 hl next q H lo ce sl I
      · refine lv_tableIn (off := 217) (tgt := 250) hx hb dL_law_33 (by decide) (by decide) (by decide) (by decide) ?_
        exact lw_s_person X hX hbl hbA hKK hA hL hn6 hn63 hl next q H lo ce sl I
      · refine lv_tableIn (off := 250) (tgt := 283) hx hb dL_law_33 (by decide) (by decide) (by decide) (by decide) ?_
        exact lw_s_spell X hX hbl hbA hKK hA hL hn6 hn63 hl next q H lo ce sl I
      · refine lv_tableIn (off := 283) (tgt := 316) hx hb dL_law_33 (by decide) (by decide) (by decide) (by decide) ?_
        exact lw_s_term X hX hbl hbA hKK hA hL hn6 hn63 hl next q H lo ce sl I
      · refine lv_tableIn (off := 326) (tgt := 359) hx hb dL_law_33 (by decide) (by decide) (by decide) (by decide) ?_
        exact lw_s_as X hX hbl hbA hKK hA hL hn6 hn63 hl next q H lo ce sl I
      · refine lv_tableIn (off := 359) (tgt := 392) hx hb dL_law_33 (by decide) (by decide) (by decide) (by decide) ?_
        exact lw_s_laidBy X hX hbl hbA hKK hA hL hn6 hn63 hl next q H lo ce sl I
      · refine lv_tableIn (off := 382) (tgt := 415) hx hb dL_law_33 (by decide) (by decide) (by decide) (by decide) ?_
        exact lw_s_can X hX hbl hbA hKK hA hL hn6 hn63 hl next q H lo ce sl I
      · refine lv_tableIn (off := 425) (tgt := 458) hx hb dL_law_33 (by decide) (by decide) (by decide) (by decide) ?_
        exact lw_s_act X hX hbl hbA hKK hA hL hn6 hn63 hl next q H lo ce sl I
      · refine lv_tableIn (off := 468) (tgt := 501) hx hb dL_law_33 (by decide) (by decide) (by decide) (by decide) ?_
        exact lw_s_undo X hX hbl hbA hKK hA hL hn6 hn63 hl next q H lo ce sl I
      · refine lv_tableIn (off := 481) (tgt := 514) hx hb dL_law_33 (by decide) (by decide) (by decide) (by decide) ?_
        exact lw_s_keep X hX hbl hbA hKK hA hL hn6 hn63 hl next q H lo ce sl I
      · refine lv_tableIn (off := 504) (tgt := 537) hx hb dL_law_33 (by decide) (by decide) (by decide) (by decide) ?_
        exact lw_s_back X hX hbl hbA hKK hA hL hn6 hn63 hl next q H lo ce sl I
      · refine lv_tableIn (off := 527) (tgt := 560) hx hb dL_law_33 (by decide) (by decide) (by decide) (by decide) ?_
        exact lw_s_fewest X hX hbl hbA hKK hA hL hn6 hn63 hl next q H lo ce sl I
      · refine lv_tableIn (off := 550) (tgt := 583) hx hb dL_law_33 (by decide) (by decide) (by decide) (by decide) ?_
        exact lw_s_way X hX hbl hbA hKK hA hL hn6 hn63 hl next q H lo ce sl I
      · refine lv_tableIn (off := 593) (tgt := 626) hx hb dL_law_33 (by decide) (by decide) (by decide) (by decide) ?_
        exact lw_s_helpers X hX hbl hbA hKK hA hL hn6 hn63 hl next q H lo ce sl I
      · refine lv_tableIn (off := 626) (tgt := 659) hx hb dL_law_33 (by decide) (by decide) (by decide) (by decide) ?_
        exact lw_s_nights X hX hbl hbA hKK hA hL hn6 hn63 hl next q H lo ce sl I
      · refine lv_tableIn (off := 649) (tgt := 682) hx hb dL_law_33 (by decide) (by decide) (by decide) (by decide) ?_
        exact lw_s_never X hX hbl hbA hKK hA hL hn6 hn63 hl next q H lo ce sl I
      · refine lv_tableIn (off := 662) (tgt := 695) hx hb dL_law_33 (by decide) (by decide) (by decide) (by decide) ?_
        exact lw_s_ahead X hX hbl hbA hKK hA hL hn6 hn63 hl next q H lo ce sl I
      · refine lv_tableIn (off := 685) (tgt := 718) hx hb dL_law_33 (by decide) (by decide) (by decide) (by decide) ?_
        exact lw_s_props X hX hbl hbA hKK hA hL hn6 hn63 hl next q H lo ce sl I
      · refine lv_tableIn (off := 698) (tgt := 731) hx hb dL_law_33 (by decide) (by decide) (by decide) (by decide) ?_
        exact lw_s_gone X hX hbl hbA hKK hA hL hn6 hn63 hl next q H lo ce sl I
      · refine lv_tableIn (off := 731) (tgt := 764) hx hb dL_law_33 (by decide) (by decide) (by decide) (by decide) ?_
        exact lw_s_many X hX hbl hbA hKK hA hL hn6 hn63 hl next q H lo ce sl I
      · refine lv_tableIn (off := 754) (tgt := 787) hx hb dL_law_33 (by decide) (by decide) (by decide) (by decide) ?_
        exact lw_s_farthest X hX hbl hbA hKK hA hL hn6 hn63 hl next q H lo ce sl I
      · refine lv_tableIn (off := 767) (tgt := 800) hx hb dL_law_33 (by decide) (by decide) (by decide) (by decide) ?_
        exact lw_s_row X hX hbl hbA hKK hA hL hn6 hn63 hl next q H lo ce sl I
      · refine lv_tableIn (off := 810) (tgt := 843) hx hb dL_law_33 (by decide) (by decide) (by decide) (by decide) ?_
        exact lw_s_burn X hX hbl hbA hKK hA hL hn6 hn63 hl next q H lo ce sl I
      · refine lv_tableIn (off := 823) (tgt := 856) hx hb dL_law_33 (by decide) (by decide) (by decide) (by decide) ?_
        exact lw_s_judge X hX hbl hbA hKK hA hL hn6 hn63 hl next q H lo ce sl I
      · refine lv_tableIn (off := 846) (tgt := 879) hx hb dL_law_33 (by decide) (by decide) (by decide) (by decide) ?_
        exact lw_s_prince X hX hbl hbA hKK hA hL hn6 hn63 hl next q H lo ce sl I
      · refine lv_tableIn (off := 889) (tgt := 922) hx hb dL_law_33 (by decide) (by decide) (by decide) (by decide) ?_
        exact lw_s_dismiss X hX hbl hbA hKK hA hL hn6 hn63 hl next q H lo ce sl I
      · refine lv_tableIn (off := 902) (tgt := 935) hx hb dL_law_33 (by decide) (by decide) (by decide) (by decide) ?_
        exact lw_s_inLine X hX hbl hbA hKK hA hL hn6 hn63 hl next q H lo ce sl I
      · refine lv_tableIn (off := 925) (tgt := 958) hx hb dL_law_33 (by decide) (by decide) (by decide) (by decide) ?_
        exact lw_s_tried X hX hbl hbA hKK hA hL hn6 hn63 hl next q H lo ce sl I
      · refine lv_tableIn (off := 988) (tgt := 1021) hx hb dL_law_33 (by decide) (by decide) (by decide) (by decide) ?_
        exact lw_s_forget X hX hbl hbA hKK hA hL hn6 hn63 hl next q H lo ce sl I
      · refine lv_tableIn (off := 1001) (tgt := 1034) hx hb dL_law_33 (by decide) (by decide) (by decide) (by decide) ?_
        exact lw_s_mayBe X hX hbl hbA hKK hA hL hn6 hn63 hl next q H lo ce sl I
      · refine lv_tableIn (off := 1024) (tgt := 1057) hx hb dL_law_33 (by decide) (by decide) (by decide) (by decide) ?_
        exact lw_s_next X hX hbl hbA hKK hA hL hn6 hn63 hl next q H lo ce sl I
      · refine lv_tableIn (off := 1037) (tgt := 1070) hx hb dL_law_33 (by decide) (by decide) (by decide) (by decide) ?_
        exact lw_s_count X hX hbl hbA hKK hA hL hn6 hn63 hl next q H lo ce sl I
      · refine lv_tableOut (tgt := 1093) hx hb dL_law_33 (lw_out hcs hw) (by decide) ?_
        have hrm := lw_room0 hc1 hn63 hc2 hc3
        exact next q H lo ce sl ⟨ns + 1, nq, ci, cf, cl, cn, mi, mf, z_inv_s hI, hP, hD, hS, by omega, hrm.2.1, hrm.2.2⟩
