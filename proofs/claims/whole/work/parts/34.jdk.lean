theorem dJ6_bitCount_0f7a4_0 : decode cJ6_bitCount_0f7a4 0 = .ok (.iload_n 0, 1) := by decide +kernel
theorem dJ6_bitCount_0f7a4_1 : decode cJ6_bitCount_0f7a4 1 = .ok (.iload_n 0, 1) := by decide +kernel
theorem dJ6_bitCount_0f7a4_2 : decode cJ6_bitCount_0f7a4 2 = .ok (.iconst 1, 1) := by decide +kernel
theorem dJ6_bitCount_0f7a4_3 : decode cJ6_bitCount_0f7a4 3 = .ok (.iushr, 1) := by decide +kernel
theorem dJ6_bitCount_0f7a4_4 : decode cJ6_bitCount_0f7a4 4 = .ok (.ldc_w 265, 3) := by decide +kernel
theorem dJ6_bitCount_0f7a4_7 : decode cJ6_bitCount_0f7a4 7 = .ok (.iand, 1) := by decide +kernel
theorem dJ6_bitCount_0f7a4_8 : decode cJ6_bitCount_0f7a4 8 = .ok (.isub, 1) := by decide +kernel
theorem dJ6_bitCount_0f7a4_9 : decode cJ6_bitCount_0f7a4 9 = .ok (.istore_n 0, 1) := by decide +kernel
theorem dJ6_bitCount_0f7a4_10 : decode cJ6_bitCount_0f7a4 10 = .ok (.iload_n 0, 1) := by decide +kernel
theorem dJ6_bitCount_0f7a4_11 : decode cJ6_bitCount_0f7a4 11 = .ok (.ldc_w 266, 3) := by decide +kernel
theorem dJ6_bitCount_0f7a4_14 : decode cJ6_bitCount_0f7a4 14 = .ok (.iand, 1) := by decide +kernel
theorem dJ6_bitCount_0f7a4_15 : decode cJ6_bitCount_0f7a4 15 = .ok (.iload_n 0, 1) := by decide +kernel
theorem dJ6_bitCount_0f7a4_16 : decode cJ6_bitCount_0f7a4 16 = .ok (.iconst 2, 1) := by decide +kernel
theorem dJ6_bitCount_0f7a4_17 : decode cJ6_bitCount_0f7a4 17 = .ok (.iushr, 1) := by decide +kernel
theorem dJ6_bitCount_0f7a4_18 : decode cJ6_bitCount_0f7a4 18 = .ok (.ldc_w 266, 3) := by decide +kernel
theorem dJ6_bitCount_0f7a4_21 : decode cJ6_bitCount_0f7a4 21 = .ok (.iand, 1) := by decide +kernel
theorem dJ6_bitCount_0f7a4_22 : decode cJ6_bitCount_0f7a4 22 = .ok (.iadd, 1) := by decide +kernel
theorem dJ6_bitCount_0f7a4_23 : decode cJ6_bitCount_0f7a4 23 = .ok (.istore_n 0, 1) := by decide +kernel
theorem dJ6_bitCount_0f7a4_24 : decode cJ6_bitCount_0f7a4 24 = .ok (.iload_n 0, 1) := by decide +kernel
theorem dJ6_bitCount_0f7a4_25 : decode cJ6_bitCount_0f7a4 25 = .ok (.iload_n 0, 1) := by decide +kernel
theorem dJ6_bitCount_0f7a4_26 : decode cJ6_bitCount_0f7a4 26 = .ok (.iconst 4, 1) := by decide +kernel
theorem dJ6_bitCount_0f7a4_27 : decode cJ6_bitCount_0f7a4 27 = .ok (.iushr, 1) := by decide +kernel
theorem dJ6_bitCount_0f7a4_28 : decode cJ6_bitCount_0f7a4 28 = .ok (.iadd, 1) := by decide +kernel
theorem dJ6_bitCount_0f7a4_29 : decode cJ6_bitCount_0f7a4 29 = .ok (.ldc_w 267, 3) := by decide +kernel
theorem dJ6_bitCount_0f7a4_32 : decode cJ6_bitCount_0f7a4 32 = .ok (.iand, 1) := by decide +kernel
theorem dJ6_bitCount_0f7a4_33 : decode cJ6_bitCount_0f7a4 33 = .ok (.istore_n 0, 1) := by decide +kernel
theorem dJ6_bitCount_0f7a4_34 : decode cJ6_bitCount_0f7a4 34 = .ok (.iload_n 0, 1) := by decide +kernel
theorem dJ6_bitCount_0f7a4_35 : decode cJ6_bitCount_0f7a4 35 = .ok (.iload_n 0, 1) := by decide +kernel
theorem dJ6_bitCount_0f7a4_36 : decode cJ6_bitCount_0f7a4 36 = .ok (.bipush 8, 2) := by decide +kernel
theorem dJ6_bitCount_0f7a4_38 : decode cJ6_bitCount_0f7a4 38 = .ok (.iushr, 1) := by decide +kernel
theorem dJ6_bitCount_0f7a4_39 : decode cJ6_bitCount_0f7a4 39 = .ok (.iadd, 1) := by decide +kernel
theorem dJ6_bitCount_0f7a4_40 : decode cJ6_bitCount_0f7a4 40 = .ok (.istore_n 0, 1) := by decide +kernel
theorem dJ6_bitCount_0f7a4_41 : decode cJ6_bitCount_0f7a4 41 = .ok (.iload_n 0, 1) := by decide +kernel
theorem dJ6_bitCount_0f7a4_42 : decode cJ6_bitCount_0f7a4 42 = .ok (.iload_n 0, 1) := by decide +kernel
theorem dJ6_bitCount_0f7a4_43 : decode cJ6_bitCount_0f7a4 43 = .ok (.bipush 16, 2) := by decide +kernel
theorem dJ6_bitCount_0f7a4_45 : decode cJ6_bitCount_0f7a4 45 = .ok (.iushr, 1) := by decide +kernel
theorem dJ6_bitCount_0f7a4_46 : decode cJ6_bitCount_0f7a4 46 = .ok (.iadd, 1) := by decide +kernel
theorem dJ6_bitCount_0f7a4_47 : decode cJ6_bitCount_0f7a4 47 = .ok (.istore_n 0, 1) := by decide +kernel
theorem dJ6_bitCount_0f7a4_48 : decode cJ6_bitCount_0f7a4 48 = .ok (.iload_n 0, 1) := by decide +kernel
theorem dJ6_bitCount_0f7a4_49 : decode cJ6_bitCount_0f7a4 49 = .ok (.bipush 63, 2) := by decide +kernel
theorem dJ6_bitCount_0f7a4_51 : decode cJ6_bitCount_0f7a4 51 = .ok (.iand, 1) := by decide +kernel
theorem dJ6_bitCount_0f7a4_52 : decode cJ6_bitCount_0f7a4 52 = .ok (.ireturn, 1) := by decide +kernel
theorem dJ7_fill_53178_0 : decode cJ7_fill_53178 0 = .ok (.iconst 0, 1) := by decide +kernel
theorem dJ7_fill_53178_1 : decode cJ7_fill_53178 1 = .ok (.istore_n 2, 1) := by decide +kernel
theorem dJ7_fill_53178_2 : decode cJ7_fill_53178 2 = .ok (.aload_n 0, 1) := by decide +kernel
theorem dJ7_fill_53178_3 : decode cJ7_fill_53178 3 = .ok (.arraylength, 1) := by decide +kernel
theorem dJ7_fill_53178_4 : decode cJ7_fill_53178 4 = .ok (.istore_n 3, 1) := by decide +kernel
theorem dJ7_fill_53178_5 : decode cJ7_fill_53178 5 = .ok (.iload_n 2, 1) := by decide +kernel
theorem dJ7_fill_53178_6 : decode cJ7_fill_53178 6 = .ok (.iload_n 3, 1) := by decide +kernel
theorem dJ7_fill_53178_7 : decode cJ7_fill_53178 7 = .ok (.if_icmp .ge 13, 3) := by decide +kernel
theorem dJ7_fill_53178_10 : decode cJ7_fill_53178 10 = .ok (.aload_n 0, 1) := by decide +kernel
theorem dJ7_fill_53178_11 : decode cJ7_fill_53178 11 = .ok (.iload_n 2, 1) := by decide +kernel
theorem dJ7_fill_53178_12 : decode cJ7_fill_53178 12 = .ok (.iload_n 1, 1) := by decide +kernel
theorem dJ7_fill_53178_13 : decode cJ7_fill_53178 13 = .ok (.iastore, 1) := by decide +kernel
theorem dJ7_fill_53178_14 : decode cJ7_fill_53178 14 = .ok (.iinc 2 1, 3) := by decide +kernel
theorem dJ7_fill_53178_17 : decode cJ7_fill_53178 17 = .ok (.goto (-12), 3) := by decide +kernel
theorem dJ7_fill_53178_20 : decode cJ7_fill_53178 20 = .ok (.return_, 1) := by decide +kernel
theorem dJ7_fill_d0a16_0 : decode cJ7_fill_d0a16 0 = .ok (.iconst 0, 1) := by decide +kernel
theorem dJ7_fill_d0a16_1 : decode cJ7_fill_d0a16 1 = .ok (.istore_n 3, 1) := by decide +kernel
theorem dJ7_fill_d0a16_2 : decode cJ7_fill_d0a16 2 = .ok (.aload_n 0, 1) := by decide +kernel
theorem dJ7_fill_d0a16_3 : decode cJ7_fill_d0a16 3 = .ok (.arraylength, 1) := by decide +kernel
theorem dJ7_fill_d0a16_4 : decode cJ7_fill_d0a16 4 = .ok (.istore 4, 2) := by decide +kernel
theorem dJ7_fill_d0a16_6 : decode cJ7_fill_d0a16 6 = .ok (.iload_n 3, 1) := by decide +kernel
theorem dJ7_fill_d0a16_7 : decode cJ7_fill_d0a16 7 = .ok (.iload 4, 2) := by decide +kernel
theorem dJ7_fill_d0a16_9 : decode cJ7_fill_d0a16 9 = .ok (.if_icmp .ge 13, 3) := by decide +kernel
theorem dJ7_fill_d0a16_12 : decode cJ7_fill_d0a16 12 = .ok (.aload_n 0, 1) := by decide +kernel
theorem dJ7_fill_d0a16_13 : decode cJ7_fill_d0a16 13 = .ok (.iload_n 3, 1) := by decide +kernel
theorem dJ7_fill_d0a16_14 : decode cJ7_fill_d0a16 14 = .ok (.lload_n 1, 1) := by decide +kernel
theorem dJ7_fill_d0a16_15 : decode cJ7_fill_d0a16 15 = .ok (.lastore, 1) := by decide +kernel
theorem dJ7_fill_d0a16_16 : decode cJ7_fill_d0a16 16 = .ok (.iinc 3 1, 3) := by decide +kernel
theorem dJ7_fill_d0a16_19 : decode cJ7_fill_d0a16 19 = .ok (.goto (-13), 3) := by decide +kernel
theorem dJ7_fill_d0a16_22 : decode cJ7_fill_d0a16 22 = .ok (.return_, 1) := by decide +kernel
theorem K_J6_bitCount_0f7a4 : CalS yJ6_bitCount_0f7a4 cJ6_bitCount_0f7a4 1 (some .int) 1 := ⟨T0_in (m4 (List.mem_of_getElem? (i := 92) rfl)) rfl, T0_in (m4 (List.mem_of_getElem? (i := 91) rfl)) rfl, T0_in (m1 (List.mem_of_getElem? (i := 19) rfl)) rfl, ⟨by decide +kernel, by decide +kernel, by decide +kernel⟩, by decide⟩
theorem K_J7_fill_53178 : CalS yJ7_fill_53178 cJ7_fill_53178 4 none 2 := ⟨T0_in (m2 (List.mem_of_getElem? (i := 7) rfl)) rfl, T0_in (m2 (List.mem_of_getElem? (i := 6) rfl)) rfl, T0_in (m1 (List.mem_of_getElem? (i := 9) rfl)) rfl, ⟨by decide +kernel, by decide +kernel, by decide +kernel⟩, by decide⟩
theorem K_J7_fill_d0a16 : CalS yJ7_fill_d0a16 cJ7_fill_d0a16 5 none 2 := ⟨T0_in (m4 (List.mem_of_getElem? (i := 12) rfl)) rfl, T0_in (m4 (List.mem_of_getElem? (i := 11) rfl)) rfl, T0_in (m1 (List.mem_of_getElem? (i := 9) rfl)) rfl, ⟨by decide +kernel, by decide +kernel, by decide +kernel⟩, by decide⟩
def f_bitCount (p0 : Int32) : Option (Int32) := x_L ((p0 - (((p0).toUInt32 >>> (((1 : Int32)).toUInt32 &&& Int32.toUInt32 31)).toInt32 &&& (1431655765 : Int32)))) (fun y1 => x_L (((y1 &&& (858993459 : Int32)) + (((y1).toUInt32 >>> (((2 : Int32)).toUInt32 &&& Int32.toUInt32 31)).toInt32 &&& (858993459 : Int32)))) (fun y2 => x_L (((y2 + ((y2).toUInt32 >>> (((4 : Int32)).toUInt32 &&& Int32.toUInt32 31)).toInt32) &&& (252645135 : Int32))) (fun y3 => x_L ((y3 + ((y3).toUInt32 >>> (((8 : Int32)).toUInt32 &&& Int32.toUInt32 31)).toInt32)) (fun y4 => x_L ((y4 + ((y4).toUInt32 >>> (((16 : Int32)).toUInt32 &&& Int32.toUInt32 31)).toInt32)) (fun y5 => some (y5 &&& (63 : Int32)))))))
set_option maxHeartbeats 8000000 in
set_option maxRecDepth 100000 in
theorem c_bitCount (l : Launch) (G : GG) (p0 : Int32) (r0 : Int32) (hev : f_bitCount p0 = some r0) : RO l G yJ6_bitCount_0f7a4 cJ6_bitCount_0f7a4 1 (some .int) 0 [.int p0] [] (some (.int r0)) := by
  refine RO_of (by decide) (Nat.le_of_ble_eq_true rfl) ?_
  intro p e s m ar below meth c R Q H ls X hR hP hKK hS0 hl ret
  generalize hrs : r0 = rs at hev ret
  have hl : lv_has ls 1 [(0, .int p0)] := hl
  obtain ⟨hx, hb, hml, hown, hts, hT⟩ := id X
  have hK := hKK.1
  have hw : ∀ w ∈ T0, w.before ar s = true := fun w h => hts w (hT w h)
  unfold f_bitCount at hev
  refine lv_iload_n hx hb dJ6_bitCount_0f7a4_0 rfl (lv_at hl 0 rfl) ?_
  refine lv_iload_n hx hb dJ6_bitCount_0f7a4_1 rfl (lv_at hl 0 rfl) ?_
  refine lv_iconst (v := (1 : Int32)) hx hb dJ6_bitCount_0f7a4_2 (by decide) ?_
  refine lv_iushr hx hb dJ6_bitCount_0f7a4_3 rfl ?_
  refine lv_ldcw (v := (1431655765 : Int32)) hx hb hown (hw _ u893) dJ6_bitCount_0f7a4_4 ?_
  refine lv_iand hx hb dJ6_bitCount_0f7a4_7 ?_
  refine lv_isub hx hb dJ6_bitCount_0f7a4_8 ?_
  refine lv_topi (fun y1 ey1 => ?_)
  replace hev := x_lt hev y1 ey1
  refine lv_istore_n (lv' := [(0, .int y1)]) hx hb dJ6_bitCount_0f7a4_9 rfl hl (by decide) rfl (fun ls hl => ?_)
  refine lv_iload_n hx hb dJ6_bitCount_0f7a4_10 rfl (lv_at hl 0 rfl) ?_
  refine lv_ldcw (v := (858993459 : Int32)) hx hb hown (hw _ u894) dJ6_bitCount_0f7a4_11 ?_
  refine lv_iand hx hb dJ6_bitCount_0f7a4_14 ?_
  refine lv_iload_n hx hb dJ6_bitCount_0f7a4_15 rfl (lv_at hl 0 rfl) ?_
  refine lv_iconst (v := (2 : Int32)) hx hb dJ6_bitCount_0f7a4_16 (by decide) ?_
  refine lv_iushr hx hb dJ6_bitCount_0f7a4_17 rfl ?_
  refine lv_ldcw (v := (858993459 : Int32)) hx hb hown (hw _ u894) dJ6_bitCount_0f7a4_18 ?_
  refine lv_iand hx hb dJ6_bitCount_0f7a4_21 ?_
  refine lv_iadd hx hb dJ6_bitCount_0f7a4_22 ?_
  refine lv_topi (fun y2 ey2 => ?_)
  replace hev := x_lt hev y2 ey2
  refine lv_istore_n (lv' := [(0, .int y2)]) hx hb dJ6_bitCount_0f7a4_23 rfl hl (by decide) rfl (fun ls hl => ?_)
  refine lv_iload_n hx hb dJ6_bitCount_0f7a4_24 rfl (lv_at hl 0 rfl) ?_
  refine lv_iload_n hx hb dJ6_bitCount_0f7a4_25 rfl (lv_at hl 0 rfl) ?_
  refine lv_iconst (v := (4 : Int32)) hx hb dJ6_bitCount_0f7a4_26 (by decide) ?_
  refine lv_iushr hx hb dJ6_bitCount_0f7a4_27 rfl ?_
  refine lv_iadd hx hb dJ6_bitCount_0f7a4_28 ?_
  refine lv_ldcw (v := (252645135 : Int32)) hx hb hown (hw _ u895) dJ6_bitCount_0f7a4_29 ?_
  refine lv_iand hx hb dJ6_bitCount_0f7a4_32 ?_
  refine lv_topi (fun y3 ey3 => ?_)
  replace hev := x_lt hev y3 ey3
  refine lv_istore_n (lv' := [(0, .int y3)]) hx hb dJ6_bitCount_0f7a4_33 rfl hl (by decide) rfl (fun ls hl => ?_)
  refine lv_iload_n hx hb dJ6_bitCount_0f7a4_34 rfl (lv_at hl 0 rfl) ?_
  refine lv_iload_n hx hb dJ6_bitCount_0f7a4_35 rfl (lv_at hl 0 rfl) ?_
  refine lv_bipush (v := (8 : Int32)) hx hb dJ6_bitCount_0f7a4_36 (by decide) ?_
  refine lv_iushr hx hb dJ6_bitCount_0f7a4_38 rfl ?_
  refine lv_iadd hx hb dJ6_bitCount_0f7a4_39 ?_
  refine lv_topi (fun y4 ey4 => ?_)
  replace hev := x_lt hev y4 ey4
  refine lv_istore_n (lv' := [(0, .int y4)]) hx hb dJ6_bitCount_0f7a4_40 rfl hl (by decide) rfl (fun ls hl => ?_)
  refine lv_iload_n hx hb dJ6_bitCount_0f7a4_41 rfl (lv_at hl 0 rfl) ?_
  refine lv_iload_n hx hb dJ6_bitCount_0f7a4_42 rfl (lv_at hl 0 rfl) ?_
  refine lv_bipush (v := (16 : Int32)) hx hb dJ6_bitCount_0f7a4_43 (by decide) ?_
  refine lv_iushr hx hb dJ6_bitCount_0f7a4_45 rfl ?_
  refine lv_iadd hx hb dJ6_bitCount_0f7a4_46 ?_
  refine lv_topi (fun y5 ey5 => ?_)
  replace hev := x_lt hev y5 ey5
  refine lv_istore_n (lv' := [(0, .int y5)]) hx hb dJ6_bitCount_0f7a4_47 rfl hl (by decide) rfl (fun ls hl => ?_)
  refine lv_iload_n hx hb dJ6_bitCount_0f7a4_48 rfl (lv_at hl 0 rfl) ?_
  refine lv_bipush (v := (63 : Int32)) hx hb dJ6_bitCount_0f7a4_49 (by decide) ?_
  refine lv_iand hx hb dJ6_bitCount_0f7a4_51 ?_
  exact ret _ _ _ dJ6_bitCount_0f7a4_52 ((show narrow _ (.int (y5 &&& (63 : Int32))) = .int (y5 &&& (63 : Int32)) from rfl).trans (congrArg Value.int (Option.some.inj hev)))
def f_fillI_L5 (nP0_arr : Nat) (x1 : Int32) (x3 : Int32) : Nat → Int32 → (Nat → Int32) → Option ((Nat → Int32))
  | 0, _, _ => none
  | k + 1, x2, fP0_arr => if x3 ≤ x2 then (some fP0_arr) else x_C nP0_arr x2 (x_L (x2 + (1 : Int32)) (fun y4 => (f_fillI_L5 nP0_arr x1 x3 k) y4 (upd fP0_arr (x2).toNatClampNeg x1)))
def f_fillI (k : Nat) (nP0_arr : Nat) (fP0_arr : Nat → Int32) (p1 : Int32) : Option ((Nat → Int32)) := x_L ((Int32.ofNat nP0_arr)) (fun y1 => x_B (f_fillI_L5 nP0_arr p1 y1 k (0 : Int32) fP0_arr) (fun w5 => some w5))
set_option maxHeartbeats 8000000 in
set_option maxRecDepth 100000 in
theorem c_fillI (l : Launch) (G : GG) (aP0_arr : Nat) (fP0_arr : Nat → Int32) (nP0_arr : Nat) (k : Nat) (p1 : Int32) (wfP0_arr : Nat → Int32) (hev : f_fillI k nP0_arr fP0_arr p1 = some wfP0_arr) : RW l G yJ7_fill_53178 cJ7_fill_53178 4 none 0 [.ref aP0_arr, .int p1] [(aP0_arr, .inl (G.2.1, nP0_arr, .inl fP0_arr))] none [(aP0_arr, .inl (G.2.1, nP0_arr, .inl wfP0_arr))] 0 0 := by
  refine RW_of (by decide) (Nat.le_of_ble_eq_true rfl) ?_
  intro p e s m ar below meth c R Q A ls X hR hRc hin hP hKK hD hS hA hAb hl ret
  obtain ⟨rs, hrs⟩ : ∃ q, q = wfP0_arr := ⟨_, rfl⟩
  rw [← hrs] at hev
  have ret2 : ∀ (pc : Nat) (ls : Array Slot) (H : Heap) (lo : List Loc) (zfP0_arr : Nat → Int32), zfP0_arr = rs → decode cJ7_fill_53178 pc = .ok (.return_, 1) → va_P G.1 classes [(aP0_arr, .inl (G.2.1, nP0_arr, .inl zfP0_arr))] H → va_D A [(aP0_arr, .inl (G.2.1, nP0_arr, .inl zfP0_arr))] → va_S A s.heap H lo → W p l e R s m ar below meth c H lo 0 0 Q (F0 m pc ls []) := by
    intro pc ls H lo zfP0_arr he hd h1 h2 h3
    have he := he.trans hrs
    cases he
    exact ret.2.1 _ _ _ _ rfl rfl hd h1 h2 h3
  clear ret hrs
  have hl : lv_has ls 4 [(0, .ref aP0_arr), (1, .int p1)] := hl
  obtain ⟨hx, hb, hml, hown, hts, hT⟩ := id X
  have hK := hKK.1
  have hw : ∀ w ∈ T0, w.before ar s = true := fun w h => hts w (hT w h)
  unfold f_fillI at hev
  refine lv_iconst (v := (0 : Int32)) hx hb dJ7_fill_53178_0 (by decide) ?_
  refine lv_istore_n (lv' := [(2, .int (0 : Int32)), (0, .ref aP0_arr), (1, .int p1)]) hx hb dJ7_fill_53178_1 rfl hl (by decide) rfl (fun ls hl => ?_)
  refine lv_aload_n hx hb dJ7_fill_53178_2 rfl (lv_at hl 1 rfl) ?_
  refine va_alen hx hb hK hP 0 0 (v := (Int32.ofNat nP0_arr)) rfl rfl rfl dJ7_fill_53178_3 ?_
  refine lv_topi (fun y1 ey1 => ?_)
  replace hev := x_lt hev y1 ey1
  refine lv_istore_n (lv' := [(3, .int y1), (2, .int (0 : Int32)), (0, .ref aP0_arr), (1, .int p1)]) hx hb dJ7_fill_53178_4 rfl hl (by decide) rfl (fun ls hl => ?_)
  have L5 : ∀ (x1 : Int32) (x3 : Int32), ∀ (k : Nat) (x2 : Int32) (fP0_arr : Nat → Int32) (ofP0_arr : Nat → Int32), f_fillI_L5 nP0_arr x1 x3 k x2 fP0_arr = some ofP0_arr → (∀ (H : Heap) (lo : List Loc), va_P G.1 classes [(aP0_arr, .inl (G.2.1, nP0_arr, .inl ofP0_arr))] H → va_D A [(aP0_arr, .inl (G.2.1, nP0_arr, .inl ofP0_arr))] → va_S A s.heap H lo → ∀ (ls : Array Slot), lv_has ls 4 [] → W p l e R s m ar below meth c H lo 0 0 Q (F0 m 20 ls [])) → ∀ (H : Heap) (lo : List Loc), va_P G.1 classes [(aP0_arr, .inl (G.2.1, nP0_arr, .inl fP0_arr))] H → va_D A [(aP0_arr, .inl (G.2.1, nP0_arr, .inl fP0_arr))] → va_S A s.heap H lo → ∀ (ls : Array Slot), lv_has ls 4 [(0, .ref aP0_arr), (1, .int x1), (2, .int x2), (3, .int x3)] → W p l e R s m ar below meth c H lo 0 0 Q (F0 m 5 ls []) := by
    intro x1 x3 k
    induction k with
    | zero => intro x2 fP0_arr ofP0_arr hev; rw [f_fillI_L5] at hev; cases hev
    | succ k ih =>
      intro x2 fP0_arr ofP0_arr hev hex H lo hP hD hS ls hl
      rw [f_fillI_L5] at hev
      refine lv_iload_n hx hb dJ7_fill_53178_5 rfl (lv_at hl 2 rfl) ?_
      refine lv_iload_n hx hb dJ7_fill_53178_6 rfl (lv_at hl 3 rfl) ?_
      refine lv_icmp_ge (tgt := 20) hx hb dJ7_fill_53178_7 (by decide) (fun c2 => ?_) (fun c2 => ?_)
      · replace hev := x_t c2 hev
        cases hev
        exact hex _ _ hP hD hS ls (lv_sub hl [] rfl)
      · replace hev := x_f c2 hev
        refine lv_aload_n hx hb dJ7_fill_53178_10 rfl (lv_at hl 0 rfl) ?_
        refine lv_iload_n hx hb dJ7_fill_53178_11 rfl (lv_at hl 2 rfl) ?_
        refine lv_iload_n hx hb dJ7_fill_53178_12 rfl (lv_at hl 1 rfl) ?_
        obtain ⟨h3, hev⟩ := x_ck hev
        refine va_iast hx hb hK hP hD hS 0 0 rfl rfl h3 dJ7_fill_53178_13 (fun H lo hP hD hS => ?_)
        obtain ⟨y4, ey4⟩ : ∃ y : Int32, y = x2 + (1 : Int32) := ⟨_, rfl⟩
        refine lv_iinc (v := y4) (lv' := [(2, .int y4), (0, .ref aP0_arr), (1, .int x1), (3, .int x3)]) hx hb dJ7_fill_53178_14 hl (k := 2) rfl (by rw [ey4]; rfl) (by decide) rfl (fun ls hl => ?_)
        replace hev := x_lt hev y4 ey4
        refine lv_goto (tgt := 5) hx hb dJ7_fill_53178_17 (by decide) ?_
        exact ih y4 (upd fP0_arr (x2).toNatClampNeg x1) _ hev hex _ _ hP hD hS ls (lv_sub hl [1, 2, 0, 3] rfl)
  obtain ⟨w5, hq, hev⟩ := x_bd hev
  refine L5 p1 y1 k (0 : Int32) fP0_arr w5 hq (fun H lo hP hD hS ls hl => ?_) _ _ hP hD hS ls (lv_sub hl [2, 3, 1, 0] rfl)
  exact ret2 _ _ _ _ w5 (Option.some.inj hev) dJ7_fill_53178_20 hP hD hS
def f_fillJ_L6 (nP0_arr : Nat) (x1 : Int64) (x4 : Int32) : Nat → Int32 → (Nat → Int64) → Option ((Nat → Int64))
  | 0, _, _ => none
  | k + 1, x3, fP0_arr => if x4 ≤ x3 then (some fP0_arr) else x_C nP0_arr x3 (x_L (x3 + (1 : Int32)) (fun y4 => (f_fillJ_L6 nP0_arr x1 x4 k) y4 (vp_updL fP0_arr (x3).toNatClampNeg x1)))
def f_fillJ (k : Nat) (nP0_arr : Nat) (fP0_arr : Nat → Int64) (p1 : Int64) : Option ((Nat → Int64)) := x_L ((Int32.ofNat nP0_arr)) (fun y1 => x_B (f_fillJ_L6 nP0_arr p1 y1 k (0 : Int32) fP0_arr) (fun w5 => some w5))
set_option maxHeartbeats 8000000 in
set_option maxRecDepth 100000 in
theorem c_fillJ (l : Launch) (G : GG) (aP0_arr : Nat) (fP0_arr : Nat → Int64) (nP0_arr : Nat) (k : Nat) (p1 : Int64) (wfP0_arr : Nat → Int64) (hev : f_fillJ k nP0_arr fP0_arr p1 = some wfP0_arr) : RW l G yJ7_fill_d0a16 cJ7_fill_d0a16 5 none 0 [.ref aP0_arr, .long p1] [(aP0_arr, .inl (G.2.2.1, nP0_arr, .inr (.inl fP0_arr)))] none [(aP0_arr, .inl (G.2.2.1, nP0_arr, .inr (.inl wfP0_arr)))] 0 0 := by
  refine RW_of (by decide) (Nat.le_of_ble_eq_true rfl) ?_
  intro p e s m ar below meth c R Q A ls X hR hRc hin hP hKK hD hS hA hAb hl ret
  obtain ⟨rs, hrs⟩ : ∃ q, q = wfP0_arr := ⟨_, rfl⟩
  rw [← hrs] at hev
  have ret2 : ∀ (pc : Nat) (ls : Array Slot) (H : Heap) (lo : List Loc) (zfP0_arr : Nat → Int64), zfP0_arr = rs → decode cJ7_fill_d0a16 pc = .ok (.return_, 1) → va_P G.1 classes [(aP0_arr, .inl (G.2.2.1, nP0_arr, .inr (.inl zfP0_arr)))] H → va_D A [(aP0_arr, .inl (G.2.2.1, nP0_arr, .inr (.inl zfP0_arr)))] → va_S A s.heap H lo → W p l e R s m ar below meth c H lo 0 0 Q (F0 m pc ls []) := by
    intro pc ls H lo zfP0_arr he hd h1 h2 h3
    have he := he.trans hrs
    cases he
    exact ret.2.1 _ _ _ _ rfl rfl hd h1 h2 h3
  clear ret hrs
  have hl : lv_has ls 5 [(0, .ref aP0_arr), (1, .long p1)] := hl
  obtain ⟨hx, hb, hml, hown, hts, hT⟩ := id X
  have hK := hKK.1
  have hw : ∀ w ∈ T0, w.before ar s = true := fun w h => hts w (hT w h)
  unfold f_fillJ at hev
  refine lv_iconst (v := (0 : Int32)) hx hb dJ7_fill_d0a16_0 (by decide) ?_
  refine lv_istore_n (lv' := [(3, .int (0 : Int32)), (0, .ref aP0_arr), (1, .long p1)]) hx hb dJ7_fill_d0a16_1 rfl hl (by decide) rfl (fun ls hl => ?_)
  refine lv_aload_n hx hb dJ7_fill_d0a16_2 rfl (lv_at hl 1 rfl) ?_
  refine va_alen hx hb hK hP 0 1 (v := (Int32.ofNat nP0_arr)) rfl rfl rfl dJ7_fill_d0a16_3 ?_
  refine lv_topi (fun y1 ey1 => ?_)
  replace hev := x_lt hev y1 ey1
  refine lv_istore (lv' := [(4, .int y1), (3, .int (0 : Int32)), (0, .ref aP0_arr), (1, .long p1)]) hx hb dJ7_fill_d0a16_4 hl (by decide) rfl (fun ls hl => ?_)
  have L6 : ∀ (x1 : Int64) (x4 : Int32), ∀ (k : Nat) (x3 : Int32) (fP0_arr : Nat → Int64) (ofP0_arr : Nat → Int64), f_fillJ_L6 nP0_arr x1 x4 k x3 fP0_arr = some ofP0_arr → (∀ (H : Heap) (lo : List Loc), va_P G.1 classes [(aP0_arr, .inl (G.2.2.1, nP0_arr, .inr (.inl ofP0_arr)))] H → va_D A [(aP0_arr, .inl (G.2.2.1, nP0_arr, .inr (.inl ofP0_arr)))] → va_S A s.heap H lo → ∀ (ls : Array Slot), lv_has ls 5 [] → W p l e R s m ar below meth c H lo 0 0 Q (F0 m 22 ls [])) → ∀ (H : Heap) (lo : List Loc), va_P G.1 classes [(aP0_arr, .inl (G.2.2.1, nP0_arr, .inr (.inl fP0_arr)))] H → va_D A [(aP0_arr, .inl (G.2.2.1, nP0_arr, .inr (.inl fP0_arr)))] → va_S A s.heap H lo → ∀ (ls : Array Slot), lv_has ls 5 [(0, .ref aP0_arr), (1, .long x1), (3, .int x3), (4, .int x4)] → W p l e R s m ar below meth c H lo 0 0 Q (F0 m 6 ls []) := by
    intro x1 x4 k
    induction k with
    | zero => intro x3 fP0_arr ofP0_arr hev; rw [f_fillJ_L6] at hev; cases hev
    | succ k ih =>
      intro x3 fP0_arr ofP0_arr hev hex H lo hP hD hS ls hl
      rw [f_fillJ_L6] at hev
      refine lv_iload_n hx hb dJ7_fill_d0a16_6 rfl (lv_at hl 2 rfl) ?_
      refine lv_iload hx hb dJ7_fill_d0a16_7 (lv_at hl 3 rfl) ?_
      refine lv_icmp_ge (tgt := 22) hx hb dJ7_fill_d0a16_9 (by decide) (fun c2 => ?_) (fun c2 => ?_)
      · replace hev := x_t c2 hev
        cases hev
        exact hex _ _ hP hD hS ls (lv_sub hl [] rfl)
      · replace hev := x_f c2 hev
        refine lv_aload_n hx hb dJ7_fill_d0a16_12 rfl (lv_at hl 0 rfl) ?_
        refine lv_iload_n hx hb dJ7_fill_d0a16_13 rfl (lv_at hl 2 rfl) ?_
        refine lv_lload_n hx hb dJ7_fill_d0a16_14 rfl (lv_at hl 1 rfl) ?_
        obtain ⟨h3, hev⟩ := x_ck hev
        refine va_last hx hb hK hP hD hS 0 1 rfl rfl h3 dJ7_fill_d0a16_15 (fun H lo hP hD hS => ?_)
        obtain ⟨y4, ey4⟩ : ∃ y : Int32, y = x3 + (1 : Int32) := ⟨_, rfl⟩
        refine lv_iinc (v := y4) (lv' := [(3, .int y4), (0, .ref aP0_arr), (1, .long x1), (4, .int x4)]) hx hb dJ7_fill_d0a16_16 hl (k := 2) rfl (by rw [ey4]; rfl) (by decide) rfl (fun ls hl => ?_)
        replace hev := x_lt hev y4 ey4
        refine lv_goto (tgt := 6) hx hb dJ7_fill_d0a16_19 (by decide) ?_
        exact ih y4 (vp_updL fP0_arr (x3).toNatClampNeg x1) _ hev hex _ _ hP hD hS ls (lv_sub hl [1, 2, 0, 3] rfl)
  obtain ⟨w5, hq, hev⟩ := x_bd hev
  refine L6 p1 y1 k (0 : Int32) fP0_arr w5 hq (fun H lo hP hD hS ls hl => ?_) _ _ hP hD hS ls (lv_sub hl [2, 3, 1, 0] rfl)
  exact ret2 _ _ _ _ w5 (Option.some.inj hev) dJ7_fill_d0a16_22 hP hD hS
