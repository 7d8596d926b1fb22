def f_Se_stale (vT_start : Int32) : Option (Int32) := some (-1 : Int32)
set_option maxHeartbeats 8000000 in
set_option maxRecDepth 100000 in
theorem c_Se_stale (l : Launch) (G : GG) (aT aT_rules aT_seen aT_found : Nat) (vT_size : Int32) (vT_opened : Int32) (vT_start : Int32) (vT_doers : Int32) (vT_unlifted : Int32) (vT_deedsAllowed : Int32) (wvT_start : Int32) (hev : f_Se_stale vT_start = some wvT_start) : RW l G yX5_stale cX5_stale 1 none 0 [.ref aT] [(aT, .inr (3, [.ref aT_rules, .ref aT_seen, .ref aT_found, .int vT_size, .int vT_opened, .int vT_start, .int vT_doers, .int vT_unlifted, .int vT_deedsAllowed]))] none [(aT, .inr (3, [.ref aT_rules, .ref aT_seen, .ref aT_found, .int vT_size, .int vT_opened, .int wvT_start, .int vT_doers, .int vT_unlifted, .int vT_deedsAllowed]))] 0 0 := by
  refine RW_of (by decide) (Nat.le_of_ble_eq_true rfl) ?_
  intro p e s m ar below meth c R Q A ls X hR hRc hin hP hKK hD hS hA hAb hl ret
  obtain ⟨rs, hrs⟩ : ∃ q, q = wvT_start := ⟨_, rfl⟩
  rw [← hrs] at hev
  have ret2 : ∀ (pc : Nat) (ls : Array Slot) (H : Heap) (lo : List Loc) (zvT_start : Int32), zvT_start = rs → decode cX5_stale pc = .ok (.return_, 1) → va_P G.1 classes [(aT, .inr (3, [.ref aT_rules, .ref aT_seen, .ref aT_found, .int vT_size, .int vT_opened, .int zvT_start, .int vT_doers, .int vT_unlifted, .int vT_deedsAllowed]))] H → va_D A [(aT, .inr (3, [.ref aT_rules, .ref aT_seen, .ref aT_found, .int vT_size, .int vT_opened, .int zvT_start, .int vT_doers, .int vT_unlifted, .int vT_deedsAllowed]))] → va_S A s.heap H lo → W p l e R s m ar below meth c H lo 0 0 Q (F0 m pc ls []) := by
    intro pc ls H lo zvT_start he hd h1 h2 h3
    have he := he.trans hrs
    cases he
    exact ret.2.1 _ _ _ _ rfl rfl hd h1 h2 h3
  clear ret hrs
  have hl : lv_has ls 1 [(0, .ref aT)] := hl
  obtain ⟨hx, hb, hml, hown, hts, hT⟩ := id X
  have hK := hKK.1
  have hw : ∀ w ∈ T0, w.before ar s = true := fun w h => hts w (hT w h)
  have i5 := fun w h => hT w (inT5 w h)
  unfold f_Se_stale at hev
  refine lv_aload_n hx hb dX5_stale_0 rfl (lv_at hl 0 rfl) ?_
  refine lv_iconst (v := (-1 : Int32)) hx hb dX5_stale_1 (by decide) ?_
  refine va_put (D := G.1) (ci := 3) (v := .int (-1 : Int32)) (ty := .int) (C := RX5) (T := TX5) (N := 9) hx hb hts i5 tyX5 tyX5_ok nmX5 hown hK hP hD hS 0 rfl rfl 5 (by decide) (hw _ u257) (fun _ h9 => h9) rfl (by decide +kernel) rfl rfl (Nat.le_of_ble_eq_true rfl) dX5_stale_2 (fun H lo hP hD hS => ?_)
  exact ret2 _ _ _ _ (-1 : Int32) (Option.some.inj hev) dX5_stale_5 hP hD hS
def f_Se_add (nT_found : Nat) (vT_size : Int32) (fT_found : Nat → Int64) (fT_seen : Nat → Int64) (p1 : Int32) (p2 : Int32) (p3 : Int32) (p4 : Int32) : Option (Int32 × (Nat → Int64) × (Nat → Int64)) := x_L ((p1 >>> ((6 : Int32) &&& 31))) (fun y1 => if y1 < 0 then (some (vT_size, fT_found, fT_seen)) else if (896 : Int32) ≤ y1 then (some (vT_size, fT_found, fT_seen)) else if vT_size < 0 then (some (vT_size, fT_found, fT_seen)) else if vT_size < (Int32.ofNat nT_found) then (x_L (((1 : Int64) <<< (((p1 &&& (63 : Int32))).toInt64 &&& 63))) (fun y6 => x_I 896 fT_seen y1 (fun v8 => if (lg_cmp (v8 &&& y6) (0 : Int64)) = 0 then (x_I 896 fT_seen y1 (fun v11 => x_L ((v11 ||| y6)) (fun y12 => x_C 896 y1 (x_L (((((p1).toInt64 ||| ((p2).toInt64 <<< (((16 : Int32)).toInt64 &&& 63))) ||| ((p3).toInt64 <<< (((24 : Int32)).toInt64 &&& 63))) ||| ((p4).toInt64 <<< (((40 : Int32)).toInt64 &&& 63)))) (fun y14 => x_C nT_found vT_size (x_L ((vT_size + (1 : Int32))) (fun y16 => some (y16, (vp_updL fT_found (vT_size).toNatClampNeg y14), (vp_updL fT_seen (y1).toNatClampNeg y12))))))))) else some (vT_size, fT_found, fT_seen)))) else some (vT_size, fT_found, fT_seen))
set_option maxHeartbeats 8000000 in
set_option maxRecDepth 100000 in
theorem c_Se_add (l : Launch) (G : GG) (aT aT_rules aT_seen aT_found : Nat) (vT_size : Int32) (vT_opened : Int32) (vT_start : Int32) (vT_doers : Int32) (vT_unlifted : Int32) (vT_deedsAllowed : Int32) (fT_seen : Nat → Int64) (fT_found : Nat → Int64) (nT_found : Nat) (p1 : Int32) (p2 : Int32) (p3 : Int32) (p4 : Int32) (wvT_size : Int32) (wfT_found : Nat → Int64) (wfT_seen : Nat → Int64) (hev : f_Se_add nT_found vT_size fT_found fT_seen p1 p2 p3 p4 = some (wvT_size, wfT_found, wfT_seen)) : RW l G yX5_add cX5_add 8 none 0 [.ref aT, .int p1, .int p2, .int p3, .int p4] [(aT, .inr (3, [.ref aT_rules, .ref aT_seen, .ref aT_found, .int vT_size, .int vT_opened, .int vT_start, .int vT_doers, .int vT_unlifted, .int vT_deedsAllowed])), (aT_seen, .inl (G.2.2.1, 896, .inr (.inl fT_seen))), (aT_found, .inl (G.2.2.1, nT_found, .inr (.inl fT_found)))] none [(aT, .inr (3, [.ref aT_rules, .ref aT_seen, .ref aT_found, .int wvT_size, .int vT_opened, .int vT_start, .int vT_doers, .int vT_unlifted, .int vT_deedsAllowed])), (aT_seen, .inl (G.2.2.1, 896, .inr (.inl wfT_seen))), (aT_found, .inl (G.2.2.1, nT_found, .inr (.inl wfT_found)))] 0 0 := by
  refine RW_of (by decide) (Nat.le_of_ble_eq_true rfl) ?_
  intro p e s m ar below meth c R Q A ls X hR hRc hin hP hKK hD hS hA hAb hl ret
  obtain ⟨rs, hrs⟩ : ∃ q, q = (wvT_size, wfT_found, wfT_seen) := ⟨_, rfl⟩
  rw [← hrs] at hev
  have ret2 : ∀ (pc : Nat) (ls : Array Slot) (H : Heap) (lo : List Loc) (zvT_size : Int32) (zfT_found : Nat → Int64) (zfT_seen : Nat → Int64), (zvT_size, zfT_found, zfT_seen) = rs → decode cX5_add pc = .ok (.return_, 1) → va_P G.1 classes [(aT, .inr (3, [.ref aT_rules, .ref aT_seen, .ref aT_found, .int zvT_size, .int vT_opened, .int vT_start, .int vT_doers, .int vT_unlifted, .int vT_deedsAllowed])), (aT_seen, .inl (G.2.2.1, 896, .inr (.inl zfT_seen))), (aT_found, .inl (G.2.2.1, nT_found, .inr (.inl zfT_found)))] H → va_D A [(aT, .inr (3, [.ref aT_rules, .ref aT_seen, .ref aT_found, .int zvT_size, .int vT_opened, .int vT_start, .int vT_doers, .int vT_unlifted, .int vT_deedsAllowed])), (aT_seen, .inl (G.2.2.1, 896, .inr (.inl zfT_seen))), (aT_found, .inl (G.2.2.1, nT_found, .inr (.inl zfT_found)))] → va_S A s.heap H lo → W p l e R s m ar below meth c H lo 0 0 Q (F0 m pc ls []) := by
    intro pc ls H lo zvT_size zfT_found zfT_seen he hd h1 h2 h3
    have he := he.trans hrs
    cases he
    exact ret.2.1 _ _ _ _ rfl rfl hd h1 h2 h3
  clear ret hrs
  have hl : lv_has ls 8 [(0, .ref aT), (1, .int p1), (2, .int p2), (3, .int p3), (4, .int p4)] := hl
  obtain ⟨hx, hb, hml, hown, hts, hT⟩ := id X
  have hK := hKK.1
  have hw : ∀ w ∈ T0, w.before ar s = true := fun w h => hts w (hT w h)
  have i5 := fun w h => hT w (inT5 w h)
  unfold f_Se_add at hev
  refine lv_iload_n hx hb dX5_add_0 rfl (lv_at hl 1 rfl) ?_
  refine lv_bipush (v := (6 : Int32)) hx hb dX5_add_1 (by decide) ?_
  refine lv_ishr hx hb dX5_add_3 ?_
  refine lv_topi (fun y1 ey1 => ?_)
  replace hev := x_lt hev y1 ey1
  refine lv_istore (lv' := [(5, .int y1), (0, .ref aT), (1, .int p1), (2, .int p2), (3, .int p3), (4, .int p4)]) hx hb dX5_add_4 hl (by decide) rfl (fun ls hl => ?_)
  refine lv_iload hx hb dX5_add_6 (lv_at hl 0 rfl) ?_
  refine lv_if_lt (tgt := 40) hx hb dX5_add_8 (by decide) (fun c2 => ?_) (fun c2 => ?_)
  · replace hev := x_t c2 hev
    exact ret2 _ _ _ _ vT_size fT_found fT_seen (Option.some.inj hev) dX5_add_40 hP hD hS
  · replace hev := x_f c2 hev
    refine lv_iload hx hb dX5_add_11 (lv_at hl 0 rfl) ?_
    refine lv_aload_n hx hb dX5_add_13 rfl (lv_at hl 1 rfl) ?_
    refine va_get (D := G.1) (ci := 3) (v := .ref aT_seen) (C := RX5) (T := TX5) (N := 9) hx hb hts i5 hown hK hP 0 rfl rfl 1 (by decide) (hw _ u253) (fun _ h9 => h9) rfl dX5_add_14 ?_
    refine va_alen hx hb hK hP 1 1 (v := (896 : Int32)) rfl rfl rfl dX5_add_17 ?_
    refine lv_icmp_ge (tgt := 40) hx hb dX5_add_18 (by decide) (fun c3 => ?_) (fun c3 => ?_)
    · replace hev := x_t c3 hev
      exact ret2 _ _ _ _ vT_size fT_found fT_seen (Option.some.inj hev) dX5_add_40 hP hD hS
    · replace hev := x_f c3 hev
      refine lv_aload_n hx hb dX5_add_21 rfl (lv_at hl 1 rfl) ?_
      refine va_get (D := G.1) (ci := 3) (v := .int vT_size) (C := RX5) (T := TX5) (N := 9) hx hb hts i5 hown hK hP 0 rfl rfl 3 (by decide) (hw _ u255) (fun _ h9 => h9) rfl dX5_add_22 ?_
      refine lv_if_lt (tgt := 40) hx hb dX5_add_25 (by decide) (fun c4 => ?_) (fun c4 => ?_)
      · replace hev := x_t c4 hev
        exact ret2 _ _ _ _ vT_size fT_found fT_seen (Option.some.inj hev) dX5_add_40 hP hD hS
      · replace hev := x_f c4 hev
        refine lv_aload_n hx hb dX5_add_28 rfl (lv_at hl 1 rfl) ?_
        refine va_get (D := G.1) (ci := 3) (v := .int vT_size) (C := RX5) (T := TX5) (N := 9) hx hb hts i5 hown hK hP 0 rfl rfl 3 (by decide) (hw _ u255) (fun _ h9 => h9) rfl dX5_add_29 ?_
        refine lv_aload_n hx hb dX5_add_32 rfl (lv_at hl 1 rfl) ?_
        refine va_get (D := G.1) (ci := 3) (v := .ref aT_found) (C := RX5) (T := TX5) (N := 9) hx hb hts i5 hown hK hP 0 rfl rfl 2 (by decide) (hw _ u254) (fun _ h9 => h9) rfl dX5_add_33 ?_
        refine va_alen hx hb hK hP 2 1 (v := (Int32.ofNat nT_found)) rfl rfl rfl dX5_add_36 ?_
        refine lv_icmp_lt (tgt := 41) hx hb dX5_add_37 (by decide) (fun c5 => ?_) (fun c5 => ?_)
        · replace hev := x_t c5 hev
          refine lv_lconst (v := (1 : Int64)) hx hb dX5_add_41 (by decide) ?_
          refine lv_iload_n hx hb dX5_add_42 rfl (lv_at hl 2 rfl) ?_
          refine lv_bipush (v := (63 : Int32)) hx hb dX5_add_43 (by decide) ?_
          refine lv_iand hx hb dX5_add_45 ?_
          refine lv_lshl hx hb dX5_add_46 rfl ?_
          refine lv_topl (fun y6 ey6 => ?_)
          replace hev := x_lt hev y6 ey6
          refine lv_lstore (lv' := [(6, .long y6), (5, .int y1), (0, .ref aT), (1, .int p1), (2, .int p2), (3, .int p3), (4, .int p4)]) hx hb dX5_add_47 hl (by decide) rfl (fun ls hl => ?_)
          refine lv_aload_n hx hb dX5_add_49 rfl (lv_at hl 2 rfl) ?_
          refine va_get (D := G.1) (ci := 3) (v := .ref aT_seen) (C := RX5) (T := TX5) (N := 9) hx hb hts i5 hown hK hP 0 rfl rfl 1 (by decide) (hw _ u253) (fun _ h9 => h9) rfl dX5_add_50 ?_
          refine lv_iload hx hb dX5_add_53 (lv_at hl 1 rfl) ?_
          obtain ⟨h7, hev⟩ := x_ld hev
          refine va_lald hx hb hK hP 1 1 rfl rfl h7 dX5_add_55 ?_
          refine lv_topl (fun v8 ev8 => ?_)
          replace hev := hev v8 ev8
          refine lv_lload hx hb dX5_add_56 (lv_at hl 0 rfl) ?_
          refine lv_land hx hb dX5_add_58 ?_
          refine lv_lconst (v := (0 : Int64)) hx hb dX5_add_59 (by decide) ?_
          refine W.lcmp hx hb dX5_add_60 ?_
          refine lv_if_ne (tgt := 116) hx hb dX5_add_61 (by decide) (fun c9 => ?_) (fun c9 => ?_)
          · replace hev := x_f c9 hev
            exact ret2 _ _ _ _ vT_size fT_found fT_seen (Option.some.inj hev) dX5_add_116 hP hD hS
          · replace hev := x_t c9 hev
            refine lv_aload_n hx hb dX5_add_64 rfl (lv_at hl 2 rfl) ?_
            refine va_get (D := G.1) (ci := 3) (v := .ref aT_seen) (C := RX5) (T := TX5) (N := 9) hx hb hts i5 hown hK hP 0 rfl rfl 1 (by decide) (hw _ u253) (fun _ h9 => h9) rfl dX5_add_65 ?_
            refine lv_iload hx hb dX5_add_68 (lv_at hl 1 rfl) ?_
            refine lv_dup2_11 hx hb dX5_add_70 rfl rfl ?_
            obtain ⟨h10, hev⟩ := x_ld hev
            refine va_lald hx hb hK hP 1 1 rfl rfl h10 dX5_add_71 ?_
            refine lv_topl (fun v11 ev11 => ?_)
            replace hev := hev v11 ev11
            refine lv_lload hx hb dX5_add_72 (lv_at hl 0 rfl) ?_
            refine lv_lor hx hb dX5_add_74 ?_
            refine lv_topl (fun y12 ey12 => ?_)
            replace hev := x_lt hev y12 ey12
            obtain ⟨h13, hev⟩ := x_ck hev
            refine va_last hx hb hK hP hD hS 1 1 rfl rfl h13 dX5_add_75 (fun H lo hP hD hS => ?_)
            refine lv_aload_n hx hb dX5_add_76 rfl (lv_at hl 2 rfl) ?_
            refine va_get (D := G.1) (ci := 3) (v := .ref aT_found) (C := RX5) (T := TX5) (N := 9) hx hb hts i5 hown hK hP 0 rfl rfl 2 (by decide) (hw _ u254) (fun _ h9 => h9) rfl dX5_add_77 ?_
            refine lv_aload_n hx hb dX5_add_80 rfl (lv_at hl 2 rfl) ?_
            refine va_get (D := G.1) (ci := 3) (v := .int vT_size) (C := RX5) (T := TX5) (N := 9) hx hb hts i5 hown hK hP 0 rfl rfl 3 (by decide) (hw _ u255) (fun _ h9 => h9) rfl dX5_add_81 ?_
            refine lv_iload_n hx hb dX5_add_84 rfl (lv_at hl 3 rfl) ?_
            refine lv_i2l hx hb dX5_add_85 rfl ?_
            refine lv_iload_n hx hb dX5_add_86 rfl (lv_at hl 4 rfl) ?_
            refine lv_i2l hx hb dX5_add_87 rfl ?_
            refine lv_bipush (v := (16 : Int32)) hx hb dX5_add_88 (by decide) ?_
            refine lv_lshl hx hb dX5_add_90 rfl ?_
            refine lv_lor hx hb dX5_add_91 ?_
            refine lv_iload_n hx hb dX5_add_92 rfl (lv_at hl 5 rfl) ?_
            refine lv_i2l hx hb dX5_add_93 rfl ?_
            refine lv_bipush (v := (24 : Int32)) hx hb dX5_add_94 (by decide) ?_
            refine lv_lshl hx hb dX5_add_96 rfl ?_
            refine lv_lor hx hb dX5_add_97 ?_
            refine lv_iload hx hb dX5_add_98 (lv_at hl 6 rfl) ?_
            refine lv_i2l hx hb dX5_add_100 rfl ?_
            refine lv_bipush (v := (40 : Int32)) hx hb dX5_add_101 (by decide) ?_
            refine lv_lshl hx hb dX5_add_103 rfl ?_
            refine lv_lor hx hb dX5_add_104 ?_
            refine lv_topl (fun y14 ey14 => ?_)
            replace hev := x_lt hev y14 ey14
            obtain ⟨h15, hev⟩ := x_ck hev
            refine va_last hx hb hK hP hD hS 2 1 rfl rfl h15 dX5_add_105 (fun H lo hP hD hS => ?_)
            refine lv_aload_n hx hb dX5_add_106 rfl (lv_at hl 2 rfl) ?_
            refine lv_dup hx hb dX5_add_107 rfl ?_
            refine va_get (D := G.1) (ci := 3) (v := .int vT_size) (C := RX5) (T := TX5) (N := 9) hx hb hts i5 hown hK hP 0 rfl rfl 3 (by decide) (hw _ u255) (fun _ h9 => h9) rfl dX5_add_108 ?_
            refine lv_iconst (v := (1 : Int32)) hx hb dX5_add_111 (by decide) ?_
            refine lv_iadd hx hb dX5_add_112 ?_
            refine lv_topi (fun y16 ey16 => ?_)
            replace hev := x_lt hev y16 ey16
            refine va_put (D := G.1) (ci := 3) (v := .int y16) (ty := .int) (C := RX5) (T := TX5) (N := 9) hx hb hts i5 tyX5 tyX5_ok nmX5 hown hK hP hD hS 0 rfl rfl 3 (by decide) (hw _ u255) (fun _ h9 => h9) rfl (by decide +kernel) rfl rfl (Nat.le_of_ble_eq_true rfl) dX5_add_113 (fun H lo hP hD hS => ?_)
            exact ret2 _ _ _ _ y16 (vp_updL fT_found (vT_size).toNatClampNeg y14) (vp_updL fT_seen (y1).toNatClampNeg y12) (Option.some.inj hev) dX5_add_116 hP hD hS
        · replace hev := x_f c5 hev
          exact ret2 _ _ _ _ vT_size fT_found fT_seen (Option.some.inj hev) dX5_add_40 hP hD hS
def f_Se_stateAt_J13 (nT_found : Nat) (fT_found : Nat → Int64) : Option (Int32) := some (0 : Int32)
def f_Se_stateAt (nT_found : Nat) (fT_found : Nat → Int64) (p1 : Int32) : Option (Int32) := if p1 < 0 then (f_Se_stateAt_J13 nT_found fT_found) else if p1 < (Int32.ofNat nT_found) then (x_I nT_found fT_found p1 (fun v4 => x_B (f_St_of ((v4).toInt32)) (fun y5 => some y5))) else f_Se_stateAt_J13 nT_found fT_found
set_option maxHeartbeats 8000000 in
set_option maxRecDepth 100000 in
theorem c_Se_stateAt (l : Launch) (G : GG) (aT aT_rules aT_seen aT_found : Nat) (vT_size : Int32) (vT_opened : Int32) (vT_start : Int32) (vT_doers : Int32) (vT_unlifted : Int32) (vT_deedsAllowed : Int32) (fT_found : Nat → Int64) (nT_found : Nat) (p1 : Int32) (r0 : Int32) (hev : f_Se_stateAt nT_found fT_found p1 = some r0) : RO l G yX5_stateAt cX5_stateAt 2 (some .int) 1 [.ref aT, .int p1] [(aT, .inr (3, [.ref aT_rules, .ref aT_seen, .ref aT_found, .int vT_size, .int vT_opened, .int vT_start, .int vT_doers, .int vT_unlifted, .int vT_deedsAllowed])), (aT_found, .inl (G.2.2.1, nT_found, .inr (.inl fT_found)))] (some (.int r0)) := by
  refine RO_of (by decide) (Nat.le_of_ble_eq_true rfl) ?_
  intro p e s m ar below meth c R Q H ls X hR hP hKK hS0 hl ret
  generalize hrs : r0 = rs at hev ret
  have hl : lv_has ls 2 [(0, .ref aT), (1, .int p1)] := hl
  obtain ⟨hx, hb, hml, hown, hts, hT⟩ := id X
  have hK := hKK.1
  have hw : ∀ w ∈ T0, w.before ar s = true := fun w h => hts w (hT w h)
  have i5 := fun w h => hT w (inT5 w h)
  have J13 : ∀ (ls : Array Slot), f_Se_stateAt_J13 nT_found fT_found = some rs → lv_has ls 2 [] → W p l e R s m ar below meth c H [] 0 0 Q (F0 m 13 ls []) := by
    intro  ls hev hl
    unfold f_Se_stateAt_J13 at hev
    refine lv_iconst (v := (0 : Int32)) hx hb dX5_stateAt_13 (by decide) ?_
    refine lv_goto (tgt := 27) hx hb dX5_stateAt_14 (by decide) ?_
    exact ret _ _ _ dX5_stateAt_27 ((show narrow _ (.int (0 : Int32)) = .int (0 : Int32) from rfl).trans (congrArg Value.int (Option.some.inj hev)))
  unfold f_Se_stateAt at hev
  refine lv_iload_n hx hb dX5_stateAt_0 rfl (lv_at hl 1 rfl) ?_
  refine lv_if_lt (tgt := 13) hx hb dX5_stateAt_1 (by decide) (fun c1 => ?_) (fun c1 => ?_)
  · replace hev := x_t c1 hev
    exact J13  ls hev (lv_sub hl [] rfl)
  · replace hev := x_f c1 hev
    refine lv_iload_n hx hb dX5_stateAt_4 rfl (lv_at hl 1 rfl) ?_
    refine lv_aload_n hx hb dX5_stateAt_5 rfl (lv_at hl 0 rfl) ?_
    refine va_get (D := G.1) (ci := 3) (v := .ref aT_found) (C := RX5) (T := TX5) (N := 9) hx hb hts i5 hown hK hP 0 rfl rfl 2 (by decide) (hw _ u254) (fun _ h9 => h9) rfl dX5_stateAt_6 ?_
    refine va_alen hx hb hK hP 1 1 (v := (Int32.ofNat nT_found)) rfl rfl rfl dX5_stateAt_9 ?_
    refine lv_icmp_lt (tgt := 17) hx hb dX5_stateAt_10 (by decide) (fun c2 => ?_) (fun c2 => ?_)
    · replace hev := x_t c2 hev
      refine lv_aload_n hx hb dX5_stateAt_17 rfl (lv_at hl 0 rfl) ?_
      refine va_get (D := G.1) (ci := 3) (v := .ref aT_found) (C := RX5) (T := TX5) (N := 9) hx hb hts i5 hown hK hP 0 rfl rfl 2 (by decide) (hw _ u254) (fun _ h9 => h9) rfl dX5_stateAt_18 ?_
      refine lv_iload_n hx hb dX5_stateAt_21 rfl (lv_at hl 1 rfl) ?_
      obtain ⟨h3, hev⟩ := x_ld hev
      refine va_lald hx hb hK hP 1 1 rfl rfl h3 dX5_stateAt_22 ?_
      refine lv_topl (fun v4 ev4 => ?_)
      replace hev := hev v4 ev4
      refine lv_l2i hx hb dX5_stateAt_23 rfl ?_
      obtain ⟨y5, hq, hev⟩ := x_bd hev
      refine roS X hKK hR (st1 := [.int y5]) (c_St_of l G ((v4).toInt32) y5 hq) K_X6_of u834 (x_Psub hP [] rfl) (by decide) ⟨Nat.zero_le _, Nat.zero_le _⟩ rfl hl.1 rfl (Nat.le_of_ble_eq_true rfl) rfl dX5_stateAt_24 ?_
      exact ret _ _ _ dX5_stateAt_27 ((show narrow _ (.int y5) = .int y5 from rfl).trans (congrArg Value.int (Option.some.inj hev)))
    · replace hev := x_f c2 hev
      exact J13  ls hev (lv_sub hl [] rfl)
def f_Se_distanceAt_J13 (nT_found : Nat) (fT_found : Nat → Int64) : Option (Int32) := some (0 : Int32)
def f_Se_distanceAt (nT_found : Nat) (fT_found : Nat → Int64) (p1 : Int32) : Option (Int32) := if p1 < 0 then (f_Se_distanceAt_J13 nT_found fT_found) else if p1 < (Int32.ofNat nT_found) then (x_I nT_found fT_found p1 (fun v4 => some (((v4 >>> (((40 : Int32)).toInt64 &&& 63))).toInt32 &&& (65535 : Int32)))) else f_Se_distanceAt_J13 nT_found fT_found
set_option maxHeartbeats 8000000 in
set_option maxRecDepth 100000 in
theorem c_Se_distanceAt (l : Launch) (G : GG) (aT aT_rules aT_seen aT_found : Nat) (vT_size : Int32) (vT_opened : Int32) (vT_start : Int32) (vT_doers : Int32) (vT_unlifted : Int32) (vT_deedsAllowed : Int32) (fT_found : Nat → Int64) (nT_found : Nat) (p1 : Int32) (r0 : Int32) (hev : f_Se_distanceAt nT_found fT_found p1 = some r0) : RO l G yX5_distanceAt cX5_distanceAt 2 (some .int) 0 [.ref aT, .int p1] [(aT, .inr (3, [.ref aT_rules, .ref aT_seen, .ref aT_found, .int vT_size, .int vT_opened, .int vT_start, .int vT_doers, .int vT_unlifted, .int vT_deedsAllowed])), (aT_found, .inl (G.2.2.1, nT_found, .inr (.inl fT_found)))] (some (.int r0)) := by
  refine RO_of (by decide) (Nat.le_of_ble_eq_true rfl) ?_
  intro p e s m ar below meth c R Q H ls X hR hP hKK hS0 hl ret
  generalize hrs : r0 = rs at hev ret
  have hl : lv_has ls 2 [(0, .ref aT), (1, .int p1)] := hl
  obtain ⟨hx, hb, hml, hown, hts, hT⟩ := id X
  have hK := hKK.1
  have hw : ∀ w ∈ T0, w.before ar s = true := fun w h => hts w (hT w h)
  have i5 := fun w h => hT w (inT5 w h)
  have J13 : ∀ (ls : Array Slot), f_Se_distanceAt_J13 nT_found fT_found = some rs → lv_has ls 2 [] → W p l e R s m ar below meth c H [] 0 0 Q (F0 m 13 ls []) := by
    intro  ls hev hl
    unfold f_Se_distanceAt_J13 at hev
    refine lv_iconst (v := (0 : Int32)) hx hb dX5_distanceAt_13 (by decide) ?_
    refine lv_goto (tgt := 30) hx hb dX5_distanceAt_14 (by decide) ?_
    exact ret _ _ _ dX5_distanceAt_30 ((show narrow _ (.int (0 : Int32)) = .int (0 : Int32) from rfl).trans (congrArg Value.int (Option.some.inj hev)))
  unfold f_Se_distanceAt at hev
  refine lv_iload_n hx hb dX5_distanceAt_0 rfl (lv_at hl 1 rfl) ?_
  refine lv_if_lt (tgt := 13) hx hb dX5_distanceAt_1 (by decide) (fun c1 => ?_) (fun c1 => ?_)
  · replace hev := x_t c1 hev
    exact J13  ls hev (lv_sub hl [] rfl)
  · replace hev := x_f c1 hev
    refine lv_iload_n hx hb dX5_distanceAt_4 rfl (lv_at hl 1 rfl) ?_
    refine lv_aload_n hx hb dX5_distanceAt_5 rfl (lv_at hl 0 rfl) ?_
    refine va_get (D := G.1) (ci := 3) (v := .ref aT_found) (C := RX5) (T := TX5) (N := 9) hx hb hts i5 hown hK hP 0 rfl rfl 2 (by decide) (hw _ u254) (fun _ h9 => h9) rfl dX5_distanceAt_6 ?_
    refine va_alen hx hb hK hP 1 1 (v := (Int32.ofNat nT_found)) rfl rfl rfl dX5_distanceAt_9 ?_
    refine lv_icmp_lt (tgt := 17) hx hb dX5_distanceAt_10 (by decide) (fun c2 => ?_) (fun c2 => ?_)
    · replace hev := x_t c2 hev
      refine lv_aload_n hx hb dX5_distanceAt_17 rfl (lv_at hl 0 rfl) ?_
      refine va_get (D := G.1) (ci := 3) (v := .ref aT_found) (C := RX5) (T := TX5) (N := 9) hx hb hts i5 hown hK hP 0 rfl rfl 2 (by decide) (hw _ u254) (fun _ h9 => h9) rfl dX5_distanceAt_18 ?_
      refine lv_iload_n hx hb dX5_distanceAt_21 rfl (lv_at hl 1 rfl) ?_
      obtain ⟨h3, hev⟩ := x_ld hev
      refine va_lald hx hb hK hP 1 1 rfl rfl h3 dX5_distanceAt_22 ?_
      refine lv_topl (fun v4 ev4 => ?_)
      replace hev := hev v4 ev4
      refine lv_bipush (v := (40 : Int32)) hx hb dX5_distanceAt_23 (by decide) ?_
      refine lv_lshr hx hb dX5_distanceAt_25 rfl ?_
      refine lv_l2i hx hb dX5_distanceAt_26 rfl ?_
      refine lv_ldc (v := (65535 : Int32)) hx hb hown (hw _ u847) dX5_distanceAt_27 ?_
      refine lv_iand hx hb dX5_distanceAt_29 ?_
      exact ret _ _ _ dX5_distanceAt_30 ((show narrow _ (.int (((v4 >>> (((40 : Int32)).toInt64 &&& 63))).toInt32 &&& (65535 : Int32))) = .int (((v4 >>> (((40 : Int32)).toInt64 &&& 63))).toInt32 &&& (65535 : Int32)) from rfl).trans (congrArg Value.int (Option.some.inj hev)))
    · replace hev := x_f c2 hev
      exact J13  ls hev (lv_sub hl [] rfl)
def f_Se_open_J101 (rec : Int32 → Int32 → (Nat → Int64) → (Nat → Int64) → Option (Int32 × (Nat → Int64) × (Nat → Int64))) (k : Nat) (nT_found : Nat) (vT_deedsAllowed : Int32) (vT_opened : Int32) (vT_rules_deedCount : Int32) (vT_rules_spells : Int32) (vT_size : Int32) (vT_unlifted : Int32) (fT_found : Nat → Int64) (fT_rules_askings : Nat → Int32) (fT_rules_bars : Nat → Int32) (fT_rules_bits : Nat → Int32) (fT_rules_kisses : Nat → Int32) (fT_rules_kissesNeeded : Nat → Int32) (fT_rules_masks : Nat → Int32) (fT_rules_sorts : Nat → Int32) (fT_rules_values : Nat → Int32) (fT_rules_wakings : Nat → Int32) (fT_seen : Nat → Int64) (x1 : Int32) (x3 : Int32) (x4 : Int32) (x5 : Int32) (x6 : Int32) : Option (Int32 × (Nat → Int64) × (Nat → Int64)) := x_L (x6 + (1 : Int32)) (fun y5 => rec y5 vT_size fT_found fT_seen)
def f_Se_open_J66 (rec : Int32 → Int32 → (Nat → Int64) → (Nat → Int64) → Option (Int32 × (Nat → Int64) × (Nat → Int64))) (k : Nat) (nT_found : Nat) (vT_deedsAllowed : Int32) (vT_opened : Int32) (vT_rules_deedCount : Int32) (vT_rules_spells : Int32) (vT_size : Int32) (vT_unlifted : Int32) (fT_found : Nat → Int64) (fT_rules_askings : Nat → Int32) (fT_rules_bars : Nat → Int32) (fT_rules_bits : Nat → Int32) (fT_rules_kisses : Nat → Int32) (fT_rules_kissesNeeded : Nat → Int32) (fT_rules_masks : Nat → Int32) (fT_rules_sorts : Nat → Int32) (fT_rules_values : Nat → Int32) (fT_rules_wakings : Nat → Int32) (fT_seen : Nat → Int64) (x1 : Int32) (x3 : Int32) (x4 : Int32) (x5 : Int32) (x6 : Int32) (s0 : Int32) : Option (Int32 × (Nat → Int64) × (Nat → Int64)) := if s0 = (-1 : Int32) then (f_Se_open_J101 rec k nT_found vT_deedsAllowed vT_opened vT_rules_deedCount vT_rules_spells vT_size vT_unlifted fT_found fT_rules_askings fT_rules_bars fT_rules_bits fT_rules_kisses fT_rules_kissesNeeded fT_rules_masks fT_rules_sorts fT_rules_values fT_rules_wakings fT_seen x1 x3 x4 x5 x6) else x_B (f_St_lifted s0) (fun y7 => if (y7 &&& vT_unlifted) = 0 then (x_B (f_St_of s0) (fun y9 => x_B (f_Se_add nT_found vT_size fT_found fT_seen y9 x6 x1 x5) (fun ⟨w10, w11, w12⟩ => f_Se_open_J101 rec k nT_found vT_deedsAllowed vT_opened vT_rules_deedCount vT_rules_spells w10 vT_unlifted w11 fT_rules_askings fT_rules_bars fT_rules_bits fT_rules_kisses fT_rules_kissesNeeded fT_rules_masks fT_rules_sorts fT_rules_values fT_rules_wakings w12 x1 x3 x4 x5 x6))) else f_Se_open_J101 rec k nT_found vT_deedsAllowed vT_opened vT_rules_deedCount vT_rules_spells vT_size vT_unlifted fT_found fT_rules_askings fT_rules_bars fT_rules_bits fT_rules_kisses fT_rules_kissesNeeded fT_rules_masks fT_rules_sorts fT_rules_values fT_rules_wakings fT_seen x1 x3 x4 x5 x6)
def f_Se_open_L26 (nT_found : Nat) (vT_deedsAllowed : Int32) (vT_opened : Int32) (vT_rules_deedCount : Int32) (vT_rules_spells : Int32) (vT_unlifted : Int32) (fT_rules_askings : Nat → Int32) (fT_rules_bars : Nat → Int32) (fT_rules_bits : Nat → Int32) (fT_rules_kisses : Nat → Int32) (fT_rules_kissesNeeded : Nat → Int32) (fT_rules_masks : Nat → Int32) (fT_rules_sorts : Nat → Int32) (fT_rules_values : Nat → Int32) (fT_rules_wakings : Nat → Int32) (x1 : Int32) (x3 : Int32) (x4 : Int32) (x5 : Int32) : Nat → Int32 → Int32 → (Nat → Int64) → (Nat → Int64) → Option (Int32 × (Nat → Int64) × (Nat → Int64))
  | 0, _, _, _, _ => none
  | k + 1, x6, vT_size, fT_found, fT_seen => if x3 < x6 then (some (vT_size, fT_found, fT_seen)) else if (19 : Int32) ≤ x6 then (some (vT_size, fT_found, fT_seen)) else if ((vT_deedsAllowed >>> (x6 &&& 31)) &&& (1 : Int32)) = 0 then (f_Se_open_J66 (f_Se_open_L26 nT_found vT_deedsAllowed vT_opened vT_rules_deedCount vT_rules_spells vT_unlifted fT_rules_askings fT_rules_bars fT_rules_bits fT_rules_kisses fT_rules_kissesNeeded fT_rules_masks fT_rules_sorts fT_rules_values fT_rules_wakings x1 x3 x4 x5 k) k nT_found vT_deedsAllowed vT_opened vT_rules_deedCount vT_rules_spells vT_size vT_unlifted fT_found fT_rules_askings fT_rules_bars fT_rules_bits fT_rules_kisses fT_rules_kissesNeeded fT_rules_masks fT_rules_sorts fT_rules_values fT_rules_wakings fT_seen x1 x3 x4 x5 x6 (-1 : Int32)) else x_B (f_Ru_after k vT_rules_deedCount vT_rules_spells fT_rules_askings fT_rules_bars fT_rules_bits fT_rules_kisses fT_rules_kissesNeeded fT_rules_masks fT_rules_sorts fT_rules_values fT_rules_wakings x4 x6) (fun y16 => f_Se_open_J66 (f_Se_open_L26 nT_found vT_deedsAllowed vT_opened vT_rules_deedCount vT_rules_spells vT_unlifted fT_rules_askings fT_rules_bars fT_rules_bits fT_rules_kisses fT_rules_kissesNeeded fT_rules_masks fT_rules_sorts fT_rules_values fT_rules_wakings x1 x3 x4 x5 k) k nT_found vT_deedsAllowed vT_opened vT_rules_deedCount vT_rules_spells vT_size vT_unlifted fT_found fT_rules_askings fT_rules_bars fT_rules_bits fT_rules_kisses fT_rules_kissesNeeded fT_rules_masks fT_rules_sorts fT_rules_values fT_rules_wakings fT_seen x1 x3 x4 x5 x6 y16)
def f_Se_open (k : Nat) (nT_found : Nat) (vT_deedsAllowed : Int32) (vT_opened : Int32) (vT_rules_deedCount : Int32) (vT_rules_spells : Int32) (vT_size : Int32) (vT_unlifted : Int32) (fT_found : Nat → Int64) (fT_rules_askings : Nat → Int32) (fT_rules_bars : Nat → Int32) (fT_rules_bits : Nat → Int32) (fT_rules_kisses : Nat → Int32) (fT_rules_kissesNeeded : Nat → Int32) (fT_rules_masks : Nat → Int32) (fT_rules_sorts : Nat → Int32) (fT_rules_values : Nat → Int32) (fT_rules_wakings : Nat → Int32) (fT_seen : Nat → Int64) (p1 : Int32) (p2 : Int32) (p3 : Int32) : Option (Int32 × Int32 × (Nat → Int64) × (Nat → Int64)) := x_L ((p1 + (1 : Int32))) (fun y1 => x_B (f_Se_stateAt nT_found fT_found p1) (fun y2 => x_B (f_Se_distanceAt nT_found fT_found p1) (fun y3 => x_L ((y3 + (1 : Int32))) (fun y4 => x_B (f_Se_open_L26 nT_found vT_deedsAllowed y1 vT_rules_deedCount vT_rules_spells vT_unlifted fT_rules_askings fT_rules_bars fT_rules_bits fT_rules_kisses fT_rules_kissesNeeded fT_rules_masks fT_rules_sorts fT_rules_values fT_rules_wakings p1 p3 y2 y4 k p2 vT_size fT_found fT_seen) (fun ⟨w17, w18, w19⟩ => some (y1, w17, w18, w19))))))
set_option maxHeartbeats 8000000 in
set_option maxRecDepth 100000 in
theorem c_Se_open (l : Launch) (G : GG) (aT aT_rules aT_seen aT_found aT_rules_masks aT_rules_values aT_rules_askings aT_rules_kissesNeeded aT_rules_wakings aT_rules_binders aT_rules_curses aT_rules_doers aT_rules_sorts aT_rules_whichs aT_rules_bars aT_rules_bits aT_rules_kisses : Nat) (vT_size : Int32) (vT_opened : Int32) (vT_start : Int32) (vT_doers : Int32) (vT_unlifted : Int32) (vT_deedsAllowed : Int32) (vT_rules_people : Int32) (vT_rules_spells : Int32) (vT_rules_deedCount : Int32) (fT_found : Nat → Int64) (nT_found : Nat) (fT_seen : Nat → Int64) (fT_rules_bars : Nat → Int32) (fT_rules_sorts : Nat → Int32) (fT_rules_kisses : Nat → Int32) (fT_rules_masks : Nat → Int32) (fT_rules_values : Nat → Int32) (fT_rules_askings : Nat → Int32) (fT_rules_kissesNeeded : Nat → Int32) (fT_rules_wakings : Nat → Int32) (fT_rules_bits : Nat → Int32) (k : Nat) (p1 : Int32) (p2 : Int32) (p3 : Int32) (wvT_opened : Int32) (wvT_size : Int32) (wfT_found : Nat → Int64) (wfT_seen : Nat → Int64) (hev : f_Se_open k nT_found vT_deedsAllowed vT_opened vT_rules_deedCount vT_rules_spells vT_size vT_unlifted fT_found fT_rules_askings fT_rules_bars fT_rules_bits fT_rules_kisses fT_rules_kissesNeeded fT_rules_masks fT_rules_sorts fT_rules_values fT_rules_wakings fT_seen p1 p2 p3 = some (wvT_opened, wvT_size, wfT_found, wfT_seen)) : RW l G yX5_open cX5_open 8 none 2 [.ref aT, .int p1, .int p2, .int p3] [(aT, .inr (3, [.ref aT_rules, .ref aT_seen, .ref aT_found, .int vT_size, .int vT_opened, .int vT_start, .int vT_doers, .int vT_unlifted, .int vT_deedsAllowed])), (aT_rules, .inr (2, [.int vT_rules_people, .int vT_rules_spells, .int vT_rules_deedCount, .ref aT_rules_masks, .ref aT_rules_values, .ref aT_rules_askings, .ref aT_rules_kissesNeeded, .ref aT_rules_wakings, .ref aT_rules_binders, .ref aT_rules_curses, .ref aT_rules_doers, .ref aT_rules_sorts, .ref aT_rules_whichs, .ref aT_rules_bars, .ref aT_rules_bits, .ref aT_rules_kisses])), (aT_found, .inl (G.2.2.1, nT_found, .inr (.inl fT_found))), (aT_seen, .inl (G.2.2.1, 896, .inr (.inl fT_seen))), (aT_rules_bars, .inl (G.2.1, 19, .inl fT_rules_bars)), (aT_rules_sorts, .inl (G.2.1, 19, .inl fT_rules_sorts)), (aT_rules_kisses, .inl (G.2.1, 19, .inl fT_rules_kisses)), (aT_rules_masks, .inl (G.2.1, 5, .inl fT_rules_masks)), (aT_rules_values, .inl (G.2.1, 5, .inl fT_rules_values)), (aT_rules_askings, .inl (G.2.1, 5, .inl fT_rules_askings)), (aT_rules_kissesNeeded, .inl (G.2.1, 5, .inl fT_rules_kissesNeeded)), (aT_rules_wakings, .inl (G.2.1, 5, .inl fT_rules_wakings)), (aT_rules_bits, .inl (G.2.1, 19, .inl fT_rules_bits))] none [(aT, .inr (3, [.ref aT_rules, .ref aT_seen, .ref aT_found, .int wvT_size, .int wvT_opened, .int vT_start, .int vT_doers, .int vT_unlifted, .int vT_deedsAllowed])), (aT_rules, .inr (2, [.int vT_rules_people, .int vT_rules_spells, .int vT_rules_deedCount, .ref aT_rules_masks, .ref aT_rules_values, .ref aT_rules_askings, .ref aT_rules_kissesNeeded, .ref aT_rules_wakings, .ref aT_rules_binders, .ref aT_rules_curses, .ref aT_rules_doers, .ref aT_rules_sorts, .ref aT_rules_whichs, .ref aT_rules_bars, .ref aT_rules_bits, .ref aT_rules_kisses])), (aT_found, .inl (G.2.2.1, nT_found, .inr (.inl wfT_found))), (aT_seen, .inl (G.2.2.1, 896, .inr (.inl wfT_seen))), (aT_rules_bars, .inl (G.2.1, 19, .inl fT_rules_bars)), (aT_rules_sorts, .inl (G.2.1, 19, .inl fT_rules_sorts)), (aT_rules_kisses, .inl (G.2.1, 19, .inl fT_rules_kisses)), (aT_rules_masks, .inl (G.2.1, 5, .inl fT_rules_masks)), (aT_rules_values, .inl (G.2.1, 5, .inl fT_rules_values)), (aT_rules_askings, .inl (G.2.1, 5, .inl fT_rules_askings)), (aT_rules_kissesNeeded, .inl (G.2.1, 5, .inl fT_rules_kissesNeeded)), (aT_rules_wakings, .inl (G.2.1, 5, .inl fT_rules_wakings)), (aT_rules_bits, .inl (G.2.1, 19, .inl fT_rules_bits))] 0 0 := by
  refine RW_of (by decide) (Nat.le_of_ble_eq_true rfl) ?_
  intro p e s m ar below meth c R Q A ls X hR hRc hin hP hKK hD hS hA hAb hl ret
  obtain ⟨rs, hrs⟩ : ∃ q, q = (wvT_opened, wvT_size, wfT_found, wfT_seen) := ⟨_, rfl⟩
  rw [← hrs] at hev
  have ret2 : ∀ (pc : Nat) (ls : Array Slot) (H : Heap) (lo : List Loc) (zvT_opened : Int32) (zvT_size : Int32) (zfT_found : Nat → Int64) (zfT_seen : Nat → Int64), (zvT_opened, zvT_size, zfT_found, zfT_seen) = rs → decode cX5_open pc = .ok (.return_, 1) → va_P G.1 classes [(aT, .inr (3, [.ref aT_rules, .ref aT_seen, .ref aT_found, .int zvT_size, .int zvT_opened, .int vT_start, .int vT_doers, .int vT_unlifted, .int vT_deedsAllowed])), (aT_rules, .inr (2, [.int vT_rules_people, .int vT_rules_spells, .int vT_rules_deedCount, .ref aT_rules_masks, .ref aT_rules_values, .ref aT_rules_askings, .ref aT_rules_kissesNeeded, .ref aT_rules_wakings, .ref aT_rules_binders, .ref aT_rules_curses, .ref aT_rules_doers, .ref aT_rules_sorts, .ref aT_rules_whichs, .ref aT_rules_bars, .ref aT_rules_bits, .ref aT_rules_kisses])), (aT_found, .inl (G.2.2.1, nT_found, .inr (.inl zfT_found))), (aT_seen, .inl (G.2.2.1, 896, .inr (.inl zfT_seen))), (aT_rules_bars, .inl (G.2.1, 19, .inl fT_rules_bars)), (aT_rules_sorts, .inl (G.2.1, 19, .inl fT_rules_sorts)), (aT_rules_kisses, .inl (G.2.1, 19, .inl fT_rules_kisses)), (aT_rules_masks, .inl (G.2.1, 5, .inl fT_rules_masks)), (aT_rules_values, .inl (G.2.1, 5, .inl fT_rules_values)), (aT_rules_askings, .inl (G.2.1, 5, .inl fT_rules_askings)), (aT_rules_kissesNeeded, .inl (G.2.1, 5, .inl fT_rules_kissesNeeded)), (aT_rules_wakings, .inl (G.2.1, 5, .inl fT_rules_wakings)), (aT_rules_bits, .inl (G.2.1, 19, .inl fT_rules_bits))] H → va_D A [(aT, .inr (3, [.ref aT_rules, .ref aT_seen, .ref aT_found, .int zvT_size, .int zvT_opened, .int vT_start, .int vT_doers, .int vT_unlifted, .int vT_deedsAllowed])), (aT_rules, .inr (2, [.int vT_rules_people, .int vT_rules_spells, .int vT_rules_deedCount, .ref aT_rules_masks, .ref aT_rules_values, .ref aT_rules_askings, .ref aT_rules_kissesNeeded, .ref aT_rules_wakings, .ref aT_rules_binders, .ref aT_rules_curses, .ref aT_rules_doers, .ref aT_rules_sorts, .ref aT_rules_whichs, .ref aT_rules_bars, .ref aT_rules_bits, .ref aT_rules_kisses])), (aT_found, .inl (G.2.2.1, nT_found, .inr (.inl zfT_found))), (aT_seen, .inl (G.2.2.1, 896, .inr (.inl zfT_seen))), (aT_rules_bars, .inl (G.2.1, 19, .inl fT_rules_bars)), (aT_rules_sorts, .inl (G.2.1, 19, .inl fT_rules_sorts)), (aT_rules_kisses, .inl (G.2.1, 19, .inl fT_rules_kisses)), (aT_rules_masks, .inl (G.2.1, 5, .inl fT_rules_masks)), (aT_rules_values, .inl (G.2.1, 5, .inl fT_rules_values)), (aT_rules_askings, .inl (G.2.1, 5, .inl fT_rules_askings)), (aT_rules_kissesNeeded, .inl (G.2.1, 5, .inl fT_rules_kissesNeeded)), (aT_rules_wakings, .inl (G.2.1, 5, .inl fT_rules_wakings)), (aT_rules_bits, .inl (G.2.1, 19, .inl fT_rules_bits))] → va_S A s.heap H lo → W p l e R s m ar below meth c H lo 0 0 Q (F0 m pc ls []) := by
    intro pc ls H lo zvT_opened zvT_size zfT_found zfT_seen he hd h1 h2 h3
    have he := he.trans hrs
    cases he
    exact ret.2.1 _ _ _ _ rfl rfl hd h1 h2 h3
  clear ret hrs
  have hl : lv_has ls 8 [(0, .ref aT), (1, .int p1), (2, .int p2), (3, .int p3)] := hl
  obtain ⟨hx, hb, hml, hown, hts, hT⟩ := id X
  have hK := hKK.1
  have hw : ∀ w ∈ T0, w.before ar s = true := fun w h => hts w (hT w h)
  have i5 := fun w h => hT w (inT5 w h)
  unfold f_Se_open at hev
  refine lv_aload_n hx hb dX5_open_0 rfl (lv_at hl 0 rfl) ?_
  refine lv_iload_n hx hb dX5_open_1 rfl (lv_at hl 1 rfl) ?_
  refine lv_iconst (v := (1 : Int32)) hx hb dX5_open_2 (by decide) ?_
  refine lv_iadd hx hb dX5_open_3 ?_
  refine lv_topi (fun y1 ey1 => ?_)
  replace hev := x_lt hev y1 ey1
  refine va_put (D := G.1) (ci := 3) (v := .int y1) (ty := .int) (C := RX5) (T := TX5) (N := 9) hx hb hts i5 tyX5 tyX5_ok nmX5 hown hK hP hD hS 0 rfl rfl 4 (by decide) (hw _ u256) (fun _ h9 => h9) rfl (by decide +kernel) rfl rfl (Nat.le_of_ble_eq_true rfl) dX5_open_4 (fun H lo hP hD hS => ?_)
  refine lv_aload_n hx hb dX5_open_7 rfl (lv_at hl 0 rfl) ?_
  refine lv_iload_n hx hb dX5_open_8 rfl (lv_at hl 1 rfl) ?_
  obtain ⟨y2, hq, hev⟩ := x_bd hev
  refine roV X (KK_at hKK hS hAb) hR (st1 := [.int y2]) (c_Se_stateAt l G aT aT_rules aT_seen aT_found vT_size y1 vT_start vT_doers vT_unlifted vT_deedsAllowed fT_found nT_found p1 y2 hq) K_X5_stateAt u830 (x_Psub hP [0, 2] rfl) rfl (q0 := 0) rfl (by decide) ⟨Nat.zero_le _, Nat.zero_le _⟩ rfl hl.1 rfl (Nat.le_of_ble_eq_true rfl) rfl dX5_open_9 ?_
  refine lv_istore (lv' := [(4, .int y2), (0, .ref aT), (1, .int p1), (2, .int p2), (3, .int p3)]) hx hb dX5_open_12 hl (by decide) rfl (fun ls hl => ?_)
  refine lv_aload_n hx hb dX5_open_14 rfl (lv_at hl 1 rfl) ?_
  refine lv_iload_n hx hb dX5_open_15 rfl (lv_at hl 2 rfl) ?_
  obtain ⟨y3, hq, hev⟩ := x_bd hev
  refine roV X (KK_at hKK hS hAb) hR (st1 := [.int y3]) (c_Se_distanceAt l G aT aT_rules aT_seen aT_found vT_size y1 vT_start vT_doers vT_unlifted vT_deedsAllowed fT_found nT_found p1 y3 hq) K_X5_distanceAt u843 (x_Psub hP [0, 2] rfl) rfl (q0 := 0) rfl (by decide) ⟨Nat.zero_le _, Nat.zero_le _⟩ rfl hl.1 rfl (Nat.le_of_ble_eq_true rfl) rfl dX5_open_16 ?_
  refine lv_iconst (v := (1 : Int32)) hx hb dX5_open_19 (by decide) ?_
  refine lv_iadd hx hb dX5_open_20 ?_
  refine lv_topi (fun y4 ey4 => ?_)
  replace hev := x_lt hev y4 ey4
  refine lv_istore (lv' := [(5, .int y4), (4, .int y2), (0, .ref aT), (1, .int p1), (2, .int p2), (3, .int p3)]) hx hb dX5_open_21 hl (by decide) rfl (fun ls hl => ?_)
  refine lv_iload_n hx hb dX5_open_23 rfl (lv_at hl 4 rfl) ?_
  refine lv_istore (lv' := [(6, .int p2), (5, .int y4), (4, .int y2), (0, .ref aT), (1, .int p1), (2, .int p2), (3, .int p3)]) hx hb dX5_open_24 hl (by decide) rfl (fun ls hl => ?_)
  have L26 : ∀ (vT_opened : Int32) (x1 : Int32) (x3 : Int32) (x4 : Int32) (x5 : Int32), ∀ (k : Nat) (x6 : Int32) (vT_size : Int32) (fT_found : Nat → Int64) (fT_seen : Nat → Int64) (ovT_size : Int32) (ofT_found : Nat → Int64) (ofT_seen : Nat → Int64), f_Se_open_L26 nT_found vT_deedsAllowed vT_opened vT_rules_deedCount vT_rules_spells vT_unlifted fT_rules_askings fT_rules_bars fT_rules_bits fT_rules_kisses fT_rules_kissesNeeded fT_rules_masks fT_rules_sorts fT_rules_values fT_rules_wakings x1 x3 x4 x5 k x6 vT_size fT_found fT_seen = some (ovT_size, ofT_found, ofT_seen) → (∀ (H : Heap) (lo : List Loc), va_P G.1 classes [(aT, .inr (3, [.ref aT_rules, .ref aT_seen, .ref aT_found, .int ovT_size, .int vT_opened, .int vT_start, .int vT_doers, .int vT_unlifted, .int vT_deedsAllowed])), (aT_rules, .inr (2, [.int vT_rules_people, .int vT_rules_spells, .int vT_rules_deedCount, .ref aT_rules_masks, .ref aT_rules_values, .ref aT_rules_askings, .ref aT_rules_kissesNeeded, .ref aT_rules_wakings, .ref aT_rules_binders, .ref aT_rules_curses, .ref aT_rules_doers, .ref aT_rules_sorts, .ref aT_rules_whichs, .ref aT_rules_bars, .ref aT_rules_bits, .ref aT_rules_kisses])), (aT_found, .inl (G.2.2.1, nT_found, .inr (.inl ofT_found))), (aT_seen, .inl (G.2.2.1, 896, .inr (.inl ofT_seen))), (aT_rules_bars, .inl (G.2.1, 19, .inl fT_rules_bars)), (aT_rules_sorts, .inl (G.2.1, 19, .inl fT_rules_sorts)), (aT_rules_kisses, .inl (G.2.1, 19, .inl fT_rules_kisses)), (aT_rules_masks, .inl (G.2.1, 5, .inl fT_rules_masks)), (aT_rules_values, .inl (G.2.1, 5, .inl fT_rules_values)), (aT_rules_askings, .inl (G.2.1, 5, .inl fT_rules_askings)), (aT_rules_kissesNeeded, .inl (G.2.1, 5, .inl fT_rules_kissesNeeded)), (aT_rules_wakings, .inl (G.2.1, 5, .inl fT_rules_wakings)), (aT_rules_bits, .inl (G.2.1, 19, .inl fT_rules_bits))] H → va_D A [(aT, .inr (3, [.ref aT_rules, .ref aT_seen, .ref aT_found, .int ovT_size, .int vT_opened, .int vT_start, .int vT_doers, .int vT_unlifted, .int vT_deedsAllowed])), (aT_rules, .inr (2, [.int vT_rules_people, .int vT_rules_spells, .int vT_rules_deedCount, .ref aT_rules_masks, .ref aT_rules_values, .ref aT_rules_askings, .ref aT_rules_kissesNeeded, .ref aT_rules_wakings, .ref aT_rules_binders, .ref aT_rules_curses, .ref aT_rules_doers, .ref aT_rules_sorts, .ref aT_rules_whichs, .ref aT_rules_bars, .ref aT_rules_bits, .ref aT_rules_kisses])), (aT_found, .inl (G.2.2.1, nT_found, .inr (.inl ofT_found))), (aT_seen, .inl (G.2.2.1, 896, .inr (.inl ofT_seen))), (aT_rules_bars, .inl (G.2.1, 19, .inl fT_rules_bars)), (aT_rules_sorts, .inl (G.2.1, 19, .inl fT_rules_sorts)), (aT_rules_kisses, .inl (G.2.1, 19, .inl fT_rules_kisses)), (aT_rules_masks, .inl (G.2.1, 5, .inl fT_rules_masks)), (aT_rules_values, .inl (G.2.1, 5, .inl fT_rules_values)), (aT_rules_askings, .inl (G.2.1, 5, .inl fT_rules_askings)), (aT_rules_kissesNeeded, .inl (G.2.1, 5, .inl fT_rules_kissesNeeded)), (aT_rules_wakings, .inl (G.2.1, 5, .inl fT_rules_wakings)), (aT_rules_bits, .inl (G.2.1, 19, .inl fT_rules_bits))] → va_S A s.heap H lo → ∀ (ls : Array Slot), lv_has ls 8 [] → W p l e R s m ar below meth c H lo 0 0 Q (F0 m 107 ls [])) → ∀ (H : Heap) (lo : List Loc), va_P G.1 classes [(aT, .inr (3, [.ref aT_rules, .ref aT_seen, .ref aT_found, .int vT_size, .int vT_opened, .int vT_start, .int vT_doers, .int vT_unlifted, .int vT_deedsAllowed])), (aT_rules, .inr (2, [.int vT_rules_people, .int vT_rules_spells, .int vT_rules_deedCount, .ref aT_rules_masks, .ref aT_rules_values, .ref aT_rules_askings, .ref aT_rules_kissesNeeded, .ref aT_rules_wakings, .ref aT_rules_binders, .ref aT_rules_curses, .ref aT_rules_doers, .ref aT_rules_sorts, .ref aT_rules_whichs, .ref aT_rules_bars, .ref aT_rules_bits, .ref aT_rules_kisses])), (aT_found, .inl (G.2.2.1, nT_found, .inr (.inl fT_found))), (aT_seen, .inl (G.2.2.1, 896, .inr (.inl fT_seen))), (aT_rules_bars, .inl (G.2.1, 19, .inl fT_rules_bars)), (aT_rules_sorts, .inl (G.2.1, 19, .inl fT_rules_sorts)), (aT_rules_kisses, .inl (G.2.1, 19, .inl fT_rules_kisses)), (aT_rules_masks, .inl (G.2.1, 5, .inl fT_rules_masks)), (aT_rules_values, .inl (G.2.1, 5, .inl fT_rules_values)), (aT_rules_askings, .inl (G.2.1, 5, .inl fT_rules_askings)), (aT_rules_kissesNeeded, .inl (G.2.1, 5, .inl fT_rules_kissesNeeded)), (aT_rules_wakings, .inl (G.2.1, 5, .inl fT_rules_wakings)), (aT_rules_bits, .inl (G.2.1, 19, .inl fT_rules_bits))] H → va_D A [(aT, .inr (3, [.ref aT_rules, .ref aT_seen, .ref aT_found, .int vT_size, .int vT_opened, .int vT_start, .int vT_doers, .int vT_unlifted, .int vT_deedsAllowed])), (aT_rules, .inr (2, [.int vT_rules_people, .int vT_rules_spells, .int vT_rules_deedCount, .ref aT_rules_masks, .ref aT_rules_values, .ref aT_rules_askings, .ref aT_rules_kissesNeeded, .ref aT_rules_wakings, .ref aT_rules_binders, .ref aT_rules_curses, .ref aT_rules_doers, .ref aT_rules_sorts, .ref aT_rules_whichs, .ref aT_rules_bars, .ref aT_rules_bits, .ref aT_rules_kisses])), (aT_found, .inl (G.2.2.1, nT_found, .inr (.inl fT_found))), (aT_seen, .inl (G.2.2.1, 896, .inr (.inl fT_seen))), (aT_rules_bars, .inl (G.2.1, 19, .inl fT_rules_bars)), (aT_rules_sorts, .inl (G.2.1, 19, .inl fT_rules_sorts)), (aT_rules_kisses, .inl (G.2.1, 19, .inl fT_rules_kisses)), (aT_rules_masks, .inl (G.2.1, 5, .inl fT_rules_masks)), (aT_rules_values, .inl (G.2.1, 5, .inl fT_rules_values)), (aT_rules_askings, .inl (G.2.1, 5, .inl fT_rules_askings)), (aT_rules_kissesNeeded, .inl (G.2.1, 5, .inl fT_rules_kissesNeeded)), (aT_rules_wakings, .inl (G.2.1, 5, .inl fT_rules_wakings)), (aT_rules_bits, .inl (G.2.1, 19, .inl fT_rules_bits))] → va_S A s.heap H lo → ∀ (ls : Array Slot), lv_has ls 8 [(0, .ref aT), (1, .int x1), (3, .int x3), (4, .int x4), (5, .int x5), (6, .int x6)] → W p l e R s m ar below meth c H lo 0 0 Q (F0 m 26 ls []) := by
    intro vT_opened x1 x3 x4 x5 k
    induction k with
    | zero => intro x6 vT_size fT_found fT_seen ovT_size ofT_found ofT_seen hev; rw [f_Se_open_L26] at hev; cases hev
    | succ k ih =>
      intro x6 vT_size fT_found fT_seen ovT_size ofT_found ofT_seen hev hex H lo hP hD hS ls hl
      rw [f_Se_open_L26] at hev
      have J101 : ∀ (vT_size : Int32) (fT_found : Nat → Int64) (fT_seen : Nat → Int64) (x6 : Int32), ∀ (H : Heap) (lo : List Loc), va_P G.1 classes [(aT, .inr (3, [.ref aT_rules, .ref aT_seen, .ref aT_found, .int vT_size, .int vT_opened, .int vT_start, .int vT_doers, .int vT_unlifted, .int vT_deedsAllowed])), (aT_rules, .inr (2, [.int vT_rules_people, .int vT_rules_spells, .int vT_rules_deedCount, .ref aT_rules_masks, .ref aT_rules_values, .ref aT_rules_askings, .ref aT_rules_kissesNeeded, .ref aT_rules_wakings, .ref aT_rules_binders, .ref aT_rules_curses, .ref aT_rules_doers, .ref aT_rules_sorts, .ref aT_rules_whichs, .ref aT_rules_bars, .ref aT_rules_bits, .ref aT_rules_kisses])), (aT_found, .inl (G.2.2.1, nT_found, .inr (.inl fT_found))), (aT_seen, .inl (G.2.2.1, 896, .inr (.inl fT_seen))), (aT_rules_bars, .inl (G.2.1, 19, .inl fT_rules_bars)), (aT_rules_sorts, .inl (G.2.1, 19, .inl fT_rules_sorts)), (aT_rules_kisses, .inl (G.2.1, 19, .inl fT_rules_kisses)), (aT_rules_masks, .inl (G.2.1, 5, .inl fT_rules_masks)), (aT_rules_values, .inl (G.2.1, 5, .inl fT_rules_values)), (aT_rules_askings, .inl (G.2.1, 5, .inl fT_rules_askings)), (aT_rules_kissesNeeded, .inl (G.2.1, 5, .inl fT_rules_kissesNeeded)), (aT_rules_wakings, .inl (G.2.1, 5, .inl fT_rules_wakings)), (aT_rules_bits, .inl (G.2.1, 19, .inl fT_rules_bits))] H → va_D A [(aT, .inr (3, [.ref aT_rules, .ref aT_seen, .ref aT_found, .int vT_size, .int vT_opened, .int vT_start, .int vT_doers, .int vT_unlifted, .int vT_deedsAllowed])), (aT_rules, .inr (2, [.int vT_rules_people, .int vT_rules_spells, .int vT_rules_deedCount, .ref aT_rules_masks, .ref aT_rules_values, .ref aT_rules_askings, .ref aT_rules_kissesNeeded, .ref aT_rules_wakings, .ref aT_rules_binders, .ref aT_rules_curses, .ref aT_rules_doers, .ref aT_rules_sorts, .ref aT_rules_whichs, .ref aT_rules_bars, .ref aT_rules_bits, .ref aT_rules_kisses])), (aT_found, .inl (G.2.2.1, nT_found, .inr (.inl fT_found))), (aT_seen, .inl (G.2.2.1, 896, .inr (.inl fT_seen))), (aT_rules_bars, .inl (G.2.1, 19, .inl fT_rules_bars)), (aT_rules_sorts, .inl (G.2.1, 19, .inl fT_rules_sorts)), (aT_rules_kisses, .inl (G.2.1, 19, .inl fT_rules_kisses)), (aT_rules_masks, .inl (G.2.1, 5, .inl fT_rules_masks)), (aT_rules_values, .inl (G.2.1, 5, .inl fT_rules_values)), (aT_rules_askings, .inl (G.2.1, 5, .inl fT_rules_askings)), (aT_rules_kissesNeeded, .inl (G.2.1, 5, .inl fT_rules_kissesNeeded)), (aT_rules_wakings, .inl (G.2.1, 5, .inl fT_rules_wakings)), (aT_rules_bits, .inl (G.2.1, 19, .inl fT_rules_bits))] → va_S A s.heap H lo → ∀ (ls : Array Slot), f_Se_open_J101 (f_Se_open_L26 nT_found vT_deedsAllowed vT_opened vT_rules_deedCount vT_rules_spells vT_unlifted fT_rules_askings fT_rules_bars fT_rules_bits fT_rules_kisses fT_rules_kissesNeeded fT_rules_masks fT_rules_sorts fT_rules_values fT_rules_wakings x1 x3 x4 x5 k) k nT_found vT_deedsAllowed vT_opened vT_rules_deedCount vT_rules_spells vT_size vT_unlifted fT_found fT_rules_askings fT_rules_bars fT_rules_bits fT_rules_kisses fT_rules_kissesNeeded fT_rules_masks fT_rules_sorts fT_rules_values fT_rules_wakings fT_seen x1 x3 x4 x5 x6 = some (ovT_size, ofT_found, ofT_seen) → lv_has ls 8 [(0, .ref aT), (1, .int x1), (3, .int x3), (4, .int x4), (5, .int x5), (6, .int x6)] → W p l e R s m ar below meth c H lo 0 0 Q (F0 m 101 ls []) := by
        intro vT_size fT_found fT_seen x6 H lo hP hD hS ls hev hl
        unfold f_Se_open_J101 at hev
        obtain ⟨y5, ey5⟩ : ∃ y : Int32, y = x6 + (1 : Int32) := ⟨_, rfl⟩
        refine lv_iinc (v := y5) (lv' := [(6, .int y5), (0, .ref aT), (1, .int x1), (3, .int x3), (4, .int x4), (5, .int x5)]) hx hb dX5_open_101 hl (k := 5) rfl (by rw [ey5]; rfl) (by decide) rfl (fun ls hl => ?_)
        replace hev := x_lt hev y5 ey5
        refine lv_goto (tgt := 26) hx hb dX5_open_104 (by decide) ?_
        exact ih y5 vT_size fT_found fT_seen _ _ _ hev hex _ _ hP hD hS ls (lv_sub hl [1, 2, 3, 4, 5, 0] rfl)
      have J66 : ∀ (vT_size : Int32) (fT_found : Nat → Int64) (fT_seen : Nat → Int64) (x6 : Int32) (s0 : Int32), ∀ (H : Heap) (lo : List Loc), va_P G.1 classes [(aT, .inr (3, [.ref aT_rules, .ref aT_seen, .ref aT_found, .int vT_size, .int vT_opened, .int vT_start, .int vT_doers, .int vT_unlifted, .int vT_deedsAllowed])), (aT_rules, .inr (2, [.int vT_rules_people, .int vT_rules_spells, .int vT_rules_deedCount, .ref aT_rules_masks, .ref aT_rules_values, .ref aT_rules_askings, .ref aT_rules_kissesNeeded, .ref aT_rules_wakings, .ref aT_rules_binders, .ref aT_rules_curses, .ref aT_rules_doers, .ref aT_rules_sorts, .ref aT_rules_whichs, .ref aT_rules_bars, .ref aT_rules_bits, .ref aT_rules_kisses])), (aT_found, .inl (G.2.2.1, nT_found, .inr (.inl fT_found))), (aT_seen, .inl (G.2.2.1, 896, .inr (.inl fT_seen))), (aT_rules_bars, .inl (G.2.1, 19, .inl fT_rules_bars)), (aT_rules_sorts, .inl (G.2.1, 19, .inl fT_rules_sorts)), (aT_rules_kisses, .inl (G.2.1, 19, .inl fT_rules_kisses)), (aT_rules_masks, .inl (G.2.1, 5, .inl fT_rules_masks)), (aT_rules_values, .inl (G.2.1, 5, .inl fT_rules_values)), (aT_rules_askings, .inl (G.2.1, 5, .inl fT_rules_askings)), (aT_rules_kissesNeeded, .inl (G.2.1, 5, .inl fT_rules_kissesNeeded)), (aT_rules_wakings, .inl (G.2.1, 5, .inl fT_rules_wakings)), (aT_rules_bits, .inl (G.2.1, 19, .inl fT_rules_bits))] H → va_D A [(aT, .inr (3, [.ref aT_rules, .ref aT_seen, .ref aT_found, .int vT_size, .int vT_opened, .int vT_start, .int vT_doers, .int vT_unlifted, .int vT_deedsAllowed])), (aT_rules, .inr (2, [.int vT_rules_people, .int vT_rules_spells, .int vT_rules_deedCount, .ref aT_rules_masks, .ref aT_rules_values, .ref aT_rules_askings, .ref aT_rules_kissesNeeded, .ref aT_rules_wakings, .ref aT_rules_binders, .ref aT_rules_curses, .ref aT_rules_doers, .ref aT_rules_sorts, .ref aT_rules_whichs, .ref aT_rules_bars, .ref aT_rules_bits, .ref aT_rules_kisses])), (aT_found, .inl (G.2.2.1, nT_found, .inr (.inl fT_found))), (aT_seen, .inl (G.2.2.1, 896, .inr (.inl fT_seen))), (aT_rules_bars, .inl (G.2.1, 19, .inl fT_rules_bars)), (aT_rules_sorts, .inl (G.2.1, 19, .inl fT_rules_sorts)), (aT_rules_kisses, .inl (G.2.1, 19, .inl fT_rules_kisses)), (aT_rules_masks, .inl (G.2.1, 5, .inl fT_rules_masks)), (aT_rules_values, .inl (G.2.1, 5, .inl fT_rules_values)), (aT_rules_askings, .inl (G.2.1, 5, .inl fT_rules_askings)), (aT_rules_kissesNeeded, .inl (G.2.1, 5, .inl fT_rules_kissesNeeded)), (aT_rules_wakings, .inl (G.2.1, 5, .inl fT_rules_wakings)), (aT_rules_bits, .inl (G.2.1, 19, .inl fT_rules_bits))] → va_S A s.heap H lo → ∀ (ls : Array Slot), f_Se_open_J66 (f_Se_open_L26 nT_found vT_deedsAllowed vT_opened vT_rules_deedCount vT_rules_spells vT_unlifted fT_rules_askings fT_rules_bars fT_rules_bits fT_rules_kisses fT_rules_kissesNeeded fT_rules_masks fT_rules_sorts fT_rules_values fT_rules_wakings x1 x3 x4 x5 k) k nT_found vT_deedsAllowed vT_opened vT_rules_deedCount vT_rules_spells vT_size vT_unlifted fT_found fT_rules_askings fT_rules_bars fT_rules_bits fT_rules_kisses fT_rules_kissesNeeded fT_rules_masks fT_rules_sorts fT_rules_values fT_rules_wakings fT_seen x1 x3 x4 x5 x6 s0 = some (ovT_size, ofT_found, ofT_seen) → lv_has ls 8 [(0, .ref aT), (1, .int x1), (3, .int x3), (4, .int x4), (5, .int x5), (6, .int x6)] → W p l e R s m ar below meth c H lo 0 0 Q (F0 m 66 ls [.int s0]) := by
        intro vT_size fT_found fT_seen x6 s0 H lo hP hD hS ls hev hl
        unfold f_Se_open_J66 at hev
        refine lv_istore (lv' := [(7, .int s0), (0, .ref aT), (1, .int x1), (3, .int x3), (4, .int x4), (5, .int x5), (6, .int x6)]) hx hb dX5_open_66 hl (by decide) rfl (fun ls hl => ?_)
        refine lv_iload hx hb dX5_open_68 (lv_at hl 0 rfl) ?_
        refine lv_iconst (v := (-1 : Int32)) hx hb dX5_open_70 (by decide) ?_
        refine lv_icmp_eq (tgt := 101) hx hb dX5_open_71 (by decide) (fun c6 => ?_) (fun c6 => ?_)
        · replace hev := x_t c6 hev
          exact J101 vT_size fT_found fT_seen x6 _ _ hP hD hS ls hev (lv_sub hl [1, 2, 3, 4, 5, 6] rfl)
        · replace hev := x_f c6 hev
          refine lv_iload hx hb dX5_open_74 (lv_at hl 0 rfl) ?_
          obtain ⟨y7, hq, hev⟩ := x_bd hev
          refine roS X (KK_at hKK hS hAb) hR (st1 := [.int y7]) (c_St_lifted l G s0 y7 hq) K_X6_lifted u849 (x_Psub hP [] rfl) (by decide) ⟨Nat.zero_le _, Nat.zero_le _⟩ rfl hl.1 rfl (Nat.le_of_ble_eq_true rfl) rfl dX5_open_76 ?_
          refine lv_aload_n hx hb dX5_open_79 rfl (lv_at hl 1 rfl) ?_
          refine va_get (D := G.1) (ci := 3) (v := .int vT_unlifted) (C := RX5) (T := TX5) (N := 9) hx hb hts i5 hown hK hP 0 rfl rfl 7 (by decide) (hw _ u259) (fun _ h9 => h9) rfl dX5_open_80 ?_
          refine lv_iand hx hb dX5_open_83 ?_
          refine lv_if_ne (tgt := 101) hx hb dX5_open_84 (by decide) (fun c8 => ?_) (fun c8 => ?_)
          · replace hev := x_f c8 hev
            exact J101 vT_size fT_found fT_seen x6 _ _ hP hD hS ls hev (lv_sub hl [1, 2, 3, 4, 5, 6] rfl)
          · replace hev := x_t c8 hev
            refine lv_aload_n hx hb dX5_open_87 rfl (lv_at hl 1 rfl) ?_
            refine lv_iload hx hb dX5_open_88 (lv_at hl 0 rfl) ?_
            obtain ⟨y9, hq, hev⟩ := x_bd hev
            refine roS X (KK_at hKK hS hAb) hR (st1 := [.int y9, .ref aT]) (c_St_of l G s0 y9 hq) K_X6_of u834 (x_Psub hP [] rfl) (by decide) ⟨Nat.zero_le _, Nat.zero_le _⟩ rfl hl.1 rfl (Nat.le_of_ble_eq_true rfl) rfl dX5_open_90 ?_
            refine lv_iload hx hb dX5_open_93 (lv_at hl 6 rfl) ?_
            refine lv_iload_n hx hb dX5_open_95 rfl (lv_at hl 2 rfl) ?_
            refine lv_iload hx hb dX5_open_96 (lv_at hl 5 rfl) ?_
            obtain ⟨⟨w10, w11, w12⟩, hq, hev⟩ := x_bd hev
            refine rgV X (KK_at hKK hS hAb) hR (st1 := []) (ws2 := [(aT, .inr (3, [.ref aT_rules, .ref aT_seen, .ref aT_found, .int w10, .int vT_opened, .int vT_start, .int vT_doers, .int vT_unlifted, .int vT_deedsAllowed])), (aT_rules, .inr (2, [.int vT_rules_people, .int vT_rules_spells, .int vT_rules_deedCount, .ref aT_rules_masks, .ref aT_rules_values, .ref aT_rules_askings, .ref aT_rules_kissesNeeded, .ref aT_rules_wakings, .ref aT_rules_binders, .ref aT_rules_curses, .ref aT_rules_doers, .ref aT_rules_sorts, .ref aT_rules_whichs, .ref aT_rules_bars, .ref aT_rules_bits, .ref aT_rules_kisses])), (aT_found, .inl (G.2.2.1, nT_found, .inr (.inl w11))), (aT_seen, .inl (G.2.2.1, 896, .inr (.inl w12))), (aT_rules_bars, .inl (G.2.1, 19, .inl fT_rules_bars)), (aT_rules_sorts, .inl (G.2.1, 19, .inl fT_rules_sorts)), (aT_rules_kisses, .inl (G.2.1, 19, .inl fT_rules_kisses)), (aT_rules_masks, .inl (G.2.1, 5, .inl fT_rules_masks)), (aT_rules_values, .inl (G.2.1, 5, .inl fT_rules_values)), (aT_rules_askings, .inl (G.2.1, 5, .inl fT_rules_askings)), (aT_rules_kissesNeeded, .inl (G.2.1, 5, .inl fT_rules_kissesNeeded)), (aT_rules_wakings, .inl (G.2.1, 5, .inl fT_rules_wakings)), (aT_rules_bits, .inl (G.2.1, 19, .inl fT_rules_bits))]) (c_Se_add l G aT aT_rules aT_seen aT_found vT_size vT_opened vT_start vT_doers vT_unlifted vT_deedsAllowed fT_seen fT_found nT_found y9 x6 x1 x5 w10 w11 w12 hq) K_X5_add u817 hP hD hS hA hAb [0, 3, 2] rfl (sbC rfl (sbC rfl (sbC rfl sb0))) (mgN 0 rfl rfl (mgK (by decide) (mgN 2 rfl rfl (mgN 1 rfl rfl (mgK (by decide) (mgK (by decide) (mgK (by decide) (mgK (by decide) (mgK (by decide) (mgK (by decide) (mgK (by decide) (mgK (by decide) (mgK (by decide) (mg0)))))))))))))) rfl (q0 := 0) rfl (by decide) ⟨Nat.zero_le _, Nat.zero_le _⟩ rfl hl.1 rfl (Nat.le_of_ble_eq_true rfl) rfl dX5_open_98 (fun H lo hP hD hS => ?_)
            exact J101 w10 w11 w12 x6 _ _ hP hD hS ls hev (lv_sub hl [1, 2, 3, 4, 5, 6] rfl)
      refine lv_iload hx hb dX5_open_26 (lv_at hl 5 rfl) ?_
      refine lv_iload_n hx hb dX5_open_28 rfl (lv_at hl 2 rfl) ?_
      refine lv_icmp_gt (tgt := 107) hx hb dX5_open_29 (by decide) (fun c13 => ?_) (fun c13 => ?_)
      · replace hev := x_t c13 hev
        cases hev
        exact hex _ _ hP hD hS ls (lv_sub hl [] rfl)
      · replace hev := x_f c13 hev
        refine lv_iload hx hb dX5_open_32 (lv_at hl 5 rfl) ?_
        refine lv_bipush (v := (19 : Int32)) hx hb dX5_open_34 (by decide) ?_
        refine lv_icmp_ge (tgt := 107) hx hb dX5_open_36 (by decide) (fun c14 => ?_) (fun c14 => ?_)
        · replace hev := x_t c14 hev
          cases hev
          exact hex _ _ hP hD hS ls (lv_sub hl [] rfl)
        · replace hev := x_f c14 hev
          refine lv_aload_n hx hb dX5_open_39 rfl (lv_at hl 0 rfl) ?_
          refine va_get (D := G.1) (ci := 3) (v := .int vT_deedsAllowed) (C := RX5) (T := TX5) (N := 9) hx hb hts i5 hown hK hP 0 rfl rfl 8 (by decide) (hw _ u260) (fun _ h9 => h9) rfl dX5_open_40 ?_
          refine lv_iload hx hb dX5_open_43 (lv_at hl 5 rfl) ?_
          refine lv_ishr hx hb dX5_open_45 ?_
          refine lv_iconst (v := (1 : Int32)) hx hb dX5_open_46 (by decide) ?_
          refine lv_iand hx hb dX5_open_47 ?_
          refine lv_if_ne (tgt := 55) hx hb dX5_open_48 (by decide) (fun c15 => ?_) (fun c15 => ?_)
          · replace hev := x_f c15 hev
            refine lv_aload_n hx hb dX5_open_55 rfl (lv_at hl 0 rfl) ?_
            refine va_get (D := G.1) (ci := 3) (v := .ref aT_rules) (C := RX5) (T := TX5) (N := 9) hx hb hts i5 hown hK hP 0 rfl rfl 0 (by decide) (hw _ u252) (fun _ h9 => h9) rfl dX5_open_56 ?_
            refine lv_iload hx hb dX5_open_59 (lv_at hl 3 rfl) ?_
            refine lv_iload hx hb dX5_open_61 (lv_at hl 5 rfl) ?_
            obtain ⟨y16, hq, hev⟩ := x_bd hev
            refine roV X (KK_at hKK hS hAb) hR (st1 := [.int y16]) (c_Ru_after l G aT_rules aT_rules_masks aT_rules_values aT_rules_askings aT_rules_kissesNeeded aT_rules_wakings aT_rules_binders aT_rules_curses aT_rules_doers aT_rules_sorts aT_rules_whichs aT_rules_bars aT_rules_bits aT_rules_kisses vT_rules_people vT_rules_spells vT_rules_deedCount fT_rules_bars fT_rules_sorts fT_rules_kisses fT_rules_masks fT_rules_values fT_rules_askings fT_rules_kissesNeeded fT_rules_wakings fT_rules_bits k x4 x6 y16 hq) K_X4_after u848 (x_Psub hP [1, 4, 5, 6, 7, 8, 9, 10, 11, 12] rfl) rfl (q0 := 0) rfl (by decide) ⟨Nat.zero_le _, Nat.zero_le _⟩ rfl hl.1 rfl (Nat.le_of_ble_eq_true rfl) rfl dX5_open_63 ?_
            exact J66 vT_size fT_found fT_seen x6 y16 _ _ hP hD hS ls hev (lv_sub hl [0, 1, 2, 3, 4, 5] rfl)
          · replace hev := x_t c15 hev
            refine lv_iconst (v := (-1 : Int32)) hx hb dX5_open_51 (by decide) ?_
            refine lv_goto (tgt := 66) hx hb dX5_open_52 (by decide) ?_
            exact J66 vT_size fT_found fT_seen x6 (-1 : Int32) _ _ hP hD hS ls hev (lv_sub hl [0, 1, 2, 3, 4, 5] rfl)
  obtain ⟨⟨w17, w18, w19⟩, hq, hev⟩ := x_bd hev
  refine L26 y1 p1 p3 y2 y4 k p2 vT_size fT_found fT_seen w17 w18 w19 hq (fun H lo hP hD hS ls hl => ?_) _ _ hP hD hS ls (lv_sub hl [3, 4, 6, 2, 1, 0] rfl)
  exact ret2 _ _ _ _ y1 w17 w18 w19 (Option.some.inj hev) dX5_open_107 hP hD hS
def f_Se_firstWithout_J49 (rec : Int32 → Int32 → Int32 → (Nat → Int64) → (Nat → Int64) → Option ((Int32 × Int32 × (Nat → Int64) × (Nat → Int64)) ⊕ (Int32 × Int32 × Int32 × (Nat → Int64) × (Nat → Int64)))) (k : Nat) (nT_found : Nat) (vT_deedsAllowed : Int32) (vT_opened : Int32) (vT_rules_deedCount : Int32) (vT_rules_spells : Int32) (vT_size : Int32) (vT_unlifted : Int32) (fT_found : Nat → Int64) (fT_rules_askings : Nat → Int32) (fT_rules_bars : Nat → Int32) (fT_rules_bits : Nat → Int32) (fT_rules_kisses : Nat → Int32) (fT_rules_kissesNeeded : Nat → Int32) (fT_rules_masks : Nat → Int32) (fT_rules_sorts : Nat → Int32) (fT_rules_values : Nat → Int32) (fT_rules_wakings : Nat → Int32) (fT_seen : Nat → Int64) (x1 : Int32) (x2 : Int32) : Option ((Int32 × Int32 × (Nat → Int64) × (Nat → Int64)) ⊕ (Int32 × Int32 × Int32 × (Nat → Int64) × (Nat → Int64))) := x_L (x2 + (1 : Int32)) (fun y1 => rec y1 vT_opened vT_size fT_found fT_seen)
def f_Se_firstWithout_L2 (nT_found : Nat) (vT_deedsAllowed : Int32) (vT_rules_deedCount : Int32) (vT_rules_spells : Int32) (vT_unlifted : Int32) (fT_rules_askings : Nat → Int32) (fT_rules_bars : Nat → Int32) (fT_rules_bits : Nat → Int32) (fT_rules_kisses : Nat → Int32) (fT_rules_kissesNeeded : Nat → Int32) (fT_rules_masks : Nat → Int32) (fT_rules_sorts : Nat → Int32) (fT_rules_values : Nat → Int32) (fT_rules_wakings : Nat → Int32) (x1 : Int32) : Nat → Int32 → Int32 → Int32 → (Nat → Int64) → (Nat → Int64) → Option ((Int32 × Int32 × (Nat → Int64) × (Nat → Int64)) ⊕ (Int32 × Int32 × Int32 × (Nat → Int64) × (Nat → Int64)))
  | 0, _, _, _, _, _ => none
  | k + 1, x2, vT_opened, vT_size, fT_found, fT_seen => if vT_size ≤ x2 then (some (.inl (vT_opened, vT_size, fT_found, fT_seen))) else if (57344 : Int32) ≤ x2 then (some (.inl (vT_opened, vT_size, fT_found, fT_seen))) else x_B (f_Se_stateAt nT_found fT_found x2) (fun y4 => if (y4 &&& x1) = 0 then (some (.inr (x2, vT_opened, vT_size, fT_found, fT_seen))) else if x2 < vT_opened then (f_Se_firstWithout_J49 (f_Se_firstWithout_L2 nT_found vT_deedsAllowed vT_rules_deedCount vT_rules_spells vT_unlifted fT_rules_askings fT_rules_bars fT_rules_bits fT_rules_kisses fT_rules_kissesNeeded fT_rules_masks fT_rules_sorts fT_rules_values fT_rules_wakings x1 k) k nT_found vT_deedsAllowed vT_opened vT_rules_deedCount vT_rules_spells vT_size vT_unlifted fT_found fT_rules_askings fT_rules_bars fT_rules_bits fT_rules_kisses fT_rules_kissesNeeded fT_rules_masks fT_rules_sorts fT_rules_values fT_rules_wakings fT_seen x1 x2) else x_B (f_Ru_nightDeed vT_rules_deedCount) (fun y7 => x_B (f_Se_open k nT_found vT_deedsAllowed vT_opened vT_rules_deedCount vT_rules_spells vT_size vT_unlifted fT_found fT_rules_askings fT_rules_bars fT_rules_bits fT_rules_kisses fT_rules_kissesNeeded fT_rules_masks fT_rules_sorts fT_rules_values fT_rules_wakings fT_seen x2 (0 : Int32) y7) (fun ⟨w8, w9, w10, w11⟩ => f_Se_firstWithout_J49 (f_Se_firstWithout_L2 nT_found vT_deedsAllowed vT_rules_deedCount vT_rules_spells vT_unlifted fT_rules_askings fT_rules_bars fT_rules_bits fT_rules_kisses fT_rules_kissesNeeded fT_rules_masks fT_rules_sorts fT_rules_values fT_rules_wakings x1 k) k nT_found vT_deedsAllowed w8 vT_rules_deedCount vT_rules_spells w9 vT_unlifted w10 fT_rules_askings fT_rules_bars fT_rules_bits fT_rules_kisses fT_rules_kissesNeeded fT_rules_masks fT_rules_sorts fT_rules_values fT_rules_wakings w11 x1 x2)))
def f_Se_firstWithout (k : Nat) (nT_found : Nat) (vT_deedsAllowed : Int32) (vT_opened : Int32) (vT_rules_deedCount : Int32) (vT_rules_spells : Int32) (vT_size : Int32) (vT_unlifted : Int32) (fT_found : Nat → Int64) (fT_rules_askings : Nat → Int32) (fT_rules_bars : Nat → Int32) (fT_rules_bits : Nat → Int32) (fT_rules_kisses : Nat → Int32) (fT_rules_kissesNeeded : Nat → Int32) (fT_rules_masks : Nat → Int32) (fT_rules_sorts : Nat → Int32) (fT_rules_values : Nat → Int32) (fT_rules_wakings : Nat → Int32) (fT_seen : Nat → Int64) (p1 : Int32) : Option (Int32 × Int32 × Int32 × (Nat → Int64) × (Nat → Int64)) := x_S (f_Se_firstWithout_L2 nT_found vT_deedsAllowed vT_rules_deedCount vT_rules_spells vT_unlifted fT_rules_askings fT_rules_bars fT_rules_bits fT_rules_kisses fT_rules_kissesNeeded fT_rules_masks fT_rules_sorts fT_rules_values fT_rules_wakings p1 k (0 : Int32) vT_opened vT_size fT_found fT_seen) (fun ⟨w12, w13, w14, w15⟩ => some ((-1 : Int32), w12, w13, w14, w15)) (fun r9 => some r9)
set_option maxHeartbeats 8000000 in
set_option maxRecDepth 100000 in
theorem c_Se_firstWithout (l : Launch) (G : GG) (aT aT_rules aT_seen aT_found aT_rules_masks aT_rules_values aT_rules_askings aT_rules_kissesNeeded aT_rules_wakings aT_rules_binders aT_rules_curses aT_rules_doers aT_rules_sorts aT_rules_whichs aT_rules_bars aT_rules_bits aT_rules_kisses : Nat) (vT_size : Int32) (vT_opened : Int32) (vT_start : Int32) (vT_doers : Int32) (vT_unlifted : Int32) (vT_deedsAllowed : Int32) (vT_rules_people : Int32) (vT_rules_spells : Int32) (vT_rules_deedCount : Int32) (fT_found : Nat → Int64) (nT_found : Nat) (fT_seen : Nat → Int64) (fT_rules_bars : Nat → Int32) (fT_rules_sorts : Nat → Int32) (fT_rules_kisses : Nat → Int32) (fT_rules_masks : Nat → Int32) (fT_rules_values : Nat → Int32) (fT_rules_askings : Nat → Int32) (fT_rules_kissesNeeded : Nat → Int32) (fT_rules_wakings : Nat → Int32) (fT_rules_bits : Nat → Int32) (k : Nat) (p1 : Int32) (r0 : Int32) (wvT_opened : Int32) (wvT_size : Int32) (wfT_found : Nat → Int64) (wfT_seen : Nat → Int64) (hev : f_Se_firstWithout k nT_found vT_deedsAllowed vT_opened vT_rules_deedCount vT_rules_spells vT_size vT_unlifted fT_found fT_rules_askings fT_rules_bars fT_rules_bits fT_rules_kisses fT_rules_kissesNeeded fT_rules_masks fT_rules_sorts fT_rules_values fT_rules_wakings fT_seen p1 = some (r0, wvT_opened, wvT_size, wfT_found, wfT_seen)) : RW l G yX5_firstWithout cX5_firstWithout 3 (some .int) 3 [.ref aT, .int p1] [(aT, .inr (3, [.ref aT_rules, .ref aT_seen, .ref aT_found, .int vT_size, .int vT_opened, .int vT_start, .int vT_doers, .int vT_unlifted, .int vT_deedsAllowed])), (aT_rules, .inr (2, [.int vT_rules_people, .int vT_rules_spells, .int vT_rules_deedCount, .ref aT_rules_masks, .ref aT_rules_values, .ref aT_rules_askings, .ref aT_rules_kissesNeeded, .ref aT_rules_wakings, .ref aT_rules_binders, .ref aT_rules_curses, .ref aT_rules_doers, .ref aT_rules_sorts, .ref aT_rules_whichs, .ref aT_rules_bars, .ref aT_rules_bits, .ref aT_rules_kisses])), (aT_found, .inl (G.2.2.1, nT_found, .inr (.inl fT_found))), (aT_seen, .inl (G.2.2.1, 896, .inr (.inl fT_seen))), (aT_rules_bars, .inl (G.2.1, 19, .inl fT_rules_bars)), (aT_rules_sorts, .inl (G.2.1, 19, .inl fT_rules_sorts)), (aT_rules_kisses, .inl (G.2.1, 19, .inl fT_rules_kisses)), (aT_rules_masks, .inl (G.2.1, 5, .inl fT_rules_masks)), (aT_rules_values, .inl (G.2.1, 5, .inl fT_rules_values)), (aT_rules_askings, .inl (G.2.1, 5, .inl fT_rules_askings)), (aT_rules_kissesNeeded, .inl (G.2.1, 5, .inl fT_rules_kissesNeeded)), (aT_rules_wakings, .inl (G.2.1, 5, .inl fT_rules_wakings)), (aT_rules_bits, .inl (G.2.1, 19, .inl fT_rules_bits))] (some (.int r0)) [(aT, .inr (3, [.ref aT_rules, .ref aT_seen, .ref aT_found, .int wvT_size, .int wvT_opened, .int vT_start, .int vT_doers, .int vT_unlifted, .int vT_deedsAllowed])), (aT_rules, .inr (2, [.int vT_rules_people, .int vT_rules_spells, .int vT_rules_deedCount, .ref aT_rules_masks, .ref aT_rules_values, .ref aT_rules_askings, .ref aT_rules_kissesNeeded, .ref aT_rules_wakings, .ref aT_rules_binders, .ref aT_rules_curses, .ref aT_rules_doers, .ref aT_rules_sorts, .ref aT_rules_whichs, .ref aT_rules_bars, .ref aT_rules_bits, .ref aT_rules_kisses])), (aT_found, .inl (G.2.2.1, nT_found, .inr (.inl wfT_found))), (aT_seen, .inl (G.2.2.1, 896, .inr (.inl wfT_seen))), (aT_rules_bars, .inl (G.2.1, 19, .inl fT_rules_bars)), (aT_rules_sorts, .inl (G.2.1, 19, .inl fT_rules_sorts)), (aT_rules_kisses, .inl (G.2.1, 19, .inl fT_rules_kisses)), (aT_rules_masks, .inl (G.2.1, 5, .inl fT_rules_masks)), (aT_rules_values, .inl (G.2.1, 5, .inl fT_rules_values)), (aT_rules_askings, .inl (G.2.1, 5, .inl fT_rules_askings)), (aT_rules_kissesNeeded, .inl (G.2.1, 5, .inl fT_rules_kissesNeeded)), (aT_rules_wakings, .inl (G.2.1, 5, .inl fT_rules_wakings)), (aT_rules_bits, .inl (G.2.1, 19, .inl fT_rules_bits))] 0 0 := by
  refine RW_of (by decide) (Nat.le_of_ble_eq_true rfl) ?_
  intro p e s m ar below meth c R Q A ls X hR hRc hin hP hKK hD hS hA hAb hl ret
  obtain ⟨rs, hrs⟩ : ∃ q, q = (r0, wvT_opened, wvT_size, wfT_found, wfT_seen) := ⟨_, rfl⟩
  rw [← hrs] at hev
  have ret2 : ∀ (pc : Nat) (ls : Array Slot) (H : Heap) (lo : List Loc) (v r1 : Int32) (zvT_opened : Int32) (zvT_size : Int32) (zfT_found : Nat → Int64) (zfT_seen : Nat → Int64), (r1, zvT_opened, zvT_size, zfT_found, zfT_seen) = rs → decode cX5_firstWithout pc = .ok (.ireturn, 1) → narrow .int (.int v) = .int r1 → va_P G.1 classes [(aT, .inr (3, [.ref aT_rules, .ref aT_seen, .ref aT_found, .int zvT_size, .int zvT_opened, .int vT_start, .int vT_doers, .int vT_unlifted, .int vT_deedsAllowed])), (aT_rules, .inr (2, [.int vT_rules_people, .int vT_rules_spells, .int vT_rules_deedCount, .ref aT_rules_masks, .ref aT_rules_values, .ref aT_rules_askings, .ref aT_rules_kissesNeeded, .ref aT_rules_wakings, .ref aT_rules_binders, .ref aT_rules_curses, .ref aT_rules_doers, .ref aT_rules_sorts, .ref aT_rules_whichs, .ref aT_rules_bars, .ref aT_rules_bits, .ref aT_rules_kisses])), (aT_found, .inl (G.2.2.1, nT_found, .inr (.inl zfT_found))), (aT_seen, .inl (G.2.2.1, 896, .inr (.inl zfT_seen))), (aT_rules_bars, .inl (G.2.1, 19, .inl fT_rules_bars)), (aT_rules_sorts, .inl (G.2.1, 19, .inl fT_rules_sorts)), (aT_rules_kisses, .inl (G.2.1, 19, .inl fT_rules_kisses)), (aT_rules_masks, .inl (G.2.1, 5, .inl fT_rules_masks)), (aT_rules_values, .inl (G.2.1, 5, .inl fT_rules_values)), (aT_rules_askings, .inl (G.2.1, 5, .inl fT_rules_askings)), (aT_rules_kissesNeeded, .inl (G.2.1, 5, .inl fT_rules_kissesNeeded)), (aT_rules_wakings, .inl (G.2.1, 5, .inl fT_rules_wakings)), (aT_rules_bits, .inl (G.2.1, 19, .inl fT_rules_bits))] H → va_D A [(aT, .inr (3, [.ref aT_rules, .ref aT_seen, .ref aT_found, .int zvT_size, .int zvT_opened, .int vT_start, .int vT_doers, .int vT_unlifted, .int vT_deedsAllowed])), (aT_rules, .inr (2, [.int vT_rules_people, .int vT_rules_spells, .int vT_rules_deedCount, .ref aT_rules_masks, .ref aT_rules_values, .ref aT_rules_askings, .ref aT_rules_kissesNeeded, .ref aT_rules_wakings, .ref aT_rules_binders, .ref aT_rules_curses, .ref aT_rules_doers, .ref aT_rules_sorts, .ref aT_rules_whichs, .ref aT_rules_bars, .ref aT_rules_bits, .ref aT_rules_kisses])), (aT_found, .inl (G.2.2.1, nT_found, .inr (.inl zfT_found))), (aT_seen, .inl (G.2.2.1, 896, .inr (.inl zfT_seen))), (aT_rules_bars, .inl (G.2.1, 19, .inl fT_rules_bars)), (aT_rules_sorts, .inl (G.2.1, 19, .inl fT_rules_sorts)), (aT_rules_kisses, .inl (G.2.1, 19, .inl fT_rules_kisses)), (aT_rules_masks, .inl (G.2.1, 5, .inl fT_rules_masks)), (aT_rules_values, .inl (G.2.1, 5, .inl fT_rules_values)), (aT_rules_askings, .inl (G.2.1, 5, .inl fT_rules_askings)), (aT_rules_kissesNeeded, .inl (G.2.1, 5, .inl fT_rules_kissesNeeded)), (aT_rules_wakings, .inl (G.2.1, 5, .inl fT_rules_wakings)), (aT_rules_bits, .inl (G.2.1, 19, .inl fT_rules_bits))] → va_S A s.heap H lo → W p l e R s m ar below meth c H lo 0 0 Q (F0 m pc ls [.int v]) := by
    intro pc ls H lo v r1 zvT_opened zvT_size zfT_found zfT_seen he hd hn h1 h2 h3
    have he := he.trans hrs
    cases he
    exact ret.1 _ _ _ _ _ _ _ rfl rfl hd hn h1 h2 h3
  clear ret hrs
  have hl : lv_has ls 3 [(0, .ref aT), (1, .int p1)] := hl
  obtain ⟨hx, hb, hml, hown, hts, hT⟩ := id X
  have hK := hKK.1
  have hw : ∀ w ∈ T0, w.before ar s = true := fun w h => hts w (hT w h)
  have i5 := fun w h => hT w (inT5 w h)
  unfold f_Se_firstWithout at hev
  refine lv_iconst (v := (0 : Int32)) hx hb dX5_firstWithout_0 (by decide) ?_
  refine lv_istore_n (lv' := [(2, .int (0 : Int32)), (0, .ref aT), (1, .int p1)]) hx hb dX5_firstWithout_1 rfl hl (by decide) rfl (fun ls hl => ?_)
  have L2 : ∀ (x1 : Int32), ∀ (k : Nat) (x2 : Int32) (vT_opened : Int32) (vT_size : Int32) (fT_found : Nat → Int64) (fT_seen : Nat → Int64) (out : (Int32 × Int32 × (Nat → Int64) × (Nat → Int64)) ⊕ (Int32 × Int32 × Int32 × (Nat → Int64) × (Nat → Int64))), f_Se_firstWithout_L2 nT_found vT_deedsAllowed vT_rules_deedCount vT_rules_spells vT_unlifted fT_rules_askings fT_rules_bars fT_rules_bits fT_rules_kisses fT_rules_kissesNeeded fT_rules_masks fT_rules_sorts fT_rules_values fT_rules_wakings x1 k x2 vT_opened vT_size fT_found fT_seen = some out → (∀ (ovT_opened : Int32) (ovT_size : Int32) (ofT_found : Nat → Int64) (ofT_seen : Nat → Int64), out = .inl (ovT_opened, ovT_size, ofT_found, ofT_seen) → ∀ (H : Heap) (lo : List Loc), va_P G.1 classes [(aT, .inr (3, [.ref aT_rules, .ref aT_seen, .ref aT_found, .int ovT_size, .int ovT_opened, .int vT_start, .int vT_doers, .int vT_unlifted, .int vT_deedsAllowed])), (aT_rules, .inr (2, [.int vT_rules_people, .int vT_rules_spells, .int vT_rules_deedCount, .ref aT_rules_masks, .ref aT_rules_values, .ref aT_rules_askings, .ref aT_rules_kissesNeeded, .ref aT_rules_wakings, .ref aT_rules_binders, .ref aT_rules_curses, .ref aT_rules_doers, .ref aT_rules_sorts, .ref aT_rules_whichs, .ref aT_rules_bars, .ref aT_rules_bits, .ref aT_rules_kisses])), (aT_found, .inl (G.2.2.1, nT_found, .inr (.inl ofT_found))), (aT_seen, .inl (G.2.2.1, 896, .inr (.inl ofT_seen))), (aT_rules_bars, .inl (G.2.1, 19, .inl fT_rules_bars)), (aT_rules_sorts, .inl (G.2.1, 19, .inl fT_rules_sorts)), (aT_rules_kisses, .inl (G.2.1, 19, .inl fT_rules_kisses)), (aT_rules_masks, .inl (G.2.1, 5, .inl fT_rules_masks)), (aT_rules_values, .inl (G.2.1, 5, .inl fT_rules_values)), (aT_rules_askings, .inl (G.2.1, 5, .inl fT_rules_askings)), (aT_rules_kissesNeeded, .inl (G.2.1, 5, .inl fT_rules_kissesNeeded)), (aT_rules_wakings, .inl (G.2.1, 5, .inl fT_rules_wakings)), (aT_rules_bits, .inl (G.2.1, 19, .inl fT_rules_bits))] H → va_D A [(aT, .inr (3, [.ref aT_rules, .ref aT_seen, .ref aT_found, .int ovT_size, .int ovT_opened, .int vT_start, .int vT_doers, .int vT_unlifted, .int vT_deedsAllowed])), (aT_rules, .inr (2, [.int vT_rules_people, .int vT_rules_spells, .int vT_rules_deedCount, .ref aT_rules_masks, .ref aT_rules_values, .ref aT_rules_askings, .ref aT_rules_kissesNeeded, .ref aT_rules_wakings, .ref aT_rules_binders, .ref aT_rules_curses, .ref aT_rules_doers, .ref aT_rules_sorts, .ref aT_rules_whichs, .ref aT_rules_bars, .ref aT_rules_bits, .ref aT_rules_kisses])), (aT_found, .inl (G.2.2.1, nT_found, .inr (.inl ofT_found))), (aT_seen, .inl (G.2.2.1, 896, .inr (.inl ofT_seen))), (aT_rules_bars, .inl (G.2.1, 19, .inl fT_rules_bars)), (aT_rules_sorts, .inl (G.2.1, 19, .inl fT_rules_sorts)), (aT_rules_kisses, .inl (G.2.1, 19, .inl fT_rules_kisses)), (aT_rules_masks, .inl (G.2.1, 5, .inl fT_rules_masks)), (aT_rules_values, .inl (G.2.1, 5, .inl fT_rules_values)), (aT_rules_askings, .inl (G.2.1, 5, .inl fT_rules_askings)), (aT_rules_kissesNeeded, .inl (G.2.1, 5, .inl fT_rules_kissesNeeded)), (aT_rules_wakings, .inl (G.2.1, 5, .inl fT_rules_wakings)), (aT_rules_bits, .inl (G.2.1, 19, .inl fT_rules_bits))] → va_S A s.heap H lo → ∀ (ls : Array Slot), lv_has ls 3 [] → W p l e R s m ar below meth c H lo 0 0 Q (F0 m 55 ls [])) → (∀ v, out = .inr v → v = rs) → ∀ (H : Heap) (lo : List Loc), va_P G.1 classes [(aT, .inr (3, [.ref aT_rules, .ref aT_seen, .ref aT_found, .int vT_size, .int vT_opened, .int vT_start, .int vT_doers, .int vT_unlifted, .int vT_deedsAllowed])), (aT_rules, .inr (2, [.int vT_rules_people, .int vT_rules_spells, .int vT_rules_deedCount, .ref aT_rules_masks, .ref aT_rules_values, .ref aT_rules_askings, .ref aT_rules_kissesNeeded, .ref aT_rules_wakings, .ref aT_rules_binders, .ref aT_rules_curses, .ref aT_rules_doers, .ref aT_rules_sorts, .ref aT_rules_whichs, .ref aT_rules_bars, .ref aT_rules_bits, .ref aT_rules_kisses])), (aT_found, .inl (G.2.2.1, nT_found, .inr (.inl fT_found))), (aT_seen, .inl (G.2.2.1, 896, .inr (.inl fT_seen))), (aT_rules_bars, .inl (G.2.1, 19, .inl fT_rules_bars)), (aT_rules_sorts, .inl (G.2.1, 19, .inl fT_rules_sorts)), (aT_rules_kisses, .inl (G.2.1, 19, .inl fT_rules_kisses)), (aT_rules_masks, .inl (G.2.1, 5, .inl fT_rules_masks)), (aT_rules_values, .inl (G.2.1, 5, .inl fT_rules_values)), (aT_rules_askings, .inl (G.2.1, 5, .inl fT_rules_askings)), (aT_rules_kissesNeeded, .inl (G.2.1, 5, .inl fT_rules_kissesNeeded)), (aT_rules_wakings, .inl (G.2.1, 5, .inl fT_rules_wakings)), (aT_rules_bits, .inl (G.2.1, 19, .inl fT_rules_bits))] H → va_D A [(aT, .inr (3, [.ref aT_rules, .ref aT_seen, .ref aT_found, .int vT_size, .int vT_opened, .int vT_start, .int vT_doers, .int vT_unlifted, .int vT_deedsAllowed])), (aT_rules, .inr (2, [.int vT_rules_people, .int vT_rules_spells, .int vT_rules_deedCount, .ref aT_rules_masks, .ref aT_rules_values, .ref aT_rules_askings, .ref aT_rules_kissesNeeded, .ref aT_rules_wakings, .ref aT_rules_binders, .ref aT_rules_curses, .ref aT_rules_doers, .ref aT_rules_sorts, .ref aT_rules_whichs, .ref aT_rules_bars, .ref aT_rules_bits, .ref aT_rules_kisses])), (aT_found, .inl (G.2.2.1, nT_found, .inr (.inl fT_found))), (aT_seen, .inl (G.2.2.1, 896, .inr (.inl fT_seen))), (aT_rules_bars, .inl (G.2.1, 19, .inl fT_rules_bars)), (aT_rules_sorts, .inl (G.2.1, 19, .inl fT_rules_sorts)), (aT_rules_kisses, .inl (G.2.1, 19, .inl fT_rules_kisses)), (aT_rules_masks, .inl (G.2.1, 5, .inl fT_rules_masks)), (aT_rules_values, .inl (G.2.1, 5, .inl fT_rules_values)), (aT_rules_askings, .inl (G.2.1, 5, .inl fT_rules_askings)), (aT_rules_kissesNeeded, .inl (G.2.1, 5, .inl fT_rules_kissesNeeded)), (aT_rules_wakings, .inl (G.2.1, 5, .inl fT_rules_wakings)), (aT_rules_bits, .inl (G.2.1, 19, .inl fT_rules_bits))] → va_S A s.heap H lo → ∀ (ls : Array Slot), lv_has ls 3 [(0, .ref aT), (1, .int x1), (2, .int x2)] → W p l e R s m ar below meth c H lo 0 0 Q (F0 m 2 ls []) := by
    intro x1 k
    induction k with
    | zero => intro x2 vT_opened vT_size fT_found fT_seen out hev; rw [f_Se_firstWithout_L2] at hev; cases hev
    | succ k ih =>
      intro x2 vT_opened vT_size fT_found fT_seen out hev hex hret H lo hP hD hS ls hl
      rw [f_Se_firstWithout_L2] at hev
      have J49 : ∀ (vT_opened : Int32) (vT_size : Int32) (fT_found : Nat → Int64) (fT_seen : Nat → Int64) (x2 : Int32), ∀ (H : Heap) (lo : List Loc), va_P G.1 classes [(aT, .inr (3, [.ref aT_rules, .ref aT_seen, .ref aT_found, .int vT_size, .int vT_opened, .int vT_start, .int vT_doers, .int vT_unlifted, .int vT_deedsAllowed])), (aT_rules, .inr (2, [.int vT_rules_people, .int vT_rules_spells, .int vT_rules_deedCount, .ref aT_rules_masks, .ref aT_rules_values, .ref aT_rules_askings, .ref aT_rules_kissesNeeded, .ref aT_rules_wakings, .ref aT_rules_binders, .ref aT_rules_curses, .ref aT_rules_doers, .ref aT_rules_sorts, .ref aT_rules_whichs, .ref aT_rules_bars, .ref aT_rules_bits, .ref aT_rules_kisses])), (aT_found, .inl (G.2.2.1, nT_found, .inr (.inl fT_found))), (aT_seen, .inl (G.2.2.1, 896, .inr (.inl fT_seen))), (aT_rules_bars, .inl (G.2.1, 19, .inl fT_rules_bars)), (aT_rules_sorts, .inl (G.2.1, 19, .inl fT_rules_sorts)), (aT_rules_kisses, .inl (G.2.1, 19, .inl fT_rules_kisses)), (aT_rules_masks, .inl (G.2.1, 5, .inl fT_rules_masks)), (aT_rules_values, .inl (G.2.1, 5, .inl fT_rules_values)), (aT_rules_askings, .inl (G.2.1, 5, .inl fT_rules_askings)), (aT_rules_kissesNeeded, .inl (G.2.1, 5, .inl fT_rules_kissesNeeded)), (aT_rules_wakings, .inl (G.2.1, 5, .inl fT_rules_wakings)), (aT_rules_bits, .inl (G.2.1, 19, .inl fT_rules_bits))] H → va_D A [(aT, .inr (3, [.ref aT_rules, .ref aT_seen, .ref aT_found, .int vT_size, .int vT_opened, .int vT_start, .int vT_doers, .int vT_unlifted, .int vT_deedsAllowed])), (aT_rules, .inr (2, [.int vT_rules_people, .int vT_rules_spells, .int vT_rules_deedCount, .ref aT_rules_masks, .ref aT_rules_values, .ref aT_rules_askings, .ref aT_rules_kissesNeeded, .ref aT_rules_wakings, .ref aT_rules_binders, .ref aT_rules_curses, .ref aT_rules_doers, .ref aT_rules_sorts, .ref aT_rules_whichs, .ref aT_rules_bars, .ref aT_rules_bits, .ref aT_rules_kisses])), (aT_found, .inl (G.2.2.1, nT_found, .inr (.inl fT_found))), (aT_seen, .inl (G.2.2.1, 896, .inr (.inl fT_seen))), (aT_rules_bars, .inl (G.2.1, 19, .inl fT_rules_bars)), (aT_rules_sorts, .inl (G.2.1, 19, .inl fT_rules_sorts)), (aT_rules_kisses, .inl (G.2.1, 19, .inl fT_rules_kisses)), (aT_rules_masks, .inl (G.2.1, 5, .inl fT_rules_masks)), (aT_rules_values, .inl (G.2.1, 5, .inl fT_rules_values)), (aT_rules_askings, .inl (G.2.1, 5, .inl fT_rules_askings)), (aT_rules_kissesNeeded, .inl (G.2.1, 5, .inl fT_rules_kissesNeeded)), (aT_rules_wakings, .inl (G.2.1, 5, .inl fT_rules_wakings)), (aT_rules_bits, .inl (G.2.1, 19, .inl fT_rules_bits))] → va_S A s.heap H lo → ∀ (ls : Array Slot), f_Se_firstWithout_J49 (f_Se_firstWithout_L2 nT_found vT_deedsAllowed vT_rules_deedCount vT_rules_spells vT_unlifted fT_rules_askings fT_rules_bars fT_rules_bits fT_rules_kisses fT_rules_kissesNeeded fT_rules_masks fT_rules_sorts fT_rules_values fT_rules_wakings x1 k) k nT_found vT_deedsAllowed vT_opened vT_rules_deedCount vT_rules_spells vT_size vT_unlifted fT_found fT_rules_askings fT_rules_bars fT_rules_bits fT_rules_kisses fT_rules_kissesNeeded fT_rules_masks fT_rules_sorts fT_rules_values fT_rules_wakings fT_seen x1 x2 = some out → lv_has ls 3 [(0, .ref aT), (1, .int x1), (2, .int x2)] → W p l e R s m ar below meth c H lo 0 0 Q (F0 m 49 ls []) := by
        intro vT_opened vT_size fT_found fT_seen x2 H lo hP hD hS ls hev hl
        unfold f_Se_firstWithout_J49 at hev
        obtain ⟨y1, ey1⟩ : ∃ y : Int32, y = x2 + (1 : Int32) := ⟨_, rfl⟩
        refine lv_iinc (v := y1) (lv' := [(2, .int y1), (0, .ref aT), (1, .int x1)]) hx hb dX5_firstWithout_49 hl (k := 2) rfl (by rw [ey1]; rfl) (by decide) rfl (fun ls hl => ?_)
        replace hev := x_lt hev y1 ey1
        refine lv_goto (tgt := 2) hx hb dX5_firstWithout_52 (by decide) ?_
        exact ih y1 vT_opened vT_size fT_found fT_seen _ hev hex hret _ _ hP hD hS ls (lv_sub hl [1, 2, 0] rfl)
      refine lv_iload_n hx hb dX5_firstWithout_2 rfl (lv_at hl 2 rfl) ?_
      refine lv_aload_n hx hb dX5_firstWithout_3 rfl (lv_at hl 0 rfl) ?_
      refine va_get (D := G.1) (ci := 3) (v := .int vT_size) (C := RX5) (T := TX5) (N := 9) hx hb hts i5 hown hK hP 0 rfl rfl 3 (by decide) (hw _ u255) (fun _ h9 => h9) rfl dX5_firstWithout_4 ?_
      refine lv_icmp_ge (tgt := 55) hx hb dX5_firstWithout_7 (by decide) (fun c2 => ?_) (fun c2 => ?_)
      · replace hev := x_t c2 hev
        exact hex vT_opened vT_size fT_found fT_seen (Option.some.inj hev).symm _ _ hP hD hS ls (lv_sub hl [] rfl)
      · replace hev := x_f c2 hev
        refine lv_iload_n hx hb dX5_firstWithout_10 rfl (lv_at hl 2 rfl) ?_
        refine lv_ldc (v := (57344 : Int32)) hx hb hown (hw _ u829) dX5_firstWithout_11 ?_
        refine lv_icmp_ge (tgt := 55) hx hb dX5_firstWithout_13 (by decide) (fun c3 => ?_) (fun c3 => ?_)
        · replace hev := x_t c3 hev
          exact hex vT_opened vT_size fT_found fT_seen (Option.some.inj hev).symm _ _ hP hD hS ls (lv_sub hl [] rfl)
        · replace hev := x_f c3 hev
          refine lv_aload_n hx hb dX5_firstWithout_16 rfl (lv_at hl 0 rfl) ?_
          refine lv_iload_n hx hb dX5_firstWithout_17 rfl (lv_at hl 2 rfl) ?_
          obtain ⟨y4, hq, hev⟩ := x_bd hev
          refine roV X (KK_at hKK hS hAb) hR (st1 := [.int y4]) (c_Se_stateAt l G aT aT_rules aT_seen aT_found vT_size vT_opened vT_start vT_doers vT_unlifted vT_deedsAllowed fT_found nT_found x2 y4 hq) K_X5_stateAt u830 (x_Psub hP [0, 2] rfl) rfl (q0 := 0) rfl (by decide) ⟨Nat.zero_le _, Nat.zero_le _⟩ rfl hl.1 rfl (Nat.le_of_ble_eq_true rfl) rfl dX5_firstWithout_18 ?_
          refine lv_iload_n hx hb dX5_firstWithout_21 rfl (lv_at hl 1 rfl) ?_
          refine lv_iand hx hb dX5_firstWithout_22 ?_
          refine lv_if_ne (tgt := 28) hx hb dX5_firstWithout_23 (by decide) (fun c5 => ?_) (fun c5 => ?_)
          · replace hev := x_f c5 hev
            refine lv_iload_n hx hb dX5_firstWithout_28 rfl (lv_at hl 2 rfl) ?_
            refine lv_aload_n hx hb dX5_firstWithout_29 rfl (lv_at hl 0 rfl) ?_
            refine va_get (D := G.1) (ci := 3) (v := .int vT_opened) (C := RX5) (T := TX5) (N := 9) hx hb hts i5 hown hK hP 0 rfl rfl 4 (by decide) (hw _ u256) (fun _ h9 => h9) rfl dX5_firstWithout_30 ?_
            refine lv_icmp_lt (tgt := 49) hx hb dX5_firstWithout_33 (by decide) (fun c6 => ?_) (fun c6 => ?_)
            · replace hev := x_t c6 hev
              exact J49 vT_opened vT_size fT_found fT_seen x2 _ _ hP hD hS ls hev (lv_sub hl [0, 1, 2] rfl)
            · replace hev := x_f c6 hev
              refine lv_aload_n hx hb dX5_firstWithout_36 rfl (lv_at hl 0 rfl) ?_
              refine lv_iload_n hx hb dX5_firstWithout_37 rfl (lv_at hl 2 rfl) ?_
              refine lv_iconst (v := (0 : Int32)) hx hb dX5_firstWithout_38 (by decide) ?_
              refine lv_aload_n hx hb dX5_firstWithout_39 rfl (lv_at hl 0 rfl) ?_
              refine va_get (D := G.1) (ci := 3) (v := .ref aT_rules) (C := RX5) (T := TX5) (N := 9) hx hb hts i5 hown hK hP 0 rfl rfl 0 (by decide) (hw _ u252) (fun _ h9 => h9) rfl dX5_firstWithout_40 ?_
              obtain ⟨y7, hq, hev⟩ := x_bd hev
              refine roV X (KK_at hKK hS hAb) hR (st1 := [.int y7, .int (0 : Int32), .int x2, .ref aT]) (c_Ru_nightDeed l G aT_rules aT_rules_masks aT_rules_values aT_rules_askings aT_rules_kissesNeeded aT_rules_wakings aT_rules_binders aT_rules_curses aT_rules_doers aT_rules_sorts aT_rules_whichs aT_rules_bars aT_rules_bits aT_rules_kisses vT_rules_people vT_rules_spells vT_rules_deedCount y7 hq) K_X4_nightDeed u835 (x_Psub hP [1] rfl) rfl (q0 := 0) rfl (by decide) ⟨Nat.zero_le _, Nat.zero_le _⟩ rfl hl.1 rfl (Nat.le_of_ble_eq_true rfl) rfl dX5_firstWithout_43 ?_
              obtain ⟨⟨w8, w9, w10, w11⟩, hq, hev⟩ := x_bd hev
              refine rgV X (KK_at hKK hS hAb) hR (st1 := []) (ws2 := [(aT, .inr (3, [.ref aT_rules, .ref aT_seen, .ref aT_found, .int w9, .int w8, .int vT_start, .int vT_doers, .int vT_unlifted, .int vT_deedsAllowed])), (aT_rules, .inr (2, [.int vT_rules_people, .int vT_rules_spells, .int vT_rules_deedCount, .ref aT_rules_masks, .ref aT_rules_values, .ref aT_rules_askings, .ref aT_rules_kissesNeeded, .ref aT_rules_wakings, .ref aT_rules_binders, .ref aT_rules_curses, .ref aT_rules_doers, .ref aT_rules_sorts, .ref aT_rules_whichs, .ref aT_rules_bars, .ref aT_rules_bits, .ref aT_rules_kisses])), (aT_found, .inl (G.2.2.1, nT_found, .inr (.inl w10))), (aT_seen, .inl (G.2.2.1, 896, .inr (.inl w11))), (aT_rules_bars, .inl (G.2.1, 19, .inl fT_rules_bars)), (aT_rules_sorts, .inl (G.2.1, 19, .inl fT_rules_sorts)), (aT_rules_kisses, .inl (G.2.1, 19, .inl fT_rules_kisses)), (aT_rules_masks, .inl (G.2.1, 5, .inl fT_rules_masks)), (aT_rules_values, .inl (G.2.1, 5, .inl fT_rules_values)), (aT_rules_askings, .inl (G.2.1, 5, .inl fT_rules_askings)), (aT_rules_kissesNeeded, .inl (G.2.1, 5, .inl fT_rules_kissesNeeded)), (aT_rules_wakings, .inl (G.2.1, 5, .inl fT_rules_wakings)), (aT_rules_bits, .inl (G.2.1, 19, .inl fT_rules_bits))]) (c_Se_open l G aT aT_rules aT_seen aT_found aT_rules_masks aT_rules_values aT_rules_askings aT_rules_kissesNeeded aT_rules_wakings aT_rules_binders aT_rules_curses aT_rules_doers aT_rules_sorts aT_rules_whichs aT_rules_bars aT_rules_bits aT_rules_kisses vT_size vT_opened vT_start vT_doers vT_unlifted vT_deedsAllowed vT_rules_people vT_rules_spells vT_rules_deedCount fT_found nT_found fT_seen fT_rules_bars fT_rules_sorts fT_rules_kisses fT_rules_masks fT_rules_values fT_rules_askings fT_rules_kissesNeeded fT_rules_wakings fT_rules_bits k x2 (0 : Int32) y7 w8 w9 w10 w11 hq) K_X5_open u839 hP hD hS hA hAb [0, 1, 2, 3, 4, 5, 6, 7, 8, 9, 10, 11, 12] rfl (sbC rfl (sbC rfl (sbC rfl (sbC rfl (sbC rfl (sbC rfl (sbC rfl (sbC rfl (sbC rfl (sbC rfl (sbC rfl (sbC rfl (sbC rfl sb0))))))))))))) (mgN 0 rfl rfl (mgN 1 rfl rfl (mgN 2 rfl rfl (mgN 3 rfl rfl (mgN 4 rfl rfl (mgN 5 rfl rfl (mgN 6 rfl rfl (mgN 7 rfl rfl (mgN 8 rfl rfl (mgN 9 rfl rfl (mgN 10 rfl rfl (mgN 11 rfl rfl (mgN 12 rfl rfl (mg0)))))))))))))) rfl (q0 := 0) rfl (by decide) ⟨Nat.zero_le _, Nat.zero_le _⟩ rfl hl.1 rfl (Nat.le_of_ble_eq_true rfl) rfl dX5_firstWithout_46 (fun H lo hP hD hS => ?_)
              exact J49 w8 w9 w10 w11 x2 _ _ hP hD hS ls hev (lv_sub hl [0, 1, 2] rfl)
          · replace hev := x_t c5 hev
            refine lv_iload_n hx hb dX5_firstWithout_26 rfl (lv_at hl 2 rfl) ?_
            exact ret2 _ _ _ _ x2 x2 vT_opened vT_size fT_found fT_seen (hret _ (Option.some.inj hev).symm) dX5_firstWithout_27 (show narrow _ (.int x2) = .int x2 from rfl) hP hD hS
  rcases x_sd hev with ⟨q9, hq, hev⟩ | ⟨q9, hq, hev⟩
  · refine L2 p1 k (0 : Int32) vT_opened vT_size fT_found fT_seen (.inl q9) hq ?_ (fun v he => by cases he) _ _ hP hD hS ls (lv_sub hl [1, 2, 0] rfl)
    intro w12 w13 w14 w15 he H lo hP hD hS ls hl
    have he := Sum.inl.inj he
    subst he
    refine lv_iconst (v := (-1 : Int32)) hx hb dX5_firstWithout_55 (by decide) ?_
    exact ret2 _ _ _ _ (-1 : Int32) (-1 : Int32) w12 w13 w14 w15 (Option.some.inj hev) dX5_firstWithout_56 (show narrow _ (.int (-1 : Int32)) = .int (-1 : Int32) from rfl) hP hD hS
  · refine L2 p1 k (0 : Int32) vT_opened vT_size fT_found fT_seen (.inr q9) hq (fun _ _ _ _ he => by cases he) (fun v he => ?_) _ _ hP hD hS ls (lv_sub hl [1, 2, 0] rfl)
    rw [← Sum.inr.inj he]
    exact Option.some.inj hev
def f_Se_fewestWithout (k : Nat) (nT_found : Nat) (vT_deedsAllowed : Int32) (vT_opened : Int32) (vT_rules_deedCount : Int32) (vT_rules_spells : Int32) (vT_size : Int32) (vT_unlifted : Int32) (fT_found : Nat → Int64) (fT_rules_askings : Nat → Int32) (fT_rules_bars : Nat → Int32) (fT_rules_bits : Nat → Int32) (fT_rules_kisses : Nat → Int32) (fT_rules_kissesNeeded : Nat → Int32) (fT_rules_masks : Nat → Int32) (fT_rules_sorts : Nat → Int32) (fT_rules_values : Nat → Int32) (fT_rules_wakings : Nat → Int32) (fT_seen : Nat → Int64) (p1 : Int32) : Option (Int32 × Int32 × Int32 × (Nat → Int64) × (Nat → Int64)) := x_B (f_Se_firstWithout k nT_found vT_deedsAllowed vT_opened vT_rules_deedCount vT_rules_spells vT_size vT_unlifted fT_found fT_rules_askings fT_rules_bars fT_rules_bits fT_rules_kisses fT_rules_kissesNeeded fT_rules_masks fT_rules_sorts fT_rules_values fT_rules_wakings fT_seen p1) (fun ⟨y1, w2, w3, w4, w5⟩ => if y1 = (-1 : Int32) then (some ((-1 : Int32), w2, w3, w4, w5)) else x_B (f_Se_distanceAt nT_found w4 y1) (fun y7 => some (y7, w2, w3, w4, w5)))
set_option maxHeartbeats 8000000 in
set_option maxRecDepth 100000 in
theorem c_Se_fewestWithout (l : Launch) (G : GG) (aT aT_rules aT_seen aT_found aT_rules_masks aT_rules_values aT_rules_askings aT_rules_kissesNeeded aT_rules_wakings aT_rules_binders aT_rules_curses aT_rules_doers aT_rules_sorts aT_rules_whichs aT_rules_bars aT_rules_bits aT_rules_kisses : Nat) (vT_size : Int32) (vT_opened : Int32) (vT_start : Int32) (vT_doers : Int32) (vT_unlifted : Int32) (vT_deedsAllowed : Int32) (vT_rules_people : Int32) (vT_rules_spells : Int32) (vT_rules_deedCount : Int32) (fT_found : Nat → Int64) (nT_found : Nat) (fT_seen : Nat → Int64) (fT_rules_bars : Nat → Int32) (fT_rules_sorts : Nat → Int32) (fT_rules_kisses : Nat → Int32) (fT_rules_masks : Nat → Int32) (fT_rules_values : Nat → Int32) (fT_rules_askings : Nat → Int32) (fT_rules_kissesNeeded : Nat → Int32) (fT_rules_wakings : Nat → Int32) (fT_rules_bits : Nat → Int32) (k : Nat) (p1 : Int32) (r0 : Int32) (wvT_opened : Int32) (wvT_size : Int32) (wfT_found : Nat → Int64) (wfT_seen : Nat → Int64) (hev : f_Se_fewestWithout k nT_found vT_deedsAllowed vT_opened vT_rules_deedCount vT_rules_spells vT_size vT_unlifted fT_found fT_rules_askings fT_rules_bars fT_rules_bits fT_rules_kisses fT_rules_kissesNeeded fT_rules_masks fT_rules_sorts fT_rules_values fT_rules_wakings fT_seen p1 = some (r0, wvT_opened, wvT_size, wfT_found, wfT_seen)) : RW l G yX5_fewestWithout cX5_fewestWithout 3 (some .int) 4 [.ref aT, .int p1] [(aT, .inr (3, [.ref aT_rules, .ref aT_seen, .ref aT_found, .int vT_size, .int vT_opened, .int vT_start, .int vT_doers, .int vT_unlifted, .int vT_deedsAllowed])), (aT_rules, .inr (2, [.int vT_rules_people, .int vT_rules_spells, .int vT_rules_deedCount, .ref aT_rules_masks, .ref aT_rules_values, .ref aT_rules_askings, .ref aT_rules_kissesNeeded, .ref aT_rules_wakings, .ref aT_rules_binders, .ref aT_rules_curses, .ref aT_rules_doers, .ref aT_rules_sorts, .ref aT_rules_whichs, .ref aT_rules_bars, .ref aT_rules_bits, .ref aT_rules_kisses])), (aT_found, .inl (G.2.2.1, nT_found, .inr (.inl fT_found))), (aT_seen, .inl (G.2.2.1, 896, .inr (.inl fT_seen))), (aT_rules_bars, .inl (G.2.1, 19, .inl fT_rules_bars)), (aT_rules_sorts, .inl (G.2.1, 19, .inl fT_rules_sorts)), (aT_rules_kisses, .inl (G.2.1, 19, .inl fT_rules_kisses)), (aT_rules_masks, .inl (G.2.1, 5, .inl fT_rules_masks)), (aT_rules_values, .inl (G.2.1, 5, .inl fT_rules_values)), (aT_rules_askings, .inl (G.2.1, 5, .inl fT_rules_askings)), (aT_rules_kissesNeeded, .inl (G.2.1, 5, .inl fT_rules_kissesNeeded)), (aT_rules_wakings, .inl (G.2.1, 5, .inl fT_rules_wakings)), (aT_rules_bits, .inl (G.2.1, 19, .inl fT_rules_bits))] (some (.int r0)) [(aT, .inr (3, [.ref aT_rules, .ref aT_seen, .ref aT_found, .int wvT_size, .int wvT_opened, .int vT_start, .int vT_doers, .int vT_unlifted, .int vT_deedsAllowed])), (aT_rules, .inr (2, [.int vT_rules_people, .int vT_rules_spells, .int vT_rules_deedCount, .ref aT_rules_masks, .ref aT_rules_values, .ref aT_rules_askings, .ref aT_rules_kissesNeeded, .ref aT_rules_wakings, .ref aT_rules_binders, .ref aT_rules_curses, .ref aT_rules_doers, .ref aT_rules_sorts, .ref aT_rules_whichs, .ref aT_rules_bars, .ref aT_rules_bits, .ref aT_rules_kisses])), (aT_found, .inl (G.2.2.1, nT_found, .inr (.inl wfT_found))), (aT_seen, .inl (G.2.2.1, 896, .inr (.inl wfT_seen))), (aT_rules_bars, .inl (G.2.1, 19, .inl fT_rules_bars)), (aT_rules_sorts, .inl (G.2.1, 19, .inl fT_rules_sorts)), (aT_rules_kisses, .inl (G.2.1, 19, .inl fT_rules_kisses)), (aT_rules_masks, .inl (G.2.1, 5, .inl fT_rules_masks)), (aT_rules_values, .inl (G.2.1, 5, .inl fT_rules_values)), (aT_rules_askings, .inl (G.2.1, 5, .inl fT_rules_askings)), (aT_rules_kissesNeeded, .inl (G.2.1, 5, .inl fT_rules_kissesNeeded)), (aT_rules_wakings, .inl (G.2.1, 5, .inl fT_rules_wakings)), (aT_rules_bits, .inl (G.2.1, 19, .inl fT_rules_bits))] 0 0 := by
  refine RW_of (by decide) (Nat.le_of_ble_eq_true rfl) ?_
  intro p e s m ar below meth c R Q A ls X hR hRc hin hP hKK hD hS hA hAb hl ret
  obtain ⟨rs, hrs⟩ : ∃ q, q = (r0, wvT_opened, wvT_size, wfT_found, wfT_seen) := ⟨_, rfl⟩
  rw [← hrs] at hev
  have ret2 : ∀ (pc : Nat) (ls : Array Slot) (H : Heap) (lo : List Loc) (v r1 : Int32) (zvT_opened : Int32) (zvT_size : Int32) (zfT_found : Nat → Int64) (zfT_seen : Nat → Int64), (r1, zvT_opened, zvT_size, zfT_found, zfT_seen) = rs → decode cX5_fewestWithout pc = .ok (.ireturn, 1) → narrow .int (.int v) = .int r1 → va_P G.1 classes [(aT, .inr (3, [.ref aT_rules, .ref aT_seen, .ref aT_found, .int zvT_size, .int zvT_opened, .int vT_start, .int vT_doers, .int vT_unlifted, .int vT_deedsAllowed])), (aT_rules, .inr (2, [.int vT_rules_people, .int vT_rules_spells, .int vT_rules_deedCount, .ref aT_rules_masks, .ref aT_rules_values, .ref aT_rules_askings, .ref aT_rules_kissesNeeded, .ref aT_rules_wakings, .ref aT_rules_binders, .ref aT_rules_curses, .ref aT_rules_doers, .ref aT_rules_sorts, .ref aT_rules_whichs, .ref aT_rules_bars, .ref aT_rules_bits, .ref aT_rules_kisses])), (aT_found, .inl (G.2.2.1, nT_found, .inr (.inl zfT_found))), (aT_seen, .inl (G.2.2.1, 896, .inr (.inl zfT_seen))), (aT_rules_bars, .inl (G.2.1, 19, .inl fT_rules_bars)), (aT_rules_sorts, .inl (G.2.1, 19, .inl fT_rules_sorts)), (aT_rules_kisses, .inl (G.2.1, 19, .inl fT_rules_kisses)), (aT_rules_masks, .inl (G.2.1, 5, .inl fT_rules_masks)), (aT_rules_values, .inl (G.2.1, 5, .inl fT_rules_values)), (aT_rules_askings, .inl (G.2.1, 5, .inl fT_rules_askings)), (aT_rules_kissesNeeded, .inl (G.2.1, 5, .inl fT_rules_kissesNeeded)), (aT_rules_wakings, .inl (G.2.1, 5, .inl fT_rules_wakings)), (aT_rules_bits, .inl (G.2.1, 19, .inl fT_rules_bits))] H → va_D A [(aT, .inr (3, [.ref aT_rules, .ref aT_seen, .ref aT_found, .int zvT_size, .int zvT_opened, .int vT_start, .int vT_doers, .int vT_unlifted, .int vT_deedsAllowed])), (aT_rules, .inr (2, [.int vT_rules_people, .int vT_rules_spells, .int vT_rules_deedCount, .ref aT_rules_masks, .ref aT_rules_values, .ref aT_rules_askings, .ref aT_rules_kissesNeeded, .ref aT_rules_wakings, .ref aT_rules_binders, .ref aT_rules_curses, .ref aT_rules_doers, .ref aT_rules_sorts, .ref aT_rules_whichs, .ref aT_rules_bars, .ref aT_rules_bits, .ref aT_rules_kisses])), (aT_found, .inl (G.2.2.1, nT_found, .inr (.inl zfT_found))), (aT_seen, .inl (G.2.2.1, 896, .inr (.inl zfT_seen))), (aT_rules_bars, .inl (G.2.1, 19, .inl fT_rules_bars)), (aT_rules_sorts, .inl (G.2.1, 19, .inl fT_rules_sorts)), (aT_rules_kisses, .inl (G.2.1, 19, .inl fT_rules_kisses)), (aT_rules_masks, .inl (G.2.1, 5, .inl fT_rules_masks)), (aT_rules_values, .inl (G.2.1, 5, .inl fT_rules_values)), (aT_rules_askings, .inl (G.2.1, 5, .inl fT_rules_askings)), (aT_rules_kissesNeeded, .inl (G.2.1, 5, .inl fT_rules_kissesNeeded)), (aT_rules_wakings, .inl (G.2.1, 5, .inl fT_rules_wakings)), (aT_rules_bits, .inl (G.2.1, 19, .inl fT_rules_bits))] → va_S A s.heap H lo → W p l e R s m ar below meth c H lo 0 0 Q (F0 m pc ls [.int v]) := by
    intro pc ls H lo v r1 zvT_opened zvT_size zfT_found zfT_seen he hd hn h1 h2 h3
    have he := he.trans hrs
    cases he
    exact ret.1 _ _ _ _ _ _ _ rfl rfl hd hn h1 h2 h3
  clear ret hrs
  have hl : lv_has ls 3 [(0, .ref aT), (1, .int p1)] := hl
  obtain ⟨hx, hb, hml, hown, hts, hT⟩ := id X
  have hK := hKK.1
  have hw : ∀ w ∈ T0, w.before ar s = true := fun w h => hts w (hT w h)
  unfold f_Se_fewestWithout at hev
  refine lv_aload_n hx hb dX5_fewestWithout_0 rfl (lv_at hl 0 rfl) ?_
  refine lv_iload_n hx hb dX5_fewestWithout_1 rfl (lv_at hl 1 rfl) ?_
  obtain ⟨⟨y1, w2, w3, w4, w5⟩, hq, hev⟩ := x_bd hev
  refine rgV X (KK_at hKK hS hAb) hR (st1 := [.int y1]) (ws2 := [(aT, .inr (3, [.ref aT_rules, .ref aT_seen, .ref aT_found, .int w3, .int w2, .int vT_start, .int vT_doers, .int vT_unlifted, .int vT_deedsAllowed])), (aT_rules, .inr (2, [.int vT_rules_people, .int vT_rules_spells, .int vT_rules_deedCount, .ref aT_rules_masks, .ref aT_rules_values, .ref aT_rules_askings, .ref aT_rules_kissesNeeded, .ref aT_rules_wakings, .ref aT_rules_binders, .ref aT_rules_curses, .ref aT_rules_doers, .ref aT_rules_sorts, .ref aT_rules_whichs, .ref aT_rules_bars, .ref aT_rules_bits, .ref aT_rules_kisses])), (aT_found, .inl (G.2.2.1, nT_found, .inr (.inl w4))), (aT_seen, .inl (G.2.2.1, 896, .inr (.inl w5))), (aT_rules_bars, .inl (G.2.1, 19, .inl fT_rules_bars)), (aT_rules_sorts, .inl (G.2.1, 19, .inl fT_rules_sorts)), (aT_rules_kisses, .inl (G.2.1, 19, .inl fT_rules_kisses)), (aT_rules_masks, .inl (G.2.1, 5, .inl fT_rules_masks)), (aT_rules_values, .inl (G.2.1, 5, .inl fT_rules_values)), (aT_rules_askings, .inl (G.2.1, 5, .inl fT_rules_askings)), (aT_rules_kissesNeeded, .inl (G.2.1, 5, .inl fT_rules_kissesNeeded)), (aT_rules_wakings, .inl (G.2.1, 5, .inl fT_rules_wakings)), (aT_rules_bits, .inl (G.2.1, 19, .inl fT_rules_bits))]) (c_Se_firstWithout l G aT aT_rules aT_seen aT_found aT_rules_masks aT_rules_values aT_rules_askings aT_rules_kissesNeeded aT_rules_wakings aT_rules_binders aT_rules_curses aT_rules_doers aT_rules_sorts aT_rules_whichs aT_rules_bars aT_rules_bits aT_rules_kisses vT_size vT_opened vT_start vT_doers vT_unlifted vT_deedsAllowed vT_rules_people vT_rules_spells vT_rules_deedCount fT_found nT_found fT_seen fT_rules_bars fT_rules_sorts fT_rules_kisses fT_rules_masks fT_rules_values fT_rules_askings fT_rules_kissesNeeded fT_rules_wakings fT_rules_bits k p1 y1 w2 w3 w4 w5 hq) K_X5_firstWithout u825 hP hD hS hA hAb [0, 1, 2, 3, 4, 5, 6, 7, 8, 9, 10, 11, 12] rfl (sbC rfl (sbC rfl (sbC rfl (sbC rfl (sbC rfl (sbC rfl (sbC rfl (sbC rfl (sbC rfl (sbC rfl (sbC rfl (sbC rfl (sbC rfl sb0))))))))))))) (mgN 0 rfl rfl (mgN 1 rfl rfl (mgN 2 rfl rfl (mgN 3 rfl rfl (mgN 4 rfl rfl (mgN 5 rfl rfl (mgN 6 rfl rfl (mgN 7 rfl rfl (mgN 8 rfl rfl (mgN 9 rfl rfl (mgN 10 rfl rfl (mgN 11 rfl rfl (mgN 12 rfl rfl (mg0)))))))))))))) rfl (q0 := 0) rfl (by decide) ⟨Nat.zero_le _, Nat.zero_le _⟩ rfl hl.1 rfl (Nat.le_of_ble_eq_true rfl) rfl dX5_fewestWithout_2 (fun H lo hP hD hS => ?_)
  refine lv_istore_n (lv' := [(2, .int y1), (0, .ref aT), (1, .int p1)]) hx hb dX5_fewestWithout_5 rfl hl (by decide) rfl (fun ls hl => ?_)
  refine lv_iload_n hx hb dX5_fewestWithout_6 rfl (lv_at hl 0 rfl) ?_
  refine lv_iconst (v := (-1 : Int32)) hx hb dX5_fewestWithout_7 (by decide) ?_
  refine lv_icmp_ne (tgt := 15) hx hb dX5_fewestWithout_8 (by decide) (fun c6 => ?_) (fun c6 => ?_)
  · replace hev := x_f c6 hev
    refine lv_aload_n hx hb dX5_fewestWithout_15 rfl (lv_at hl 1 rfl) ?_
    refine lv_iload_n hx hb dX5_fewestWithout_16 rfl (lv_at hl 0 rfl) ?_
    obtain ⟨y7, hq, hev⟩ := x_bd hev
    refine roV X (KK_at hKK hS hAb) hR (st1 := [.int y7]) (c_Se_distanceAt l G aT aT_rules aT_seen aT_found w3 w2 vT_start vT_doers vT_unlifted vT_deedsAllowed w4 nT_found y1 y7 hq) K_X5_distanceAt u843 (x_Psub hP [0, 2] rfl) rfl (q0 := 0) rfl (by decide) ⟨Nat.zero_le _, Nat.zero_le _⟩ rfl hl.1 rfl (Nat.le_of_ble_eq_true rfl) rfl dX5_fewestWithout_17 ?_
    exact ret2 _ _ _ _ y7 y7 w2 w3 w4 w5 (Option.some.inj hev) dX5_fewestWithout_20 (show narrow _ (.int y7) = .int y7 from rfl) hP hD hS
  · replace hev := x_t c6 hev
    refine lv_iconst (v := (-1 : Int32)) hx hb dX5_fewestWithout_11 (by decide) ?_
    refine lv_goto (tgt := 20) hx hb dX5_fewestWithout_12 (by decide) ?_
    exact ret2 _ _ _ _ (-1 : Int32) (-1 : Int32) w2 w3 w4 w5 (Option.some.inj hev) dX5_fewestWithout_20 (show narrow _ (.int (-1 : Int32)) = .int (-1 : Int32) from rfl) hP hD hS
def f_Se_fromAt_J13 (nT_found : Nat) (fT_found : Nat → Int64) : Option (Int32) := some (0 : Int32)
def f_Se_fromAt (nT_found : Nat) (fT_found : Nat → Int64) (p1 : Int32) : Option (Int32) := if p1 < 0 then (f_Se_fromAt_J13 nT_found fT_found) else if p1 < (Int32.ofNat nT_found) then (x_I nT_found fT_found p1 (fun v4 => some (((v4 >>> (((24 : Int32)).toInt64 &&& 63))).toInt32 &&& (65535 : Int32)))) else f_Se_fromAt_J13 nT_found fT_found
set_option maxHeartbeats 8000000 in
set_option maxRecDepth 100000 in
theorem c_Se_fromAt (l : Launch) (G : GG) (aT aT_rules aT_seen aT_found : Nat) (vT_size : Int32) (vT_opened : Int32) (vT_start : Int32) (vT_doers : Int32) (vT_unlifted : Int32) (vT_deedsAllowed : Int32) (fT_found : Nat → Int64) (nT_found : Nat) (p1 : Int32) (r0 : Int32) (hev : f_Se_fromAt nT_found fT_found p1 = some r0) : RO l G yX5_fromAt cX5_fromAt 2 (some .int) 0 [.ref aT, .int p1] [(aT, .inr (3, [.ref aT_rules, .ref aT_seen, .ref aT_found, .int vT_size, .int vT_opened, .int vT_start, .int vT_doers, .int vT_unlifted, .int vT_deedsAllowed])), (aT_found, .inl (G.2.2.1, nT_found, .inr (.inl fT_found)))] (some (.int r0)) := by
  refine RO_of (by decide) (Nat.le_of_ble_eq_true rfl) ?_
  intro p e s m ar below meth c R Q H ls X hR hP hKK hS0 hl ret
  generalize hrs : r0 = rs at hev ret
  have hl : lv_has ls 2 [(0, .ref aT), (1, .int p1)] := hl
  obtain ⟨hx, hb, hml, hown, hts, hT⟩ := id X
  have hK := hKK.1
  have hw : ∀ w ∈ T0, w.before ar s = true := fun w h => hts w (hT w h)
  have i5 := fun w h => hT w (inT5 w h)
  have J13 : ∀ (ls : Array Slot), f_Se_fromAt_J13 nT_found fT_found = some rs → lv_has ls 2 [] → W p l e R s m ar below meth c H [] 0 0 Q (F0 m 13 ls []) := by
    intro  ls hev hl
    unfold f_Se_fromAt_J13 at hev
    refine lv_iconst (v := (0 : Int32)) hx hb dX5_fromAt_13 (by decide) ?_
    refine lv_goto (tgt := 30) hx hb dX5_fromAt_14 (by decide) ?_
    exact ret _ _ _ dX5_fromAt_30 ((show narrow _ (.int (0 : Int32)) = .int (0 : Int32) from rfl).trans (congrArg Value.int (Option.some.inj hev)))
  unfold f_Se_fromAt at hev
  refine lv_iload_n hx hb dX5_fromAt_0 rfl (lv_at hl 1 rfl) ?_
  refine lv_if_lt (tgt := 13) hx hb dX5_fromAt_1 (by decide) (fun c1 => ?_) (fun c1 => ?_)
  · replace hev := x_t c1 hev
    exact J13  ls hev (lv_sub hl [] rfl)
  · replace hev := x_f c1 hev
    refine lv_iload_n hx hb dX5_fromAt_4 rfl (lv_at hl 1 rfl) ?_
    refine lv_aload_n hx hb dX5_fromAt_5 rfl (lv_at hl 0 rfl) ?_
    refine va_get (D := G.1) (ci := 3) (v := .ref aT_found) (C := RX5) (T := TX5) (N := 9) hx hb hts i5 hown hK hP 0 rfl rfl 2 (by decide) (hw _ u254) (fun _ h9 => h9) rfl dX5_fromAt_6 ?_
    refine va_alen hx hb hK hP 1 1 (v := (Int32.ofNat nT_found)) rfl rfl rfl dX5_fromAt_9 ?_
    refine lv_icmp_lt (tgt := 17) hx hb dX5_fromAt_10 (by decide) (fun c2 => ?_) (fun c2 => ?_)
    · replace hev := x_t c2 hev
      refine lv_aload_n hx hb dX5_fromAt_17 rfl (lv_at hl 0 rfl) ?_
      refine va_get (D := G.1) (ci := 3) (v := .ref aT_found) (C := RX5) (T := TX5) (N := 9) hx hb hts i5 hown hK hP 0 rfl rfl 2 (by decide) (hw _ u254) (fun _ h9 => h9) rfl dX5_fromAt_18 ?_
      refine lv_iload_n hx hb dX5_fromAt_21 rfl (lv_at hl 1 rfl) ?_
      obtain ⟨h3, hev⟩ := x_ld hev
      refine va_lald hx hb hK hP 1 1 rfl rfl h3 dX5_fromAt_22 ?_
      refine lv_topl (fun v4 ev4 => ?_)
      replace hev := hev v4 ev4
      refine lv_bipush (v := (24 : Int32)) hx hb dX5_fromAt_23 (by decide) ?_
      refine lv_lshr hx hb dX5_fromAt_25 rfl ?_
      refine lv_l2i hx hb dX5_fromAt_26 rfl ?_
      refine lv_ldc (v := (65535 : Int32)) hx hb hown (hw _ u847) dX5_fromAt_27 ?_
      refine lv_iand hx hb dX5_fromAt_29 ?_
      exact ret _ _ _ dX5_fromAt_30 ((show narrow _ (.int (((v4 >>> (((24 : Int32)).toInt64 &&& 63))).toInt32 &&& (65535 : Int32))) = .int (((v4 >>> (((24 : Int32)).toInt64 &&& 63))).toInt32 &&& (65535 : Int32)) from rfl).trans (congrArg Value.int (Option.some.inj hev)))
    · replace hev := x_f c2 hev
      exact J13  ls hev (lv_sub hl [] rfl)
def f_Se_deedAt_J13 (nT_found : Nat) (fT_found : Nat → Int64) : Option (Int32) := some (0 : Int32)
def f_Se_deedAt (nT_found : Nat) (fT_found : Nat → Int64) (p1 : Int32) : Option (Int32) := if p1 < 0 then (f_Se_deedAt_J13 nT_found fT_found) else if p1 < (Int32.ofNat nT_found) then (x_I nT_found fT_found p1 (fun v4 => some (((v4 >>> (((16 : Int32)).toInt64 &&& 63))).toInt32 &&& (255 : Int32)))) else f_Se_deedAt_J13 nT_found fT_found
set_option maxHeartbeats 8000000 in
set_option maxRecDepth 100000 in
theorem c_Se_deedAt (l : Launch) (G : GG) (aT aT_rules aT_seen aT_found : Nat) (vT_size : Int32) (vT_opened : Int32) (vT_start : Int32) (vT_doers : Int32) (vT_unlifted : Int32) (vT_deedsAllowed : Int32) (fT_found : Nat → Int64) (nT_found : Nat) (p1 : Int32) (r0 : Int32) (hev : f_Se_deedAt nT_found fT_found p1 = some r0) : RO l G yX5_deedAt cX5_deedAt 2 (some .int) 0 [.ref aT, .int p1] [(aT, .inr (3, [.ref aT_rules, .ref aT_seen, .ref aT_found, .int vT_size, .int vT_opened, .int vT_start, .int vT_doers, .int vT_unlifted, .int vT_deedsAllowed])), (aT_found, .inl (G.2.2.1, nT_found, .inr (.inl fT_found)))] (some (.int r0)) := by
  refine RO_of (by decide) (Nat.le_of_ble_eq_true rfl) ?_
  intro p e s m ar below meth c R Q H ls X hR hP hKK hS0 hl ret
  generalize hrs : r0 = rs at hev ret
  have hl : lv_has ls 2 [(0, .ref aT), (1, .int p1)] := hl
  obtain ⟨hx, hb, hml, hown, hts, hT⟩ := id X
  have hK := hKK.1
  have hw : ∀ w ∈ T0, w.before ar s = true := fun w h => hts w (hT w h)
  have i5 := fun w h => hT w (inT5 w h)
  have J13 : ∀ (ls : Array Slot), f_Se_deedAt_J13 nT_found fT_found = some rs → lv_has ls 2 [] → W p l e R s m ar below meth c H [] 0 0 Q (F0 m 13 ls []) := by
    intro  ls hev hl
    unfold f_Se_deedAt_J13 at hev
    refine lv_iconst (v := (0 : Int32)) hx hb dX5_deedAt_13 (by decide) ?_
    refine lv_goto (tgt := 31) hx hb dX5_deedAt_14 (by decide) ?_
    exact ret _ _ _ dX5_deedAt_31 ((show narrow _ (.int (0 : Int32)) = .int (0 : Int32) from rfl).trans (congrArg Value.int (Option.some.inj hev)))
  unfold f_Se_deedAt at hev
  refine lv_iload_n hx hb dX5_deedAt_0 rfl (lv_at hl 1 rfl) ?_
  refine lv_if_lt (tgt := 13) hx hb dX5_deedAt_1 (by decide) (fun c1 => ?_) (fun c1 => ?_)
  · replace hev := x_t c1 hev
    exact J13  ls hev (lv_sub hl [] rfl)
  · replace hev := x_f c1 hev
    refine lv_iload_n hx hb dX5_deedAt_4 rfl (lv_at hl 1 rfl) ?_
    refine lv_aload_n hx hb dX5_deedAt_5 rfl (lv_at hl 0 rfl) ?_
    refine va_get (D := G.1) (ci := 3) (v := .ref aT_found) (C := RX5) (T := TX5) (N := 9) hx hb hts i5 hown hK hP 0 rfl rfl 2 (by decide) (hw _ u254) (fun _ h9 => h9) rfl dX5_deedAt_6 ?_
    refine va_alen hx hb hK hP 1 1 (v := (Int32.ofNat nT_found)) rfl rfl rfl dX5_deedAt_9 ?_
    refine lv_icmp_lt (tgt := 17) hx hb dX5_deedAt_10 (by decide) (fun c2 => ?_) (fun c2 => ?_)
    · replace hev := x_t c2 hev
      refine lv_aload_n hx hb dX5_deedAt_17 rfl (lv_at hl 0 rfl) ?_
      refine va_get (D := G.1) (ci := 3) (v := .ref aT_found) (C := RX5) (T := TX5) (N := 9) hx hb hts i5 hown hK hP 0 rfl rfl 2 (by decide) (hw _ u254) (fun _ h9 => h9) rfl dX5_deedAt_18 ?_
      refine lv_iload_n hx hb dX5_deedAt_21 rfl (lv_at hl 1 rfl) ?_
      obtain ⟨h3, hev⟩ := x_ld hev
      refine va_lald hx hb hK hP 1 1 rfl rfl h3 dX5_deedAt_22 ?_
      refine lv_topl (fun v4 ev4 => ?_)
      replace hev := hev v4 ev4
      refine lv_bipush (v := (16 : Int32)) hx hb dX5_deedAt_23 (by decide) ?_
      refine lv_lshr hx hb dX5_deedAt_25 rfl ?_
      refine lv_l2i hx hb dX5_deedAt_26 rfl ?_
      refine lv_sipush (v := (255 : Int32)) hx hb dX5_deedAt_27 (by decide) ?_
      refine lv_iand hx hb dX5_deedAt_30 ?_
      exact ret _ _ _ dX5_deedAt_31 ((show narrow _ (.int (((v4 >>> (((16 : Int32)).toInt64 &&& 63))).toInt32 &&& (255 : Int32))) = .int (((v4 >>> (((16 : Int32)).toInt64 &&& 63))).toInt32 &&& (255 : Int32)) from rfl).trans (congrArg Value.int (Option.some.inj hev)))
    · replace hev := x_f c2 hev
      exact J13  ls hev (lv_sub hl [] rfl)
def f_Se_deedTo_L31 (nT_found : Nat) (vT_deedsAllowed : Int32) (vT_opened : Int32) (vT_rules_deedCount : Int32) (vT_rules_spells : Int32) (vT_size : Int32) (vT_unlifted : Int32) (fT_found : Nat → Int64) (fT_rules_askings : Nat → Int32) (fT_rules_bars : Nat → Int32) (fT_rules_bits : Nat → Int32) (fT_rules_kisses : Nat → Int32) (fT_rules_kissesNeeded : Nat → Int32) (fT_rules_masks : Nat → Int32) (fT_rules_sorts : Nat → Int32) (fT_rules_values : Nat → Int32) (fT_rules_wakings : Nat → Int32) (fT_seen : Nat → Int64) (x2 : Int32) : Nat → Int32 → Int32 → Option (Int32)
  | 0, _, _ => none
  | k + 1, x3, x4 => if x4 ≤ x2 then (some x3) else x_B (f_Se_fromAt nT_found fT_found x3) (fun y12 => x_L (x4 + (-1 : Int32)) (fun y13 => (f_Se_deedTo_L31 nT_found vT_deedsAllowed vT_opened vT_rules_deedCount vT_rules_spells vT_size vT_unlifted fT_found fT_rules_askings fT_rules_bars fT_rules_bits fT_rules_kisses fT_rules_kissesNeeded fT_rules_masks fT_rules_sorts fT_rules_values fT_rules_wakings fT_seen x2 k) y12 y13))
def f_Se_deedTo (k : Nat) (nT_found : Nat) (vT_deedsAllowed : Int32) (vT_opened : Int32) (vT_rules_deedCount : Int32) (vT_rules_spells : Int32) (vT_size : Int32) (vT_unlifted : Int32) (fT_found : Nat → Int64) (fT_rules_askings : Nat → Int32) (fT_rules_bars : Nat → Int32) (fT_rules_bits : Nat → Int32) (fT_rules_kisses : Nat → Int32) (fT_rules_kissesNeeded : Nat → Int32) (fT_rules_masks : Nat → Int32) (fT_rules_sorts : Nat → Int32) (fT_rules_values : Nat → Int32) (fT_rules_wakings : Nat → Int32) (fT_seen : Nat → Int64) (p1 : Int32) (p2 : Int32) : Option (Int32 × Int32 × Int32 × (Nat → Int64) × (Nat → Int64)) := x_B (f_Se_firstWithout k nT_found vT_deedsAllowed vT_opened vT_rules_deedCount vT_rules_spells vT_size vT_unlifted fT_found fT_rules_askings fT_rules_bars fT_rules_bits fT_rules_kisses fT_rules_kissesNeeded fT_rules_masks fT_rules_sorts fT_rules_values fT_rules_wakings fT_seen p1) (fun ⟨y1, w2, w3, w4, w5⟩ => if y1 = (-1 : Int32) then (some ((-1 : Int32), w2, w3, w4, w5)) else x_B (f_Se_distanceAt nT_found w4 y1) (fun y7 => if p2 < y7 then (x_B (f_Se_distanceAt nT_found w4 y1) (fun y9 => x_L ((y9 - (1 : Int32))) (fun y10 => x_B (f_Se_deedTo_L31 nT_found vT_deedsAllowed w2 vT_rules_deedCount vT_rules_spells w3 vT_unlifted w4 fT_rules_askings fT_rules_bars fT_rules_bits fT_rules_kisses fT_rules_kissesNeeded fT_rules_masks fT_rules_sorts fT_rules_values fT_rules_wakings w5 p2 k y1 y10) (fun y14 => x_B (f_Se_deedAt nT_found w4 y14) (fun y15 => some (y15, w2, w3, w4, w5)))))) else some ((-1 : Int32), w2, w3, w4, w5)))
set_option maxHeartbeats 8000000 in
set_option maxRecDepth 100000 in
theorem c_Se_deedTo (l : Launch) (G : GG) (aT aT_rules aT_seen aT_found aT_rules_masks aT_rules_values aT_rules_askings aT_rules_kissesNeeded aT_rules_wakings aT_rules_binders aT_rules_curses aT_rules_doers aT_rules_sorts aT_rules_whichs aT_rules_bars aT_rules_bits aT_rules_kisses : Nat) (vT_size : Int32) (vT_opened : Int32) (vT_start : Int32) (vT_doers : Int32) (vT_unlifted : Int32) (vT_deedsAllowed : Int32) (vT_rules_people : Int32) (vT_rules_spells : Int32) (vT_rules_deedCount : Int32) (fT_found : Nat → Int64) (nT_found : Nat) (fT_seen : Nat → Int64) (fT_rules_bars : Nat → Int32) (fT_rules_sorts : Nat → Int32) (fT_rules_kisses : Nat → Int32) (fT_rules_masks : Nat → Int32) (fT_rules_values : Nat → Int32) (fT_rules_askings : Nat → Int32) (fT_rules_kissesNeeded : Nat → Int32) (fT_rules_wakings : Nat → Int32) (fT_rules_bits : Nat → Int32) (k : Nat) (p1 : Int32) (p2 : Int32) (r0 : Int32) (wvT_opened : Int32) (wvT_size : Int32) (wfT_found : Nat → Int64) (wfT_seen : Nat → Int64) (hev : f_Se_deedTo k nT_found vT_deedsAllowed vT_opened vT_rules_deedCount vT_rules_spells vT_size vT_unlifted fT_found fT_rules_askings fT_rules_bars fT_rules_bits fT_rules_kisses fT_rules_kissesNeeded fT_rules_masks fT_rules_sorts fT_rules_values fT_rules_wakings fT_seen p1 p2 = some (r0, wvT_opened, wvT_size, wfT_found, wfT_seen)) : RW l G yX5_deedTo cX5_deedTo 5 (some .int) 4 [.ref aT, .int p1, .int p2] [(aT, .inr (3, [.ref aT_rules, .ref aT_seen, .ref aT_found, .int vT_size, .int vT_opened, .int vT_start, .int vT_doers, .int vT_unlifted, .int vT_deedsAllowed])), (aT_rules, .inr (2, [.int vT_rules_people, .int vT_rules_spells, .int vT_rules_deedCount, .ref aT_rules_masks, .ref aT_rules_values, .ref aT_rules_askings, .ref aT_rules_kissesNeeded, .ref aT_rules_wakings, .ref aT_rules_binders, .ref aT_rules_curses, .ref aT_rules_doers, .ref aT_rules_sorts, .ref aT_rules_whichs, .ref aT_rules_bars, .ref aT_rules_bits, .ref aT_rules_kisses])), (aT_found, .inl (G.2.2.1, nT_found, .inr (.inl fT_found))), (aT_seen, .inl (G.2.2.1, 896, .inr (.inl fT_seen))), (aT_rules_bars, .inl (G.2.1, 19, .inl fT_rules_bars)), (aT_rules_sorts, .inl (G.2.1, 19, .inl fT_rules_sorts)), (aT_rules_kisses, .inl (G.2.1, 19, .inl fT_rules_kisses)), (aT_rules_masks, .inl (G.2.1, 5, .inl fT_rules_masks)), (aT_rules_values, .inl (G.2.1, 5, .inl fT_rules_values)), (aT_rules_askings, .inl (G.2.1, 5, .inl fT_rules_askings)), (aT_rules_kissesNeeded, .inl (G.2.1, 5, .inl fT_rules_kissesNeeded)), (aT_rules_wakings, .inl (G.2.1, 5, .inl fT_rules_wakings)), (aT_rules_bits, .inl (G.2.1, 19, .inl fT_rules_bits))] (some (.int r0)) [(aT, .inr (3, [.ref aT_rules, .ref aT_seen, .ref aT_found, .int wvT_size, .int wvT_opened, .int vT_start, .int vT_doers, .int vT_unlifted, .int vT_deedsAllowed])), (aT_rules, .inr (2, [.int vT_rules_people, .int vT_rules_spells, .int vT_rules_deedCount, .ref aT_rules_masks, .ref aT_rules_values, .ref aT_rules_askings, .ref aT_rules_kissesNeeded, .ref aT_rules_wakings, .ref aT_rules_binders, .ref aT_rules_curses, .ref aT_rules_doers, .ref aT_rules_sorts, .ref aT_rules_whichs, .ref aT_rules_bars, .ref aT_rules_bits, .ref aT_rules_kisses])), (aT_found, .inl (G.2.2.1, nT_found, .inr (.inl wfT_found))), (aT_seen, .inl (G.2.2.1, 896, .inr (.inl wfT_seen))), (aT_rules_bars, .inl (G.2.1, 19, .inl fT_rules_bars)), (aT_rules_sorts, .inl (G.2.1, 19, .inl fT_rules_sorts)), (aT_rules_kisses, .inl (G.2.1, 19, .inl fT_rules_kisses)), (aT_rules_masks, .inl (G.2.1, 5, .inl fT_rules_masks)), (aT_rules_values, .inl (G.2.1, 5, .inl fT_rules_values)), (aT_rules_askings, .inl (G.2.1, 5, .inl fT_rules_askings)), (aT_rules_kissesNeeded, .inl (G.2.1, 5, .inl fT_rules_kissesNeeded)), (aT_rules_wakings, .inl (G.2.1, 5, .inl fT_rules_wakings)), (aT_rules_bits, .inl (G.2.1, 19, .inl fT_rules_bits))] 0 0 := by
  refine RW_of (by decide) (Nat.le_of_ble_eq_true rfl) ?_
  intro p e s m ar below meth c R Q A ls X hR hRc hin hP hKK hD hS hA hAb hl ret
  obtain ⟨rs, hrs⟩ : ∃ q, q = (r0, wvT_opened, wvT_size, wfT_found, wfT_seen) := ⟨_, rfl⟩
  rw [← hrs] at hev
  have ret2 : ∀ (pc : Nat) (ls : Array Slot) (H : Heap) (lo : List Loc) (v r1 : Int32) (zvT_opened : Int32) (zvT_size : Int32) (zfT_found : Nat → Int64) (zfT_seen : Nat → Int64), (r1, zvT_opened, zvT_size, zfT_found, zfT_seen) = rs → decode cX5_deedTo pc = .ok (.ireturn, 1) → narrow .int (.int v) = .int r1 → va_P G.1 classes [(aT, .inr (3, [.ref aT_rules, .ref aT_seen, .ref aT_found, .int zvT_size, .int zvT_opened, .int vT_start, .int vT_doers, .int vT_unlifted, .int vT_deedsAllowed])), (aT_rules, .inr (2, [.int vT_rules_people, .int vT_rules_spells, .int vT_rules_deedCount, .ref aT_rules_masks, .ref aT_rules_values, .ref aT_rules_askings, .ref aT_rules_kissesNeeded, .ref aT_rules_wakings, .ref aT_rules_binders, .ref aT_rules_curses, .ref aT_rules_doers, .ref aT_rules_sorts, .ref aT_rules_whichs, .ref aT_rules_bars, .ref aT_rules_bits, .ref aT_rules_kisses])), (aT_found, .inl (G.2.2.1, nT_found, .inr (.inl zfT_found))), (aT_seen, .inl (G.2.2.1, 896, .inr (.inl zfT_seen))), (aT_rules_bars, .inl (G.2.1, 19, .inl fT_rules_bars)), (aT_rules_sorts, .inl (G.2.1, 19, .inl fT_rules_sorts)), (aT_rules_kisses, .inl (G.2.1, 19, .inl fT_rules_kisses)), (aT_rules_masks, .inl (G.2.1, 5, .inl fT_rules_masks)), (aT_rules_values, .inl (G.2.1, 5, .inl fT_rules_values)), (aT_rules_askings, .inl (G.2.1, 5, .inl fT_rules_askings)), (aT_rules_kissesNeeded, .inl (G.2.1, 5, .inl fT_rules_kissesNeeded)), (aT_rules_wakings, .inl (G.2.1, 5, .inl fT_rules_wakings)), (aT_rules_bits, .inl (G.2.1, 19, .inl fT_rules_bits))] H → va_D A [(aT, .inr (3, [.ref aT_rules, .ref aT_seen, .ref aT_found, .int zvT_size, .int zvT_opened, .int vT_start, .int vT_doers, .int vT_unlifted, .int vT_deedsAllowed])), (aT_rules, .inr (2, [.int vT_rules_people, .int vT_rules_spells, .int vT_rules_deedCount, .ref aT_rules_masks, .ref aT_rules_values, .ref aT_rules_askings, .ref aT_rules_kissesNeeded, .ref aT_rules_wakings, .ref aT_rules_binders, .ref aT_rules_curses, .ref aT_rules_doers, .ref aT_rules_sorts, .ref aT_rules_whichs, .ref aT_rules_bars, .ref aT_rules_bits, .ref aT_rules_kisses])), (aT_found, .inl (G.2.2.1, nT_found, .inr (.inl zfT_found))), (aT_seen, .inl (G.2.2.1, 896, .inr (.inl zfT_seen))), (aT_rules_bars, .inl (G.2.1, 19, .inl fT_rules_bars)), (aT_rules_sorts, .inl (G.2.1, 19, .inl fT_rules_sorts)), (aT_rules_kisses, .inl (G.2.1, 19, .inl fT_rules_kisses)), (aT_rules_masks, .inl (G.2.1, 5, .inl fT_rules_masks)), (aT_rules_values, .inl (G.2.1, 5, .inl fT_rules_values)), (aT_rules_askings, .inl (G.2.1, 5, .inl fT_rules_askings)), (aT_rules_kissesNeeded, .inl (G.2.1, 5, .inl fT_rules_kissesNeeded)), (aT_rules_wakings, .inl (G.2.1, 5, .inl fT_rules_wakings)), (aT_rules_bits, .inl (G.2.1, 19, .inl fT_rules_bits))] → va_S A s.heap H lo → W p l e R s m ar below meth c H lo 0 0 Q (F0 m pc ls [.int v]) := by
    intro pc ls H lo v r1 zvT_opened zvT_size zfT_found zfT_seen he hd hn h1 h2 h3
    have he := he.trans hrs
    cases he
    exact ret.1 _ _ _ _ _ _ _ rfl rfl hd hn h1 h2 h3
  clear ret hrs
  have hl : lv_has ls 5 [(0, .ref aT), (1, .int p1), (2, .int p2)] := hl
  obtain ⟨hx, hb, hml, hown, hts, hT⟩ := id X
  have hK := hKK.1
  have hw : ∀ w ∈ T0, w.before ar s = true := fun w h => hts w (hT w h)
  unfold f_Se_deedTo at hev
  refine lv_aload_n hx hb dX5_deedTo_0 rfl (lv_at hl 0 rfl) ?_
  refine lv_iload_n hx hb dX5_deedTo_1 rfl (lv_at hl 1 rfl) ?_
  obtain ⟨⟨y1, w2, w3, w4, w5⟩, hq, hev⟩ := x_bd hev
  refine rgV X (KK_at hKK hS hAb) hR (st1 := [.int y1]) (ws2 := [(aT, .inr (3, [.ref aT_rules, .ref aT_seen, .ref aT_found, .int w3, .int w2, .int vT_start, .int vT_doers, .int vT_unlifted, .int vT_deedsAllowed])), (aT_rules, .inr (2, [.int vT_rules_people, .int vT_rules_spells, .int vT_rules_deedCount, .ref aT_rules_masks, .ref aT_rules_values, .ref aT_rules_askings, .ref aT_rules_kissesNeeded, .ref aT_rules_wakings, .ref aT_rules_binders, .ref aT_rules_curses, .ref aT_rules_doers, .ref aT_rules_sorts, .ref aT_rules_whichs, .ref aT_rules_bars, .ref aT_rules_bits, .ref aT_rules_kisses])), (aT_found, .inl (G.2.2.1, nT_found, .inr (.inl w4))), (aT_seen, .inl (G.2.2.1, 896, .inr (.inl w5))), (aT_rules_bars, .inl (G.2.1, 19, .inl fT_rules_bars)), (aT_rules_sorts, .inl (G.2.1, 19, .inl fT_rules_sorts)), (aT_rules_kisses, .inl (G.2.1, 19, .inl fT_rules_kisses)), (aT_rules_masks, .inl (G.2.1, 5, .inl fT_rules_masks)), (aT_rules_values, .inl (G.2.1, 5, .inl fT_rules_values)), (aT_rules_askings, .inl (G.2.1, 5, .inl fT_rules_askings)), (aT_rules_kissesNeeded, .inl (G.2.1, 5, .inl fT_rules_kissesNeeded)), (aT_rules_wakings, .inl (G.2.1, 5, .inl fT_rules_wakings)), (aT_rules_bits, .inl (G.2.1, 19, .inl fT_rules_bits))]) (c_Se_firstWithout l G aT aT_rules aT_seen aT_found aT_rules_masks aT_rules_values aT_rules_askings aT_rules_kissesNeeded aT_rules_wakings aT_rules_binders aT_rules_curses aT_rules_doers aT_rules_sorts aT_rules_whichs aT_rules_bars aT_rules_bits aT_rules_kisses vT_size vT_opened vT_start vT_doers vT_unlifted vT_deedsAllowed vT_rules_people vT_rules_spells vT_rules_deedCount fT_found nT_found fT_seen fT_rules_bars fT_rules_sorts fT_rules_kisses fT_rules_masks fT_rules_values fT_rules_askings fT_rules_kissesNeeded fT_rules_wakings fT_rules_bits k p1 y1 w2 w3 w4 w5 hq) K_X5_firstWithout u825 hP hD hS hA hAb [0, 1, 2, 3, 4, 5, 6, 7, 8, 9, 10, 11, 12] rfl (sbC rfl (sbC rfl (sbC rfl (sbC rfl (sbC rfl (sbC rfl (sbC rfl (sbC rfl (sbC rfl (sbC rfl (sbC rfl (sbC rfl (sbC rfl sb0))))))))))))) (mgN 0 rfl rfl (mgN 1 rfl rfl (mgN 2 rfl rfl (mgN 3 rfl rfl (mgN 4 rfl rfl (mgN 5 rfl rfl (mgN 6 rfl rfl (mgN 7 rfl rfl (mgN 8 rfl rfl (mgN 9 rfl rfl (mgN 10 rfl rfl (mgN 11 rfl rfl (mgN 12 rfl rfl (mg0)))))))))))))) rfl (q0 := 0) rfl (by decide) ⟨Nat.zero_le _, Nat.zero_le _⟩ rfl hl.1 rfl (Nat.le_of_ble_eq_true rfl) rfl dX5_deedTo_2 (fun H lo hP hD hS => ?_)
  refine lv_istore_n (lv' := [(3, .int y1), (0, .ref aT), (1, .int p1), (2, .int p2)]) hx hb dX5_deedTo_5 rfl hl (by decide) rfl (fun ls hl => ?_)
  refine lv_iload_n hx hb dX5_deedTo_6 rfl (lv_at hl 0 rfl) ?_
  refine lv_iconst (v := (-1 : Int32)) hx hb dX5_deedTo_7 (by decide) ?_
  refine lv_icmp_eq (tgt := 20) hx hb dX5_deedTo_8 (by decide) (fun c6 => ?_) (fun c6 => ?_)
  · replace hev := x_t c6 hev
    refine lv_iconst (v := (-1 : Int32)) hx hb dX5_deedTo_20 (by decide) ?_
    exact ret2 _ _ _ _ (-1 : Int32) (-1 : Int32) w2 w3 w4 w5 (Option.some.inj hev) dX5_deedTo_21 (show narrow _ (.int (-1 : Int32)) = .int (-1 : Int32) from rfl) hP hD hS
  · replace hev := x_f c6 hev
    refine lv_iload_n hx hb dX5_deedTo_11 rfl (lv_at hl 3 rfl) ?_
    refine lv_aload_n hx hb dX5_deedTo_12 rfl (lv_at hl 1 rfl) ?_
    refine lv_iload_n hx hb dX5_deedTo_13 rfl (lv_at hl 0 rfl) ?_
    obtain ⟨y7, hq, hev⟩ := x_bd hev
    refine roV X (KK_at hKK hS hAb) hR (st1 := [.int y7, .int p2]) (c_Se_distanceAt l G aT aT_rules aT_seen aT_found w3 w2 vT_start vT_doers vT_unlifted vT_deedsAllowed w4 nT_found y1 y7 hq) K_X5_distanceAt u843 (x_Psub hP [0, 2] rfl) rfl (q0 := 0) rfl (by decide) ⟨Nat.zero_le _, Nat.zero_le _⟩ rfl hl.1 rfl (Nat.le_of_ble_eq_true rfl) rfl dX5_deedTo_14 ?_
    refine lv_icmp_lt (tgt := 22) hx hb dX5_deedTo_17 (by decide) (fun c8 => ?_) (fun c8 => ?_)
    · replace hev := x_t c8 hev
      refine lv_aload_n hx hb dX5_deedTo_22 rfl (lv_at hl 1 rfl) ?_
      refine lv_iload_n hx hb dX5_deedTo_23 rfl (lv_at hl 0 rfl) ?_
      obtain ⟨y9, hq, hev⟩ := x_bd hev
      refine roV X (KK_at hKK hS hAb) hR (st1 := [.int y9]) (c_Se_distanceAt l G aT aT_rules aT_seen aT_found w3 w2 vT_start vT_doers vT_unlifted vT_deedsAllowed w4 nT_found y1 y9 hq) K_X5_distanceAt u843 (x_Psub hP [0, 2] rfl) rfl (q0 := 0) rfl (by decide) ⟨Nat.zero_le _, Nat.zero_le _⟩ rfl hl.1 rfl (Nat.le_of_ble_eq_true rfl) rfl dX5_deedTo_24 ?_
      refine lv_iconst (v := (1 : Int32)) hx hb dX5_deedTo_27 (by decide) ?_
      refine lv_isub hx hb dX5_deedTo_28 ?_
      refine lv_topi (fun y10 ey10 => ?_)
      replace hev := x_lt hev y10 ey10
      refine lv_istore (lv' := [(4, .int y10), (3, .int y1), (0, .ref aT), (1, .int p1), (2, .int p2)]) hx hb dX5_deedTo_29 hl (by decide) rfl (fun ls hl => ?_)
      have L31 : ∀ (vT_opened : Int32) (vT_size : Int32) (fT_found : Nat → Int64) (fT_seen : Nat → Int64) (x2 : Int32), ∀ (k : Nat) (x3 : Int32) (x4 : Int32) (o3 : Int32), f_Se_deedTo_L31 nT_found vT_deedsAllowed vT_opened vT_rules_deedCount vT_rules_spells vT_size vT_unlifted fT_found fT_rules_askings fT_rules_bars fT_rules_bits fT_rules_kisses fT_rules_kissesNeeded fT_rules_masks fT_rules_sorts fT_rules_values fT_rules_wakings fT_seen x2 k x3 x4 = some o3 → (∀ (H : Heap) (lo : List Loc), va_P G.1 classes [(aT, .inr (3, [.ref aT_rules, .ref aT_seen, .ref aT_found, .int vT_size, .int vT_opened, .int vT_start, .int vT_doers, .int vT_unlifted, .int vT_deedsAllowed])), (aT_rules, .inr (2, [.int vT_rules_people, .int vT_rules_spells, .int vT_rules_deedCount, .ref aT_rules_masks, .ref aT_rules_values, .ref aT_rules_askings, .ref aT_rules_kissesNeeded, .ref aT_rules_wakings, .ref aT_rules_binders, .ref aT_rules_curses, .ref aT_rules_doers, .ref aT_rules_sorts, .ref aT_rules_whichs, .ref aT_rules_bars, .ref aT_rules_bits, .ref aT_rules_kisses])), (aT_found, .inl (G.2.2.1, nT_found, .inr (.inl fT_found))), (aT_seen, .inl (G.2.2.1, 896, .inr (.inl fT_seen))), (aT_rules_bars, .inl (G.2.1, 19, .inl fT_rules_bars)), (aT_rules_sorts, .inl (G.2.1, 19, .inl fT_rules_sorts)), (aT_rules_kisses, .inl (G.2.1, 19, .inl fT_rules_kisses)), (aT_rules_masks, .inl (G.2.1, 5, .inl fT_rules_masks)), (aT_rules_values, .inl (G.2.1, 5, .inl fT_rules_values)), (aT_rules_askings, .inl (G.2.1, 5, .inl fT_rules_askings)), (aT_rules_kissesNeeded, .inl (G.2.1, 5, .inl fT_rules_kissesNeeded)), (aT_rules_wakings, .inl (G.2.1, 5, .inl fT_rules_wakings)), (aT_rules_bits, .inl (G.2.1, 19, .inl fT_rules_bits))] H → va_D A [(aT, .inr (3, [.ref aT_rules, .ref aT_seen, .ref aT_found, .int vT_size, .int vT_opened, .int vT_start, .int vT_doers, .int vT_unlifted, .int vT_deedsAllowed])), (aT_rules, .inr (2, [.int vT_rules_people, .int vT_rules_spells, .int vT_rules_deedCount, .ref aT_rules_masks, .ref aT_rules_values, .ref aT_rules_askings, .ref aT_rules_kissesNeeded, .ref aT_rules_wakings, .ref aT_rules_binders, .ref aT_rules_curses, .ref aT_rules_doers, .ref aT_rules_sorts, .ref aT_rules_whichs, .ref aT_rules_bars, .ref aT_rules_bits, .ref aT_rules_kisses])), (aT_found, .inl (G.2.2.1, nT_found, .inr (.inl fT_found))), (aT_seen, .inl (G.2.2.1, 896, .inr (.inl fT_seen))), (aT_rules_bars, .inl (G.2.1, 19, .inl fT_rules_bars)), (aT_rules_sorts, .inl (G.2.1, 19, .inl fT_rules_sorts)), (aT_rules_kisses, .inl (G.2.1, 19, .inl fT_rules_kisses)), (aT_rules_masks, .inl (G.2.1, 5, .inl fT_rules_masks)), (aT_rules_values, .inl (G.2.1, 5, .inl fT_rules_values)), (aT_rules_askings, .inl (G.2.1, 5, .inl fT_rules_askings)), (aT_rules_kissesNeeded, .inl (G.2.1, 5, .inl fT_rules_kissesNeeded)), (aT_rules_wakings, .inl (G.2.1, 5, .inl fT_rules_wakings)), (aT_rules_bits, .inl (G.2.1, 19, .inl fT_rules_bits))] → va_S A s.heap H lo → ∀ (ls : Array Slot), lv_has ls 5 [(0, .ref aT), (3, .int o3)] → W p l e R s m ar below meth c H lo 0 0 Q (F0 m 49 ls [])) → ∀ (H : Heap) (lo : List Loc), va_P G.1 classes [(aT, .inr (3, [.ref aT_rules, .ref aT_seen, .ref aT_found, .int vT_size, .int vT_opened, .int vT_start, .int vT_doers, .int vT_unlifted, .int vT_deedsAllowed])), (aT_rules, .inr (2, [.int vT_rules_people, .int vT_rules_spells, .int vT_rules_deedCount, .ref aT_rules_masks, .ref aT_rules_values, .ref aT_rules_askings, .ref aT_rules_kissesNeeded, .ref aT_rules_wakings, .ref aT_rules_binders, .ref aT_rules_curses, .ref aT_rules_doers, .ref aT_rules_sorts, .ref aT_rules_whichs, .ref aT_rules_bars, .ref aT_rules_bits, .ref aT_rules_kisses])), (aT_found, .inl (G.2.2.1, nT_found, .inr (.inl fT_found))), (aT_seen, .inl (G.2.2.1, 896, .inr (.inl fT_seen))), (aT_rules_bars, .inl (G.2.1, 19, .inl fT_rules_bars)), (aT_rules_sorts, .inl (G.2.1, 19, .inl fT_rules_sorts)), (aT_rules_kisses, .inl (G.2.1, 19, .inl fT_rules_kisses)), (aT_rules_masks, .inl (G.2.1, 5, .inl fT_rules_masks)), (aT_rules_values, .inl (G.2.1, 5, .inl fT_rules_values)), (aT_rules_askings, .inl (G.2.1, 5, .inl fT_rules_askings)), (aT_rules_kissesNeeded, .inl (G.2.1, 5, .inl fT_rules_kissesNeeded)), (aT_rules_wakings, .inl (G.2.1, 5, .inl fT_rules_wakings)), (aT_rules_bits, .inl (G.2.1, 19, .inl fT_rules_bits))] H → va_D A [(aT, .inr (3, [.ref aT_rules, .ref aT_seen, .ref aT_found, .int vT_size, .int vT_opened, .int vT_start, .int vT_doers, .int vT_unlifted, .int vT_deedsAllowed])), (aT_rules, .inr (2, [.int vT_rules_people, .int vT_rules_spells, .int vT_rules_deedCount, .ref aT_rules_masks, .ref aT_rules_values, .ref aT_rules_askings, .ref aT_rules_kissesNeeded, .ref aT_rules_wakings, .ref aT_rules_binders, .ref aT_rules_curses, .ref aT_rules_doers, .ref aT_rules_sorts, .ref aT_rules_whichs, .ref aT_rules_bars, .ref aT_rules_bits, .ref aT_rules_kisses])), (aT_found, .inl (G.2.2.1, nT_found, .inr (.inl fT_found))), (aT_seen, .inl (G.2.2.1, 896, .inr (.inl fT_seen))), (aT_rules_bars, .inl (G.2.1, 19, .inl fT_rules_bars)), (aT_rules_sorts, .inl (G.2.1, 19, .inl fT_rules_sorts)), (aT_rules_kisses, .inl (G.2.1, 19, .inl fT_rules_kisses)), (aT_rules_masks, .inl (G.2.1, 5, .inl fT_rules_masks)), (aT_rules_values, .inl (G.2.1, 5, .inl fT_rules_values)), (aT_rules_askings, .inl (G.2.1, 5, .inl fT_rules_askings)), (aT_rules_kissesNeeded, .inl (G.2.1, 5, .inl fT_rules_kissesNeeded)), (aT_rules_wakings, .inl (G.2.1, 5, .inl fT_rules_wakings)), (aT_rules_bits, .inl (G.2.1, 19, .inl fT_rules_bits))] → va_S A s.heap H lo → ∀ (ls : Array Slot), lv_has ls 5 [(0, .ref aT), (2, .int x2), (3, .int x3), (4, .int x4)] → W p l e R s m ar below meth c H lo 0 0 Q (F0 m 31 ls []) := by
        intro vT_opened vT_size fT_found fT_seen x2 k
        induction k with
        | zero => intro x3 x4 o3 hev; rw [f_Se_deedTo_L31] at hev; cases hev
        | succ k ih =>
          intro x3 x4 o3 hev hex H lo hP hD hS ls hl
          rw [f_Se_deedTo_L31] at hev
          refine lv_iload hx hb dX5_deedTo_31 (lv_at hl 3 rfl) ?_
          refine lv_iload_n hx hb dX5_deedTo_33 rfl (lv_at hl 1 rfl) ?_
          refine lv_icmp_le (tgt := 49) hx hb dX5_deedTo_34 (by decide) (fun c11 => ?_) (fun c11 => ?_)
          · replace hev := x_t c11 hev
            cases hev
            exact hex _ _ hP hD hS ls (lv_sub hl [0, 2] rfl)
          · replace hev := x_f c11 hev
            refine lv_aload_n hx hb dX5_deedTo_37 rfl (lv_at hl 0 rfl) ?_
            refine lv_iload_n hx hb dX5_deedTo_38 rfl (lv_at hl 2 rfl) ?_
            obtain ⟨y12, hq, hev⟩ := x_bd hev
            refine roV X (KK_at hKK hS hAb) hR (st1 := [.int y12]) (c_Se_fromAt l G aT aT_rules aT_seen aT_found vT_size vT_opened vT_start vT_doers vT_unlifted vT_deedsAllowed fT_found nT_found x3 y12 hq) K_X5_fromAt u858 (x_Psub hP [0, 2] rfl) rfl (q0 := 0) rfl (by decide) ⟨Nat.zero_le _, Nat.zero_le _⟩ rfl hl.1 rfl (Nat.le_of_ble_eq_true rfl) rfl dX5_deedTo_39 ?_
            refine lv_istore_n (lv' := [(3, .int y12), (0, .ref aT), (2, .int x2), (4, .int x4)]) hx hb dX5_deedTo_42 rfl hl (by decide) rfl (fun ls hl => ?_)
            obtain ⟨y13, ey13⟩ : ∃ y : Int32, y = x4 + (-1 : Int32) := ⟨_, rfl⟩
            refine lv_iinc (v := y13) (lv' := [(4, .int y13), (3, .int y12), (0, .ref aT), (2, .int x2)]) hx hb dX5_deedTo_43 hl (k := 3) rfl (by rw [ey13]; rfl) (by decide) rfl (fun ls hl => ?_)
            replace hev := x_lt hev y13 ey13
            refine lv_goto (tgt := 31) hx hb dX5_deedTo_46 (by decide) ?_
            exact ih y12 y13 _ hev hex _ _ hP hD hS ls (lv_sub hl [2, 3, 1, 0] rfl)
      obtain ⟨y14, hq, hev⟩ := x_bd hev
      refine L31 w2 w3 w4 w5 p2 k y1 y10 y14 hq (fun H lo hP hD hS ls hl => ?_) _ _ hP hD hS ls (lv_sub hl [2, 4, 1, 0] rfl)
      refine lv_aload_n hx hb dX5_deedTo_49 rfl (lv_at hl 0 rfl) ?_
      refine lv_iload_n hx hb dX5_deedTo_50 rfl (lv_at hl 1 rfl) ?_
      obtain ⟨y15, hq, hev⟩ := x_bd hev
      refine roV X (KK_at hKK hS hAb) hR (st1 := [.int y15]) (c_Se_deedAt l G aT aT_rules aT_seen aT_found w3 w2 vT_start vT_doers vT_unlifted vT_deedsAllowed w4 nT_found y14 y15 hq) K_X5_deedAt u862 (x_Psub hP [0, 2] rfl) rfl (q0 := 0) rfl (by decide) ⟨Nat.zero_le _, Nat.zero_le _⟩ rfl hl.1 rfl (Nat.le_of_ble_eq_true rfl) rfl dX5_deedTo_51 ?_
      exact ret2 _ _ _ _ y15 y15 w2 w3 w4 w5 (Option.some.inj hev) dX5_deedTo_54 (show narrow _ (.int y15) = .int y15 from rfl) hP hD hS
    · replace hev := x_f c8 hev
      refine lv_iconst (v := (-1 : Int32)) hx hb dX5_deedTo_20 (by decide) ?_
      exact ret2 _ _ _ _ (-1 : Int32) (-1 : Int32) w2 w3 w4 w5 (Option.some.inj hev) dX5_deedTo_21 (show narrow _ (.int (-1 : Int32)) = .int (-1 : Int32) from rfl) hP hD hS
