def f_Mo_back (vT_deeds : Int32) (vT_now : Int32) (vT_pastMany : Int32) (fT_isKept : Nat → Int32) (fT_keptDeeds : Nat → Int32) (fT_keptStates : Nat → Int32) (p1 : Int32) : Option (Int32 × Int32 × Int32 × Int32) := x_B (f_Mo_in ((p1).toInt64) (0 : Int64) (1 : Int64)) (fun y1 => if y1 = 0 then (some ((-2 : Int32), vT_deeds, vT_now, vT_pastMany)) else x_I 2 fT_isKept p1 (fun v4 => if v4 = 0 then (some ((-4 : Int32), vT_deeds, vT_now, vT_pastMany)) else x_I 2 fT_keptStates p1 (fun v7 => x_I 2 fT_keptDeeds p1 (fun v9 => some (v9, v9, v7, (0 : Int32))))))
set_option maxHeartbeats 8000000 in
set_option maxRecDepth 100000 in
theorem c_Mo_back (l : Launch) (G : GG) (aT aT_text aT_read aT_spells aT_pasts aT_keptStates aT_keptDeeds aT_isKept aT_fars aT_queue aT_later aT_onWay aT_row aT_princes aT_tries : Nat) (vT_length : Int32) (vT_readMany : Int32) (vT_people : Int32) (vT_toldDay : Int32) (vT_toldBroken : Int32) (vT_many : Int32) (vT_now : Int32) (vT_deeds : Int32) (vT_pastMany : Int32) (vT_at : Int32) (vT_place : Int32) (vT_end : Int32) (vT_readPeople : Int32) (vT_readSpells : Int32) (vT_lifted : Int32) (vT_queued : Int32) (vT_laterMany : Int32) (vT_rowMany : Int32) (vT_princeMany : Int32) (vT_triedMany : Int32) (fT_isKept : Nat → Int32) (fT_keptStates : Nat → Int32) (fT_keptDeeds : Nat → Int32) (p1 : Int32) (r0 : Int32) (wvT_deeds : Int32) (wvT_now : Int32) (wvT_pastMany : Int32) (hev : f_Mo_back vT_deeds vT_now vT_pastMany fT_isKept fT_keptDeeds fT_keptStates p1 = some (r0, wvT_deeds, wvT_now, wvT_pastMany)) : RW l G yX11_back cX11_back 2 (some .int) 1 [.ref aT, .int p1] [(aT, .inr (7, [.ref aT_text, .int vT_length, .ref aT_read, .int vT_readMany, .int vT_people, .int vT_toldDay, .int vT_toldBroken, .ref aT_spells, .int vT_many, .int vT_now, .int vT_deeds, .ref aT_pasts, .int vT_pastMany, .ref aT_keptStates, .ref aT_keptDeeds, .ref aT_isKept, .int vT_at, .int vT_place, .int vT_end, .int vT_readPeople, .int vT_readSpells, .int vT_lifted, .ref aT_fars, .ref aT_queue, .int vT_queued, .ref aT_later, .int vT_laterMany, .ref aT_onWay, .ref aT_row, .int vT_rowMany, .ref aT_princes, .int vT_princeMany, .ref aT_tries, .int vT_triedMany])), (aT_isKept, .inl (G.2.2.2.1, 2, .inl fT_isKept)), (aT_keptStates, .inl (G.2.1, 2, .inl fT_keptStates)), (aT_keptDeeds, .inl (G.2.1, 2, .inl fT_keptDeeds))] (some (.int r0)) [(aT, .inr (7, [.ref aT_text, .int vT_length, .ref aT_read, .int vT_readMany, .int vT_people, .int vT_toldDay, .int vT_toldBroken, .ref aT_spells, .int vT_many, .int wvT_now, .int wvT_deeds, .ref aT_pasts, .int wvT_pastMany, .ref aT_keptStates, .ref aT_keptDeeds, .ref aT_isKept, .int vT_at, .int vT_place, .int vT_end, .int vT_readPeople, .int vT_readSpells, .int vT_lifted, .ref aT_fars, .ref aT_queue, .int vT_queued, .ref aT_later, .int vT_laterMany, .ref aT_onWay, .ref aT_row, .int vT_rowMany, .ref aT_princes, .int vT_princeMany, .ref aT_tries, .int vT_triedMany])), (aT_isKept, .inl (G.2.2.2.1, 2, .inl fT_isKept)), (aT_keptStates, .inl (G.2.1, 2, .inl fT_keptStates)), (aT_keptDeeds, .inl (G.2.1, 2, .inl fT_keptDeeds))] 0 0 := by
  refine RW_of (by decide) (Nat.le_of_ble_eq_true rfl) ?_
  intro p e s m ar below meth c R Q A ls X hR hRc hin hP hKK hD hS hA hAb hl ret
  obtain ⟨rs, hrs⟩ : ∃ q, q = (r0, wvT_deeds, wvT_now, wvT_pastMany) := ⟨_, rfl⟩
  rw [← hrs] at hev
  have ret2 : ∀ (pc : Nat) (ls : Array Slot) (H : Heap) (lo : List Loc) (v r1 : Int32) (zvT_deeds : Int32) (zvT_now : Int32) (zvT_pastMany : Int32), (r1, zvT_deeds, zvT_now, zvT_pastMany) = rs → decode cX11_back pc = .ok (.ireturn, 1) → narrow .int (.int v) = .int r1 → va_P G.1 classes [(aT, .inr (7, [.ref aT_text, .int vT_length, .ref aT_read, .int vT_readMany, .int vT_people, .int vT_toldDay, .int vT_toldBroken, .ref aT_spells, .int vT_many, .int zvT_now, .int zvT_deeds, .ref aT_pasts, .int zvT_pastMany, .ref aT_keptStates, .ref aT_keptDeeds, .ref aT_isKept, .int vT_at, .int vT_place, .int vT_end, .int vT_readPeople, .int vT_readSpells, .int vT_lifted, .ref aT_fars, .ref aT_queue, .int vT_queued, .ref aT_later, .int vT_laterMany, .ref aT_onWay, .ref aT_row, .int vT_rowMany, .ref aT_princes, .int vT_princeMany, .ref aT_tries, .int vT_triedMany])), (aT_isKept, .inl (G.2.2.2.1, 2, .inl fT_isKept)), (aT_keptStates, .inl (G.2.1, 2, .inl fT_keptStates)), (aT_keptDeeds, .inl (G.2.1, 2, .inl fT_keptDeeds))] H → va_D A [(aT, .inr (7, [.ref aT_text, .int vT_length, .ref aT_read, .int vT_readMany, .int vT_people, .int vT_toldDay, .int vT_toldBroken, .ref aT_spells, .int vT_many, .int zvT_now, .int zvT_deeds, .ref aT_pasts, .int zvT_pastMany, .ref aT_keptStates, .ref aT_keptDeeds, .ref aT_isKept, .int vT_at, .int vT_place, .int vT_end, .int vT_readPeople, .int vT_readSpells, .int vT_lifted, .ref aT_fars, .ref aT_queue, .int vT_queued, .ref aT_later, .int vT_laterMany, .ref aT_onWay, .ref aT_row, .int vT_rowMany, .ref aT_princes, .int vT_princeMany, .ref aT_tries, .int vT_triedMany])), (aT_isKept, .inl (G.2.2.2.1, 2, .inl fT_isKept)), (aT_keptStates, .inl (G.2.1, 2, .inl fT_keptStates)), (aT_keptDeeds, .inl (G.2.1, 2, .inl fT_keptDeeds))] → va_S A s.heap H lo → W p l e R s m ar below meth c H lo 0 0 Q (F0 m pc ls [.int v]) := by
    intro pc ls H lo v r1 zvT_deeds zvT_now zvT_pastMany he hd hn h1 h2 h3
    have he := he.trans hrs
    cases he
    exact ret.1 _ _ _ _ _ _ _ rfl rfl hd hn h1 h2 h3
  clear ret hrs
  have hl : lv_has ls 2 [(0, .ref aT), (1, .int p1)] := hl
  obtain ⟨hx, hb, hml, hown, hts, hT⟩ := id X
  have hK := hKK.1
  have hw : ∀ w ∈ T0, w.before ar s = true := fun w h => hts w (hT w h)
  have i11 := fun w h => hT w (inT11 w h)
  unfold f_Mo_back at hev
  refine lv_iload_n hx hb dX11_back_0 rfl (lv_at hl 1 rfl) ?_
  refine lv_i2l hx hb dX11_back_1 rfl ?_
  refine lv_lconst (v := (0 : Int64)) hx hb dX11_back_2 (by decide) ?_
  refine lv_lconst (v := (1 : Int64)) hx hb dX11_back_3 (by decide) ?_
  obtain ⟨y1, hq, hev⟩ := x_bd hev
  refine roS X (KK_at hKK hS hAb) hR (st1 := [.int y1]) (c_Mo_in l G ((p1).toInt64) (0 : Int64) (1 : Int64) y1 hq) K_X11_in u1196 (x_Psub hP [] rfl) (by decide) ⟨Nat.zero_le _, Nat.zero_le _⟩ rfl hl.1 rfl (Nat.le_of_ble_eq_true rfl) rfl dX11_back_4 ?_
  refine lv_if_ne (tgt := 13) hx hb dX11_back_7 (by decide) (fun c2 => ?_) (fun c2 => ?_)
  · replace hev := x_f c2 hev
    refine lv_aload_n hx hb dX11_back_13 rfl (lv_at hl 0 rfl) ?_
    refine va_get (D := G.1) (ci := 7) (v := .ref aT_isKept) (C := RX11) (T := TX11) (N := 34) hx hb hts i11 hown hK hP 0 rfl rfl 15 (by decide) (hw _ u1102) (fun _ h9 => h9) rfl dX11_back_14 ?_
    refine lv_iload_n hx hb dX11_back_17 rfl (lv_at hl 1 rfl) ?_
    obtain ⟨h3, hev⟩ := x_ld hev
    refine va_zald hx hb hK hP 1 2 rfl rfl h3 dX11_back_18 ?_
    refine lv_topi (fun v4 ev4 => ?_)
    replace hev := hev v4 ev4
    refine lv_if_ne (tgt := 25) hx hb dX11_back_19 (by decide) (fun c5 => ?_) (fun c5 => ?_)
    · replace hev := x_f c5 hev
      refine lv_aload_n hx hb dX11_back_25 rfl (lv_at hl 0 rfl) ?_
      refine lv_aload_n hx hb dX11_back_26 rfl (lv_at hl 0 rfl) ?_
      refine va_get (D := G.1) (ci := 7) (v := .ref aT_keptStates) (C := RX11) (T := TX11) (N := 34) hx hb hts i11 hown hK hP 0 rfl rfl 13 (by decide) (hw _ u1100) (fun _ h9 => h9) rfl dX11_back_27 ?_
      refine lv_iload_n hx hb dX11_back_30 rfl (lv_at hl 1 rfl) ?_
      obtain ⟨h6, hev⟩ := x_ld hev
      refine va_iald hx hb hK hP 2 0 rfl rfl h6 dX11_back_31 ?_
      refine lv_topi (fun v7 ev7 => ?_)
      replace hev := hev v7 ev7
      refine va_put (D := G.1) (ci := 7) (v := .int v7) (ty := .int) (C := RX11) (T := TX11) (N := 34) hx hb hts i11 tyX11 tyX11_ok nmX11 hown hK hP hD hS 0 rfl rfl 9 (by decide) (hw _ u1096) (fun _ h9 => h9) rfl (by decide +kernel) rfl rfl (Nat.le_of_ble_eq_true rfl) dX11_back_32 (fun H lo hP hD hS => ?_)
      refine lv_aload_n hx hb dX11_back_35 rfl (lv_at hl 0 rfl) ?_
      refine lv_aload_n hx hb dX11_back_36 rfl (lv_at hl 0 rfl) ?_
      refine va_get (D := G.1) (ci := 7) (v := .ref aT_keptDeeds) (C := RX11) (T := TX11) (N := 34) hx hb hts i11 hown hK hP 0 rfl rfl 14 (by decide) (hw _ u1101) (fun _ h9 => h9) rfl dX11_back_37 ?_
      refine lv_iload_n hx hb dX11_back_40 rfl (lv_at hl 1 rfl) ?_
      obtain ⟨h8, hev⟩ := x_ld hev
      refine va_iald hx hb hK hP 3 0 rfl rfl h8 dX11_back_41 ?_
      refine lv_topi (fun v9 ev9 => ?_)
      replace hev := hev v9 ev9
      refine va_put (D := G.1) (ci := 7) (v := .int v9) (ty := .int) (C := RX11) (T := TX11) (N := 34) hx hb hts i11 tyX11 tyX11_ok nmX11 hown hK hP hD hS 0 rfl rfl 10 (by decide) (hw _ u1097) (fun _ h9 => h9) rfl (by decide +kernel) rfl rfl (Nat.le_of_ble_eq_true rfl) dX11_back_42 (fun H lo hP hD hS => ?_)
      refine lv_aload_n hx hb dX11_back_45 rfl (lv_at hl 0 rfl) ?_
      refine lv_iconst (v := (0 : Int32)) hx hb dX11_back_46 (by decide) ?_
      refine va_put (D := G.1) (ci := 7) (v := .int (0 : Int32)) (ty := .int) (C := RX11) (T := TX11) (N := 34) hx hb hts i11 tyX11 tyX11_ok nmX11 hown hK hP hD hS 0 rfl rfl 12 (by decide) (hw _ u1099) (fun _ h9 => h9) rfl (by decide +kernel) rfl rfl (Nat.le_of_ble_eq_true rfl) dX11_back_47 (fun H lo hP hD hS => ?_)
      refine lv_aload_n hx hb dX11_back_50 rfl (lv_at hl 0 rfl) ?_
      refine va_get (D := G.1) (ci := 7) (v := .int v9) (C := RX11) (T := TX11) (N := 34) hx hb hts i11 hown hK hP 0 rfl rfl 10 (by decide) (hw _ u1097) (fun _ h9 => h9) rfl dX11_back_51 ?_
      exact ret2 _ _ _ _ v9 v9 v9 v7 (0 : Int32) (Option.some.inj hev) dX11_back_54 (show narrow _ (.int v9) = .int v9 from rfl) hP hD hS
    · replace hev := x_t c5 hev
      refine lv_bipush (v := (-4 : Int32)) hx hb dX11_back_22 (by decide) ?_
      exact ret2 _ _ _ _ (-4 : Int32) (-4 : Int32) vT_deeds vT_now vT_pastMany (Option.some.inj hev) dX11_back_24 (show narrow _ (.int (-4 : Int32)) = .int (-4 : Int32) from rfl) hP hD hS
  · replace hev := x_t c2 hev
    refine lv_bipush (v := (-2 : Int32)) hx hb dX11_back_10 (by decide) ?_
    exact ret2 _ _ _ _ (-2 : Int32) (-2 : Int32) vT_deeds vT_now vT_pastMany (Option.some.inj hev) dX11_back_12 (show narrow _ (.int (-2 : Int32)) = .int (-2 : Int32) from rfl) hP hD hS
def f_Mo_put (vT_queued : Int32) (fT_fars : Nat → Int32) (fT_queue : Nat → Int32) (p1 : Int32) (p2 : Int32) : Option (Int32 × (Nat → Int32) × (Nat → Int32)) := x_I 57344 fT_fars p1 (fun v2 => if v2 = (-1 : Int32) then (x_C 57344 p1 (x_C 57344 vT_queued (x_L ((vT_queued + (1 : Int32))) (fun y6 => some (y6, (upd fT_fars (p1).toNatClampNeg p2), (upd fT_queue (vT_queued).toNatClampNeg p1)))))) else some (vT_queued, fT_fars, fT_queue))
set_option maxHeartbeats 8000000 in
set_option maxRecDepth 100000 in
theorem c_Mo_put (l : Launch) (G : GG) (aT aT_text aT_read aT_spells aT_pasts aT_keptStates aT_keptDeeds aT_isKept aT_fars aT_queue aT_later aT_onWay aT_row aT_princes aT_tries : Nat) (vT_length : Int32) (vT_readMany : Int32) (vT_people : Int32) (vT_toldDay : Int32) (vT_toldBroken : Int32) (vT_many : Int32) (vT_now : Int32) (vT_deeds : Int32) (vT_pastMany : Int32) (vT_at : Int32) (vT_place : Int32) (vT_end : Int32) (vT_readPeople : Int32) (vT_readSpells : Int32) (vT_lifted : Int32) (vT_queued : Int32) (vT_laterMany : Int32) (vT_rowMany : Int32) (vT_princeMany : Int32) (vT_triedMany : Int32) (fT_fars : Nat → Int32) (fT_queue : Nat → Int32) (p1 : Int32) (p2 : Int32) (wvT_queued : Int32) (wfT_fars : Nat → Int32) (wfT_queue : Nat → Int32) (hev : f_Mo_put vT_queued fT_fars fT_queue p1 p2 = some (wvT_queued, wfT_fars, wfT_queue)) : RW l G yX11_put cX11_put 3 none 0 [.ref aT, .int p1, .int p2] [(aT, .inr (7, [.ref aT_text, .int vT_length, .ref aT_read, .int vT_readMany, .int vT_people, .int vT_toldDay, .int vT_toldBroken, .ref aT_spells, .int vT_many, .int vT_now, .int vT_deeds, .ref aT_pasts, .int vT_pastMany, .ref aT_keptStates, .ref aT_keptDeeds, .ref aT_isKept, .int vT_at, .int vT_place, .int vT_end, .int vT_readPeople, .int vT_readSpells, .int vT_lifted, .ref aT_fars, .ref aT_queue, .int vT_queued, .ref aT_later, .int vT_laterMany, .ref aT_onWay, .ref aT_row, .int vT_rowMany, .ref aT_princes, .int vT_princeMany, .ref aT_tries, .int vT_triedMany])), (aT_fars, .inl (G.2.1, 57344, .inl fT_fars)), (aT_queue, .inl (G.2.1, 57344, .inl fT_queue))] none [(aT, .inr (7, [.ref aT_text, .int vT_length, .ref aT_read, .int vT_readMany, .int vT_people, .int vT_toldDay, .int vT_toldBroken, .ref aT_spells, .int vT_many, .int vT_now, .int vT_deeds, .ref aT_pasts, .int vT_pastMany, .ref aT_keptStates, .ref aT_keptDeeds, .ref aT_isKept, .int vT_at, .int vT_place, .int vT_end, .int vT_readPeople, .int vT_readSpells, .int vT_lifted, .ref aT_fars, .ref aT_queue, .int wvT_queued, .ref aT_later, .int vT_laterMany, .ref aT_onWay, .ref aT_row, .int vT_rowMany, .ref aT_princes, .int vT_princeMany, .ref aT_tries, .int vT_triedMany])), (aT_fars, .inl (G.2.1, 57344, .inl wfT_fars)), (aT_queue, .inl (G.2.1, 57344, .inl wfT_queue))] 0 0 := by
  refine RW_of (by decide) (Nat.le_of_ble_eq_true rfl) ?_
  intro p e s m ar below meth c R Q A ls X hR hRc hin hP hKK hD hS hA hAb hl ret
  obtain ⟨rs, hrs⟩ : ∃ q, q = (wvT_queued, wfT_fars, wfT_queue) := ⟨_, rfl⟩
  rw [← hrs] at hev
  have ret2 : ∀ (pc : Nat) (ls : Array Slot) (H : Heap) (lo : List Loc) (zvT_queued : Int32) (zfT_fars : Nat → Int32) (zfT_queue : Nat → Int32), (zvT_queued, zfT_fars, zfT_queue) = rs → decode cX11_put pc = .ok (.return_, 1) → va_P G.1 classes [(aT, .inr (7, [.ref aT_text, .int vT_length, .ref aT_read, .int vT_readMany, .int vT_people, .int vT_toldDay, .int vT_toldBroken, .ref aT_spells, .int vT_many, .int vT_now, .int vT_deeds, .ref aT_pasts, .int vT_pastMany, .ref aT_keptStates, .ref aT_keptDeeds, .ref aT_isKept, .int vT_at, .int vT_place, .int vT_end, .int vT_readPeople, .int vT_readSpells, .int vT_lifted, .ref aT_fars, .ref aT_queue, .int zvT_queued, .ref aT_later, .int vT_laterMany, .ref aT_onWay, .ref aT_row, .int vT_rowMany, .ref aT_princes, .int vT_princeMany, .ref aT_tries, .int vT_triedMany])), (aT_fars, .inl (G.2.1, 57344, .inl zfT_fars)), (aT_queue, .inl (G.2.1, 57344, .inl zfT_queue))] H → va_D A [(aT, .inr (7, [.ref aT_text, .int vT_length, .ref aT_read, .int vT_readMany, .int vT_people, .int vT_toldDay, .int vT_toldBroken, .ref aT_spells, .int vT_many, .int vT_now, .int vT_deeds, .ref aT_pasts, .int vT_pastMany, .ref aT_keptStates, .ref aT_keptDeeds, .ref aT_isKept, .int vT_at, .int vT_place, .int vT_end, .int vT_readPeople, .int vT_readSpells, .int vT_lifted, .ref aT_fars, .ref aT_queue, .int zvT_queued, .ref aT_later, .int vT_laterMany, .ref aT_onWay, .ref aT_row, .int vT_rowMany, .ref aT_princes, .int vT_princeMany, .ref aT_tries, .int vT_triedMany])), (aT_fars, .inl (G.2.1, 57344, .inl zfT_fars)), (aT_queue, .inl (G.2.1, 57344, .inl zfT_queue))] → va_S A s.heap H lo → W p l e R s m ar below meth c H lo 0 0 Q (F0 m pc ls []) := by
    intro pc ls H lo zvT_queued zfT_fars zfT_queue he hd h1 h2 h3
    have he := he.trans hrs
    cases he
    exact ret.2.1 _ _ _ _ rfl rfl hd h1 h2 h3
  clear ret hrs
  have hl : lv_has ls 3 [(0, .ref aT), (1, .int p1), (2, .int p2)] := hl
  obtain ⟨hx, hb, hml, hown, hts, hT⟩ := id X
  have hK := hKK.1
  have hw : ∀ w ∈ T0, w.before ar s = true := fun w h => hts w (hT w h)
  have i11 := fun w h => hT w (inT11 w h)
  unfold f_Mo_put at hev
  refine lv_aload_n hx hb dX11_put_0 rfl (lv_at hl 0 rfl) ?_
  refine va_get (D := G.1) (ci := 7) (v := .ref aT_fars) (C := RX11) (T := TX11) (N := 34) hx hb hts i11 hown hK hP 0 rfl rfl 22 (by decide) (hw _ u1109) (fun _ h9 => h9) rfl dX11_put_1 ?_
  refine lv_iload_n hx hb dX11_put_4 rfl (lv_at hl 1 rfl) ?_
  obtain ⟨h1, hev⟩ := x_ld hev
  refine va_iald hx hb hK hP 1 0 rfl rfl h1 dX11_put_5 ?_
  refine lv_topi (fun v2 ev2 => ?_)
  replace hev := hev v2 ev2
  refine lv_iconst (v := (-1 : Int32)) hx hb dX11_put_6 (by decide) ?_
  refine lv_icmp_ne (tgt := 37) hx hb dX11_put_7 (by decide) (fun c3 => ?_) (fun c3 => ?_)
  · replace hev := x_f c3 hev
    exact ret2 _ _ _ _ vT_queued fT_fars fT_queue (Option.some.inj hev) dX11_put_37 hP hD hS
  · replace hev := x_t c3 hev
    refine lv_aload_n hx hb dX11_put_10 rfl (lv_at hl 0 rfl) ?_
    refine va_get (D := G.1) (ci := 7) (v := .ref aT_fars) (C := RX11) (T := TX11) (N := 34) hx hb hts i11 hown hK hP 0 rfl rfl 22 (by decide) (hw _ u1109) (fun _ h9 => h9) rfl dX11_put_11 ?_
    refine lv_iload_n hx hb dX11_put_14 rfl (lv_at hl 1 rfl) ?_
    refine lv_iload_n hx hb dX11_put_15 rfl (lv_at hl 2 rfl) ?_
    obtain ⟨h4, hev⟩ := x_ck hev
    refine va_iast hx hb hK hP hD hS 1 0 rfl rfl h4 dX11_put_16 (fun H lo hP hD hS => ?_)
    refine lv_aload_n hx hb dX11_put_17 rfl (lv_at hl 0 rfl) ?_
    refine va_get (D := G.1) (ci := 7) (v := .ref aT_queue) (C := RX11) (T := TX11) (N := 34) hx hb hts i11 hown hK hP 0 rfl rfl 23 (by decide) (hw _ u1110) (fun _ h9 => h9) rfl dX11_put_18 ?_
    refine lv_aload_n hx hb dX11_put_21 rfl (lv_at hl 0 rfl) ?_
    refine va_get (D := G.1) (ci := 7) (v := .int vT_queued) (C := RX11) (T := TX11) (N := 34) hx hb hts i11 hown hK hP 0 rfl rfl 24 (by decide) (hw _ u1111) (fun _ h9 => h9) rfl dX11_put_22 ?_
    refine lv_iload_n hx hb dX11_put_25 rfl (lv_at hl 1 rfl) ?_
    obtain ⟨h5, hev⟩ := x_ck hev
    refine va_iast hx hb hK hP hD hS 2 0 rfl rfl h5 dX11_put_26 (fun H lo hP hD hS => ?_)
    refine lv_aload_n hx hb dX11_put_27 rfl (lv_at hl 0 rfl) ?_
    refine lv_dup hx hb dX11_put_28 rfl ?_
    refine va_get (D := G.1) (ci := 7) (v := .int vT_queued) (C := RX11) (T := TX11) (N := 34) hx hb hts i11 hown hK hP 0 rfl rfl 24 (by decide) (hw _ u1111) (fun _ h9 => h9) rfl dX11_put_29 ?_
    refine lv_iconst (v := (1 : Int32)) hx hb dX11_put_32 (by decide) ?_
    refine lv_iadd hx hb dX11_put_33 ?_
    refine lv_topi (fun y6 ey6 => ?_)
    replace hev := x_lt hev y6 ey6
    refine va_put (D := G.1) (ci := 7) (v := .int y6) (ty := .int) (C := RX11) (T := TX11) (N := 34) hx hb hts i11 tyX11 tyX11_ok nmX11 hown hK hP hD hS 0 rfl rfl 24 (by decide) (hw _ u1111) (fun _ h9 => h9) rfl (by decide +kernel) rfl rfl (Nat.le_of_ble_eq_true rfl) dX11_put_34 (fun H lo hP hD hS => ?_)
    exact ret2 _ _ _ _ y6 (upd fT_fars (p1).toNatClampNeg p2) (upd fT_queue (vT_queued).toNatClampNeg p1) (Option.some.inj hev) dX11_put_37 hP hD hS
def f_Mo_clearFars_L2 (vT_queued : Int32) : Nat → Int32 → (Nat → Int32) → Option ((Nat → Int32))
  | 0, _, _ => none
  | k + 1, x1, fT_fars => if (57344 : Int32) ≤ x1 then (some fT_fars) else x_C 57344 x1 (x_L (x1 + (1 : Int32)) (fun y3 => (f_Mo_clearFars_L2 vT_queued k) y3 (upd fT_fars (x1).toNatClampNeg (-1 : Int32))))
def f_Mo_clearFars (k : Nat) (vT_queued : Int32) (fT_fars : Nat → Int32) : Option (Int32 × (Nat → Int32)) := x_B (f_Mo_clearFars_L2 vT_queued k (0 : Int32) fT_fars) (fun w4 => some ((0 : Int32), w4))
set_option maxHeartbeats 8000000 in
set_option maxRecDepth 100000 in
theorem c_Mo_clearFars (l : Launch) (G : GG) (aT aT_text aT_read aT_spells aT_pasts aT_keptStates aT_keptDeeds aT_isKept aT_fars aT_queue aT_later aT_onWay aT_row aT_princes aT_tries : Nat) (vT_length : Int32) (vT_readMany : Int32) (vT_people : Int32) (vT_toldDay : Int32) (vT_toldBroken : Int32) (vT_many : Int32) (vT_now : Int32) (vT_deeds : Int32) (vT_pastMany : Int32) (vT_at : Int32) (vT_place : Int32) (vT_end : Int32) (vT_readPeople : Int32) (vT_readSpells : Int32) (vT_lifted : Int32) (vT_queued : Int32) (vT_laterMany : Int32) (vT_rowMany : Int32) (vT_princeMany : Int32) (vT_triedMany : Int32) (fT_fars : Nat → Int32) (k : Nat) (wvT_queued : Int32) (wfT_fars : Nat → Int32) (hev : f_Mo_clearFars k vT_queued fT_fars = some (wvT_queued, wfT_fars)) : RW l G yX11_clearFars cX11_clearFars 2 none 0 [.ref aT] [(aT, .inr (7, [.ref aT_text, .int vT_length, .ref aT_read, .int vT_readMany, .int vT_people, .int vT_toldDay, .int vT_toldBroken, .ref aT_spells, .int vT_many, .int vT_now, .int vT_deeds, .ref aT_pasts, .int vT_pastMany, .ref aT_keptStates, .ref aT_keptDeeds, .ref aT_isKept, .int vT_at, .int vT_place, .int vT_end, .int vT_readPeople, .int vT_readSpells, .int vT_lifted, .ref aT_fars, .ref aT_queue, .int vT_queued, .ref aT_later, .int vT_laterMany, .ref aT_onWay, .ref aT_row, .int vT_rowMany, .ref aT_princes, .int vT_princeMany, .ref aT_tries, .int vT_triedMany])), (aT_fars, .inl (G.2.1, 57344, .inl fT_fars))] none [(aT, .inr (7, [.ref aT_text, .int vT_length, .ref aT_read, .int vT_readMany, .int vT_people, .int vT_toldDay, .int vT_toldBroken, .ref aT_spells, .int vT_many, .int vT_now, .int vT_deeds, .ref aT_pasts, .int vT_pastMany, .ref aT_keptStates, .ref aT_keptDeeds, .ref aT_isKept, .int vT_at, .int vT_place, .int vT_end, .int vT_readPeople, .int vT_readSpells, .int vT_lifted, .ref aT_fars, .ref aT_queue, .int wvT_queued, .ref aT_later, .int vT_laterMany, .ref aT_onWay, .ref aT_row, .int vT_rowMany, .ref aT_princes, .int vT_princeMany, .ref aT_tries, .int vT_triedMany])), (aT_fars, .inl (G.2.1, 57344, .inl wfT_fars))] 0 0 := by
  refine RW_of (by decide) (Nat.le_of_ble_eq_true rfl) ?_
  intro p e s m ar below meth c R Q A ls X hR hRc hin hP hKK hD hS hA hAb hl ret
  obtain ⟨rs, hrs⟩ : ∃ q, q = (wvT_queued, wfT_fars) := ⟨_, rfl⟩
  rw [← hrs] at hev
  have ret2 : ∀ (pc : Nat) (ls : Array Slot) (H : Heap) (lo : List Loc) (zvT_queued : Int32) (zfT_fars : Nat → Int32), (zvT_queued, zfT_fars) = rs → decode cX11_clearFars pc = .ok (.return_, 1) → va_P G.1 classes [(aT, .inr (7, [.ref aT_text, .int vT_length, .ref aT_read, .int vT_readMany, .int vT_people, .int vT_toldDay, .int vT_toldBroken, .ref aT_spells, .int vT_many, .int vT_now, .int vT_deeds, .ref aT_pasts, .int vT_pastMany, .ref aT_keptStates, .ref aT_keptDeeds, .ref aT_isKept, .int vT_at, .int vT_place, .int vT_end, .int vT_readPeople, .int vT_readSpells, .int vT_lifted, .ref aT_fars, .ref aT_queue, .int zvT_queued, .ref aT_later, .int vT_laterMany, .ref aT_onWay, .ref aT_row, .int vT_rowMany, .ref aT_princes, .int vT_princeMany, .ref aT_tries, .int vT_triedMany])), (aT_fars, .inl (G.2.1, 57344, .inl zfT_fars))] H → va_D A [(aT, .inr (7, [.ref aT_text, .int vT_length, .ref aT_read, .int vT_readMany, .int vT_people, .int vT_toldDay, .int vT_toldBroken, .ref aT_spells, .int vT_many, .int vT_now, .int vT_deeds, .ref aT_pasts, .int vT_pastMany, .ref aT_keptStates, .ref aT_keptDeeds, .ref aT_isKept, .int vT_at, .int vT_place, .int vT_end, .int vT_readPeople, .int vT_readSpells, .int vT_lifted, .ref aT_fars, .ref aT_queue, .int zvT_queued, .ref aT_later, .int vT_laterMany, .ref aT_onWay, .ref aT_row, .int vT_rowMany, .ref aT_princes, .int vT_princeMany, .ref aT_tries, .int vT_triedMany])), (aT_fars, .inl (G.2.1, 57344, .inl zfT_fars))] → va_S A s.heap H lo → W p l e R s m ar below meth c H lo 0 0 Q (F0 m pc ls []) := by
    intro pc ls H lo zvT_queued zfT_fars he hd h1 h2 h3
    have he := he.trans hrs
    cases he
    exact ret.2.1 _ _ _ _ rfl rfl hd h1 h2 h3
  clear ret hrs
  have hl : lv_has ls 2 [(0, .ref aT)] := hl
  obtain ⟨hx, hb, hml, hown, hts, hT⟩ := id X
  have hK := hKK.1
  have hw : ∀ w ∈ T0, w.before ar s = true := fun w h => hts w (hT w h)
  have i11 := fun w h => hT w (inT11 w h)
  unfold f_Mo_clearFars at hev
  refine lv_iconst (v := (0 : Int32)) hx hb dX11_clearFars_0 (by decide) ?_
  refine lv_istore_n (lv' := [(1, .int (0 : Int32)), (0, .ref aT)]) hx hb dX11_clearFars_1 rfl hl (by decide) rfl (fun ls hl => ?_)
  have L2 : ∀ (vT_queued : Int32), ∀ (k : Nat) (x1 : Int32) (fT_fars : Nat → Int32) (ofT_fars : Nat → Int32), f_Mo_clearFars_L2 vT_queued k x1 fT_fars = some ofT_fars → (∀ (H : Heap) (lo : List Loc), va_P G.1 classes [(aT, .inr (7, [.ref aT_text, .int vT_length, .ref aT_read, .int vT_readMany, .int vT_people, .int vT_toldDay, .int vT_toldBroken, .ref aT_spells, .int vT_many, .int vT_now, .int vT_deeds, .ref aT_pasts, .int vT_pastMany, .ref aT_keptStates, .ref aT_keptDeeds, .ref aT_isKept, .int vT_at, .int vT_place, .int vT_end, .int vT_readPeople, .int vT_readSpells, .int vT_lifted, .ref aT_fars, .ref aT_queue, .int vT_queued, .ref aT_later, .int vT_laterMany, .ref aT_onWay, .ref aT_row, .int vT_rowMany, .ref aT_princes, .int vT_princeMany, .ref aT_tries, .int vT_triedMany])), (aT_fars, .inl (G.2.1, 57344, .inl ofT_fars))] H → va_D A [(aT, .inr (7, [.ref aT_text, .int vT_length, .ref aT_read, .int vT_readMany, .int vT_people, .int vT_toldDay, .int vT_toldBroken, .ref aT_spells, .int vT_many, .int vT_now, .int vT_deeds, .ref aT_pasts, .int vT_pastMany, .ref aT_keptStates, .ref aT_keptDeeds, .ref aT_isKept, .int vT_at, .int vT_place, .int vT_end, .int vT_readPeople, .int vT_readSpells, .int vT_lifted, .ref aT_fars, .ref aT_queue, .int vT_queued, .ref aT_later, .int vT_laterMany, .ref aT_onWay, .ref aT_row, .int vT_rowMany, .ref aT_princes, .int vT_princeMany, .ref aT_tries, .int vT_triedMany])), (aT_fars, .inl (G.2.1, 57344, .inl ofT_fars))] → va_S A s.heap H lo → ∀ (ls : Array Slot), lv_has ls 2 [(0, .ref aT)] → W p l e R s m ar below meth c H lo 0 0 Q (F0 m 21 ls [])) → ∀ (H : Heap) (lo : List Loc), va_P G.1 classes [(aT, .inr (7, [.ref aT_text, .int vT_length, .ref aT_read, .int vT_readMany, .int vT_people, .int vT_toldDay, .int vT_toldBroken, .ref aT_spells, .int vT_many, .int vT_now, .int vT_deeds, .ref aT_pasts, .int vT_pastMany, .ref aT_keptStates, .ref aT_keptDeeds, .ref aT_isKept, .int vT_at, .int vT_place, .int vT_end, .int vT_readPeople, .int vT_readSpells, .int vT_lifted, .ref aT_fars, .ref aT_queue, .int vT_queued, .ref aT_later, .int vT_laterMany, .ref aT_onWay, .ref aT_row, .int vT_rowMany, .ref aT_princes, .int vT_princeMany, .ref aT_tries, .int vT_triedMany])), (aT_fars, .inl (G.2.1, 57344, .inl fT_fars))] H → va_D A [(aT, .inr (7, [.ref aT_text, .int vT_length, .ref aT_read, .int vT_readMany, .int vT_people, .int vT_toldDay, .int vT_toldBroken, .ref aT_spells, .int vT_many, .int vT_now, .int vT_deeds, .ref aT_pasts, .int vT_pastMany, .ref aT_keptStates, .ref aT_keptDeeds, .ref aT_isKept, .int vT_at, .int vT_place, .int vT_end, .int vT_readPeople, .int vT_readSpells, .int vT_lifted, .ref aT_fars, .ref aT_queue, .int vT_queued, .ref aT_later, .int vT_laterMany, .ref aT_onWay, .ref aT_row, .int vT_rowMany, .ref aT_princes, .int vT_princeMany, .ref aT_tries, .int vT_triedMany])), (aT_fars, .inl (G.2.1, 57344, .inl fT_fars))] → va_S A s.heap H lo → ∀ (ls : Array Slot), lv_has ls 2 [(0, .ref aT), (1, .int x1)] → W p l e R s m ar below meth c H lo 0 0 Q (F0 m 2 ls []) := by
    intro vT_queued k
    induction k with
    | zero => intro x1 fT_fars ofT_fars hev; rw [f_Mo_clearFars_L2] at hev; cases hev
    | succ k ih =>
      intro x1 fT_fars ofT_fars hev hex H lo hP hD hS ls hl
      rw [f_Mo_clearFars_L2] at hev
      refine lv_iload_n hx hb dX11_clearFars_2 rfl (lv_at hl 1 rfl) ?_
      refine lv_ldc (v := (57344 : Int32)) hx hb hown (hw _ u1086) dX11_clearFars_3 ?_
      refine lv_icmp_ge (tgt := 21) hx hb dX11_clearFars_5 (by decide) (fun c1 => ?_) (fun c1 => ?_)
      · replace hev := x_t c1 hev
        cases hev
        exact hex _ _ hP hD hS ls (lv_sub hl [0] rfl)
      · replace hev := x_f c1 hev
        refine lv_aload_n hx hb dX11_clearFars_8 rfl (lv_at hl 0 rfl) ?_
        refine va_get (D := G.1) (ci := 7) (v := .ref aT_fars) (C := RX11) (T := TX11) (N := 34) hx hb hts i11 hown hK hP 0 rfl rfl 22 (by decide) (hw _ u1109) (fun _ h9 => h9) rfl dX11_clearFars_9 ?_
        refine lv_iload_n hx hb dX11_clearFars_12 rfl (lv_at hl 1 rfl) ?_
        refine lv_iconst (v := (-1 : Int32)) hx hb dX11_clearFars_13 (by decide) ?_
        obtain ⟨h2, hev⟩ := x_ck hev
        refine va_iast hx hb hK hP hD hS 1 0 rfl rfl h2 dX11_clearFars_14 (fun H lo hP hD hS => ?_)
        obtain ⟨y3, ey3⟩ : ∃ y : Int32, y = x1 + (1 : Int32) := ⟨_, rfl⟩
        refine lv_iinc (v := y3) (lv' := [(1, .int y3), (0, .ref aT)]) hx hb dX11_clearFars_15 hl (k := 1) rfl (by rw [ey3]; rfl) (by decide) rfl (fun ls hl => ?_)
        replace hev := x_lt hev y3 ey3
        refine lv_goto (tgt := 2) hx hb dX11_clearFars_18 (by decide) ?_
        exact ih y3 (upd fT_fars (x1).toNatClampNeg (-1 : Int32)) _ hev hex _ _ hP hD hS ls (lv_sub hl [1, 0] rfl)
  obtain ⟨w4, hq, hev⟩ := x_bd hev
  refine L2 vT_queued k (0 : Int32) fT_fars w4 hq (fun H lo hP hD hS ls hl => ?_) _ _ hP hD hS ls (lv_sub hl [1, 0] rfl)
  refine lv_aload_n hx hb dX11_clearFars_21 rfl (lv_at hl 0 rfl) ?_
  refine lv_iconst (v := (0 : Int32)) hx hb dX11_clearFars_22 (by decide) ?_
  refine va_put (D := G.1) (ci := 7) (v := .int (0 : Int32)) (ty := .int) (C := RX11) (T := TX11) (N := 34) hx hb hts i11 tyX11 tyX11_ok nmX11 hown hK hP hD hS 0 rfl rfl 24 (by decide) (hw _ u1111) (fun _ h9 => h9) rfl (by decide +kernel) rfl rfl (Nat.le_of_ble_eq_true rfl) dX11_clearFars_23 (fun H lo hP hD hS => ?_)
  exact ret2 _ _ _ _ (0 : Int32) w4 (Option.some.inj hev) dX11_clearFars_26 hP hD hS
def f_Mo_isBy_J17  : Option (Int32) := some (1 : Int32)
def f_Mo_isBy (p0 : Int32) (p1 : Int32) : Option (Int32) := if p0 = (21 : Int32) then (f_Mo_isBy_J17) else x_B (f_Mo_has p1 (p0 / (7 : Int32))) (fun y2 => if y2 = 0 then (some (0 : Int32)) else f_Mo_isBy_J17)
set_option maxHeartbeats 8000000 in
set_option maxRecDepth 100000 in
theorem c_Mo_isBy (l : Launch) (G : GG) (p0 : Int32) (p1 : Int32) (r0 : Int32) (hev : f_Mo_isBy p0 p1 = some r0) : RO l G yX11_isBy cX11_isBy 2 (some .boolean) 1 [.int p0, .int p1] [] (some (.int r0)) := by
  refine RO_of (by decide) (Nat.le_of_ble_eq_true rfl) ?_
  intro p e s m ar below meth c R Q H ls X hR hP hKK hS0 hl ret
  generalize hrs : r0 = rs at hev ret
  have hl : lv_has ls 2 [(0, .int p0), (1, .int p1)] := hl
  obtain ⟨hx, hb, hml, hown, hts, hT⟩ := id X
  have hK := hKK.1
  have hw : ∀ w ∈ T0, w.before ar s = true := fun w h => hts w (hT w h)
  have J17 : ∀ (ls : Array Slot), f_Mo_isBy_J17 = some rs → lv_has ls 2 [] → W p l e R s m ar below meth c H [] 0 0 Q (F0 m 17 ls []) := by
    intro  ls hev hl
    unfold f_Mo_isBy_J17 at hev
    refine lv_iconst (v := (1 : Int32)) hx hb dX11_isBy_17 (by decide) ?_
    refine lv_goto (tgt := 22) hx hb dX11_isBy_18 (by decide) ?_
    exact ret _ _ _ dX11_isBy_22 ((show narrow _ (.int (1 : Int32)) = .int (1 : Int32) from nb1).trans (congrArg Value.int (Option.some.inj hev)))
  unfold f_Mo_isBy at hev
  refine lv_iload_n hx hb dX11_isBy_0 rfl (lv_at hl 0 rfl) ?_
  refine lv_bipush (v := (21 : Int32)) hx hb dX11_isBy_1 (by decide) ?_
  refine lv_icmp_eq (tgt := 17) hx hb dX11_isBy_3 (by decide) (fun c1 => ?_) (fun c1 => ?_)
  · replace hev := x_t c1 hev
    exact J17  ls hev (lv_sub hl [] rfl)
  · replace hev := x_f c1 hev
    refine lv_iload_n hx hb dX11_isBy_6 rfl (lv_at hl 1 rfl) ?_
    refine lv_iload_n hx hb dX11_isBy_7 rfl (lv_at hl 0 rfl) ?_
    refine lv_bipush (v := (7 : Int32)) hx hb dX11_isBy_8 (by decide) ?_
    refine lv_idiv hx hb dX11_isBy_10 (by decide) ?_
    obtain ⟨y2, hq, hev⟩ := x_bd hev
    refine roS X hKK hR (st1 := [.int y2]) (c_Mo_has l G p1 (p0 / (7 : Int32)) y2 hq) K_X11_has u1287 (x_Psub hP [] rfl) (by decide) ⟨Nat.zero_le _, Nat.zero_le _⟩ rfl hl.1 rfl (Nat.le_of_ble_eq_true rfl) rfl dX11_isBy_11 ?_
    refine lv_if_eq (tgt := 21) hx hb dX11_isBy_14 (by decide) (fun c3 => ?_) (fun c3 => ?_)
    · replace hev := x_t c3 hev
      refine lv_iconst (v := (0 : Int32)) hx hb dX11_isBy_21 (by decide) ?_
      exact ret _ _ _ dX11_isBy_22 ((show narrow _ (.int (0 : Int32)) = .int (0 : Int32) from nb0).trans (congrArg Value.int (Option.some.inj hev)))
    · replace hev := x_f c3 hev
      exact J17  ls hev (lv_sub hl [] rfl)
def f_Mo_layFars_J95 (rec : Int32 → Int32 → Int32 → (Nat → Int32) → (Nat → Int32) → Option (Int32 × Int32 × (Nat → Int32) × (Nat → Int32))) (k : Nat) (vT_lifted : Int32) (vT_many : Int32) (vT_people : Int32) (vT_queued : Int32) (fT_fars : Nat → Int32) (fT_queue : Nat → Int32) (fT_spells : Nat → Int32) (x2 : Int32) (x3 : Int32) (x4 : Int32) (x5 : Int32) (x6 : Int32) : Option (Int32 × Int32 × (Nat → Int32) × (Nat → Int32)) := x_L (x6 + (1 : Int32)) (fun y9 => rec y9 vT_lifted vT_queued fT_fars fT_queue)
def f_Mo_layFars_L34 (vT_many : Int32) (vT_people : Int32) (fT_spells : Nat → Int32) (x2 : Int32) (x3 : Int32) (x4 : Int32) (x5 : Int32) : Nat → Int32 → Int32 → Int32 → (Nat → Int32) → (Nat → Int32) → Option (Int32 × Int32 × (Nat → Int32) × (Nat → Int32))
  | 0, _, _, _, _, _ => none
  | k + 1, x6, vT_lifted, vT_queued, fT_fars, fT_queue => if (22 : Int32) ≤ x6 then (some (vT_lifted, vT_queued, fT_fars, fT_queue)) else x_B (f_Mo_isBy x6 x2) (fun y11 => if y11 = 0 then (f_Mo_layFars_J95 (f_Mo_layFars_L34 vT_many vT_people fT_spells x2 x3 x4 x5 k) k vT_lifted vT_many vT_people vT_queued fT_fars fT_queue fT_spells x2 x3 x4 x5 x6) else x_B (f_Mo_canDo k vT_many vT_people fT_spells x5 x6) (fun y13 => if y13 = 0 then (f_Mo_layFars_J95 (f_Mo_layFars_L34 vT_many vT_people fT_spells x2 x3 x4 x5 k) k vT_lifted vT_many vT_people vT_queued fT_fars fT_queue fT_spells x2 x3 x4 x5 x6) else x_B (f_Mo_behind k vT_lifted vT_many fT_spells x5 x6) (fun ⟨y15, w16⟩ => if (w16 &&& x3) = 0 then (x_I 57344 fT_fars x5 (fun v19 => x_B (f_Mo_put vT_queued fT_fars fT_queue y15 (v19 + (1 : Int32))) (fun ⟨w20, w21, w22⟩ => f_Mo_layFars_J95 (f_Mo_layFars_L34 vT_many vT_people fT_spells x2 x3 x4 x5 k) k w16 vT_many vT_people w20 w21 w22 fT_spells x2 x3 x4 x5 x6))) else f_Mo_layFars_J95 (f_Mo_layFars_L34 vT_many vT_people fT_spells x2 x3 x4 x5 k) k w16 vT_many vT_people vT_queued fT_fars fT_queue fT_spells x2 x3 x4 x5 x6)))
def f_Mo_layFars_L13 (vT_many : Int32) (vT_people : Int32) (fT_spells : Nat → Int32) (x2 : Int32) (x3 : Int32) : Nat → Int32 → Int32 → Int32 → (Nat → Int32) → (Nat → Int32) → Option (Int32 × Int32 × (Nat → Int32) × (Nat → Int32))
  | 0, _, _, _, _, _ => none
  | k + 1, x4, vT_lifted, vT_queued, fT_fars, fT_queue => if vT_queued ≤ x4 then (some (vT_lifted, vT_queued, fT_fars, fT_queue)) else x_I 57344 fT_queue x4 (fun v8 => x_B (f_Mo_layFars_L34 vT_many vT_people fT_spells x2 x3 x4 v8 k (0 : Int32) vT_lifted vT_queued fT_fars fT_queue) (fun ⟨w23, w24, w25, w26⟩ => x_L (x4 + (1 : Int32)) (fun y27 => (f_Mo_layFars_L13 vT_many vT_people fT_spells x2 x3 k) y27 w23 w24 w25 w26)))
def f_Mo_layFars (k : Nat) (vT_lifted : Int32) (vT_many : Int32) (vT_people : Int32) (vT_queued : Int32) (fT_fars : Nat → Int32) (fT_queue : Nat → Int32) (fT_spells : Nat → Int32) (p1 : Int32) (p2 : Int32) (p3 : Int32) : Option (Int32 × Int32 × (Nat → Int32) × (Nat → Int32)) := x_B (f_Mo_clearFars k vT_queued fT_fars) (fun ⟨w1, w2⟩ => x_B (f_Mo_put w1 w2 fT_queue p1 (0 : Int32)) (fun ⟨w3, w4, w5⟩ => x_B (f_Mo_layFars_L13 vT_many vT_people fT_spells p2 p3 k (0 : Int32) vT_lifted w3 w4 w5) (fun ⟨w28, w29, w30, w31⟩ => some (w28, w29, w30, w31))))
set_option maxHeartbeats 8000000 in
set_option maxRecDepth 100000 in
theorem c_Mo_layFars (l : Launch) (G : GG) (aT aT_text aT_read aT_spells aT_pasts aT_keptStates aT_keptDeeds aT_isKept aT_fars aT_queue aT_later aT_onWay aT_row aT_princes aT_tries : Nat) (vT_length : Int32) (vT_readMany : Int32) (vT_people : Int32) (vT_toldDay : Int32) (vT_toldBroken : Int32) (vT_many : Int32) (vT_now : Int32) (vT_deeds : Int32) (vT_pastMany : Int32) (vT_at : Int32) (vT_place : Int32) (vT_end : Int32) (vT_readPeople : Int32) (vT_readSpells : Int32) (vT_lifted : Int32) (vT_queued : Int32) (vT_laterMany : Int32) (vT_rowMany : Int32) (vT_princeMany : Int32) (vT_triedMany : Int32) (fT_fars : Nat → Int32) (fT_queue : Nat → Int32) (fT_spells : Nat → Int32) (k : Nat) (p1 : Int32) (p2 : Int32) (p3 : Int32) (wvT_lifted : Int32) (wvT_queued : Int32) (wfT_fars : Nat → Int32) (wfT_queue : Nat → Int32) (hev : f_Mo_layFars k vT_lifted vT_many vT_people vT_queued fT_fars fT_queue fT_spells p1 p2 p3 = some (wvT_lifted, wvT_queued, wfT_fars, wfT_queue)) : RW l G yX11_layFars cX11_layFars 8 none 4 [.ref aT, .int p1, .int p2, .int p3] [(aT, .inr (7, [.ref aT_text, .int vT_length, .ref aT_read, .int vT_readMany, .int vT_people, .int vT_toldDay, .int vT_toldBroken, .ref aT_spells, .int vT_many, .int vT_now, .int vT_deeds, .ref aT_pasts, .int vT_pastMany, .ref aT_keptStates, .ref aT_keptDeeds, .ref aT_isKept, .int vT_at, .int vT_place, .int vT_end, .int vT_readPeople, .int vT_readSpells, .int vT_lifted, .ref aT_fars, .ref aT_queue, .int vT_queued, .ref aT_later, .int vT_laterMany, .ref aT_onWay, .ref aT_row, .int vT_rowMany, .ref aT_princes, .int vT_princeMany, .ref aT_tries, .int vT_triedMany])), (aT_fars, .inl (G.2.1, 57344, .inl fT_fars)), (aT_queue, .inl (G.2.1, 57344, .inl fT_queue)), (aT_spells, .inl (G.2.1, 50, .inl fT_spells))] none [(aT, .inr (7, [.ref aT_text, .int vT_length, .ref aT_read, .int vT_readMany, .int vT_people, .int vT_toldDay, .int vT_toldBroken, .ref aT_spells, .int vT_many, .int vT_now, .int vT_deeds, .ref aT_pasts, .int vT_pastMany, .ref aT_keptStates, .ref aT_keptDeeds, .ref aT_isKept, .int vT_at, .int vT_place, .int vT_end, .int vT_readPeople, .int vT_readSpells, .int wvT_lifted, .ref aT_fars, .ref aT_queue, .int wvT_queued, .ref aT_later, .int vT_laterMany, .ref aT_onWay, .ref aT_row, .int vT_rowMany, .ref aT_princes, .int vT_princeMany, .ref aT_tries, .int vT_triedMany])), (aT_fars, .inl (G.2.1, 57344, .inl wfT_fars)), (aT_queue, .inl (G.2.1, 57344, .inl wfT_queue)), (aT_spells, .inl (G.2.1, 50, .inl fT_spells))] 0 0 := by
  refine RW_of (by decide) (Nat.le_of_ble_eq_true rfl) ?_
  intro p e s m ar below meth c R Q A ls X hR hRc hin hP hKK hD hS hA hAb hl ret
  obtain ⟨rs, hrs⟩ : ∃ q, q = (wvT_lifted, wvT_queued, wfT_fars, wfT_queue) := ⟨_, rfl⟩
  rw [← hrs] at hev
  have ret2 : ∀ (pc : Nat) (ls : Array Slot) (H : Heap) (lo : List Loc) (zvT_lifted : Int32) (zvT_queued : Int32) (zfT_fars : Nat → Int32) (zfT_queue : Nat → Int32), (zvT_lifted, zvT_queued, zfT_fars, zfT_queue) = rs → decode cX11_layFars pc = .ok (.return_, 1) → va_P G.1 classes [(aT, .inr (7, [.ref aT_text, .int vT_length, .ref aT_read, .int vT_readMany, .int vT_people, .int vT_toldDay, .int vT_toldBroken, .ref aT_spells, .int vT_many, .int vT_now, .int vT_deeds, .ref aT_pasts, .int vT_pastMany, .ref aT_keptStates, .ref aT_keptDeeds, .ref aT_isKept, .int vT_at, .int vT_place, .int vT_end, .int vT_readPeople, .int vT_readSpells, .int zvT_lifted, .ref aT_fars, .ref aT_queue, .int zvT_queued, .ref aT_later, .int vT_laterMany, .ref aT_onWay, .ref aT_row, .int vT_rowMany, .ref aT_princes, .int vT_princeMany, .ref aT_tries, .int vT_triedMany])), (aT_fars, .inl (G.2.1, 57344, .inl zfT_fars)), (aT_queue, .inl (G.2.1, 57344, .inl zfT_queue)), (aT_spells, .inl (G.2.1, 50, .inl fT_spells))] H → va_D A [(aT, .inr (7, [.ref aT_text, .int vT_length, .ref aT_read, .int vT_readMany, .int vT_people, .int vT_toldDay, .int vT_toldBroken, .ref aT_spells, .int vT_many, .int vT_now, .int vT_deeds, .ref aT_pasts, .int vT_pastMany, .ref aT_keptStates, .ref aT_keptDeeds, .ref aT_isKept, .int vT_at, .int vT_place, .int vT_end, .int vT_readPeople, .int vT_readSpells, .int zvT_lifted, .ref aT_fars, .ref aT_queue, .int zvT_queued, .ref aT_later, .int vT_laterMany, .ref aT_onWay, .ref aT_row, .int vT_rowMany, .ref aT_princes, .int vT_princeMany, .ref aT_tries, .int vT_triedMany])), (aT_fars, .inl (G.2.1, 57344, .inl zfT_fars)), (aT_queue, .inl (G.2.1, 57344, .inl zfT_queue)), (aT_spells, .inl (G.2.1, 50, .inl fT_spells))] → va_S A s.heap H lo → W p l e R s m ar below meth c H lo 0 0 Q (F0 m pc ls []) := by
    intro pc ls H lo zvT_lifted zvT_queued zfT_fars zfT_queue he hd h1 h2 h3
    have he := he.trans hrs
    cases he
    exact ret.2.1 _ _ _ _ rfl rfl hd h1 h2 h3
  clear ret hrs
  have hl : lv_has ls 8 [(0, .ref aT), (1, .int p1), (2, .int p2), (3, .int p3)] := hl
  obtain ⟨hx, hb, hml, hown, hts, hT⟩ := id X
  have hK := hKK.1
  have hw : ∀ w ∈ T0, w.before ar s = true := fun w h => hts w (hT w h)
  have i11 := fun w h => hT w (inT11 w h)
  unfold f_Mo_layFars at hev
  refine lv_aload_n hx hb dX11_layFars_0 rfl (lv_at hl 0 rfl) ?_
  obtain ⟨⟨w1, w2⟩, hq, hev⟩ := x_bd hev
  refine rgV X (KK_at hKK hS hAb) hR (st1 := []) (ws2 := [(aT, .inr (7, [.ref aT_text, .int vT_length, .ref aT_read, .int vT_readMany, .int vT_people, .int vT_toldDay, .int vT_toldBroken, .ref aT_spells, .int vT_many, .int vT_now, .int vT_deeds, .ref aT_pasts, .int vT_pastMany, .ref aT_keptStates, .ref aT_keptDeeds, .ref aT_isKept, .int vT_at, .int vT_place, .int vT_end, .int vT_readPeople, .int vT_readSpells, .int vT_lifted, .ref aT_fars, .ref aT_queue, .int w1, .ref aT_later, .int vT_laterMany, .ref aT_onWay, .ref aT_row, .int vT_rowMany, .ref aT_princes, .int vT_princeMany, .ref aT_tries, .int vT_triedMany])), (aT_fars, .inl (G.2.1, 57344, .inl w2)), (aT_queue, .inl (G.2.1, 57344, .inl fT_queue)), (aT_spells, .inl (G.2.1, 50, .inl fT_spells))]) (c_Mo_clearFars l G aT aT_text aT_read aT_spells aT_pasts aT_keptStates aT_keptDeeds aT_isKept aT_fars aT_queue aT_later aT_onWay aT_row aT_princes aT_tries vT_length vT_readMany vT_people vT_toldDay vT_toldBroken vT_many vT_now vT_deeds vT_pastMany vT_at vT_place vT_end vT_readPeople vT_readSpells vT_lifted vT_queued vT_laterMany vT_rowMany vT_princeMany vT_triedMany fT_fars k w1 w2 hq) K_X11_clearFars u1389 hP hD hS hA hAb [0, 1] rfl (sbC rfl (sbC rfl sb0)) (mgN 0 rfl rfl (mgN 1 rfl rfl (mgK (by decide) (mgK (by decide) (mg0))))) rfl (q0 := 0) rfl (by decide) ⟨Nat.zero_le _, Nat.zero_le _⟩ rfl hl.1 rfl (Nat.le_of_ble_eq_true rfl) rfl dX11_layFars_1 (fun H lo hP hD hS => ?_)
  refine lv_aload_n hx hb dX11_layFars_4 rfl (lv_at hl 0 rfl) ?_
  refine lv_iload_n hx hb dX11_layFars_5 rfl (lv_at hl 1 rfl) ?_
  refine lv_iconst (v := (0 : Int32)) hx hb dX11_layFars_6 (by decide) ?_
  obtain ⟨⟨w3, w4, w5⟩, hq, hev⟩ := x_bd hev
  refine rgV X (KK_at hKK hS hAb) hR (st1 := []) (ws2 := [(aT, .inr (7, [.ref aT_text, .int vT_length, .ref aT_read, .int vT_readMany, .int vT_people, .int vT_toldDay, .int vT_toldBroken, .ref aT_spells, .int vT_many, .int vT_now, .int vT_deeds, .ref aT_pasts, .int vT_pastMany, .ref aT_keptStates, .ref aT_keptDeeds, .ref aT_isKept, .int vT_at, .int vT_place, .int vT_end, .int vT_readPeople, .int vT_readSpells, .int vT_lifted, .ref aT_fars, .ref aT_queue, .int w3, .ref aT_later, .int vT_laterMany, .ref aT_onWay, .ref aT_row, .int vT_rowMany, .ref aT_princes, .int vT_princeMany, .ref aT_tries, .int vT_triedMany])), (aT_fars, .inl (G.2.1, 57344, .inl w4)), (aT_queue, .inl (G.2.1, 57344, .inl w5)), (aT_spells, .inl (G.2.1, 50, .inl fT_spells))]) (c_Mo_put l G aT aT_text aT_read aT_spells aT_pasts aT_keptStates aT_keptDeeds aT_isKept aT_fars aT_queue aT_later aT_onWay aT_row aT_princes aT_tries vT_length vT_readMany vT_people vT_toldDay vT_toldBroken vT_many vT_now vT_deeds vT_pastMany vT_at vT_place vT_end vT_readPeople vT_readSpells vT_lifted w1 vT_laterMany vT_rowMany vT_princeMany vT_triedMany w2 fT_queue p1 (0 : Int32) w3 w4 w5 hq) K_X11_put u1393 hP hD hS hA hAb [0, 1, 2] rfl (sbC rfl (sbC rfl (sbC rfl sb0))) (mgN 0 rfl rfl (mgN 1 rfl rfl (mgN 2 rfl rfl (mgK (by decide) (mg0))))) rfl (q0 := 0) rfl (by decide) ⟨Nat.zero_le _, Nat.zero_le _⟩ rfl hl.1 rfl (Nat.le_of_ble_eq_true rfl) rfl dX11_layFars_7 (fun H lo hP hD hS => ?_)
  refine lv_iconst (v := (0 : Int32)) hx hb dX11_layFars_10 (by decide) ?_
  refine lv_istore (lv' := [(4, .int (0 : Int32)), (0, .ref aT), (1, .int p1), (2, .int p2), (3, .int p3)]) hx hb dX11_layFars_11 hl (by decide) rfl (fun ls hl => ?_)
  have L13 : ∀ (x2 : Int32) (x3 : Int32), ∀ (k : Nat) (x4 : Int32) (vT_lifted : Int32) (vT_queued : Int32) (fT_fars : Nat → Int32) (fT_queue : Nat → Int32) (ovT_lifted : Int32) (ovT_queued : Int32) (ofT_fars : Nat → Int32) (ofT_queue : Nat → Int32), f_Mo_layFars_L13 vT_many vT_people fT_spells x2 x3 k x4 vT_lifted vT_queued fT_fars fT_queue = some (ovT_lifted, ovT_queued, ofT_fars, ofT_queue) → (∀ (H : Heap) (lo : List Loc), va_P G.1 classes [(aT, .inr (7, [.ref aT_text, .int vT_length, .ref aT_read, .int vT_readMany, .int vT_people, .int vT_toldDay, .int vT_toldBroken, .ref aT_spells, .int vT_many, .int vT_now, .int vT_deeds, .ref aT_pasts, .int vT_pastMany, .ref aT_keptStates, .ref aT_keptDeeds, .ref aT_isKept, .int vT_at, .int vT_place, .int vT_end, .int vT_readPeople, .int vT_readSpells, .int ovT_lifted, .ref aT_fars, .ref aT_queue, .int ovT_queued, .ref aT_later, .int vT_laterMany, .ref aT_onWay, .ref aT_row, .int vT_rowMany, .ref aT_princes, .int vT_princeMany, .ref aT_tries, .int vT_triedMany])), (aT_fars, .inl (G.2.1, 57344, .inl ofT_fars)), (aT_queue, .inl (G.2.1, 57344, .inl ofT_queue)), (aT_spells, .inl (G.2.1, 50, .inl fT_spells))] H → va_D A [(aT, .inr (7, [.ref aT_text, .int vT_length, .ref aT_read, .int vT_readMany, .int vT_people, .int vT_toldDay, .int vT_toldBroken, .ref aT_spells, .int vT_many, .int vT_now, .int vT_deeds, .ref aT_pasts, .int vT_pastMany, .ref aT_keptStates, .ref aT_keptDeeds, .ref aT_isKept, .int vT_at, .int vT_place, .int vT_end, .int vT_readPeople, .int vT_readSpells, .int ovT_lifted, .ref aT_fars, .ref aT_queue, .int ovT_queued, .ref aT_later, .int vT_laterMany, .ref aT_onWay, .ref aT_row, .int vT_rowMany, .ref aT_princes, .int vT_princeMany, .ref aT_tries, .int vT_triedMany])), (aT_fars, .inl (G.2.1, 57344, .inl ofT_fars)), (aT_queue, .inl (G.2.1, 57344, .inl ofT_queue)), (aT_spells, .inl (G.2.1, 50, .inl fT_spells))] → va_S A s.heap H lo → ∀ (ls : Array Slot), lv_has ls 8 [] → W p l e R s m ar below meth c H lo 0 0 Q (F0 m 107 ls [])) → ∀ (H : Heap) (lo : List Loc), va_P G.1 classes [(aT, .inr (7, [.ref aT_text, .int vT_length, .ref aT_read, .int vT_readMany, .int vT_people, .int vT_toldDay, .int vT_toldBroken, .ref aT_spells, .int vT_many, .int vT_now, .int vT_deeds, .ref aT_pasts, .int vT_pastMany, .ref aT_keptStates, .ref aT_keptDeeds, .ref aT_isKept, .int vT_at, .int vT_place, .int vT_end, .int vT_readPeople, .int vT_readSpells, .int vT_lifted, .ref aT_fars, .ref aT_queue, .int vT_queued, .ref aT_later, .int vT_laterMany, .ref aT_onWay, .ref aT_row, .int vT_rowMany, .ref aT_princes, .int vT_princeMany, .ref aT_tries, .int vT_triedMany])), (aT_fars, .inl (G.2.1, 57344, .inl fT_fars)), (aT_queue, .inl (G.2.1, 57344, .inl fT_queue)), (aT_spells, .inl (G.2.1, 50, .inl fT_spells))] H → va_D A [(aT, .inr (7, [.ref aT_text, .int vT_length, .ref aT_read, .int vT_readMany, .int vT_people, .int vT_toldDay, .int vT_toldBroken, .ref aT_spells, .int vT_many, .int vT_now, .int vT_deeds, .ref aT_pasts, .int vT_pastMany, .ref aT_keptStates, .ref aT_keptDeeds, .ref aT_isKept, .int vT_at, .int vT_place, .int vT_end, .int vT_readPeople, .int vT_readSpells, .int vT_lifted, .ref aT_fars, .ref aT_queue, .int vT_queued, .ref aT_later, .int vT_laterMany, .ref aT_onWay, .ref aT_row, .int vT_rowMany, .ref aT_princes, .int vT_princeMany, .ref aT_tries, .int vT_triedMany])), (aT_fars, .inl (G.2.1, 57344, .inl fT_fars)), (aT_queue, .inl (G.2.1, 57344, .inl fT_queue)), (aT_spells, .inl (G.2.1, 50, .inl fT_spells))] → va_S A s.heap H lo → ∀ (ls : Array Slot), lv_has ls 8 [(0, .ref aT), (2, .int x2), (3, .int x3), (4, .int x4)] → W p l e R s m ar below meth c H lo 0 0 Q (F0 m 13 ls []) := by
    intro x2 x3 k
    induction k with
    | zero => intro x4 vT_lifted vT_queued fT_fars fT_queue ovT_lifted ovT_queued ofT_fars ofT_queue hev; rw [f_Mo_layFars_L13] at hev; cases hev
    | succ k ih =>
      intro x4 vT_lifted vT_queued fT_fars fT_queue ovT_lifted ovT_queued ofT_fars ofT_queue hev hex H lo hP hD hS ls hl
      rw [f_Mo_layFars_L13] at hev
      refine lv_iload hx hb dX11_layFars_13 (lv_at hl 3 rfl) ?_
      refine lv_aload_n hx hb dX11_layFars_15 rfl (lv_at hl 0 rfl) ?_
      refine va_get (D := G.1) (ci := 7) (v := .int vT_queued) (C := RX11) (T := TX11) (N := 34) hx hb hts i11 hown hK hP 0 rfl rfl 24 (by decide) (hw _ u1111) (fun _ h9 => h9) rfl dX11_layFars_16 ?_
      refine lv_icmp_ge (tgt := 107) hx hb dX11_layFars_19 (by decide) (fun c6 => ?_) (fun c6 => ?_)
      · replace hev := x_t c6 hev
        cases hev
        exact hex _ _ hP hD hS ls (lv_sub hl [] rfl)
      · replace hev := x_f c6 hev
        refine lv_aload_n hx hb dX11_layFars_22 rfl (lv_at hl 0 rfl) ?_
        refine va_get (D := G.1) (ci := 7) (v := .ref aT_queue) (C := RX11) (T := TX11) (N := 34) hx hb hts i11 hown hK hP 0 rfl rfl 23 (by decide) (hw _ u1110) (fun _ h9 => h9) rfl dX11_layFars_23 ?_
        refine lv_iload hx hb dX11_layFars_26 (lv_at hl 3 rfl) ?_
        obtain ⟨h7, hev⟩ := x_ld hev
        refine va_iald hx hb hK hP 2 0 rfl rfl h7 dX11_layFars_28 ?_
        refine lv_topi (fun v8 ev8 => ?_)
        replace hev := hev v8 ev8
        refine lv_istore (lv' := [(5, .int v8), (0, .ref aT), (2, .int x2), (3, .int x3), (4, .int x4)]) hx hb dX11_layFars_29 hl (by decide) rfl (fun ls hl => ?_)
        refine lv_iconst (v := (0 : Int32)) hx hb dX11_layFars_31 (by decide) ?_
        refine lv_istore (lv' := [(6, .int (0 : Int32)), (5, .int v8), (0, .ref aT), (2, .int x2), (3, .int x3), (4, .int x4)]) hx hb dX11_layFars_32 hl (by decide) rfl (fun ls hl => ?_)
        have L34 : ∀ (x2 : Int32) (x3 : Int32) (x4 : Int32) (x5 : Int32), ∀ (k : Nat) (x6 : Int32) (vT_lifted : Int32) (vT_queued : Int32) (fT_fars : Nat → Int32) (fT_queue : Nat → Int32) (ovT_lifted : Int32) (ovT_queued : Int32) (ofT_fars : Nat → Int32) (ofT_queue : Nat → Int32), f_Mo_layFars_L34 vT_many vT_people fT_spells x2 x3 x4 x5 k x6 vT_lifted vT_queued fT_fars fT_queue = some (ovT_lifted, ovT_queued, ofT_fars, ofT_queue) → (∀ (H : Heap) (lo : List Loc), va_P G.1 classes [(aT, .inr (7, [.ref aT_text, .int vT_length, .ref aT_read, .int vT_readMany, .int vT_people, .int vT_toldDay, .int vT_toldBroken, .ref aT_spells, .int vT_many, .int vT_now, .int vT_deeds, .ref aT_pasts, .int vT_pastMany, .ref aT_keptStates, .ref aT_keptDeeds, .ref aT_isKept, .int vT_at, .int vT_place, .int vT_end, .int vT_readPeople, .int vT_readSpells, .int ovT_lifted, .ref aT_fars, .ref aT_queue, .int ovT_queued, .ref aT_later, .int vT_laterMany, .ref aT_onWay, .ref aT_row, .int vT_rowMany, .ref aT_princes, .int vT_princeMany, .ref aT_tries, .int vT_triedMany])), (aT_fars, .inl (G.2.1, 57344, .inl ofT_fars)), (aT_queue, .inl (G.2.1, 57344, .inl ofT_queue)), (aT_spells, .inl (G.2.1, 50, .inl fT_spells))] H → va_D A [(aT, .inr (7, [.ref aT_text, .int vT_length, .ref aT_read, .int vT_readMany, .int vT_people, .int vT_toldDay, .int vT_toldBroken, .ref aT_spells, .int vT_many, .int vT_now, .int vT_deeds, .ref aT_pasts, .int vT_pastMany, .ref aT_keptStates, .ref aT_keptDeeds, .ref aT_isKept, .int vT_at, .int vT_place, .int vT_end, .int vT_readPeople, .int vT_readSpells, .int ovT_lifted, .ref aT_fars, .ref aT_queue, .int ovT_queued, .ref aT_later, .int vT_laterMany, .ref aT_onWay, .ref aT_row, .int vT_rowMany, .ref aT_princes, .int vT_princeMany, .ref aT_tries, .int vT_triedMany])), (aT_fars, .inl (G.2.1, 57344, .inl ofT_fars)), (aT_queue, .inl (G.2.1, 57344, .inl ofT_queue)), (aT_spells, .inl (G.2.1, 50, .inl fT_spells))] → va_S A s.heap H lo → ∀ (ls : Array Slot), lv_has ls 8 [(0, .ref aT), (2, .int x2), (3, .int x3), (4, .int x4)] → W p l e R s m ar below meth c H lo 0 0 Q (F0 m 101 ls [])) → ∀ (H : Heap) (lo : List Loc), va_P G.1 classes [(aT, .inr (7, [.ref aT_text, .int vT_length, .ref aT_read, .int vT_readMany, .int vT_people, .int vT_toldDay, .int vT_toldBroken, .ref aT_spells, .int vT_many, .int vT_now, .int vT_deeds, .ref aT_pasts, .int vT_pastMany, .ref aT_keptStates, .ref aT_keptDeeds, .ref aT_isKept, .int vT_at, .int vT_place, .int vT_end, .int vT_readPeople, .int vT_readSpells, .int vT_lifted, .ref aT_fars, .ref aT_queue, .int vT_queued, .ref aT_later, .int vT_laterMany, .ref aT_onWay, .ref aT_row, .int vT_rowMany, .ref aT_princes, .int vT_princeMany, .ref aT_tries, .int vT_triedMany])), (aT_fars, .inl (G.2.1, 57344, .inl fT_fars)), (aT_queue, .inl (G.2.1, 57344, .inl fT_queue)), (aT_spells, .inl (G.2.1, 50, .inl fT_spells))] H → va_D A [(aT, .inr (7, [.ref aT_text, .int vT_length, .ref aT_read, .int vT_readMany, .int vT_people, .int vT_toldDay, .int vT_toldBroken, .ref aT_spells, .int vT_many, .int vT_now, .int vT_deeds, .ref aT_pasts, .int vT_pastMany, .ref aT_keptStates, .ref aT_keptDeeds, .ref aT_isKept, .int vT_at, .int vT_place, .int vT_end, .int vT_readPeople, .int vT_readSpells, .int vT_lifted, .ref aT_fars, .ref aT_queue, .int vT_queued, .ref aT_later, .int vT_laterMany, .ref aT_onWay, .ref aT_row, .int vT_rowMany, .ref aT_princes, .int vT_princeMany, .ref aT_tries, .int vT_triedMany])), (aT_fars, .inl (G.2.1, 57344, .inl fT_fars)), (aT_queue, .inl (G.2.1, 57344, .inl fT_queue)), (aT_spells, .inl (G.2.1, 50, .inl fT_spells))] → va_S A s.heap H lo → ∀ (ls : Array Slot), lv_has ls 8 [(0, .ref aT), (2, .int x2), (3, .int x3), (4, .int x4), (5, .int x5), (6, .int x6)] → W p l e R s m ar below meth c H lo 0 0 Q (F0 m 34 ls []) := by
          intro x2 x3 x4 x5 k
          induction k with
          | zero => intro x6 vT_lifted vT_queued fT_fars fT_queue ovT_lifted ovT_queued ofT_fars ofT_queue hev; rw [f_Mo_layFars_L34] at hev; cases hev
          | succ k ih =>
            intro x6 vT_lifted vT_queued fT_fars fT_queue ovT_lifted ovT_queued ofT_fars ofT_queue hev hex H lo hP hD hS ls hl
            rw [f_Mo_layFars_L34] at hev
            have J95 : ∀ (vT_lifted : Int32) (vT_queued : Int32) (fT_fars : Nat → Int32) (fT_queue : Nat → Int32) (x6 : Int32), ∀ (H : Heap) (lo : List Loc), va_P G.1 classes [(aT, .inr (7, [.ref aT_text, .int vT_length, .ref aT_read, .int vT_readMany, .int vT_people, .int vT_toldDay, .int vT_toldBroken, .ref aT_spells, .int vT_many, .int vT_now, .int vT_deeds, .ref aT_pasts, .int vT_pastMany, .ref aT_keptStates, .ref aT_keptDeeds, .ref aT_isKept, .int vT_at, .int vT_place, .int vT_end, .int vT_readPeople, .int vT_readSpells, .int vT_lifted, .ref aT_fars, .ref aT_queue, .int vT_queued, .ref aT_later, .int vT_laterMany, .ref aT_onWay, .ref aT_row, .int vT_rowMany, .ref aT_princes, .int vT_princeMany, .ref aT_tries, .int vT_triedMany])), (aT_fars, .inl (G.2.1, 57344, .inl fT_fars)), (aT_queue, .inl (G.2.1, 57344, .inl fT_queue)), (aT_spells, .inl (G.2.1, 50, .inl fT_spells))] H → va_D A [(aT, .inr (7, [.ref aT_text, .int vT_length, .ref aT_read, .int vT_readMany, .int vT_people, .int vT_toldDay, .int vT_toldBroken, .ref aT_spells, .int vT_many, .int vT_now, .int vT_deeds, .ref aT_pasts, .int vT_pastMany, .ref aT_keptStates, .ref aT_keptDeeds, .ref aT_isKept, .int vT_at, .int vT_place, .int vT_end, .int vT_readPeople, .int vT_readSpells, .int vT_lifted, .ref aT_fars, .ref aT_queue, .int vT_queued, .ref aT_later, .int vT_laterMany, .ref aT_onWay, .ref aT_row, .int vT_rowMany, .ref aT_princes, .int vT_princeMany, .ref aT_tries, .int vT_triedMany])), (aT_fars, .inl (G.2.1, 57344, .inl fT_fars)), (aT_queue, .inl (G.2.1, 57344, .inl fT_queue)), (aT_spells, .inl (G.2.1, 50, .inl fT_spells))] → va_S A s.heap H lo → ∀ (ls : Array Slot), f_Mo_layFars_J95 (f_Mo_layFars_L34 vT_many vT_people fT_spells x2 x3 x4 x5 k) k vT_lifted vT_many vT_people vT_queued fT_fars fT_queue fT_spells x2 x3 x4 x5 x6 = some (ovT_lifted, ovT_queued, ofT_fars, ofT_queue) → lv_has ls 8 [(0, .ref aT), (2, .int x2), (3, .int x3), (4, .int x4), (5, .int x5), (6, .int x6)] → W p l e R s m ar below meth c H lo 0 0 Q (F0 m 95 ls []) := by
              intro vT_lifted vT_queued fT_fars fT_queue x6 H lo hP hD hS ls hev hl
              unfold f_Mo_layFars_J95 at hev
              obtain ⟨y9, ey9⟩ : ∃ y : Int32, y = x6 + (1 : Int32) := ⟨_, rfl⟩
              refine lv_iinc (v := y9) (lv' := [(6, .int y9), (0, .ref aT), (2, .int x2), (3, .int x3), (4, .int x4), (5, .int x5)]) hx hb dX11_layFars_95 hl (k := 5) rfl (by rw [ey9]; rfl) (by decide) rfl (fun ls hl => ?_)
              replace hev := x_lt hev y9 ey9
              refine lv_goto (tgt := 34) hx hb dX11_layFars_98 (by decide) ?_
              exact ih y9 vT_lifted vT_queued fT_fars fT_queue _ _ _ _ hev hex _ _ hP hD hS ls (lv_sub hl [1, 2, 3, 4, 5, 0] rfl)
            refine lv_iload hx hb dX11_layFars_34 (lv_at hl 5 rfl) ?_
            refine lv_bipush (v := (22 : Int32)) hx hb dX11_layFars_36 (by decide) ?_
            refine lv_icmp_ge (tgt := 101) hx hb dX11_layFars_38 (by decide) (fun c10 => ?_) (fun c10 => ?_)
            · replace hev := x_t c10 hev
              cases hev
              exact hex _ _ hP hD hS ls (lv_sub hl [0, 1, 2, 3] rfl)
            · replace hev := x_f c10 hev
              refine lv_iload hx hb dX11_layFars_41 (lv_at hl 5 rfl) ?_
              refine lv_iload_n hx hb dX11_layFars_43 rfl (lv_at hl 1 rfl) ?_
              obtain ⟨y11, hq, hev⟩ := x_bd hev
              refine roS X (KK_at hKK hS hAb) hR (st1 := [.int y11]) (c_Mo_isBy l G x6 x2 y11 hq) K_X11_isBy u1397 (x_Psub hP [] rfl) (by decide) ⟨Nat.zero_le _, Nat.zero_le _⟩ rfl hl.1 rfl (Nat.le_of_ble_eq_true rfl) rfl dX11_layFars_44 ?_
              refine lv_if_eq (tgt := 95) hx hb dX11_layFars_47 (by decide) (fun c12 => ?_) (fun c12 => ?_)
              · replace hev := x_t c12 hev
                exact J95 vT_lifted vT_queued fT_fars fT_queue x6 _ _ hP hD hS ls hev (lv_sub hl [0, 1, 2, 3, 4, 5] rfl)
              · replace hev := x_f c12 hev
                refine lv_aload_n hx hb dX11_layFars_50 rfl (lv_at hl 0 rfl) ?_
                refine lv_iload hx hb dX11_layFars_51 (lv_at hl 4 rfl) ?_
                refine lv_iload hx hb dX11_layFars_53 (lv_at hl 5 rfl) ?_
                obtain ⟨y13, hq, hev⟩ := x_bd hev
                refine roV X (KK_at hKK hS hAb) hR (st1 := [.int y13]) (c_Mo_canDo l G aT aT_text aT_read aT_spells aT_pasts aT_keptStates aT_keptDeeds aT_isKept aT_fars aT_queue aT_later aT_onWay aT_row aT_princes aT_tries vT_length vT_readMany vT_people vT_toldDay vT_toldBroken vT_many vT_now vT_deeds vT_pastMany vT_at vT_place vT_end vT_readPeople vT_readSpells vT_lifted vT_queued vT_laterMany vT_rowMany vT_princeMany vT_triedMany fT_spells k x5 x6 y13 hq) K_X11_canDo u1345 (x_Psub hP [0, 3] rfl) rfl (q0 := 0) rfl (by decide) ⟨Nat.zero_le _, Nat.zero_le _⟩ rfl hl.1 rfl (Nat.le_of_ble_eq_true rfl) rfl dX11_layFars_55 ?_
                refine lv_if_eq (tgt := 95) hx hb dX11_layFars_58 (by decide) (fun c14 => ?_) (fun c14 => ?_)
                · replace hev := x_t c14 hev
                  exact J95 vT_lifted vT_queued fT_fars fT_queue x6 _ _ hP hD hS ls hev (lv_sub hl [0, 1, 2, 3, 4, 5] rfl)
                · replace hev := x_f c14 hev
                  refine lv_aload_n hx hb dX11_layFars_61 rfl (lv_at hl 0 rfl) ?_
                  refine lv_iload hx hb dX11_layFars_62 (lv_at hl 4 rfl) ?_
                  refine lv_iload hx hb dX11_layFars_64 (lv_at hl 5 rfl) ?_
                  obtain ⟨⟨y15, w16⟩, hq, hev⟩ := x_bd hev
                  refine rgV X (KK_at hKK hS hAb) hR (st1 := [.int y15]) (ws2 := [(aT, .inr (7, [.ref aT_text, .int vT_length, .ref aT_read, .int vT_readMany, .int vT_people, .int vT_toldDay, .int vT_toldBroken, .ref aT_spells, .int vT_many, .int vT_now, .int vT_deeds, .ref aT_pasts, .int vT_pastMany, .ref aT_keptStates, .ref aT_keptDeeds, .ref aT_isKept, .int vT_at, .int vT_place, .int vT_end, .int vT_readPeople, .int vT_readSpells, .int w16, .ref aT_fars, .ref aT_queue, .int vT_queued, .ref aT_later, .int vT_laterMany, .ref aT_onWay, .ref aT_row, .int vT_rowMany, .ref aT_princes, .int vT_princeMany, .ref aT_tries, .int vT_triedMany])), (aT_fars, .inl (G.2.1, 57344, .inl fT_fars)), (aT_queue, .inl (G.2.1, 57344, .inl fT_queue)), (aT_spells, .inl (G.2.1, 50, .inl fT_spells))]) (c_Mo_behind l G aT aT_text aT_read aT_spells aT_pasts aT_keptStates aT_keptDeeds aT_isKept aT_fars aT_queue aT_later aT_onWay aT_row aT_princes aT_tries vT_length vT_readMany vT_people vT_toldDay vT_toldBroken vT_many vT_now vT_deeds vT_pastMany vT_at vT_place vT_end vT_readPeople vT_readSpells vT_lifted vT_queued vT_laterMany vT_rowMany vT_princeMany vT_triedMany fT_spells k x5 x6 y15 w16 hq) K_X11_behind u1353 hP hD hS hA hAb [0, 3] rfl (sbC rfl (sbC rfl sb0)) (mgN 0 rfl rfl (mgK (by decide) (mgK (by decide) (mgN 1 rfl rfl (mg0))))) rfl (q0 := 0) rfl (by decide) ⟨Nat.zero_le _, Nat.zero_le _⟩ rfl hl.1 rfl (Nat.le_of_ble_eq_true rfl) rfl dX11_layFars_66 (fun H lo hP hD hS => ?_)
                  refine lv_istore (lv' := [(7, .int y15), (0, .ref aT), (2, .int x2), (3, .int x3), (4, .int x4), (5, .int x5), (6, .int x6)]) hx hb dX11_layFars_69 hl (by decide) rfl (fun ls hl => ?_)
                  refine lv_aload_n hx hb dX11_layFars_71 rfl (lv_at hl 1 rfl) ?_
                  refine va_get (D := G.1) (ci := 7) (v := .int w16) (C := RX11) (T := TX11) (N := 34) hx hb hts i11 hown hK hP 0 rfl rfl 21 (by decide) (hw _ u1108) (fun _ h9 => h9) rfl dX11_layFars_72 ?_
                  refine lv_iload_n hx hb dX11_layFars_75 rfl (lv_at hl 3 rfl) ?_
                  refine lv_iand hx hb dX11_layFars_76 ?_
                  refine lv_if_ne (tgt := 95) hx hb dX11_layFars_77 (by decide) (fun c17 => ?_) (fun c17 => ?_)
                  · replace hev := x_f c17 hev
                    exact J95 w16 vT_queued fT_fars fT_queue x6 _ _ hP hD hS ls hev (lv_sub hl [1, 2, 3, 4, 5, 6] rfl)
                  · replace hev := x_t c17 hev
                    refine lv_aload_n hx hb dX11_layFars_80 rfl (lv_at hl 1 rfl) ?_
                    refine lv_iload hx hb dX11_layFars_81 (lv_at hl 0 rfl) ?_
                    refine lv_aload_n hx hb dX11_layFars_83 rfl (lv_at hl 1 rfl) ?_
                    refine va_get (D := G.1) (ci := 7) (v := .ref aT_fars) (C := RX11) (T := TX11) (N := 34) hx hb hts i11 hown hK hP 0 rfl rfl 22 (by decide) (hw _ u1109) (fun _ h9 => h9) rfl dX11_layFars_84 ?_
                    refine lv_iload hx hb dX11_layFars_87 (lv_at hl 5 rfl) ?_
                    obtain ⟨h18, hev⟩ := x_ld hev
                    refine va_iald hx hb hK hP 1 0 rfl rfl h18 dX11_layFars_89 ?_
                    refine lv_topi (fun v19 ev19 => ?_)
                    replace hev := hev v19 ev19
                    refine lv_iconst (v := (1 : Int32)) hx hb dX11_layFars_90 (by decide) ?_
                    refine lv_iadd hx hb dX11_layFars_91 ?_
                    obtain ⟨⟨w20, w21, w22⟩, hq, hev⟩ := x_bd hev
                    refine rgV X (KK_at hKK hS hAb) hR (st1 := []) (ws2 := [(aT, .inr (7, [.ref aT_text, .int vT_length, .ref aT_read, .int vT_readMany, .int vT_people, .int vT_toldDay, .int vT_toldBroken, .ref aT_spells, .int vT_many, .int vT_now, .int vT_deeds, .ref aT_pasts, .int vT_pastMany, .ref aT_keptStates, .ref aT_keptDeeds, .ref aT_isKept, .int vT_at, .int vT_place, .int vT_end, .int vT_readPeople, .int vT_readSpells, .int w16, .ref aT_fars, .ref aT_queue, .int w20, .ref aT_later, .int vT_laterMany, .ref aT_onWay, .ref aT_row, .int vT_rowMany, .ref aT_princes, .int vT_princeMany, .ref aT_tries, .int vT_triedMany])), (aT_fars, .inl (G.2.1, 57344, .inl w21)), (aT_queue, .inl (G.2.1, 57344, .inl w22)), (aT_spells, .inl (G.2.1, 50, .inl fT_spells))]) (c_Mo_put l G aT aT_text aT_read aT_spells aT_pasts aT_keptStates aT_keptDeeds aT_isKept aT_fars aT_queue aT_later aT_onWay aT_row aT_princes aT_tries vT_length vT_readMany vT_people vT_toldDay vT_toldBroken vT_many vT_now vT_deeds vT_pastMany vT_at vT_place vT_end vT_readPeople vT_readSpells w16 vT_queued vT_laterMany vT_rowMany vT_princeMany vT_triedMany fT_fars fT_queue y15 (v19 + (1 : Int32)) w20 w21 w22 hq) K_X11_put u1393 hP hD hS hA hAb [0, 1, 2] rfl (sbC rfl (sbC rfl (sbC rfl sb0))) (mgN 0 rfl rfl (mgN 1 rfl rfl (mgN 2 rfl rfl (mgK (by decide) (mg0))))) rfl (q0 := 0) rfl (by decide) ⟨Nat.zero_le _, Nat.zero_le _⟩ rfl hl.1 rfl (Nat.le_of_ble_eq_true rfl) rfl dX11_layFars_92 (fun H lo hP hD hS => ?_)
                    exact J95 w16 w20 w21 w22 x6 _ _ hP hD hS ls hev (lv_sub hl [1, 2, 3, 4, 5, 6] rfl)
        obtain ⟨⟨w23, w24, w25, w26⟩, hq, hev⟩ := x_bd hev
        refine L34 x2 x3 x4 v8 k (0 : Int32) vT_lifted vT_queued fT_fars fT_queue w23 w24 w25 w26 hq (fun H lo hP hD hS ls hl => ?_) _ _ hP hD hS ls (lv_sub hl [2, 3, 4, 5, 1, 0] rfl)
        obtain ⟨y27, ey27⟩ : ∃ y : Int32, y = x4 + (1 : Int32) := ⟨_, rfl⟩
        refine lv_iinc (v := y27) (lv' := [(4, .int y27), (0, .ref aT), (2, .int x2), (3, .int x3)]) hx hb dX11_layFars_101 hl (k := 3) rfl (by rw [ey27]; rfl) (by decide) rfl (fun ls hl => ?_)
        replace hev := x_lt hev y27 ey27
        refine lv_goto (tgt := 13) hx hb dX11_layFars_104 (by decide) ?_
        exact ih y27 w23 w24 w25 w26 _ _ _ _ hev hex _ _ hP hD hS ls (lv_sub hl [1, 2, 3, 0] rfl)
  obtain ⟨⟨w28, w29, w30, w31⟩, hq, hev⟩ := x_bd hev
  refine L13 p2 p3 k (0 : Int32) vT_lifted w3 w4 w5 w28 w29 w30 w31 hq (fun H lo hP hD hS ls hl => ?_) _ _ hP hD hS ls (lv_sub hl [1, 3, 4, 0] rfl)
  exact ret2 _ _ _ _ w28 w29 w30 w31 (Option.some.inj hev) dX11_layFars_107 hP hD hS
def f_Mo_layAll (k : Nat) (vT_lifted : Int32) (vT_many : Int32) (vT_people : Int32) (vT_queued : Int32) (fT_fars : Nat → Int32) (fT_queue : Nat → Int32) (fT_spells : Nat → Int32) (p1 : Int32) : Option (Int32 × Int32 × (Nat → Int32) × (Nat → Int32)) := x_B (f_Mo_layFars k vT_lifted vT_many vT_people vT_queued fT_fars fT_queue fT_spells p1 (7 : Int32) (0 : Int32)) (fun ⟨w1, w2, w3, w4⟩ => some (w1, w2, w3, w4))
set_option maxHeartbeats 8000000 in
set_option maxRecDepth 100000 in
theorem c_Mo_layAll (l : Launch) (G : GG) (aT aT_text aT_read aT_spells aT_pasts aT_keptStates aT_keptDeeds aT_isKept aT_fars aT_queue aT_later aT_onWay aT_row aT_princes aT_tries : Nat) (vT_length : Int32) (vT_readMany : Int32) (vT_people : Int32) (vT_toldDay : Int32) (vT_toldBroken : Int32) (vT_many : Int32) (vT_now : Int32) (vT_deeds : Int32) (vT_pastMany : Int32) (vT_at : Int32) (vT_place : Int32) (vT_end : Int32) (vT_readPeople : Int32) (vT_readSpells : Int32) (vT_lifted : Int32) (vT_queued : Int32) (vT_laterMany : Int32) (vT_rowMany : Int32) (vT_princeMany : Int32) (vT_triedMany : Int32) (fT_fars : Nat → Int32) (fT_queue : Nat → Int32) (fT_spells : Nat → Int32) (k : Nat) (p1 : Int32) (wvT_lifted : Int32) (wvT_queued : Int32) (wfT_fars : Nat → Int32) (wfT_queue : Nat → Int32) (hev : f_Mo_layAll k vT_lifted vT_many vT_people vT_queued fT_fars fT_queue fT_spells p1 = some (wvT_lifted, wvT_queued, wfT_fars, wfT_queue)) : RW l G yX11_layAll cX11_layAll 2 none 5 [.ref aT, .int p1] [(aT, .inr (7, [.ref aT_text, .int vT_length, .ref aT_read, .int vT_readMany, .int vT_people, .int vT_toldDay, .int vT_toldBroken, .ref aT_spells, .int vT_many, .int vT_now, .int vT_deeds, .ref aT_pasts, .int vT_pastMany, .ref aT_keptStates, .ref aT_keptDeeds, .ref aT_isKept, .int vT_at, .int vT_place, .int vT_end, .int vT_readPeople, .int vT_readSpells, .int vT_lifted, .ref aT_fars, .ref aT_queue, .int vT_queued, .ref aT_later, .int vT_laterMany, .ref aT_onWay, .ref aT_row, .int vT_rowMany, .ref aT_princes, .int vT_princeMany, .ref aT_tries, .int vT_triedMany])), (aT_fars, .inl (G.2.1, 57344, .inl fT_fars)), (aT_queue, .inl (G.2.1, 57344, .inl fT_queue)), (aT_spells, .inl (G.2.1, 50, .inl fT_spells))] none [(aT, .inr (7, [.ref aT_text, .int vT_length, .ref aT_read, .int vT_readMany, .int vT_people, .int vT_toldDay, .int vT_toldBroken, .ref aT_spells, .int vT_many, .int vT_now, .int vT_deeds, .ref aT_pasts, .int vT_pastMany, .ref aT_keptStates, .ref aT_keptDeeds, .ref aT_isKept, .int vT_at, .int vT_place, .int vT_end, .int vT_readPeople, .int vT_readSpells, .int wvT_lifted, .ref aT_fars, .ref aT_queue, .int wvT_queued, .ref aT_later, .int vT_laterMany, .ref aT_onWay, .ref aT_row, .int vT_rowMany, .ref aT_princes, .int vT_princeMany, .ref aT_tries, .int vT_triedMany])), (aT_fars, .inl (G.2.1, 57344, .inl wfT_fars)), (aT_queue, .inl (G.2.1, 57344, .inl wfT_queue)), (aT_spells, .inl (G.2.1, 50, .inl fT_spells))] 0 0 := by
  refine RW_of (by decide) (Nat.le_of_ble_eq_true rfl) ?_
  intro p e s m ar below meth c R Q A ls X hR hRc hin hP hKK hD hS hA hAb hl ret
  obtain ⟨rs, hrs⟩ : ∃ q, q = (wvT_lifted, wvT_queued, wfT_fars, wfT_queue) := ⟨_, rfl⟩
  rw [← hrs] at hev
  have ret2 : ∀ (pc : Nat) (ls : Array Slot) (H : Heap) (lo : List Loc) (zvT_lifted : Int32) (zvT_queued : Int32) (zfT_fars : Nat → Int32) (zfT_queue : Nat → Int32), (zvT_lifted, zvT_queued, zfT_fars, zfT_queue) = rs → decode cX11_layAll pc = .ok (.return_, 1) → va_P G.1 classes [(aT, .inr (7, [.ref aT_text, .int vT_length, .ref aT_read, .int vT_readMany, .int vT_people, .int vT_toldDay, .int vT_toldBroken, .ref aT_spells, .int vT_many, .int vT_now, .int vT_deeds, .ref aT_pasts, .int vT_pastMany, .ref aT_keptStates, .ref aT_keptDeeds, .ref aT_isKept, .int vT_at, .int vT_place, .int vT_end, .int vT_readPeople, .int vT_readSpells, .int zvT_lifted, .ref aT_fars, .ref aT_queue, .int zvT_queued, .ref aT_later, .int vT_laterMany, .ref aT_onWay, .ref aT_row, .int vT_rowMany, .ref aT_princes, .int vT_princeMany, .ref aT_tries, .int vT_triedMany])), (aT_fars, .inl (G.2.1, 57344, .inl zfT_fars)), (aT_queue, .inl (G.2.1, 57344, .inl zfT_queue)), (aT_spells, .inl (G.2.1, 50, .inl fT_spells))] H → va_D A [(aT, .inr (7, [.ref aT_text, .int vT_length, .ref aT_read, .int vT_readMany, .int vT_people, .int vT_toldDay, .int vT_toldBroken, .ref aT_spells, .int vT_many, .int vT_now, .int vT_deeds, .ref aT_pasts, .int vT_pastMany, .ref aT_keptStates, .ref aT_keptDeeds, .ref aT_isKept, .int vT_at, .int vT_place, .int vT_end, .int vT_readPeople, .int vT_readSpells, .int zvT_lifted, .ref aT_fars, .ref aT_queue, .int zvT_queued, .ref aT_later, .int vT_laterMany, .ref aT_onWay, .ref aT_row, .int vT_rowMany, .ref aT_princes, .int vT_princeMany, .ref aT_tries, .int vT_triedMany])), (aT_fars, .inl (G.2.1, 57344, .inl zfT_fars)), (aT_queue, .inl (G.2.1, 57344, .inl zfT_queue)), (aT_spells, .inl (G.2.1, 50, .inl fT_spells))] → va_S A s.heap H lo → W p l e R s m ar below meth c H lo 0 0 Q (F0 m pc ls []) := by
    intro pc ls H lo zvT_lifted zvT_queued zfT_fars zfT_queue he hd h1 h2 h3
    have he := he.trans hrs
    cases he
    exact ret.2.1 _ _ _ _ rfl rfl hd h1 h2 h3
  clear ret hrs
  have hl : lv_has ls 2 [(0, .ref aT), (1, .int p1)] := hl
  obtain ⟨hx, hb, hml, hown, hts, hT⟩ := id X
  have hK := hKK.1
  have hw : ∀ w ∈ T0, w.before ar s = true := fun w h => hts w (hT w h)
  unfold f_Mo_layAll at hev
  refine lv_aload_n hx hb dX11_layAll_0 rfl (lv_at hl 0 rfl) ?_
  refine lv_iload_n hx hb dX11_layAll_1 rfl (lv_at hl 1 rfl) ?_
  refine lv_bipush (v := (7 : Int32)) hx hb dX11_layAll_2 (by decide) ?_
  refine lv_iconst (v := (0 : Int32)) hx hb dX11_layAll_4 (by decide) ?_
  obtain ⟨⟨w1, w2, w3, w4⟩, hq, hev⟩ := x_bd hev
  refine rgV X (KK_at hKK hS hAb) hR (st1 := []) (ws2 := [(aT, .inr (7, [.ref aT_text, .int vT_length, .ref aT_read, .int vT_readMany, .int vT_people, .int vT_toldDay, .int vT_toldBroken, .ref aT_spells, .int vT_many, .int vT_now, .int vT_deeds, .ref aT_pasts, .int vT_pastMany, .ref aT_keptStates, .ref aT_keptDeeds, .ref aT_isKept, .int vT_at, .int vT_place, .int vT_end, .int vT_readPeople, .int vT_readSpells, .int w1, .ref aT_fars, .ref aT_queue, .int w2, .ref aT_later, .int vT_laterMany, .ref aT_onWay, .ref aT_row, .int vT_rowMany, .ref aT_princes, .int vT_princeMany, .ref aT_tries, .int vT_triedMany])), (aT_fars, .inl (G.2.1, 57344, .inl w3)), (aT_queue, .inl (G.2.1, 57344, .inl w4)), (aT_spells, .inl (G.2.1, 50, .inl fT_spells))]) (c_Mo_layFars l G aT aT_text aT_read aT_spells aT_pasts aT_keptStates aT_keptDeeds aT_isKept aT_fars aT_queue aT_later aT_onWay aT_row aT_princes aT_tries vT_length vT_readMany vT_people vT_toldDay vT_toldBroken vT_many vT_now vT_deeds vT_pastMany vT_at vT_place vT_end vT_readPeople vT_readSpells vT_lifted vT_queued vT_laterMany vT_rowMany vT_princeMany vT_triedMany fT_fars fT_queue fT_spells k p1 (7 : Int32) (0 : Int32) w1 w2 w3 w4 hq) K_X11_layFars u1385 hP hD hS hA hAb [0, 1, 2, 3] rfl (sbC rfl (sbC rfl (sbC rfl (sbC rfl sb0)))) (mgN 0 rfl rfl (mgN 1 rfl rfl (mgN 2 rfl rfl (mgN 3 rfl rfl (mg0))))) rfl (q0 := 0) rfl (by decide) ⟨Nat.zero_le _, Nat.zero_le _⟩ rfl hl.1 rfl (Nat.le_of_ble_eq_true rfl) rfl dX11_layAll_5 (fun H lo hP hD hS => ?_)
  exact ret2 _ _ _ _ w1 w2 w3 w4 (Option.some.inj hev) dX11_layAll_8 hP hD hS
def f_Mo_fewestTo_L2 (vT_queued : Int32) (fT_fars : Nat → Int32) (fT_queue : Nat → Int32) (x1 : Int32) : Nat → Int32 → Option ((Unit) ⊕ (Int32))
  | 0, _ => none
  | k + 1, x2 => if vT_queued ≤ x2 then (some (.inl ())) else x_I 57344 fT_queue x2 (fun v3 => if (v3 &&& x1) = 0 then (x_I 57344 fT_queue x2 (fun v7 => x_I 57344 fT_fars v7 (fun v9 => some (.inr v9)))) else x_L (x2 + (1 : Int32)) (fun y5 => (f_Mo_fewestTo_L2 vT_queued fT_fars fT_queue x1 k) y5))
def f_Mo_fewestTo (k : Nat) (vT_queued : Int32) (fT_fars : Nat → Int32) (fT_queue : Nat → Int32) (p1 : Int32) : Option (Int32) := x_S (f_Mo_fewestTo_L2 vT_queued fT_fars fT_queue p1 k (0 : Int32)) (fun _ => some (-1 : Int32)) (fun r9 => some r9)
set_option maxHeartbeats 8000000 in
set_option maxRecDepth 100000 in
theorem c_Mo_fewestTo (l : Launch) (G : GG) (aT aT_text aT_read aT_spells aT_pasts aT_keptStates aT_keptDeeds aT_isKept aT_fars aT_queue aT_later aT_onWay aT_row aT_princes aT_tries : Nat) (vT_length : Int32) (vT_readMany : Int32) (vT_people : Int32) (vT_toldDay : Int32) (vT_toldBroken : Int32) (vT_many : Int32) (vT_now : Int32) (vT_deeds : Int32) (vT_pastMany : Int32) (vT_at : Int32) (vT_place : Int32) (vT_end : Int32) (vT_readPeople : Int32) (vT_readSpells : Int32) (vT_lifted : Int32) (vT_queued : Int32) (vT_laterMany : Int32) (vT_rowMany : Int32) (vT_princeMany : Int32) (vT_triedMany : Int32) (fT_queue : Nat → Int32) (fT_fars : Nat → Int32) (k : Nat) (p1 : Int32) (r0 : Int32) (hev : f_Mo_fewestTo k vT_queued fT_fars fT_queue p1 = some r0) : RO l G yX11_fewestTo cX11_fewestTo 3 (some .int) 0 [.ref aT, .int p1] [(aT, .inr (7, [.ref aT_text, .int vT_length, .ref aT_read, .int vT_readMany, .int vT_people, .int vT_toldDay, .int vT_toldBroken, .ref aT_spells, .int vT_many, .int vT_now, .int vT_deeds, .ref aT_pasts, .int vT_pastMany, .ref aT_keptStates, .ref aT_keptDeeds, .ref aT_isKept, .int vT_at, .int vT_place, .int vT_end, .int vT_readPeople, .int vT_readSpells, .int vT_lifted, .ref aT_fars, .ref aT_queue, .int vT_queued, .ref aT_later, .int vT_laterMany, .ref aT_onWay, .ref aT_row, .int vT_rowMany, .ref aT_princes, .int vT_princeMany, .ref aT_tries, .int vT_triedMany])), (aT_queue, .inl (G.2.1, 57344, .inl fT_queue)), (aT_fars, .inl (G.2.1, 57344, .inl fT_fars))] (some (.int r0)) := by
  refine RO_of (by decide) (Nat.le_of_ble_eq_true rfl) ?_
  intro p e s m ar below meth c R Q H ls X hR hP hKK hS0 hl ret
  generalize hrs : r0 = rs at hev ret
  have hl : lv_has ls 3 [(0, .ref aT), (1, .int p1)] := hl
  obtain ⟨hx, hb, hml, hown, hts, hT⟩ := id X
  have hK := hKK.1
  have hw : ∀ w ∈ T0, w.before ar s = true := fun w h => hts w (hT w h)
  have i11 := fun w h => hT w (inT11 w h)
  unfold f_Mo_fewestTo at hev
  refine lv_iconst (v := (0 : Int32)) hx hb dX11_fewestTo_0 (by decide) ?_
  refine lv_istore_n (lv' := [(2, .int (0 : Int32)), (0, .ref aT), (1, .int p1)]) hx hb dX11_fewestTo_1 rfl hl (by decide) rfl (fun ls hl => ?_)
  have L2 : ∀ (x1 : Int32), ∀ (k : Nat) (x2 : Int32) (out : (Unit) ⊕ (Int32)), f_Mo_fewestTo_L2 vT_queued fT_fars fT_queue x1 k x2 = some out → (out = .inl () → ∀ (ls : Array Slot), lv_has ls 3 [] → W p l e R s m ar below meth c H [] 0 0 Q (F0 m 39 ls [])) → (∀ v, out = .inr v → v = rs) → ∀ (ls : Array Slot), lv_has ls 3 [(0, .ref aT), (1, .int x1), (2, .int x2)] → W p l e R s m ar below meth c H [] 0 0 Q (F0 m 2 ls []) := by
    intro x1 k
    induction k with
    | zero => intro x2 out hev; rw [f_Mo_fewestTo_L2] at hev; cases hev
    | succ k ih =>
      intro x2 out hev hex hret ls hl
      rw [f_Mo_fewestTo_L2] at hev
      refine lv_iload_n hx hb dX11_fewestTo_2 rfl (lv_at hl 2 rfl) ?_
      refine lv_aload_n hx hb dX11_fewestTo_3 rfl (lv_at hl 0 rfl) ?_
      refine va_get (D := G.1) (ci := 7) (v := .int vT_queued) (C := RX11) (T := TX11) (N := 34) hx hb hts i11 hown hK hP 0 rfl rfl 24 (by decide) (hw _ u1111) (fun _ h9 => h9) rfl dX11_fewestTo_4 ?_
      refine lv_icmp_ge (tgt := 39) hx hb dX11_fewestTo_7 (by decide) (fun c1 => ?_) (fun c1 => ?_)
      · replace hev := x_t c1 hev
        exact hex  (Option.some.inj hev).symm ls (lv_sub hl [] rfl)
      · replace hev := x_f c1 hev
        refine lv_aload_n hx hb dX11_fewestTo_10 rfl (lv_at hl 0 rfl) ?_
        refine va_get (D := G.1) (ci := 7) (v := .ref aT_queue) (C := RX11) (T := TX11) (N := 34) hx hb hts i11 hown hK hP 0 rfl rfl 23 (by decide) (hw _ u1110) (fun _ h9 => h9) rfl dX11_fewestTo_11 ?_
        refine lv_iload_n hx hb dX11_fewestTo_14 rfl (lv_at hl 2 rfl) ?_
        obtain ⟨h2, hev⟩ := x_ld hev
        refine va_iald hx hb hK hP 1 0 rfl rfl h2 dX11_fewestTo_15 ?_
        refine lv_topi (fun v3 ev3 => ?_)
        replace hev := hev v3 ev3
        refine lv_iload_n hx hb dX11_fewestTo_16 rfl (lv_at hl 1 rfl) ?_
        refine lv_iand hx hb dX11_fewestTo_17 ?_
        refine lv_if_ne (tgt := 33) hx hb dX11_fewestTo_18 (by decide) (fun c4 => ?_) (fun c4 => ?_)
        · replace hev := x_f c4 hev
          obtain ⟨y5, ey5⟩ : ∃ y : Int32, y = x2 + (1 : Int32) := ⟨_, rfl⟩
          refine lv_iinc (v := y5) (lv' := [(2, .int y5), (0, .ref aT), (1, .int x1)]) hx hb dX11_fewestTo_33 hl (k := 2) rfl (by rw [ey5]; rfl) (by decide) rfl (fun ls hl => ?_)
          replace hev := x_lt hev y5 ey5
          refine lv_goto (tgt := 2) hx hb dX11_fewestTo_36 (by decide) ?_
          exact ih y5 _ hev hex hret ls (lv_sub hl [1, 2, 0] rfl)
        · replace hev := x_t c4 hev
          refine lv_aload_n hx hb dX11_fewestTo_21 rfl (lv_at hl 0 rfl) ?_
          refine va_get (D := G.1) (ci := 7) (v := .ref aT_fars) (C := RX11) (T := TX11) (N := 34) hx hb hts i11 hown hK hP 0 rfl rfl 22 (by decide) (hw _ u1109) (fun _ h9 => h9) rfl dX11_fewestTo_22 ?_
          refine lv_aload_n hx hb dX11_fewestTo_25 rfl (lv_at hl 0 rfl) ?_
          refine va_get (D := G.1) (ci := 7) (v := .ref aT_queue) (C := RX11) (T := TX11) (N := 34) hx hb hts i11 hown hK hP 0 rfl rfl 23 (by decide) (hw _ u1110) (fun _ h9 => h9) rfl dX11_fewestTo_26 ?_
          refine lv_iload_n hx hb dX11_fewestTo_29 rfl (lv_at hl 2 rfl) ?_
          obtain ⟨h6, hev⟩ := x_ld hev
          refine va_iald hx hb hK hP 1 0 rfl rfl h6 dX11_fewestTo_30 ?_
          refine lv_topi (fun v7 ev7 => ?_)
          replace hev := hev v7 ev7
          obtain ⟨h8, hev⟩ := x_ld hev
          refine va_iald hx hb hK hP 2 0 rfl rfl h8 dX11_fewestTo_31 ?_
          refine lv_topi (fun v9 ev9 => ?_)
          replace hev := hev v9 ev9
          exact ret _ _ _ dX11_fewestTo_32 ((show narrow _ (.int v9) = .int v9 from rfl).trans (congrArg Value.int (hret _ (Option.some.inj hev).symm)))
  rcases x_sd hev with ⟨q9, hq, hev⟩ | ⟨q9, hq, hev⟩
  · refine L2 p1 k (0 : Int32) (.inl q9) hq ?_ (fun v he => by cases he) ls (lv_sub hl [1, 2, 0] rfl)
    intro  he ls hl
    refine lv_iconst (v := (-1 : Int32)) hx hb dX11_fewestTo_39 (by decide) ?_
    exact ret _ _ _ dX11_fewestTo_40 ((show narrow _ (.int (-1 : Int32)) = .int (-1 : Int32) from rfl).trans (congrArg Value.int (Option.some.inj hev)))
  · refine L2 p1 k (0 : Int32) (.inr q9) hq (fun he => by cases he) (fun v he => ?_) ls (lv_sub hl [1, 2, 0] rfl)
    rw [← Sum.inr.inj he]
    exact Option.some.inj hev
def f_Mo_isSet (vT_many : Int32) (p1 : Int32) : Option (Int32) := x_B (f_Mo_in ((p1).toInt64) (0 : Int64) (((((1 : Int32) <<< (vT_many &&& 31)) - (1 : Int32))).toInt64)) (fun y1 => some (y1 &&& 1))
set_option maxHeartbeats 8000000 in
set_option maxRecDepth 100000 in
theorem c_Mo_isSet (l : Launch) (G : GG) (aT aT_text aT_read aT_spells aT_pasts aT_keptStates aT_keptDeeds aT_isKept aT_fars aT_queue aT_later aT_onWay aT_row aT_princes aT_tries : Nat) (vT_length : Int32) (vT_readMany : Int32) (vT_people : Int32) (vT_toldDay : Int32) (vT_toldBroken : Int32) (vT_many : Int32) (vT_now : Int32) (vT_deeds : Int32) (vT_pastMany : Int32) (vT_at : Int32) (vT_place : Int32) (vT_end : Int32) (vT_readPeople : Int32) (vT_readSpells : Int32) (vT_lifted : Int32) (vT_queued : Int32) (vT_laterMany : Int32) (vT_rowMany : Int32) (vT_princeMany : Int32) (vT_triedMany : Int32) (p1 : Int32) (r0 : Int32) (hev : f_Mo_isSet vT_many p1 = some r0) : RO l G yX11_isSet cX11_isSet 2 (some .boolean) 1 [.ref aT, .int p1] [(aT, .inr (7, [.ref aT_text, .int vT_length, .ref aT_read, .int vT_readMany, .int vT_people, .int vT_toldDay, .int vT_toldBroken, .ref aT_spells, .int vT_many, .int vT_now, .int vT_deeds, .ref aT_pasts, .int vT_pastMany, .ref aT_keptStates, .ref aT_keptDeeds, .ref aT_isKept, .int vT_at, .int vT_place, .int vT_end, .int vT_readPeople, .int vT_readSpells, .int vT_lifted, .ref aT_fars, .ref aT_queue, .int vT_queued, .ref aT_later, .int vT_laterMany, .ref aT_onWay, .ref aT_row, .int vT_rowMany, .ref aT_princes, .int vT_princeMany, .ref aT_tries, .int vT_triedMany]))] (some (.int r0)) := by
  refine RO_of (by decide) (Nat.le_of_ble_eq_true rfl) ?_
  intro p e s m ar below meth c R Q H ls X hR hP hKK hS0 hl ret
  generalize hrs : r0 = rs at hev ret
  have hl : lv_has ls 2 [(0, .ref aT), (1, .int p1)] := hl
  obtain ⟨hx, hb, hml, hown, hts, hT⟩ := id X
  have hK := hKK.1
  have hw : ∀ w ∈ T0, w.before ar s = true := fun w h => hts w (hT w h)
  have i11 := fun w h => hT w (inT11 w h)
  unfold f_Mo_isSet at hev
  refine lv_iload_n hx hb dX11_isSet_0 rfl (lv_at hl 1 rfl) ?_
  refine lv_i2l hx hb dX11_isSet_1 rfl ?_
  refine lv_lconst (v := (0 : Int64)) hx hb dX11_isSet_2 (by decide) ?_
  refine lv_iconst (v := (1 : Int32)) hx hb dX11_isSet_3 (by decide) ?_
  refine lv_aload_n hx hb dX11_isSet_4 rfl (lv_at hl 0 rfl) ?_
  refine va_get (D := G.1) (ci := 7) (v := .int vT_many) (C := RX11) (T := TX11) (N := 34) hx hb hts i11 hown hK hP 0 rfl rfl 8 (by decide) (hw _ u1095) (fun _ h9 => h9) rfl dX11_isSet_5 ?_
  refine lv_ishl hx hb dX11_isSet_8 ?_
  refine lv_iconst (v := (1 : Int32)) hx hb dX11_isSet_9 (by decide) ?_
  refine lv_isub hx hb dX11_isSet_10 ?_
  refine lv_i2l hx hb dX11_isSet_11 rfl ?_
  obtain ⟨y1, hq, hev⟩ := x_bd hev
  refine roS X hKK hR (st1 := [.int y1]) (c_Mo_in l G ((p1).toInt64) (0 : Int64) (((((1 : Int32) <<< (vT_many &&& 31)) - (1 : Int32))).toInt64) y1 hq) K_X11_in u1196 (x_Psub hP [] rfl) (by decide) ⟨Nat.zero_le _, Nat.zero_le _⟩ rfl hl.1 rfl (Nat.le_of_ble_eq_true rfl) rfl dX11_isSet_12 ?_
  exact ret _ _ _ dX11_isSet_15 ((show narrow _ (.int y1) = .int (y1 &&& 1) from rfl).trans (congrArg Value.int (Option.some.inj hev)))
def f_Mo_fewest (k : Nat) (vT_lifted : Int32) (vT_many : Int32) (vT_now : Int32) (vT_people : Int32) (vT_queued : Int32) (fT_fars : Nat → Int32) (fT_queue : Nat → Int32) (fT_spells : Nat → Int32) (p1 : Int32) : Option (Int32 × Int32 × Int32 × (Nat → Int32) × (Nat → Int32)) := x_B (f_Mo_isSet vT_many p1) (fun y1 => if y1 = 0 then (some ((-2 : Int32), vT_lifted, vT_queued, fT_fars, fT_queue)) else x_B (f_Mo_layAll k vT_lifted vT_many vT_people vT_queued fT_fars fT_queue fT_spells vT_now) (fun ⟨w3, w4, w5, w6⟩ => x_B (f_Mo_fewestTo k w4 w5 w6 p1) (fun y7 => some (y7, w3, w4, w5, w6))))
set_option maxHeartbeats 8000000 in
set_option maxRecDepth 100000 in
theorem c_Mo_fewest (l : Launch) (G : GG) (aT aT_text aT_read aT_spells aT_pasts aT_keptStates aT_keptDeeds aT_isKept aT_fars aT_queue aT_later aT_onWay aT_row aT_princes aT_tries : Nat) (vT_length : Int32) (vT_readMany : Int32) (vT_people : Int32) (vT_toldDay : Int32) (vT_toldBroken : Int32) (vT_many : Int32) (vT_now : Int32) (vT_deeds : Int32) (vT_pastMany : Int32) (vT_at : Int32) (vT_place : Int32) (vT_end : Int32) (vT_readPeople : Int32) (vT_readSpells : Int32) (vT_lifted : Int32) (vT_queued : Int32) (vT_laterMany : Int32) (vT_rowMany : Int32) (vT_princeMany : Int32) (vT_triedMany : Int32) (fT_fars : Nat → Int32) (fT_queue : Nat → Int32) (fT_spells : Nat → Int32) (k : Nat) (p1 : Int32) (r0 : Int32) (wvT_lifted : Int32) (wvT_queued : Int32) (wfT_fars : Nat → Int32) (wfT_queue : Nat → Int32) (hev : f_Mo_fewest k vT_lifted vT_many vT_now vT_people vT_queued fT_fars fT_queue fT_spells p1 = some (r0, wvT_lifted, wvT_queued, wfT_fars, wfT_queue)) : RW l G yX11_fewest cX11_fewest 2 (some .int) 6 [.ref aT, .int p1] [(aT, .inr (7, [.ref aT_text, .int vT_length, .ref aT_read, .int vT_readMany, .int vT_people, .int vT_toldDay, .int vT_toldBroken, .ref aT_spells, .int vT_many, .int vT_now, .int vT_deeds, .ref aT_pasts, .int vT_pastMany, .ref aT_keptStates, .ref aT_keptDeeds, .ref aT_isKept, .int vT_at, .int vT_place, .int vT_end, .int vT_readPeople, .int vT_readSpells, .int vT_lifted, .ref aT_fars, .ref aT_queue, .int vT_queued, .ref aT_later, .int vT_laterMany, .ref aT_onWay, .ref aT_row, .int vT_rowMany, .ref aT_princes, .int vT_princeMany, .ref aT_tries, .int vT_triedMany])), (aT_fars, .inl (G.2.1, 57344, .inl fT_fars)), (aT_queue, .inl (G.2.1, 57344, .inl fT_queue)), (aT_spells, .inl (G.2.1, 50, .inl fT_spells))] (some (.int r0)) [(aT, .inr (7, [.ref aT_text, .int vT_length, .ref aT_read, .int vT_readMany, .int vT_people, .int vT_toldDay, .int vT_toldBroken, .ref aT_spells, .int vT_many, .int vT_now, .int vT_deeds, .ref aT_pasts, .int vT_pastMany, .ref aT_keptStates, .ref aT_keptDeeds, .ref aT_isKept, .int vT_at, .int vT_place, .int vT_end, .int vT_readPeople, .int vT_readSpells, .int wvT_lifted, .ref aT_fars, .ref aT_queue, .int wvT_queued, .ref aT_later, .int vT_laterMany, .ref aT_onWay, .ref aT_row, .int vT_rowMany, .ref aT_princes, .int vT_princeMany, .ref aT_tries, .int vT_triedMany])), (aT_fars, .inl (G.2.1, 57344, .inl wfT_fars)), (aT_queue, .inl (G.2.1, 57344, .inl wfT_queue)), (aT_spells, .inl (G.2.1, 50, .inl fT_spells))] 0 0 := by
  refine RW_of (by decide) (Nat.le_of_ble_eq_true rfl) ?_
  intro p e s m ar below meth c R Q A ls X hR hRc hin hP hKK hD hS hA hAb hl ret
  obtain ⟨rs, hrs⟩ : ∃ q, q = (r0, wvT_lifted, wvT_queued, wfT_fars, wfT_queue) := ⟨_, rfl⟩
  rw [← hrs] at hev
  have ret2 : ∀ (pc : Nat) (ls : Array Slot) (H : Heap) (lo : List Loc) (v r1 : Int32) (zvT_lifted : Int32) (zvT_queued : Int32) (zfT_fars : Nat → Int32) (zfT_queue : Nat → Int32), (r1, zvT_lifted, zvT_queued, zfT_fars, zfT_queue) = rs → decode cX11_fewest pc = .ok (.ireturn, 1) → narrow .int (.int v) = .int r1 → va_P G.1 classes [(aT, .inr (7, [.ref aT_text, .int vT_length, .ref aT_read, .int vT_readMany, .int vT_people, .int vT_toldDay, .int vT_toldBroken, .ref aT_spells, .int vT_many, .int vT_now, .int vT_deeds, .ref aT_pasts, .int vT_pastMany, .ref aT_keptStates, .ref aT_keptDeeds, .ref aT_isKept, .int vT_at, .int vT_place, .int vT_end, .int vT_readPeople, .int vT_readSpells, .int zvT_lifted, .ref aT_fars, .ref aT_queue, .int zvT_queued, .ref aT_later, .int vT_laterMany, .ref aT_onWay, .ref aT_row, .int vT_rowMany, .ref aT_princes, .int vT_princeMany, .ref aT_tries, .int vT_triedMany])), (aT_fars, .inl (G.2.1, 57344, .inl zfT_fars)), (aT_queue, .inl (G.2.1, 57344, .inl zfT_queue)), (aT_spells, .inl (G.2.1, 50, .inl fT_spells))] H → va_D A [(aT, .inr (7, [.ref aT_text, .int vT_length, .ref aT_read, .int vT_readMany, .int vT_people, .int vT_toldDay, .int vT_toldBroken, .ref aT_spells, .int vT_many, .int vT_now, .int vT_deeds, .ref aT_pasts, .int vT_pastMany, .ref aT_keptStates, .ref aT_keptDeeds, .ref aT_isKept, .int vT_at, .int vT_place, .int vT_end, .int vT_readPeople, .int vT_readSpells, .int zvT_lifted, .ref aT_fars, .ref aT_queue, .int zvT_queued, .ref aT_later, .int vT_laterMany, .ref aT_onWay, .ref aT_row, .int vT_rowMany, .ref aT_princes, .int vT_princeMany, .ref aT_tries, .int vT_triedMany])), (aT_fars, .inl (G.2.1, 57344, .inl zfT_fars)), (aT_queue, .inl (G.2.1, 57344, .inl zfT_queue)), (aT_spells, .inl (G.2.1, 50, .inl fT_spells))] → va_S A s.heap H lo → W p l e R s m ar below meth c H lo 0 0 Q (F0 m pc ls [.int v]) := by
    intro pc ls H lo v r1 zvT_lifted zvT_queued zfT_fars zfT_queue he hd hn h1 h2 h3
    have he := he.trans hrs
    cases he
    exact ret.1 _ _ _ _ _ _ _ rfl rfl hd hn h1 h2 h3
  clear ret hrs
  have hl : lv_has ls 2 [(0, .ref aT), (1, .int p1)] := hl
  obtain ⟨hx, hb, hml, hown, hts, hT⟩ := id X
  have hK := hKK.1
  have hw : ∀ w ∈ T0, w.before ar s = true := fun w h => hts w (hT w h)
  have i11 := fun w h => hT w (inT11 w h)
  unfold f_Mo_fewest at hev
  refine lv_aload_n hx hb dX11_fewest_0 rfl (lv_at hl 0 rfl) ?_
  refine lv_iload_n hx hb dX11_fewest_1 rfl (lv_at hl 1 rfl) ?_
  obtain ⟨y1, hq, hev⟩ := x_bd hev
  refine roV X (KK_at hKK hS hAb) hR (st1 := [.int y1]) (c_Mo_isSet l G aT aT_text aT_read aT_spells aT_pasts aT_keptStates aT_keptDeeds aT_isKept aT_fars aT_queue aT_later aT_onWay aT_row aT_princes aT_tries vT_length vT_readMany vT_people vT_toldDay vT_toldBroken vT_many vT_now vT_deeds vT_pastMany vT_at vT_place vT_end vT_readPeople vT_readSpells vT_lifted vT_queued vT_laterMany vT_rowMany vT_princeMany vT_triedMany p1 y1 hq) K_X11_isSet u1377 (x_Psub hP [0] rfl) rfl (q0 := 0) rfl (by decide) ⟨Nat.zero_le _, Nat.zero_le _⟩ rfl hl.1 rfl (Nat.le_of_ble_eq_true rfl) rfl dX11_fewest_2 ?_
  refine lv_if_ne (tgt := 11) hx hb dX11_fewest_5 (by decide) (fun c2 => ?_) (fun c2 => ?_)
  · replace hev := x_f c2 hev
    refine lv_aload_n hx hb dX11_fewest_11 rfl (lv_at hl 0 rfl) ?_
    refine lv_aload_n hx hb dX11_fewest_12 rfl (lv_at hl 0 rfl) ?_
    refine va_get (D := G.1) (ci := 7) (v := .int vT_now) (C := RX11) (T := TX11) (N := 34) hx hb hts i11 hown hK hP 0 rfl rfl 9 (by decide) (hw _ u1096) (fun _ h9 => h9) rfl dX11_fewest_13 ?_
    obtain ⟨⟨w3, w4, w5, w6⟩, hq, hev⟩ := x_bd hev
    refine rgV X (KK_at hKK hS hAb) hR (st1 := []) (ws2 := [(aT, .inr (7, [.ref aT_text, .int vT_length, .ref aT_read, .int vT_readMany, .int vT_people, .int vT_toldDay, .int vT_toldBroken, .ref aT_spells, .int vT_many, .int vT_now, .int vT_deeds, .ref aT_pasts, .int vT_pastMany, .ref aT_keptStates, .ref aT_keptDeeds, .ref aT_isKept, .int vT_at, .int vT_place, .int vT_end, .int vT_readPeople, .int vT_readSpells, .int w3, .ref aT_fars, .ref aT_queue, .int w4, .ref aT_later, .int vT_laterMany, .ref aT_onWay, .ref aT_row, .int vT_rowMany, .ref aT_princes, .int vT_princeMany, .ref aT_tries, .int vT_triedMany])), (aT_fars, .inl (G.2.1, 57344, .inl w5)), (aT_queue, .inl (G.2.1, 57344, .inl w6)), (aT_spells, .inl (G.2.1, 50, .inl fT_spells))]) (c_Mo_layAll l G aT aT_text aT_read aT_spells aT_pasts aT_keptStates aT_keptDeeds aT_isKept aT_fars aT_queue aT_later aT_onWay aT_row aT_princes aT_tries vT_length vT_readMany vT_people vT_toldDay vT_toldBroken vT_many vT_now vT_deeds vT_pastMany vT_at vT_place vT_end vT_readPeople vT_readSpells vT_lifted vT_queued vT_laterMany vT_rowMany vT_princeMany vT_triedMany fT_fars fT_queue fT_spells k vT_now w3 w4 w5 w6 hq) K_X11_layAll u1381 hP hD hS hA hAb [0, 1, 2, 3] rfl (sbC rfl (sbC rfl (sbC rfl (sbC rfl sb0)))) (mgN 0 rfl rfl (mgN 1 rfl rfl (mgN 2 rfl rfl (mgN 3 rfl rfl (mg0))))) rfl (q0 := 0) rfl (by decide) ⟨Nat.zero_le _, Nat.zero_le _⟩ rfl hl.1 rfl (Nat.le_of_ble_eq_true rfl) rfl dX11_fewest_16 (fun H lo hP hD hS => ?_)
    refine lv_aload_n hx hb dX11_fewest_19 rfl (lv_at hl 0 rfl) ?_
    refine lv_iload_n hx hb dX11_fewest_20 rfl (lv_at hl 1 rfl) ?_
    obtain ⟨y7, hq, hev⟩ := x_bd hev
    refine roV X (KK_at hKK hS hAb) hR (st1 := [.int y7]) (c_Mo_fewestTo l G aT aT_text aT_read aT_spells aT_pasts aT_keptStates aT_keptDeeds aT_isKept aT_fars aT_queue aT_later aT_onWay aT_row aT_princes aT_tries vT_length vT_readMany vT_people vT_toldDay vT_toldBroken vT_many vT_now vT_deeds vT_pastMany vT_at vT_place vT_end vT_readPeople vT_readSpells w3 w4 vT_laterMany vT_rowMany vT_princeMany vT_triedMany w6 w5 k p1 y7 hq) K_X11_fewestTo u1400 (x_Psub hP [0, 2, 1] rfl) rfl (q0 := 0) rfl (by decide) ⟨Nat.zero_le _, Nat.zero_le _⟩ rfl hl.1 rfl (Nat.le_of_ble_eq_true rfl) rfl dX11_fewest_21 ?_
    exact ret2 _ _ _ _ y7 y7 w3 w4 w5 w6 (Option.some.inj hev) dX11_fewest_24 (show narrow _ (.int y7) = .int y7 from rfl) hP hD hS
  · replace hev := x_t c2 hev
    refine lv_bipush (v := (-2 : Int32)) hx hb dX11_fewest_8 (by decide) ?_
    exact ret2 _ _ _ _ (-2 : Int32) (-2 : Int32) vT_lifted vT_queued fT_fars fT_queue (Option.some.inj hev) dX11_fewest_10 (show narrow _ (.int (-2 : Int32)) = .int (-2 : Int32) from rfl) hP hD hS
