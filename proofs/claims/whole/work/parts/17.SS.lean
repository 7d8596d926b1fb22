def f_SS_write (nT_text_items : Nat) (vT_text_size : Int32) (fT_text_items : Nat → Int32) (p1 : Int32) : Option (Int32 × Int32 × (Nat → Int32)) := if p1 < 0 then (some ((-3 : Int32), vT_text_size, fT_text_items)) else if p1 ≤ (255 : Int32) then (x_B (f_Rw_add nT_text_items vT_text_size fT_text_items p1) (fun ⟨y3, w4, w5⟩ => if y3 = 0 then (some ((-5 : Int32), w4, w5)) else x_B (f_Rw_size w4) (fun y7 => some (y7, w4, w5)))) else some ((-3 : Int32), vT_text_size, fT_text_items)
set_option maxHeartbeats 8000000 in
set_option maxRecDepth 100000 in
theorem c_SS_write (l : Launch) (G : GG) (aT aT_text aT_told aT_reader aT_rules aT_fromNow aT_whatIf aT_trials aT_undoable aT_keptStates aT_keptDeeds aT_row aT_princes aT_text_items : Nat) (vT_state : Int32) (vT_deeds : Int32) (vT_text_size : Int32) (fT_text_items : Nat → Int32) (nT_text_items : Nat) (p1 : Int32) (r0 : Int32) (wvT_text_size : Int32) (wfT_text_items : Nat → Int32) (hev : f_SS_write nT_text_items vT_text_size fT_text_items p1 = some (r0, wvT_text_size, wfT_text_items)) : RW l G yX10_write cX10_write 2 (some .int) 1 [.ref aT, .int p1] [(aT, .inr (6, [.ref aT_text, .ref aT_told, .ref aT_reader, .ref aT_rules, .ref aT_fromNow, .ref aT_whatIf, .ref aT_trials, .ref aT_undoable, .ref aT_keptStates, .ref aT_keptDeeds, .ref aT_row, .ref aT_princes, .int vT_state, .int vT_deeds])), (aT_text, .inr (1, [.ref aT_text_items, .int vT_text_size])), (aT_text_items, .inl (G.2.1, nT_text_items, .inl fT_text_items))] (some (.int r0)) [(aT, .inr (6, [.ref aT_text, .ref aT_told, .ref aT_reader, .ref aT_rules, .ref aT_fromNow, .ref aT_whatIf, .ref aT_trials, .ref aT_undoable, .ref aT_keptStates, .ref aT_keptDeeds, .ref aT_row, .ref aT_princes, .int vT_state, .int vT_deeds])), (aT_text, .inr (1, [.ref aT_text_items, .int wvT_text_size])), (aT_text_items, .inl (G.2.1, nT_text_items, .inl wfT_text_items))] 0 0 := by
  refine RW_of (by decide) (Nat.le_of_ble_eq_true rfl) ?_
  intro p e s m ar below meth c R Q A ls X hR hRc hin hP hKK hD hS hA hAb hl ret
  obtain ⟨rs, hrs⟩ : ∃ q, q = (r0, wvT_text_size, wfT_text_items) := ⟨_, rfl⟩
  rw [← hrs] at hev
  have hr0 : r0 = rs.1 := by rw [hrs]
  have hwvT_text_size : wvT_text_size = rs.2.1 := by rw [hrs]
  have hwfT_text_items : wfT_text_items = rs.2.2 := by rw [hrs]
  rw [hr0, hwvT_text_size, hwfT_text_items] at ret
  clear hr0 hwvT_text_size hwfT_text_items hrs r0 wvT_text_size wfT_text_items
  have hl : lv_has ls 2 [(0, .ref aT), (1, .int p1)] := hl
  obtain ⟨hx, hb, hml, hown, hts, hT⟩ := id X
  have hK := hKK.1
  have hw : ∀ w ∈ T0, w.before ar s = true := fun w h => hts w (hT w h)
  have i10 := fun w h => hT w (inT10 w h)
  unfold f_SS_write at hev
  refine lv_iload_n hx hb dX10_write_0 rfl (lv_at hl 1 rfl) ?_
  refine lv_if_lt (tgt := 11) hx hb dX10_write_1 (by decide) (fun c1 => ?_) (fun c1 => ?_)
  · replace hev := x_t c1 hev
    refine lv_bipush (v := (-3 : Int32)) hx hb dX10_write_11 (by decide) ?_
    have hq9 := (Option.some.inj hev)
    subst hq9
    exact ret.1 _ _ _ _ _ _ _ rfl rfl dX10_write_13 (show narrow _ (.int (-3 : Int32)) = .int (-3 : Int32) from rfl) hP hD hS
  · replace hev := x_f c1 hev
    refine lv_iload_n hx hb dX10_write_4 rfl (lv_at hl 1 rfl) ?_
    refine lv_sipush (v := (255 : Int32)) hx hb dX10_write_5 (by decide) ?_
    refine lv_icmp_le (tgt := 14) hx hb dX10_write_8 (by decide) (fun c2 => ?_) (fun c2 => ?_)
    · replace hev := x_t c2 hev
      refine lv_aload_n hx hb dX10_write_14 rfl (lv_at hl 0 rfl) ?_
      refine va_get (D := G.1) (ci := 6) (v := .ref aT_text) (C := RX10) (T := TX10) (N := 14) hx hb hts i10 hown hK hP 0 rfl rfl 0 (by decide) (hw _ u416) (fun _ h9 => h9) rfl dX10_write_15 ?_
      refine lv_iload_n hx hb dX10_write_18 rfl (lv_at hl 1 rfl) ?_
      obtain ⟨⟨y3, w4, w5⟩, hq, hev⟩ := x_bd hev
      refine rwV X (KK_at hKK hS hAb) hR (st1 := [.int y3]) (ws2 := [(aT, .inr (6, [.ref aT_text, .ref aT_told, .ref aT_reader, .ref aT_rules, .ref aT_fromNow, .ref aT_whatIf, .ref aT_trials, .ref aT_undoable, .ref aT_keptStates, .ref aT_keptDeeds, .ref aT_row, .ref aT_princes, .int vT_state, .int vT_deeds])), (aT_text, .inr (1, [.ref aT_text_items, .int w4])), (aT_text_items, .inl (G.2.1, nT_text_items, .inl w5))]) (c_Rw_add l G aT_text aT_text_items vT_text_size fT_text_items nT_text_items p1 y3 w4 w5 hq) K_X3_add u463 hP hD hS hA hAb [1, 2] rfl rfl rfl rfl rfl (q0 := 0) rfl (by decide) ⟨Nat.zero_le _, Nat.zero_le _⟩ rfl hl.1 rfl (Nat.le_of_ble_eq_true rfl) rfl dX10_write_19 (fun H lo hP hD hS => ?_)
      refine lv_if_eq (tgt := 35) hx hb dX10_write_22 (by decide) (fun c6 => ?_) (fun c6 => ?_)
      · replace hev := x_t c6 hev
        refine lv_bipush (v := (-5 : Int32)) hx hb dX10_write_35 (by decide) ?_
        have hq9 := (Option.some.inj hev)
        subst hq9
        exact ret.1 _ _ _ _ _ _ _ rfl rfl dX10_write_37 (show narrow _ (.int (-5 : Int32)) = .int (-5 : Int32) from rfl) hP hD hS
      · replace hev := x_f c6 hev
        refine lv_aload_n hx hb dX10_write_25 rfl (lv_at hl 0 rfl) ?_
        refine va_get (D := G.1) (ci := 6) (v := .ref aT_text) (C := RX10) (T := TX10) (N := 14) hx hb hts i10 hown hK hP 0 rfl rfl 0 (by decide) (hw _ u416) (fun _ h9 => h9) rfl dX10_write_26 ?_
        obtain ⟨y7, hq, hev⟩ := x_bd hev
        refine roV X (KK_at hKK hS hAb) hR (st1 := [.int y7]) (c_Rw_size l G aT_text aT_text_items w4 y7 hq) K_X3_size u467 (x_Psub hP [1] rfl) rfl (q0 := 0) rfl (by decide) ⟨Nat.zero_le _, Nat.zero_le _⟩ rfl hl.1 rfl (Nat.le_of_ble_eq_true rfl) rfl dX10_write_29 ?_
        refine lv_goto (tgt := 37) hx hb dX10_write_32 (by decide) ?_
        have hq9 := (Option.some.inj hev)
        subst hq9
        exact ret.1 _ _ _ _ _ _ _ rfl rfl dX10_write_37 (show narrow _ (.int y7) = .int y7 from rfl) hP hD hS
    · replace hev := x_f c2 hev
      refine lv_bipush (v := (-3 : Int32)) hx hb dX10_write_11 (by decide) ?_
      have hq9 := (Option.some.inj hev)
      subst hq9
      exact ret.1 _ _ _ _ _ _ _ rfl rfl dX10_write_13 (show narrow _ (.int (-3 : Int32)) = .int (-3 : Int32) from rfl) hP hD hS
def f_SS_erase (vT_text_size : Int32) : Option (Int32 × Int32) := x_B (f_Rw_empty vT_text_size) (fun ⟨y1, w2⟩ => some (y1, w2))
set_option maxHeartbeats 8000000 in
set_option maxRecDepth 100000 in
theorem c_SS_erase (l : Launch) (G : GG) (aT aT_text aT_told aT_reader aT_rules aT_fromNow aT_whatIf aT_trials aT_undoable aT_keptStates aT_keptDeeds aT_row aT_princes aT_text_items : Nat) (vT_state : Int32) (vT_deeds : Int32) (vT_text_size : Int32) (r0 : Int32) (wvT_text_size : Int32) (hev : f_SS_erase vT_text_size = some (r0, wvT_text_size)) : RW l G yX10_erase cX10_erase 1 (some .int) 1 [.ref aT] [(aT, .inr (6, [.ref aT_text, .ref aT_told, .ref aT_reader, .ref aT_rules, .ref aT_fromNow, .ref aT_whatIf, .ref aT_trials, .ref aT_undoable, .ref aT_keptStates, .ref aT_keptDeeds, .ref aT_row, .ref aT_princes, .int vT_state, .int vT_deeds])), (aT_text, .inr (1, [.ref aT_text_items, .int vT_text_size]))] (some (.int r0)) [(aT, .inr (6, [.ref aT_text, .ref aT_told, .ref aT_reader, .ref aT_rules, .ref aT_fromNow, .ref aT_whatIf, .ref aT_trials, .ref aT_undoable, .ref aT_keptStates, .ref aT_keptDeeds, .ref aT_row, .ref aT_princes, .int vT_state, .int vT_deeds])), (aT_text, .inr (1, [.ref aT_text_items, .int wvT_text_size]))] 0 0 := by
  refine RW_of (by decide) (Nat.le_of_ble_eq_true rfl) ?_
  intro p e s m ar below meth c R Q A ls X hR hRc hin hP hKK hD hS hA hAb hl ret
  obtain ⟨rs, hrs⟩ : ∃ q, q = (r0, wvT_text_size) := ⟨_, rfl⟩
  rw [← hrs] at hev
  have hr0 : r0 = rs.1 := by rw [hrs]
  have hwvT_text_size : wvT_text_size = rs.2 := by rw [hrs]
  rw [hr0, hwvT_text_size] at ret
  clear hr0 hwvT_text_size hrs r0 wvT_text_size
  have hl : lv_has ls 1 [(0, .ref aT)] := hl
  obtain ⟨hx, hb, hml, hown, hts, hT⟩ := id X
  have hK := hKK.1
  have hw : ∀ w ∈ T0, w.before ar s = true := fun w h => hts w (hT w h)
  have i10 := fun w h => hT w (inT10 w h)
  unfold f_SS_erase at hev
  refine lv_aload_n hx hb dX10_erase_0 rfl (lv_at hl 0 rfl) ?_
  refine va_get (D := G.1) (ci := 6) (v := .ref aT_text) (C := RX10) (T := TX10) (N := 14) hx hb hts i10 hown hK hP 0 rfl rfl 0 (by decide) (hw _ u416) (fun _ h9 => h9) rfl dX10_erase_1 ?_
  obtain ⟨⟨y1, w2⟩, hq, hev⟩ := x_bd hev
  refine rwV X (KK_at hKK hS hAb) hR (st1 := [.int y1]) (ws2 := [(aT, .inr (6, [.ref aT_text, .ref aT_told, .ref aT_reader, .ref aT_rules, .ref aT_fromNow, .ref aT_whatIf, .ref aT_trials, .ref aT_undoable, .ref aT_keptStates, .ref aT_keptDeeds, .ref aT_row, .ref aT_princes, .int vT_state, .int vT_deeds])), (aT_text, .inr (1, [.ref aT_text_items, .int w2]))]) (c_Rw_empty l G aT_text aT_text_items vT_text_size y1 w2 hq) K_X3_empty u406 hP hD hS hA hAb [1] rfl rfl rfl rfl rfl (q0 := 0) rfl (by decide) ⟨Nat.zero_le _, Nat.zero_le _⟩ rfl hl.1 rfl (Nat.le_of_ble_eq_true rfl) rfl dX10_erase_4 (fun H lo hP hD hS => ?_)
  have hq9 := (Option.some.inj hev)
  subst hq9
  exact ret.1 _ _ _ _ _ _ _ rfl rfl dX10_erase_7 (show narrow _ (.int y1) = .int y1 from rfl) hP hD hS
def f_SS_person_J65 (vT_state : Int32) (vT_told_people : Int32) (fT_rules_curses : Nat → Int32) (s0 : Int32) : Option (Int32) := x_B (f_SS_oneIf s0) (fun y1 => some y1)
def f_SS_person (vT_state : Int32) (vT_told_people : Int32) (fT_rules_curses : Nat → Int32) (p1 : Int32) (p2 : Int32) : Option (Int32) := x_B (f_To_hasPerson vT_told_people p1) (fun y2 => if y2 = 0 then (some (-2 : Int32)) else if p2 < 0 then (some (-3 : Int32)) else if p2 ≤ (3 : Int32) then (if p2 = (3 : Int32) then (x_B (f_St_weepers vT_state) (fun y9 => some ((y9 >>> (p1 &&& 31)) &&& (1 : Int32)))) else x_B (f_Ru_cursesOn fT_rules_curses p1 p2) (fun y7 => if (vT_state &&& y7) = 0 then (f_SS_person_J65 vT_state vT_told_people fT_rules_curses (0 : Int32)) else f_SS_person_J65 vT_state vT_told_people fT_rules_curses (1 : Int32))) else some (-3 : Int32))
set_option maxHeartbeats 8000000 in
set_option maxRecDepth 100000 in
theorem c_SS_person (l : Launch) (G : GG) (aT aT_text aT_told aT_reader aT_rules aT_fromNow aT_whatIf aT_trials aT_undoable aT_keptStates aT_keptDeeds aT_row aT_princes aT_told_kinds aT_told_targets aT_told_wakes aT_told_terms aT_told_sorts aT_told_numbers aT_rules_masks aT_rules_values aT_rules_askings aT_rules_kissesNeeded aT_rules_wakings aT_rules_binders aT_rules_curses aT_rules_doers aT_rules_sorts aT_rules_whichs aT_rules_bars aT_rules_bits aT_rules_kisses : Nat) (vT_state : Int32) (vT_deeds : Int32) (vT_told_people : Int32) (vT_told_spells : Int32) (vT_told_day : Int32) (vT_told_broken : Int32) (vT_rules_people : Int32) (vT_rules_spells : Int32) (vT_rules_deedCount : Int32) (fT_rules_curses : Nat → Int32) (p1 : Int32) (p2 : Int32) (r0 : Int32) (hev : f_SS_person vT_state vT_told_people fT_rules_curses p1 p2 = some r0) : RO l G yX10_person cX10_person 3 (some .int) 2 [.ref aT, .int p1, .int p2] [(aT, .inr (6, [.ref aT_text, .ref aT_told, .ref aT_reader, .ref aT_rules, .ref aT_fromNow, .ref aT_whatIf, .ref aT_trials, .ref aT_undoable, .ref aT_keptStates, .ref aT_keptDeeds, .ref aT_row, .ref aT_princes, .int vT_state, .int vT_deeds])), (aT_told, .inr (4, [.int vT_told_people, .int vT_told_spells, .int vT_told_day, .int vT_told_broken, .ref aT_told_kinds, .ref aT_told_targets, .ref aT_told_wakes, .ref aT_told_terms, .ref aT_told_sorts, .ref aT_told_numbers])), (aT_rules, .inr (2, [.int vT_rules_people, .int vT_rules_spells, .int vT_rules_deedCount, .ref aT_rules_masks, .ref aT_rules_values, .ref aT_rules_askings, .ref aT_rules_kissesNeeded, .ref aT_rules_wakings, .ref aT_rules_binders, .ref aT_rules_curses, .ref aT_rules_doers, .ref aT_rules_sorts, .ref aT_rules_whichs, .ref aT_rules_bars, .ref aT_rules_bits, .ref aT_rules_kisses])), (aT_rules_curses, .inl (G.2.1, 9, .inl fT_rules_curses))] (some (.int r0)) := by
  refine RO_of (by decide) (Nat.le_of_ble_eq_true rfl) ?_
  intro p e s m ar below meth c R Q H ls X hR hP hKK hS0 hl ret
  generalize hrs : r0 = rs at hev ret
  have hl : lv_has ls 3 [(0, .ref aT), (1, .int p1), (2, .int p2)] := hl
  obtain ⟨hx, hb, hml, hown, hts, hT⟩ := id X
  have hK := hKK.1
  have hw : ∀ w ∈ T0, w.before ar s = true := fun w h => hts w (hT w h)
  have i10 := fun w h => hT w (inT10 w h)
  have J65 : ∀ (s0 : Int32), ∀ (ls : Array Slot), f_SS_person_J65 vT_state vT_told_people fT_rules_curses s0 = some rs → lv_has ls 3 [] → W p l e R s m ar below meth c H [] 0 0 Q (F0 m 65 ls [.int s0]) := by
    intro s0 ls hev hl
    unfold f_SS_person_J65 at hev
    obtain ⟨y1, hq, hev⟩ := x_bd hev
    refine roS X hKK hR (st1 := [.int y1]) (c_SS_oneIf l G s0 y1 hq) K_X10_oneIf u657 (x_Psub hP [] rfl) (by decide) ⟨Nat.zero_le _, Nat.zero_le _⟩ rfl hl.1 rfl (Nat.le_of_ble_eq_true rfl) rfl dX10_person_65 ?_
    exact ret _ _ _ dX10_person_68 ((show narrow _ (.int y1) = .int y1 from rfl).trans (congrArg Value.int (Option.some.inj hev)))
  unfold f_SS_person at hev
  refine lv_aload_n hx hb dX10_person_0 rfl (lv_at hl 0 rfl) ?_
  refine va_get (D := G.1) (ci := 6) (v := .ref aT_told) (C := RX10) (T := TX10) (N := 14) hx hb hts i10 hown hK hP 0 rfl rfl 1 (by decide) (hw _ u417) (fun _ h9 => h9) rfl dX10_person_1 ?_
  refine lv_iload_n hx hb dX10_person_4 rfl (lv_at hl 1 rfl) ?_
  obtain ⟨y2, hq, hev⟩ := x_bd hev
  refine roV X hKK hR (st1 := [.int y2]) (c_To_hasPerson l G aT_told aT_told_kinds aT_told_targets aT_told_wakes aT_told_terms aT_told_sorts aT_told_numbers vT_told_people vT_told_spells vT_told_day vT_told_broken p1 y2 hq) K_X8_hasPerson u649 (x_Psub hP [1] rfl) rfl (q0 := 0) rfl (by decide) ⟨Nat.zero_le _, Nat.zero_le _⟩ rfl hl.1 rfl (Nat.le_of_ble_eq_true rfl) rfl dX10_person_5 ?_
  refine lv_if_ne (tgt := 14) hx hb dX10_person_8 (by decide) (fun c3 => ?_) (fun c3 => ?_)
  · replace hev := x_f c3 hev
    refine lv_iload_n hx hb dX10_person_14 rfl (lv_at hl 2 rfl) ?_
    refine lv_if_lt (tgt := 23) hx hb dX10_person_15 (by decide) (fun c4 => ?_) (fun c4 => ?_)
    · replace hev := x_t c4 hev
      refine lv_bipush (v := (-3 : Int32)) hx hb dX10_person_23 (by decide) ?_
      exact ret _ _ _ dX10_person_25 ((show narrow _ (.int (-3 : Int32)) = .int (-3 : Int32) from rfl).trans (congrArg Value.int (Option.some.inj hev)))
    · replace hev := x_f c4 hev
      refine lv_iload_n hx hb dX10_person_18 rfl (lv_at hl 2 rfl) ?_
      refine lv_iconst (v := (3 : Int32)) hx hb dX10_person_19 (by decide) ?_
      refine lv_icmp_le (tgt := 26) hx hb dX10_person_20 (by decide) (fun c5 => ?_) (fun c5 => ?_)
      · replace hev := x_t c5 hev
        refine lv_iload_n hx hb dX10_person_26 rfl (lv_at hl 2 rfl) ?_
        refine lv_iconst (v := (3 : Int32)) hx hb dX10_person_27 (by decide) ?_
        refine lv_icmp_ne (tgt := 43) hx hb dX10_person_28 (by decide) (fun c6 => ?_) (fun c6 => ?_)
        · replace hev := x_f c6 hev
          refine lv_aload_n hx hb dX10_person_43 rfl (lv_at hl 0 rfl) ?_
          refine va_get (D := G.1) (ci := 6) (v := .int vT_state) (C := RX10) (T := TX10) (N := 14) hx hb hts i10 hown hK hP 0 rfl rfl 12 (by decide) (hw _ u428) (fun _ h9 => h9) rfl dX10_person_44 ?_
          refine lv_aload_n hx hb dX10_person_47 rfl (lv_at hl 0 rfl) ?_
          refine va_get (D := G.1) (ci := 6) (v := .ref aT_rules) (C := RX10) (T := TX10) (N := 14) hx hb hts i10 hown hK hP 0 rfl rfl 3 (by decide) (hw _ u419) (fun _ h9 => h9) rfl dX10_person_48 ?_
          refine lv_iload_n hx hb dX10_person_51 rfl (lv_at hl 1 rfl) ?_
          refine lv_iload_n hx hb dX10_person_52 rfl (lv_at hl 2 rfl) ?_
          obtain ⟨y7, hq, hev⟩ := x_bd hev
          refine roV X hKK hR (st1 := [.int y7, .int vT_state]) (c_Ru_cursesOn l G aT_rules aT_rules_masks aT_rules_values aT_rules_askings aT_rules_kissesNeeded aT_rules_wakings aT_rules_binders aT_rules_curses aT_rules_doers aT_rules_sorts aT_rules_whichs aT_rules_bars aT_rules_bits aT_rules_kisses vT_rules_people vT_rules_spells vT_rules_deedCount fT_rules_curses p1 p2 y7 hq) K_X4_cursesOn u656 (x_Psub hP [2, 3] rfl) rfl (q0 := 0) rfl (by decide) ⟨Nat.zero_le _, Nat.zero_le _⟩ rfl hl.1 rfl (Nat.le_of_ble_eq_true rfl) rfl dX10_person_53 ?_
          refine lv_iand hx hb dX10_person_56 ?_
          refine lv_if_eq (tgt := 64) hx hb dX10_person_57 (by decide) (fun c8 => ?_) (fun c8 => ?_)
          · replace hev := x_t c8 hev
            refine lv_iconst (v := (0 : Int32)) hx hb dX10_person_64 (by decide) ?_
            exact J65 (0 : Int32) ls hev (lv_sub hl [] rfl)
          · replace hev := x_f c8 hev
            refine lv_iconst (v := (1 : Int32)) hx hb dX10_person_60 (by decide) ?_
            refine lv_goto (tgt := 65) hx hb dX10_person_61 (by decide) ?_
            exact J65 (1 : Int32) ls hev (lv_sub hl [] rfl)
        · replace hev := x_t c6 hev
          refine lv_aload_n hx hb dX10_person_31 rfl (lv_at hl 0 rfl) ?_
          refine va_get (D := G.1) (ci := 6) (v := .int vT_state) (C := RX10) (T := TX10) (N := 14) hx hb hts i10 hown hK hP 0 rfl rfl 12 (by decide) (hw _ u428) (fun _ h9 => h9) rfl dX10_person_32 ?_
          obtain ⟨y9, hq, hev⟩ := x_bd hev
          refine roS X hKK hR (st1 := [.int y9]) (c_St_weepers l G vT_state y9 hq) K_X6_weepers u653 (x_Psub hP [] rfl) (by decide) ⟨Nat.zero_le _, Nat.zero_le _⟩ rfl hl.1 rfl (Nat.le_of_ble_eq_true rfl) rfl dX10_person_35 ?_
          refine lv_iload_n hx hb dX10_person_38 rfl (lv_at hl 1 rfl) ?_
          refine lv_ishr hx hb dX10_person_39 ?_
          refine lv_iconst (v := (1 : Int32)) hx hb dX10_person_40 (by decide) ?_
          refine lv_iand hx hb dX10_person_41 ?_
          exact ret _ _ _ dX10_person_42 ((show narrow _ (.int ((y9 >>> (p1 &&& 31)) &&& (1 : Int32))) = .int ((y9 >>> (p1 &&& 31)) &&& (1 : Int32)) from rfl).trans (congrArg Value.int (Option.some.inj hev)))
      · replace hev := x_f c5 hev
        refine lv_bipush (v := (-3 : Int32)) hx hb dX10_person_23 (by decide) ?_
        exact ret _ _ _ dX10_person_25 ((show narrow _ (.int (-3 : Int32)) = .int (-3 : Int32) from rfl).trans (congrArg Value.int (Option.some.inj hev)))
  · replace hev := x_t c3 hev
    refine lv_bipush (v := (-2 : Int32)) hx hb dX10_person_11 (by decide) ?_
    exact ret _ _ _ dX10_person_13 ((show narrow _ (.int (-2 : Int32)) = .int (-2 : Int32) from rfl).trans (congrArg Value.int (Option.some.inj hev)))
def f_SS_spell_J100 (vT_state : Int32) (vT_told_spells : Int32) (fT_rules_binders : Nat → Int32) (fT_told_kinds : Nat → Int32) (fT_told_targets : Nat → Int32) (fT_told_terms : Nat → Int32) (fT_told_wakes : Nat → Int32) (s0 : Int32) : Option (Int32) := x_B (f_SS_oneIf s0) (fun y1 => some y1)
def f_SS_spell (vT_state : Int32) (vT_told_spells : Int32) (fT_rules_binders : Nat → Int32) (fT_told_kinds : Nat → Int32) (fT_told_targets : Nat → Int32) (fT_told_terms : Nat → Int32) (fT_told_wakes : Nat → Int32) (p1 : Int32) (p2 : Int32) : Option (Int32) := x_B (f_To_hasSpell vT_told_spells p1) (fun y2 => if y2 = 0 then (some (-2 : Int32)) else if p2 = (0 : Int32) then (x_B (f_To_kindOf vT_told_spells fT_told_kinds p1) (fun y5 => some y5)) else if p2 = (1 : Int32) then (x_B (f_To_targetOf vT_told_spells fT_told_targets p1) (fun y7 => some y7)) else if p2 = (2 : Int32) then (some ((vT_state >>> (p1 &&& 31)) &&& (1 : Int32))) else if p2 = (3 : Int32) then (x_B (f_Ru_bindersOf fT_rules_binders p1) (fun y10 => if (vT_state &&& y10) = 0 then (f_SS_spell_J100 vT_state vT_told_spells fT_rules_binders fT_told_kinds fT_told_targets fT_told_terms fT_told_wakes (0 : Int32)) else f_SS_spell_J100 vT_state vT_told_spells fT_rules_binders fT_told_kinds fT_told_targets fT_told_terms fT_told_wakes (1 : Int32))) else if p2 = (4 : Int32) then (x_B (f_To_termsOf vT_told_spells fT_told_terms p1) (fun y13 => some y13)) else if p2 = (5 : Int32) then (x_B (f_To_wakenedBy vT_told_spells fT_told_wakes p1) (fun y15 => some y15)) else some (-3 : Int32))
set_option maxHeartbeats 8000000 in
set_option maxRecDepth 100000 in
theorem c_SS_spell (l : Launch) (G : GG) (aT aT_text aT_told aT_reader aT_rules aT_fromNow aT_whatIf aT_trials aT_undoable aT_keptStates aT_keptDeeds aT_row aT_princes aT_told_kinds aT_told_targets aT_told_wakes aT_told_terms aT_told_sorts aT_told_numbers aT_rules_masks aT_rules_values aT_rules_askings aT_rules_kissesNeeded aT_rules_wakings aT_rules_binders aT_rules_curses aT_rules_doers aT_rules_sorts aT_rules_whichs aT_rules_bars aT_rules_bits aT_rules_kisses : Nat) (vT_state : Int32) (vT_deeds : Int32) (vT_told_people : Int32) (vT_told_spells : Int32) (vT_told_day : Int32) (vT_told_broken : Int32) (vT_rules_people : Int32) (vT_rules_spells : Int32) (vT_rules_deedCount : Int32) (fT_told_wakes : Nat → Int32) (fT_told_terms : Nat → Int32) (fT_rules_binders : Nat → Int32) (fT_told_targets : Nat → Int32) (fT_told_kinds : Nat → Int32) (p1 : Int32) (p2 : Int32) (r0 : Int32) (hev : f_SS_spell vT_state vT_told_spells fT_rules_binders fT_told_kinds fT_told_targets fT_told_terms fT_told_wakes p1 p2 = some r0) : RO l G yX10_spell cX10_spell 3 (some .int) 2 [.ref aT, .int p1, .int p2] [(aT, .inr (6, [.ref aT_text, .ref aT_told, .ref aT_reader, .ref aT_rules, .ref aT_fromNow, .ref aT_whatIf, .ref aT_trials, .ref aT_undoable, .ref aT_keptStates, .ref aT_keptDeeds, .ref aT_row, .ref aT_princes, .int vT_state, .int vT_deeds])), (aT_told, .inr (4, [.int vT_told_people, .int vT_told_spells, .int vT_told_day, .int vT_told_broken, .ref aT_told_kinds, .ref aT_told_targets, .ref aT_told_wakes, .ref aT_told_terms, .ref aT_told_sorts, .ref aT_told_numbers])), (aT_rules, .inr (2, [.int vT_rules_people, .int vT_rules_spells, .int vT_rules_deedCount, .ref aT_rules_masks, .ref aT_rules_values, .ref aT_rules_askings, .ref aT_rules_kissesNeeded, .ref aT_rules_wakings, .ref aT_rules_binders, .ref aT_rules_curses, .ref aT_rules_doers, .ref aT_rules_sorts, .ref aT_rules_whichs, .ref aT_rules_bars, .ref aT_rules_bits, .ref aT_rules_kisses])), (aT_told_wakes, .inl (G.2.1, 5, .inl fT_told_wakes)), (aT_told_terms, .inl (G.2.1, 5, .inl fT_told_terms)), (aT_rules_binders, .inl (G.2.1, 5, .inl fT_rules_binders)), (aT_told_targets, .inl (G.2.1, 5, .inl fT_told_targets)), (aT_told_kinds, .inl (G.2.1, 5, .inl fT_told_kinds))] (some (.int r0)) := by
  refine RO_of (by decide) (Nat.le_of_ble_eq_true rfl) ?_
  intro p e s m ar below meth c R Q H ls X hR hP hKK hS0 hl ret
  generalize hrs : r0 = rs at hev ret
  have hl : lv_has ls 3 [(0, .ref aT), (1, .int p1), (2, .int p2)] := hl
  obtain ⟨hx, hb, hml, hown, hts, hT⟩ := id X
  have hK := hKK.1
  have hw : ∀ w ∈ T0, w.before ar s = true := fun w h => hts w (hT w h)
  have i10 := fun w h => hT w (inT10 w h)
  have J100 : ∀ (s0 : Int32), ∀ (ls : Array Slot), f_SS_spell_J100 vT_state vT_told_spells fT_rules_binders fT_told_kinds fT_told_targets fT_told_terms fT_told_wakes s0 = some rs → lv_has ls 3 [] → W p l e R s m ar below meth c H [] 0 0 Q (F0 m 100 ls [.int s0]) := by
    intro s0 ls hev hl
    unfold f_SS_spell_J100 at hev
    obtain ⟨y1, hq, hev⟩ := x_bd hev
    refine roS X hKK hR (st1 := [.int y1]) (c_SS_oneIf l G s0 y1 hq) K_X10_oneIf u657 (x_Psub hP [] rfl) (by decide) ⟨Nat.zero_le _, Nat.zero_le _⟩ rfl hl.1 rfl (Nat.le_of_ble_eq_true rfl) rfl dX10_spell_100 ?_
    exact ret _ _ _ dX10_spell_103 ((show narrow _ (.int y1) = .int y1 from rfl).trans (congrArg Value.int (Option.some.inj hev)))
  unfold f_SS_spell at hev
  refine lv_aload_n hx hb dX10_spell_0 rfl (lv_at hl 0 rfl) ?_
  refine va_get (D := G.1) (ci := 6) (v := .ref aT_told) (C := RX10) (T := TX10) (N := 14) hx hb hts i10 hown hK hP 0 rfl rfl 1 (by decide) (hw _ u417) (fun _ h9 => h9) rfl dX10_spell_1 ?_
  refine lv_iload_n hx hb dX10_spell_4 rfl (lv_at hl 1 rfl) ?_
  obtain ⟨y2, hq, hev⟩ := x_bd hev
  refine roV X hKK hR (st1 := [.int y2]) (c_To_hasSpell l G aT_told aT_told_kinds aT_told_targets aT_told_wakes aT_told_terms aT_told_sorts aT_told_numbers vT_told_people vT_told_spells vT_told_day vT_told_broken p1 y2 hq) K_X8_hasSpell u664 (x_Psub hP [1] rfl) rfl (q0 := 0) rfl (by decide) ⟨Nat.zero_le _, Nat.zero_le _⟩ rfl hl.1 rfl (Nat.le_of_ble_eq_true rfl) rfl dX10_spell_5 ?_
  refine lv_if_ne (tgt := 14) hx hb dX10_spell_8 (by decide) (fun c3 => ?_) (fun c3 => ?_)
  · replace hev := x_f c3 hev
    refine lv_iload_n hx hb dX10_spell_14 rfl (lv_at hl 2 rfl) ?_
    by_cases c4 : p2 = (0 : Int32)
    · replace hev := x_t c4 hev
      refine lv_tableIn (tgt := 52) hx hb dX10_spell_15 (by rw [c4]; decide) (by rw [c4]; decide) (by rw [c4]; rfl) (by decide) ?_
      refine lv_aload_n hx hb dX10_spell_52 rfl (lv_at hl 0 rfl) ?_
      refine va_get (D := G.1) (ci := 6) (v := .ref aT_told) (C := RX10) (T := TX10) (N := 14) hx hb hts i10 hown hK hP 0 rfl rfl 1 (by decide) (hw _ u417) (fun _ h9 => h9) rfl dX10_spell_53 ?_
      refine lv_iload_n hx hb dX10_spell_56 rfl (lv_at hl 1 rfl) ?_
      obtain ⟨y5, hq, hev⟩ := x_bd hev
      refine roV X hKK hR (st1 := [.int y5]) (c_To_kindOf l G aT_told aT_told_kinds aT_told_targets aT_told_wakes aT_told_terms aT_told_sorts aT_told_numbers vT_told_people vT_told_spells vT_told_day vT_told_broken fT_told_kinds p1 y5 hq) K_X8_kindOf u665 (x_Psub hP [1, 7] rfl) rfl (q0 := 0) rfl (by decide) ⟨Nat.zero_le _, Nat.zero_le _⟩ rfl hl.1 rfl (Nat.le_of_ble_eq_true rfl) rfl dX10_spell_57 ?_
      exact ret _ _ _ dX10_spell_60 ((show narrow _ (.int y5) = .int y5 from rfl).trans (congrArg Value.int (Option.some.inj hev)))
    replace hev := x_f c4 hev
    by_cases c6 : p2 = (1 : Int32)
    · replace hev := x_t c6 hev
      refine lv_tableIn (tgt := 61) hx hb dX10_spell_15 (by rw [c6]; decide) (by rw [c6]; decide) (by rw [c6]; rfl) (by decide) ?_
      refine lv_aload_n hx hb dX10_spell_61 rfl (lv_at hl 0 rfl) ?_
      refine va_get (D := G.1) (ci := 6) (v := .ref aT_told) (C := RX10) (T := TX10) (N := 14) hx hb hts i10 hown hK hP 0 rfl rfl 1 (by decide) (hw _ u417) (fun _ h9 => h9) rfl dX10_spell_62 ?_
      refine lv_iload_n hx hb dX10_spell_65 rfl (lv_at hl 1 rfl) ?_
      obtain ⟨y7, hq, hev⟩ := x_bd hev
      refine roV X hKK hR (st1 := [.int y7]) (c_To_targetOf l G aT_told aT_told_kinds aT_told_targets aT_told_wakes aT_told_terms aT_told_sorts aT_told_numbers vT_told_people vT_told_spells vT_told_day vT_told_broken fT_told_targets p1 y7 hq) K_X8_targetOf u666 (x_Psub hP [1, 6] rfl) rfl (q0 := 0) rfl (by decide) ⟨Nat.zero_le _, Nat.zero_le _⟩ rfl hl.1 rfl (Nat.le_of_ble_eq_true rfl) rfl dX10_spell_66 ?_
      exact ret _ _ _ dX10_spell_69 ((show narrow _ (.int y7) = .int y7 from rfl).trans (congrArg Value.int (Option.some.inj hev)))
    replace hev := x_f c6 hev
    by_cases c8 : p2 = (2 : Int32)
    · replace hev := x_t c8 hev
      refine lv_tableIn (tgt := 70) hx hb dX10_spell_15 (by rw [c8]; decide) (by rw [c8]; decide) (by rw [c8]; rfl) (by decide) ?_
      refine lv_aload_n hx hb dX10_spell_70 rfl (lv_at hl 0 rfl) ?_
      refine va_get (D := G.1) (ci := 6) (v := .int vT_state) (C := RX10) (T := TX10) (N := 14) hx hb hts i10 hown hK hP 0 rfl rfl 12 (by decide) (hw _ u428) (fun _ h9 => h9) rfl dX10_spell_71 ?_
      refine lv_iload_n hx hb dX10_spell_74 rfl (lv_at hl 1 rfl) ?_
      refine lv_ishr hx hb dX10_spell_75 ?_
      refine lv_iconst (v := (1 : Int32)) hx hb dX10_spell_76 (by decide) ?_
      refine lv_iand hx hb dX10_spell_77 ?_
      exact ret _ _ _ dX10_spell_78 ((show narrow _ (.int ((vT_state >>> (p1 &&& 31)) &&& (1 : Int32))) = .int ((vT_state >>> (p1 &&& 31)) &&& (1 : Int32)) from rfl).trans (congrArg Value.int (Option.some.inj hev)))
    replace hev := x_f c8 hev
    by_cases c9 : p2 = (3 : Int32)
    · replace hev := x_t c9 hev
      refine lv_tableIn (tgt := 79) hx hb dX10_spell_15 (by rw [c9]; decide) (by rw [c9]; decide) (by rw [c9]; rfl) (by decide) ?_
      refine lv_aload_n hx hb dX10_spell_79 rfl (lv_at hl 0 rfl) ?_
      refine va_get (D := G.1) (ci := 6) (v := .int vT_state) (C := RX10) (T := TX10) (N := 14) hx hb hts i10 hown hK hP 0 rfl rfl 12 (by decide) (hw _ u428) (fun _ h9 => h9) rfl dX10_spell_80 ?_
      refine lv_aload_n hx hb dX10_spell_83 rfl (lv_at hl 0 rfl) ?_
      refine va_get (D := G.1) (ci := 6) (v := .ref aT_rules) (C := RX10) (T := TX10) (N := 14) hx hb hts i10 hown hK hP 0 rfl rfl 3 (by decide) (hw _ u419) (fun _ h9 => h9) rfl dX10_spell_84 ?_
      refine lv_iload_n hx hb dX10_spell_87 rfl (lv_at hl 1 rfl) ?_
      obtain ⟨y10, hq, hev⟩ := x_bd hev
      refine roV X hKK hR (st1 := [.int y10, .int vT_state]) (c_Ru_bindersOf l G aT_rules aT_rules_masks aT_rules_values aT_rules_askings aT_rules_kissesNeeded aT_rules_wakings aT_rules_binders aT_rules_curses aT_rules_doers aT_rules_sorts aT_rules_whichs aT_rules_bars aT_rules_bits aT_rules_kisses vT_rules_people vT_rules_spells vT_rules_deedCount fT_rules_binders p1 y10 hq) K_X4_bindersOf u667 (x_Psub hP [2, 5] rfl) rfl (q0 := 0) rfl (by decide) ⟨Nat.zero_le _, Nat.zero_le _⟩ rfl hl.1 rfl (Nat.le_of_ble_eq_true rfl) rfl dX10_spell_88 ?_
      refine lv_iand hx hb dX10_spell_91 ?_
      refine lv_if_eq (tgt := 99) hx hb dX10_spell_92 (by decide) (fun c11 => ?_) (fun c11 => ?_)
      · replace hev := x_t c11 hev
        refine lv_iconst (v := (0 : Int32)) hx hb dX10_spell_99 (by decide) ?_
        exact J100 (0 : Int32) ls hev (lv_sub hl [] rfl)
      · replace hev := x_f c11 hev
        refine lv_iconst (v := (1 : Int32)) hx hb dX10_spell_95 (by decide) ?_
        refine lv_goto (tgt := 100) hx hb dX10_spell_96 (by decide) ?_
        exact J100 (1 : Int32) ls hev (lv_sub hl [] rfl)
    replace hev := x_f c9 hev
    by_cases c12 : p2 = (4 : Int32)
    · replace hev := x_t c12 hev
      refine lv_tableIn (tgt := 104) hx hb dX10_spell_15 (by rw [c12]; decide) (by rw [c12]; decide) (by rw [c12]; rfl) (by decide) ?_
      refine lv_aload_n hx hb dX10_spell_104 rfl (lv_at hl 0 rfl) ?_
      refine va_get (D := G.1) (ci := 6) (v := .ref aT_told) (C := RX10) (T := TX10) (N := 14) hx hb hts i10 hown hK hP 0 rfl rfl 1 (by decide) (hw _ u417) (fun _ h9 => h9) rfl dX10_spell_105 ?_
      refine lv_iload_n hx hb dX10_spell_108 rfl (lv_at hl 1 rfl) ?_
      obtain ⟨y13, hq, hev⟩ := x_bd hev
      refine roV X hKK hR (st1 := [.int y13]) (c_To_termsOf l G aT_told aT_told_kinds aT_told_targets aT_told_wakes aT_told_terms aT_told_sorts aT_told_numbers vT_told_people vT_told_spells vT_told_day vT_told_broken fT_told_terms p1 y13 hq) K_X8_termsOf u671 (x_Psub hP [1, 4] rfl) rfl (q0 := 0) rfl (by decide) ⟨Nat.zero_le _, Nat.zero_le _⟩ rfl hl.1 rfl (Nat.le_of_ble_eq_true rfl) rfl dX10_spell_109 ?_
      exact ret _ _ _ dX10_spell_112 ((show narrow _ (.int y13) = .int y13 from rfl).trans (congrArg Value.int (Option.some.inj hev)))
    replace hev := x_f c12 hev
    by_cases c14 : p2 = (5 : Int32)
    · replace hev := x_t c14 hev
      refine lv_tableIn (tgt := 113) hx hb dX10_spell_15 (by rw [c14]; decide) (by rw [c14]; decide) (by rw [c14]; rfl) (by decide) ?_
      refine lv_aload_n hx hb dX10_spell_113 rfl (lv_at hl 0 rfl) ?_
      refine va_get (D := G.1) (ci := 6) (v := .ref aT_told) (C := RX10) (T := TX10) (N := 14) hx hb hts i10 hown hK hP 0 rfl rfl 1 (by decide) (hw _ u417) (fun _ h9 => h9) rfl dX10_spell_114 ?_
      refine lv_iload_n hx hb dX10_spell_117 rfl (lv_at hl 1 rfl) ?_
      obtain ⟨y15, hq, hev⟩ := x_bd hev
      refine roV X hKK hR (st1 := [.int y15]) (c_To_wakenedBy l G aT_told aT_told_kinds aT_told_targets aT_told_wakes aT_told_terms aT_told_sorts aT_told_numbers vT_told_people vT_told_spells vT_told_day vT_told_broken fT_told_wakes p1 y15 hq) K_X8_wakenedBy u672 (x_Psub hP [1, 3] rfl) rfl (q0 := 0) rfl (by decide) ⟨Nat.zero_le _, Nat.zero_le _⟩ rfl hl.1 rfl (Nat.le_of_ble_eq_true rfl) rfl dX10_spell_118 ?_
      exact ret _ _ _ dX10_spell_121 ((show narrow _ (.int y15) = .int y15 from rfl).trans (congrArg Value.int (Option.some.inj hev)))
    replace hev := x_f c14 hev
    refine lv_tableOut (tgt := 122) hx hb dX10_spell_15 (by have q0 : p2.toInt ≠ 0 := x_ne c4; have q1 : p2.toInt ≠ 1 := x_ne c6; have q2 : p2.toInt ≠ 2 := x_ne c8; have q3 : p2.toInt ≠ 3 := x_ne c9; have q4 : p2.toInt ≠ 4 := x_ne c12; have q5 : p2.toInt ≠ 5 := x_ne c14; omega) (by decide) ?_
    refine lv_bipush (v := (-3 : Int32)) hx hb dX10_spell_122 (by decide) ?_
    exact ret _ _ _ dX10_spell_124 ((show narrow _ (.int (-3 : Int32)) = .int (-3 : Int32) from rfl).trans (congrArg Value.int (Option.some.inj hev)))
  · replace hev := x_t c3 hev
    refine lv_bipush (v := (-2 : Int32)) hx hb dX10_spell_11 (by decide) ?_
    exact ret _ _ _ dX10_spell_13 ((show narrow _ (.int (-2 : Int32)) = .int (-2 : Int32) from rfl).trans (congrArg Value.int (Option.some.inj hev)))
def f_SS_isSoNow (vT_state : Int32) (vT_told_spells : Int32) (fT_told_numbers : Nat → Int32) (fT_told_sorts : Nat → Int32) (fT_told_terms : Nat → Int32) (p1 : Int32) (p2 : Int32) : Option (Int32) := x_B (f_To_sortOf vT_told_spells fT_told_sorts fT_told_terms p1 p2) (fun y1 => x_B (f_To_numberOf vT_told_spells fT_told_numbers fT_told_terms p1 p2) (fun y2 => x_B (f_Tm_isSo y1 y2 vT_state) (fun y3 => some (y3 &&& 1))))
set_option maxHeartbeats 8000000 in
set_option maxRecDepth 100000 in
theorem c_SS_isSoNow (l : Launch) (G : GG) (aT aT_text aT_told aT_reader aT_rules aT_fromNow aT_whatIf aT_trials aT_undoable aT_keptStates aT_keptDeeds aT_row aT_princes aT_told_kinds aT_told_targets aT_told_wakes aT_told_terms aT_told_sorts aT_told_numbers : Nat) (vT_state : Int32) (vT_deeds : Int32) (vT_told_people : Int32) (vT_told_spells : Int32) (vT_told_day : Int32) (vT_told_broken : Int32) (fT_told_terms : Nat → Int32) (fT_told_sorts : Nat → Int32) (fT_told_numbers : Nat → Int32) (p1 : Int32) (p2 : Int32) (r0 : Int32) (hev : f_SS_isSoNow vT_state vT_told_spells fT_told_numbers fT_told_sorts fT_told_terms p1 p2 = some r0) : RO l G yX10_isSoNow cX10_isSoNow 3 (some .boolean) 3 [.ref aT, .int p1, .int p2] [(aT, .inr (6, [.ref aT_text, .ref aT_told, .ref aT_reader, .ref aT_rules, .ref aT_fromNow, .ref aT_whatIf, .ref aT_trials, .ref aT_undoable, .ref aT_keptStates, .ref aT_keptDeeds, .ref aT_row, .ref aT_princes, .int vT_state, .int vT_deeds])), (aT_told, .inr (4, [.int vT_told_people, .int vT_told_spells, .int vT_told_day, .int vT_told_broken, .ref aT_told_kinds, .ref aT_told_targets, .ref aT_told_wakes, .ref aT_told_terms, .ref aT_told_sorts, .ref aT_told_numbers])), (aT_told_terms, .inl (G.2.1, 5, .inl fT_told_terms)), (aT_told_sorts, .inl (G.2.1, 15, .inl fT_told_sorts)), (aT_told_numbers, .inl (G.2.1, 15, .inl fT_told_numbers))] (some (.int r0)) := by
  refine RO_of (by decide) (Nat.le_of_ble_eq_true rfl) ?_
  intro p e s m ar below meth c R Q H ls X hR hP hKK hS0 hl ret
  generalize hrs : r0 = rs at hev ret
  have hl : lv_has ls 3 [(0, .ref aT), (1, .int p1), (2, .int p2)] := hl
  obtain ⟨hx, hb, hml, hown, hts, hT⟩ := id X
  have hK := hKK.1
  have hw : ∀ w ∈ T0, w.before ar s = true := fun w h => hts w (hT w h)
  have i10 := fun w h => hT w (inT10 w h)
  unfold f_SS_isSoNow at hev
  refine lv_aload_n hx hb dX10_isSoNow_0 rfl (lv_at hl 0 rfl) ?_
  refine va_get (D := G.1) (ci := 6) (v := .ref aT_told) (C := RX10) (T := TX10) (N := 14) hx hb hts i10 hown hK hP 0 rfl rfl 1 (by decide) (hw _ u417) (fun _ h9 => h9) rfl dX10_isSoNow_1 ?_
  refine lv_iload_n hx hb dX10_isSoNow_4 rfl (lv_at hl 1 rfl) ?_
  refine lv_iload_n hx hb dX10_isSoNow_5 rfl (lv_at hl 2 rfl) ?_
  obtain ⟨y1, hq, hev⟩ := x_bd hev
  refine roV X hKK hR (st1 := [.int y1]) (c_To_sortOf l G aT_told aT_told_kinds aT_told_targets aT_told_wakes aT_told_terms aT_told_sorts aT_told_numbers vT_told_people vT_told_spells vT_told_day vT_told_broken fT_told_terms fT_told_sorts p1 p2 y1 hq) K_X8_sortOf u677 (x_Psub hP [1, 2, 3] rfl) rfl (q0 := 0) rfl (by decide) ⟨Nat.zero_le _, Nat.zero_le _⟩ rfl hl.1 rfl (Nat.le_of_ble_eq_true rfl) rfl dX10_isSoNow_6 ?_
  refine lv_aload_n hx hb dX10_isSoNow_9 rfl (lv_at hl 0 rfl) ?_
  refine va_get (D := G.1) (ci := 6) (v := .ref aT_told) (C := RX10) (T := TX10) (N := 14) hx hb hts i10 hown hK hP 0 rfl rfl 1 (by decide) (hw _ u417) (fun _ h9 => h9) rfl dX10_isSoNow_10 ?_
  refine lv_iload_n hx hb dX10_isSoNow_13 rfl (lv_at hl 1 rfl) ?_
  refine lv_iload_n hx hb dX10_isSoNow_14 rfl (lv_at hl 2 rfl) ?_
  obtain ⟨y2, hq, hev⟩ := x_bd hev
  refine roV X hKK hR (st1 := [.int y2, .int y1]) (c_To_numberOf l G aT_told aT_told_kinds aT_told_targets aT_told_wakes aT_told_terms aT_told_sorts aT_told_numbers vT_told_people vT_told_spells vT_told_day vT_told_broken fT_told_terms fT_told_numbers p1 p2 y2 hq) K_X8_numberOf u678 (x_Psub hP [1, 2, 4] rfl) rfl (q0 := 0) rfl (by decide) ⟨Nat.zero_le _, Nat.zero_le _⟩ rfl hl.1 rfl (Nat.le_of_ble_eq_true rfl) rfl dX10_isSoNow_15 ?_
  refine lv_aload_n hx hb dX10_isSoNow_18 rfl (lv_at hl 0 rfl) ?_
  refine va_get (D := G.1) (ci := 6) (v := .int vT_state) (C := RX10) (T := TX10) (N := 14) hx hb hts i10 hown hK hP 0 rfl rfl 12 (by decide) (hw _ u428) (fun _ h9 => h9) rfl dX10_isSoNow_19 ?_
  obtain ⟨y3, hq, hev⟩ := x_bd hev
  refine roS X hKK hR (st1 := [.int y3]) (c_Tm_isSo l G y1 y2 vT_state y3 hq) K_X7_isSo u683 (x_Psub hP [] rfl) (by decide) ⟨Nat.zero_le _, Nat.zero_le _⟩ rfl hl.1 rfl (Nat.le_of_ble_eq_true rfl) rfl dX10_isSoNow_22 ?_
  exact ret _ _ _ dX10_isSoNow_25 ((show narrow _ (.int y3) = .int (y3 &&& 1) from rfl).trans (congrArg Value.int (Option.some.inj hev)))
def f_SS_term (vT_state : Int32) (vT_told_spells : Int32) (fT_told_numbers : Nat → Int32) (fT_told_sorts : Nat → Int32) (fT_told_terms : Nat → Int32) (p1 : Int32) (p2 : Int32) (p3 : Int32) : Option (Int32) := x_B (f_To_hasSpell vT_told_spells p1) (fun y1 => if y1 = 0 then (some (-2 : Int32)) else if p2 < 0 then (some (-2 : Int32)) else x_B (f_To_termsOf vT_told_spells fT_told_terms p1) (fun y4 => if p2 < y4 then (if p3 = (0 : Int32) then (x_B (f_To_sortOf vT_told_spells fT_told_sorts fT_told_terms p1 p2) (fun y7 => some y7)) else if p3 = (1 : Int32) then (x_B (f_To_numberOf vT_told_spells fT_told_numbers fT_told_terms p1 p2) (fun y9 => some y9)) else if p3 = (2 : Int32) then (x_B (f_SS_isSoNow vT_state vT_told_spells fT_told_numbers fT_told_sorts fT_told_terms p1 p2) (fun y11 => x_B (f_SS_oneIf y11) (fun y12 => some y12))) else some (-3 : Int32)) else some (-2 : Int32)))
set_option maxHeartbeats 8000000 in
set_option maxRecDepth 100000 in
theorem c_SS_term (l : Launch) (G : GG) (aT aT_text aT_told aT_reader aT_rules aT_fromNow aT_whatIf aT_trials aT_undoable aT_keptStates aT_keptDeeds aT_row aT_princes aT_told_kinds aT_told_targets aT_told_wakes aT_told_terms aT_told_sorts aT_told_numbers : Nat) (vT_state : Int32) (vT_deeds : Int32) (vT_told_people : Int32) (vT_told_spells : Int32) (vT_told_day : Int32) (vT_told_broken : Int32) (fT_told_terms : Nat → Int32) (fT_told_sorts : Nat → Int32) (fT_told_numbers : Nat → Int32) (p1 : Int32) (p2 : Int32) (p3 : Int32) (r0 : Int32) (hev : f_SS_term vT_state vT_told_spells fT_told_numbers fT_told_sorts fT_told_terms p1 p2 p3 = some r0) : RO l G yX10_term cX10_term 4 (some .int) 4 [.ref aT, .int p1, .int p2, .int p3] [(aT, .inr (6, [.ref aT_text, .ref aT_told, .ref aT_reader, .ref aT_rules, .ref aT_fromNow, .ref aT_whatIf, .ref aT_trials, .ref aT_undoable, .ref aT_keptStates, .ref aT_keptDeeds, .ref aT_row, .ref aT_princes, .int vT_state, .int vT_deeds])), (aT_told, .inr (4, [.int vT_told_people, .int vT_told_spells, .int vT_told_day, .int vT_told_broken, .ref aT_told_kinds, .ref aT_told_targets, .ref aT_told_wakes, .ref aT_told_terms, .ref aT_told_sorts, .ref aT_told_numbers])), (aT_told_terms, .inl (G.2.1, 5, .inl fT_told_terms)), (aT_told_sorts, .inl (G.2.1, 15, .inl fT_told_sorts)), (aT_told_numbers, .inl (G.2.1, 15, .inl fT_told_numbers))] (some (.int r0)) := by
  refine RO_of (by decide) (Nat.le_of_ble_eq_true rfl) ?_
  intro p e s m ar below meth c R Q H ls X hR hP hKK hS0 hl ret
  generalize hrs : r0 = rs at hev ret
  have hl : lv_has ls 4 [(0, .ref aT), (1, .int p1), (2, .int p2), (3, .int p3)] := hl
  obtain ⟨hx, hb, hml, hown, hts, hT⟩ := id X
  have hK := hKK.1
  have hw : ∀ w ∈ T0, w.before ar s = true := fun w h => hts w (hT w h)
  have i10 := fun w h => hT w (inT10 w h)
  unfold f_SS_term at hev
  refine lv_aload_n hx hb dX10_term_0 rfl (lv_at hl 0 rfl) ?_
  refine va_get (D := G.1) (ci := 6) (v := .ref aT_told) (C := RX10) (T := TX10) (N := 14) hx hb hts i10 hown hK hP 0 rfl rfl 1 (by decide) (hw _ u417) (fun _ h9 => h9) rfl dX10_term_1 ?_
  refine lv_iload_n hx hb dX10_term_4 rfl (lv_at hl 1 rfl) ?_
  obtain ⟨y1, hq, hev⟩ := x_bd hev
  refine roV X hKK hR (st1 := [.int y1]) (c_To_hasSpell l G aT_told aT_told_kinds aT_told_targets aT_told_wakes aT_told_terms aT_told_sorts aT_told_numbers vT_told_people vT_told_spells vT_told_day vT_told_broken p1 y1 hq) K_X8_hasSpell u664 (x_Psub hP [1] rfl) rfl (q0 := 0) rfl (by decide) ⟨Nat.zero_le _, Nat.zero_le _⟩ rfl hl.1 rfl (Nat.le_of_ble_eq_true rfl) rfl dX10_term_5 ?_
  refine lv_if_eq (tgt := 27) hx hb dX10_term_8 (by decide) (fun c2 => ?_) (fun c2 => ?_)
  · replace hev := x_t c2 hev
    refine lv_bipush (v := (-2 : Int32)) hx hb dX10_term_27 (by decide) ?_
    exact ret _ _ _ dX10_term_29 ((show narrow _ (.int (-2 : Int32)) = .int (-2 : Int32) from rfl).trans (congrArg Value.int (Option.some.inj hev)))
  · replace hev := x_f c2 hev
    refine lv_iload_n hx hb dX10_term_11 rfl (lv_at hl 2 rfl) ?_
    refine lv_if_lt (tgt := 27) hx hb dX10_term_12 (by decide) (fun c3 => ?_) (fun c3 => ?_)
    · replace hev := x_t c3 hev
      refine lv_bipush (v := (-2 : Int32)) hx hb dX10_term_27 (by decide) ?_
      exact ret _ _ _ dX10_term_29 ((show narrow _ (.int (-2 : Int32)) = .int (-2 : Int32) from rfl).trans (congrArg Value.int (Option.some.inj hev)))
    · replace hev := x_f c3 hev
      refine lv_iload_n hx hb dX10_term_15 rfl (lv_at hl 2 rfl) ?_
      refine lv_aload_n hx hb dX10_term_16 rfl (lv_at hl 0 rfl) ?_
      refine va_get (D := G.1) (ci := 6) (v := .ref aT_told) (C := RX10) (T := TX10) (N := 14) hx hb hts i10 hown hK hP 0 rfl rfl 1 (by decide) (hw _ u417) (fun _ h9 => h9) rfl dX10_term_17 ?_
      refine lv_iload_n hx hb dX10_term_20 rfl (lv_at hl 1 rfl) ?_
      obtain ⟨y4, hq, hev⟩ := x_bd hev
      refine roV X hKK hR (st1 := [.int y4, .int p2]) (c_To_termsOf l G aT_told aT_told_kinds aT_told_targets aT_told_wakes aT_told_terms aT_told_sorts aT_told_numbers vT_told_people vT_told_spells vT_told_day vT_told_broken fT_told_terms p1 y4 hq) K_X8_termsOf u671 (x_Psub hP [1, 2] rfl) rfl (q0 := 0) rfl (by decide) ⟨Nat.zero_le _, Nat.zero_le _⟩ rfl hl.1 rfl (Nat.le_of_ble_eq_true rfl) rfl dX10_term_21 ?_
      refine lv_icmp_lt (tgt := 30) hx hb dX10_term_24 (by decide) (fun c5 => ?_) (fun c5 => ?_)
      · replace hev := x_t c5 hev
        refine lv_iload_n hx hb dX10_term_30 rfl (lv_at hl 3 rfl) ?_
        by_cases c6 : p3 = (0 : Int32)
        · replace hev := x_t c6 hev
          refine lv_tableIn (tgt := 56) hx hb dX10_term_31 (by rw [c6]; decide) (by rw [c6]; decide) (by rw [c6]; rfl) (by decide) ?_
          refine lv_aload_n hx hb dX10_term_56 rfl (lv_at hl 0 rfl) ?_
          refine va_get (D := G.1) (ci := 6) (v := .ref aT_told) (C := RX10) (T := TX10) (N := 14) hx hb hts i10 hown hK hP 0 rfl rfl 1 (by decide) (hw _ u417) (fun _ h9 => h9) rfl dX10_term_57 ?_
          refine lv_iload_n hx hb dX10_term_60 rfl (lv_at hl 1 rfl) ?_
          refine lv_iload_n hx hb dX10_term_61 rfl (lv_at hl 2 rfl) ?_
          obtain ⟨y7, hq, hev⟩ := x_bd hev
          refine roV X hKK hR (st1 := [.int y7]) (c_To_sortOf l G aT_told aT_told_kinds aT_told_targets aT_told_wakes aT_told_terms aT_told_sorts aT_told_numbers vT_told_people vT_told_spells vT_told_day vT_told_broken fT_told_terms fT_told_sorts p1 p2 y7 hq) K_X8_sortOf u677 (x_Psub hP [1, 2, 3] rfl) rfl (q0 := 0) rfl (by decide) ⟨Nat.zero_le _, Nat.zero_le _⟩ rfl hl.1 rfl (Nat.le_of_ble_eq_true rfl) rfl dX10_term_62 ?_
          exact ret _ _ _ dX10_term_65 ((show narrow _ (.int y7) = .int y7 from rfl).trans (congrArg Value.int (Option.some.inj hev)))
        replace hev := x_f c6 hev
        by_cases c8 : p3 = (1 : Int32)
        · replace hev := x_t c8 hev
          refine lv_tableIn (tgt := 66) hx hb dX10_term_31 (by rw [c8]; decide) (by rw [c8]; decide) (by rw [c8]; rfl) (by decide) ?_
          refine lv_aload_n hx hb dX10_term_66 rfl (lv_at hl 0 rfl) ?_
          refine va_get (D := G.1) (ci := 6) (v := .ref aT_told) (C := RX10) (T := TX10) (N := 14) hx hb hts i10 hown hK hP 0 rfl rfl 1 (by decide) (hw _ u417) (fun _ h9 => h9) rfl dX10_term_67 ?_
          refine lv_iload_n hx hb dX10_term_70 rfl (lv_at hl 1 rfl) ?_
          refine lv_iload_n hx hb dX10_term_71 rfl (lv_at hl 2 rfl) ?_
          obtain ⟨y9, hq, hev⟩ := x_bd hev
          refine roV X hKK hR (st1 := [.int y9]) (c_To_numberOf l G aT_told aT_told_kinds aT_told_targets aT_told_wakes aT_told_terms aT_told_sorts aT_told_numbers vT_told_people vT_told_spells vT_told_day vT_told_broken fT_told_terms fT_told_numbers p1 p2 y9 hq) K_X8_numberOf u678 (x_Psub hP [1, 2, 4] rfl) rfl (q0 := 0) rfl (by decide) ⟨Nat.zero_le _, Nat.zero_le _⟩ rfl hl.1 rfl (Nat.le_of_ble_eq_true rfl) rfl dX10_term_72 ?_
          exact ret _ _ _ dX10_term_75 ((show narrow _ (.int y9) = .int y9 from rfl).trans (congrArg Value.int (Option.some.inj hev)))
        replace hev := x_f c8 hev
        by_cases c10 : p3 = (2 : Int32)
        · replace hev := x_t c10 hev
          refine lv_tableIn (tgt := 76) hx hb dX10_term_31 (by rw [c10]; decide) (by rw [c10]; decide) (by rw [c10]; rfl) (by decide) ?_
          refine lv_aload_n hx hb dX10_term_76 rfl (lv_at hl 0 rfl) ?_
          refine lv_iload_n hx hb dX10_term_77 rfl (lv_at hl 1 rfl) ?_
          refine lv_iload_n hx hb dX10_term_78 rfl (lv_at hl 2 rfl) ?_
          obtain ⟨y11, hq, hev⟩ := x_bd hev
          refine roV X hKK hR (st1 := [.int y11]) (c_SS_isSoNow l G aT aT_text aT_told aT_reader aT_rules aT_fromNow aT_whatIf aT_trials aT_undoable aT_keptStates aT_keptDeeds aT_row aT_princes aT_told_kinds aT_told_targets aT_told_wakes aT_told_terms aT_told_sorts aT_told_numbers vT_state vT_deeds vT_told_people vT_told_spells vT_told_day vT_told_broken fT_told_terms fT_told_sorts fT_told_numbers p1 p2 y11 hq) K_X10_isSoNow u679 (x_Psub hP [0, 1, 2, 3, 4] rfl) rfl (q0 := 0) rfl (by decide) ⟨Nat.zero_le _, Nat.zero_le _⟩ rfl hl.1 rfl (Nat.le_of_ble_eq_true rfl) rfl dX10_term_79 ?_
          obtain ⟨y12, hq, hev⟩ := x_bd hev
          refine roS X hKK hR (st1 := [.int y12]) (c_SS_oneIf l G y11 y12 hq) K_X10_oneIf u657 (x_Psub hP [] rfl) (by decide) ⟨Nat.zero_le _, Nat.zero_le _⟩ rfl hl.1 rfl (Nat.le_of_ble_eq_true rfl) rfl dX10_term_82 ?_
          exact ret _ _ _ dX10_term_85 ((show narrow _ (.int y12) = .int y12 from rfl).trans (congrArg Value.int (Option.some.inj hev)))
        replace hev := x_f c10 hev
        refine lv_tableOut (tgt := 86) hx hb dX10_term_31 (by have q0 : p3.toInt ≠ 0 := x_ne c6; have q1 : p3.toInt ≠ 1 := x_ne c8; have q2 : p3.toInt ≠ 2 := x_ne c10; omega) (by decide) ?_
        refine lv_bipush (v := (-3 : Int32)) hx hb dX10_term_86 (by decide) ?_
        exact ret _ _ _ dX10_term_88 ((show narrow _ (.int (-3 : Int32)) = .int (-3 : Int32) from rfl).trans (congrArg Value.int (Option.some.inj hev)))
      · replace hev := x_f c5 hev
        refine lv_bipush (v := (-2 : Int32)) hx hb dX10_term_27 (by decide) ?_
        exact ret _ _ _ dX10_term_29 ((show narrow _ (.int (-2 : Int32)) = .int (-2 : Int32) from rfl).trans (congrArg Value.int (Option.some.inj hev)))
def f_SS_termsSoNow_L4 (vT_state : Int32) (vT_told_spells : Int32) (fT_told_numbers : Nat → Int32) (fT_told_sorts : Nat → Int32) (fT_told_terms : Nat → Int32) (x1 : Int32) : Nat → Int32 → Int32 → Option (Int32)
  | 0, _, _ => none
  | k + 1, x2, x3 => if (3 : Int32) ≤ x3 then (some x2) else x_B (f_To_termsOf vT_told_spells fT_told_terms x1) (fun y2 => if y2 ≤ x3 then (some x2) else x_B (f_SS_isSoNow vT_state vT_told_spells fT_told_numbers fT_told_sorts fT_told_terms x1 x3) (fun y4 => x_B (f_SS_oneIf y4) (fun y5 => x_L ((x2 + y5)) (fun y6 => x_L (x3 + (1 : Int32)) (fun y7 => (f_SS_termsSoNow_L4 vT_state vT_told_spells fT_told_numbers fT_told_sorts fT_told_terms x1 k) y6 y7)))))
def f_SS_termsSoNow (k : Nat) (vT_state : Int32) (vT_told_spells : Int32) (fT_told_numbers : Nat → Int32) (fT_told_sorts : Nat → Int32) (fT_told_terms : Nat → Int32) (p1 : Int32) : Option (Int32) := x_B (f_SS_termsSoNow_L4 vT_state vT_told_spells fT_told_numbers fT_told_sorts fT_told_terms p1 k (0 : Int32) (0 : Int32)) (fun y8 => some y8)
set_option maxHeartbeats 8000000 in
set_option maxRecDepth 100000 in
theorem c_SS_termsSoNow (l : Launch) (G : GG) (aT aT_text aT_told aT_reader aT_rules aT_fromNow aT_whatIf aT_trials aT_undoable aT_keptStates aT_keptDeeds aT_row aT_princes aT_told_kinds aT_told_targets aT_told_wakes aT_told_terms aT_told_sorts aT_told_numbers : Nat) (vT_state : Int32) (vT_deeds : Int32) (vT_told_people : Int32) (vT_told_spells : Int32) (vT_told_day : Int32) (vT_told_broken : Int32) (fT_told_terms : Nat → Int32) (fT_told_sorts : Nat → Int32) (fT_told_numbers : Nat → Int32) (k : Nat) (p1 : Int32) (r0 : Int32) (hev : f_SS_termsSoNow k vT_state vT_told_spells fT_told_numbers fT_told_sorts fT_told_terms p1 = some r0) : RO l G yX10_termsSoNow cX10_termsSoNow 4 (some .int) 4 [.ref aT, .int p1] [(aT, .inr (6, [.ref aT_text, .ref aT_told, .ref aT_reader, .ref aT_rules, .ref aT_fromNow, .ref aT_whatIf, .ref aT_trials, .ref aT_undoable, .ref aT_keptStates, .ref aT_keptDeeds, .ref aT_row, .ref aT_princes, .int vT_state, .int vT_deeds])), (aT_told, .inr (4, [.int vT_told_people, .int vT_told_spells, .int vT_told_day, .int vT_told_broken, .ref aT_told_kinds, .ref aT_told_targets, .ref aT_told_wakes, .ref aT_told_terms, .ref aT_told_sorts, .ref aT_told_numbers])), (aT_told_terms, .inl (G.2.1, 5, .inl fT_told_terms)), (aT_told_sorts, .inl (G.2.1, 15, .inl fT_told_sorts)), (aT_told_numbers, .inl (G.2.1, 15, .inl fT_told_numbers))] (some (.int r0)) := by
  refine RO_of (by decide) (Nat.le_of_ble_eq_true rfl) ?_
  intro p e s m ar below meth c R Q H ls X hR hP hKK hS0 hl ret
  generalize hrs : r0 = rs at hev ret
  have hl : lv_has ls 4 [(0, .ref aT), (1, .int p1)] := hl
  obtain ⟨hx, hb, hml, hown, hts, hT⟩ := id X
  have hK := hKK.1
  have hw : ∀ w ∈ T0, w.before ar s = true := fun w h => hts w (hT w h)
  have i10 := fun w h => hT w (inT10 w h)
  unfold f_SS_termsSoNow at hev
  refine lv_iconst (v := (0 : Int32)) hx hb dX10_termsSoNow_0 (by decide) ?_
  refine lv_istore_n (lv' := [(2, .int (0 : Int32)), (0, .ref aT), (1, .int p1)]) hx hb dX10_termsSoNow_1 rfl hl (by decide) rfl (fun ls hl => ?_)
  refine lv_iconst (v := (0 : Int32)) hx hb dX10_termsSoNow_2 (by decide) ?_
  refine lv_istore_n (lv' := [(3, .int (0 : Int32)), (2, .int (0 : Int32)), (0, .ref aT), (1, .int p1)]) hx hb dX10_termsSoNow_3 rfl hl (by decide) rfl (fun ls hl => ?_)
  have L4 : ∀ (x1 : Int32), ∀ (k : Nat) (x2 : Int32) (x3 : Int32) (o2 : Int32), f_SS_termsSoNow_L4 vT_state vT_told_spells fT_told_numbers fT_told_sorts fT_told_terms x1 k x2 x3 = some o2 → (∀ (ls : Array Slot), lv_has ls 4 [(2, .int o2)] → W p l e R s m ar below meth c H [] 0 0 Q (F0 m 39 ls [])) → ∀ (ls : Array Slot), lv_has ls 4 [(0, .ref aT), (1, .int x1), (2, .int x2), (3, .int x3)] → W p l e R s m ar below meth c H [] 0 0 Q (F0 m 4 ls []) := by
    intro x1 k
    induction k with
    | zero => intro x2 x3 o2 hev; rw [f_SS_termsSoNow_L4] at hev; cases hev
    | succ k ih =>
      intro x2 x3 o2 hev hex ls hl
      rw [f_SS_termsSoNow_L4] at hev
      refine lv_iload_n hx hb dX10_termsSoNow_4 rfl (lv_at hl 3 rfl) ?_
      refine lv_iconst (v := (3 : Int32)) hx hb dX10_termsSoNow_5 (by decide) ?_
      refine lv_icmp_ge (tgt := 39) hx hb dX10_termsSoNow_6 (by decide) (fun c1 => ?_) (fun c1 => ?_)
      · replace hev := x_t c1 hev
        cases hev
        exact hex ls (lv_sub hl [2] rfl)
      · replace hev := x_f c1 hev
        refine lv_iload_n hx hb dX10_termsSoNow_9 rfl (lv_at hl 3 rfl) ?_
        refine lv_aload_n hx hb dX10_termsSoNow_10 rfl (lv_at hl 0 rfl) ?_
        refine va_get (D := G.1) (ci := 6) (v := .ref aT_told) (C := RX10) (T := TX10) (N := 14) hx hb hts i10 hown hK hP 0 rfl rfl 1 (by decide) (hw _ u417) (fun _ h9 => h9) rfl dX10_termsSoNow_11 ?_
        refine lv_iload_n hx hb dX10_termsSoNow_14 rfl (lv_at hl 1 rfl) ?_
        obtain ⟨y2, hq, hev⟩ := x_bd hev
        refine roV X hKK hR (st1 := [.int y2, .int x3]) (c_To_termsOf l G aT_told aT_told_kinds aT_told_targets aT_told_wakes aT_told_terms aT_told_sorts aT_told_numbers vT_told_people vT_told_spells vT_told_day vT_told_broken fT_told_terms x1 y2 hq) K_X8_termsOf u671 (x_Psub hP [1, 2] rfl) rfl (q0 := 0) rfl (by decide) ⟨Nat.zero_le _, Nat.zero_le _⟩ rfl hl.1 rfl (Nat.le_of_ble_eq_true rfl) rfl dX10_termsSoNow_15 ?_
        refine lv_icmp_ge (tgt := 39) hx hb dX10_termsSoNow_18 (by decide) (fun c3 => ?_) (fun c3 => ?_)
        · replace hev := x_t c3 hev
          cases hev
          exact hex ls (lv_sub hl [2] rfl)
        · replace hev := x_f c3 hev
          refine lv_iload_n hx hb dX10_termsSoNow_21 rfl (lv_at hl 2 rfl) ?_
          refine lv_aload_n hx hb dX10_termsSoNow_22 rfl (lv_at hl 0 rfl) ?_
          refine lv_iload_n hx hb dX10_termsSoNow_23 rfl (lv_at hl 1 rfl) ?_
          refine lv_iload_n hx hb dX10_termsSoNow_24 rfl (lv_at hl 3 rfl) ?_
          obtain ⟨y4, hq, hev⟩ := x_bd hev
          refine roV X hKK hR (st1 := [.int y4, .int x2]) (c_SS_isSoNow l G aT aT_text aT_told aT_reader aT_rules aT_fromNow aT_whatIf aT_trials aT_undoable aT_keptStates aT_keptDeeds aT_row aT_princes aT_told_kinds aT_told_targets aT_told_wakes aT_told_terms aT_told_sorts aT_told_numbers vT_state vT_deeds vT_told_people vT_told_spells vT_told_day vT_told_broken fT_told_terms fT_told_sorts fT_told_numbers x1 x3 y4 hq) K_X10_isSoNow u679 (x_Psub hP [0, 1, 2, 3, 4] rfl) rfl (q0 := 0) rfl (by decide) ⟨Nat.zero_le _, Nat.zero_le _⟩ rfl hl.1 rfl (Nat.le_of_ble_eq_true rfl) rfl dX10_termsSoNow_25 ?_
          obtain ⟨y5, hq, hev⟩ := x_bd hev
          refine roS X hKK hR (st1 := [.int y5, .int x2]) (c_SS_oneIf l G y4 y5 hq) K_X10_oneIf u657 (x_Psub hP [] rfl) (by decide) ⟨Nat.zero_le _, Nat.zero_le _⟩ rfl hl.1 rfl (Nat.le_of_ble_eq_true rfl) rfl dX10_termsSoNow_28 ?_
          refine lv_iadd hx hb dX10_termsSoNow_31 ?_
          refine lv_topi (fun y6 ey6 => ?_)
          replace hev := x_lt hev y6 ey6
          refine lv_istore_n (lv' := [(2, .int y6), (0, .ref aT), (1, .int x1), (3, .int x3)]) hx hb dX10_termsSoNow_32 rfl hl (by decide) rfl (fun ls hl => ?_)
          obtain ⟨y7, ey7⟩ : ∃ y : Int32, y = x3 + (1 : Int32) := ⟨_, rfl⟩
          refine lv_iinc (v := y7) (lv' := [(3, .int y7), (2, .int y6), (0, .ref aT), (1, .int x1)]) hx hb dX10_termsSoNow_33 hl (k := 3) rfl (by rw [ey7]; rfl) (by decide) rfl (fun ls hl => ?_)
          replace hev := x_lt hev y7 ey7
          refine lv_goto (tgt := 4) hx hb dX10_termsSoNow_36 (by decide) ?_
          exact ih y6 y7 _ hev hex ls (lv_sub hl [2, 3, 1, 0] rfl)
  obtain ⟨y8, hq, hev⟩ := x_bd hev
  refine L4 p1 k (0 : Int32) (0 : Int32) y8 hq (fun ls hl => ?_) ls (lv_sub hl [2, 3, 1, 0] rfl)
  refine lv_iload_n hx hb dX10_termsSoNow_39 rfl (lv_at hl 0 rfl) ?_
  exact ret _ _ _ dX10_termsSoNow_40 ((show narrow _ (.int y8) = .int y8 from rfl).trans (congrArg Value.int (Option.some.inj hev)))
def f_SS_wordsLovedBy_J47 (rec : Int32 → Int32 → Option (Int32)) (k : Nat) (vT_told_spells : Int32) (fT_told_sorts : Nat → Int32) (fT_told_terms : Nat → Int32) (x1 : Int32) (x2 : Int32) (x4 : Int32) (s0 : Int32) (s1 : Int32) : Option (Int32) := x_B (f_SS_oneIf s0) (fun y1 => x_L ((s1 + y1)) (fun y2 => x_L (x4 + (1 : Int32)) (fun y3 => rec y2 y3)))
def f_SS_wordsLovedBy_L5 (vT_told_spells : Int32) (fT_told_sorts : Nat → Int32) (fT_told_terms : Nat → Int32) (x1 : Int32) (x2 : Int32) : Nat → Int32 → Int32 → Option (Int32)
  | 0, _, _ => none
  | k + 1, x3, x4 => if (3 : Int32) ≤ x4 then (some x3) else x_B (f_To_termsOf vT_told_spells fT_told_terms x2) (fun y5 => if y5 ≤ x4 then (some x3) else x_B (f_To_sortOf vT_told_spells fT_told_sorts fT_told_terms x2 x4) (fun y7 => x_B (f_Tm_lover y7) (fun y8 => if y8 = x1 then (f_SS_wordsLovedBy_J47 (f_SS_wordsLovedBy_L5 vT_told_spells fT_told_sorts fT_told_terms x1 x2 k) k vT_told_spells fT_told_sorts fT_told_terms x1 x2 x4 (1 : Int32) x3) else f_SS_wordsLovedBy_J47 (f_SS_wordsLovedBy_L5 vT_told_spells fT_told_sorts fT_told_terms x1 x2 k) k vT_told_spells fT_told_sorts fT_told_terms x1 x2 x4 (0 : Int32) x3)))
def f_SS_wordsLovedBy (k : Nat) (vT_told_spells : Int32) (fT_told_sorts : Nat → Int32) (fT_told_terms : Nat → Int32) (p1 : Int32) (p2 : Int32) : Option (Int32) := x_B (f_SS_wordsLovedBy_L5 vT_told_spells fT_told_sorts fT_told_terms p1 p2 k (0 : Int32) (0 : Int32)) (fun y10 => some y10)
set_option maxHeartbeats 8000000 in
set_option maxRecDepth 100000 in
theorem c_SS_wordsLovedBy (l : Launch) (G : GG) (aT aT_text aT_told aT_reader aT_rules aT_fromNow aT_whatIf aT_trials aT_undoable aT_keptStates aT_keptDeeds aT_row aT_princes aT_told_kinds aT_told_targets aT_told_wakes aT_told_terms aT_told_sorts aT_told_numbers : Nat) (vT_state : Int32) (vT_deeds : Int32) (vT_told_people : Int32) (vT_told_spells : Int32) (vT_told_day : Int32) (vT_told_broken : Int32) (fT_told_terms : Nat → Int32) (fT_told_sorts : Nat → Int32) (k : Nat) (p1 : Int32) (p2 : Int32) (r0 : Int32) (hev : f_SS_wordsLovedBy k vT_told_spells fT_told_sorts fT_told_terms p1 p2 = some r0) : RO l G yX10_wordsLovedBy cX10_wordsLovedBy 5 (some .int) 3 [.ref aT, .int p1, .int p2] [(aT, .inr (6, [.ref aT_text, .ref aT_told, .ref aT_reader, .ref aT_rules, .ref aT_fromNow, .ref aT_whatIf, .ref aT_trials, .ref aT_undoable, .ref aT_keptStates, .ref aT_keptDeeds, .ref aT_row, .ref aT_princes, .int vT_state, .int vT_deeds])), (aT_told, .inr (4, [.int vT_told_people, .int vT_told_spells, .int vT_told_day, .int vT_told_broken, .ref aT_told_kinds, .ref aT_told_targets, .ref aT_told_wakes, .ref aT_told_terms, .ref aT_told_sorts, .ref aT_told_numbers])), (aT_told_terms, .inl (G.2.1, 5, .inl fT_told_terms)), (aT_told_sorts, .inl (G.2.1, 15, .inl fT_told_sorts))] (some (.int r0)) := by
  refine RO_of (by decide) (Nat.le_of_ble_eq_true rfl) ?_
  intro p e s m ar below meth c R Q H ls X hR hP hKK hS0 hl ret
  generalize hrs : r0 = rs at hev ret
  have hl : lv_has ls 5 [(0, .ref aT), (1, .int p1), (2, .int p2)] := hl
  obtain ⟨hx, hb, hml, hown, hts, hT⟩ := id X
  have hK := hKK.1
  have hw : ∀ w ∈ T0, w.before ar s = true := fun w h => hts w (hT w h)
  have i10 := fun w h => hT w (inT10 w h)
  unfold f_SS_wordsLovedBy at hev
  refine lv_iconst (v := (0 : Int32)) hx hb dX10_wordsLovedBy_0 (by decide) ?_
  refine lv_istore_n (lv' := [(3, .int (0 : Int32)), (0, .ref aT), (1, .int p1), (2, .int p2)]) hx hb dX10_wordsLovedBy_1 rfl hl (by decide) rfl (fun ls hl => ?_)
  refine lv_iconst (v := (0 : Int32)) hx hb dX10_wordsLovedBy_2 (by decide) ?_
  refine lv_istore (lv' := [(4, .int (0 : Int32)), (3, .int (0 : Int32)), (0, .ref aT), (1, .int p1), (2, .int p2)]) hx hb dX10_wordsLovedBy_3 hl (by decide) rfl (fun ls hl => ?_)
  have L5 : ∀ (x1 : Int32) (x2 : Int32), ∀ (k : Nat) (x3 : Int32) (x4 : Int32) (o3 : Int32), f_SS_wordsLovedBy_L5 vT_told_spells fT_told_sorts fT_told_terms x1 x2 k x3 x4 = some o3 → (∀ (ls : Array Slot), lv_has ls 5 [(3, .int o3)] → W p l e R s m ar below meth c H [] 0 0 Q (F0 m 58 ls [])) → ∀ (ls : Array Slot), lv_has ls 5 [(0, .ref aT), (1, .int x1), (2, .int x2), (3, .int x3), (4, .int x4)] → W p l e R s m ar below meth c H [] 0 0 Q (F0 m 5 ls []) := by
    intro x1 x2 k
    induction k with
    | zero => intro x3 x4 o3 hev; rw [f_SS_wordsLovedBy_L5] at hev; cases hev
    | succ k ih =>
      intro x3 x4 o3 hev hex ls hl
      rw [f_SS_wordsLovedBy_L5] at hev
      have J47 : ∀ (x4 : Int32) (s0 : Int32) (s1 : Int32), ∀ (ls : Array Slot), f_SS_wordsLovedBy_J47 (f_SS_wordsLovedBy_L5 vT_told_spells fT_told_sorts fT_told_terms x1 x2 k) k vT_told_spells fT_told_sorts fT_told_terms x1 x2 x4 s0 s1 = some o3 → lv_has ls 5 [(0, .ref aT), (1, .int x1), (2, .int x2), (4, .int x4)] → W p l e R s m ar below meth c H [] 0 0 Q (F0 m 47 ls [.int s0, .int s1]) := by
        intro x4 s0 s1 ls hev hl
        unfold f_SS_wordsLovedBy_J47 at hev
        obtain ⟨y1, hq, hev⟩ := x_bd hev
        refine roS X hKK hR (st1 := [.int y1, .int s1]) (c_SS_oneIf l G s0 y1 hq) K_X10_oneIf u657 (x_Psub hP [] rfl) (by decide) ⟨Nat.zero_le _, Nat.zero_le _⟩ rfl hl.1 rfl (Nat.le_of_ble_eq_true rfl) rfl dX10_wordsLovedBy_47 ?_
        refine lv_iadd hx hb dX10_wordsLovedBy_50 ?_
        refine lv_topi (fun y2 ey2 => ?_)
        replace hev := x_lt hev y2 ey2
        refine lv_istore_n (lv' := [(3, .int y2), (0, .ref aT), (1, .int x1), (2, .int x2), (4, .int x4)]) hx hb dX10_wordsLovedBy_51 rfl hl (by decide) rfl (fun ls hl => ?_)
        obtain ⟨y3, ey3⟩ : ∃ y : Int32, y = x4 + (1 : Int32) := ⟨_, rfl⟩
        refine lv_iinc (v := y3) (lv' := [(4, .int y3), (3, .int y2), (0, .ref aT), (1, .int x1), (2, .int x2)]) hx hb dX10_wordsLovedBy_52 hl (k := 4) rfl (by rw [ey3]; rfl) (by decide) rfl (fun ls hl => ?_)
        replace hev := x_lt hev y3 ey3
        refine lv_goto (tgt := 5) hx hb dX10_wordsLovedBy_55 (by decide) ?_
        exact ih y2 y3 _ hev hex ls (lv_sub hl [2, 3, 4, 1, 0] rfl)
      refine lv_iload hx hb dX10_wordsLovedBy_5 (lv_at hl 4 rfl) ?_
      refine lv_iconst (v := (3 : Int32)) hx hb dX10_wordsLovedBy_7 (by decide) ?_
      refine lv_icmp_ge (tgt := 58) hx hb dX10_wordsLovedBy_8 (by decide) (fun c4 => ?_) (fun c4 => ?_)
      · replace hev := x_t c4 hev
        cases hev
        exact hex ls (lv_sub hl [3] rfl)
      · replace hev := x_f c4 hev
        refine lv_iload hx hb dX10_wordsLovedBy_11 (lv_at hl 4 rfl) ?_
        refine lv_aload_n hx hb dX10_wordsLovedBy_13 rfl (lv_at hl 0 rfl) ?_
        refine va_get (D := G.1) (ci := 6) (v := .ref aT_told) (C := RX10) (T := TX10) (N := 14) hx hb hts i10 hown hK hP 0 rfl rfl 1 (by decide) (hw _ u417) (fun _ h9 => h9) rfl dX10_wordsLovedBy_14 ?_
        refine lv_iload_n hx hb dX10_wordsLovedBy_17 rfl (lv_at hl 2 rfl) ?_
        obtain ⟨y5, hq, hev⟩ := x_bd hev
        refine roV X hKK hR (st1 := [.int y5, .int x4]) (c_To_termsOf l G aT_told aT_told_kinds aT_told_targets aT_told_wakes aT_told_terms aT_told_sorts aT_told_numbers vT_told_people vT_told_spells vT_told_day vT_told_broken fT_told_terms x2 y5 hq) K_X8_termsOf u671 (x_Psub hP [1, 2] rfl) rfl (q0 := 0) rfl (by decide) ⟨Nat.zero_le _, Nat.zero_le _⟩ rfl hl.1 rfl (Nat.le_of_ble_eq_true rfl) rfl dX10_wordsLovedBy_18 ?_
        refine lv_icmp_ge (tgt := 58) hx hb dX10_wordsLovedBy_21 (by decide) (fun c6 => ?_) (fun c6 => ?_)
        · replace hev := x_t c6 hev
          cases hev
          exact hex ls (lv_sub hl [3] rfl)
        · replace hev := x_f c6 hev
          refine lv_iload_n hx hb dX10_wordsLovedBy_24 rfl (lv_at hl 3 rfl) ?_
          refine lv_aload_n hx hb dX10_wordsLovedBy_25 rfl (lv_at hl 0 rfl) ?_
          refine va_get (D := G.1) (ci := 6) (v := .ref aT_told) (C := RX10) (T := TX10) (N := 14) hx hb hts i10 hown hK hP 0 rfl rfl 1 (by decide) (hw _ u417) (fun _ h9 => h9) rfl dX10_wordsLovedBy_26 ?_
          refine lv_iload_n hx hb dX10_wordsLovedBy_29 rfl (lv_at hl 2 rfl) ?_
          refine lv_iload hx hb dX10_wordsLovedBy_30 (lv_at hl 4 rfl) ?_
          obtain ⟨y7, hq, hev⟩ := x_bd hev
          refine roV X hKK hR (st1 := [.int y7, .int x3]) (c_To_sortOf l G aT_told aT_told_kinds aT_told_targets aT_told_wakes aT_told_terms aT_told_sorts aT_told_numbers vT_told_people vT_told_spells vT_told_day vT_told_broken fT_told_terms fT_told_sorts x2 x4 y7 hq) K_X8_sortOf u677 (x_Psub hP [1, 2, 3] rfl) rfl (q0 := 0) rfl (by decide) ⟨Nat.zero_le _, Nat.zero_le _⟩ rfl hl.1 rfl (Nat.le_of_ble_eq_true rfl) rfl dX10_wordsLovedBy_32 ?_
          obtain ⟨y8, hq, hev⟩ := x_bd hev
          refine roS X hKK hR (st1 := [.int y8, .int x3]) (c_Tm_lover l G y7 y8 hq) K_X7_lover u711 (x_Psub hP [] rfl) (by decide) ⟨Nat.zero_le _, Nat.zero_le _⟩ rfl hl.1 rfl (Nat.le_of_ble_eq_true rfl) rfl dX10_wordsLovedBy_35 ?_
          refine lv_iload_n hx hb dX10_wordsLovedBy_38 rfl (lv_at hl 1 rfl) ?_
          refine lv_icmp_ne (tgt := 46) hx hb dX10_wordsLovedBy_39 (by decide) (fun c9 => ?_) (fun c9 => ?_)
          · replace hev := x_f c9 hev
            refine lv_iconst (v := (0 : Int32)) hx hb dX10_wordsLovedBy_46 (by decide) ?_
            exact J47 x4 (0 : Int32) x3 ls hev (lv_sub hl [0, 1, 2, 4] rfl)
          · replace hev := x_t c9 hev
            refine lv_iconst (v := (1 : Int32)) hx hb dX10_wordsLovedBy_42 (by decide) ?_
            refine lv_goto (tgt := 47) hx hb dX10_wordsLovedBy_43 (by decide) ?_
            exact J47 x4 (1 : Int32) x3 ls hev (lv_sub hl [0, 1, 2, 4] rfl)
  obtain ⟨y10, hq, hev⟩ := x_bd hev
  refine L5 p1 p2 k (0 : Int32) (0 : Int32) y10 hq (fun ls hl => ?_) ls (lv_sub hl [2, 3, 4, 1, 0] rfl)
  refine lv_iload_n hx hb dX10_wordsLovedBy_58 rfl (lv_at hl 0 rfl) ?_
  exact ret _ _ _ dX10_wordsLovedBy_59 ((show narrow _ (.int y10) = .int y10 from rfl).trans (congrArg Value.int (Option.some.inj hev)))
def f_SS_laidBy_J48 (rec : Int32 → Int32 → Int32 → Option (Int32)) (k : Nat) (vT_told_spells : Int32) (fT_told_sorts : Nat → Int32) (fT_told_terms : Nat → Int32) (x1 : Int32) (x2 : Int32) (x3 : Int32) (x4 : Int32) : Option (Int32) := x_L (x4 + (1 : Int32)) (fun y3 => rec x2 x3 y3)
def f_SS_laidBy_L21 (vT_told_spells : Int32) (fT_told_sorts : Nat → Int32) (fT_told_terms : Nat → Int32) (x1 : Int32) : Nat → Int32 → Int32 → Int32 → Option (Int32)
  | 0, _, _, _ => none
  | k + 1, x2, x3, x4 => if (3 : Int32) ≤ x4 then (some x2) else x_B (f_SS_wordsLovedBy k vT_told_spells fT_told_sorts fT_told_terms x4 x1) (fun y5 => if y5 ≤ x3 then (f_SS_laidBy_J48 (f_SS_laidBy_L21 vT_told_spells fT_told_sorts fT_told_terms x1 k) k vT_told_spells fT_told_sorts fT_told_terms x1 x2 x3 x4) else f_SS_laidBy_J48 (f_SS_laidBy_L21 vT_told_spells fT_told_sorts fT_told_terms x1 k) k vT_told_spells fT_told_sorts fT_told_terms x1 x4 y5 x4)
def f_SS_laidBy (k : Nat) (vT_told_spells : Int32) (fT_told_sorts : Nat → Int32) (fT_told_terms : Nat → Int32) (p1 : Int32) : Option (Int32) := x_B (f_To_hasSpell vT_told_spells p1) (fun y1 => if y1 = 0 then (some (-2 : Int32)) else x_B (f_SS_laidBy_L21 vT_told_spells fT_told_sorts fT_told_terms p1 k (-1 : Int32) (0 : Int32) (0 : Int32)) (fun y7 => some y7))
set_option maxHeartbeats 8000000 in
set_option maxRecDepth 100000 in
theorem c_SS_laidBy (l : Launch) (G : GG) (aT aT_text aT_told aT_reader aT_rules aT_fromNow aT_whatIf aT_trials aT_undoable aT_keptStates aT_keptDeeds aT_row aT_princes aT_told_kinds aT_told_targets aT_told_wakes aT_told_terms aT_told_sorts aT_told_numbers : Nat) (vT_state : Int32) (vT_deeds : Int32) (vT_told_people : Int32) (vT_told_spells : Int32) (vT_told_day : Int32) (vT_told_broken : Int32) (fT_told_terms : Nat → Int32) (fT_told_sorts : Nat → Int32) (k : Nat) (p1 : Int32) (r0 : Int32) (hev : f_SS_laidBy k vT_told_spells fT_told_sorts fT_told_terms p1 = some r0) : RO l G yX10_laidBy cX10_laidBy 6 (some .int) 4 [.ref aT, .int p1] [(aT, .inr (6, [.ref aT_text, .ref aT_told, .ref aT_reader, .ref aT_rules, .ref aT_fromNow, .ref aT_whatIf, .ref aT_trials, .ref aT_undoable, .ref aT_keptStates, .ref aT_keptDeeds, .ref aT_row, .ref aT_princes, .int vT_state, .int vT_deeds])), (aT_told, .inr (4, [.int vT_told_people, .int vT_told_spells, .int vT_told_day, .int vT_told_broken, .ref aT_told_kinds, .ref aT_told_targets, .ref aT_told_wakes, .ref aT_told_terms, .ref aT_told_sorts, .ref aT_told_numbers])), (aT_told_terms, .inl (G.2.1, 5, .inl fT_told_terms)), (aT_told_sorts, .inl (G.2.1, 15, .inl fT_told_sorts))] (some (.int r0)) := by
  refine RO_of (by decide) (Nat.le_of_ble_eq_true rfl) ?_
  intro p e s m ar below meth c R Q H ls X hR hP hKK hS0 hl ret
  generalize hrs : r0 = rs at hev ret
  have hl : lv_has ls 6 [(0, .ref aT), (1, .int p1)] := hl
  obtain ⟨hx, hb, hml, hown, hts, hT⟩ := id X
  have hK := hKK.1
  have hw : ∀ w ∈ T0, w.before ar s = true := fun w h => hts w (hT w h)
  have i10 := fun w h => hT w (inT10 w h)
  unfold f_SS_laidBy at hev
  refine lv_aload_n hx hb dX10_laidBy_0 rfl (lv_at hl 0 rfl) ?_
  refine va_get (D := G.1) (ci := 6) (v := .ref aT_told) (C := RX10) (T := TX10) (N := 14) hx hb hts i10 hown hK hP 0 rfl rfl 1 (by decide) (hw _ u417) (fun _ h9 => h9) rfl dX10_laidBy_1 ?_
  refine lv_iload_n hx hb dX10_laidBy_4 rfl (lv_at hl 1 rfl) ?_
  obtain ⟨y1, hq, hev⟩ := x_bd hev
  refine roV X hKK hR (st1 := [.int y1]) (c_To_hasSpell l G aT_told aT_told_kinds aT_told_targets aT_told_wakes aT_told_terms aT_told_sorts aT_told_numbers vT_told_people vT_told_spells vT_told_day vT_told_broken p1 y1 hq) K_X8_hasSpell u664 (x_Psub hP [1] rfl) rfl (q0 := 0) rfl (by decide) ⟨Nat.zero_le _, Nat.zero_le _⟩ rfl hl.1 rfl (Nat.le_of_ble_eq_true rfl) rfl dX10_laidBy_5 ?_
  refine lv_if_ne (tgt := 14) hx hb dX10_laidBy_8 (by decide) (fun c2 => ?_) (fun c2 => ?_)
  · replace hev := x_f c2 hev
    refine lv_iconst (v := (-1 : Int32)) hx hb dX10_laidBy_14 (by decide) ?_
    refine lv_istore_n (lv' := [(2, .int (-1 : Int32)), (0, .ref aT), (1, .int p1)]) hx hb dX10_laidBy_15 rfl hl (by decide) rfl (fun ls hl => ?_)
    refine lv_iconst (v := (0 : Int32)) hx hb dX10_laidBy_16 (by decide) ?_
    refine lv_istore_n (lv' := [(3, .int (0 : Int32)), (2, .int (-1 : Int32)), (0, .ref aT), (1, .int p1)]) hx hb dX10_laidBy_17 rfl hl (by decide) rfl (fun ls hl => ?_)
    refine lv_iconst (v := (0 : Int32)) hx hb dX10_laidBy_18 (by decide) ?_
    refine lv_istore (lv' := [(4, .int (0 : Int32)), (3, .int (0 : Int32)), (2, .int (-1 : Int32)), (0, .ref aT), (1, .int p1)]) hx hb dX10_laidBy_19 hl (by decide) rfl (fun ls hl => ?_)
    have L21 : ∀ (x1 : Int32), ∀ (k : Nat) (x2 : Int32) (x3 : Int32) (x4 : Int32) (o2 : Int32), f_SS_laidBy_L21 vT_told_spells fT_told_sorts fT_told_terms x1 k x2 x3 x4 = some o2 → (∀ (ls : Array Slot), lv_has ls 6 [(2, .int o2)] → W p l e R s m ar below meth c H [] 0 0 Q (F0 m 54 ls [])) → ∀ (ls : Array Slot), lv_has ls 6 [(0, .ref aT), (1, .int x1), (2, .int x2), (3, .int x3), (4, .int x4)] → W p l e R s m ar below meth c H [] 0 0 Q (F0 m 21 ls []) := by
      intro x1 k
      induction k with
      | zero => intro x2 x3 x4 o2 hev; rw [f_SS_laidBy_L21] at hev; cases hev
      | succ k ih =>
        intro x2 x3 x4 o2 hev hex ls hl
        rw [f_SS_laidBy_L21] at hev
        have J48 : ∀ (x2 : Int32) (x3 : Int32) (x4 : Int32), ∀ (ls : Array Slot), f_SS_laidBy_J48 (f_SS_laidBy_L21 vT_told_spells fT_told_sorts fT_told_terms x1 k) k vT_told_spells fT_told_sorts fT_told_terms x1 x2 x3 x4 = some o2 → lv_has ls 6 [(0, .ref aT), (1, .int x1), (2, .int x2), (3, .int x3), (4, .int x4)] → W p l e R s m ar below meth c H [] 0 0 Q (F0 m 48 ls []) := by
          intro x2 x3 x4 ls hev hl
          unfold f_SS_laidBy_J48 at hev
          obtain ⟨y3, ey3⟩ : ∃ y : Int32, y = x4 + (1 : Int32) := ⟨_, rfl⟩
          refine lv_iinc (v := y3) (lv' := [(4, .int y3), (0, .ref aT), (1, .int x1), (2, .int x2), (3, .int x3)]) hx hb dX10_laidBy_48 hl (k := 4) rfl (by rw [ey3]; rfl) (by decide) rfl (fun ls hl => ?_)
          replace hev := x_lt hev y3 ey3
          refine lv_goto (tgt := 21) hx hb dX10_laidBy_51 (by decide) ?_
          exact ih x2 x3 y3 _ hev hex ls (lv_sub hl [1, 2, 3, 4, 0] rfl)
        refine lv_iload hx hb dX10_laidBy_21 (lv_at hl 4 rfl) ?_
        refine lv_iconst (v := (3 : Int32)) hx hb dX10_laidBy_23 (by decide) ?_
        refine lv_icmp_ge (tgt := 54) hx hb dX10_laidBy_24 (by decide) (fun c4 => ?_) (fun c4 => ?_)
        · replace hev := x_t c4 hev
          cases hev
          exact hex ls (lv_sub hl [2] rfl)
        · replace hev := x_f c4 hev
          refine lv_aload_n hx hb dX10_laidBy_27 rfl (lv_at hl 0 rfl) ?_
          refine lv_iload hx hb dX10_laidBy_28 (lv_at hl 4 rfl) ?_
          refine lv_iload_n hx hb dX10_laidBy_30 rfl (lv_at hl 1 rfl) ?_
          obtain ⟨y5, hq, hev⟩ := x_bd hev
          refine roV X hKK hR (st1 := [.int y5]) (c_SS_wordsLovedBy l G aT aT_text aT_told aT_reader aT_rules aT_fromNow aT_whatIf aT_trials aT_undoable aT_keptStates aT_keptDeeds aT_row aT_princes aT_told_kinds aT_told_targets aT_told_wakes aT_told_terms aT_told_sorts aT_told_numbers vT_state vT_deeds vT_told_people vT_told_spells vT_told_day vT_told_broken fT_told_terms fT_told_sorts k x4 x1 y5 hq) K_X10_wordsLovedBy u707 (x_Psub hP [0, 1, 2, 3] rfl) rfl (q0 := 0) rfl (by decide) ⟨Nat.zero_le _, Nat.zero_le _⟩ rfl hl.1 rfl (Nat.le_of_ble_eq_true rfl) rfl dX10_laidBy_31 ?_
          refine lv_istore (lv' := [(5, .int y5), (0, .ref aT), (1, .int x1), (2, .int x2), (3, .int x3), (4, .int x4)]) hx hb dX10_laidBy_34 hl (by decide) rfl (fun ls hl => ?_)
          refine lv_iload hx hb dX10_laidBy_36 (lv_at hl 0 rfl) ?_
          refine lv_iload_n hx hb dX10_laidBy_38 rfl (lv_at hl 4 rfl) ?_
          refine lv_icmp_le (tgt := 48) hx hb dX10_laidBy_39 (by decide) (fun c6 => ?_) (fun c6 => ?_)
          · replace hev := x_t c6 hev
            exact J48 x2 x3 x4 ls hev (lv_sub hl [1, 2, 3, 4, 5] rfl)
          · replace hev := x_f c6 hev
            refine lv_iload hx hb dX10_laidBy_42 (lv_at hl 0 rfl) ?_
            refine lv_istore_n (lv' := [(3, .int y5), (5, .int y5), (0, .ref aT), (1, .int x1), (2, .int x2), (4, .int x4)]) hx hb dX10_laidBy_44 rfl hl (by decide) rfl (fun ls hl => ?_)
            refine lv_iload hx hb dX10_laidBy_45 (lv_at hl 5 rfl) ?_
            refine lv_istore_n (lv' := [(2, .int x4), (3, .int y5), (5, .int y5), (0, .ref aT), (1, .int x1), (4, .int x4)]) hx hb dX10_laidBy_47 rfl hl (by decide) rfl (fun ls hl => ?_)
            exact J48 x4 y5 x4 ls hev (lv_sub hl [3, 4, 0, 1, 5] rfl)
    obtain ⟨y7, hq, hev⟩ := x_bd hev
    refine L21 p1 k (-1 : Int32) (0 : Int32) (0 : Int32) y7 hq (fun ls hl => ?_) ls (lv_sub hl [3, 4, 2, 1, 0] rfl)
    refine lv_iload_n hx hb dX10_laidBy_54 rfl (lv_at hl 0 rfl) ?_
    exact ret _ _ _ dX10_laidBy_55 ((show narrow _ (.int y7) = .int y7 from rfl).trans (congrArg Value.int (Option.some.inj hev)))
  · replace hev := x_t c2 hev
    refine lv_bipush (v := (-2 : Int32)) hx hb dX10_laidBy_11 (by decide) ?_
    exact ret _ _ _ dX10_laidBy_13 ((show narrow _ (.int (-2 : Int32)) = .int (-2 : Int32) from rfl).trans (congrArg Value.int (Option.some.inj hev)))
def f_SS_isAnother (vT_told_people : Int32) (p1 : Int32) (p2 : Int32) : Option (Int32) := x_B (f_To_hasPerson vT_told_people p2) (fun y1 => if y1 = 0 then (some (0 : Int32)) else if p2 = p1 then (some (0 : Int32)) else some (1 : Int32))
set_option maxHeartbeats 8000000 in
set_option maxRecDepth 100000 in
theorem c_SS_isAnother (l : Launch) (G : GG) (aT aT_text aT_told aT_reader aT_rules aT_fromNow aT_whatIf aT_trials aT_undoable aT_keptStates aT_keptDeeds aT_row aT_princes aT_told_kinds aT_told_targets aT_told_wakes aT_told_terms aT_told_sorts aT_told_numbers : Nat) (vT_state : Int32) (vT_deeds : Int32) (vT_told_people : Int32) (vT_told_spells : Int32) (vT_told_day : Int32) (vT_told_broken : Int32) (p1 : Int32) (p2 : Int32) (r0 : Int32) (hev : f_SS_isAnother vT_told_people p1 p2 = some r0) : RO l G yX10_isAnother cX10_isAnother 3 (some .boolean) 1 [.ref aT, .int p1, .int p2] [(aT, .inr (6, [.ref aT_text, .ref aT_told, .ref aT_reader, .ref aT_rules, .ref aT_fromNow, .ref aT_whatIf, .ref aT_trials, .ref aT_undoable, .ref aT_keptStates, .ref aT_keptDeeds, .ref aT_row, .ref aT_princes, .int vT_state, .int vT_deeds])), (aT_told, .inr (4, [.int vT_told_people, .int vT_told_spells, .int vT_told_day, .int vT_told_broken, .ref aT_told_kinds, .ref aT_told_targets, .ref aT_told_wakes, .ref aT_told_terms, .ref aT_told_sorts, .ref aT_told_numbers]))] (some (.int r0)) := by
  refine RO_of (by decide) (Nat.le_of_ble_eq_true rfl) ?_
  intro p e s m ar below meth c R Q H ls X hR hP hKK hS0 hl ret
  generalize hrs : r0 = rs at hev ret
  have hl : lv_has ls 3 [(0, .ref aT), (1, .int p1), (2, .int p2)] := hl
  obtain ⟨hx, hb, hml, hown, hts, hT⟩ := id X
  have hK := hKK.1
  have hw : ∀ w ∈ T0, w.before ar s = true := fun w h => hts w (hT w h)
  have i10 := fun w h => hT w (inT10 w h)
  unfold f_SS_isAnother at hev
  refine lv_aload_n hx hb dX10_isAnother_0 rfl (lv_at hl 0 rfl) ?_
  refine va_get (D := G.1) (ci := 6) (v := .ref aT_told) (C := RX10) (T := TX10) (N := 14) hx hb hts i10 hown hK hP 0 rfl rfl 1 (by decide) (hw _ u417) (fun _ h9 => h9) rfl dX10_isAnother_1 ?_
  refine lv_iload_n hx hb dX10_isAnother_4 rfl (lv_at hl 2 rfl) ?_
  obtain ⟨y1, hq, hev⟩ := x_bd hev
  refine roV X hKK hR (st1 := [.int y1]) (c_To_hasPerson l G aT_told aT_told_kinds aT_told_targets aT_told_wakes aT_told_terms aT_told_sorts aT_told_numbers vT_told_people vT_told_spells vT_told_day vT_told_broken p2 y1 hq) K_X8_hasPerson u649 (x_Psub hP [1] rfl) rfl (q0 := 0) rfl (by decide) ⟨Nat.zero_le _, Nat.zero_le _⟩ rfl hl.1 rfl (Nat.le_of_ble_eq_true rfl) rfl dX10_isAnother_5 ?_
  refine lv_if_eq (tgt := 20) hx hb dX10_isAnother_8 (by decide) (fun c2 => ?_) (fun c2 => ?_)
  · replace hev := x_t c2 hev
    refine lv_iconst (v := (0 : Int32)) hx hb dX10_isAnother_20 (by decide) ?_
    exact ret _ _ _ dX10_isAnother_21 ((show narrow _ (.int (0 : Int32)) = .int (0 : Int32) from nb0).trans (congrArg Value.int (Option.some.inj hev)))
  · replace hev := x_f c2 hev
    refine lv_iload_n hx hb dX10_isAnother_11 rfl (lv_at hl 2 rfl) ?_
    refine lv_iload_n hx hb dX10_isAnother_12 rfl (lv_at hl 1 rfl) ?_
    refine lv_icmp_eq (tgt := 20) hx hb dX10_isAnother_13 (by decide) (fun c3 => ?_) (fun c3 => ?_)
    · replace hev := x_t c3 hev
      refine lv_iconst (v := (0 : Int32)) hx hb dX10_isAnother_20 (by decide) ?_
      exact ret _ _ _ dX10_isAnother_21 ((show narrow _ (.int (0 : Int32)) = .int (0 : Int32) from nb0).trans (congrArg Value.int (Option.some.inj hev)))
    · replace hev := x_f c3 hev
      refine lv_iconst (v := (1 : Int32)) hx hb dX10_isAnother_16 (by decide) ?_
      refine lv_goto (tgt := 21) hx hb dX10_isAnother_17 (by decide) ?_
      exact ret _ _ _ dX10_isAnother_21 ((show narrow _ (.int (1 : Int32)) = .int (1 : Int32) from nb1).trans (congrArg Value.int (Option.some.inj hev)))
def f_SS_refusal_J56 (vT_told_people : Int32) : Option (Int32) := some (-3 : Int32)
def f_SS_refusal_J47 (vT_told_people : Int32) (x2 : Int32) : Option (Int32) := if x2 < 0 then (f_SS_refusal_J56 vT_told_people) else if x2 ≤ (4 : Int32) then (some (0 : Int32)) else f_SS_refusal_J56 vT_told_people
def f_SS_refusal_J30 (vT_told_people : Int32) (x2 : Int32) (x3 : Int32) : Option (Int32) := if x2 = (2 : Int32) then (if x3 < 0 then (some (-2 : Int32)) else if x3 < (2 : Int32) then (f_SS_refusal_J47 vT_told_people x2) else some (-2 : Int32)) else f_SS_refusal_J47 vT_told_people x2
def f_SS_refusal (vT_told_people : Int32) (p1 : Int32) (p2 : Int32) (p3 : Int32) : Option (Int32) := x_B (f_To_hasPerson vT_told_people p1) (fun y6 => if y6 = 0 then (some (-2 : Int32)) else if p2 = 0 then (x_B (f_SS_isAnother vT_told_people p1 p3) (fun y9 => if y9 = 0 then (some (-2 : Int32)) else f_SS_refusal_J30 vT_told_people p2 p3)) else f_SS_refusal_J30 vT_told_people p2 p3)
set_option maxHeartbeats 8000000 in
set_option maxRecDepth 100000 in
theorem c_SS_refusal (l : Launch) (G : GG) (aT aT_text aT_told aT_reader aT_rules aT_fromNow aT_whatIf aT_trials aT_undoable aT_keptStates aT_keptDeeds aT_row aT_princes aT_told_kinds aT_told_targets aT_told_wakes aT_told_terms aT_told_sorts aT_told_numbers : Nat) (vT_state : Int32) (vT_deeds : Int32) (vT_told_people : Int32) (vT_told_spells : Int32) (vT_told_day : Int32) (vT_told_broken : Int32) (p1 : Int32) (p2 : Int32) (p3 : Int32) (r0 : Int32) (hev : f_SS_refusal vT_told_people p1 p2 p3 = some r0) : RO l G yX10_refusal cX10_refusal 4 (some .int) 2 [.ref aT, .int p1, .int p2, .int p3] [(aT, .inr (6, [.ref aT_text, .ref aT_told, .ref aT_reader, .ref aT_rules, .ref aT_fromNow, .ref aT_whatIf, .ref aT_trials, .ref aT_undoable, .ref aT_keptStates, .ref aT_keptDeeds, .ref aT_row, .ref aT_princes, .int vT_state, .int vT_deeds])), (aT_told, .inr (4, [.int vT_told_people, .int vT_told_spells, .int vT_told_day, .int vT_told_broken, .ref aT_told_kinds, .ref aT_told_targets, .ref aT_told_wakes, .ref aT_told_terms, .ref aT_told_sorts, .ref aT_told_numbers]))] (some (.int r0)) := by
  refine RO_of (by decide) (Nat.le_of_ble_eq_true rfl) ?_
  intro p e s m ar below meth c R Q H ls X hR hP hKK hS0 hl ret
  generalize hrs : r0 = rs at hev ret
  have hl : lv_has ls 4 [(0, .ref aT), (1, .int p1), (2, .int p2), (3, .int p3)] := hl
  obtain ⟨hx, hb, hml, hown, hts, hT⟩ := id X
  have hK := hKK.1
  have hw : ∀ w ∈ T0, w.before ar s = true := fun w h => hts w (hT w h)
  have i10 := fun w h => hT w (inT10 w h)
  have J56 : ∀ (ls : Array Slot), f_SS_refusal_J56 vT_told_people = some rs → lv_has ls 4 [] → W p l e R s m ar below meth c H [] 0 0 Q (F0 m 56 ls []) := by
    intro  ls hev hl
    unfold f_SS_refusal_J56 at hev
    refine lv_bipush (v := (-3 : Int32)) hx hb dX10_refusal_56 (by decide) ?_
    refine lv_goto (tgt := 62) hx hb dX10_refusal_58 (by decide) ?_
    exact ret _ _ _ dX10_refusal_62 ((show narrow _ (.int (-3 : Int32)) = .int (-3 : Int32) from rfl).trans (congrArg Value.int (Option.some.inj hev)))
  have J47 : ∀ (x2 : Int32), ∀ (ls : Array Slot), f_SS_refusal_J47 vT_told_people x2 = some rs → lv_has ls 4 [(2, .int x2)] → W p l e R s m ar below meth c H [] 0 0 Q (F0 m 47 ls []) := by
    intro x2 ls hev hl
    unfold f_SS_refusal_J47 at hev
    refine lv_iload_n hx hb dX10_refusal_47 rfl (lv_at hl 0 rfl) ?_
    refine lv_if_lt (tgt := 56) hx hb dX10_refusal_48 (by decide) (fun c1 => ?_) (fun c1 => ?_)
    · replace hev := x_t c1 hev
      exact J56  ls hev (lv_sub hl [] rfl)
    · replace hev := x_f c1 hev
      refine lv_iload_n hx hb dX10_refusal_51 rfl (lv_at hl 0 rfl) ?_
      refine lv_iconst (v := (4 : Int32)) hx hb dX10_refusal_52 (by decide) ?_
      refine lv_icmp_le (tgt := 61) hx hb dX10_refusal_53 (by decide) (fun c2 => ?_) (fun c2 => ?_)
      · replace hev := x_t c2 hev
        refine lv_iconst (v := (0 : Int32)) hx hb dX10_refusal_61 (by decide) ?_
        exact ret _ _ _ dX10_refusal_62 ((show narrow _ (.int (0 : Int32)) = .int (0 : Int32) from rfl).trans (congrArg Value.int (Option.some.inj hev)))
      · replace hev := x_f c2 hev
        exact J56  ls hev (lv_sub hl [] rfl)
  have J30 : ∀ (x2 : Int32) (x3 : Int32), ∀ (ls : Array Slot), f_SS_refusal_J30 vT_told_people x2 x3 = some rs → lv_has ls 4 [(2, .int x2), (3, .int x3)] → W p l e R s m ar below meth c H [] 0 0 Q (F0 m 30 ls []) := by
    intro x2 x3 ls hev hl
    unfold f_SS_refusal_J30 at hev
    refine lv_iload_n hx hb dX10_refusal_30 rfl (lv_at hl 0 rfl) ?_
    refine lv_iconst (v := (2 : Int32)) hx hb dX10_refusal_31 (by decide) ?_
    refine lv_icmp_ne (tgt := 47) hx hb dX10_refusal_32 (by decide) (fun c3 => ?_) (fun c3 => ?_)
    · replace hev := x_f c3 hev
      exact J47 x2 ls hev (lv_sub hl [0] rfl)
    · replace hev := x_t c3 hev
      refine lv_iload_n hx hb dX10_refusal_35 rfl (lv_at hl 1 rfl) ?_
      refine lv_if_lt (tgt := 44) hx hb dX10_refusal_36 (by decide) (fun c4 => ?_) (fun c4 => ?_)
      · replace hev := x_t c4 hev
        refine lv_bipush (v := (-2 : Int32)) hx hb dX10_refusal_44 (by decide) ?_
        exact ret _ _ _ dX10_refusal_46 ((show narrow _ (.int (-2 : Int32)) = .int (-2 : Int32) from rfl).trans (congrArg Value.int (Option.some.inj hev)))
      · replace hev := x_f c4 hev
        refine lv_iload_n hx hb dX10_refusal_39 rfl (lv_at hl 1 rfl) ?_
        refine lv_iconst (v := (2 : Int32)) hx hb dX10_refusal_40 (by decide) ?_
        refine lv_icmp_lt (tgt := 47) hx hb dX10_refusal_41 (by decide) (fun c5 => ?_) (fun c5 => ?_)
        · replace hev := x_t c5 hev
          exact J47 x2 ls hev (lv_sub hl [0] rfl)
        · replace hev := x_f c5 hev
          refine lv_bipush (v := (-2 : Int32)) hx hb dX10_refusal_44 (by decide) ?_
          exact ret _ _ _ dX10_refusal_46 ((show narrow _ (.int (-2 : Int32)) = .int (-2 : Int32) from rfl).trans (congrArg Value.int (Option.some.inj hev)))
  unfold f_SS_refusal at hev
  refine lv_aload_n hx hb dX10_refusal_0 rfl (lv_at hl 0 rfl) ?_
  refine va_get (D := G.1) (ci := 6) (v := .ref aT_told) (C := RX10) (T := TX10) (N := 14) hx hb hts i10 hown hK hP 0 rfl rfl 1 (by decide) (hw _ u417) (fun _ h9 => h9) rfl dX10_refusal_1 ?_
  refine lv_iload_n hx hb dX10_refusal_4 rfl (lv_at hl 1 rfl) ?_
  obtain ⟨y6, hq, hev⟩ := x_bd hev
  refine roV X hKK hR (st1 := [.int y6]) (c_To_hasPerson l G aT_told aT_told_kinds aT_told_targets aT_told_wakes aT_told_terms aT_told_sorts aT_told_numbers vT_told_people vT_told_spells vT_told_day vT_told_broken p1 y6 hq) K_X8_hasPerson u649 (x_Psub hP [1] rfl) rfl (q0 := 0) rfl (by decide) ⟨Nat.zero_le _, Nat.zero_le _⟩ rfl hl.1 rfl (Nat.le_of_ble_eq_true rfl) rfl dX10_refusal_5 ?_
  refine lv_if_ne (tgt := 14) hx hb dX10_refusal_8 (by decide) (fun c7 => ?_) (fun c7 => ?_)
  · replace hev := x_f c7 hev
    refine lv_iload_n hx hb dX10_refusal_14 rfl (lv_at hl 2 rfl) ?_
    refine lv_if_ne (tgt := 30) hx hb dX10_refusal_15 (by decide) (fun c8 => ?_) (fun c8 => ?_)
    · replace hev := x_f c8 hev
      exact J30 p2 p3 ls hev (lv_sub hl [2, 3] rfl)
    · replace hev := x_t c8 hev
      refine lv_aload_n hx hb dX10_refusal_18 rfl (lv_at hl 0 rfl) ?_
      refine lv_iload_n hx hb dX10_refusal_19 rfl (lv_at hl 1 rfl) ?_
      refine lv_iload_n hx hb dX10_refusal_20 rfl (lv_at hl 3 rfl) ?_
      obtain ⟨y9, hq, hev⟩ := x_bd hev
      refine roV X hKK hR (st1 := [.int y9]) (c_SS_isAnother l G aT aT_text aT_told aT_reader aT_rules aT_fromNow aT_whatIf aT_trials aT_undoable aT_keptStates aT_keptDeeds aT_row aT_princes aT_told_kinds aT_told_targets aT_told_wakes aT_told_terms aT_told_sorts aT_told_numbers vT_state vT_deeds vT_told_people vT_told_spells vT_told_day vT_told_broken p1 p3 y9 hq) K_X10_isAnother u722 (x_Psub hP [0, 1] rfl) rfl (q0 := 0) rfl (by decide) ⟨Nat.zero_le _, Nat.zero_le _⟩ rfl hl.1 rfl (Nat.le_of_ble_eq_true rfl) rfl dX10_refusal_21 ?_
      refine lv_if_ne (tgt := 30) hx hb dX10_refusal_24 (by decide) (fun c10 => ?_) (fun c10 => ?_)
      · replace hev := x_f c10 hev
        exact J30 p2 p3 ls hev (lv_sub hl [2, 3] rfl)
      · replace hev := x_t c10 hev
        refine lv_bipush (v := (-2 : Int32)) hx hb dX10_refusal_27 (by decide) ?_
        exact ret _ _ _ dX10_refusal_29 ((show narrow _ (.int (-2 : Int32)) = .int (-2 : Int32) from rfl).trans (congrArg Value.int (Option.some.inj hev)))
  · replace hev := x_t c7 hev
    refine lv_bipush (v := (-2 : Int32)) hx hb dX10_refusal_11 (by decide) ?_
    exact ret _ _ _ dX10_refusal_13 ((show narrow _ (.int (-2 : Int32)) = .int (-2 : Int32) from rfl).trans (congrArg Value.int (Option.some.inj hev)))
def f_SS_can_J47 (k : Nat) (vT_rules_deedCount : Int32) (vT_rules_spells : Int32) (vT_state : Int32) (vT_told_people : Int32) (fT_rules_askings : Nat → Int32) (fT_rules_bars : Nat → Int32) (fT_rules_bits : Nat → Int32) (fT_rules_doers : Nat → Int32) (fT_rules_kisses : Nat → Int32) (fT_rules_kissesNeeded : Nat → Int32) (fT_rules_masks : Nat → Int32) (fT_rules_sorts : Nat → Int32) (fT_rules_values : Nat → Int32) (fT_rules_wakings : Nat → Int32) (fT_rules_whichs : Nat → Int32) (s0 : Int32) : Option (Int32) := x_B (f_SS_oneIf s0) (fun y1 => some y1)
def f_SS_can (k : Nat) (vT_rules_deedCount : Int32) (vT_rules_spells : Int32) (vT_state : Int32) (vT_told_people : Int32) (fT_rules_askings : Nat → Int32) (fT_rules_bars : Nat → Int32) (fT_rules_bits : Nat → Int32) (fT_rules_doers : Nat → Int32) (fT_rules_kisses : Nat → Int32) (fT_rules_kissesNeeded : Nat → Int32) (fT_rules_masks : Nat → Int32) (fT_rules_sorts : Nat → Int32) (fT_rules_values : Nat → Int32) (fT_rules_wakings : Nat → Int32) (fT_rules_whichs : Nat → Int32) (p1 : Int32) (p2 : Int32) (p3 : Int32) : Option (Int32) := x_B (f_SS_refusal vT_told_people p1 p2 p3) (fun y2 => if y2 = 0 then (x_B (f_Ru_deedOf k vT_rules_deedCount fT_rules_doers fT_rules_sorts fT_rules_whichs p1 p2 p3) (fun y4 => x_B (f_Ru_after k vT_rules_deedCount vT_rules_spells fT_rules_askings fT_rules_bars fT_rules_bits fT_rules_kisses fT_rules_kissesNeeded fT_rules_masks fT_rules_sorts fT_rules_values fT_rules_wakings vT_state y4) (fun y5 => if y5 = (-1 : Int32) then (f_SS_can_J47 k vT_rules_deedCount vT_rules_spells vT_state vT_told_people fT_rules_askings fT_rules_bars fT_rules_bits fT_rules_doers fT_rules_kisses fT_rules_kissesNeeded fT_rules_masks fT_rules_sorts fT_rules_values fT_rules_wakings fT_rules_whichs (0 : Int32)) else f_SS_can_J47 k vT_rules_deedCount vT_rules_spells vT_state vT_told_people fT_rules_askings fT_rules_bars fT_rules_bits fT_rules_doers fT_rules_kisses fT_rules_kissesNeeded fT_rules_masks fT_rules_sorts fT_rules_values fT_rules_wakings fT_rules_whichs (1 : Int32)))) else some y2)
set_option maxHeartbeats 8000000 in
set_option maxRecDepth 100000 in
theorem c_SS_can (l : Launch) (G : GG) (aT aT_text aT_told aT_reader aT_rules aT_fromNow aT_whatIf aT_trials aT_undoable aT_keptStates aT_keptDeeds aT_row aT_princes aT_told_kinds aT_told_targets aT_told_wakes aT_told_terms aT_told_sorts aT_told_numbers aT_rules_masks aT_rules_values aT_rules_askings aT_rules_kissesNeeded aT_rules_wakings aT_rules_binders aT_rules_curses aT_rules_doers aT_rules_sorts aT_rules_whichs aT_rules_bars aT_rules_bits aT_rules_kisses : Nat) (vT_state : Int32) (vT_deeds : Int32) (vT_told_people : Int32) (vT_told_spells : Int32) (vT_told_day : Int32) (vT_told_broken : Int32) (vT_rules_people : Int32) (vT_rules_spells : Int32) (vT_rules_deedCount : Int32) (fT_rules_doers : Nat → Int32) (fT_rules_whichs : Nat → Int32) (fT_rules_sorts : Nat → Int32) (fT_rules_bars : Nat → Int32) (fT_rules_kisses : Nat → Int32) (fT_rules_masks : Nat → Int32) (fT_rules_values : Nat → Int32) (fT_rules_askings : Nat → Int32) (fT_rules_kissesNeeded : Nat → Int32) (fT_rules_wakings : Nat → Int32) (fT_rules_bits : Nat → Int32) (k : Nat) (p1 : Int32) (p2 : Int32) (p3 : Int32) (r0 : Int32) (hev : f_SS_can k vT_rules_deedCount vT_rules_spells vT_state vT_told_people fT_rules_askings fT_rules_bars fT_rules_bits fT_rules_doers fT_rules_kisses fT_rules_kissesNeeded fT_rules_masks fT_rules_sorts fT_rules_values fT_rules_wakings fT_rules_whichs p1 p2 p3 = some r0) : RO l G yX10_can cX10_can 5 (some .int) 3 [.ref aT, .int p1, .int p2, .int p3] [(aT, .inr (6, [.ref aT_text, .ref aT_told, .ref aT_reader, .ref aT_rules, .ref aT_fromNow, .ref aT_whatIf, .ref aT_trials, .ref aT_undoable, .ref aT_keptStates, .ref aT_keptDeeds, .ref aT_row, .ref aT_princes, .int vT_state, .int vT_deeds])), (aT_told, .inr (4, [.int vT_told_people, .int vT_told_spells, .int vT_told_day, .int vT_told_broken, .ref aT_told_kinds, .ref aT_told_targets, .ref aT_told_wakes, .ref aT_told_terms, .ref aT_told_sorts, .ref aT_told_numbers])), (aT_rules, .inr (2, [.int vT_rules_people, .int vT_rules_spells, .int vT_rules_deedCount, .ref aT_rules_masks, .ref aT_rules_values, .ref aT_rules_askings, .ref aT_rules_kissesNeeded, .ref aT_rules_wakings, .ref aT_rules_binders, .ref aT_rules_curses, .ref aT_rules_doers, .ref aT_rules_sorts, .ref aT_rules_whichs, .ref aT_rules_bars, .ref aT_rules_bits, .ref aT_rules_kisses])), (aT_rules_doers, .inl (G.2.1, 19, .inl fT_rules_doers)), (aT_rules_whichs, .inl (G.2.1, 19, .inl fT_rules_whichs)), (aT_rules_sorts, .inl (G.2.1, 19, .inl fT_rules_sorts)), (aT_rules_bars, .inl (G.2.1, 19, .inl fT_rules_bars)), (aT_rules_kisses, .inl (G.2.1, 19, .inl fT_rules_kisses)), (aT_rules_masks, .inl (G.2.1, 5, .inl fT_rules_masks)), (aT_rules_values, .inl (G.2.1, 5, .inl fT_rules_values)), (aT_rules_askings, .inl (G.2.1, 5, .inl fT_rules_askings)), (aT_rules_kissesNeeded, .inl (G.2.1, 5, .inl fT_rules_kissesNeeded)), (aT_rules_wakings, .inl (G.2.1, 5, .inl fT_rules_wakings)), (aT_rules_bits, .inl (G.2.1, 19, .inl fT_rules_bits))] (some (.int r0)) := by
  refine RO_of (by decide) (Nat.le_of_ble_eq_true rfl) ?_
  intro p e s m ar below meth c R Q H ls X hR hP hKK hS0 hl ret
  generalize hrs : r0 = rs at hev ret
  have hl : lv_has ls 5 [(0, .ref aT), (1, .int p1), (2, .int p2), (3, .int p3)] := hl
  obtain ⟨hx, hb, hml, hown, hts, hT⟩ := id X
  have hK := hKK.1
  have hw : ∀ w ∈ T0, w.before ar s = true := fun w h => hts w (hT w h)
  have i10 := fun w h => hT w (inT10 w h)
  have J47 : ∀ (s0 : Int32), ∀ (ls : Array Slot), f_SS_can_J47 k vT_rules_deedCount vT_rules_spells vT_state vT_told_people fT_rules_askings fT_rules_bars fT_rules_bits fT_rules_doers fT_rules_kisses fT_rules_kissesNeeded fT_rules_masks fT_rules_sorts fT_rules_values fT_rules_wakings fT_rules_whichs s0 = some rs → lv_has ls 5 [] → W p l e R s m ar below meth c H [] 0 0 Q (F0 m 47 ls [.int s0]) := by
    intro s0 ls hev hl
    unfold f_SS_can_J47 at hev
    obtain ⟨y1, hq, hev⟩ := x_bd hev
    refine roS X hKK hR (st1 := [.int y1]) (c_SS_oneIf l G s0 y1 hq) K_X10_oneIf u657 (x_Psub hP [] rfl) (by decide) ⟨Nat.zero_le _, Nat.zero_le _⟩ rfl hl.1 rfl (Nat.le_of_ble_eq_true rfl) rfl dX10_can_47 ?_
    exact ret _ _ _ dX10_can_50 ((show narrow _ (.int y1) = .int y1 from rfl).trans (congrArg Value.int (Option.some.inj hev)))
  unfold f_SS_can at hev
  refine lv_aload_n hx hb dX10_can_0 rfl (lv_at hl 0 rfl) ?_
  refine lv_iload_n hx hb dX10_can_1 rfl (lv_at hl 1 rfl) ?_
  refine lv_iload_n hx hb dX10_can_2 rfl (lv_at hl 2 rfl) ?_
  refine lv_iload_n hx hb dX10_can_3 rfl (lv_at hl 3 rfl) ?_
  obtain ⟨y2, hq, hev⟩ := x_bd hev
  refine roV X hKK hR (st1 := [.int y2]) (c_SS_refusal l G aT aT_text aT_told aT_reader aT_rules aT_fromNow aT_whatIf aT_trials aT_undoable aT_keptStates aT_keptDeeds aT_row aT_princes aT_told_kinds aT_told_targets aT_told_wakes aT_told_terms aT_told_sorts aT_told_numbers vT_state vT_deeds vT_told_people vT_told_spells vT_told_day vT_told_broken p1 p2 p3 y2 hq) K_X10_refusal u718 (x_Psub hP [0, 1] rfl) rfl (q0 := 0) rfl (by decide) ⟨Nat.zero_le _, Nat.zero_le _⟩ rfl hl.1 rfl (Nat.le_of_ble_eq_true rfl) rfl dX10_can_4 ?_
  refine lv_istore (lv' := [(4, .int y2), (0, .ref aT), (1, .int p1), (2, .int p2), (3, .int p3)]) hx hb dX10_can_7 hl (by decide) rfl (fun ls hl => ?_)
  refine lv_iload hx hb dX10_can_9 (lv_at hl 0 rfl) ?_
  refine lv_if_eq (tgt := 17) hx hb dX10_can_11 (by decide) (fun c3 => ?_) (fun c3 => ?_)
  · replace hev := x_t c3 hev
    refine lv_aload_n hx hb dX10_can_17 rfl (lv_at hl 1 rfl) ?_
    refine va_get (D := G.1) (ci := 6) (v := .ref aT_rules) (C := RX10) (T := TX10) (N := 14) hx hb hts i10 hown hK hP 0 rfl rfl 3 (by decide) (hw _ u419) (fun _ h9 => h9) rfl dX10_can_18 ?_
    refine lv_aload_n hx hb dX10_can_21 rfl (lv_at hl 1 rfl) ?_
    refine va_get (D := G.1) (ci := 6) (v := .int vT_state) (C := RX10) (T := TX10) (N := 14) hx hb hts i10 hown hK hP 0 rfl rfl 12 (by decide) (hw _ u428) (fun _ h9 => h9) rfl dX10_can_22 ?_
    refine lv_aload_n hx hb dX10_can_25 rfl (lv_at hl 1 rfl) ?_
    refine va_get (D := G.1) (ci := 6) (v := .ref aT_rules) (C := RX10) (T := TX10) (N := 14) hx hb hts i10 hown hK hP 0 rfl rfl 3 (by decide) (hw _ u419) (fun _ h9 => h9) rfl dX10_can_26 ?_
    refine lv_iload_n hx hb dX10_can_29 rfl (lv_at hl 2 rfl) ?_
    refine lv_iload_n hx hb dX10_can_30 rfl (lv_at hl 3 rfl) ?_
    refine lv_iload_n hx hb dX10_can_31 rfl (lv_at hl 4 rfl) ?_
    obtain ⟨y4, hq, hev⟩ := x_bd hev
    refine roV X hKK hR (st1 := [.int y4, .int vT_state, .ref aT_rules]) (c_Ru_deedOf l G aT_rules aT_rules_masks aT_rules_values aT_rules_askings aT_rules_kissesNeeded aT_rules_wakings aT_rules_binders aT_rules_curses aT_rules_doers aT_rules_sorts aT_rules_whichs aT_rules_bars aT_rules_bits aT_rules_kisses vT_rules_people vT_rules_spells vT_rules_deedCount fT_rules_doers fT_rules_whichs fT_rules_sorts k p1 p2 p3 y4 hq) K_X4_deedOf u726 (x_Psub hP [2, 3, 4, 5] rfl) rfl (q0 := 0) rfl (by decide) ⟨Nat.zero_le _, Nat.zero_le _⟩ rfl hl.1 rfl (Nat.le_of_ble_eq_true rfl) rfl dX10_can_32 ?_
    obtain ⟨y5, hq, hev⟩ := x_bd hev
    refine roV X hKK hR (st1 := [.int y5]) (c_Ru_after l G aT_rules aT_rules_masks aT_rules_values aT_rules_askings aT_rules_kissesNeeded aT_rules_wakings aT_rules_binders aT_rules_curses aT_rules_doers aT_rules_sorts aT_rules_whichs aT_rules_bars aT_rules_bits aT_rules_kisses vT_rules_people vT_rules_spells vT_rules_deedCount fT_rules_bars fT_rules_sorts fT_rules_kisses fT_rules_masks fT_rules_values fT_rules_askings fT_rules_kissesNeeded fT_rules_wakings fT_rules_bits k vT_state y4 y5 hq) K_X4_after u730 (x_Psub hP [2, 6, 5, 7, 8, 9, 10, 11, 12, 13] rfl) rfl (q0 := 0) rfl (by decide) ⟨Nat.zero_le _, Nat.zero_le _⟩ rfl hl.1 rfl (Nat.le_of_ble_eq_true rfl) rfl dX10_can_35 ?_
    refine lv_iconst (v := (-1 : Int32)) hx hb dX10_can_38 (by decide) ?_
    refine lv_icmp_eq (tgt := 46) hx hb dX10_can_39 (by decide) (fun c6 => ?_) (fun c6 => ?_)
    · replace hev := x_t c6 hev
      refine lv_iconst (v := (0 : Int32)) hx hb dX10_can_46 (by decide) ?_
      exact J47 (0 : Int32) ls hev (lv_sub hl [] rfl)
    · replace hev := x_f c6 hev
      refine lv_iconst (v := (1 : Int32)) hx hb dX10_can_42 (by decide) ?_
      refine lv_goto (tgt := 47) hx hb dX10_can_43 (by decide) ?_
      exact J47 (1 : Int32) ls hev (lv_sub hl [] rfl)
  · replace hev := x_f c3 hev
    refine lv_iload hx hb dX10_can_14 (lv_at hl 0 rfl) ?_
    exact ret _ _ _ dX10_can_16 ((show narrow _ (.int y2) = .int y2 from rfl).trans (congrArg Value.int (Option.some.inj hev)))
def f_SS_act_J79 (k : Nat) (nT_undoable_items : Nat) (vT_deeds : Int32) (vT_rules_deedCount : Int32) (vT_rules_spells : Int32) (vT_state : Int32) (vT_told_people : Int32) (vT_undoable_size : Int32) (fT_rules_askings : Nat → Int32) (fT_rules_bars : Nat → Int32) (fT_rules_bits : Nat → Int32) (fT_rules_doers : Nat → Int32) (fT_rules_kisses : Nat → Int32) (fT_rules_kissesNeeded : Nat → Int32) (fT_rules_masks : Nat → Int32) (fT_rules_sorts : Nat → Int32) (fT_rules_values : Nat → Int32) (fT_rules_wakings : Nat → Int32) (fT_rules_whichs : Nat → Int32) (fT_undoable_items : Nat → Int32) (x5 : Int32) : Option (Int32 × Int32 × Int32 × Int32 × (Nat → Int32)) := x_B (f_Rw_add nT_undoable_items vT_undoable_size fT_undoable_items vT_state) (fun ⟨y1, w2, w3⟩ => x_B (f_St_of x5) (fun y4 => x_L ((vT_deeds + (1 : Int32))) (fun y5 => x_B (f_St_lifted x5) (fun y6 => some (y6, y5, y4, w2, w3)))))
def f_SS_act (k : Nat) (nT_undoable_items : Nat) (vT_deeds : Int32) (vT_rules_deedCount : Int32) (vT_rules_spells : Int32) (vT_state : Int32) (vT_told_people : Int32) (vT_undoable_size : Int32) (fT_rules_askings : Nat → Int32) (fT_rules_bars : Nat → Int32) (fT_rules_bits : Nat → Int32) (fT_rules_doers : Nat → Int32) (fT_rules_kisses : Nat → Int32) (fT_rules_kissesNeeded : Nat → Int32) (fT_rules_masks : Nat → Int32) (fT_rules_sorts : Nat → Int32) (fT_rules_values : Nat → Int32) (fT_rules_wakings : Nat → Int32) (fT_rules_whichs : Nat → Int32) (fT_undoable_items : Nat → Int32) (p1 : Int32) (p2 : Int32) (p3 : Int32) : Option (Int32 × Int32 × Int32 × Int32 × (Nat → Int32)) := x_B (f_SS_refusal vT_told_people p1 p2 p3) (fun y7 => if y7 = 0 then (x_B (f_Ru_deedOf k vT_rules_deedCount fT_rules_doers fT_rules_sorts fT_rules_whichs p1 p2 p3) (fun y9 => x_B (f_Ru_after k vT_rules_deedCount vT_rules_spells fT_rules_askings fT_rules_bars fT_rules_bits fT_rules_kisses fT_rules_kissesNeeded fT_rules_masks fT_rules_sorts fT_rules_values fT_rules_wakings vT_state y9) (fun y10 => if y10 = (-1 : Int32) then (some ((-4 : Int32), vT_deeds, vT_state, vT_undoable_size, fT_undoable_items)) else if vT_deeds < (9999 : Int32) then (x_B (f_Rw_isFull nT_undoable_items vT_undoable_size) (fun y13 => if y13 = 0 then (f_SS_act_J79 k nT_undoable_items vT_deeds vT_rules_deedCount vT_rules_spells vT_state vT_told_people vT_undoable_size fT_rules_askings fT_rules_bars fT_rules_bits fT_rules_doers fT_rules_kisses fT_rules_kissesNeeded fT_rules_masks fT_rules_sorts fT_rules_values fT_rules_wakings fT_rules_whichs fT_undoable_items y10) else x_B (f_Rw_dropFirst k nT_undoable_items vT_undoable_size fT_undoable_items) (fun ⟨w15, w16⟩ => f_SS_act_J79 k nT_undoable_items vT_deeds vT_rules_deedCount vT_rules_spells vT_state vT_told_people w15 fT_rules_askings fT_rules_bars fT_rules_bits fT_rules_doers fT_rules_kisses fT_rules_kissesNeeded fT_rules_masks fT_rules_sorts fT_rules_values fT_rules_wakings fT_rules_whichs w16 y10))) else some ((-5 : Int32), vT_deeds, vT_state, vT_undoable_size, fT_undoable_items)))) else some (y7, vT_deeds, vT_state, vT_undoable_size, fT_undoable_items))
set_option maxHeartbeats 8000000 in
set_option maxRecDepth 100000 in
theorem c_SS_act (l : Launch) (G : GG) (aT aT_text aT_told aT_reader aT_rules aT_fromNow aT_whatIf aT_trials aT_undoable aT_keptStates aT_keptDeeds aT_row aT_princes aT_told_kinds aT_told_targets aT_told_wakes aT_told_terms aT_told_sorts aT_told_numbers aT_rules_masks aT_rules_values aT_rules_askings aT_rules_kissesNeeded aT_rules_wakings aT_rules_binders aT_rules_curses aT_rules_doers aT_rules_sorts aT_rules_whichs aT_rules_bars aT_rules_bits aT_rules_kisses aT_undoable_items : Nat) (vT_state : Int32) (vT_deeds : Int32) (vT_told_people : Int32) (vT_told_spells : Int32) (vT_told_day : Int32) (vT_told_broken : Int32) (vT_rules_people : Int32) (vT_rules_spells : Int32) (vT_rules_deedCount : Int32) (vT_undoable_size : Int32) (fT_rules_doers : Nat → Int32) (fT_rules_whichs : Nat → Int32) (fT_rules_sorts : Nat → Int32) (fT_rules_bars : Nat → Int32) (fT_rules_kisses : Nat → Int32) (fT_rules_masks : Nat → Int32) (fT_rules_values : Nat → Int32) (fT_rules_askings : Nat → Int32) (fT_rules_kissesNeeded : Nat → Int32) (fT_rules_wakings : Nat → Int32) (fT_rules_bits : Nat → Int32) (fT_undoable_items : Nat → Int32) (nT_undoable_items : Nat) (k : Nat) (p1 : Int32) (p2 : Int32) (p3 : Int32) (r0 : Int32) (wvT_deeds : Int32) (wvT_state : Int32) (wvT_undoable_size : Int32) (wfT_undoable_items : Nat → Int32) (hev : f_SS_act k nT_undoable_items vT_deeds vT_rules_deedCount vT_rules_spells vT_state vT_told_people vT_undoable_size fT_rules_askings fT_rules_bars fT_rules_bits fT_rules_doers fT_rules_kisses fT_rules_kissesNeeded fT_rules_masks fT_rules_sorts fT_rules_values fT_rules_wakings fT_rules_whichs fT_undoable_items p1 p2 p3 = some (r0, wvT_deeds, wvT_state, wvT_undoable_size, wfT_undoable_items)) : RW l G yX10_act cX10_act 6 (some .int) 3 [.ref aT, .int p1, .int p2, .int p3] [(aT, .inr (6, [.ref aT_text, .ref aT_told, .ref aT_reader, .ref aT_rules, .ref aT_fromNow, .ref aT_whatIf, .ref aT_trials, .ref aT_undoable, .ref aT_keptStates, .ref aT_keptDeeds, .ref aT_row, .ref aT_princes, .int vT_state, .int vT_deeds])), (aT_told, .inr (4, [.int vT_told_people, .int vT_told_spells, .int vT_told_day, .int vT_told_broken, .ref aT_told_kinds, .ref aT_told_targets, .ref aT_told_wakes, .ref aT_told_terms, .ref aT_told_sorts, .ref aT_told_numbers])), (aT_rules, .inr (2, [.int vT_rules_people, .int vT_rules_spells, .int vT_rules_deedCount, .ref aT_rules_masks, .ref aT_rules_values, .ref aT_rules_askings, .ref aT_rules_kissesNeeded, .ref aT_rules_wakings, .ref aT_rules_binders, .ref aT_rules_curses, .ref aT_rules_doers, .ref aT_rules_sorts, .ref aT_rules_whichs, .ref aT_rules_bars, .ref aT_rules_bits, .ref aT_rules_kisses])), (aT_undoable, .inr (1, [.ref aT_undoable_items, .int vT_undoable_size])), (aT_rules_doers, .inl (G.2.1, 19, .inl fT_rules_doers)), (aT_rules_whichs, .inl (G.2.1, 19, .inl fT_rules_whichs)), (aT_rules_sorts, .inl (G.2.1, 19, .inl fT_rules_sorts)), (aT_rules_bars, .inl (G.2.1, 19, .inl fT_rules_bars)), (aT_rules_kisses, .inl (G.2.1, 19, .inl fT_rules_kisses)), (aT_rules_masks, .inl (G.2.1, 5, .inl fT_rules_masks)), (aT_rules_values, .inl (G.2.1, 5, .inl fT_rules_values)), (aT_rules_askings, .inl (G.2.1, 5, .inl fT_rules_askings)), (aT_rules_kissesNeeded, .inl (G.2.1, 5, .inl fT_rules_kissesNeeded)), (aT_rules_wakings, .inl (G.2.1, 5, .inl fT_rules_wakings)), (aT_rules_bits, .inl (G.2.1, 19, .inl fT_rules_bits)), (aT_undoable_items, .inl (G.2.1, nT_undoable_items, .inl fT_undoable_items))] (some (.int r0)) [(aT, .inr (6, [.ref aT_text, .ref aT_told, .ref aT_reader, .ref aT_rules, .ref aT_fromNow, .ref aT_whatIf, .ref aT_trials, .ref aT_undoable, .ref aT_keptStates, .ref aT_keptDeeds, .ref aT_row, .ref aT_princes, .int wvT_state, .int wvT_deeds])), (aT_told, .inr (4, [.int vT_told_people, .int vT_told_spells, .int vT_told_day, .int vT_told_broken, .ref aT_told_kinds, .ref aT_told_targets, .ref aT_told_wakes, .ref aT_told_terms, .ref aT_told_sorts, .ref aT_told_numbers])), (aT_rules, .inr (2, [.int vT_rules_people, .int vT_rules_spells, .int vT_rules_deedCount, .ref aT_rules_masks, .ref aT_rules_values, .ref aT_rules_askings, .ref aT_rules_kissesNeeded, .ref aT_rules_wakings, .ref aT_rules_binders, .ref aT_rules_curses, .ref aT_rules_doers, .ref aT_rules_sorts, .ref aT_rules_whichs, .ref aT_rules_bars, .ref aT_rules_bits, .ref aT_rules_kisses])), (aT_undoable, .inr (1, [.ref aT_undoable_items, .int wvT_undoable_size])), (aT_rules_doers, .inl (G.2.1, 19, .inl fT_rules_doers)), (aT_rules_whichs, .inl (G.2.1, 19, .inl fT_rules_whichs)), (aT_rules_sorts, .inl (G.2.1, 19, .inl fT_rules_sorts)), (aT_rules_bars, .inl (G.2.1, 19, .inl fT_rules_bars)), (aT_rules_kisses, .inl (G.2.1, 19, .inl fT_rules_kisses)), (aT_rules_masks, .inl (G.2.1, 5, .inl fT_rules_masks)), (aT_rules_values, .inl (G.2.1, 5, .inl fT_rules_values)), (aT_rules_askings, .inl (G.2.1, 5, .inl fT_rules_askings)), (aT_rules_kissesNeeded, .inl (G.2.1, 5, .inl fT_rules_kissesNeeded)), (aT_rules_wakings, .inl (G.2.1, 5, .inl fT_rules_wakings)), (aT_rules_bits, .inl (G.2.1, 19, .inl fT_rules_bits)), (aT_undoable_items, .inl (G.2.1, nT_undoable_items, .inl wfT_undoable_items))] 0 0 := by
  refine RW_of (by decide) (Nat.le_of_ble_eq_true rfl) ?_
  intro p e s m ar below meth c R Q A ls X hR hRc hin hP hKK hD hS hA hAb hl ret
  obtain ⟨rs, hrs⟩ : ∃ q, q = (r0, wvT_deeds, wvT_state, wvT_undoable_size, wfT_undoable_items) := ⟨_, rfl⟩
  rw [← hrs] at hev
  have hr0 : r0 = rs.1 := by rw [hrs]
  have hwvT_deeds : wvT_deeds = rs.2.1 := by rw [hrs]
  have hwvT_state : wvT_state = rs.2.2.1 := by rw [hrs]
  have hwvT_undoable_size : wvT_undoable_size = rs.2.2.2.1 := by rw [hrs]
  have hwfT_undoable_items : wfT_undoable_items = rs.2.2.2.2 := by rw [hrs]
  rw [hr0, hwvT_deeds, hwvT_state, hwvT_undoable_size, hwfT_undoable_items] at ret
  clear hr0 hwvT_deeds hwvT_state hwvT_undoable_size hwfT_undoable_items hrs r0 wvT_deeds wvT_state wvT_undoable_size wfT_undoable_items
  have hl : lv_has ls 6 [(0, .ref aT), (1, .int p1), (2, .int p2), (3, .int p3)] := hl
  obtain ⟨hx, hb, hml, hown, hts, hT⟩ := id X
  have hK := hKK.1
  have hw : ∀ w ∈ T0, w.before ar s = true := fun w h => hts w (hT w h)
  have i10 := fun w h => hT w (inT10 w h)
  have J79 : ∀ (vT_deeds : Int32) (vT_state : Int32) (vT_undoable_size : Int32) (fT_undoable_items : Nat → Int32) (x5 : Int32), ∀ (H : Heap) (lo : List Loc), va_P G.1 classes [(aT, .inr (6, [.ref aT_text, .ref aT_told, .ref aT_reader, .ref aT_rules, .ref aT_fromNow, .ref aT_whatIf, .ref aT_trials, .ref aT_undoable, .ref aT_keptStates, .ref aT_keptDeeds, .ref aT_row, .ref aT_princes, .int vT_state, .int vT_deeds])), (aT_told, .inr (4, [.int vT_told_people, .int vT_told_spells, .int vT_told_day, .int vT_told_broken, .ref aT_told_kinds, .ref aT_told_targets, .ref aT_told_wakes, .ref aT_told_terms, .ref aT_told_sorts, .ref aT_told_numbers])), (aT_rules, .inr (2, [.int vT_rules_people, .int vT_rules_spells, .int vT_rules_deedCount, .ref aT_rules_masks, .ref aT_rules_values, .ref aT_rules_askings, .ref aT_rules_kissesNeeded, .ref aT_rules_wakings, .ref aT_rules_binders, .ref aT_rules_curses, .ref aT_rules_doers, .ref aT_rules_sorts, .ref aT_rules_whichs, .ref aT_rules_bars, .ref aT_rules_bits, .ref aT_rules_kisses])), (aT_undoable, .inr (1, [.ref aT_undoable_items, .int vT_undoable_size])), (aT_rules_doers, .inl (G.2.1, 19, .inl fT_rules_doers)), (aT_rules_whichs, .inl (G.2.1, 19, .inl fT_rules_whichs)), (aT_rules_sorts, .inl (G.2.1, 19, .inl fT_rules_sorts)), (aT_rules_bars, .inl (G.2.1, 19, .inl fT_rules_bars)), (aT_rules_kisses, .inl (G.2.1, 19, .inl fT_rules_kisses)), (aT_rules_masks, .inl (G.2.1, 5, .inl fT_rules_masks)), (aT_rules_values, .inl (G.2.1, 5, .inl fT_rules_values)), (aT_rules_askings, .inl (G.2.1, 5, .inl fT_rules_askings)), (aT_rules_kissesNeeded, .inl (G.2.1, 5, .inl fT_rules_kissesNeeded)), (aT_rules_wakings, .inl (G.2.1, 5, .inl fT_rules_wakings)), (aT_rules_bits, .inl (G.2.1, 19, .inl fT_rules_bits)), (aT_undoable_items, .inl (G.2.1, nT_undoable_items, .inl fT_undoable_items))] H → va_D A [(aT, .inr (6, [.ref aT_text, .ref aT_told, .ref aT_reader, .ref aT_rules, .ref aT_fromNow, .ref aT_whatIf, .ref aT_trials, .ref aT_undoable, .ref aT_keptStates, .ref aT_keptDeeds, .ref aT_row, .ref aT_princes, .int vT_state, .int vT_deeds])), (aT_told, .inr (4, [.int vT_told_people, .int vT_told_spells, .int vT_told_day, .int vT_told_broken, .ref aT_told_kinds, .ref aT_told_targets, .ref aT_told_wakes, .ref aT_told_terms, .ref aT_told_sorts, .ref aT_told_numbers])), (aT_rules, .inr (2, [.int vT_rules_people, .int vT_rules_spells, .int vT_rules_deedCount, .ref aT_rules_masks, .ref aT_rules_values, .ref aT_rules_askings, .ref aT_rules_kissesNeeded, .ref aT_rules_wakings, .ref aT_rules_binders, .ref aT_rules_curses, .ref aT_rules_doers, .ref aT_rules_sorts, .ref aT_rules_whichs, .ref aT_rules_bars, .ref aT_rules_bits, .ref aT_rules_kisses])), (aT_undoable, .inr (1, [.ref aT_undoable_items, .int vT_undoable_size])), (aT_rules_doers, .inl (G.2.1, 19, .inl fT_rules_doers)), (aT_rules_whichs, .inl (G.2.1, 19, .inl fT_rules_whichs)), (aT_rules_sorts, .inl (G.2.1, 19, .inl fT_rules_sorts)), (aT_rules_bars, .inl (G.2.1, 19, .inl fT_rules_bars)), (aT_rules_kisses, .inl (G.2.1, 19, .inl fT_rules_kisses)), (aT_rules_masks, .inl (G.2.1, 5, .inl fT_rules_masks)), (aT_rules_values, .inl (G.2.1, 5, .inl fT_rules_values)), (aT_rules_askings, .inl (G.2.1, 5, .inl fT_rules_askings)), (aT_rules_kissesNeeded, .inl (G.2.1, 5, .inl fT_rules_kissesNeeded)), (aT_rules_wakings, .inl (G.2.1, 5, .inl fT_rules_wakings)), (aT_rules_bits, .inl (G.2.1, 19, .inl fT_rules_bits)), (aT_undoable_items, .inl (G.2.1, nT_undoable_items, .inl fT_undoable_items))] → va_S A s.heap H lo → ∀ (ls : Array Slot), f_SS_act_J79 k nT_undoable_items vT_deeds vT_rules_deedCount vT_rules_spells vT_state vT_told_people vT_undoable_size fT_rules_askings fT_rules_bars fT_rules_bits fT_rules_doers fT_rules_kisses fT_rules_kissesNeeded fT_rules_masks fT_rules_sorts fT_rules_values fT_rules_wakings fT_rules_whichs fT_undoable_items x5 = some rs → lv_has ls 6 [(0, .ref aT), (5, .int x5)] → W p l e R s m ar below meth c H lo 0 0 Q (F0 m 79 ls []) := by
    intro vT_deeds vT_state vT_undoable_size fT_undoable_items x5 H lo hP hD hS ls hev hl
    unfold f_SS_act_J79 at hev
    refine lv_aload_n hx hb dX10_act_79 rfl (lv_at hl 0 rfl) ?_
    refine va_get (D := G.1) (ci := 6) (v := .ref aT_undoable) (C := RX10) (T := TX10) (N := 14) hx hb hts i10 hown hK hP 0 rfl rfl 7 (by decide) (hw _ u423) (fun _ h9 => h9) rfl dX10_act_80 ?_
    refine lv_aload_n hx hb dX10_act_83 rfl (lv_at hl 0 rfl) ?_
    refine va_get (D := G.1) (ci := 6) (v := .int vT_state) (C := RX10) (T := TX10) (N := 14) hx hb hts i10 hown hK hP 0 rfl rfl 12 (by decide) (hw _ u428) (fun _ h9 => h9) rfl dX10_act_84 ?_
    obtain ⟨⟨y1, w2, w3⟩, hq, hev⟩ := x_bd hev
    refine rwV X (KK_at hKK hS hAb) hR (st1 := [.int y1]) (ws2 := [(aT, .inr (6, [.ref aT_text, .ref aT_told, .ref aT_reader, .ref aT_rules, .ref aT_fromNow, .ref aT_whatIf, .ref aT_trials, .ref aT_undoable, .ref aT_keptStates, .ref aT_keptDeeds, .ref aT_row, .ref aT_princes, .int vT_state, .int vT_deeds])), (aT_told, .inr (4, [.int vT_told_people, .int vT_told_spells, .int vT_told_day, .int vT_told_broken, .ref aT_told_kinds, .ref aT_told_targets, .ref aT_told_wakes, .ref aT_told_terms, .ref aT_told_sorts, .ref aT_told_numbers])), (aT_rules, .inr (2, [.int vT_rules_people, .int vT_rules_spells, .int vT_rules_deedCount, .ref aT_rules_masks, .ref aT_rules_values, .ref aT_rules_askings, .ref aT_rules_kissesNeeded, .ref aT_rules_wakings, .ref aT_rules_binders, .ref aT_rules_curses, .ref aT_rules_doers, .ref aT_rules_sorts, .ref aT_rules_whichs, .ref aT_rules_bars, .ref aT_rules_bits, .ref aT_rules_kisses])), (aT_undoable, .inr (1, [.ref aT_undoable_items, .int w2])), (aT_rules_doers, .inl (G.2.1, 19, .inl fT_rules_doers)), (aT_rules_whichs, .inl (G.2.1, 19, .inl fT_rules_whichs)), (aT_rules_sorts, .inl (G.2.1, 19, .inl fT_rules_sorts)), (aT_rules_bars, .inl (G.2.1, 19, .inl fT_rules_bars)), (aT_rules_kisses, .inl (G.2.1, 19, .inl fT_rules_kisses)), (aT_rules_masks, .inl (G.2.1, 5, .inl fT_rules_masks)), (aT_rules_values, .inl (G.2.1, 5, .inl fT_rules_values)), (aT_rules_askings, .inl (G.2.1, 5, .inl fT_rules_askings)), (aT_rules_kissesNeeded, .inl (G.2.1, 5, .inl fT_rules_kissesNeeded)), (aT_rules_wakings, .inl (G.2.1, 5, .inl fT_rules_wakings)), (aT_rules_bits, .inl (G.2.1, 19, .inl fT_rules_bits)), (aT_undoable_items, .inl (G.2.1, nT_undoable_items, .inl w3))]) (c_Rw_add l G aT_undoable aT_undoable_items vT_undoable_size fT_undoable_items nT_undoable_items vT_state y1 w2 w3 hq) K_X3_add u463 hP hD hS hA hAb [3, 15] rfl rfl rfl rfl rfl (q0 := 0) rfl (by decide) ⟨Nat.zero_le _, Nat.zero_le _⟩ rfl hl.1 rfl (Nat.le_of_ble_eq_true rfl) rfl dX10_act_87 (fun H lo hP hD hS => ?_)
    refine lv_pop hx hb dX10_act_90 rfl ?_
    refine lv_aload_n hx hb dX10_act_91 rfl (lv_at hl 0 rfl) ?_
    refine lv_iload hx hb dX10_act_92 (lv_at hl 1 rfl) ?_
    obtain ⟨y4, hq, hev⟩ := x_bd hev
    refine roS X (KK_at hKK hS hAb) hR (st1 := [.int y4, .ref aT]) (c_St_of l G x5 y4 hq) K_X6_of u755 (x_Psub hP [] rfl) (by decide) ⟨Nat.zero_le _, Nat.zero_le _⟩ rfl hl.1 rfl (Nat.le_of_ble_eq_true rfl) rfl dX10_act_94 ?_
    refine va_put (D := G.1) (ci := 6) (v := .int y4) (ty := .int) (C := RX10) (T := TX10) (N := 14) hx hb hts i10 tyX10 tyX10_ok nmX10 hown hK hP hD hS 0 rfl rfl 12 (by decide) (hw _ u428) (fun _ h9 => h9) rfl (by decide +kernel) rfl rfl (Nat.le_of_ble_eq_true rfl) dX10_act_97 (fun H lo hP hD hS => ?_)
    refine lv_aload_n hx hb dX10_act_100 rfl (lv_at hl 0 rfl) ?_
    refine lv_dup hx hb dX10_act_101 rfl ?_
    refine va_get (D := G.1) (ci := 6) (v := .int vT_deeds) (C := RX10) (T := TX10) (N := 14) hx hb hts i10 hown hK hP 0 rfl rfl 13 (by decide) (hw _ u429) (fun _ h9 => h9) rfl dX10_act_102 ?_
    refine lv_iconst (v := (1 : Int32)) hx hb dX10_act_105 (by decide) ?_
    refine lv_iadd hx hb dX10_act_106 ?_
    refine lv_topi (fun y5 ey5 => ?_)
    replace hev := x_lt hev y5 ey5
    refine va_put (D := G.1) (ci := 6) (v := .int y5) (ty := .int) (C := RX10) (T := TX10) (N := 14) hx hb hts i10 tyX10 tyX10_ok nmX10 hown hK hP hD hS 0 rfl rfl 13 (by decide) (hw _ u429) (fun _ h9 => h9) rfl (by decide +kernel) rfl rfl (Nat.le_of_ble_eq_true rfl) dX10_act_107 (fun H lo hP hD hS => ?_)
    refine lv_iload hx hb dX10_act_110 (lv_at hl 1 rfl) ?_
    obtain ⟨y6, hq, hev⟩ := x_bd hev
    refine roS X (KK_at hKK hS hAb) hR (st1 := [.int y6]) (c_St_lifted l G x5 y6 hq) K_X6_lifted u759 (x_Psub hP [] rfl) (by decide) ⟨Nat.zero_le _, Nat.zero_le _⟩ rfl hl.1 rfl (Nat.le_of_ble_eq_true rfl) rfl dX10_act_112 ?_
    have hq9 := (Option.some.inj hev)
    subst hq9
    exact ret.1 _ _ _ _ _ _ _ rfl rfl dX10_act_115 (show narrow _ (.int y6) = .int y6 from rfl) hP hD hS
  unfold f_SS_act at hev
  refine lv_aload_n hx hb dX10_act_0 rfl (lv_at hl 0 rfl) ?_
  refine lv_iload_n hx hb dX10_act_1 rfl (lv_at hl 1 rfl) ?_
  refine lv_iload_n hx hb dX10_act_2 rfl (lv_at hl 2 rfl) ?_
  refine lv_iload_n hx hb dX10_act_3 rfl (lv_at hl 3 rfl) ?_
  obtain ⟨y7, hq, hev⟩ := x_bd hev
  refine roV X (KK_at hKK hS hAb) hR (st1 := [.int y7]) (c_SS_refusal l G aT aT_text aT_told aT_reader aT_rules aT_fromNow aT_whatIf aT_trials aT_undoable aT_keptStates aT_keptDeeds aT_row aT_princes aT_told_kinds aT_told_targets aT_told_wakes aT_told_terms aT_told_sorts aT_told_numbers vT_state vT_deeds vT_told_people vT_told_spells vT_told_day vT_told_broken p1 p2 p3 y7 hq) K_X10_refusal u718 (x_Psub hP [0, 1] rfl) rfl (q0 := 0) rfl (by decide) ⟨Nat.zero_le _, Nat.zero_le _⟩ rfl hl.1 rfl (Nat.le_of_ble_eq_true rfl) rfl dX10_act_4 ?_
  refine lv_istore (lv' := [(4, .int y7), (0, .ref aT), (1, .int p1), (2, .int p2), (3, .int p3)]) hx hb dX10_act_7 hl (by decide) rfl (fun ls hl => ?_)
  refine lv_iload hx hb dX10_act_9 (lv_at hl 0 rfl) ?_
  refine lv_if_eq (tgt := 17) hx hb dX10_act_11 (by decide) (fun c8 => ?_) (fun c8 => ?_)
  · replace hev := x_t c8 hev
    refine lv_aload_n hx hb dX10_act_17 rfl (lv_at hl 1 rfl) ?_
    refine va_get (D := G.1) (ci := 6) (v := .ref aT_rules) (C := RX10) (T := TX10) (N := 14) hx hb hts i10 hown hK hP 0 rfl rfl 3 (by decide) (hw _ u419) (fun _ h9 => h9) rfl dX10_act_18 ?_
    refine lv_aload_n hx hb dX10_act_21 rfl (lv_at hl 1 rfl) ?_
    refine va_get (D := G.1) (ci := 6) (v := .int vT_state) (C := RX10) (T := TX10) (N := 14) hx hb hts i10 hown hK hP 0 rfl rfl 12 (by decide) (hw _ u428) (fun _ h9 => h9) rfl dX10_act_22 ?_
    refine lv_aload_n hx hb dX10_act_25 rfl (lv_at hl 1 rfl) ?_
    refine va_get (D := G.1) (ci := 6) (v := .ref aT_rules) (C := RX10) (T := TX10) (N := 14) hx hb hts i10 hown hK hP 0 rfl rfl 3 (by decide) (hw _ u419) (fun _ h9 => h9) rfl dX10_act_26 ?_
    refine lv_iload_n hx hb dX10_act_29 rfl (lv_at hl 2 rfl) ?_
    refine lv_iload_n hx hb dX10_act_30 rfl (lv_at hl 3 rfl) ?_
    refine lv_iload_n hx hb dX10_act_31 rfl (lv_at hl 4 rfl) ?_
    obtain ⟨y9, hq, hev⟩ := x_bd hev
    refine roV X (KK_at hKK hS hAb) hR (st1 := [.int y9, .int vT_state, .ref aT_rules]) (c_Ru_deedOf l G aT_rules aT_rules_masks aT_rules_values aT_rules_askings aT_rules_kissesNeeded aT_rules_wakings aT_rules_binders aT_rules_curses aT_rules_doers aT_rules_sorts aT_rules_whichs aT_rules_bars aT_rules_bits aT_rules_kisses vT_rules_people vT_rules_spells vT_rules_deedCount fT_rules_doers fT_rules_whichs fT_rules_sorts k p1 p2 p3 y9 hq) K_X4_deedOf u726 (x_Psub hP [2, 4, 5, 6] rfl) rfl (q0 := 0) rfl (by decide) ⟨Nat.zero_le _, Nat.zero_le _⟩ rfl hl.1 rfl (Nat.le_of_ble_eq_true rfl) rfl dX10_act_32 ?_
    obtain ⟨y10, hq, hev⟩ := x_bd hev
    refine roV X (KK_at hKK hS hAb) hR (st1 := [.int y10]) (c_Ru_after l G aT_rules aT_rules_masks aT_rules_values aT_rules_askings aT_rules_kissesNeeded aT_rules_wakings aT_rules_binders aT_rules_curses aT_rules_doers aT_rules_sorts aT_rules_whichs aT_rules_bars aT_rules_bits aT_rules_kisses vT_rules_people vT_rules_spells vT_rules_deedCount fT_rules_bars fT_rules_sorts fT_rules_kisses fT_rules_masks fT_rules_values fT_rules_askings fT_rules_kissesNeeded fT_rules_wakings fT_rules_bits k vT_state y9 y10 hq) K_X4_after u730 (x_Psub hP [2, 7, 6, 8, 9, 10, 11, 12, 13, 14] rfl) rfl (q0 := 0) rfl (by decide) ⟨Nat.zero_le _, Nat.zero_le _⟩ rfl hl.1 rfl (Nat.le_of_ble_eq_true rfl) rfl dX10_act_35 ?_
    refine lv_istore (lv' := [(5, .int y10), (4, .int y7), (0, .ref aT), (1, .int p1), (2, .int p2), (3, .int p3)]) hx hb dX10_act_38 hl (by decide) rfl (fun ls hl => ?_)
    refine lv_iload hx hb dX10_act_40 (lv_at hl 0 rfl) ?_
    refine lv_iconst (v := (-1 : Int32)) hx hb dX10_act_42 (by decide) ?_
    refine lv_icmp_ne (tgt := 49) hx hb dX10_act_43 (by decide) (fun c11 => ?_) (fun c11 => ?_)
    · replace hev := x_f c11 hev
      refine lv_aload_n hx hb dX10_act_49 rfl (lv_at hl 2 rfl) ?_
      refine va_get (D := G.1) (ci := 6) (v := .int vT_deeds) (C := RX10) (T := TX10) (N := 14) hx hb hts i10 hown hK hP 0 rfl rfl 13 (by decide) (hw _ u429) (fun _ h9 => h9) rfl dX10_act_50 ?_
      refine lv_sipush (v := (9999 : Int32)) hx hb dX10_act_53 (by decide) ?_
      refine lv_icmp_lt (tgt := 62) hx hb dX10_act_56 (by decide) (fun c12 => ?_) (fun c12 => ?_)
      · replace hev := x_t c12 hev
        refine lv_aload_n hx hb dX10_act_62 rfl (lv_at hl 2 rfl) ?_
        refine va_get (D := G.1) (ci := 6) (v := .ref aT_undoable) (C := RX10) (T := TX10) (N := 14) hx hb hts i10 hown hK hP 0 rfl rfl 7 (by decide) (hw _ u423) (fun _ h9 => h9) rfl dX10_act_63 ?_
        obtain ⟨y13, hq, hev⟩ := x_bd hev
        refine roV X (KK_at hKK hS hAb) hR (st1 := [.int y13]) (c_Rw_isFull l G aT_undoable aT_undoable_items vT_undoable_size fT_undoable_items nT_undoable_items y13 hq) K_X3_isFull u743 (x_Psub hP [3, 15] rfl) rfl (q0 := 0) rfl (by decide) ⟨Nat.zero_le _, Nat.zero_le _⟩ rfl hl.1 rfl (Nat.le_of_ble_eq_true rfl) rfl dX10_act_66 ?_
        refine lv_if_eq (tgt := 79) hx hb dX10_act_69 (by decide) (fun c14 => ?_) (fun c14 => ?_)
        · replace hev := x_t c14 hev
          exact J79 vT_deeds vT_state vT_undoable_size fT_undoable_items y10 _ _ hP hD hS ls hev (lv_sub hl [2, 0] rfl)
        · replace hev := x_f c14 hev
          refine lv_aload_n hx hb dX10_act_72 rfl (lv_at hl 2 rfl) ?_
          refine va_get (D := G.1) (ci := 6) (v := .ref aT_undoable) (C := RX10) (T := TX10) (N := 14) hx hb hts i10 hown hK hP 0 rfl rfl 7 (by decide) (hw _ u423) (fun _ h9 => h9) rfl dX10_act_73 ?_
          obtain ⟨⟨w15, w16⟩, hq, hev⟩ := x_bd hev
          refine rwV X (KK_at hKK hS hAb) hR (st1 := []) (ws2 := [(aT, .inr (6, [.ref aT_text, .ref aT_told, .ref aT_reader, .ref aT_rules, .ref aT_fromNow, .ref aT_whatIf, .ref aT_trials, .ref aT_undoable, .ref aT_keptStates, .ref aT_keptDeeds, .ref aT_row, .ref aT_princes, .int vT_state, .int vT_deeds])), (aT_told, .inr (4, [.int vT_told_people, .int vT_told_spells, .int vT_told_day, .int vT_told_broken, .ref aT_told_kinds, .ref aT_told_targets, .ref aT_told_wakes, .ref aT_told_terms, .ref aT_told_sorts, .ref aT_told_numbers])), (aT_rules, .inr (2, [.int vT_rules_people, .int vT_rules_spells, .int vT_rules_deedCount, .ref aT_rules_masks, .ref aT_rules_values, .ref aT_rules_askings, .ref aT_rules_kissesNeeded, .ref aT_rules_wakings, .ref aT_rules_binders, .ref aT_rules_curses, .ref aT_rules_doers, .ref aT_rules_sorts, .ref aT_rules_whichs, .ref aT_rules_bars, .ref aT_rules_bits, .ref aT_rules_kisses])), (aT_undoable, .inr (1, [.ref aT_undoable_items, .int w15])), (aT_rules_doers, .inl (G.2.1, 19, .inl fT_rules_doers)), (aT_rules_whichs, .inl (G.2.1, 19, .inl fT_rules_whichs)), (aT_rules_sorts, .inl (G.2.1, 19, .inl fT_rules_sorts)), (aT_rules_bars, .inl (G.2.1, 19, .inl fT_rules_bars)), (aT_rules_kisses, .inl (G.2.1, 19, .inl fT_rules_kisses)), (aT_rules_masks, .inl (G.2.1, 5, .inl fT_rules_masks)), (aT_rules_values, .inl (G.2.1, 5, .inl fT_rules_values)), (aT_rules_askings, .inl (G.2.1, 5, .inl fT_rules_askings)), (aT_rules_kissesNeeded, .inl (G.2.1, 5, .inl fT_rules_kissesNeeded)), (aT_rules_wakings, .inl (G.2.1, 5, .inl fT_rules_wakings)), (aT_rules_bits, .inl (G.2.1, 19, .inl fT_rules_bits)), (aT_undoable_items, .inl (G.2.1, nT_undoable_items, .inl w16))]) (c_Rw_dropFirst l G aT_undoable aT_undoable_items vT_undoable_size fT_undoable_items nT_undoable_items k w15 w16 hq) K_X3_dropFirst u747 hP hD hS hA hAb [3, 15] rfl rfl rfl rfl rfl (q0 := 0) rfl (by decide) ⟨Nat.zero_le _, Nat.zero_le _⟩ rfl hl.1 rfl (Nat.le_of_ble_eq_true rfl) rfl dX10_act_76 (fun H lo hP hD hS => ?_)
          exact J79 vT_deeds vT_state w15 w16 y10 _ _ hP hD hS ls hev (lv_sub hl [2, 0] rfl)
      · replace hev := x_f c12 hev
        refine lv_bipush (v := (-5 : Int32)) hx hb dX10_act_59 (by decide) ?_
        have hq9 := (Option.some.inj hev)
        subst hq9
        exact ret.1 _ _ _ _ _ _ _ rfl rfl dX10_act_61 (show narrow _ (.int (-5 : Int32)) = .int (-5 : Int32) from rfl) hP hD hS
    · replace hev := x_t c11 hev
      refine lv_bipush (v := (-4 : Int32)) hx hb dX10_act_46 (by decide) ?_
      have hq9 := (Option.some.inj hev)
      subst hq9
      exact ret.1 _ _ _ _ _ _ _ rfl rfl dX10_act_48 (show narrow _ (.int (-4 : Int32)) = .int (-4 : Int32) from rfl) hP hD hS
  · replace hev := x_f c8 hev
    refine lv_iload hx hb dX10_act_14 (lv_at hl 0 rfl) ?_
    have hq9 := (Option.some.inj hev)
    subst hq9
    exact ret.1 _ _ _ _ _ _ _ rfl rfl dX10_act_16 (show narrow _ (.int y7) = .int y7 from rfl) hP hD hS
def f_SS_undo (nT_undoable_items : Nat) (vT_deeds : Int32) (vT_state : Int32) (vT_undoable_size : Int32) (fT_undoable_items : Nat → Int32) : Option (Int32 × Int32 × Int32 × Int32) := x_B (f_Rw_size vT_undoable_size) (fun y1 => if y1 = 0 then (some ((-4 : Int32), vT_deeds, vT_state, vT_undoable_size)) else x_B (f_Rw_size vT_undoable_size) (fun y3 => x_B (f_Rw_at nT_undoable_items vT_undoable_size fT_undoable_items (y3 - (1 : Int32))) (fun y4 => x_B (f_Rw_dropLast vT_undoable_size) (fun w5 => x_L ((vT_deeds - (1 : Int32))) (fun y6 => x_B (f_Rw_size w5) (fun y7 => some (y7, y6, y4, w5)))))))
set_option maxHeartbeats 8000000 in
set_option maxRecDepth 100000 in
theorem c_SS_undo (l : Launch) (G : GG) (aT aT_text aT_told aT_reader aT_rules aT_fromNow aT_whatIf aT_trials aT_undoable aT_keptStates aT_keptDeeds aT_row aT_princes aT_undoable_items : Nat) (vT_state : Int32) (vT_deeds : Int32) (vT_undoable_size : Int32) (fT_undoable_items : Nat → Int32) (nT_undoable_items : Nat) (r0 : Int32) (wvT_deeds : Int32) (wvT_state : Int32) (wvT_undoable_size : Int32) (hev : f_SS_undo nT_undoable_items vT_deeds vT_state vT_undoable_size fT_undoable_items = some (r0, wvT_deeds, wvT_state, wvT_undoable_size)) : RW l G yX10_undo cX10_undo 1 (some .int) 2 [.ref aT] [(aT, .inr (6, [.ref aT_text, .ref aT_told, .ref aT_reader, .ref aT_rules, .ref aT_fromNow, .ref aT_whatIf, .ref aT_trials, .ref aT_undoable, .ref aT_keptStates, .ref aT_keptDeeds, .ref aT_row, .ref aT_princes, .int vT_state, .int vT_deeds])), (aT_undoable, .inr (1, [.ref aT_undoable_items, .int vT_undoable_size])), (aT_undoable_items, .inl (G.2.1, nT_undoable_items, .inl fT_undoable_items))] (some (.int r0)) [(aT, .inr (6, [.ref aT_text, .ref aT_told, .ref aT_reader, .ref aT_rules, .ref aT_fromNow, .ref aT_whatIf, .ref aT_trials, .ref aT_undoable, .ref aT_keptStates, .ref aT_keptDeeds, .ref aT_row, .ref aT_princes, .int wvT_state, .int wvT_deeds])), (aT_undoable, .inr (1, [.ref aT_undoable_items, .int wvT_undoable_size])), (aT_undoable_items, .inl (G.2.1, nT_undoable_items, .inl fT_undoable_items))] 0 0 := by
  refine RW_of (by decide) (Nat.le_of_ble_eq_true rfl) ?_
  intro p e s m ar below meth c R Q A ls X hR hRc hin hP hKK hD hS hA hAb hl ret
  obtain ⟨rs, hrs⟩ : ∃ q, q = (r0, wvT_deeds, wvT_state, wvT_undoable_size) := ⟨_, rfl⟩
  rw [← hrs] at hev
  have hr0 : r0 = rs.1 := by rw [hrs]
  have hwvT_deeds : wvT_deeds = rs.2.1 := by rw [hrs]
  have hwvT_state : wvT_state = rs.2.2.1 := by rw [hrs]
  have hwvT_undoable_size : wvT_undoable_size = rs.2.2.2 := by rw [hrs]
  rw [hr0, hwvT_deeds, hwvT_state, hwvT_undoable_size] at ret
  clear hr0 hwvT_deeds hwvT_state hwvT_undoable_size hrs r0 wvT_deeds wvT_state wvT_undoable_size
  have hl : lv_has ls 1 [(0, .ref aT)] := hl
  obtain ⟨hx, hb, hml, hown, hts, hT⟩ := id X
  have hK := hKK.1
  have hw : ∀ w ∈ T0, w.before ar s = true := fun w h => hts w (hT w h)
  have i10 := fun w h => hT w (inT10 w h)
  unfold f_SS_undo at hev
  refine lv_aload_n hx hb dX10_undo_0 rfl (lv_at hl 0 rfl) ?_
  refine va_get (D := G.1) (ci := 6) (v := .ref aT_undoable) (C := RX10) (T := TX10) (N := 14) hx hb hts i10 hown hK hP 0 rfl rfl 7 (by decide) (hw _ u423) (fun _ h9 => h9) rfl dX10_undo_1 ?_
  obtain ⟨y1, hq, hev⟩ := x_bd hev
  refine roV X (KK_at hKK hS hAb) hR (st1 := [.int y1]) (c_Rw_size l G aT_undoable aT_undoable_items vT_undoable_size y1 hq) K_X3_size u467 (x_Psub hP [1] rfl) rfl (q0 := 0) rfl (by decide) ⟨Nat.zero_le _, Nat.zero_le _⟩ rfl hl.1 rfl (Nat.le_of_ble_eq_true rfl) rfl dX10_undo_4 ?_
  refine lv_if_ne (tgt := 13) hx hb dX10_undo_7 (by decide) (fun c2 => ?_) (fun c2 => ?_)
  · replace hev := x_f c2 hev
    refine lv_aload_n hx hb dX10_undo_13 rfl (lv_at hl 0 rfl) ?_
    refine lv_aload_n hx hb dX10_undo_14 rfl (lv_at hl 0 rfl) ?_
    refine va_get (D := G.1) (ci := 6) (v := .ref aT_undoable) (C := RX10) (T := TX10) (N := 14) hx hb hts i10 hown hK hP 0 rfl rfl 7 (by decide) (hw _ u423) (fun _ h9 => h9) rfl dX10_undo_15 ?_
    refine lv_aload_n hx hb dX10_undo_18 rfl (lv_at hl 0 rfl) ?_
    refine va_get (D := G.1) (ci := 6) (v := .ref aT_undoable) (C := RX10) (T := TX10) (N := 14) hx hb hts i10 hown hK hP 0 rfl rfl 7 (by decide) (hw _ u423) (fun _ h9 => h9) rfl dX10_undo_19 ?_
    obtain ⟨y3, hq, hev⟩ := x_bd hev
    refine roV X (KK_at hKK hS hAb) hR (st1 := [.int y3, .ref aT_undoable, .ref aT]) (c_Rw_size l G aT_undoable aT_undoable_items vT_undoable_size y3 hq) K_X3_size u467 (x_Psub hP [1] rfl) rfl (q0 := 0) rfl (by decide) ⟨Nat.zero_le _, Nat.zero_le _⟩ rfl hl.1 rfl (Nat.le_of_ble_eq_true rfl) rfl dX10_undo_22 ?_
    refine lv_iconst (v := (1 : Int32)) hx hb dX10_undo_25 (by decide) ?_
    refine lv_isub hx hb dX10_undo_26 ?_
    obtain ⟨y4, hq, hev⟩ := x_bd hev
    refine roV X (KK_at hKK hS hAb) hR (st1 := [.int y4, .ref aT]) (c_Rw_at l G aT_undoable aT_undoable_items vT_undoable_size fT_undoable_items nT_undoable_items (y3 - (1 : Int32)) y4 hq) K_X3_at u766 (x_Psub hP [1, 2] rfl) rfl (q0 := 0) rfl (by decide) ⟨Nat.zero_le _, Nat.zero_le _⟩ rfl hl.1 rfl (Nat.le_of_ble_eq_true rfl) rfl dX10_undo_27 ?_
    refine va_put (D := G.1) (ci := 6) (v := .int y4) (ty := .int) (C := RX10) (T := TX10) (N := 14) hx hb hts i10 tyX10 tyX10_ok nmX10 hown hK hP hD hS 0 rfl rfl 12 (by decide) (hw _ u428) (fun _ h9 => h9) rfl (by decide +kernel) rfl rfl (Nat.le_of_ble_eq_true rfl) dX10_undo_30 (fun H lo hP hD hS => ?_)
    refine lv_aload_n hx hb dX10_undo_33 rfl (lv_at hl 0 rfl) ?_
    refine va_get (D := G.1) (ci := 6) (v := .ref aT_undoable) (C := RX10) (T := TX10) (N := 14) hx hb hts i10 hown hK hP 0 rfl rfl 7 (by decide) (hw _ u423) (fun _ h9 => h9) rfl dX10_undo_34 ?_
    obtain ⟨w5, hq, hev⟩ := x_bd hev
    refine rwV X (KK_at hKK hS hAb) hR (st1 := []) (ws2 := [(aT, .inr (6, [.ref aT_text, .ref aT_told, .ref aT_reader, .ref aT_rules, .ref aT_fromNow, .ref aT_whatIf, .ref aT_trials, .ref aT_undoable, .ref aT_keptStates, .ref aT_keptDeeds, .ref aT_row, .ref aT_princes, .int y4, .int vT_deeds])), (aT_undoable, .inr (1, [.ref aT_undoable_items, .int w5])), (aT_undoable_items, .inl (G.2.1, nT_undoable_items, .inl fT_undoable_items))]) (c_Rw_dropLast l G aT_undoable aT_undoable_items vT_undoable_size w5 hq) K_X3_dropLast u767 hP hD hS hA hAb [1] rfl rfl rfl rfl rfl (q0 := 0) rfl (by decide) ⟨Nat.zero_le _, Nat.zero_le _⟩ rfl hl.1 rfl (Nat.le_of_ble_eq_true rfl) rfl dX10_undo_37 (fun H lo hP hD hS => ?_)
    refine lv_aload_n hx hb dX10_undo_40 rfl (lv_at hl 0 rfl) ?_
    refine lv_dup hx hb dX10_undo_41 rfl ?_
    refine va_get (D := G.1) (ci := 6) (v := .int vT_deeds) (C := RX10) (T := TX10) (N := 14) hx hb hts i10 hown hK hP 0 rfl rfl 13 (by decide) (hw _ u429) (fun _ h9 => h9) rfl dX10_undo_42 ?_
    refine lv_iconst (v := (1 : Int32)) hx hb dX10_undo_45 (by decide) ?_
    refine lv_isub hx hb dX10_undo_46 ?_
    refine lv_topi (fun y6 ey6 => ?_)
    replace hev := x_lt hev y6 ey6
    refine va_put (D := G.1) (ci := 6) (v := .int y6) (ty := .int) (C := RX10) (T := TX10) (N := 14) hx hb hts i10 tyX10 tyX10_ok nmX10 hown hK hP hD hS 0 rfl rfl 13 (by decide) (hw _ u429) (fun _ h9 => h9) rfl (by decide +kernel) rfl rfl (Nat.le_of_ble_eq_true rfl) dX10_undo_47 (fun H lo hP hD hS => ?_)
    refine lv_aload_n hx hb dX10_undo_50 rfl (lv_at hl 0 rfl) ?_
    refine va_get (D := G.1) (ci := 6) (v := .ref aT_undoable) (C := RX10) (T := TX10) (N := 14) hx hb hts i10 hown hK hP 0 rfl rfl 7 (by decide) (hw _ u423) (fun _ h9 => h9) rfl dX10_undo_51 ?_
    obtain ⟨y7, hq, hev⟩ := x_bd hev
    refine roV X (KK_at hKK hS hAb) hR (st1 := [.int y7]) (c_Rw_size l G aT_undoable aT_undoable_items w5 y7 hq) K_X3_size u467 (x_Psub hP [1] rfl) rfl (q0 := 0) rfl (by decide) ⟨Nat.zero_le _, Nat.zero_le _⟩ rfl hl.1 rfl (Nat.le_of_ble_eq_true rfl) rfl dX10_undo_54 ?_
    have hq9 := (Option.some.inj hev)
    subst hq9
    exact ret.1 _ _ _ _ _ _ _ rfl rfl dX10_undo_57 (show narrow _ (.int y7) = .int y7 from rfl) hP hD hS
  · replace hev := x_t c2 hev
    refine lv_bipush (v := (-4 : Int32)) hx hb dX10_undo_10 (by decide) ?_
    have hq9 := (Option.some.inj hev)
    subst hq9
    exact ret.1 _ _ _ _ _ _ _ rfl rfl dX10_undo_12 (show narrow _ (.int (-4 : Int32)) = .int (-4 : Int32) from rfl) hP hD hS
def f_SS_keep (vT_deeds : Int32) (vT_state : Int32) (fT_keptDeeds : Nat → Int32) (fT_keptStates : Nat → Int32) (p1 : Int32) : Option (Int32 × (Nat → Int32) × (Nat → Int32)) := if p1 < 0 then (some ((-2 : Int32), fT_keptDeeds, fT_keptStates)) else if (2 : Int32) ≤ p1 then (some ((-2 : Int32), fT_keptDeeds, fT_keptStates)) else if p1 < (2 : Int32) then (x_C 2 p1 (x_C 2 p1 (some (vT_deeds, (upd fT_keptDeeds (p1).toNatClampNeg vT_deeds), (upd fT_keptStates (p1).toNatClampNeg vT_state))))) else some ((-2 : Int32), fT_keptDeeds, fT_keptStates)
set_option maxHeartbeats 8000000 in
set_option maxRecDepth 100000 in
theorem c_SS_keep (l : Launch) (G : GG) (aT aT_text aT_told aT_reader aT_rules aT_fromNow aT_whatIf aT_trials aT_undoable aT_keptStates aT_keptDeeds aT_row aT_princes : Nat) (vT_state : Int32) (vT_deeds : Int32) (fT_keptStates : Nat → Int32) (fT_keptDeeds : Nat → Int32) (p1 : Int32) (r0 : Int32) (wfT_keptDeeds : Nat → Int32) (wfT_keptStates : Nat → Int32) (hev : f_SS_keep vT_deeds vT_state fT_keptDeeds fT_keptStates p1 = some (r0, wfT_keptDeeds, wfT_keptStates)) : RW l G yX10_keep cX10_keep 2 (some .int) 0 [.ref aT, .int p1] [(aT, .inr (6, [.ref aT_text, .ref aT_told, .ref aT_reader, .ref aT_rules, .ref aT_fromNow, .ref aT_whatIf, .ref aT_trials, .ref aT_undoable, .ref aT_keptStates, .ref aT_keptDeeds, .ref aT_row, .ref aT_princes, .int vT_state, .int vT_deeds])), (aT_keptStates, .inl (G.2.1, 2, .inl fT_keptStates)), (aT_keptDeeds, .inl (G.2.1, 2, .inl fT_keptDeeds))] (some (.int r0)) [(aT, .inr (6, [.ref aT_text, .ref aT_told, .ref aT_reader, .ref aT_rules, .ref aT_fromNow, .ref aT_whatIf, .ref aT_trials, .ref aT_undoable, .ref aT_keptStates, .ref aT_keptDeeds, .ref aT_row, .ref aT_princes, .int vT_state, .int vT_deeds])), (aT_keptStates, .inl (G.2.1, 2, .inl wfT_keptStates)), (aT_keptDeeds, .inl (G.2.1, 2, .inl wfT_keptDeeds))] 0 0 := by
  refine RW_of (by decide) (Nat.le_of_ble_eq_true rfl) ?_
  intro p e s m ar below meth c R Q A ls X hR hRc hin hP hKK hD hS hA hAb hl ret
  obtain ⟨rs, hrs⟩ : ∃ q, q = (r0, wfT_keptDeeds, wfT_keptStates) := ⟨_, rfl⟩
  rw [← hrs] at hev
  have hr0 : r0 = rs.1 := by rw [hrs]
  have hwfT_keptDeeds : wfT_keptDeeds = rs.2.1 := by rw [hrs]
  have hwfT_keptStates : wfT_keptStates = rs.2.2 := by rw [hrs]
  rw [hr0, hwfT_keptDeeds, hwfT_keptStates] at ret
  clear hr0 hwfT_keptDeeds hwfT_keptStates hrs r0 wfT_keptDeeds wfT_keptStates
  have hl : lv_has ls 2 [(0, .ref aT), (1, .int p1)] := hl
  obtain ⟨hx, hb, hml, hown, hts, hT⟩ := id X
  have hK := hKK.1
  have hw : ∀ w ∈ T0, w.before ar s = true := fun w h => hts w (hT w h)
  have i10 := fun w h => hT w (inT10 w h)
  unfold f_SS_keep at hev
  refine lv_iload_n hx hb dX10_keep_0 rfl (lv_at hl 1 rfl) ?_
  refine lv_if_lt (tgt := 22) hx hb dX10_keep_1 (by decide) (fun c1 => ?_) (fun c1 => ?_)
  · replace hev := x_t c1 hev
    refine lv_bipush (v := (-2 : Int32)) hx hb dX10_keep_22 (by decide) ?_
    have hq9 := (Option.some.inj hev)
    subst hq9
    exact ret.1 _ _ _ _ _ _ _ rfl rfl dX10_keep_24 (show narrow _ (.int (-2 : Int32)) = .int (-2 : Int32) from rfl) hP hD hS
  · replace hev := x_f c1 hev
    refine lv_iload_n hx hb dX10_keep_4 rfl (lv_at hl 1 rfl) ?_
    refine lv_aload_n hx hb dX10_keep_5 rfl (lv_at hl 0 rfl) ?_
    refine va_get (D := G.1) (ci := 6) (v := .ref aT_keptStates) (C := RX10) (T := TX10) (N := 14) hx hb hts i10 hown hK hP 0 rfl rfl 8 (by decide) (hw _ u424) (fun _ h9 => h9) rfl dX10_keep_6 ?_
    refine va_alen hx hb hK hP 1 0 (v := (2 : Int32)) rfl rfl rfl dX10_keep_9 ?_
    refine lv_icmp_ge (tgt := 22) hx hb dX10_keep_10 (by decide) (fun c2 => ?_) (fun c2 => ?_)
    · replace hev := x_t c2 hev
      refine lv_bipush (v := (-2 : Int32)) hx hb dX10_keep_22 (by decide) ?_
      have hq9 := (Option.some.inj hev)
      subst hq9
      exact ret.1 _ _ _ _ _ _ _ rfl rfl dX10_keep_24 (show narrow _ (.int (-2 : Int32)) = .int (-2 : Int32) from rfl) hP hD hS
    · replace hev := x_f c2 hev
      refine lv_iload_n hx hb dX10_keep_13 rfl (lv_at hl 1 rfl) ?_
      refine lv_aload_n hx hb dX10_keep_14 rfl (lv_at hl 0 rfl) ?_
      refine va_get (D := G.1) (ci := 6) (v := .ref aT_keptDeeds) (C := RX10) (T := TX10) (N := 14) hx hb hts i10 hown hK hP 0 rfl rfl 9 (by decide) (hw _ u425) (fun _ h9 => h9) rfl dX10_keep_15 ?_
      refine va_alen hx hb hK hP 2 0 (v := (2 : Int32)) rfl rfl rfl dX10_keep_18 ?_
      refine lv_icmp_lt (tgt := 25) hx hb dX10_keep_19 (by decide) (fun c3 => ?_) (fun c3 => ?_)
      · replace hev := x_t c3 hev
        refine lv_aload_n hx hb dX10_keep_25 rfl (lv_at hl 0 rfl) ?_
        refine va_get (D := G.1) (ci := 6) (v := .ref aT_keptStates) (C := RX10) (T := TX10) (N := 14) hx hb hts i10 hown hK hP 0 rfl rfl 8 (by decide) (hw _ u424) (fun _ h9 => h9) rfl dX10_keep_26 ?_
        refine lv_iload_n hx hb dX10_keep_29 rfl (lv_at hl 1 rfl) ?_
        refine lv_aload_n hx hb dX10_keep_30 rfl (lv_at hl 0 rfl) ?_
        refine va_get (D := G.1) (ci := 6) (v := .int vT_state) (C := RX10) (T := TX10) (N := 14) hx hb hts i10 hown hK hP 0 rfl rfl 12 (by decide) (hw _ u428) (fun _ h9 => h9) rfl dX10_keep_31 ?_
        obtain ⟨h4, hev⟩ := x_ck hev
        refine va_iast hx hb hK hP hD hS 1 0 rfl rfl h4 dX10_keep_34 (fun H lo hP hD hS => ?_)
        refine lv_aload_n hx hb dX10_keep_35 rfl (lv_at hl 0 rfl) ?_
        refine va_get (D := G.1) (ci := 6) (v := .ref aT_keptDeeds) (C := RX10) (T := TX10) (N := 14) hx hb hts i10 hown hK hP 0 rfl rfl 9 (by decide) (hw _ u425) (fun _ h9 => h9) rfl dX10_keep_36 ?_
        refine lv_iload_n hx hb dX10_keep_39 rfl (lv_at hl 1 rfl) ?_
        refine lv_aload_n hx hb dX10_keep_40 rfl (lv_at hl 0 rfl) ?_
        refine va_get (D := G.1) (ci := 6) (v := .int vT_deeds) (C := RX10) (T := TX10) (N := 14) hx hb hts i10 hown hK hP 0 rfl rfl 13 (by decide) (hw _ u429) (fun _ h9 => h9) rfl dX10_keep_41 ?_
        obtain ⟨h5, hev⟩ := x_ck hev
        refine va_iast hx hb hK hP hD hS 2 0 rfl rfl h5 dX10_keep_44 (fun H lo hP hD hS => ?_)
        refine lv_aload_n hx hb dX10_keep_45 rfl (lv_at hl 0 rfl) ?_
        refine va_get (D := G.1) (ci := 6) (v := .int vT_deeds) (C := RX10) (T := TX10) (N := 14) hx hb hts i10 hown hK hP 0 rfl rfl 13 (by decide) (hw _ u429) (fun _ h9 => h9) rfl dX10_keep_46 ?_
        have hq9 := (Option.some.inj hev)
        subst hq9
        exact ret.1 _ _ _ _ _ _ _ rfl rfl dX10_keep_49 (show narrow _ (.int vT_deeds) = .int vT_deeds from rfl) hP hD hS
      · replace hev := x_f c3 hev
        refine lv_bipush (v := (-2 : Int32)) hx hb dX10_keep_22 (by decide) ?_
        have hq9 := (Option.some.inj hev)
        subst hq9
        exact ret.1 _ _ _ _ _ _ _ rfl rfl dX10_keep_24 (show narrow _ (.int (-2 : Int32)) = .int (-2 : Int32) from rfl) hP hD hS
def f_SS_back (vT_deeds : Int32) (vT_state : Int32) (vT_undoable_size : Int32) (fT_keptDeeds : Nat → Int32) (fT_keptStates : Nat → Int32) (p1 : Int32) : Option (Int32 × Int32 × Int32 × Int32) := if p1 < 0 then (some ((-2 : Int32), vT_deeds, vT_state, vT_undoable_size)) else if (2 : Int32) ≤ p1 then (some ((-2 : Int32), vT_deeds, vT_state, vT_undoable_size)) else if p1 < (2 : Int32) then (x_I 2 fT_keptDeeds p1 (fun v5 => if v5 = (-1 : Int32) then (some ((-4 : Int32), vT_deeds, vT_state, vT_undoable_size)) else x_I 2 fT_keptStates p1 (fun v8 => x_I 2 fT_keptDeeds p1 (fun v10 => x_B (f_Rw_empty vT_undoable_size) (fun ⟨y11, w12⟩ => some (v10, v10, v8, w12)))))) else some ((-2 : Int32), vT_deeds, vT_state, vT_undoable_size)
set_option maxHeartbeats 8000000 in
set_option maxRecDepth 100000 in
theorem c_SS_back (l : Launch) (G : GG) (aT aT_text aT_told aT_reader aT_rules aT_fromNow aT_whatIf aT_trials aT_undoable aT_keptStates aT_keptDeeds aT_row aT_princes aT_undoable_items : Nat) (vT_state : Int32) (vT_deeds : Int32) (vT_undoable_size : Int32) (fT_keptStates : Nat → Int32) (fT_keptDeeds : Nat → Int32) (p1 : Int32) (r0 : Int32) (wvT_deeds : Int32) (wvT_state : Int32) (wvT_undoable_size : Int32) (hev : f_SS_back vT_deeds vT_state vT_undoable_size fT_keptDeeds fT_keptStates p1 = some (r0, wvT_deeds, wvT_state, wvT_undoable_size)) : RW l G yX10_back cX10_back 2 (some .int) 1 [.ref aT, .int p1] [(aT, .inr (6, [.ref aT_text, .ref aT_told, .ref aT_reader, .ref aT_rules, .ref aT_fromNow, .ref aT_whatIf, .ref aT_trials, .ref aT_undoable, .ref aT_keptStates, .ref aT_keptDeeds, .ref aT_row, .ref aT_princes, .int vT_state, .int vT_deeds])), (aT_undoable, .inr (1, [.ref aT_undoable_items, .int vT_undoable_size])), (aT_keptStates, .inl (G.2.1, 2, .inl fT_keptStates)), (aT_keptDeeds, .inl (G.2.1, 2, .inl fT_keptDeeds))] (some (.int r0)) [(aT, .inr (6, [.ref aT_text, .ref aT_told, .ref aT_reader, .ref aT_rules, .ref aT_fromNow, .ref aT_whatIf, .ref aT_trials, .ref aT_undoable, .ref aT_keptStates, .ref aT_keptDeeds, .ref aT_row, .ref aT_princes, .int wvT_state, .int wvT_deeds])), (aT_undoable, .inr (1, [.ref aT_undoable_items, .int wvT_undoable_size])), (aT_keptStates, .inl (G.2.1, 2, .inl fT_keptStates)), (aT_keptDeeds, .inl (G.2.1, 2, .inl fT_keptDeeds))] 0 0 := by
  refine RW_of (by decide) (Nat.le_of_ble_eq_true rfl) ?_
  intro p e s m ar below meth c R Q A ls X hR hRc hin hP hKK hD hS hA hAb hl ret
  obtain ⟨rs, hrs⟩ : ∃ q, q = (r0, wvT_deeds, wvT_state, wvT_undoable_size) := ⟨_, rfl⟩
  rw [← hrs] at hev
  have hr0 : r0 = rs.1 := by rw [hrs]
  have hwvT_deeds : wvT_deeds = rs.2.1 := by rw [hrs]
  have hwvT_state : wvT_state = rs.2.2.1 := by rw [hrs]
  have hwvT_undoable_size : wvT_undoable_size = rs.2.2.2 := by rw [hrs]
  rw [hr0, hwvT_deeds, hwvT_state, hwvT_undoable_size] at ret
  clear hr0 hwvT_deeds hwvT_state hwvT_undoable_size hrs r0 wvT_deeds wvT_state wvT_undoable_size
  have hl : lv_has ls 2 [(0, .ref aT), (1, .int p1)] := hl
  obtain ⟨hx, hb, hml, hown, hts, hT⟩ := id X
  have hK := hKK.1
  have hw : ∀ w ∈ T0, w.before ar s = true := fun w h => hts w (hT w h)
  have i10 := fun w h => hT w (inT10 w h)
  unfold f_SS_back at hev
  refine lv_iload_n hx hb dX10_back_0 rfl (lv_at hl 1 rfl) ?_
  refine lv_if_lt (tgt := 22) hx hb dX10_back_1 (by decide) (fun c1 => ?_) (fun c1 => ?_)
  · replace hev := x_t c1 hev
    refine lv_bipush (v := (-2 : Int32)) hx hb dX10_back_22 (by decide) ?_
    have hq9 := (Option.some.inj hev)
    subst hq9
    exact ret.1 _ _ _ _ _ _ _ rfl rfl dX10_back_24 (show narrow _ (.int (-2 : Int32)) = .int (-2 : Int32) from rfl) hP hD hS
  · replace hev := x_f c1 hev
    refine lv_iload_n hx hb dX10_back_4 rfl (lv_at hl 1 rfl) ?_
    refine lv_aload_n hx hb dX10_back_5 rfl (lv_at hl 0 rfl) ?_
    refine va_get (D := G.1) (ci := 6) (v := .ref aT_keptStates) (C := RX10) (T := TX10) (N := 14) hx hb hts i10 hown hK hP 0 rfl rfl 8 (by decide) (hw _ u424) (fun _ h9 => h9) rfl dX10_back_6 ?_
    refine va_alen hx hb hK hP 2 0 (v := (2 : Int32)) rfl rfl rfl dX10_back_9 ?_
    refine lv_icmp_ge (tgt := 22) hx hb dX10_back_10 (by decide) (fun c2 => ?_) (fun c2 => ?_)
    · replace hev := x_t c2 hev
      refine lv_bipush (v := (-2 : Int32)) hx hb dX10_back_22 (by decide) ?_
      have hq9 := (Option.some.inj hev)
      subst hq9
      exact ret.1 _ _ _ _ _ _ _ rfl rfl dX10_back_24 (show narrow _ (.int (-2 : Int32)) = .int (-2 : Int32) from rfl) hP hD hS
    · replace hev := x_f c2 hev
      refine lv_iload_n hx hb dX10_back_13 rfl (lv_at hl 1 rfl) ?_
      refine lv_aload_n hx hb dX10_back_14 rfl (lv_at hl 0 rfl) ?_
      refine va_get (D := G.1) (ci := 6) (v := .ref aT_keptDeeds) (C := RX10) (T := TX10) (N := 14) hx hb hts i10 hown hK hP 0 rfl rfl 9 (by decide) (hw _ u425) (fun _ h9 => h9) rfl dX10_back_15 ?_
      refine va_alen hx hb hK hP 3 0 (v := (2 : Int32)) rfl rfl rfl dX10_back_18 ?_
      refine lv_icmp_lt (tgt := 25) hx hb dX10_back_19 (by decide) (fun c3 => ?_) (fun c3 => ?_)
      · replace hev := x_t c3 hev
        refine lv_aload_n hx hb dX10_back_25 rfl (lv_at hl 0 rfl) ?_
        refine va_get (D := G.1) (ci := 6) (v := .ref aT_keptDeeds) (C := RX10) (T := TX10) (N := 14) hx hb hts i10 hown hK hP 0 rfl rfl 9 (by decide) (hw _ u425) (fun _ h9 => h9) rfl dX10_back_26 ?_
        refine lv_iload_n hx hb dX10_back_29 rfl (lv_at hl 1 rfl) ?_
        obtain ⟨h4, hev⟩ := x_ld hev
        refine va_iald hx hb hK hP 3 0 rfl rfl h4 dX10_back_30 ?_
        refine lv_topi (fun v5 ev5 => ?_)
        replace hev := hev v5 ev5
        refine lv_iconst (v := (-1 : Int32)) hx hb dX10_back_31 (by decide) ?_
        refine lv_icmp_ne (tgt := 38) hx hb dX10_back_32 (by decide) (fun c6 => ?_) (fun c6 => ?_)
        · replace hev := x_f c6 hev
          refine lv_aload_n hx hb dX10_back_38 rfl (lv_at hl 0 rfl) ?_
          refine lv_aload_n hx hb dX10_back_39 rfl (lv_at hl 0 rfl) ?_
          refine va_get (D := G.1) (ci := 6) (v := .ref aT_keptStates) (C := RX10) (T := TX10) (N := 14) hx hb hts i10 hown hK hP 0 rfl rfl 8 (by decide) (hw _ u424) (fun _ h9 => h9) rfl dX10_back_40 ?_
          refine lv_iload_n hx hb dX10_back_43 rfl (lv_at hl 1 rfl) ?_
          obtain ⟨h7, hev⟩ := x_ld hev
          refine va_iald hx hb hK hP 2 0 rfl rfl h7 dX10_back_44 ?_
          refine lv_topi (fun v8 ev8 => ?_)
          replace hev := hev v8 ev8
          refine va_put (D := G.1) (ci := 6) (v := .int v8) (ty := .int) (C := RX10) (T := TX10) (N := 14) hx hb hts i10 tyX10 tyX10_ok nmX10 hown hK hP hD hS 0 rfl rfl 12 (by decide) (hw _ u428) (fun _ h9 => h9) rfl (by decide +kernel) rfl rfl (Nat.le_of_ble_eq_true rfl) dX10_back_45 (fun H lo hP hD hS => ?_)
          refine lv_aload_n hx hb dX10_back_48 rfl (lv_at hl 0 rfl) ?_
          refine lv_aload_n hx hb dX10_back_49 rfl (lv_at hl 0 rfl) ?_
          refine va_get (D := G.1) (ci := 6) (v := .ref aT_keptDeeds) (C := RX10) (T := TX10) (N := 14) hx hb hts i10 hown hK hP 0 rfl rfl 9 (by decide) (hw _ u425) (fun _ h9 => h9) rfl dX10_back_50 ?_
          refine lv_iload_n hx hb dX10_back_53 rfl (lv_at hl 1 rfl) ?_
          obtain ⟨h9, hev⟩ := x_ld hev
          refine va_iald hx hb hK hP 3 0 rfl rfl h9 dX10_back_54 ?_
          refine lv_topi (fun v10 ev10 => ?_)
          replace hev := hev v10 ev10
          refine va_put (D := G.1) (ci := 6) (v := .int v10) (ty := .int) (C := RX10) (T := TX10) (N := 14) hx hb hts i10 tyX10 tyX10_ok nmX10 hown hK hP hD hS 0 rfl rfl 13 (by decide) (hw _ u429) (fun _ h9 => h9) rfl (by decide +kernel) rfl rfl (Nat.le_of_ble_eq_true rfl) dX10_back_55 (fun H lo hP hD hS => ?_)
          refine lv_aload_n hx hb dX10_back_58 rfl (lv_at hl 0 rfl) ?_
          refine va_get (D := G.1) (ci := 6) (v := .ref aT_undoable) (C := RX10) (T := TX10) (N := 14) hx hb hts i10 hown hK hP 0 rfl rfl 7 (by decide) (hw _ u423) (fun _ h9 => h9) rfl dX10_back_59 ?_
          obtain ⟨⟨y11, w12⟩, hq, hev⟩ := x_bd hev
          refine rwV X (KK_at hKK hS hAb) hR (st1 := [.int y11]) (ws2 := [(aT, .inr (6, [.ref aT_text, .ref aT_told, .ref aT_reader, .ref aT_rules, .ref aT_fromNow, .ref aT_whatIf, .ref aT_trials, .ref aT_undoable, .ref aT_keptStates, .ref aT_keptDeeds, .ref aT_row, .ref aT_princes, .int v8, .int v10])), (aT_undoable, .inr (1, [.ref aT_undoable_items, .int w12])), (aT_keptStates, .inl (G.2.1, 2, .inl fT_keptStates)), (aT_keptDeeds, .inl (G.2.1, 2, .inl fT_keptDeeds))]) (c_Rw_empty l G aT_undoable aT_undoable_items vT_undoable_size y11 w12 hq) K_X3_empty u406 hP hD hS hA hAb [1] rfl rfl rfl rfl rfl (q0 := 0) rfl (by decide) ⟨Nat.zero_le _, Nat.zero_le _⟩ rfl hl.1 rfl (Nat.le_of_ble_eq_true rfl) rfl dX10_back_62 (fun H lo hP hD hS => ?_)
          refine lv_pop hx hb dX10_back_65 rfl ?_
          refine lv_aload_n hx hb dX10_back_66 rfl (lv_at hl 0 rfl) ?_
          refine va_get (D := G.1) (ci := 6) (v := .int v10) (C := RX10) (T := TX10) (N := 14) hx hb hts i10 hown hK hP 0 rfl rfl 13 (by decide) (hw _ u429) (fun _ h9 => h9) rfl dX10_back_67 ?_
          have hq9 := (Option.some.inj hev)
          subst hq9
          exact ret.1 _ _ _ _ _ _ _ rfl rfl dX10_back_70 (show narrow _ (.int v10) = .int v10 from rfl) hP hD hS
        · replace hev := x_t c6 hev
          refine lv_bipush (v := (-4 : Int32)) hx hb dX10_back_35 (by decide) ?_
          have hq9 := (Option.some.inj hev)
          subst hq9
          exact ret.1 _ _ _ _ _ _ _ rfl rfl dX10_back_37 (show narrow _ (.int (-4 : Int32)) = .int (-4 : Int32) from rfl) hP hD hS
      · replace hev := x_f c3 hev
        refine lv_bipush (v := (-2 : Int32)) hx hb dX10_back_22 (by decide) ?_
        have hq9 := (Option.some.inj hev)
        subst hq9
        exact ret.1 _ _ _ _ _ _ _ rfl rfl dX10_back_24 (show narrow _ (.int (-2 : Int32)) = .int (-2 : Int32) from rfl) hP hD hS
def f_SS_isPropped_L31 (vT_state : Int32) (vT_told_spells : Int32) (fT_told_numbers : Nat → Int32) (fT_told_sorts : Nat → Int32) (fT_told_terms : Nat → Int32) (x1 : Int32) (x3 : Int32) : Nat → Int32 → Option ((Unit) ⊕ (Int32))
  | 0, _ => none
  | k + 1, x4 => if (3 : Int32) ≤ x4 then (some (.inl ())) else x_B (f_To_termsOf vT_told_spells fT_told_terms x1) (fun y6 => if y6 ≤ x4 then (some (.inl ())) else x_B (f_SS_isSoNow vT_state vT_told_spells fT_told_numbers fT_told_sorts fT_told_terms x1 x4) (fun y8 => if y8 = 0 then (x_B (f_To_sortOf vT_told_spells fT_told_sorts fT_told_terms x1 x4) (fun y11 => if y11 = (4 : Int32) then (x_B (f_To_numberOf vT_told_spells fT_told_numbers fT_told_terms x1 x4) (fun y13 => if ((x3 >>> (y13 &&& 31)) &&& (1 : Int32)) = 0 then (some (.inr (0 : Int32))) else some (.inr (1 : Int32)))) else some (.inr (0 : Int32)))) else x_L (x4 + (1 : Int32)) (fun y10 => (f_SS_isPropped_L31 vT_state vT_told_spells fT_told_numbers fT_told_sorts fT_told_terms x1 x3 k) y10)))
def f_SS_isPropped (k : Nat) (vT_state : Int32) (vT_told_spells : Int32) (fT_told_numbers : Nat → Int32) (fT_told_sorts : Nat → Int32) (fT_told_terms : Nat → Int32) (p1 : Int32) (p2 : Int32) : Option (Int32) := x_B (f_SS_termsSoNow k vT_state vT_told_spells fT_told_numbers fT_told_sorts fT_told_terms p1) (fun y1 => x_B (f_To_termsOf vT_told_spells fT_told_terms p1) (fun y2 => if y1 = (y2 - (1 : Int32)) then (x_L ((p2 &&& (((1 : Int32) <<< (p1 &&& 31)) ^^^ (-1 : Int32)))) (fun y4 => x_S (f_SS_isPropped_L31 vT_state vT_told_spells fT_told_numbers fT_told_sorts fT_told_terms p1 y4 k (0 : Int32)) (fun _ => some (0 : Int32)) (fun r9 => some r9))) else some (0 : Int32)))
set_option maxHeartbeats 8000000 in
set_option maxRecDepth 100000 in
theorem c_SS_isPropped (l : Launch) (G : GG) (aT aT_text aT_told aT_reader aT_rules aT_fromNow aT_whatIf aT_trials aT_undoable aT_keptStates aT_keptDeeds aT_row aT_princes aT_told_kinds aT_told_targets aT_told_wakes aT_told_terms aT_told_sorts aT_told_numbers : Nat) (vT_state : Int32) (vT_deeds : Int32) (vT_told_people : Int32) (vT_told_spells : Int32) (vT_told_day : Int32) (vT_told_broken : Int32) (fT_told_terms : Nat → Int32) (fT_told_sorts : Nat → Int32) (fT_told_numbers : Nat → Int32) (k : Nat) (p1 : Int32) (p2 : Int32) (r0 : Int32) (hev : f_SS_isPropped k vT_state vT_told_spells fT_told_numbers fT_told_sorts fT_told_terms p1 p2 = some r0) : RO l G yX10_isPropped cX10_isPropped 5 (some .boolean) 5 [.ref aT, .int p1, .int p2] [(aT, .inr (6, [.ref aT_text, .ref aT_told, .ref aT_reader, .ref aT_rules, .ref aT_fromNow, .ref aT_whatIf, .ref aT_trials, .ref aT_undoable, .ref aT_keptStates, .ref aT_keptDeeds, .ref aT_row, .ref aT_princes, .int vT_state, .int vT_deeds])), (aT_told, .inr (4, [.int vT_told_people, .int vT_told_spells, .int vT_told_day, .int vT_told_broken, .ref aT_told_kinds, .ref aT_told_targets, .ref aT_told_wakes, .ref aT_told_terms, .ref aT_told_sorts, .ref aT_told_numbers])), (aT_told_terms, .inl (G.2.1, 5, .inl fT_told_terms)), (aT_told_sorts, .inl (G.2.1, 15, .inl fT_told_sorts)), (aT_told_numbers, .inl (G.2.1, 15, .inl fT_told_numbers))] (some (.int r0)) := by
  refine RO_of (by decide) (Nat.le_of_ble_eq_true rfl) ?_
  intro p e s m ar below meth c R Q H ls X hR hP hKK hS0 hl ret
  generalize hrs : r0 = rs at hev ret
  have hl : lv_has ls 5 [(0, .ref aT), (1, .int p1), (2, .int p2)] := hl
  obtain ⟨hx, hb, hml, hown, hts, hT⟩ := id X
  have hK := hKK.1
  have hw : ∀ w ∈ T0, w.before ar s = true := fun w h => hts w (hT w h)
  have i10 := fun w h => hT w (inT10 w h)
  unfold f_SS_isPropped at hev
  refine lv_aload_n hx hb dX10_isPropped_0 rfl (lv_at hl 0 rfl) ?_
  refine lv_iload_n hx hb dX10_isPropped_1 rfl (lv_at hl 1 rfl) ?_
  obtain ⟨y1, hq, hev⟩ := x_bd hev
  refine roV X hKK hR (st1 := [.int y1]) (c_SS_termsSoNow l G aT aT_text aT_told aT_reader aT_rules aT_fromNow aT_whatIf aT_trials aT_undoable aT_keptStates aT_keptDeeds aT_row aT_princes aT_told_kinds aT_told_targets aT_told_wakes aT_told_terms aT_told_sorts aT_told_numbers vT_state vT_deeds vT_told_people vT_told_spells vT_told_day vT_told_broken fT_told_terms fT_told_sorts fT_told_numbers k p1 y1 hq) K_X10_termsSoNow u699 (x_Psub hP [0, 1, 2, 3, 4] rfl) rfl (q0 := 0) rfl (by decide) ⟨Nat.zero_le _, Nat.zero_le _⟩ rfl hl.1 rfl (Nat.le_of_ble_eq_true rfl) rfl dX10_isPropped_2 ?_
  refine lv_aload_n hx hb dX10_isPropped_5 rfl (lv_at hl 0 rfl) ?_
  refine va_get (D := G.1) (ci := 6) (v := .ref aT_told) (C := RX10) (T := TX10) (N := 14) hx hb hts i10 hown hK hP 0 rfl rfl 1 (by decide) (hw _ u417) (fun _ h9 => h9) rfl dX10_isPropped_6 ?_
  refine lv_iload_n hx hb dX10_isPropped_9 rfl (lv_at hl 1 rfl) ?_
  obtain ⟨y2, hq, hev⟩ := x_bd hev
  refine roV X hKK hR (st1 := [.int y2, .int y1]) (c_To_termsOf l G aT_told aT_told_kinds aT_told_targets aT_told_wakes aT_told_terms aT_told_sorts aT_told_numbers vT_told_people vT_told_spells vT_told_day vT_told_broken fT_told_terms p1 y2 hq) K_X8_termsOf u671 (x_Psub hP [1, 2] rfl) rfl (q0 := 0) rfl (by decide) ⟨Nat.zero_le _, Nat.zero_le _⟩ rfl hl.1 rfl (Nat.le_of_ble_eq_true rfl) rfl dX10_isPropped_10 ?_
  refine lv_iconst (v := (1 : Int32)) hx hb dX10_isPropped_13 (by decide) ?_
  refine lv_isub hx hb dX10_isPropped_14 ?_
  refine lv_icmp_eq (tgt := 20) hx hb dX10_isPropped_15 (by decide) (fun c3 => ?_) (fun c3 => ?_)
  · replace hev := x_t c3 hev
    refine lv_iload_n hx hb dX10_isPropped_20 rfl (lv_at hl 2 rfl) ?_
    refine lv_iconst (v := (1 : Int32)) hx hb dX10_isPropped_21 (by decide) ?_
    refine lv_iload_n hx hb dX10_isPropped_22 rfl (lv_at hl 1 rfl) ?_
    refine lv_ishl hx hb dX10_isPropped_23 ?_
    refine lv_iconst (v := (-1 : Int32)) hx hb dX10_isPropped_24 (by decide) ?_
    refine lv_ixor hx hb dX10_isPropped_25 ?_
    refine lv_iand hx hb dX10_isPropped_26 ?_
    refine lv_topi (fun y4 ey4 => ?_)
    replace hev := x_lt hev y4 ey4
    refine lv_istore_n (lv' := [(3, .int y4), (0, .ref aT), (1, .int p1), (2, .int p2)]) hx hb dX10_isPropped_27 rfl hl (by decide) rfl (fun ls hl => ?_)
    refine lv_iconst (v := (0 : Int32)) hx hb dX10_isPropped_28 (by decide) ?_
    refine lv_istore (lv' := [(4, .int (0 : Int32)), (3, .int y4), (0, .ref aT), (1, .int p1), (2, .int p2)]) hx hb dX10_isPropped_29 hl (by decide) rfl (fun ls hl => ?_)
    have L31 : ∀ (x1 : Int32) (x3 : Int32), ∀ (k : Nat) (x4 : Int32) (out : (Unit) ⊕ (Int32)), f_SS_isPropped_L31 vT_state vT_told_spells fT_told_numbers fT_told_sorts fT_told_terms x1 x3 k x4 = some out → (out = .inl () → ∀ (ls : Array Slot), lv_has ls 5 [] → W p l e R s m ar below meth c H [] 0 0 Q (F0 m 103 ls [])) → (∀ v, out = .inr v → v = rs) → ∀ (ls : Array Slot), lv_has ls 5 [(0, .ref aT), (1, .int x1), (3, .int x3), (4, .int x4)] → W p l e R s m ar below meth c H [] 0 0 Q (F0 m 31 ls []) := by
      intro x1 x3 k
      induction k with
      | zero => intro x4 out hev; rw [f_SS_isPropped_L31] at hev; cases hev
      | succ k ih =>
        intro x4 out hev hex hret ls hl
        rw [f_SS_isPropped_L31] at hev
        refine lv_iload hx hb dX10_isPropped_31 (lv_at hl 3 rfl) ?_
        refine lv_iconst (v := (3 : Int32)) hx hb dX10_isPropped_33 (by decide) ?_
        refine lv_icmp_ge (tgt := 103) hx hb dX10_isPropped_34 (by decide) (fun c5 => ?_) (fun c5 => ?_)
        · replace hev := x_t c5 hev
          exact hex  (Option.some.inj hev).symm ls (lv_sub hl [] rfl)
        · replace hev := x_f c5 hev
          refine lv_iload hx hb dX10_isPropped_37 (lv_at hl 3 rfl) ?_
          refine lv_aload_n hx hb dX10_isPropped_39 rfl (lv_at hl 0 rfl) ?_
          refine va_get (D := G.1) (ci := 6) (v := .ref aT_told) (C := RX10) (T := TX10) (N := 14) hx hb hts i10 hown hK hP 0 rfl rfl 1 (by decide) (hw _ u417) (fun _ h9 => h9) rfl dX10_isPropped_40 ?_
          refine lv_iload_n hx hb dX10_isPropped_43 rfl (lv_at hl 1 rfl) ?_
          obtain ⟨y6, hq, hev⟩ := x_bd hev
          refine roV X hKK hR (st1 := [.int y6, .int x4]) (c_To_termsOf l G aT_told aT_told_kinds aT_told_targets aT_told_wakes aT_told_terms aT_told_sorts aT_told_numbers vT_told_people vT_told_spells vT_told_day vT_told_broken fT_told_terms x1 y6 hq) K_X8_termsOf u671 (x_Psub hP [1, 2] rfl) rfl (q0 := 0) rfl (by decide) ⟨Nat.zero_le _, Nat.zero_le _⟩ rfl hl.1 rfl (Nat.le_of_ble_eq_true rfl) rfl dX10_isPropped_44 ?_
          refine lv_icmp_ge (tgt := 103) hx hb dX10_isPropped_47 (by decide) (fun c7 => ?_) (fun c7 => ?_)
          · replace hev := x_t c7 hev
            exact hex  (Option.some.inj hev).symm ls (lv_sub hl [] rfl)
          · replace hev := x_f c7 hev
            refine lv_aload_n hx hb dX10_isPropped_50 rfl (lv_at hl 0 rfl) ?_
            refine lv_iload_n hx hb dX10_isPropped_51 rfl (lv_at hl 1 rfl) ?_
            refine lv_iload hx hb dX10_isPropped_52 (lv_at hl 3 rfl) ?_
            obtain ⟨y8, hq, hev⟩ := x_bd hev
            refine roV X hKK hR (st1 := [.int y8]) (c_SS_isSoNow l G aT aT_text aT_told aT_reader aT_rules aT_fromNow aT_whatIf aT_trials aT_undoable aT_keptStates aT_keptDeeds aT_row aT_princes aT_told_kinds aT_told_targets aT_told_wakes aT_told_terms aT_told_sorts aT_told_numbers vT_state vT_deeds vT_told_people vT_told_spells vT_told_day vT_told_broken fT_told_terms fT_told_sorts fT_told_numbers x1 x4 y8 hq) K_X10_isSoNow u679 (x_Psub hP [0, 1, 2, 3, 4] rfl) rfl (q0 := 0) rfl (by decide) ⟨Nat.zero_le _, Nat.zero_le _⟩ rfl hl.1 rfl (Nat.le_of_ble_eq_true rfl) rfl dX10_isPropped_54 ?_
            refine lv_if_ne (tgt := 97) hx hb dX10_isPropped_57 (by decide) (fun c9 => ?_) (fun c9 => ?_)
            · replace hev := x_f c9 hev
              obtain ⟨y10, ey10⟩ : ∃ y : Int32, y = x4 + (1 : Int32) := ⟨_, rfl⟩
              refine lv_iinc (v := y10) (lv' := [(4, .int y10), (0, .ref aT), (1, .int x1), (3, .int x3)]) hx hb dX10_isPropped_97 hl (k := 3) rfl (by rw [ey10]; rfl) (by decide) rfl (fun ls hl => ?_)
              replace hev := x_lt hev y10 ey10
              refine lv_goto (tgt := 31) hx hb dX10_isPropped_100 (by decide) ?_
              exact ih y10 _ hev hex hret ls (lv_sub hl [1, 2, 3, 0] rfl)
            · replace hev := x_t c9 hev
              refine lv_aload_n hx hb dX10_isPropped_60 rfl (lv_at hl 0 rfl) ?_
              refine va_get (D := G.1) (ci := 6) (v := .ref aT_told) (C := RX10) (T := TX10) (N := 14) hx hb hts i10 hown hK hP 0 rfl rfl 1 (by decide) (hw _ u417) (fun _ h9 => h9) rfl dX10_isPropped_61 ?_
              refine lv_iload_n hx hb dX10_isPropped_64 rfl (lv_at hl 1 rfl) ?_
              refine lv_iload hx hb dX10_isPropped_65 (lv_at hl 3 rfl) ?_
              obtain ⟨y11, hq, hev⟩ := x_bd hev
              refine roV X hKK hR (st1 := [.int y11]) (c_To_sortOf l G aT_told aT_told_kinds aT_told_targets aT_told_wakes aT_told_terms aT_told_sorts aT_told_numbers vT_told_people vT_told_spells vT_told_day vT_told_broken fT_told_terms fT_told_sorts x1 x4 y11 hq) K_X8_sortOf u677 (x_Psub hP [1, 2, 3] rfl) rfl (q0 := 0) rfl (by decide) ⟨Nat.zero_le _, Nat.zero_le _⟩ rfl hl.1 rfl (Nat.le_of_ble_eq_true rfl) rfl dX10_isPropped_67 ?_
              refine lv_iconst (v := (4 : Int32)) hx hb dX10_isPropped_70 (by decide) ?_
              refine lv_icmp_ne (tgt := 95) hx hb dX10_isPropped_71 (by decide) (fun c12 => ?_) (fun c12 => ?_)
              · replace hev := x_f c12 hev
                refine lv_iconst (v := (0 : Int32)) hx hb dX10_isPropped_95 (by decide) ?_
                exact ret _ _ _ dX10_isPropped_96 ((show narrow _ (.int (0 : Int32)) = .int (0 : Int32) from nb0).trans (congrArg Value.int (hret _ (Option.some.inj hev).symm)))
              · replace hev := x_t c12 hev
                refine lv_iload_n hx hb dX10_isPropped_74 rfl (lv_at hl 2 rfl) ?_
                refine lv_aload_n hx hb dX10_isPropped_75 rfl (lv_at hl 0 rfl) ?_
                refine va_get (D := G.1) (ci := 6) (v := .ref aT_told) (C := RX10) (T := TX10) (N := 14) hx hb hts i10 hown hK hP 0 rfl rfl 1 (by decide) (hw _ u417) (fun _ h9 => h9) rfl dX10_isPropped_76 ?_
                refine lv_iload_n hx hb dX10_isPropped_79 rfl (lv_at hl 1 rfl) ?_
                refine lv_iload hx hb dX10_isPropped_80 (lv_at hl 3 rfl) ?_
                obtain ⟨y13, hq, hev⟩ := x_bd hev
                refine roV X hKK hR (st1 := [.int y13, .int x3]) (c_To_numberOf l G aT_told aT_told_kinds aT_told_targets aT_told_wakes aT_told_terms aT_told_sorts aT_told_numbers vT_told_people vT_told_spells vT_told_day vT_told_broken fT_told_terms fT_told_numbers x1 x4 y13 hq) K_X8_numberOf u678 (x_Psub hP [1, 2, 4] rfl) rfl (q0 := 0) rfl (by decide) ⟨Nat.zero_le _, Nat.zero_le _⟩ rfl hl.1 rfl (Nat.le_of_ble_eq_true rfl) rfl dX10_isPropped_82 ?_
                refine lv_ishr hx hb dX10_isPropped_85 ?_
                refine lv_iconst (v := (1 : Int32)) hx hb dX10_isPropped_86 (by decide) ?_
                refine lv_iand hx hb dX10_isPropped_87 ?_
                refine lv_if_eq (tgt := 95) hx hb dX10_isPropped_88 (by decide) (fun c14 => ?_) (fun c14 => ?_)
                · replace hev := x_t c14 hev
                  refine lv_iconst (v := (0 : Int32)) hx hb dX10_isPropped_95 (by decide) ?_
                  exact ret _ _ _ dX10_isPropped_96 ((show narrow _ (.int (0 : Int32)) = .int (0 : Int32) from nb0).trans (congrArg Value.int (hret _ (Option.some.inj hev).symm)))
                · replace hev := x_f c14 hev
                  refine lv_iconst (v := (1 : Int32)) hx hb dX10_isPropped_91 (by decide) ?_
                  refine lv_goto (tgt := 96) hx hb dX10_isPropped_92 (by decide) ?_
                  exact ret _ _ _ dX10_isPropped_96 ((show narrow _ (.int (1 : Int32)) = .int (1 : Int32) from nb1).trans (congrArg Value.int (hret _ (Option.some.inj hev).symm)))
    rcases x_sd hev with ⟨q9, hq, hev⟩ | ⟨q9, hq, hev⟩
    · refine L31 p1 y4 k (0 : Int32) (.inl q9) hq ?_ (fun v he => by cases he) ls (lv_sub hl [2, 3, 1, 0] rfl)
      intro  he ls hl
      refine lv_iconst (v := (0 : Int32)) hx hb dX10_isPropped_103 (by decide) ?_
      exact ret _ _ _ dX10_isPropped_104 ((show narrow _ (.int (0 : Int32)) = .int (0 : Int32) from nb0).trans (congrArg Value.int (Option.some.inj hev)))
    · refine L31 p1 y4 k (0 : Int32) (.inr q9) hq (fun he => by cases he) (fun v he => ?_) ls (lv_sub hl [2, 3, 1, 0] rfl)
      rw [← Sum.inr.inj he]
      exact Option.some.inj hev
  · replace hev := x_f c3 hev
    refine lv_iconst (v := (0 : Int32)) hx hb dX10_isPropped_18 (by decide) ?_
    exact ret _ _ _ dX10_isPropped_19 ((show narrow _ (.int (0 : Int32)) = .int (0 : Int32) from nb0).trans (congrArg Value.int (Option.some.inj hev)))
def f_SS_row (k : Nat) (nT_row_items : Nat) (vT_row_size : Int32) (vT_rules_deedCount : Int32) (vT_told_people : Int32) (fT_row_items : Nat → Int32) (fT_rules_doers : Nat → Int32) (fT_rules_sorts : Nat → Int32) (fT_rules_whichs : Nat → Int32) (p1 : Int32) (p2 : Int32) (p3 : Int32) : Option (Int32 × Int32 × (Nat → Int32)) := x_B (f_SS_refusal vT_told_people p1 p2 p3) (fun y1 => if y1 = 0 then (x_B (f_Ru_deedOf k vT_rules_deedCount fT_rules_doers fT_rules_sorts fT_rules_whichs p1 p2 p3) (fun y3 => x_B (f_Rw_add nT_row_items vT_row_size fT_row_items y3) (fun ⟨y4, w5, w6⟩ => if y4 = 0 then (some ((-5 : Int32), w5, w6)) else x_B (f_Rw_size w5) (fun y8 => some (y8, w5, w6))))) else some (y1, vT_row_size, fT_row_items))
set_option maxHeartbeats 8000000 in
set_option maxRecDepth 100000 in
theorem c_SS_row (l : Launch) (G : GG) (aT aT_text aT_told aT_reader aT_rules aT_fromNow aT_whatIf aT_trials aT_undoable aT_keptStates aT_keptDeeds aT_row aT_princes aT_told_kinds aT_told_targets aT_told_wakes aT_told_terms aT_told_sorts aT_told_numbers aT_rules_masks aT_rules_values aT_rules_askings aT_rules_kissesNeeded aT_rules_wakings aT_rules_binders aT_rules_curses aT_rules_doers aT_rules_sorts aT_rules_whichs aT_rules_bars aT_rules_bits aT_rules_kisses aT_row_items : Nat) (vT_state : Int32) (vT_deeds : Int32) (vT_told_people : Int32) (vT_told_spells : Int32) (vT_told_day : Int32) (vT_told_broken : Int32) (vT_rules_people : Int32) (vT_rules_spells : Int32) (vT_rules_deedCount : Int32) (vT_row_size : Int32) (fT_rules_doers : Nat → Int32) (fT_rules_whichs : Nat → Int32) (fT_rules_sorts : Nat → Int32) (fT_row_items : Nat → Int32) (nT_row_items : Nat) (k : Nat) (p1 : Int32) (p2 : Int32) (p3 : Int32) (r0 : Int32) (wvT_row_size : Int32) (wfT_row_items : Nat → Int32) (hev : f_SS_row k nT_row_items vT_row_size vT_rules_deedCount vT_told_people fT_row_items fT_rules_doers fT_rules_sorts fT_rules_whichs p1 p2 p3 = some (r0, wvT_row_size, wfT_row_items)) : RW l G yX10_row cX10_row 5 (some .int) 3 [.ref aT, .int p1, .int p2, .int p3] [(aT, .inr (6, [.ref aT_text, .ref aT_told, .ref aT_reader, .ref aT_rules, .ref aT_fromNow, .ref aT_whatIf, .ref aT_trials, .ref aT_undoable, .ref aT_keptStates, .ref aT_keptDeeds, .ref aT_row, .ref aT_princes, .int vT_state, .int vT_deeds])), (aT_told, .inr (4, [.int vT_told_people, .int vT_told_spells, .int vT_told_day, .int vT_told_broken, .ref aT_told_kinds, .ref aT_told_targets, .ref aT_told_wakes, .ref aT_told_terms, .ref aT_told_sorts, .ref aT_told_numbers])), (aT_rules, .inr (2, [.int vT_rules_people, .int vT_rules_spells, .int vT_rules_deedCount, .ref aT_rules_masks, .ref aT_rules_values, .ref aT_rules_askings, .ref aT_rules_kissesNeeded, .ref aT_rules_wakings, .ref aT_rules_binders, .ref aT_rules_curses, .ref aT_rules_doers, .ref aT_rules_sorts, .ref aT_rules_whichs, .ref aT_rules_bars, .ref aT_rules_bits, .ref aT_rules_kisses])), (aT_row, .inr (1, [.ref aT_row_items, .int vT_row_size])), (aT_rules_doers, .inl (G.2.1, 19, .inl fT_rules_doers)), (aT_rules_whichs, .inl (G.2.1, 19, .inl fT_rules_whichs)), (aT_rules_sorts, .inl (G.2.1, 19, .inl fT_rules_sorts)), (aT_row_items, .inl (G.2.1, nT_row_items, .inl fT_row_items))] (some (.int r0)) [(aT, .inr (6, [.ref aT_text, .ref aT_told, .ref aT_reader, .ref aT_rules, .ref aT_fromNow, .ref aT_whatIf, .ref aT_trials, .ref aT_undoable, .ref aT_keptStates, .ref aT_keptDeeds, .ref aT_row, .ref aT_princes, .int vT_state, .int vT_deeds])), (aT_told, .inr (4, [.int vT_told_people, .int vT_told_spells, .int vT_told_day, .int vT_told_broken, .ref aT_told_kinds, .ref aT_told_targets, .ref aT_told_wakes, .ref aT_told_terms, .ref aT_told_sorts, .ref aT_told_numbers])), (aT_rules, .inr (2, [.int vT_rules_people, .int vT_rules_spells, .int vT_rules_deedCount, .ref aT_rules_masks, .ref aT_rules_values, .ref aT_rules_askings, .ref aT_rules_kissesNeeded, .ref aT_rules_wakings, .ref aT_rules_binders, .ref aT_rules_curses, .ref aT_rules_doers, .ref aT_rules_sorts, .ref aT_rules_whichs, .ref aT_rules_bars, .ref aT_rules_bits, .ref aT_rules_kisses])), (aT_row, .inr (1, [.ref aT_row_items, .int wvT_row_size])), (aT_rules_doers, .inl (G.2.1, 19, .inl fT_rules_doers)), (aT_rules_whichs, .inl (G.2.1, 19, .inl fT_rules_whichs)), (aT_rules_sorts, .inl (G.2.1, 19, .inl fT_rules_sorts)), (aT_row_items, .inl (G.2.1, nT_row_items, .inl wfT_row_items))] 0 0 := by
  refine RW_of (by decide) (Nat.le_of_ble_eq_true rfl) ?_
  intro p e s m ar below meth c R Q A ls X hR hRc hin hP hKK hD hS hA hAb hl ret
  obtain ⟨rs, hrs⟩ : ∃ q, q = (r0, wvT_row_size, wfT_row_items) := ⟨_, rfl⟩
  rw [← hrs] at hev
  have hr0 : r0 = rs.1 := by rw [hrs]
  have hwvT_row_size : wvT_row_size = rs.2.1 := by rw [hrs]
  have hwfT_row_items : wfT_row_items = rs.2.2 := by rw [hrs]
  rw [hr0, hwvT_row_size, hwfT_row_items] at ret
  clear hr0 hwvT_row_size hwfT_row_items hrs r0 wvT_row_size wfT_row_items
  have hl : lv_has ls 5 [(0, .ref aT), (1, .int p1), (2, .int p2), (3, .int p3)] := hl
  obtain ⟨hx, hb, hml, hown, hts, hT⟩ := id X
  have hK := hKK.1
  have hw : ∀ w ∈ T0, w.before ar s = true := fun w h => hts w (hT w h)
  have i10 := fun w h => hT w (inT10 w h)
  unfold f_SS_row at hev
  refine lv_aload_n hx hb dX10_row_0 rfl (lv_at hl 0 rfl) ?_
  refine lv_iload_n hx hb dX10_row_1 rfl (lv_at hl 1 rfl) ?_
  refine lv_iload_n hx hb dX10_row_2 rfl (lv_at hl 2 rfl) ?_
  refine lv_iload_n hx hb dX10_row_3 rfl (lv_at hl 3 rfl) ?_
  obtain ⟨y1, hq, hev⟩ := x_bd hev
  refine roV X (KK_at hKK hS hAb) hR (st1 := [.int y1]) (c_SS_refusal l G aT aT_text aT_told aT_reader aT_rules aT_fromNow aT_whatIf aT_trials aT_undoable aT_keptStates aT_keptDeeds aT_row aT_princes aT_told_kinds aT_told_targets aT_told_wakes aT_told_terms aT_told_sorts aT_told_numbers vT_state vT_deeds vT_told_people vT_told_spells vT_told_day vT_told_broken p1 p2 p3 y1 hq) K_X10_refusal u718 (x_Psub hP [0, 1] rfl) rfl (q0 := 0) rfl (by decide) ⟨Nat.zero_le _, Nat.zero_le _⟩ rfl hl.1 rfl (Nat.le_of_ble_eq_true rfl) rfl dX10_row_4 ?_
  refine lv_istore (lv' := [(4, .int y1), (0, .ref aT), (1, .int p1), (2, .int p2), (3, .int p3)]) hx hb dX10_row_7 hl (by decide) rfl (fun ls hl => ?_)
  refine lv_iload hx hb dX10_row_9 (lv_at hl 0 rfl) ?_
  refine lv_if_eq (tgt := 17) hx hb dX10_row_11 (by decide) (fun c2 => ?_) (fun c2 => ?_)
  · replace hev := x_t c2 hev
    refine lv_aload_n hx hb dX10_row_17 rfl (lv_at hl 1 rfl) ?_
    refine va_get (D := G.1) (ci := 6) (v := .ref aT_row) (C := RX10) (T := TX10) (N := 14) hx hb hts i10 hown hK hP 0 rfl rfl 10 (by decide) (hw _ u426) (fun _ h9 => h9) rfl dX10_row_18 ?_
    refine lv_aload_n hx hb dX10_row_21 rfl (lv_at hl 1 rfl) ?_
    refine va_get (D := G.1) (ci := 6) (v := .ref aT_rules) (C := RX10) (T := TX10) (N := 14) hx hb hts i10 hown hK hP 0 rfl rfl 3 (by decide) (hw _ u419) (fun _ h9 => h9) rfl dX10_row_22 ?_
    refine lv_iload_n hx hb dX10_row_25 rfl (lv_at hl 2 rfl) ?_
    refine lv_iload_n hx hb dX10_row_26 rfl (lv_at hl 3 rfl) ?_
    refine lv_iload_n hx hb dX10_row_27 rfl (lv_at hl 4 rfl) ?_
    obtain ⟨y3, hq, hev⟩ := x_bd hev
    refine roV X (KK_at hKK hS hAb) hR (st1 := [.int y3, .ref aT_row]) (c_Ru_deedOf l G aT_rules aT_rules_masks aT_rules_values aT_rules_askings aT_rules_kissesNeeded aT_rules_wakings aT_rules_binders aT_rules_curses aT_rules_doers aT_rules_sorts aT_rules_whichs aT_rules_bars aT_rules_bits aT_rules_kisses vT_rules_people vT_rules_spells vT_rules_deedCount fT_rules_doers fT_rules_whichs fT_rules_sorts k p1 p2 p3 y3 hq) K_X4_deedOf u726 (x_Psub hP [2, 4, 5, 6] rfl) rfl (q0 := 0) rfl (by decide) ⟨Nat.zero_le _, Nat.zero_le _⟩ rfl hl.1 rfl (Nat.le_of_ble_eq_true rfl) rfl dX10_row_28 ?_
    obtain ⟨⟨y4, w5, w6⟩, hq, hev⟩ := x_bd hev
    refine rwV X (KK_at hKK hS hAb) hR (st1 := [.int y4]) (ws2 := [(aT, .inr (6, [.ref aT_text, .ref aT_told, .ref aT_reader, .ref aT_rules, .ref aT_fromNow, .ref aT_whatIf, .ref aT_trials, .ref aT_undoable, .ref aT_keptStates, .ref aT_keptDeeds, .ref aT_row, .ref aT_princes, .int vT_state, .int vT_deeds])), (aT_told, .inr (4, [.int vT_told_people, .int vT_told_spells, .int vT_told_day, .int vT_told_broken, .ref aT_told_kinds, .ref aT_told_targets, .ref aT_told_wakes, .ref aT_told_terms, .ref aT_told_sorts, .ref aT_told_numbers])), (aT_rules, .inr (2, [.int vT_rules_people, .int vT_rules_spells, .int vT_rules_deedCount, .ref aT_rules_masks, .ref aT_rules_values, .ref aT_rules_askings, .ref aT_rules_kissesNeeded, .ref aT_rules_wakings, .ref aT_rules_binders, .ref aT_rules_curses, .ref aT_rules_doers, .ref aT_rules_sorts, .ref aT_rules_whichs, .ref aT_rules_bars, .ref aT_rules_bits, .ref aT_rules_kisses])), (aT_row, .inr (1, [.ref aT_row_items, .int w5])), (aT_rules_doers, .inl (G.2.1, 19, .inl fT_rules_doers)), (aT_rules_whichs, .inl (G.2.1, 19, .inl fT_rules_whichs)), (aT_rules_sorts, .inl (G.2.1, 19, .inl fT_rules_sorts)), (aT_row_items, .inl (G.2.1, nT_row_items, .inl w6))]) (c_Rw_add l G aT_row aT_row_items vT_row_size fT_row_items nT_row_items y3 y4 w5 w6 hq) K_X3_add u463 hP hD hS hA hAb [3, 7] rfl rfl rfl rfl rfl (q0 := 0) rfl (by decide) ⟨Nat.zero_le _, Nat.zero_le _⟩ rfl hl.1 rfl (Nat.le_of_ble_eq_true rfl) rfl dX10_row_31 (fun H lo hP hD hS => ?_)
    refine lv_if_eq (tgt := 47) hx hb dX10_row_34 (by decide) (fun c7 => ?_) (fun c7 => ?_)
    · replace hev := x_t c7 hev
      refine lv_bipush (v := (-5 : Int32)) hx hb dX10_row_47 (by decide) ?_
      have hq9 := (Option.some.inj hev)
      subst hq9
      exact ret.1 _ _ _ _ _ _ _ rfl rfl dX10_row_49 (show narrow _ (.int (-5 : Int32)) = .int (-5 : Int32) from rfl) hP hD hS
    · replace hev := x_f c7 hev
      refine lv_aload_n hx hb dX10_row_37 rfl (lv_at hl 1 rfl) ?_
      refine va_get (D := G.1) (ci := 6) (v := .ref aT_row) (C := RX10) (T := TX10) (N := 14) hx hb hts i10 hown hK hP 0 rfl rfl 10 (by decide) (hw _ u426) (fun _ h9 => h9) rfl dX10_row_38 ?_
      obtain ⟨y8, hq, hev⟩ := x_bd hev
      refine roV X (KK_at hKK hS hAb) hR (st1 := [.int y8]) (c_Rw_size l G aT_row aT_row_items w5 y8 hq) K_X3_size u467 (x_Psub hP [3] rfl) rfl (q0 := 0) rfl (by decide) ⟨Nat.zero_le _, Nat.zero_le _⟩ rfl hl.1 rfl (Nat.le_of_ble_eq_true rfl) rfl dX10_row_41 ?_
      refine lv_goto (tgt := 49) hx hb dX10_row_44 (by decide) ?_
      have hq9 := (Option.some.inj hev)
      subst hq9
      exact ret.1 _ _ _ _ _ _ _ rfl rfl dX10_row_49 (show narrow _ (.int y8) = .int y8 from rfl) hP hD hS
  · replace hev := x_f c2 hev
    refine lv_iload hx hb dX10_row_14 (lv_at hl 0 rfl) ?_
    have hq9 := (Option.some.inj hev)
    subst hq9
    exact ret.1 _ _ _ _ _ _ _ rfl rfl dX10_row_16 (show narrow _ (.int y1) = .int y1 from rfl) hP hD hS
def f_SS_burn (vT_row_size : Int32) : Option (Int32 × Int32) := x_B (f_Rw_empty vT_row_size) (fun ⟨y1, w2⟩ => some (y1, w2))
set_option maxHeartbeats 8000000 in
set_option maxRecDepth 100000 in
theorem c_SS_burn (l : Launch) (G : GG) (aT aT_text aT_told aT_reader aT_rules aT_fromNow aT_whatIf aT_trials aT_undoable aT_keptStates aT_keptDeeds aT_row aT_princes aT_row_items : Nat) (vT_state : Int32) (vT_deeds : Int32) (vT_row_size : Int32) (r0 : Int32) (wvT_row_size : Int32) (hev : f_SS_burn vT_row_size = some (r0, wvT_row_size)) : RW l G yX10_burn cX10_burn 1 (some .int) 1 [.ref aT] [(aT, .inr (6, [.ref aT_text, .ref aT_told, .ref aT_reader, .ref aT_rules, .ref aT_fromNow, .ref aT_whatIf, .ref aT_trials, .ref aT_undoable, .ref aT_keptStates, .ref aT_keptDeeds, .ref aT_row, .ref aT_princes, .int vT_state, .int vT_deeds])), (aT_row, .inr (1, [.ref aT_row_items, .int vT_row_size]))] (some (.int r0)) [(aT, .inr (6, [.ref aT_text, .ref aT_told, .ref aT_reader, .ref aT_rules, .ref aT_fromNow, .ref aT_whatIf, .ref aT_trials, .ref aT_undoable, .ref aT_keptStates, .ref aT_keptDeeds, .ref aT_row, .ref aT_princes, .int vT_state, .int vT_deeds])), (aT_row, .inr (1, [.ref aT_row_items, .int wvT_row_size]))] 0 0 := by
  refine RW_of (by decide) (Nat.le_of_ble_eq_true rfl) ?_
  intro p e s m ar below meth c R Q A ls X hR hRc hin hP hKK hD hS hA hAb hl ret
  obtain ⟨rs, hrs⟩ : ∃ q, q = (r0, wvT_row_size) := ⟨_, rfl⟩
  rw [← hrs] at hev
  have hr0 : r0 = rs.1 := by rw [hrs]
  have hwvT_row_size : wvT_row_size = rs.2 := by rw [hrs]
  rw [hr0, hwvT_row_size] at ret
  clear hr0 hwvT_row_size hrs r0 wvT_row_size
  have hl : lv_has ls 1 [(0, .ref aT)] := hl
  obtain ⟨hx, hb, hml, hown, hts, hT⟩ := id X
  have hK := hKK.1
  have hw : ∀ w ∈ T0, w.before ar s = true := fun w h => hts w (hT w h)
  have i10 := fun w h => hT w (inT10 w h)
  unfold f_SS_burn at hev
  refine lv_aload_n hx hb dX10_burn_0 rfl (lv_at hl 0 rfl) ?_
  refine va_get (D := G.1) (ci := 6) (v := .ref aT_row) (C := RX10) (T := TX10) (N := 14) hx hb hts i10 hown hK hP 0 rfl rfl 10 (by decide) (hw _ u426) (fun _ h9 => h9) rfl dX10_burn_1 ?_
  obtain ⟨⟨y1, w2⟩, hq, hev⟩ := x_bd hev
  refine rwV X (KK_at hKK hS hAb) hR (st1 := [.int y1]) (ws2 := [(aT, .inr (6, [.ref aT_text, .ref aT_told, .ref aT_reader, .ref aT_rules, .ref aT_fromNow, .ref aT_whatIf, .ref aT_trials, .ref aT_undoable, .ref aT_keptStates, .ref aT_keptDeeds, .ref aT_row, .ref aT_princes, .int vT_state, .int vT_deeds])), (aT_row, .inr (1, [.ref aT_row_items, .int w2]))]) (c_Rw_empty l G aT_row aT_row_items vT_row_size y1 w2 hq) K_X3_empty u406 hP hD hS hA hAb [1] rfl rfl rfl rfl rfl (q0 := 0) rfl (by decide) ⟨Nat.zero_le _, Nat.zero_le _⟩ rfl hl.1 rfl (Nat.le_of_ble_eq_true rfl) rfl dX10_burn_4 (fun H lo hP hD hS => ?_)
  have hq9 := (Option.some.inj hev)
  subst hq9
  exact ret.1 _ _ _ _ _ _ _ rfl rfl dX10_burn_7 (show narrow _ (.int y1) = .int y1 from rfl) hP hD hS
def f_SS_judge_J89 (k : Nat) (nT_row_items : Nat) (vT_row_size : Int32) (vT_rules_deedCount : Int32) (vT_rules_spells : Int32) (vT_state : Int32) (fT_row_items : Nat → Int32) (fT_rules_askings : Nat → Int32) (fT_rules_bars : Nat → Int32) (fT_rules_bits : Nat → Int32) (fT_rules_kisses : Nat → Int32) (fT_rules_kissesNeeded : Nat → Int32) (fT_rules_masks : Nat → Int32) (fT_rules_sorts : Nat → Int32) (fT_rules_values : Nat → Int32) (fT_rules_wakings : Nat → Int32) (x1 : Int32) (x2 : Int32) (x3 : Int32) : Option (Int32) := if x1 = 0 then (some x3) else x_B (f_St_holding x2) (fun y2 => x_B (f_bitCount y2) (fun y3 => some y3))
def f_SS_judge_J83 (rec : Int32 → Int32 → Int32 → Option (Int32 × Int32)) (k : Nat) (nT_row_items : Nat) (vT_row_size : Int32) (vT_rules_deedCount : Int32) (vT_rules_spells : Int32) (vT_state : Int32) (fT_row_items : Nat → Int32) (fT_rules_askings : Nat → Int32) (fT_rules_bars : Nat → Int32) (fT_rules_bits : Nat → Int32) (fT_rules_kisses : Nat → Int32) (fT_rules_kissesNeeded : Nat → Int32) (fT_rules_masks : Nat → Int32) (fT_rules_sorts : Nat → Int32) (fT_rules_values : Nat → Int32) (fT_rules_wakings : Nat → Int32) (x1 : Int32) (x2 : Int32) (x3 : Int32) (x4 : Int32) : Option (Int32 × Int32) := x_L (x4 + (1 : Int32)) (fun y6 => rec x2 x3 y6)
def f_SS_judge_L22 (nT_row_items : Nat) (vT_row_size : Int32) (vT_rules_deedCount : Int32) (vT_rules_spells : Int32) (vT_state : Int32) (fT_row_items : Nat → Int32) (fT_rules_askings : Nat → Int32) (fT_rules_bars : Nat → Int32) (fT_rules_bits : Nat → Int32) (fT_rules_kisses : Nat → Int32) (fT_rules_kissesNeeded : Nat → Int32) (fT_rules_masks : Nat → Int32) (fT_rules_sorts : Nat → Int32) (fT_rules_values : Nat → Int32) (fT_rules_wakings : Nat → Int32) (x1 : Int32) : Nat → Int32 → Int32 → Int32 → Option (Int32 × Int32)
  | 0, _, _, _ => none
  | k + 1, x2, x3, x4 => if (12 : Int32) ≤ x4 then (some (x2, x3)) else x_B (f_Rw_size vT_row_size) (fun y8 => if y8 ≤ x4 then (some (x2, x3)) else if x3 = (-1 : Int32) then (x_B (f_Rw_at nT_row_items vT_row_size fT_row_items x4) (fun y11 => x_B (f_Ru_after k vT_rules_deedCount vT_rules_spells fT_rules_askings fT_rules_bars fT_rules_bits fT_rules_kisses fT_rules_kissesNeeded fT_rules_masks fT_rules_sorts fT_rules_values fT_rules_wakings x2 y11) (fun y12 => if y12 = (-1 : Int32) then (f_SS_judge_J83 (f_SS_judge_L22 nT_row_items vT_row_size vT_rules_deedCount vT_rules_spells vT_state fT_row_items fT_rules_askings fT_rules_bars fT_rules_bits fT_rules_kisses fT_rules_kissesNeeded fT_rules_masks fT_rules_sorts fT_rules_values fT_rules_wakings x1 k) k nT_row_items vT_row_size vT_rules_deedCount vT_rules_spells vT_state fT_row_items fT_rules_askings fT_rules_bars fT_rules_bits fT_rules_kisses fT_rules_kissesNeeded fT_rules_masks fT_rules_sorts fT_rules_values fT_rules_wakings x1 x2 x4 x4) else x_B (f_St_of y12) (fun y14 => f_SS_judge_J83 (f_SS_judge_L22 nT_row_items vT_row_size vT_rules_deedCount vT_rules_spells vT_state fT_row_items fT_rules_askings fT_rules_bars fT_rules_bits fT_rules_kisses fT_rules_kissesNeeded fT_rules_masks fT_rules_sorts fT_rules_values fT_rules_wakings x1 k) k nT_row_items vT_row_size vT_rules_deedCount vT_rules_spells vT_state fT_row_items fT_rules_askings fT_rules_bars fT_rules_bits fT_rules_kisses fT_rules_kissesNeeded fT_rules_masks fT_rules_sorts fT_rules_values fT_rules_wakings x1 y14 x3 x4)))) else some (x2, x3))
def f_SS_judge (k : Nat) (nT_row_items : Nat) (vT_row_size : Int32) (vT_rules_deedCount : Int32) (vT_rules_spells : Int32) (vT_state : Int32) (fT_row_items : Nat → Int32) (fT_rules_askings : Nat → Int32) (fT_rules_bars : Nat → Int32) (fT_rules_bits : Nat → Int32) (fT_rules_kisses : Nat → Int32) (fT_rules_kissesNeeded : Nat → Int32) (fT_rules_masks : Nat → Int32) (fT_rules_sorts : Nat → Int32) (fT_rules_values : Nat → Int32) (fT_rules_wakings : Nat → Int32) (p1 : Int32) : Option (Int32) := if p1 < 0 then (some (-3 : Int32)) else if p1 ≤ (1 : Int32) then (x_B (f_SS_judge_L22 nT_row_items vT_row_size vT_rules_deedCount vT_rules_spells vT_state fT_row_items fT_rules_askings fT_rules_bars fT_rules_bits fT_rules_kisses fT_rules_kissesNeeded fT_rules_masks fT_rules_sorts fT_rules_values fT_rules_wakings p1 k vT_state (-1 : Int32) (0 : Int32)) (fun ⟨y15, y16⟩ => f_SS_judge_J89 k nT_row_items vT_row_size vT_rules_deedCount vT_rules_spells vT_state fT_row_items fT_rules_askings fT_rules_bars fT_rules_bits fT_rules_kisses fT_rules_kissesNeeded fT_rules_masks fT_rules_sorts fT_rules_values fT_rules_wakings p1 y15 y16)) else some (-3 : Int32)
set_option maxHeartbeats 8000000 in
set_option maxRecDepth 100000 in
theorem c_SS_judge (l : Launch) (G : GG) (aT aT_text aT_told aT_reader aT_rules aT_fromNow aT_whatIf aT_trials aT_undoable aT_keptStates aT_keptDeeds aT_row aT_princes aT_row_items aT_rules_masks aT_rules_values aT_rules_askings aT_rules_kissesNeeded aT_rules_wakings aT_rules_binders aT_rules_curses aT_rules_doers aT_rules_sorts aT_rules_whichs aT_rules_bars aT_rules_bits aT_rules_kisses : Nat) (vT_state : Int32) (vT_deeds : Int32) (vT_row_size : Int32) (vT_rules_people : Int32) (vT_rules_spells : Int32) (vT_rules_deedCount : Int32) (fT_row_items : Nat → Int32) (nT_row_items : Nat) (fT_rules_bars : Nat → Int32) (fT_rules_sorts : Nat → Int32) (fT_rules_kisses : Nat → Int32) (fT_rules_masks : Nat → Int32) (fT_rules_values : Nat → Int32) (fT_rules_askings : Nat → Int32) (fT_rules_kissesNeeded : Nat → Int32) (fT_rules_wakings : Nat → Int32) (fT_rules_bits : Nat → Int32) (k : Nat) (p1 : Int32) (r0 : Int32) (hev : f_SS_judge k nT_row_items vT_row_size vT_rules_deedCount vT_rules_spells vT_state fT_row_items fT_rules_askings fT_rules_bars fT_rules_bits fT_rules_kisses fT_rules_kissesNeeded fT_rules_masks fT_rules_sorts fT_rules_values fT_rules_wakings p1 = some r0) : RO l G yX10_judge cX10_judge 6 (some .int) 2 [.ref aT, .int p1] [(aT, .inr (6, [.ref aT_text, .ref aT_told, .ref aT_reader, .ref aT_rules, .ref aT_fromNow, .ref aT_whatIf, .ref aT_trials, .ref aT_undoable, .ref aT_keptStates, .ref aT_keptDeeds, .ref aT_row, .ref aT_princes, .int vT_state, .int vT_deeds])), (aT_row, .inr (1, [.ref aT_row_items, .int vT_row_size])), (aT_rules, .inr (2, [.int vT_rules_people, .int vT_rules_spells, .int vT_rules_deedCount, .ref aT_rules_masks, .ref aT_rules_values, .ref aT_rules_askings, .ref aT_rules_kissesNeeded, .ref aT_rules_wakings, .ref aT_rules_binders, .ref aT_rules_curses, .ref aT_rules_doers, .ref aT_rules_sorts, .ref aT_rules_whichs, .ref aT_rules_bars, .ref aT_rules_bits, .ref aT_rules_kisses])), (aT_row_items, .inl (G.2.1, nT_row_items, .inl fT_row_items)), (aT_rules_bars, .inl (G.2.1, 19, .inl fT_rules_bars)), (aT_rules_sorts, .inl (G.2.1, 19, .inl fT_rules_sorts)), (aT_rules_kisses, .inl (G.2.1, 19, .inl fT_rules_kisses)), (aT_rules_masks, .inl (G.2.1, 5, .inl fT_rules_masks)), (aT_rules_values, .inl (G.2.1, 5, .inl fT_rules_values)), (aT_rules_askings, .inl (G.2.1, 5, .inl fT_rules_askings)), (aT_rules_kissesNeeded, .inl (G.2.1, 5, .inl fT_rules_kissesNeeded)), (aT_rules_wakings, .inl (G.2.1, 5, .inl fT_rules_wakings)), (aT_rules_bits, .inl (G.2.1, 19, .inl fT_rules_bits))] (some (.int r0)) := by
  refine RO_of (by decide) (Nat.le_of_ble_eq_true rfl) ?_
  intro p e s m ar below meth c R Q H ls X hR hP hKK hS0 hl ret
  generalize hrs : r0 = rs at hev ret
  have hl : lv_has ls 6 [(0, .ref aT), (1, .int p1)] := hl
  obtain ⟨hx, hb, hml, hown, hts, hT⟩ := id X
  have hK := hKK.1
  have hw : ∀ w ∈ T0, w.before ar s = true := fun w h => hts w (hT w h)
  have i10 := fun w h => hT w (inT10 w h)
  have J89 : ∀ (x1 : Int32) (x2 : Int32) (x3 : Int32), ∀ (ls : Array Slot), f_SS_judge_J89 k nT_row_items vT_row_size vT_rules_deedCount vT_rules_spells vT_state fT_row_items fT_rules_askings fT_rules_bars fT_rules_bits fT_rules_kisses fT_rules_kissesNeeded fT_rules_masks fT_rules_sorts fT_rules_values fT_rules_wakings x1 x2 x3 = some rs → lv_has ls 6 [(1, .int x1), (2, .int x2), (3, .int x3)] → W p l e R s m ar below meth c H [] 0 0 Q (F0 m 89 ls []) := by
    intro x1 x2 x3 ls hev hl
    unfold f_SS_judge_J89 at hev
    refine lv_iload_n hx hb dX10_judge_89 rfl (lv_at hl 0 rfl) ?_
    refine lv_if_ne (tgt := 97) hx hb dX10_judge_90 (by decide) (fun c1 => ?_) (fun c1 => ?_)
    · replace hev := x_f c1 hev
      refine lv_iload_n hx hb dX10_judge_97 rfl (lv_at hl 1 rfl) ?_
      obtain ⟨y2, hq, hev⟩ := x_bd hev
      refine roS X hKK hR (st1 := [.int y2]) (c_St_holding l G x2 y2 hq) K_X6_holding u919 (x_Psub hP [] rfl) (by decide) ⟨Nat.zero_le _, Nat.zero_le _⟩ rfl hl.1 rfl (Nat.le_of_ble_eq_true rfl) rfl dX10_judge_98 ?_
      obtain ⟨y3, hq, hev⟩ := x_bd hev
      refine roS X hKK hR (st1 := [.int y3]) (c_bitCount l G y2 y3 hq) K_bitCount u885 (fun k q h => by simp at h) (by decide) ⟨Nat.zero_le _, Nat.zero_le _⟩ rfl hl.1 rfl (Nat.le_of_ble_eq_true rfl) rfl dX10_judge_101 ?_
      exact ret _ _ _ dX10_judge_104 ((show narrow _ (.int y3) = .int y3 from rfl).trans (congrArg Value.int (Option.some.inj hev)))
    · replace hev := x_t c1 hev
      refine lv_iload_n hx hb dX10_judge_93 rfl (lv_at hl 2 rfl) ?_
      refine lv_goto (tgt := 104) hx hb dX10_judge_94 (by decide) ?_
      exact ret _ _ _ dX10_judge_104 ((show narrow _ (.int x3) = .int x3 from rfl).trans (congrArg Value.int (Option.some.inj hev)))
  unfold f_SS_judge at hev
  refine lv_iload_n hx hb dX10_judge_0 rfl (lv_at hl 1 rfl) ?_
  refine lv_if_lt (tgt := 9) hx hb dX10_judge_1 (by decide) (fun c4 => ?_) (fun c4 => ?_)
  · replace hev := x_t c4 hev
    refine lv_bipush (v := (-3 : Int32)) hx hb dX10_judge_9 (by decide) ?_
    exact ret _ _ _ dX10_judge_11 ((show narrow _ (.int (-3 : Int32)) = .int (-3 : Int32) from rfl).trans (congrArg Value.int (Option.some.inj hev)))
  · replace hev := x_f c4 hev
    refine lv_iload_n hx hb dX10_judge_4 rfl (lv_at hl 1 rfl) ?_
    refine lv_iconst (v := (1 : Int32)) hx hb dX10_judge_5 (by decide) ?_
    refine lv_icmp_le (tgt := 12) hx hb dX10_judge_6 (by decide) (fun c5 => ?_) (fun c5 => ?_)
    · replace hev := x_t c5 hev
      refine lv_aload_n hx hb dX10_judge_12 rfl (lv_at hl 0 rfl) ?_
      refine va_get (D := G.1) (ci := 6) (v := .int vT_state) (C := RX10) (T := TX10) (N := 14) hx hb hts i10 hown hK hP 0 rfl rfl 12 (by decide) (hw _ u428) (fun _ h9 => h9) rfl dX10_judge_13 ?_
      refine lv_istore_n (lv' := [(2, .int vT_state), (0, .ref aT), (1, .int p1)]) hx hb dX10_judge_16 rfl hl (by decide) rfl (fun ls hl => ?_)
      refine lv_iconst (v := (-1 : Int32)) hx hb dX10_judge_17 (by decide) ?_
      refine lv_istore_n (lv' := [(3, .int (-1 : Int32)), (2, .int vT_state), (0, .ref aT), (1, .int p1)]) hx hb dX10_judge_18 rfl hl (by decide) rfl (fun ls hl => ?_)
      refine lv_iconst (v := (0 : Int32)) hx hb dX10_judge_19 (by decide) ?_
      refine lv_istore (lv' := [(4, .int (0 : Int32)), (3, .int (-1 : Int32)), (2, .int vT_state), (0, .ref aT), (1, .int p1)]) hx hb dX10_judge_20 hl (by decide) rfl (fun ls hl => ?_)
      have L22 : ∀ (x1 : Int32), ∀ (k : Nat) (x2 : Int32) (x3 : Int32) (x4 : Int32) (o2 : Int32) (o3 : Int32), f_SS_judge_L22 nT_row_items vT_row_size vT_rules_deedCount vT_rules_spells vT_state fT_row_items fT_rules_askings fT_rules_bars fT_rules_bits fT_rules_kisses fT_rules_kissesNeeded fT_rules_masks fT_rules_sorts fT_rules_values fT_rules_wakings x1 k x2 x3 x4 = some (o2, o3) → (∀ (ls : Array Slot), lv_has ls 6 [(1, .int x1), (2, .int o2), (3, .int o3)] → W p l e R s m ar below meth c H [] 0 0 Q (F0 m 89 ls [])) → ∀ (ls : Array Slot), lv_has ls 6 [(0, .ref aT), (1, .int x1), (2, .int x2), (3, .int x3), (4, .int x4)] → W p l e R s m ar below meth c H [] 0 0 Q (F0 m 22 ls []) := by
        intro x1 k
        induction k with
        | zero => intro x2 x3 x4 o2 o3 hev; rw [f_SS_judge_L22] at hev; cases hev
        | succ k ih =>
          intro x2 x3 x4 o2 o3 hev hex ls hl
          rw [f_SS_judge_L22] at hev
          have J83 : ∀ (x2 : Int32) (x3 : Int32) (x4 : Int32), ∀ (ls : Array Slot), f_SS_judge_J83 (f_SS_judge_L22 nT_row_items vT_row_size vT_rules_deedCount vT_rules_spells vT_state fT_row_items fT_rules_askings fT_rules_bars fT_rules_bits fT_rules_kisses fT_rules_kissesNeeded fT_rules_masks fT_rules_sorts fT_rules_values fT_rules_wakings x1 k) k nT_row_items vT_row_size vT_rules_deedCount vT_rules_spells vT_state fT_row_items fT_rules_askings fT_rules_bars fT_rules_bits fT_rules_kisses fT_rules_kissesNeeded fT_rules_masks fT_rules_sorts fT_rules_values fT_rules_wakings x1 x2 x3 x4 = some (o2, o3) → lv_has ls 6 [(0, .ref aT), (1, .int x1), (2, .int x2), (3, .int x3), (4, .int x4)] → W p l e R s m ar below meth c H [] 0 0 Q (F0 m 83 ls []) := by
            intro x2 x3 x4 ls hev hl
            unfold f_SS_judge_J83 at hev
            obtain ⟨y6, ey6⟩ : ∃ y : Int32, y = x4 + (1 : Int32) := ⟨_, rfl⟩
            refine lv_iinc (v := y6) (lv' := [(4, .int y6), (0, .ref aT), (1, .int x1), (2, .int x2), (3, .int x3)]) hx hb dX10_judge_83 hl (k := 4) rfl (by rw [ey6]; rfl) (by decide) rfl (fun ls hl => ?_)
            replace hev := x_lt hev y6 ey6
            refine lv_goto (tgt := 22) hx hb dX10_judge_86 (by decide) ?_
            exact ih x2 x3 y6 _ _ hev hex ls (lv_sub hl [1, 2, 3, 4, 0] rfl)
          refine lv_iload hx hb dX10_judge_22 (lv_at hl 4 rfl) ?_
          refine lv_bipush (v := (12 : Int32)) hx hb dX10_judge_24 (by decide) ?_
          refine lv_icmp_ge (tgt := 89) hx hb dX10_judge_26 (by decide) (fun c7 => ?_) (fun c7 => ?_)
          · replace hev := x_t c7 hev
            cases hev
            exact hex ls (lv_sub hl [1, 2, 3] rfl)
          · replace hev := x_f c7 hev
            refine lv_iload hx hb dX10_judge_29 (lv_at hl 4 rfl) ?_
            refine lv_aload_n hx hb dX10_judge_31 rfl (lv_at hl 0 rfl) ?_
            refine va_get (D := G.1) (ci := 6) (v := .ref aT_row) (C := RX10) (T := TX10) (N := 14) hx hb hts i10 hown hK hP 0 rfl rfl 10 (by decide) (hw _ u426) (fun _ h9 => h9) rfl dX10_judge_32 ?_
            obtain ⟨y8, hq, hev⟩ := x_bd hev
            refine roV X hKK hR (st1 := [.int y8, .int x4]) (c_Rw_size l G aT_row aT_row_items vT_row_size y8 hq) K_X3_size u467 (x_Psub hP [1] rfl) rfl (q0 := 0) rfl (by decide) ⟨Nat.zero_le _, Nat.zero_le _⟩ rfl hl.1 rfl (Nat.le_of_ble_eq_true rfl) rfl dX10_judge_35 ?_
            refine lv_icmp_ge (tgt := 89) hx hb dX10_judge_38 (by decide) (fun c9 => ?_) (fun c9 => ?_)
            · replace hev := x_t c9 hev
              cases hev
              exact hex ls (lv_sub hl [1, 2, 3] rfl)
            · replace hev := x_f c9 hev
              refine lv_iload_n hx hb dX10_judge_41 rfl (lv_at hl 3 rfl) ?_
              refine lv_iconst (v := (-1 : Int32)) hx hb dX10_judge_42 (by decide) ?_
              refine lv_icmp_ne (tgt := 89) hx hb dX10_judge_43 (by decide) (fun c10 => ?_) (fun c10 => ?_)
              · replace hev := x_f c10 hev
                cases hev
                exact hex ls (lv_sub hl [1, 2, 3] rfl)
              · replace hev := x_t c10 hev
                refine lv_aload_n hx hb dX10_judge_46 rfl (lv_at hl 0 rfl) ?_
                refine va_get (D := G.1) (ci := 6) (v := .ref aT_rules) (C := RX10) (T := TX10) (N := 14) hx hb hts i10 hown hK hP 0 rfl rfl 3 (by decide) (hw _ u419) (fun _ h9 => h9) rfl dX10_judge_47 ?_
                refine lv_iload_n hx hb dX10_judge_50 rfl (lv_at hl 2 rfl) ?_
                refine lv_aload_n hx hb dX10_judge_51 rfl (lv_at hl 0 rfl) ?_
                refine va_get (D := G.1) (ci := 6) (v := .ref aT_row) (C := RX10) (T := TX10) (N := 14) hx hb hts i10 hown hK hP 0 rfl rfl 10 (by decide) (hw _ u426) (fun _ h9 => h9) rfl dX10_judge_52 ?_
                refine lv_iload hx hb dX10_judge_55 (lv_at hl 4 rfl) ?_
                obtain ⟨y11, hq, hev⟩ := x_bd hev
                refine roV X hKK hR (st1 := [.int y11, .int x2, .ref aT_rules]) (c_Rw_at l G aT_row aT_row_items vT_row_size fT_row_items nT_row_items x4 y11 hq) K_X3_at u766 (x_Psub hP [1, 3] rfl) rfl (q0 := 0) rfl (by decide) ⟨Nat.zero_le _, Nat.zero_le _⟩ rfl hl.1 rfl (Nat.le_of_ble_eq_true rfl) rfl dX10_judge_57 ?_
                obtain ⟨y12, hq, hev⟩ := x_bd hev
                refine roV X hKK hR (st1 := [.int y12]) (c_Ru_after l G aT_rules aT_rules_masks aT_rules_values aT_rules_askings aT_rules_kissesNeeded aT_rules_wakings aT_rules_binders aT_rules_curses aT_rules_doers aT_rules_sorts aT_rules_whichs aT_rules_bars aT_rules_bits aT_rules_kisses vT_rules_people vT_rules_spells vT_rules_deedCount fT_rules_bars fT_rules_sorts fT_rules_kisses fT_rules_masks fT_rules_values fT_rules_askings fT_rules_kissesNeeded fT_rules_wakings fT_rules_bits k x2 y11 y12 hq) K_X4_after u730 (x_Psub hP [2, 4, 5, 6, 7, 8, 9, 10, 11, 12] rfl) rfl (q0 := 0) rfl (by decide) ⟨Nat.zero_le _, Nat.zero_le _⟩ rfl hl.1 rfl (Nat.le_of_ble_eq_true rfl) rfl dX10_judge_60 ?_
                refine lv_istore (lv' := [(5, .int y12), (0, .ref aT), (1, .int x1), (2, .int x2), (3, .int x3), (4, .int x4)]) hx hb dX10_judge_63 hl (by decide) rfl (fun ls hl => ?_)
                refine lv_iload hx hb dX10_judge_65 (lv_at hl 0 rfl) ?_
                refine lv_iconst (v := (-1 : Int32)) hx hb dX10_judge_67 (by decide) ?_
                refine lv_icmp_ne (tgt := 77) hx hb dX10_judge_68 (by decide) (fun c13 => ?_) (fun c13 => ?_)
                · replace hev := x_f c13 hev
                  refine lv_iload hx hb dX10_judge_77 (lv_at hl 0 rfl) ?_
                  obtain ⟨y14, hq, hev⟩ := x_bd hev
                  refine roS X hKK hR (st1 := [.int y14]) (c_St_of l G y12 y14 hq) K_X6_of u755 (x_Psub hP [] rfl) (by decide) ⟨Nat.zero_le _, Nat.zero_le _⟩ rfl hl.1 rfl (Nat.le_of_ble_eq_true rfl) rfl dX10_judge_79 ?_
                  refine lv_istore_n (lv' := [(2, .int y14), (5, .int y12), (0, .ref aT), (1, .int x1), (3, .int x3), (4, .int x4)]) hx hb dX10_judge_82 rfl hl (by decide) rfl (fun ls hl => ?_)
                  exact J83 y14 x3 x4 ls hev (lv_sub hl [2, 3, 0, 4, 5] rfl)
                · replace hev := x_t c13 hev
                  refine lv_iload hx hb dX10_judge_71 (lv_at hl 5 rfl) ?_
                  refine lv_istore_n (lv' := [(3, .int x4), (5, .int y12), (0, .ref aT), (1, .int x1), (2, .int x2), (4, .int x4)]) hx hb dX10_judge_73 rfl hl (by decide) rfl (fun ls hl => ?_)
                  refine lv_goto (tgt := 83) hx hb dX10_judge_74 (by decide) ?_
                  exact J83 x2 x4 x4 ls hev (lv_sub hl [2, 3, 4, 0, 5] rfl)
      obtain ⟨⟨y15, y16⟩, hq, hev⟩ := x_bd hev
      refine L22 p1 k vT_state (-1 : Int32) (0 : Int32) y15 y16 hq (fun ls hl => ?_) ls (lv_sub hl [3, 4, 2, 1, 0] rfl)
      exact J89 p1 y15 y16 ls hev (lv_sub hl [0, 1, 2] rfl)
    · replace hev := x_f c5 hev
      refine lv_bipush (v := (-3 : Int32)) hx hb dX10_judge_9 (by decide) ?_
      exact ret _ _ _ dX10_judge_11 ((show narrow _ (.int (-3 : Int32)) = .int (-3 : Int32) from rfl).trans (congrArg Value.int (Option.some.inj hev)))
def f_SS_prince (k : Nat) (nT_princes_items : Nat) (vT_princes_size : Int32) (vT_rules_deedCount : Int32) (vT_told_people : Int32) (fT_princes_items : Nat → Int32) (fT_rules_doers : Nat → Int32) (fT_rules_sorts : Nat → Int32) (fT_rules_whichs : Nat → Int32) (p1 : Int32) (p2 : Int32) (p3 : Int32) : Option (Int32 × Int32 × (Nat → Int32)) := x_B (f_To_hasPerson vT_told_people p1) (fun y1 => if y1 = 0 then (some ((-2 : Int32), vT_princes_size, fT_princes_items)) else x_B (f_SS_isAnother vT_told_people p1 p3) (fun y3 => if y3 = 0 then (some ((-2 : Int32), vT_princes_size, fT_princes_items)) else if p2 < 0 then (some ((-3 : Int32), vT_princes_size, fT_princes_items)) else if p2 ≤ (6 : Int32) then (x_B (f_Ru_deedOf k vT_rules_deedCount fT_rules_doers fT_rules_sorts fT_rules_whichs p1 (0 : Int32) p3) (fun y7 => x_B (f_Rw_add nT_princes_items vT_princes_size fT_princes_items ((y7 <<< ((3 : Int32) &&& 31)) ||| p2)) (fun ⟨y8, w9, w10⟩ => if y8 = 0 then (some ((-5 : Int32), w9, w10)) else x_B (f_Rw_size w9) (fun y12 => some (y12, w9, w10))))) else some ((-3 : Int32), vT_princes_size, fT_princes_items)))
set_option maxHeartbeats 8000000 in
set_option maxRecDepth 100000 in
theorem c_SS_prince (l : Launch) (G : GG) (aT aT_text aT_told aT_reader aT_rules aT_fromNow aT_whatIf aT_trials aT_undoable aT_keptStates aT_keptDeeds aT_row aT_princes aT_told_kinds aT_told_targets aT_told_wakes aT_told_terms aT_told_sorts aT_told_numbers aT_rules_masks aT_rules_values aT_rules_askings aT_rules_kissesNeeded aT_rules_wakings aT_rules_binders aT_rules_curses aT_rules_doers aT_rules_sorts aT_rules_whichs aT_rules_bars aT_rules_bits aT_rules_kisses aT_princes_items : Nat) (vT_state : Int32) (vT_deeds : Int32) (vT_told_people : Int32) (vT_told_spells : Int32) (vT_told_day : Int32) (vT_told_broken : Int32) (vT_rules_people : Int32) (vT_rules_spells : Int32) (vT_rules_deedCount : Int32) (vT_princes_size : Int32) (fT_rules_doers : Nat → Int32) (fT_rules_whichs : Nat → Int32) (fT_rules_sorts : Nat → Int32) (fT_princes_items : Nat → Int32) (nT_princes_items : Nat) (k : Nat) (p1 : Int32) (p2 : Int32) (p3 : Int32) (r0 : Int32) (wvT_princes_size : Int32) (wfT_princes_items : Nat → Int32) (hev : f_SS_prince k nT_princes_items vT_princes_size vT_rules_deedCount vT_told_people fT_princes_items fT_rules_doers fT_rules_sorts fT_rules_whichs p1 p2 p3 = some (r0, wvT_princes_size, wfT_princes_items)) : RW l G yX10_prince cX10_prince 5 (some .int) 2 [.ref aT, .int p1, .int p2, .int p3] [(aT, .inr (6, [.ref aT_text, .ref aT_told, .ref aT_reader, .ref aT_rules, .ref aT_fromNow, .ref aT_whatIf, .ref aT_trials, .ref aT_undoable, .ref aT_keptStates, .ref aT_keptDeeds, .ref aT_row, .ref aT_princes, .int vT_state, .int vT_deeds])), (aT_told, .inr (4, [.int vT_told_people, .int vT_told_spells, .int vT_told_day, .int vT_told_broken, .ref aT_told_kinds, .ref aT_told_targets, .ref aT_told_wakes, .ref aT_told_terms, .ref aT_told_sorts, .ref aT_told_numbers])), (aT_rules, .inr (2, [.int vT_rules_people, .int vT_rules_spells, .int vT_rules_deedCount, .ref aT_rules_masks, .ref aT_rules_values, .ref aT_rules_askings, .ref aT_rules_kissesNeeded, .ref aT_rules_wakings, .ref aT_rules_binders, .ref aT_rules_curses, .ref aT_rules_doers, .ref aT_rules_sorts, .ref aT_rules_whichs, .ref aT_rules_bars, .ref aT_rules_bits, .ref aT_rules_kisses])), (aT_princes, .inr (1, [.ref aT_princes_items, .int vT_princes_size])), (aT_rules_doers, .inl (G.2.1, 19, .inl fT_rules_doers)), (aT_rules_whichs, .inl (G.2.1, 19, .inl fT_rules_whichs)), (aT_rules_sorts, .inl (G.2.1, 19, .inl fT_rules_sorts)), (aT_princes_items, .inl (G.2.1, nT_princes_items, .inl fT_princes_items))] (some (.int r0)) [(aT, .inr (6, [.ref aT_text, .ref aT_told, .ref aT_reader, .ref aT_rules, .ref aT_fromNow, .ref aT_whatIf, .ref aT_trials, .ref aT_undoable, .ref aT_keptStates, .ref aT_keptDeeds, .ref aT_row, .ref aT_princes, .int vT_state, .int vT_deeds])), (aT_told, .inr (4, [.int vT_told_people, .int vT_told_spells, .int vT_told_day, .int vT_told_broken, .ref aT_told_kinds, .ref aT_told_targets, .ref aT_told_wakes, .ref aT_told_terms, .ref aT_told_sorts, .ref aT_told_numbers])), (aT_rules, .inr (2, [.int vT_rules_people, .int vT_rules_spells, .int vT_rules_deedCount, .ref aT_rules_masks, .ref aT_rules_values, .ref aT_rules_askings, .ref aT_rules_kissesNeeded, .ref aT_rules_wakings, .ref aT_rules_binders, .ref aT_rules_curses, .ref aT_rules_doers, .ref aT_rules_sorts, .ref aT_rules_whichs, .ref aT_rules_bars, .ref aT_rules_bits, .ref aT_rules_kisses])), (aT_princes, .inr (1, [.ref aT_princes_items, .int wvT_princes_size])), (aT_rules_doers, .inl (G.2.1, 19, .inl fT_rules_doers)), (aT_rules_whichs, .inl (G.2.1, 19, .inl fT_rules_whichs)), (aT_rules_sorts, .inl (G.2.1, 19, .inl fT_rules_sorts)), (aT_princes_items, .inl (G.2.1, nT_princes_items, .inl wfT_princes_items))] 0 0 := by
  refine RW_of (by decide) (Nat.le_of_ble_eq_true rfl) ?_
  intro p e s m ar below meth c R Q A ls X hR hRc hin hP hKK hD hS hA hAb hl ret
  obtain ⟨rs, hrs⟩ : ∃ q, q = (r0, wvT_princes_size, wfT_princes_items) := ⟨_, rfl⟩
  rw [← hrs] at hev
  have hr0 : r0 = rs.1 := by rw [hrs]
  have hwvT_princes_size : wvT_princes_size = rs.2.1 := by rw [hrs]
  have hwfT_princes_items : wfT_princes_items = rs.2.2 := by rw [hrs]
  rw [hr0, hwvT_princes_size, hwfT_princes_items] at ret
  clear hr0 hwvT_princes_size hwfT_princes_items hrs r0 wvT_princes_size wfT_princes_items
  have hl : lv_has ls 5 [(0, .ref aT), (1, .int p1), (2, .int p2), (3, .int p3)] := hl
  obtain ⟨hx, hb, hml, hown, hts, hT⟩ := id X
  have hK := hKK.1
  have hw : ∀ w ∈ T0, w.before ar s = true := fun w h => hts w (hT w h)
  have i10 := fun w h => hT w (inT10 w h)
  unfold f_SS_prince at hev
  refine lv_aload_n hx hb dX10_prince_0 rfl (lv_at hl 0 rfl) ?_
  refine va_get (D := G.1) (ci := 6) (v := .ref aT_told) (C := RX10) (T := TX10) (N := 14) hx hb hts i10 hown hK hP 0 rfl rfl 1 (by decide) (hw _ u417) (fun _ h9 => h9) rfl dX10_prince_1 ?_
  refine lv_iload_n hx hb dX10_prince_4 rfl (lv_at hl 1 rfl) ?_
  obtain ⟨y1, hq, hev⟩ := x_bd hev
  refine roV X (KK_at hKK hS hAb) hR (st1 := [.int y1]) (c_To_hasPerson l G aT_told aT_told_kinds aT_told_targets aT_told_wakes aT_told_terms aT_told_sorts aT_told_numbers vT_told_people vT_told_spells vT_told_day vT_told_broken p1 y1 hq) K_X8_hasPerson u649 (x_Psub hP [1] rfl) rfl (q0 := 0) rfl (by decide) ⟨Nat.zero_le _, Nat.zero_le _⟩ rfl hl.1 rfl (Nat.le_of_ble_eq_true rfl) rfl dX10_prince_5 ?_
  refine lv_if_eq (tgt := 20) hx hb dX10_prince_8 (by decide) (fun c2 => ?_) (fun c2 => ?_)
  · replace hev := x_t c2 hev
    refine lv_bipush (v := (-2 : Int32)) hx hb dX10_prince_20 (by decide) ?_
    have hq9 := (Option.some.inj hev)
    subst hq9
    exact ret.1 _ _ _ _ _ _ _ rfl rfl dX10_prince_22 (show narrow _ (.int (-2 : Int32)) = .int (-2 : Int32) from rfl) hP hD hS
  · replace hev := x_f c2 hev
    refine lv_aload_n hx hb dX10_prince_11 rfl (lv_at hl 0 rfl) ?_
    refine lv_iload_n hx hb dX10_prince_12 rfl (lv_at hl 1 rfl) ?_
    refine lv_iload_n hx hb dX10_prince_13 rfl (lv_at hl 3 rfl) ?_
    obtain ⟨y3, hq, hev⟩ := x_bd hev
    refine roV X (KK_at hKK hS hAb) hR (st1 := [.int y3]) (c_SS_isAnother l G aT aT_text aT_told aT_reader aT_rules aT_fromNow aT_whatIf aT_trials aT_undoable aT_keptStates aT_keptDeeds aT_row aT_princes aT_told_kinds aT_told_targets aT_told_wakes aT_told_terms aT_told_sorts aT_told_numbers vT_state vT_deeds vT_told_people vT_told_spells vT_told_day vT_told_broken p1 p3 y3 hq) K_X10_isAnother u722 (x_Psub hP [0, 1] rfl) rfl (q0 := 0) rfl (by decide) ⟨Nat.zero_le _, Nat.zero_le _⟩ rfl hl.1 rfl (Nat.le_of_ble_eq_true rfl) rfl dX10_prince_14 ?_
    refine lv_if_ne (tgt := 23) hx hb dX10_prince_17 (by decide) (fun c4 => ?_) (fun c4 => ?_)
    · replace hev := x_f c4 hev
      refine lv_iload_n hx hb dX10_prince_23 rfl (lv_at hl 2 rfl) ?_
      refine lv_if_lt (tgt := 33) hx hb dX10_prince_24 (by decide) (fun c5 => ?_) (fun c5 => ?_)
      · replace hev := x_t c5 hev
        refine lv_bipush (v := (-3 : Int32)) hx hb dX10_prince_33 (by decide) ?_
        have hq9 := (Option.some.inj hev)
        subst hq9
        exact ret.1 _ _ _ _ _ _ _ rfl rfl dX10_prince_35 (show narrow _ (.int (-3 : Int32)) = .int (-3 : Int32) from rfl) hP hD hS
      · replace hev := x_f c5 hev
        refine lv_iload_n hx hb dX10_prince_27 rfl (lv_at hl 2 rfl) ?_
        refine lv_bipush (v := (6 : Int32)) hx hb dX10_prince_28 (by decide) ?_
        refine lv_icmp_le (tgt := 36) hx hb dX10_prince_30 (by decide) (fun c6 => ?_) (fun c6 => ?_)
        · replace hev := x_t c6 hev
          refine lv_aload_n hx hb dX10_prince_36 rfl (lv_at hl 0 rfl) ?_
          refine va_get (D := G.1) (ci := 6) (v := .ref aT_rules) (C := RX10) (T := TX10) (N := 14) hx hb hts i10 hown hK hP 0 rfl rfl 3 (by decide) (hw _ u419) (fun _ h9 => h9) rfl dX10_prince_37 ?_
          refine lv_iload_n hx hb dX10_prince_40 rfl (lv_at hl 1 rfl) ?_
          refine lv_iconst (v := (0 : Int32)) hx hb dX10_prince_41 (by decide) ?_
          refine lv_iload_n hx hb dX10_prince_42 rfl (lv_at hl 3 rfl) ?_
          obtain ⟨y7, hq, hev⟩ := x_bd hev
          refine roV X (KK_at hKK hS hAb) hR (st1 := [.int y7]) (c_Ru_deedOf l G aT_rules aT_rules_masks aT_rules_values aT_rules_askings aT_rules_kissesNeeded aT_rules_wakings aT_rules_binders aT_rules_curses aT_rules_doers aT_rules_sorts aT_rules_whichs aT_rules_bars aT_rules_bits aT_rules_kisses vT_rules_people vT_rules_spells vT_rules_deedCount fT_rules_doers fT_rules_whichs fT_rules_sorts k p1 (0 : Int32) p3 y7 hq) K_X4_deedOf u726 (x_Psub hP [2, 4, 5, 6] rfl) rfl (q0 := 0) rfl (by decide) ⟨Nat.zero_le _, Nat.zero_le _⟩ rfl hl.1 rfl (Nat.le_of_ble_eq_true rfl) rfl dX10_prince_43 ?_
          refine lv_istore (lv' := [(4, .int y7), (0, .ref aT), (1, .int p1), (2, .int p2), (3, .int p3)]) hx hb dX10_prince_46 hl (by decide) rfl (fun ls hl => ?_)
          refine lv_aload_n hx hb dX10_prince_48 rfl (lv_at hl 1 rfl) ?_
          refine va_get (D := G.1) (ci := 6) (v := .ref aT_princes) (C := RX10) (T := TX10) (N := 14) hx hb hts i10 hown hK hP 0 rfl rfl 11 (by decide) (hw _ u427) (fun _ h9 => h9) rfl dX10_prince_49 ?_
          refine lv_iload hx hb dX10_prince_52 (lv_at hl 0 rfl) ?_
          refine lv_iconst (v := (3 : Int32)) hx hb dX10_prince_54 (by decide) ?_
          refine lv_ishl hx hb dX10_prince_55 ?_
          refine lv_iload_n hx hb dX10_prince_56 rfl (lv_at hl 3 rfl) ?_
          refine lv_ior hx hb dX10_prince_57 ?_
          obtain ⟨⟨y8, w9, w10⟩, hq, hev⟩ := x_bd hev
          refine rwV X (KK_at hKK hS hAb) hR (st1 := [.int y8]) (ws2 := [(aT, .inr (6, [.ref aT_text, .ref aT_told, .ref aT_reader, .ref aT_rules, .ref aT_fromNow, .ref aT_whatIf, .ref aT_trials, .ref aT_undoable, .ref aT_keptStates, .ref aT_keptDeeds, .ref aT_row, .ref aT_princes, .int vT_state, .int vT_deeds])), (aT_told, .inr (4, [.int vT_told_people, .int vT_told_spells, .int vT_told_day, .int vT_told_broken, .ref aT_told_kinds, .ref aT_told_targets, .ref aT_told_wakes, .ref aT_told_terms, .ref aT_told_sorts, .ref aT_told_numbers])), (aT_rules, .inr (2, [.int vT_rules_people, .int vT_rules_spells, .int vT_rules_deedCount, .ref aT_rules_masks, .ref aT_rules_values, .ref aT_rules_askings, .ref aT_rules_kissesNeeded, .ref aT_rules_wakings, .ref aT_rules_binders, .ref aT_rules_curses, .ref aT_rules_doers, .ref aT_rules_sorts, .ref aT_rules_whichs, .ref aT_rules_bars, .ref aT_rules_bits, .ref aT_rules_kisses])), (aT_princes, .inr (1, [.ref aT_princes_items, .int w9])), (aT_rules_doers, .inl (G.2.1, 19, .inl fT_rules_doers)), (aT_rules_whichs, .inl (G.2.1, 19, .inl fT_rules_whichs)), (aT_rules_sorts, .inl (G.2.1, 19, .inl fT_rules_sorts)), (aT_princes_items, .inl (G.2.1, nT_princes_items, .inl w10))]) (c_Rw_add l G aT_princes aT_princes_items vT_princes_size fT_princes_items nT_princes_items ((y7 <<< ((3 : Int32) &&& 31)) ||| p2) y8 w9 w10 hq) K_X3_add u463 hP hD hS hA hAb [3, 7] rfl rfl rfl rfl rfl (q0 := 0) rfl (by decide) ⟨Nat.zero_le _, Nat.zero_le _⟩ rfl hl.1 rfl (Nat.le_of_ble_eq_true rfl) rfl dX10_prince_58 (fun H lo hP hD hS => ?_)
          refine lv_if_eq (tgt := 74) hx hb dX10_prince_61 (by decide) (fun c11 => ?_) (fun c11 => ?_)
          · replace hev := x_t c11 hev
            refine lv_bipush (v := (-5 : Int32)) hx hb dX10_prince_74 (by decide) ?_
            have hq9 := (Option.some.inj hev)
            subst hq9
            exact ret.1 _ _ _ _ _ _ _ rfl rfl dX10_prince_76 (show narrow _ (.int (-5 : Int32)) = .int (-5 : Int32) from rfl) hP hD hS
          · replace hev := x_f c11 hev
            refine lv_aload_n hx hb dX10_prince_64 rfl (lv_at hl 1 rfl) ?_
            refine va_get (D := G.1) (ci := 6) (v := .ref aT_princes) (C := RX10) (T := TX10) (N := 14) hx hb hts i10 hown hK hP 0 rfl rfl 11 (by decide) (hw _ u427) (fun _ h9 => h9) rfl dX10_prince_65 ?_
            obtain ⟨y12, hq, hev⟩ := x_bd hev
            refine roV X (KK_at hKK hS hAb) hR (st1 := [.int y12]) (c_Rw_size l G aT_princes aT_princes_items w9 y12 hq) K_X3_size u467 (x_Psub hP [3] rfl) rfl (q0 := 0) rfl (by decide) ⟨Nat.zero_le _, Nat.zero_le _⟩ rfl hl.1 rfl (Nat.le_of_ble_eq_true rfl) rfl dX10_prince_68 ?_
            refine lv_goto (tgt := 76) hx hb dX10_prince_71 (by decide) ?_
            have hq9 := (Option.some.inj hev)
            subst hq9
            exact ret.1 _ _ _ _ _ _ _ rfl rfl dX10_prince_76 (show narrow _ (.int y12) = .int y12 from rfl) hP hD hS
        · replace hev := x_f c6 hev
          refine lv_bipush (v := (-3 : Int32)) hx hb dX10_prince_33 (by decide) ?_
          have hq9 := (Option.some.inj hev)
          subst hq9
          exact ret.1 _ _ _ _ _ _ _ rfl rfl dX10_prince_35 (show narrow _ (.int (-3 : Int32)) = .int (-3 : Int32) from rfl) hP hD hS
    · replace hev := x_t c4 hev
      refine lv_bipush (v := (-2 : Int32)) hx hb dX10_prince_20 (by decide) ?_
      have hq9 := (Option.some.inj hev)
      subst hq9
      exact ret.1 _ _ _ _ _ _ _ rfl rfl dX10_prince_22 (show narrow _ (.int (-2 : Int32)) = .int (-2 : Int32) from rfl) hP hD hS
def f_SS_dismiss (vT_princes_size : Int32) : Option (Int32 × Int32) := x_B (f_Rw_empty vT_princes_size) (fun ⟨y1, w2⟩ => some (y1, w2))
set_option maxHeartbeats 8000000 in
set_option maxRecDepth 100000 in
theorem c_SS_dismiss (l : Launch) (G : GG) (aT aT_text aT_told aT_reader aT_rules aT_fromNow aT_whatIf aT_trials aT_undoable aT_keptStates aT_keptDeeds aT_row aT_princes aT_princes_items : Nat) (vT_state : Int32) (vT_deeds : Int32) (vT_princes_size : Int32) (r0 : Int32) (wvT_princes_size : Int32) (hev : f_SS_dismiss vT_princes_size = some (r0, wvT_princes_size)) : RW l G yX10_dismiss cX10_dismiss 1 (some .int) 1 [.ref aT] [(aT, .inr (6, [.ref aT_text, .ref aT_told, .ref aT_reader, .ref aT_rules, .ref aT_fromNow, .ref aT_whatIf, .ref aT_trials, .ref aT_undoable, .ref aT_keptStates, .ref aT_keptDeeds, .ref aT_row, .ref aT_princes, .int vT_state, .int vT_deeds])), (aT_princes, .inr (1, [.ref aT_princes_items, .int vT_princes_size]))] (some (.int r0)) [(aT, .inr (6, [.ref aT_text, .ref aT_told, .ref aT_reader, .ref aT_rules, .ref aT_fromNow, .ref aT_whatIf, .ref aT_trials, .ref aT_undoable, .ref aT_keptStates, .ref aT_keptDeeds, .ref aT_row, .ref aT_princes, .int vT_state, .int vT_deeds])), (aT_princes, .inr (1, [.ref aT_princes_items, .int wvT_princes_size]))] 0 0 := by
  refine RW_of (by decide) (Nat.le_of_ble_eq_true rfl) ?_
  intro p e s m ar below meth c R Q A ls X hR hRc hin hP hKK hD hS hA hAb hl ret
  obtain ⟨rs, hrs⟩ : ∃ q, q = (r0, wvT_princes_size) := ⟨_, rfl⟩
  rw [← hrs] at hev
  have hr0 : r0 = rs.1 := by rw [hrs]
  have hwvT_princes_size : wvT_princes_size = rs.2 := by rw [hrs]
  rw [hr0, hwvT_princes_size] at ret
  clear hr0 hwvT_princes_size hrs r0 wvT_princes_size
  have hl : lv_has ls 1 [(0, .ref aT)] := hl
  obtain ⟨hx, hb, hml, hown, hts, hT⟩ := id X
  have hK := hKK.1
  have hw : ∀ w ∈ T0, w.before ar s = true := fun w h => hts w (hT w h)
  have i10 := fun w h => hT w (inT10 w h)
  unfold f_SS_dismiss at hev
  refine lv_aload_n hx hb dX10_dismiss_0 rfl (lv_at hl 0 rfl) ?_
  refine va_get (D := G.1) (ci := 6) (v := .ref aT_princes) (C := RX10) (T := TX10) (N := 14) hx hb hts i10 hown hK hP 0 rfl rfl 11 (by decide) (hw _ u427) (fun _ h9 => h9) rfl dX10_dismiss_1 ?_
  obtain ⟨⟨y1, w2⟩, hq, hev⟩ := x_bd hev
  refine rwV X (KK_at hKK hS hAb) hR (st1 := [.int y1]) (ws2 := [(aT, .inr (6, [.ref aT_text, .ref aT_told, .ref aT_reader, .ref aT_rules, .ref aT_fromNow, .ref aT_whatIf, .ref aT_trials, .ref aT_undoable, .ref aT_keptStates, .ref aT_keptDeeds, .ref aT_row, .ref aT_princes, .int vT_state, .int vT_deeds])), (aT_princes, .inr (1, [.ref aT_princes_items, .int w2]))]) (c_Rw_empty l G aT_princes aT_princes_items vT_princes_size y1 w2 hq) K_X3_empty u406 hP hD hS hA hAb [1] rfl rfl rfl rfl rfl (q0 := 0) rfl (by decide) ⟨Nat.zero_le _, Nat.zero_le _⟩ rfl hl.1 rfl (Nat.le_of_ble_eq_true rfl) rfl dX10_dismiss_4 (fun H lo hP hD hS => ?_)
  have hq9 := (Option.some.inj hev)
  subst hq9
  exact ret.1 _ _ _ _ _ _ _ rfl rfl dX10_dismiss_7 (show narrow _ (.int y1) = .int y1 from rfl) hP hD hS
def f_SS_inLine_J169 (k : Nat) (nT_princes_items : Nat) (vT_princes_size : Int32) (vT_rules_deedCount : Int32) (vT_rules_spells : Int32) (vT_state : Int32) (fT_princes_items : Nat → Int32) (fT_rules_askings : Nat → Int32) (fT_rules_bars : Nat → Int32) (fT_rules_bits : Nat → Int32) (fT_rules_kisses : Nat → Int32) (fT_rules_kissesNeeded : Nat → Int32) (fT_rules_masks : Nat → Int32) (fT_rules_sorts : Nat → Int32) (fT_rules_values : Nat → Int32) (fT_rules_wakings : Nat → Int32) (x1 : Int32) (x3 : Int32) (x4 : Int32) : Option (Int32) := if x1 = 0 then (some x3) else some x4
def f_SS_inLine_J163 (rec : Int32 → Int32 → Int32 → Int32 → Option (Int32 × Int32)) (k : Nat) (nT_princes_items : Nat) (vT_princes_size : Int32) (vT_rules_deedCount : Int32) (vT_rules_spells : Int32) (vT_state : Int32) (fT_princes_items : Nat → Int32) (fT_rules_askings : Nat → Int32) (fT_rules_bars : Nat → Int32) (fT_rules_bits : Nat → Int32) (fT_rules_kisses : Nat → Int32) (fT_rules_kissesNeeded : Nat → Int32) (fT_rules_masks : Nat → Int32) (fT_rules_sorts : Nat → Int32) (fT_rules_values : Nat → Int32) (fT_rules_wakings : Nat → Int32) (x1 : Int32) (x2 : Int32) (x3 : Int32) (x4 : Int32) (x5 : Int32) : Option (Int32 × Int32) := x_L (x5 + (1 : Int32)) (fun y4 => rec x2 x3 x4 y4)
def f_SS_inLine_J119 (rec : Int32 → Int32 → Int32 → Int32 → Option (Int32 × Int32)) (k : Nat) (nT_princes_items : Nat) (vT_princes_size : Int32) (vT_rules_deedCount : Int32) (vT_rules_spells : Int32) (vT_state : Int32) (fT_princes_items : Nat → Int32) (fT_rules_askings : Nat → Int32) (fT_rules_bars : Nat → Int32) (fT_rules_bits : Nat → Int32) (fT_rules_kisses : Nat → Int32) (fT_rules_kissesNeeded : Nat → Int32) (fT_rules_masks : Nat → Int32) (fT_rules_sorts : Nat → Int32) (fT_rules_values : Nat → Int32) (fT_rules_wakings : Nat → Int32) (x1 : Int32) (x2 : Int32) (x3 : Int32) (x4 : Int32) (x5 : Int32) : Option (Int32 × Int32) := x_B (f_Rw_at nT_princes_items vT_princes_size fT_princes_items x5) (fun y5 => x_B (f_Ru_after k vT_rules_deedCount vT_rules_spells fT_rules_askings fT_rules_bars fT_rules_bits fT_rules_kisses fT_rules_kissesNeeded fT_rules_masks fT_rules_sorts fT_rules_values fT_rules_wakings x2 (y5 >>> ((3 : Int32) &&& 31))) (fun y6 => if y6 = (-1 : Int32) then (f_SS_inLine_J163 rec k nT_princes_items vT_princes_size vT_rules_deedCount vT_rules_spells vT_state fT_princes_items fT_rules_askings fT_rules_bars fT_rules_bits fT_rules_kisses fT_rules_kissesNeeded fT_rules_masks fT_rules_sorts fT_rules_values fT_rules_wakings x1 x2 x3 x4 x5) else x_B (f_St_of y6) (fun y8 => x_B (f_St_lifted y6) (fun y9 => x_B (f_bitCount y9) (fun y10 => x_L ((x3 + y10)) (fun y11 => f_SS_inLine_J163 rec k nT_princes_items vT_princes_size vT_rules_deedCount vT_rules_spells vT_state fT_princes_items fT_rules_askings fT_rules_bars fT_rules_bits fT_rules_kisses fT_rules_kissesNeeded fT_rules_masks fT_rules_sorts fT_rules_values fT_rules_wakings x1 y8 y11 x4 x5))))))
def f_SS_inLine_L60 (nT_princes_items : Nat) (vT_princes_size : Int32) (vT_rules_deedCount : Int32) (vT_rules_spells : Int32) (vT_state : Int32) (fT_princes_items : Nat → Int32) (fT_rules_askings : Nat → Int32) (fT_rules_bars : Nat → Int32) (fT_rules_bits : Nat → Int32) (fT_rules_kisses : Nat → Int32) (fT_rules_kissesNeeded : Nat → Int32) (fT_rules_masks : Nat → Int32) (fT_rules_sorts : Nat → Int32) (fT_rules_values : Nat → Int32) (fT_rules_wakings : Nat → Int32) (x1 : Int32) (x5 : Int32) (x6 : Int32) : Nat → Int32 → Int32 → Int32 → Int32 → Option (Int32 × Int32 × Int32)
  | 0, _, _, _, _ => none
  | k + 1, x2, x3, x4, x7 => if (6 : Int32) ≤ x7 then (some (x2, x3, x4)) else x_B (f_St_day x2) (fun y18 => if y18 = x6 then (some (x2, x3, x4)) else x_B (f_Ru_nightDeed vT_rules_deedCount) (fun y20 => x_B (f_Ru_after k vT_rules_deedCount vT_rules_spells fT_rules_askings fT_rules_bars fT_rules_bits fT_rules_kisses fT_rules_kissesNeeded fT_rules_masks fT_rules_sorts fT_rules_values fT_rules_wakings x2 y20) (fun y21 => x_B (f_St_of y21) (fun y22 => x_B (f_St_lifted y21) (fun y23 => x_B (f_bitCount y23) (fun y24 => x_L ((x3 + y24)) (fun y25 => x_L (x4 + (1 : Int32)) (fun y26 => x_L (x7 + (1 : Int32)) (fun y27 => (f_SS_inLine_L60 nT_princes_items vT_princes_size vT_rules_deedCount vT_rules_spells vT_state fT_princes_items fT_rules_askings fT_rules_bars fT_rules_bits fT_rules_kisses fT_rules_kissesNeeded fT_rules_masks fT_rules_sorts fT_rules_values fT_rules_wakings x1 x5 x6 k) y22 y25 y26 y27)))))))))
def f_SS_inLine_L25 (nT_princes_items : Nat) (vT_princes_size : Int32) (vT_rules_deedCount : Int32) (vT_rules_spells : Int32) (vT_state : Int32) (fT_princes_items : Nat → Int32) (fT_rules_askings : Nat → Int32) (fT_rules_bars : Nat → Int32) (fT_rules_bits : Nat → Int32) (fT_rules_kisses : Nat → Int32) (fT_rules_kissesNeeded : Nat → Int32) (fT_rules_masks : Nat → Int32) (fT_rules_sorts : Nat → Int32) (fT_rules_values : Nat → Int32) (fT_rules_wakings : Nat → Int32) (x1 : Int32) : Nat → Int32 → Int32 → Int32 → Int32 → Option (Int32 × Int32)
  | 0, _, _, _, _ => none
  | k + 1, x2, x3, x4, x5 => if (5 : Int32) ≤ x5 then (some (x3, x4)) else x_B (f_Rw_size vT_princes_size) (fun y13 => if y13 ≤ x5 then (some (x3, x4)) else x_B (f_Rw_at nT_princes_items vT_princes_size fT_princes_items x5) (fun y15 => x_L ((y15 &&& (7 : Int32))) (fun y16 => x_B (f_SS_inLine_L60 nT_princes_items vT_princes_size vT_rules_deedCount vT_rules_spells vT_state fT_princes_items fT_rules_askings fT_rules_bars fT_rules_bits fT_rules_kisses fT_rules_kissesNeeded fT_rules_masks fT_rules_sorts fT_rules_values fT_rules_wakings x1 x5 y16 k x2 x3 x4 (0 : Int32)) (fun ⟨y28, y29, y30⟩ => f_SS_inLine_J119 (f_SS_inLine_L25 nT_princes_items vT_princes_size vT_rules_deedCount vT_rules_spells vT_state fT_princes_items fT_rules_askings fT_rules_bars fT_rules_bits fT_rules_kisses fT_rules_kissesNeeded fT_rules_masks fT_rules_sorts fT_rules_values fT_rules_wakings x1 k) k nT_princes_items vT_princes_size vT_rules_deedCount vT_rules_spells vT_state fT_princes_items fT_rules_askings fT_rules_bars fT_rules_bits fT_rules_kisses fT_rules_kissesNeeded fT_rules_masks fT_rules_sorts fT_rules_values fT_rules_wakings x1 y28 y29 y30 x5))))
def f_SS_inLine (k : Nat) (nT_princes_items : Nat) (vT_princes_size : Int32) (vT_rules_deedCount : Int32) (vT_rules_spells : Int32) (vT_state : Int32) (fT_princes_items : Nat → Int32) (fT_rules_askings : Nat → Int32) (fT_rules_bars : Nat → Int32) (fT_rules_bits : Nat → Int32) (fT_rules_kisses : Nat → Int32) (fT_rules_kissesNeeded : Nat → Int32) (fT_rules_masks : Nat → Int32) (fT_rules_sorts : Nat → Int32) (fT_rules_values : Nat → Int32) (fT_rules_wakings : Nat → Int32) (p1 : Int32) : Option (Int32) := if p1 < 0 then (some (-3 : Int32)) else if p1 ≤ (1 : Int32) then (x_B (f_SS_inLine_L25 nT_princes_items vT_princes_size vT_rules_deedCount vT_rules_spells vT_state fT_princes_items fT_rules_askings fT_rules_bars fT_rules_bits fT_rules_kisses fT_rules_kissesNeeded fT_rules_masks fT_rules_sorts fT_rules_values fT_rules_wakings p1 k vT_state (0 : Int32) (0 : Int32) (0 : Int32)) (fun ⟨y31, y32⟩ => f_SS_inLine_J169 k nT_princes_items vT_princes_size vT_rules_deedCount vT_rules_spells vT_state fT_princes_items fT_rules_askings fT_rules_bars fT_rules_bits fT_rules_kisses fT_rules_kissesNeeded fT_rules_masks fT_rules_sorts fT_rules_values fT_rules_wakings p1 y31 y32)) else some (-3 : Int32)
set_option maxHeartbeats 8000000 in
set_option maxRecDepth 100000 in
theorem c_SS_inLine (l : Launch) (G : GG) (aT aT_text aT_told aT_reader aT_rules aT_fromNow aT_whatIf aT_trials aT_undoable aT_keptStates aT_keptDeeds aT_row aT_princes aT_princes_items aT_rules_masks aT_rules_values aT_rules_askings aT_rules_kissesNeeded aT_rules_wakings aT_rules_binders aT_rules_curses aT_rules_doers aT_rules_sorts aT_rules_whichs aT_rules_bars aT_rules_bits aT_rules_kisses : Nat) (vT_state : Int32) (vT_deeds : Int32) (vT_princes_size : Int32) (vT_rules_people : Int32) (vT_rules_spells : Int32) (vT_rules_deedCount : Int32) (fT_princes_items : Nat → Int32) (nT_princes_items : Nat) (fT_rules_bars : Nat → Int32) (fT_rules_sorts : Nat → Int32) (fT_rules_kisses : Nat → Int32) (fT_rules_masks : Nat → Int32) (fT_rules_values : Nat → Int32) (fT_rules_askings : Nat → Int32) (fT_rules_kissesNeeded : Nat → Int32) (fT_rules_wakings : Nat → Int32) (fT_rules_bits : Nat → Int32) (k : Nat) (p1 : Int32) (r0 : Int32) (hev : f_SS_inLine k nT_princes_items vT_princes_size vT_rules_deedCount vT_rules_spells vT_state fT_princes_items fT_rules_askings fT_rules_bars fT_rules_bits fT_rules_kisses fT_rules_kissesNeeded fT_rules_masks fT_rules_sorts fT_rules_values fT_rules_wakings p1 = some r0) : RO l G yX10_inLine cX10_inLine 9 (some .int) 2 [.ref aT, .int p1] [(aT, .inr (6, [.ref aT_text, .ref aT_told, .ref aT_reader, .ref aT_rules, .ref aT_fromNow, .ref aT_whatIf, .ref aT_trials, .ref aT_undoable, .ref aT_keptStates, .ref aT_keptDeeds, .ref aT_row, .ref aT_princes, .int vT_state, .int vT_deeds])), (aT_princes, .inr (1, [.ref aT_princes_items, .int vT_princes_size])), (aT_rules, .inr (2, [.int vT_rules_people, .int vT_rules_spells, .int vT_rules_deedCount, .ref aT_rules_masks, .ref aT_rules_values, .ref aT_rules_askings, .ref aT_rules_kissesNeeded, .ref aT_rules_wakings, .ref aT_rules_binders, .ref aT_rules_curses, .ref aT_rules_doers, .ref aT_rules_sorts, .ref aT_rules_whichs, .ref aT_rules_bars, .ref aT_rules_bits, .ref aT_rules_kisses])), (aT_princes_items, .inl (G.2.1, nT_princes_items, .inl fT_princes_items)), (aT_rules_bars, .inl (G.2.1, 19, .inl fT_rules_bars)), (aT_rules_sorts, .inl (G.2.1, 19, .inl fT_rules_sorts)), (aT_rules_kisses, .inl (G.2.1, 19, .inl fT_rules_kisses)), (aT_rules_masks, .inl (G.2.1, 5, .inl fT_rules_masks)), (aT_rules_values, .inl (G.2.1, 5, .inl fT_rules_values)), (aT_rules_askings, .inl (G.2.1, 5, .inl fT_rules_askings)), (aT_rules_kissesNeeded, .inl (G.2.1, 5, .inl fT_rules_kissesNeeded)), (aT_rules_wakings, .inl (G.2.1, 5, .inl fT_rules_wakings)), (aT_rules_bits, .inl (G.2.1, 19, .inl fT_rules_bits))] (some (.int r0)) := by
  refine RO_of (by decide) (Nat.le_of_ble_eq_true rfl) ?_
  intro p e s m ar below meth c R Q H ls X hR hP hKK hS0 hl ret
  generalize hrs : r0 = rs at hev ret
  have hl : lv_has ls 9 [(0, .ref aT), (1, .int p1)] := hl
  obtain ⟨hx, hb, hml, hown, hts, hT⟩ := id X
  have hK := hKK.1
  have hw : ∀ w ∈ T0, w.before ar s = true := fun w h => hts w (hT w h)
  have i10 := fun w h => hT w (inT10 w h)
  have J169 : ∀ (x1 : Int32) (x3 : Int32) (x4 : Int32), ∀ (ls : Array Slot), f_SS_inLine_J169 k nT_princes_items vT_princes_size vT_rules_deedCount vT_rules_spells vT_state fT_princes_items fT_rules_askings fT_rules_bars fT_rules_bits fT_rules_kisses fT_rules_kissesNeeded fT_rules_masks fT_rules_sorts fT_rules_values fT_rules_wakings x1 x3 x4 = some rs → lv_has ls 9 [(1, .int x1), (3, .int x3), (4, .int x4)] → W p l e R s m ar below meth c H [] 0 0 Q (F0 m 169 ls []) := by
    intro x1 x3 x4 ls hev hl
    unfold f_SS_inLine_J169 at hev
    refine lv_iload_n hx hb dX10_inLine_169 rfl (lv_at hl 0 rfl) ?_
    refine lv_if_ne (tgt := 177) hx hb dX10_inLine_170 (by decide) (fun c1 => ?_) (fun c1 => ?_)
    · replace hev := x_f c1 hev
      refine lv_iload hx hb dX10_inLine_177 (lv_at hl 2 rfl) ?_
      exact ret _ _ _ dX10_inLine_179 ((show narrow _ (.int x4) = .int x4 from rfl).trans (congrArg Value.int (Option.some.inj hev)))
    · replace hev := x_t c1 hev
      refine lv_iload_n hx hb dX10_inLine_173 rfl (lv_at hl 1 rfl) ?_
      refine lv_goto (tgt := 179) hx hb dX10_inLine_174 (by decide) ?_
      exact ret _ _ _ dX10_inLine_179 ((show narrow _ (.int x3) = .int x3 from rfl).trans (congrArg Value.int (Option.some.inj hev)))
  unfold f_SS_inLine at hev
  refine lv_iload_n hx hb dX10_inLine_0 rfl (lv_at hl 1 rfl) ?_
  refine lv_if_lt (tgt := 9) hx hb dX10_inLine_1 (by decide) (fun c2 => ?_) (fun c2 => ?_)
  · replace hev := x_t c2 hev
    refine lv_bipush (v := (-3 : Int32)) hx hb dX10_inLine_9 (by decide) ?_
    exact ret _ _ _ dX10_inLine_11 ((show narrow _ (.int (-3 : Int32)) = .int (-3 : Int32) from rfl).trans (congrArg Value.int (Option.some.inj hev)))
  · replace hev := x_f c2 hev
    refine lv_iload_n hx hb dX10_inLine_4 rfl (lv_at hl 1 rfl) ?_
    refine lv_iconst (v := (1 : Int32)) hx hb dX10_inLine_5 (by decide) ?_
    refine lv_icmp_le (tgt := 12) hx hb dX10_inLine_6 (by decide) (fun c3 => ?_) (fun c3 => ?_)
    · replace hev := x_t c3 hev
      refine lv_aload_n hx hb dX10_inLine_12 rfl (lv_at hl 0 rfl) ?_
      refine va_get (D := G.1) (ci := 6) (v := .int vT_state) (C := RX10) (T := TX10) (N := 14) hx hb hts i10 hown hK hP 0 rfl rfl 12 (by decide) (hw _ u428) (fun _ h9 => h9) rfl dX10_inLine_13 ?_
      refine lv_istore_n (lv' := [(2, .int vT_state), (0, .ref aT), (1, .int p1)]) hx hb dX10_inLine_16 rfl hl (by decide) rfl (fun ls hl => ?_)
      refine lv_iconst (v := (0 : Int32)) hx hb dX10_inLine_17 (by decide) ?_
      refine lv_istore_n (lv' := [(3, .int (0 : Int32)), (2, .int vT_state), (0, .ref aT), (1, .int p1)]) hx hb dX10_inLine_18 rfl hl (by decide) rfl (fun ls hl => ?_)
      refine lv_iconst (v := (0 : Int32)) hx hb dX10_inLine_19 (by decide) ?_
      refine lv_istore (lv' := [(4, .int (0 : Int32)), (3, .int (0 : Int32)), (2, .int vT_state), (0, .ref aT), (1, .int p1)]) hx hb dX10_inLine_20 hl (by decide) rfl (fun ls hl => ?_)
      refine lv_iconst (v := (0 : Int32)) hx hb dX10_inLine_22 (by decide) ?_
      refine lv_istore (lv' := [(5, .int (0 : Int32)), (4, .int (0 : Int32)), (3, .int (0 : Int32)), (2, .int vT_state), (0, .ref aT), (1, .int p1)]) hx hb dX10_inLine_23 hl (by decide) rfl (fun ls hl => ?_)
      have L25 : ∀ (x1 : Int32), ∀ (k : Nat) (x2 : Int32) (x3 : Int32) (x4 : Int32) (x5 : Int32) (o3 : Int32) (o4 : Int32), f_SS_inLine_L25 nT_princes_items vT_princes_size vT_rules_deedCount vT_rules_spells vT_state fT_princes_items fT_rules_askings fT_rules_bars fT_rules_bits fT_rules_kisses fT_rules_kissesNeeded fT_rules_masks fT_rules_sorts fT_rules_values fT_rules_wakings x1 k x2 x3 x4 x5 = some (o3, o4) → (∀ (ls : Array Slot), lv_has ls 9 [(1, .int x1), (3, .int o3), (4, .int o4)] → W p l e R s m ar below meth c H [] 0 0 Q (F0 m 169 ls [])) → ∀ (ls : Array Slot), lv_has ls 9 [(0, .ref aT), (1, .int x1), (2, .int x2), (3, .int x3), (4, .int x4), (5, .int x5)] → W p l e R s m ar below meth c H [] 0 0 Q (F0 m 25 ls []) := by
        intro x1 k
        induction k with
        | zero => intro x2 x3 x4 x5 o3 o4 hev; rw [f_SS_inLine_L25] at hev; cases hev
        | succ k ih =>
          intro x2 x3 x4 x5 o3 o4 hev hex ls hl
          rw [f_SS_inLine_L25] at hev
          have J163 : ∀ (x2 : Int32) (x3 : Int32) (x4 : Int32) (x5 : Int32), ∀ (ls : Array Slot), f_SS_inLine_J163 (f_SS_inLine_L25 nT_princes_items vT_princes_size vT_rules_deedCount vT_rules_spells vT_state fT_princes_items fT_rules_askings fT_rules_bars fT_rules_bits fT_rules_kisses fT_rules_kissesNeeded fT_rules_masks fT_rules_sorts fT_rules_values fT_rules_wakings x1 k) k nT_princes_items vT_princes_size vT_rules_deedCount vT_rules_spells vT_state fT_princes_items fT_rules_askings fT_rules_bars fT_rules_bits fT_rules_kisses fT_rules_kissesNeeded fT_rules_masks fT_rules_sorts fT_rules_values fT_rules_wakings x1 x2 x3 x4 x5 = some (o3, o4) → lv_has ls 9 [(0, .ref aT), (1, .int x1), (2, .int x2), (3, .int x3), (4, .int x4), (5, .int x5)] → W p l e R s m ar below meth c H [] 0 0 Q (F0 m 163 ls []) := by
            intro x2 x3 x4 x5 ls hev hl
            unfold f_SS_inLine_J163 at hev
            obtain ⟨y4, ey4⟩ : ∃ y : Int32, y = x5 + (1 : Int32) := ⟨_, rfl⟩
            refine lv_iinc (v := y4) (lv' := [(5, .int y4), (0, .ref aT), (1, .int x1), (2, .int x2), (3, .int x3), (4, .int x4)]) hx hb dX10_inLine_163 hl (k := 5) rfl (by rw [ey4]; rfl) (by decide) rfl (fun ls hl => ?_)
            replace hev := x_lt hev y4 ey4
            refine lv_goto (tgt := 25) hx hb dX10_inLine_166 (by decide) ?_
            exact ih x2 x3 x4 y4 _ _ hev hex ls (lv_sub hl [1, 2, 3, 4, 5, 0] rfl)
          have J119 : ∀ (x2 : Int32) (x3 : Int32) (x4 : Int32) (x5 : Int32), ∀ (ls : Array Slot), f_SS_inLine_J119 (f_SS_inLine_L25 nT_princes_items vT_princes_size vT_rules_deedCount vT_rules_spells vT_state fT_princes_items fT_rules_askings fT_rules_bars fT_rules_bits fT_rules_kisses fT_rules_kissesNeeded fT_rules_masks fT_rules_sorts fT_rules_values fT_rules_wakings x1 k) k nT_princes_items vT_princes_size vT_rules_deedCount vT_rules_spells vT_state fT_princes_items fT_rules_askings fT_rules_bars fT_rules_bits fT_rules_kisses fT_rules_kissesNeeded fT_rules_masks fT_rules_sorts fT_rules_values fT_rules_wakings x1 x2 x3 x4 x5 = some (o3, o4) → lv_has ls 9 [(0, .ref aT), (1, .int x1), (2, .int x2), (3, .int x3), (4, .int x4), (5, .int x5)] → W p l e R s m ar below meth c H [] 0 0 Q (F0 m 119 ls []) := by
            intro x2 x3 x4 x5 ls hev hl
            unfold f_SS_inLine_J119 at hev
            refine lv_aload_n hx hb dX10_inLine_119 rfl (lv_at hl 0 rfl) ?_
            refine va_get (D := G.1) (ci := 6) (v := .ref aT_rules) (C := RX10) (T := TX10) (N := 14) hx hb hts i10 hown hK hP 0 rfl rfl 3 (by decide) (hw _ u419) (fun _ h9 => h9) rfl dX10_inLine_120 ?_
            refine lv_iload_n hx hb dX10_inLine_123 rfl (lv_at hl 2 rfl) ?_
            refine lv_aload_n hx hb dX10_inLine_124 rfl (lv_at hl 0 rfl) ?_
            refine va_get (D := G.1) (ci := 6) (v := .ref aT_princes) (C := RX10) (T := TX10) (N := 14) hx hb hts i10 hown hK hP 0 rfl rfl 11 (by decide) (hw _ u427) (fun _ h9 => h9) rfl dX10_inLine_125 ?_
            refine lv_iload hx hb dX10_inLine_128 (lv_at hl 5 rfl) ?_
            obtain ⟨y5, hq, hev⟩ := x_bd hev
            refine roV X hKK hR (st1 := [.int y5, .int x2, .ref aT_rules]) (c_Rw_at l G aT_princes aT_princes_items vT_princes_size fT_princes_items nT_princes_items x5 y5 hq) K_X3_at u766 (x_Psub hP [1, 3] rfl) rfl (q0 := 0) rfl (by decide) ⟨Nat.zero_le _, Nat.zero_le _⟩ rfl hl.1 rfl (Nat.le_of_ble_eq_true rfl) rfl dX10_inLine_130 ?_
            refine lv_iconst (v := (3 : Int32)) hx hb dX10_inLine_133 (by decide) ?_
            refine lv_ishr hx hb dX10_inLine_134 ?_
            obtain ⟨y6, hq, hev⟩ := x_bd hev
            refine roV X hKK hR (st1 := [.int y6]) (c_Ru_after l G aT_rules aT_rules_masks aT_rules_values aT_rules_askings aT_rules_kissesNeeded aT_rules_wakings aT_rules_binders aT_rules_curses aT_rules_doers aT_rules_sorts aT_rules_whichs aT_rules_bars aT_rules_bits aT_rules_kisses vT_rules_people vT_rules_spells vT_rules_deedCount fT_rules_bars fT_rules_sorts fT_rules_kisses fT_rules_masks fT_rules_values fT_rules_askings fT_rules_kissesNeeded fT_rules_wakings fT_rules_bits k x2 (y5 >>> ((3 : Int32) &&& 31)) y6 hq) K_X4_after u730 (x_Psub hP [2, 4, 5, 6, 7, 8, 9, 10, 11, 12] rfl) rfl (q0 := 0) rfl (by decide) ⟨Nat.zero_le _, Nat.zero_le _⟩ rfl hl.1 rfl (Nat.le_of_ble_eq_true rfl) rfl dX10_inLine_135 ?_
            refine lv_istore (lv' := [(7, .int y6), (0, .ref aT), (1, .int x1), (2, .int x2), (3, .int x3), (4, .int x4), (5, .int x5)]) hx hb dX10_inLine_138 hl (by decide) rfl (fun ls hl => ?_)
            refine lv_iload hx hb dX10_inLine_140 (lv_at hl 0 rfl) ?_
            refine lv_iconst (v := (-1 : Int32)) hx hb dX10_inLine_142 (by decide) ?_
            refine lv_icmp_eq (tgt := 163) hx hb dX10_inLine_143 (by decide) (fun c7 => ?_) (fun c7 => ?_)
            · replace hev := x_t c7 hev
              exact J163 x2 x3 x4 x5 ls hev (lv_sub hl [1, 2, 3, 4, 5, 6] rfl)
            · replace hev := x_f c7 hev
              refine lv_iload hx hb dX10_inLine_146 (lv_at hl 0 rfl) ?_
              obtain ⟨y8, hq, hev⟩ := x_bd hev
              refine roS X hKK hR (st1 := [.int y8]) (c_St_of l G y6 y8 hq) K_X6_of u755 (x_Psub hP [] rfl) (by decide) ⟨Nat.zero_le _, Nat.zero_le _⟩ rfl hl.1 rfl (Nat.le_of_ble_eq_true rfl) rfl dX10_inLine_148 ?_
              refine lv_istore_n (lv' := [(2, .int y8), (7, .int y6), (0, .ref aT), (1, .int x1), (3, .int x3), (4, .int x4), (5, .int x5)]) hx hb dX10_inLine_151 rfl hl (by decide) rfl (fun ls hl => ?_)
              refine lv_iload_n hx hb dX10_inLine_152 rfl (lv_at hl 4 rfl) ?_
              refine lv_iload hx hb dX10_inLine_153 (lv_at hl 1 rfl) ?_
              obtain ⟨y9, hq, hev⟩ := x_bd hev
              refine roS X hKK hR (st1 := [.int y9, .int x3]) (c_St_lifted l G y6 y9 hq) K_X6_lifted u759 (x_Psub hP [] rfl) (by decide) ⟨Nat.zero_le _, Nat.zero_le _⟩ rfl hl.1 rfl (Nat.le_of_ble_eq_true rfl) rfl dX10_inLine_155 ?_
              obtain ⟨y10, hq, hev⟩ := x_bd hev
              refine roS X hKK hR (st1 := [.int y10, .int x3]) (c_bitCount l G y9 y10 hq) K_bitCount u885 (fun k q h => by simp at h) (by decide) ⟨Nat.zero_le _, Nat.zero_le _⟩ rfl hl.1 rfl (Nat.le_of_ble_eq_true rfl) rfl dX10_inLine_158 ?_
              refine lv_iadd hx hb dX10_inLine_161 ?_
              refine lv_topi (fun y11 ey11 => ?_)
              replace hev := x_lt hev y11 ey11
              refine lv_istore_n (lv' := [(3, .int y11), (2, .int y8), (7, .int y6), (0, .ref aT), (1, .int x1), (4, .int x4), (5, .int x5)]) hx hb dX10_inLine_162 rfl hl (by decide) rfl (fun ls hl => ?_)
              exact J163 y8 y11 x4 x5 ls hev (lv_sub hl [3, 4, 1, 0, 5, 6] rfl)
          refine lv_iload hx hb dX10_inLine_25 (lv_at hl 5 rfl) ?_
          refine lv_iconst (v := (5 : Int32)) hx hb dX10_inLine_27 (by decide) ?_
          refine lv_icmp_ge (tgt := 169) hx hb dX10_inLine_28 (by decide) (fun c12 => ?_) (fun c12 => ?_)
          · replace hev := x_t c12 hev
            cases hev
            exact hex ls (lv_sub hl [1, 3, 4] rfl)
          · replace hev := x_f c12 hev
            refine lv_iload hx hb dX10_inLine_31 (lv_at hl 5 rfl) ?_
            refine lv_aload_n hx hb dX10_inLine_33 rfl (lv_at hl 0 rfl) ?_
            refine va_get (D := G.1) (ci := 6) (v := .ref aT_princes) (C := RX10) (T := TX10) (N := 14) hx hb hts i10 hown hK hP 0 rfl rfl 11 (by decide) (hw _ u427) (fun _ h9 => h9) rfl dX10_inLine_34 ?_
            obtain ⟨y13, hq, hev⟩ := x_bd hev
            refine roV X hKK hR (st1 := [.int y13, .int x5]) (c_Rw_size l G aT_princes aT_princes_items vT_princes_size y13 hq) K_X3_size u467 (x_Psub hP [1] rfl) rfl (q0 := 0) rfl (by decide) ⟨Nat.zero_le _, Nat.zero_le _⟩ rfl hl.1 rfl (Nat.le_of_ble_eq_true rfl) rfl dX10_inLine_37 ?_
            refine lv_icmp_ge (tgt := 169) hx hb dX10_inLine_40 (by decide) (fun c14 => ?_) (fun c14 => ?_)
            · replace hev := x_t c14 hev
              cases hev
              exact hex ls (lv_sub hl [1, 3, 4] rfl)
            · replace hev := x_f c14 hev
              refine lv_aload_n hx hb dX10_inLine_43 rfl (lv_at hl 0 rfl) ?_
              refine va_get (D := G.1) (ci := 6) (v := .ref aT_princes) (C := RX10) (T := TX10) (N := 14) hx hb hts i10 hown hK hP 0 rfl rfl 11 (by decide) (hw _ u427) (fun _ h9 => h9) rfl dX10_inLine_44 ?_
              refine lv_iload hx hb dX10_inLine_47 (lv_at hl 5 rfl) ?_
              obtain ⟨y15, hq, hev⟩ := x_bd hev
              refine roV X hKK hR (st1 := [.int y15]) (c_Rw_at l G aT_princes aT_princes_items vT_princes_size fT_princes_items nT_princes_items x5 y15 hq) K_X3_at u766 (x_Psub hP [1, 3] rfl) rfl (q0 := 0) rfl (by decide) ⟨Nat.zero_le _, Nat.zero_le _⟩ rfl hl.1 rfl (Nat.le_of_ble_eq_true rfl) rfl dX10_inLine_49 ?_
              refine lv_bipush (v := (7 : Int32)) hx hb dX10_inLine_52 (by decide) ?_
              refine lv_iand hx hb dX10_inLine_54 ?_
              refine lv_topi (fun y16 ey16 => ?_)
              replace hev := x_lt hev y16 ey16
              refine lv_istore (lv' := [(6, .int y16), (0, .ref aT), (1, .int x1), (2, .int x2), (3, .int x3), (4, .int x4), (5, .int x5)]) hx hb dX10_inLine_55 hl (by decide) rfl (fun ls hl => ?_)
              refine lv_iconst (v := (0 : Int32)) hx hb dX10_inLine_57 (by decide) ?_
              refine lv_istore (lv' := [(7, .int (0 : Int32)), (6, .int y16), (0, .ref aT), (1, .int x1), (2, .int x2), (3, .int x3), (4, .int x4), (5, .int x5)]) hx hb dX10_inLine_58 hl (by decide) rfl (fun ls hl => ?_)
              have L60 : ∀ (x1 : Int32) (x5 : Int32) (x6 : Int32), ∀ (k : Nat) (x2 : Int32) (x3 : Int32) (x4 : Int32) (x7 : Int32) (o2 : Int32) (o3 : Int32) (o4 : Int32), f_SS_inLine_L60 nT_princes_items vT_princes_size vT_rules_deedCount vT_rules_spells vT_state fT_princes_items fT_rules_askings fT_rules_bars fT_rules_bits fT_rules_kisses fT_rules_kissesNeeded fT_rules_masks fT_rules_sorts fT_rules_values fT_rules_wakings x1 x5 x6 k x2 x3 x4 x7 = some (o2, o3, o4) → (∀ (ls : Array Slot), lv_has ls 9 [(0, .ref aT), (1, .int x1), (2, .int o2), (3, .int o3), (4, .int o4), (5, .int x5)] → W p l e R s m ar below meth c H [] 0 0 Q (F0 m 119 ls [])) → ∀ (ls : Array Slot), lv_has ls 9 [(0, .ref aT), (1, .int x1), (2, .int x2), (3, .int x3), (4, .int x4), (5, .int x5), (6, .int x6), (7, .int x7)] → W p l e R s m ar below meth c H [] 0 0 Q (F0 m 60 ls []) := by
                intro x1 x5 x6 k
                induction k with
                | zero => intro x2 x3 x4 x7 o2 o3 o4 hev; rw [f_SS_inLine_L60] at hev; cases hev
                | succ k ih =>
                  intro x2 x3 x4 x7 o2 o3 o4 hev hex ls hl
                  rw [f_SS_inLine_L60] at hev
                  refine lv_iload hx hb dX10_inLine_60 (lv_at hl 7 rfl) ?_
                  refine lv_bipush (v := (6 : Int32)) hx hb dX10_inLine_62 (by decide) ?_
                  refine lv_icmp_ge (tgt := 119) hx hb dX10_inLine_64 (by decide) (fun c17 => ?_) (fun c17 => ?_)
                  · replace hev := x_t c17 hev
                    cases hev
                    exact hex ls (lv_sub hl [0, 1, 2, 3, 4, 5] rfl)
                  · replace hev := x_f c17 hev
                    refine lv_iload_n hx hb dX10_inLine_67 rfl (lv_at hl 2 rfl) ?_
                    obtain ⟨y18, hq, hev⟩ := x_bd hev
                    refine roS X hKK hR (st1 := [.int y18]) (c_St_day l G x2 y18 hq) K_X6_day u976 (x_Psub hP [] rfl) (by decide) ⟨Nat.zero_le _, Nat.zero_le _⟩ rfl hl.1 rfl (Nat.le_of_ble_eq_true rfl) rfl dX10_inLine_68 ?_
                    refine lv_iload hx hb dX10_inLine_71 (lv_at hl 6 rfl) ?_
                    refine lv_icmp_eq (tgt := 119) hx hb dX10_inLine_73 (by decide) (fun c19 => ?_) (fun c19 => ?_)
                    · replace hev := x_t c19 hev
                      cases hev
                      exact hex ls (lv_sub hl [0, 1, 2, 3, 4, 5] rfl)
                    · replace hev := x_f c19 hev
                      refine lv_aload_n hx hb dX10_inLine_76 rfl (lv_at hl 0 rfl) ?_
                      refine va_get (D := G.1) (ci := 6) (v := .ref aT_rules) (C := RX10) (T := TX10) (N := 14) hx hb hts i10 hown hK hP 0 rfl rfl 3 (by decide) (hw _ u419) (fun _ h9 => h9) rfl dX10_inLine_77 ?_
                      refine lv_iload_n hx hb dX10_inLine_80 rfl (lv_at hl 2 rfl) ?_
                      refine lv_aload_n hx hb dX10_inLine_81 rfl (lv_at hl 0 rfl) ?_
                      refine va_get (D := G.1) (ci := 6) (v := .ref aT_rules) (C := RX10) (T := TX10) (N := 14) hx hb hts i10 hown hK hP 0 rfl rfl 3 (by decide) (hw _ u419) (fun _ h9 => h9) rfl dX10_inLine_82 ?_
                      obtain ⟨y20, hq, hev⟩ := x_bd hev
                      refine roV X hKK hR (st1 := [.int y20, .int x2, .ref aT_rules]) (c_Ru_nightDeed l G aT_rules aT_rules_masks aT_rules_values aT_rules_askings aT_rules_kissesNeeded aT_rules_wakings aT_rules_binders aT_rules_curses aT_rules_doers aT_rules_sorts aT_rules_whichs aT_rules_bars aT_rules_bits aT_rules_kisses vT_rules_people vT_rules_spells vT_rules_deedCount y20 hq) K_X4_nightDeed u979 (x_Psub hP [2] rfl) rfl (q0 := 0) rfl (by decide) ⟨Nat.zero_le _, Nat.zero_le _⟩ rfl hl.1 rfl (Nat.le_of_ble_eq_true rfl) rfl dX10_inLine_85 ?_
                      obtain ⟨y21, hq, hev⟩ := x_bd hev
                      refine roV X hKK hR (st1 := [.int y21]) (c_Ru_after l G aT_rules aT_rules_masks aT_rules_values aT_rules_askings aT_rules_kissesNeeded aT_rules_wakings aT_rules_binders aT_rules_curses aT_rules_doers aT_rules_sorts aT_rules_whichs aT_rules_bars aT_rules_bits aT_rules_kisses vT_rules_people vT_rules_spells vT_rules_deedCount fT_rules_bars fT_rules_sorts fT_rules_kisses fT_rules_masks fT_rules_values fT_rules_askings fT_rules_kissesNeeded fT_rules_wakings fT_rules_bits k x2 y20 y21 hq) K_X4_after u730 (x_Psub hP [2, 4, 5, 6, 7, 8, 9, 10, 11, 12] rfl) rfl (q0 := 0) rfl (by decide) ⟨Nat.zero_le _, Nat.zero_le _⟩ rfl hl.1 rfl (Nat.le_of_ble_eq_true rfl) rfl dX10_inLine_88 ?_
                      refine lv_istore (lv' := [(8, .int y21), (0, .ref aT), (1, .int x1), (2, .int x2), (3, .int x3), (4, .int x4), (5, .int x5), (6, .int x6), (7, .int x7)]) hx hb dX10_inLine_91 hl (by decide) rfl (fun ls hl => ?_)
                      refine lv_iload hx hb dX10_inLine_93 (lv_at hl 0 rfl) ?_
                      obtain ⟨y22, hq, hev⟩ := x_bd hev
                      refine roS X hKK hR (st1 := [.int y22]) (c_St_of l G y21 y22 hq) K_X6_of u755 (x_Psub hP [] rfl) (by decide) ⟨Nat.zero_le _, Nat.zero_le _⟩ rfl hl.1 rfl (Nat.le_of_ble_eq_true rfl) rfl dX10_inLine_95 ?_
                      refine lv_istore_n (lv' := [(2, .int y22), (8, .int y21), (0, .ref aT), (1, .int x1), (3, .int x3), (4, .int x4), (5, .int x5), (6, .int x6), (7, .int x7)]) hx hb dX10_inLine_98 rfl hl (by decide) rfl (fun ls hl => ?_)
                      refine lv_iload_n hx hb dX10_inLine_99 rfl (lv_at hl 4 rfl) ?_
                      refine lv_iload hx hb dX10_inLine_100 (lv_at hl 1 rfl) ?_
                      obtain ⟨y23, hq, hev⟩ := x_bd hev
                      refine roS X hKK hR (st1 := [.int y23, .int x3]) (c_St_lifted l G y21 y23 hq) K_X6_lifted u759 (x_Psub hP [] rfl) (by decide) ⟨Nat.zero_le _, Nat.zero_le _⟩ rfl hl.1 rfl (Nat.le_of_ble_eq_true rfl) rfl dX10_inLine_102 ?_
                      obtain ⟨y24, hq, hev⟩ := x_bd hev
                      refine roS X hKK hR (st1 := [.int y24, .int x3]) (c_bitCount l G y23 y24 hq) K_bitCount u885 (fun k q h => by simp at h) (by decide) ⟨Nat.zero_le _, Nat.zero_le _⟩ rfl hl.1 rfl (Nat.le_of_ble_eq_true rfl) rfl dX10_inLine_105 ?_
                      refine lv_iadd hx hb dX10_inLine_108 ?_
                      refine lv_topi (fun y25 ey25 => ?_)
                      replace hev := x_lt hev y25 ey25
                      refine lv_istore_n (lv' := [(3, .int y25), (2, .int y22), (8, .int y21), (0, .ref aT), (1, .int x1), (4, .int x4), (5, .int x5), (6, .int x6), (7, .int x7)]) hx hb dX10_inLine_109 rfl hl (by decide) rfl (fun ls hl => ?_)
                      obtain ⟨y26, ey26⟩ : ∃ y : Int32, y = x4 + (1 : Int32) := ⟨_, rfl⟩
                      refine lv_iinc (v := y26) (lv' := [(4, .int y26), (3, .int y25), (2, .int y22), (8, .int y21), (0, .ref aT), (1, .int x1), (5, .int x5), (6, .int x6), (7, .int x7)]) hx hb dX10_inLine_110 hl (k := 5) rfl (by rw [ey26]; rfl) (by decide) rfl (fun ls hl => ?_)
                      replace hev := x_lt hev y26 ey26
                      obtain ⟨y27, ey27⟩ : ∃ y : Int32, y = x7 + (1 : Int32) := ⟨_, rfl⟩
                      refine lv_iinc (v := y27) (lv' := [(7, .int y27), (4, .int y26), (3, .int y25), (2, .int y22), (8, .int y21), (0, .ref aT), (1, .int x1), (5, .int x5), (6, .int x6)]) hx hb dX10_inLine_113 hl (k := 8) rfl (by rw [ey27]; rfl) (by decide) rfl (fun ls hl => ?_)
                      replace hev := x_lt hev y27 ey27
                      refine lv_goto (tgt := 60) hx hb dX10_inLine_116 (by decide) ?_
                      exact ih y22 y25 y26 y27 _ _ _ hev hex ls (lv_sub hl [5, 6, 3, 2, 1, 7, 8, 0] rfl)
              obtain ⟨⟨y28, y29, y30⟩, hq, hev⟩ := x_bd hev
              refine L60 x1 x5 y16 k x2 x3 x4 (0 : Int32) y28 y29 y30 hq (fun ls hl => ?_) ls (lv_sub hl [2, 3, 4, 5, 6, 7, 1, 0] rfl)
              exact J119 y28 y29 y30 x5 ls hev (lv_sub hl [0, 1, 2, 3, 4, 5] rfl)
      obtain ⟨⟨y31, y32⟩, hq, hev⟩ := x_bd hev
      refine L25 p1 k vT_state (0 : Int32) (0 : Int32) (0 : Int32) y31 y32 hq (fun ls hl => ?_) ls (lv_sub hl [4, 5, 3, 2, 1, 0] rfl)
      exact J169 p1 y31 y32 ls hev (lv_sub hl [0, 1, 2] rfl)
    · replace hev := x_f c3 hev
      refine lv_bipush (v := (-3 : Int32)) hx hb dX10_inLine_9 (by decide) ?_
      exact ret _ _ _ dX10_inLine_11 ((show narrow _ (.int (-3 : Int32)) = .int (-3 : Int32) from rfl).trans (congrArg Value.int (Option.some.inj hev)))
def f_SS_tried_J19 (nT_trials_trials_items : Nat) (vT_told_people : Int32) (vT_trials_lifted : Int32) (vT_trials_trials_size : Int32) (fT_trials_trials_items : Nat → Int32) (x1 : Int32) (x2 : Int32) (x3 : Int32) (x4 : Int32) (x5 : Int32) : Option (Int32 × Int32 × Int32 × (Nat → Int32)) := x_B (f_To_everybody vT_told_people) (fun y1 => if (x2 &&& (y1 ^^^ (-1 : Int32))) = 0 then (if x4 < 0 then (some ((-2 : Int32), vT_trials_lifted, vT_trials_trials_size, fT_trials_trials_items)) else if x4 < (4 : Int32) then (if x3 < 0 then (some ((-3 : Int32), vT_trials_lifted, vT_trials_trials_size, fT_trials_trials_items)) else if (6 : Int32) < x3 then (some ((-3 : Int32), vT_trials_lifted, vT_trials_trials_size, fT_trials_trials_items)) else if x5 < 0 then (some ((-3 : Int32), vT_trials_lifted, vT_trials_trials_size, fT_trials_trials_items)) else if x5 ≤ (1 : Int32) then (x_B (f_Tr_packed x1 x2 x3 x4) (fun y9 => x_B (f_Tr_add nT_trials_trials_items vT_trials_lifted vT_trials_trials_size fT_trials_trials_items y9 x5) (fun ⟨y10, w11, w12, w13⟩ => if y10 = 0 then (some ((-5 : Int32), w11, w12, w13)) else x_B (f_Tr_size w12) (fun y15 => some (y15, w11, w12, w13))))) else some ((-3 : Int32), vT_trials_lifted, vT_trials_trials_size, fT_trials_trials_items)) else some ((-2 : Int32), vT_trials_lifted, vT_trials_trials_size, fT_trials_trials_items)) else some ((-2 : Int32), vT_trials_lifted, vT_trials_trials_size, fT_trials_trials_items))
def f_SS_tried (nT_trials_trials_items : Nat) (vT_told_people : Int32) (vT_trials_lifted : Int32) (vT_trials_trials_size : Int32) (fT_trials_trials_items : Nat → Int32) (p1 : Int32) (p2 : Int32) (p3 : Int32) (p4 : Int32) (p5 : Int32) : Option (Int32 × Int32 × Int32 × (Nat → Int32)) := if p1 = (-1 : Int32) then (f_SS_tried_J19 nT_trials_trials_items vT_told_people vT_trials_lifted vT_trials_trials_size fT_trials_trials_items p1 p2 p3 p4 p5) else x_B (f_To_hasPerson vT_told_people p1) (fun y17 => if y17 = 0 then (some ((-2 : Int32), vT_trials_lifted, vT_trials_trials_size, fT_trials_trials_items)) else f_SS_tried_J19 nT_trials_trials_items vT_told_people vT_trials_lifted vT_trials_trials_size fT_trials_trials_items p1 p2 p3 p4 p5)
set_option maxHeartbeats 8000000 in
set_option maxRecDepth 100000 in
theorem c_SS_tried (l : Launch) (G : GG) (aT aT_text aT_told aT_reader aT_rules aT_fromNow aT_whatIf aT_trials aT_undoable aT_keptStates aT_keptDeeds aT_row aT_princes aT_told_kinds aT_told_targets aT_told_wakes aT_told_terms aT_told_sorts aT_told_numbers aT_trials_trials aT_trials_so aT_trials_trials_items : Nat) (vT_state : Int32) (vT_deeds : Int32) (vT_told_people : Int32) (vT_told_spells : Int32) (vT_told_day : Int32) (vT_told_broken : Int32) (vT_trials_lifted : Int32) (vT_trials_people : Int32) (vT_trials_trials_size : Int32) (fT_trials_trials_items : Nat → Int32) (nT_trials_trials_items : Nat) (p1 : Int32) (p2 : Int32) (p3 : Int32) (p4 : Int32) (p5 : Int32) (r0 : Int32) (wvT_trials_lifted : Int32) (wvT_trials_trials_size : Int32) (wfT_trials_trials_items : Nat → Int32) (hev : f_SS_tried nT_trials_trials_items vT_told_people vT_trials_lifted vT_trials_trials_size fT_trials_trials_items p1 p2 p3 p4 p5 = some (r0, wvT_trials_lifted, wvT_trials_trials_size, wfT_trials_trials_items)) : RW l G yX10_tried cX10_tried 7 (some .int) 2 [.ref aT, .int p1, .int p2, .int p3, .int p4, .int p5] [(aT, .inr (6, [.ref aT_text, .ref aT_told, .ref aT_reader, .ref aT_rules, .ref aT_fromNow, .ref aT_whatIf, .ref aT_trials, .ref aT_undoable, .ref aT_keptStates, .ref aT_keptDeeds, .ref aT_row, .ref aT_princes, .int vT_state, .int vT_deeds])), (aT_told, .inr (4, [.int vT_told_people, .int vT_told_spells, .int vT_told_day, .int vT_told_broken, .ref aT_told_kinds, .ref aT_told_targets, .ref aT_told_wakes, .ref aT_told_terms, .ref aT_told_sorts, .ref aT_told_numbers])), (aT_trials, .inr (5, [.ref aT_trials_trials, .int vT_trials_lifted, .ref aT_trials_so, .int vT_trials_people])), (aT_trials_trials, .inr (1, [.ref aT_trials_trials_items, .int vT_trials_trials_size])), (aT_trials_trials_items, .inl (G.2.1, nT_trials_trials_items, .inl fT_trials_trials_items))] (some (.int r0)) [(aT, .inr (6, [.ref aT_text, .ref aT_told, .ref aT_reader, .ref aT_rules, .ref aT_fromNow, .ref aT_whatIf, .ref aT_trials, .ref aT_undoable, .ref aT_keptStates, .ref aT_keptDeeds, .ref aT_row, .ref aT_princes, .int vT_state, .int vT_deeds])), (aT_told, .inr (4, [.int vT_told_people, .int vT_told_spells, .int vT_told_day, .int vT_told_broken, .ref aT_told_kinds, .ref aT_told_targets, .ref aT_told_wakes, .ref aT_told_terms, .ref aT_told_sorts, .ref aT_told_numbers])), (aT_trials, .inr (5, [.ref aT_trials_trials, .int wvT_trials_lifted, .ref aT_trials_so, .int vT_trials_people])), (aT_trials_trials, .inr (1, [.ref aT_trials_trials_items, .int wvT_trials_trials_size])), (aT_trials_trials_items, .inl (G.2.1, nT_trials_trials_items, .inl wfT_trials_trials_items))] 0 0 := by
  refine RW_of (by decide) (Nat.le_of_ble_eq_true rfl) ?_
  intro p e s m ar below meth c R Q A ls X hR hRc hin hP hKK hD hS hA hAb hl ret
  obtain ⟨rs, hrs⟩ : ∃ q, q = (r0, wvT_trials_lifted, wvT_trials_trials_size, wfT_trials_trials_items) := ⟨_, rfl⟩
  rw [← hrs] at hev
  have hr0 : r0 = rs.1 := by rw [hrs]
  have hwvT_trials_lifted : wvT_trials_lifted = rs.2.1 := by rw [hrs]
  have hwvT_trials_trials_size : wvT_trials_trials_size = rs.2.2.1 := by rw [hrs]
  have hwfT_trials_trials_items : wfT_trials_trials_items = rs.2.2.2 := by rw [hrs]
  rw [hr0, hwvT_trials_lifted, hwvT_trials_trials_size, hwfT_trials_trials_items] at ret
  clear hr0 hwvT_trials_lifted hwvT_trials_trials_size hwfT_trials_trials_items hrs r0 wvT_trials_lifted wvT_trials_trials_size wfT_trials_trials_items
  have hl : lv_has ls 7 [(0, .ref aT), (1, .int p1), (2, .int p2), (3, .int p3), (4, .int p4), (5, .int p5)] := hl
  obtain ⟨hx, hb, hml, hown, hts, hT⟩ := id X
  have hK := hKK.1
  have hw : ∀ w ∈ T0, w.before ar s = true := fun w h => hts w (hT w h)
  have i10 := fun w h => hT w (inT10 w h)
  have J19 : ∀ (vT_trials_lifted : Int32) (vT_trials_trials_size : Int32) (fT_trials_trials_items : Nat → Int32) (x1 : Int32) (x2 : Int32) (x3 : Int32) (x4 : Int32) (x5 : Int32), ∀ (H : Heap) (lo : List Loc), va_P G.1 classes [(aT, .inr (6, [.ref aT_text, .ref aT_told, .ref aT_reader, .ref aT_rules, .ref aT_fromNow, .ref aT_whatIf, .ref aT_trials, .ref aT_undoable, .ref aT_keptStates, .ref aT_keptDeeds, .ref aT_row, .ref aT_princes, .int vT_state, .int vT_deeds])), (aT_told, .inr (4, [.int vT_told_people, .int vT_told_spells, .int vT_told_day, .int vT_told_broken, .ref aT_told_kinds, .ref aT_told_targets, .ref aT_told_wakes, .ref aT_told_terms, .ref aT_told_sorts, .ref aT_told_numbers])), (aT_trials, .inr (5, [.ref aT_trials_trials, .int vT_trials_lifted, .ref aT_trials_so, .int vT_trials_people])), (aT_trials_trials, .inr (1, [.ref aT_trials_trials_items, .int vT_trials_trials_size])), (aT_trials_trials_items, .inl (G.2.1, nT_trials_trials_items, .inl fT_trials_trials_items))] H → va_D A [(aT, .inr (6, [.ref aT_text, .ref aT_told, .ref aT_reader, .ref aT_rules, .ref aT_fromNow, .ref aT_whatIf, .ref aT_trials, .ref aT_undoable, .ref aT_keptStates, .ref aT_keptDeeds, .ref aT_row, .ref aT_princes, .int vT_state, .int vT_deeds])), (aT_told, .inr (4, [.int vT_told_people, .int vT_told_spells, .int vT_told_day, .int vT_told_broken, .ref aT_told_kinds, .ref aT_told_targets, .ref aT_told_wakes, .ref aT_told_terms, .ref aT_told_sorts, .ref aT_told_numbers])), (aT_trials, .inr (5, [.ref aT_trials_trials, .int vT_trials_lifted, .ref aT_trials_so, .int vT_trials_people])), (aT_trials_trials, .inr (1, [.ref aT_trials_trials_items, .int vT_trials_trials_size])), (aT_trials_trials_items, .inl (G.2.1, nT_trials_trials_items, .inl fT_trials_trials_items))] → va_S A s.heap H lo → ∀ (ls : Array Slot), f_SS_tried_J19 nT_trials_trials_items vT_told_people vT_trials_lifted vT_trials_trials_size fT_trials_trials_items x1 x2 x3 x4 x5 = some rs → lv_has ls 7 [(0, .ref aT), (1, .int x1), (2, .int x2), (3, .int x3), (4, .int x4), (5, .int x5)] → W p l e R s m ar below meth c H lo 0 0 Q (F0 m 19 ls []) := by
    intro vT_trials_lifted vT_trials_trials_size fT_trials_trials_items x1 x2 x3 x4 x5 H lo hP hD hS ls hev hl
    unfold f_SS_tried_J19 at hev
    refine lv_iload_n hx hb dX10_tried_19 rfl (lv_at hl 2 rfl) ?_
    refine lv_aload_n hx hb dX10_tried_20 rfl (lv_at hl 0 rfl) ?_
    refine va_get (D := G.1) (ci := 6) (v := .ref aT_told) (C := RX10) (T := TX10) (N := 14) hx hb hts i10 hown hK hP 0 rfl rfl 1 (by decide) (hw _ u417) (fun _ h9 => h9) rfl dX10_tried_21 ?_
    obtain ⟨y1, hq, hev⟩ := x_bd hev
    refine roV X (KK_at hKK hS hAb) hR (st1 := [.int y1, .int x2]) (c_To_everybody l G aT_told aT_told_kinds aT_told_targets aT_told_wakes aT_told_terms aT_told_sorts aT_told_numbers vT_told_people vT_told_spells vT_told_day vT_told_broken y1 hq) K_X8_everybody u788 (x_Psub hP [1] rfl) rfl (q0 := 0) rfl (by decide) ⟨Nat.zero_le _, Nat.zero_le _⟩ rfl hl.1 rfl (Nat.le_of_ble_eq_true rfl) rfl dX10_tried_24 ?_
    refine lv_iconst (v := (-1 : Int32)) hx hb dX10_tried_27 (by decide) ?_
    refine lv_ixor hx hb dX10_tried_28 ?_
    refine lv_iand hx hb dX10_tried_29 ?_
    refine lv_if_ne (tgt := 44) hx hb dX10_tried_30 (by decide) (fun c2 => ?_) (fun c2 => ?_)
    · replace hev := x_f c2 hev
      refine lv_bipush (v := (-2 : Int32)) hx hb dX10_tried_44 (by decide) ?_
      have hq9 := (Option.some.inj hev)
      subst hq9
      exact ret.1 _ _ _ _ _ _ _ rfl rfl dX10_tried_46 (show narrow _ (.int (-2 : Int32)) = .int (-2 : Int32) from rfl) hP hD hS
    · replace hev := x_t c2 hev
      refine lv_iload hx hb dX10_tried_33 (lv_at hl 4 rfl) ?_
      refine lv_if_lt (tgt := 44) hx hb dX10_tried_35 (by decide) (fun c3 => ?_) (fun c3 => ?_)
      · replace hev := x_t c3 hev
        refine lv_bipush (v := (-2 : Int32)) hx hb dX10_tried_44 (by decide) ?_
        have hq9 := (Option.some.inj hev)
        subst hq9
        exact ret.1 _ _ _ _ _ _ _ rfl rfl dX10_tried_46 (show narrow _ (.int (-2 : Int32)) = .int (-2 : Int32) from rfl) hP hD hS
      · replace hev := x_f c3 hev
        refine lv_iload hx hb dX10_tried_38 (lv_at hl 4 rfl) ?_
        refine lv_iconst (v := (4 : Int32)) hx hb dX10_tried_40 (by decide) ?_
        refine lv_icmp_lt (tgt := 47) hx hb dX10_tried_41 (by decide) (fun c4 => ?_) (fun c4 => ?_)
        · replace hev := x_t c4 hev
          refine lv_iload_n hx hb dX10_tried_47 rfl (lv_at hl 3 rfl) ?_
          refine lv_if_lt (tgt := 68) hx hb dX10_tried_48 (by decide) (fun c5 => ?_) (fun c5 => ?_)
          · replace hev := x_t c5 hev
            refine lv_bipush (v := (-3 : Int32)) hx hb dX10_tried_68 (by decide) ?_
            have hq9 := (Option.some.inj hev)
            subst hq9
            exact ret.1 _ _ _ _ _ _ _ rfl rfl dX10_tried_70 (show narrow _ (.int (-3 : Int32)) = .int (-3 : Int32) from rfl) hP hD hS
          · replace hev := x_f c5 hev
            refine lv_iload_n hx hb dX10_tried_51 rfl (lv_at hl 3 rfl) ?_
            refine lv_bipush (v := (6 : Int32)) hx hb dX10_tried_52 (by decide) ?_
            refine lv_icmp_gt (tgt := 68) hx hb dX10_tried_54 (by decide) (fun c6 => ?_) (fun c6 => ?_)
            · replace hev := x_t c6 hev
              refine lv_bipush (v := (-3 : Int32)) hx hb dX10_tried_68 (by decide) ?_
              have hq9 := (Option.some.inj hev)
              subst hq9
              exact ret.1 _ _ _ _ _ _ _ rfl rfl dX10_tried_70 (show narrow _ (.int (-3 : Int32)) = .int (-3 : Int32) from rfl) hP hD hS
            · replace hev := x_f c6 hev
              refine lv_iload hx hb dX10_tried_57 (lv_at hl 5 rfl) ?_
              refine lv_if_lt (tgt := 68) hx hb dX10_tried_59 (by decide) (fun c7 => ?_) (fun c7 => ?_)
              · replace hev := x_t c7 hev
                refine lv_bipush (v := (-3 : Int32)) hx hb dX10_tried_68 (by decide) ?_
                have hq9 := (Option.some.inj hev)
                subst hq9
                exact ret.1 _ _ _ _ _ _ _ rfl rfl dX10_tried_70 (show narrow _ (.int (-3 : Int32)) = .int (-3 : Int32) from rfl) hP hD hS
              · replace hev := x_f c7 hev
                refine lv_iload hx hb dX10_tried_62 (lv_at hl 5 rfl) ?_
                refine lv_iconst (v := (1 : Int32)) hx hb dX10_tried_64 (by decide) ?_
                refine lv_icmp_le (tgt := 71) hx hb dX10_tried_65 (by decide) (fun c8 => ?_) (fun c8 => ?_)
                · replace hev := x_t c8 hev
                  refine lv_iload_n hx hb dX10_tried_71 rfl (lv_at hl 1 rfl) ?_
                  refine lv_iload_n hx hb dX10_tried_72 rfl (lv_at hl 2 rfl) ?_
                  refine lv_iload_n hx hb dX10_tried_73 rfl (lv_at hl 3 rfl) ?_
                  refine lv_iload hx hb dX10_tried_74 (lv_at hl 4 rfl) ?_
                  obtain ⟨y9, hq, hev⟩ := x_bd hev
                  refine roS X (KK_at hKK hS hAb) hR (st1 := [.int y9]) (c_Tr_packed l G x1 x2 x3 x4 y9 hq) K_X9_packed u984 (x_Psub hP [] rfl) (by decide) ⟨Nat.zero_le _, Nat.zero_le _⟩ rfl hl.1 rfl (Nat.le_of_ble_eq_true rfl) rfl dX10_tried_76 ?_
                  refine lv_istore (lv' := [(6, .int y9), (0, .ref aT), (1, .int x1), (2, .int x2), (3, .int x3), (4, .int x4), (5, .int x5)]) hx hb dX10_tried_79 hl (by decide) rfl (fun ls hl => ?_)
                  refine lv_aload_n hx hb dX10_tried_81 rfl (lv_at hl 1 rfl) ?_
                  refine va_get (D := G.1) (ci := 6) (v := .ref aT_trials) (C := RX10) (T := TX10) (N := 14) hx hb hts i10 hown hK hP 0 rfl rfl 6 (by decide) (hw _ u422) (fun _ h9 => h9) rfl dX10_tried_82 ?_
                  refine lv_iload hx hb dX10_tried_85 (lv_at hl 0 rfl) ?_
                  refine lv_iload hx hb dX10_tried_87 (lv_at hl 6 rfl) ?_
                  obtain ⟨⟨y10, w11, w12, w13⟩, hq, hev⟩ := x_bd hev
                  refine rwV X (KK_at hKK hS hAb) hR (st1 := [.int y10]) (ws2 := [(aT, .inr (6, [.ref aT_text, .ref aT_told, .ref aT_reader, .ref aT_rules, .ref aT_fromNow, .ref aT_whatIf, .ref aT_trials, .ref aT_undoable, .ref aT_keptStates, .ref aT_keptDeeds, .ref aT_row, .ref aT_princes, .int vT_state, .int vT_deeds])), (aT_told, .inr (4, [.int vT_told_people, .int vT_told_spells, .int vT_told_day, .int vT_told_broken, .ref aT_told_kinds, .ref aT_told_targets, .ref aT_told_wakes, .ref aT_told_terms, .ref aT_told_sorts, .ref aT_told_numbers])), (aT_trials, .inr (5, [.ref aT_trials_trials, .int w11, .ref aT_trials_so, .int vT_trials_people])), (aT_trials_trials, .inr (1, [.ref aT_trials_trials_items, .int w12])), (aT_trials_trials_items, .inl (G.2.1, nT_trials_trials_items, .inl w13))]) (c_Tr_add l G aT_trials aT_trials_trials aT_trials_so aT_trials_trials_items vT_trials_lifted vT_trials_people vT_trials_trials_size fT_trials_trials_items nT_trials_trials_items y9 x5 y10 w11 w12 w13 hq) K_X9_add u987 hP hD hS hA hAb [2, 3, 4] rfl rfl rfl rfl rfl (q0 := 0) rfl (by decide) ⟨Nat.zero_le _, Nat.zero_le _⟩ rfl hl.1 rfl (Nat.le_of_ble_eq_true rfl) rfl dX10_tried_89 (fun H lo hP hD hS => ?_)
                  refine lv_if_eq (tgt := 105) hx hb dX10_tried_92 (by decide) (fun c14 => ?_) (fun c14 => ?_)
                  · replace hev := x_t c14 hev
                    refine lv_bipush (v := (-5 : Int32)) hx hb dX10_tried_105 (by decide) ?_
                    have hq9 := (Option.some.inj hev)
                    subst hq9
                    exact ret.1 _ _ _ _ _ _ _ rfl rfl dX10_tried_107 (show narrow _ (.int (-5 : Int32)) = .int (-5 : Int32) from rfl) hP hD hS
                  · replace hev := x_f c14 hev
                    refine lv_aload_n hx hb dX10_tried_95 rfl (lv_at hl 1 rfl) ?_
                    refine va_get (D := G.1) (ci := 6) (v := .ref aT_trials) (C := RX10) (T := TX10) (N := 14) hx hb hts i10 hown hK hP 0 rfl rfl 6 (by decide) (hw _ u422) (fun _ h9 => h9) rfl dX10_tried_96 ?_
                    obtain ⟨y15, hq, hev⟩ := x_bd hev
                    refine roV X (KK_at hKK hS hAb) hR (st1 := [.int y15]) (c_Tr_size l G aT_trials aT_trials_trials aT_trials_so aT_trials_trials_items w11 vT_trials_people w12 y15 hq) K_X9_size u993 (x_Psub hP [2, 3] rfl) rfl (q0 := 0) rfl (by decide) ⟨Nat.zero_le _, Nat.zero_le _⟩ rfl hl.1 rfl (Nat.le_of_ble_eq_true rfl) rfl dX10_tried_99 ?_
                    refine lv_goto (tgt := 107) hx hb dX10_tried_102 (by decide) ?_
                    have hq9 := (Option.some.inj hev)
                    subst hq9
                    exact ret.1 _ _ _ _ _ _ _ rfl rfl dX10_tried_107 (show narrow _ (.int y15) = .int y15 from rfl) hP hD hS
                · replace hev := x_f c8 hev
                  refine lv_bipush (v := (-3 : Int32)) hx hb dX10_tried_68 (by decide) ?_
                  have hq9 := (Option.some.inj hev)
                  subst hq9
                  exact ret.1 _ _ _ _ _ _ _ rfl rfl dX10_tried_70 (show narrow _ (.int (-3 : Int32)) = .int (-3 : Int32) from rfl) hP hD hS
        · replace hev := x_f c4 hev
          refine lv_bipush (v := (-2 : Int32)) hx hb dX10_tried_44 (by decide) ?_
          have hq9 := (Option.some.inj hev)
          subst hq9
          exact ret.1 _ _ _ _ _ _ _ rfl rfl dX10_tried_46 (show narrow _ (.int (-2 : Int32)) = .int (-2 : Int32) from rfl) hP hD hS
  unfold f_SS_tried at hev
  refine lv_iload_n hx hb dX10_tried_0 rfl (lv_at hl 1 rfl) ?_
  refine lv_iconst (v := (-1 : Int32)) hx hb dX10_tried_1 (by decide) ?_
  refine lv_icmp_eq (tgt := 19) hx hb dX10_tried_2 (by decide) (fun c16 => ?_) (fun c16 => ?_)
  · replace hev := x_t c16 hev
    exact J19 vT_trials_lifted vT_trials_trials_size fT_trials_trials_items p1 p2 p3 p4 p5 _ _ hP hD hS ls hev (lv_sub hl [0, 1, 2, 3, 4, 5] rfl)
  · replace hev := x_f c16 hev
    refine lv_aload_n hx hb dX10_tried_5 rfl (lv_at hl 0 rfl) ?_
    refine va_get (D := G.1) (ci := 6) (v := .ref aT_told) (C := RX10) (T := TX10) (N := 14) hx hb hts i10 hown hK hP 0 rfl rfl 1 (by decide) (hw _ u417) (fun _ h9 => h9) rfl dX10_tried_6 ?_
    refine lv_iload_n hx hb dX10_tried_9 rfl (lv_at hl 1 rfl) ?_
    obtain ⟨y17, hq, hev⟩ := x_bd hev
    refine roV X (KK_at hKK hS hAb) hR (st1 := [.int y17]) (c_To_hasPerson l G aT_told aT_told_kinds aT_told_targets aT_told_wakes aT_told_terms aT_told_sorts aT_told_numbers vT_told_people vT_told_spells vT_told_day vT_told_broken p1 y17 hq) K_X8_hasPerson u649 (x_Psub hP [1] rfl) rfl (q0 := 0) rfl (by decide) ⟨Nat.zero_le _, Nat.zero_le _⟩ rfl hl.1 rfl (Nat.le_of_ble_eq_true rfl) rfl dX10_tried_10 ?_
    refine lv_if_ne (tgt := 19) hx hb dX10_tried_13 (by decide) (fun c18 => ?_) (fun c18 => ?_)
    · replace hev := x_f c18 hev
      exact J19 vT_trials_lifted vT_trials_trials_size fT_trials_trials_items p1 p2 p3 p4 p5 _ _ hP hD hS ls hev (lv_sub hl [0, 1, 2, 3, 4, 5] rfl)
    · replace hev := x_t c18 hev
      refine lv_bipush (v := (-2 : Int32)) hx hb dX10_tried_16 (by decide) ?_
      have hq9 := (Option.some.inj hev)
      subst hq9
      exact ret.1 _ _ _ _ _ _ _ rfl rfl dX10_tried_18 (show narrow _ (.int (-2 : Int32)) = .int (-2 : Int32) from rfl) hP hD hS
def f_SS_forget (vT_trials_lifted : Int32) (vT_trials_trials_size : Int32) : Option (Int32 × Int32 × Int32) := x_B (f_Tr_empty vT_trials_lifted vT_trials_trials_size) (fun ⟨y1, w2, w3⟩ => some (y1, w2, w3))
set_option maxHeartbeats 8000000 in
set_option maxRecDepth 100000 in
theorem c_SS_forget (l : Launch) (G : GG) (aT aT_text aT_told aT_reader aT_rules aT_fromNow aT_whatIf aT_trials aT_undoable aT_keptStates aT_keptDeeds aT_row aT_princes aT_trials_trials aT_trials_so aT_trials_trials_items : Nat) (vT_state : Int32) (vT_deeds : Int32) (vT_trials_lifted : Int32) (vT_trials_people : Int32) (vT_trials_trials_size : Int32) (r0 : Int32) (wvT_trials_lifted : Int32) (wvT_trials_trials_size : Int32) (hev : f_SS_forget vT_trials_lifted vT_trials_trials_size = some (r0, wvT_trials_lifted, wvT_trials_trials_size)) : RW l G yX10_forget cX10_forget 1 (some .int) 2 [.ref aT] [(aT, .inr (6, [.ref aT_text, .ref aT_told, .ref aT_reader, .ref aT_rules, .ref aT_fromNow, .ref aT_whatIf, .ref aT_trials, .ref aT_undoable, .ref aT_keptStates, .ref aT_keptDeeds, .ref aT_row, .ref aT_princes, .int vT_state, .int vT_deeds])), (aT_trials, .inr (5, [.ref aT_trials_trials, .int vT_trials_lifted, .ref aT_trials_so, .int vT_trials_people])), (aT_trials_trials, .inr (1, [.ref aT_trials_trials_items, .int vT_trials_trials_size]))] (some (.int r0)) [(aT, .inr (6, [.ref aT_text, .ref aT_told, .ref aT_reader, .ref aT_rules, .ref aT_fromNow, .ref aT_whatIf, .ref aT_trials, .ref aT_undoable, .ref aT_keptStates, .ref aT_keptDeeds, .ref aT_row, .ref aT_princes, .int vT_state, .int vT_deeds])), (aT_trials, .inr (5, [.ref aT_trials_trials, .int wvT_trials_lifted, .ref aT_trials_so, .int vT_trials_people])), (aT_trials_trials, .inr (1, [.ref aT_trials_trials_items, .int wvT_trials_trials_size]))] 0 0 := by
  refine RW_of (by decide) (Nat.le_of_ble_eq_true rfl) ?_
  intro p e s m ar below meth c R Q A ls X hR hRc hin hP hKK hD hS hA hAb hl ret
  obtain ⟨rs, hrs⟩ : ∃ q, q = (r0, wvT_trials_lifted, wvT_trials_trials_size) := ⟨_, rfl⟩
  rw [← hrs] at hev
  have hr0 : r0 = rs.1 := by rw [hrs]
  have hwvT_trials_lifted : wvT_trials_lifted = rs.2.1 := by rw [hrs]
  have hwvT_trials_trials_size : wvT_trials_trials_size = rs.2.2 := by rw [hrs]
  rw [hr0, hwvT_trials_lifted, hwvT_trials_trials_size] at ret
  clear hr0 hwvT_trials_lifted hwvT_trials_trials_size hrs r0 wvT_trials_lifted wvT_trials_trials_size
  have hl : lv_has ls 1 [(0, .ref aT)] := hl
  obtain ⟨hx, hb, hml, hown, hts, hT⟩ := id X
  have hK := hKK.1
  have hw : ∀ w ∈ T0, w.before ar s = true := fun w h => hts w (hT w h)
  have i10 := fun w h => hT w (inT10 w h)
  unfold f_SS_forget at hev
  refine lv_aload_n hx hb dX10_forget_0 rfl (lv_at hl 0 rfl) ?_
  refine va_get (D := G.1) (ci := 6) (v := .ref aT_trials) (C := RX10) (T := TX10) (N := 14) hx hb hts i10 hown hK hP 0 rfl rfl 6 (by decide) (hw _ u422) (fun _ h9 => h9) rfl dX10_forget_1 ?_
  obtain ⟨⟨y1, w2, w3⟩, hq, hev⟩ := x_bd hev
  refine rwV X (KK_at hKK hS hAb) hR (st1 := [.int y1]) (ws2 := [(aT, .inr (6, [.ref aT_text, .ref aT_told, .ref aT_reader, .ref aT_rules, .ref aT_fromNow, .ref aT_whatIf, .ref aT_trials, .ref aT_undoable, .ref aT_keptStates, .ref aT_keptDeeds, .ref aT_row, .ref aT_princes, .int vT_state, .int vT_deeds])), (aT_trials, .inr (5, [.ref aT_trials_trials, .int w2, .ref aT_trials_so, .int vT_trials_people])), (aT_trials_trials, .inr (1, [.ref aT_trials_trials_items, .int w3]))]) (c_Tr_empty l G aT_trials aT_trials_trials aT_trials_so aT_trials_trials_items vT_trials_lifted vT_trials_people vT_trials_trials_size y1 w2 w3 hq) K_X9_empty u411 hP hD hS hA hAb [1, 2] rfl rfl rfl rfl rfl (q0 := 0) rfl (by decide) ⟨Nat.zero_le _, Nat.zero_le _⟩ rfl hl.1 rfl (Nat.le_of_ble_eq_true rfl) rfl dX10_forget_4 (fun H lo hP hD hS => ?_)
  have hq9 := (Option.some.inj hev)
  subst hq9
  exact ret.1 _ _ _ _ _ _ _ rfl rfl dX10_forget_7 (show narrow _ (.int y1) = .int y1 from rfl) hP hD hS
def f_SS_mayBe (k : Nat) (nT_trials_trials_items : Nat) (vT_told_people : Int32) (vT_trials_lifted : Int32) (vT_trials_people : Int32) (vT_trials_trials_size : Int32) (fT_trials_so : Nat → Int32) (fT_trials_trials_items : Nat → Int32) (p1 : Int32) : Option (Int32 × Int32 × (Nat → Int32)) := if p1 < 0 then (some ((-3 : Int32), vT_trials_people, fT_trials_so)) else if p1 ≤ (4 : Int32) then (x_B (f_To_people vT_told_people) (fun y3 => x_B (f_Tr_weigh k nT_trials_trials_items vT_trials_people vT_trials_trials_size fT_trials_so fT_trials_trials_items y3) (fun ⟨w4, w5⟩ => if p1 = 0 then (x_B (f_Tr_howMany k vT_trials_lifted w4 w5) (fun y19 => some (y19, w4, w5))) else x_B (f_Tr_firstTerm k vT_trials_lifted w4 w5) (fun y7 => if y7 = (-1 : Int32) then (some ((-4 : Int32), w4, w5)) else x_B (f_Tr_secondTerm k vT_trials_lifted w4 w5 y7) (fun y9 => if p1 = (1 : Int32) then (x_B (f_Tr_sortOf w4 y7) (fun y11 => some (y11, w4, w5))) else if p1 = (2 : Int32) then (x_B (f_Tr_numberOf w4 y7) (fun y13 => some (y13, w4, w5))) else if p1 = (3 : Int32) then (if y9 = (-1 : Int32) then (some ((-1 : Int32), w4, w5)) else x_B (f_Tr_sortOf w4 y9) (fun y16 => some (y16, w4, w5))) else if y9 = (-1 : Int32) then (some ((-1 : Int32), w4, w5)) else x_B (f_Tr_numberOf w4 y9) (fun y18 => some (y18, w4, w5))))))) else some ((-3 : Int32), vT_trials_people, fT_trials_so)
set_option maxHeartbeats 8000000 in
set_option maxRecDepth 100000 in
theorem c_SS_mayBe (l : Launch) (G : GG) (aT aT_text aT_told aT_reader aT_rules aT_fromNow aT_whatIf aT_trials aT_undoable aT_keptStates aT_keptDeeds aT_row aT_princes aT_told_kinds aT_told_targets aT_told_wakes aT_told_terms aT_told_sorts aT_told_numbers aT_trials_trials aT_trials_so aT_trials_trials_items : Nat) (vT_state : Int32) (vT_deeds : Int32) (vT_told_people : Int32) (vT_told_spells : Int32) (vT_told_day : Int32) (vT_told_broken : Int32) (vT_trials_lifted : Int32) (vT_trials_people : Int32) (vT_trials_trials_size : Int32) (fT_trials_so : Nat → Int32) (fT_trials_trials_items : Nat → Int32) (nT_trials_trials_items : Nat) (k : Nat) (p1 : Int32) (r0 : Int32) (wvT_trials_people : Int32) (wfT_trials_so : Nat → Int32) (hev : f_SS_mayBe k nT_trials_trials_items vT_told_people vT_trials_lifted vT_trials_people vT_trials_trials_size fT_trials_so fT_trials_trials_items p1 = some (r0, wvT_trials_people, wfT_trials_so)) : RW l G yX10_mayBe cX10_mayBe 4 (some .int) 4 [.ref aT, .int p1] [(aT, .inr (6, [.ref aT_text, .ref aT_told, .ref aT_reader, .ref aT_rules, .ref aT_fromNow, .ref aT_whatIf, .ref aT_trials, .ref aT_undoable, .ref aT_keptStates, .ref aT_keptDeeds, .ref aT_row, .ref aT_princes, .int vT_state, .int vT_deeds])), (aT_told, .inr (4, [.int vT_told_people, .int vT_told_spells, .int vT_told_day, .int vT_told_broken, .ref aT_told_kinds, .ref aT_told_targets, .ref aT_told_wakes, .ref aT_told_terms, .ref aT_told_sorts, .ref aT_told_numbers])), (aT_trials, .inr (5, [.ref aT_trials_trials, .int vT_trials_lifted, .ref aT_trials_so, .int vT_trials_people])), (aT_trials_trials, .inr (1, [.ref aT_trials_trials_items, .int vT_trials_trials_size])), (aT_trials_so, .inl (G.2.1, 17, .inl fT_trials_so)), (aT_trials_trials_items, .inl (G.2.1, nT_trials_trials_items, .inl fT_trials_trials_items))] (some (.int r0)) [(aT, .inr (6, [.ref aT_text, .ref aT_told, .ref aT_reader, .ref aT_rules, .ref aT_fromNow, .ref aT_whatIf, .ref aT_trials, .ref aT_undoable, .ref aT_keptStates, .ref aT_keptDeeds, .ref aT_row, .ref aT_princes, .int vT_state, .int vT_deeds])), (aT_told, .inr (4, [.int vT_told_people, .int vT_told_spells, .int vT_told_day, .int vT_told_broken, .ref aT_told_kinds, .ref aT_told_targets, .ref aT_told_wakes, .ref aT_told_terms, .ref aT_told_sorts, .ref aT_told_numbers])), (aT_trials, .inr (5, [.ref aT_trials_trials, .int vT_trials_lifted, .ref aT_trials_so, .int wvT_trials_people])), (aT_trials_trials, .inr (1, [.ref aT_trials_trials_items, .int vT_trials_trials_size])), (aT_trials_so, .inl (G.2.1, 17, .inl wfT_trials_so)), (aT_trials_trials_items, .inl (G.2.1, nT_trials_trials_items, .inl fT_trials_trials_items))] 0 0 := by
  refine RW_of (by decide) (Nat.le_of_ble_eq_true rfl) ?_
  intro p e s m ar below meth c R Q A ls X hR hRc hin hP hKK hD hS hA hAb hl ret
  obtain ⟨rs, hrs⟩ : ∃ q, q = (r0, wvT_trials_people, wfT_trials_so) := ⟨_, rfl⟩
  rw [← hrs] at hev
  have hr0 : r0 = rs.1 := by rw [hrs]
  have hwvT_trials_people : wvT_trials_people = rs.2.1 := by rw [hrs]
  have hwfT_trials_so : wfT_trials_so = rs.2.2 := by rw [hrs]
  rw [hr0, hwvT_trials_people, hwfT_trials_so] at ret
  clear hr0 hwvT_trials_people hwfT_trials_so hrs r0 wvT_trials_people wfT_trials_so
  have hl : lv_has ls 4 [(0, .ref aT), (1, .int p1)] := hl
  obtain ⟨hx, hb, hml, hown, hts, hT⟩ := id X
  have hK := hKK.1
  have hw : ∀ w ∈ T0, w.before ar s = true := fun w h => hts w (hT w h)
  have i10 := fun w h => hT w (inT10 w h)
  unfold f_SS_mayBe at hev
  refine lv_iload_n hx hb dX10_mayBe_0 rfl (lv_at hl 1 rfl) ?_
  refine lv_if_lt (tgt := 9) hx hb dX10_mayBe_1 (by decide) (fun c1 => ?_) (fun c1 => ?_)
  · replace hev := x_t c1 hev
    refine lv_bipush (v := (-3 : Int32)) hx hb dX10_mayBe_9 (by decide) ?_
    have hq9 := (Option.some.inj hev)
    subst hq9
    exact ret.1 _ _ _ _ _ _ _ rfl rfl dX10_mayBe_11 (show narrow _ (.int (-3 : Int32)) = .int (-3 : Int32) from rfl) hP hD hS
  · replace hev := x_f c1 hev
    refine lv_iload_n hx hb dX10_mayBe_4 rfl (lv_at hl 1 rfl) ?_
    refine lv_iconst (v := (4 : Int32)) hx hb dX10_mayBe_5 (by decide) ?_
    refine lv_icmp_le (tgt := 12) hx hb dX10_mayBe_6 (by decide) (fun c2 => ?_) (fun c2 => ?_)
    · replace hev := x_t c2 hev
      refine lv_aload_n hx hb dX10_mayBe_12 rfl (lv_at hl 0 rfl) ?_
      refine va_get (D := G.1) (ci := 6) (v := .ref aT_trials) (C := RX10) (T := TX10) (N := 14) hx hb hts i10 hown hK hP 0 rfl rfl 6 (by decide) (hw _ u422) (fun _ h9 => h9) rfl dX10_mayBe_13 ?_
      refine lv_aload_n hx hb dX10_mayBe_16 rfl (lv_at hl 0 rfl) ?_
      refine va_get (D := G.1) (ci := 6) (v := .ref aT_told) (C := RX10) (T := TX10) (N := 14) hx hb hts i10 hown hK hP 0 rfl rfl 1 (by decide) (hw _ u417) (fun _ h9 => h9) rfl dX10_mayBe_17 ?_
      obtain ⟨y3, hq, hev⟩ := x_bd hev
      refine roV X (KK_at hKK hS hAb) hR (st1 := [.int y3, .ref aT_trials]) (c_To_people l G aT_told aT_told_kinds aT_told_targets aT_told_wakes aT_told_terms aT_told_sorts aT_told_numbers vT_told_people vT_told_spells vT_told_day vT_told_broken y3 hq) K_X8_people u1005 (x_Psub hP [1] rfl) rfl (q0 := 0) rfl (by decide) ⟨Nat.zero_le _, Nat.zero_le _⟩ rfl hl.1 rfl (Nat.le_of_ble_eq_true rfl) rfl dX10_mayBe_20 ?_
      obtain ⟨⟨w4, w5⟩, hq, hev⟩ := x_bd hev
      refine rwV X (KK_at hKK hS hAb) hR (st1 := []) (ws2 := [(aT, .inr (6, [.ref aT_text, .ref aT_told, .ref aT_reader, .ref aT_rules, .ref aT_fromNow, .ref aT_whatIf, .ref aT_trials, .ref aT_undoable, .ref aT_keptStates, .ref aT_keptDeeds, .ref aT_row, .ref aT_princes, .int vT_state, .int vT_deeds])), (aT_told, .inr (4, [.int vT_told_people, .int vT_told_spells, .int vT_told_day, .int vT_told_broken, .ref aT_told_kinds, .ref aT_told_targets, .ref aT_told_wakes, .ref aT_told_terms, .ref aT_told_sorts, .ref aT_told_numbers])), (aT_trials, .inr (5, [.ref aT_trials_trials, .int vT_trials_lifted, .ref aT_trials_so, .int w4])), (aT_trials_trials, .inr (1, [.ref aT_trials_trials_items, .int vT_trials_trials_size])), (aT_trials_so, .inl (G.2.1, 17, .inl w5)), (aT_trials_trials_items, .inl (G.2.1, nT_trials_trials_items, .inl fT_trials_trials_items))]) (c_Tr_weigh l G aT_trials aT_trials_trials aT_trials_so aT_trials_trials_items vT_trials_lifted vT_trials_people vT_trials_trials_size fT_trials_so fT_trials_trials_items nT_trials_trials_items k y3 w4 w5 hq) K_X9_weigh u1006 hP hD hS hA hAb [2, 3, 4, 5] rfl rfl rfl rfl rfl (q0 := 0) rfl (by decide) ⟨Nat.zero_le _, Nat.zero_le _⟩ rfl hl.1 rfl (Nat.le_of_ble_eq_true rfl) rfl dX10_mayBe_23 (fun H lo hP hD hS => ?_)
      refine lv_iload_n hx hb dX10_mayBe_26 rfl (lv_at hl 1 rfl) ?_
      refine lv_if_ne (tgt := 38) hx hb dX10_mayBe_27 (by decide) (fun c6 => ?_) (fun c6 => ?_)
      · replace hev := x_f c6 hev
        refine lv_aload_n hx hb dX10_mayBe_38 rfl (lv_at hl 0 rfl) ?_
        refine va_get (D := G.1) (ci := 6) (v := .ref aT_trials) (C := RX10) (T := TX10) (N := 14) hx hb hts i10 hown hK hP 0 rfl rfl 6 (by decide) (hw _ u422) (fun _ h9 => h9) rfl dX10_mayBe_39 ?_
        obtain ⟨y7, hq, hev⟩ := x_bd hev
        refine roV X (KK_at hKK hS hAb) hR (st1 := [.int y7]) (c_Tr_firstTerm l G aT_trials aT_trials_trials aT_trials_so vT_trials_lifted w4 w5 k y7 hq) K_X9_firstTerm u1037 (x_Psub hP [2, 4] rfl) rfl (q0 := 0) rfl (by decide) ⟨Nat.zero_le _, Nat.zero_le _⟩ rfl hl.1 rfl (Nat.le_of_ble_eq_true rfl) rfl dX10_mayBe_42 ?_
        refine lv_istore_n (lv' := [(2, .int y7), (0, .ref aT), (1, .int p1)]) hx hb dX10_mayBe_45 rfl hl (by decide) rfl (fun ls hl => ?_)
        refine lv_iload_n hx hb dX10_mayBe_46 rfl (lv_at hl 0 rfl) ?_
        refine lv_iconst (v := (-1 : Int32)) hx hb dX10_mayBe_47 (by decide) ?_
        refine lv_icmp_ne (tgt := 54) hx hb dX10_mayBe_48 (by decide) (fun c8 => ?_) (fun c8 => ?_)
        · replace hev := x_f c8 hev
          refine lv_aload_n hx hb dX10_mayBe_54 rfl (lv_at hl 1 rfl) ?_
          refine va_get (D := G.1) (ci := 6) (v := .ref aT_trials) (C := RX10) (T := TX10) (N := 14) hx hb hts i10 hown hK hP 0 rfl rfl 6 (by decide) (hw _ u422) (fun _ h9 => h9) rfl dX10_mayBe_55 ?_
          refine lv_iload_n hx hb dX10_mayBe_58 rfl (lv_at hl 0 rfl) ?_
          obtain ⟨y9, hq, hev⟩ := x_bd hev
          refine roV X (KK_at hKK hS hAb) hR (st1 := [.int y9]) (c_Tr_secondTerm l G aT_trials aT_trials_trials aT_trials_so vT_trials_lifted w4 w5 k y7 y9 hq) K_X9_secondTerm u1045 (x_Psub hP [2, 4] rfl) rfl (q0 := 0) rfl (by decide) ⟨Nat.zero_le _, Nat.zero_le _⟩ rfl hl.1 rfl (Nat.le_of_ble_eq_true rfl) rfl dX10_mayBe_59 ?_
          refine lv_istore_n (lv' := [(3, .int y9), (2, .int y7), (0, .ref aT), (1, .int p1)]) hx hb dX10_mayBe_62 rfl hl (by decide) rfl (fun ls hl => ?_)
          refine lv_iload_n hx hb dX10_mayBe_63 rfl (lv_at hl 3 rfl) ?_
          by_cases c10 : p1 = (1 : Int32)
          · replace hev := x_t c10 hev
            refine lv_tableIn (tgt := 92) hx hb dX10_mayBe_64 (by rw [c10]; decide) (by rw [c10]; decide) (by rw [c10]; rfl) (by decide) ?_
            refine lv_aload_n hx hb dX10_mayBe_92 rfl (lv_at hl 2 rfl) ?_
            refine va_get (D := G.1) (ci := 6) (v := .ref aT_trials) (C := RX10) (T := TX10) (N := 14) hx hb hts i10 hown hK hP 0 rfl rfl 6 (by decide) (hw _ u422) (fun _ h9 => h9) rfl dX10_mayBe_93 ?_
            refine lv_iload_n hx hb dX10_mayBe_96 rfl (lv_at hl 1 rfl) ?_
            obtain ⟨y11, hq, hev⟩ := x_bd hev
            refine roV X (KK_at hKK hS hAb) hR (st1 := [.int y11]) (c_Tr_sortOf l G aT_trials aT_trials_trials aT_trials_so vT_trials_lifted w4 y7 y11 hq) K_X9_sortOf u1049 (x_Psub hP [2] rfl) rfl (q0 := 0) rfl (by decide) ⟨Nat.zero_le _, Nat.zero_le _⟩ rfl hl.1 rfl (Nat.le_of_ble_eq_true rfl) rfl dX10_mayBe_97 ?_
            have hq9 := (Option.some.inj hev)
            subst hq9
            exact ret.1 _ _ _ _ _ _ _ rfl rfl dX10_mayBe_100 (show narrow _ (.int y11) = .int y11 from rfl) hP hD hS
          replace hev := x_f c10 hev
          by_cases c12 : p1 = (2 : Int32)
          · replace hev := x_t c12 hev
            refine lv_tableIn (tgt := 101) hx hb dX10_mayBe_64 (by rw [c12]; decide) (by rw [c12]; decide) (by rw [c12]; rfl) (by decide) ?_
            refine lv_aload_n hx hb dX10_mayBe_101 rfl (lv_at hl 2 rfl) ?_
            refine va_get (D := G.1) (ci := 6) (v := .ref aT_trials) (C := RX10) (T := TX10) (N := 14) hx hb hts i10 hown hK hP 0 rfl rfl 6 (by decide) (hw _ u422) (fun _ h9 => h9) rfl dX10_mayBe_102 ?_
            refine lv_iload_n hx hb dX10_mayBe_105 rfl (lv_at hl 1 rfl) ?_
            obtain ⟨y13, hq, hev⟩ := x_bd hev
            refine roV X (KK_at hKK hS hAb) hR (st1 := [.int y13]) (c_Tr_numberOf l G aT_trials aT_trials_trials aT_trials_so vT_trials_lifted w4 y7 y13 hq) K_X9_numberOf u1050 (x_Psub hP [2] rfl) rfl (q0 := 0) rfl (by decide) ⟨Nat.zero_le _, Nat.zero_le _⟩ rfl hl.1 rfl (Nat.le_of_ble_eq_true rfl) rfl dX10_mayBe_106 ?_
            have hq9 := (Option.some.inj hev)
            subst hq9
            exact ret.1 _ _ _ _ _ _ _ rfl rfl dX10_mayBe_109 (show narrow _ (.int y13) = .int y13 from rfl) hP hD hS
          replace hev := x_f c12 hev
          by_cases c14 : p1 = (3 : Int32)
          · replace hev := x_t c14 hev
            refine lv_tableIn (tgt := 110) hx hb dX10_mayBe_64 (by rw [c14]; decide) (by rw [c14]; decide) (by rw [c14]; rfl) (by decide) ?_
            refine lv_iload_n hx hb dX10_mayBe_110 rfl (lv_at hl 0 rfl) ?_
            refine lv_iconst (v := (-1 : Int32)) hx hb dX10_mayBe_111 (by decide) ?_
            refine lv_icmp_ne (tgt := 119) hx hb dX10_mayBe_112 (by decide) (fun c15 => ?_) (fun c15 => ?_)
            · replace hev := x_f c15 hev
              refine lv_aload_n hx hb dX10_mayBe_119 rfl (lv_at hl 2 rfl) ?_
              refine va_get (D := G.1) (ci := 6) (v := .ref aT_trials) (C := RX10) (T := TX10) (N := 14) hx hb hts i10 hown hK hP 0 rfl rfl 6 (by decide) (hw _ u422) (fun _ h9 => h9) rfl dX10_mayBe_120 ?_
              refine lv_iload_n hx hb dX10_mayBe_123 rfl (lv_at hl 0 rfl) ?_
              obtain ⟨y16, hq, hev⟩ := x_bd hev
              refine roV X (KK_at hKK hS hAb) hR (st1 := [.int y16]) (c_Tr_sortOf l G aT_trials aT_trials_trials aT_trials_so vT_trials_lifted w4 y9 y16 hq) K_X9_sortOf u1049 (x_Psub hP [2] rfl) rfl (q0 := 0) rfl (by decide) ⟨Nat.zero_le _, Nat.zero_le _⟩ rfl hl.1 rfl (Nat.le_of_ble_eq_true rfl) rfl dX10_mayBe_124 ?_
              have hq9 := (Option.some.inj hev)
              subst hq9
              exact ret.1 _ _ _ _ _ _ _ rfl rfl dX10_mayBe_127 (show narrow _ (.int y16) = .int y16 from rfl) hP hD hS
            · replace hev := x_t c15 hev
              refine lv_iconst (v := (-1 : Int32)) hx hb dX10_mayBe_115 (by decide) ?_
              refine lv_goto (tgt := 127) hx hb dX10_mayBe_116 (by decide) ?_
              have hq9 := (Option.some.inj hev)
              subst hq9
              exact ret.1 _ _ _ _ _ _ _ rfl rfl dX10_mayBe_127 (show narrow _ (.int (-1 : Int32)) = .int (-1 : Int32) from rfl) hP hD hS
          replace hev := x_f c14 hev
          refine lv_tableOut (tgt := 128) hx hb dX10_mayBe_64 (by have q0 : p1.toInt ≠ 1 := x_ne c10; have q1 : p1.toInt ≠ 2 := x_ne c12; have q2 : p1.toInt ≠ 3 := x_ne c14; omega) (by decide) ?_
          refine lv_iload_n hx hb dX10_mayBe_128 rfl (lv_at hl 0 rfl) ?_
          refine lv_iconst (v := (-1 : Int32)) hx hb dX10_mayBe_129 (by decide) ?_
          refine lv_icmp_ne (tgt := 137) hx hb dX10_mayBe_130 (by decide) (fun c17 => ?_) (fun c17 => ?_)
          · replace hev := x_f c17 hev
            refine lv_aload_n hx hb dX10_mayBe_137 rfl (lv_at hl 2 rfl) ?_
            refine va_get (D := G.1) (ci := 6) (v := .ref aT_trials) (C := RX10) (T := TX10) (N := 14) hx hb hts i10 hown hK hP 0 rfl rfl 6 (by decide) (hw _ u422) (fun _ h9 => h9) rfl dX10_mayBe_138 ?_
            refine lv_iload_n hx hb dX10_mayBe_141 rfl (lv_at hl 0 rfl) ?_
            obtain ⟨y18, hq, hev⟩ := x_bd hev
            refine roV X (KK_at hKK hS hAb) hR (st1 := [.int y18]) (c_Tr_numberOf l G aT_trials aT_trials_trials aT_trials_so vT_trials_lifted w4 y9 y18 hq) K_X9_numberOf u1050 (x_Psub hP [2] rfl) rfl (q0 := 0) rfl (by decide) ⟨Nat.zero_le _, Nat.zero_le _⟩ rfl hl.1 rfl (Nat.le_of_ble_eq_true rfl) rfl dX10_mayBe_142 ?_
            have hq9 := (Option.some.inj hev)
            subst hq9
            exact ret.1 _ _ _ _ _ _ _ rfl rfl dX10_mayBe_145 (show narrow _ (.int y18) = .int y18 from rfl) hP hD hS
          · replace hev := x_t c17 hev
            refine lv_iconst (v := (-1 : Int32)) hx hb dX10_mayBe_133 (by decide) ?_
            refine lv_goto (tgt := 145) hx hb dX10_mayBe_134 (by decide) ?_
            have hq9 := (Option.some.inj hev)
            subst hq9
            exact ret.1 _ _ _ _ _ _ _ rfl rfl dX10_mayBe_145 (show narrow _ (.int (-1 : Int32)) = .int (-1 : Int32) from rfl) hP hD hS
        · replace hev := x_t c8 hev
          refine lv_bipush (v := (-4 : Int32)) hx hb dX10_mayBe_51 (by decide) ?_
          have hq9 := (Option.some.inj hev)
          subst hq9
          exact ret.1 _ _ _ _ _ _ _ rfl rfl dX10_mayBe_53 (show narrow _ (.int (-4 : Int32)) = .int (-4 : Int32) from rfl) hP hD hS
      · replace hev := x_t c6 hev
        refine lv_aload_n hx hb dX10_mayBe_30 rfl (lv_at hl 0 rfl) ?_
        refine va_get (D := G.1) (ci := 6) (v := .ref aT_trials) (C := RX10) (T := TX10) (N := 14) hx hb hts i10 hown hK hP 0 rfl rfl 6 (by decide) (hw _ u422) (fun _ h9 => h9) rfl dX10_mayBe_31 ?_
        obtain ⟨y19, hq, hev⟩ := x_bd hev
        refine roV X (KK_at hKK hS hAb) hR (st1 := [.int y19]) (c_Tr_howMany l G aT_trials aT_trials_trials aT_trials_so vT_trials_lifted w4 w5 k y19 hq) K_X9_howMany u1029 (x_Psub hP [2, 4] rfl) rfl (q0 := 0) rfl (by decide) ⟨Nat.zero_le _, Nat.zero_le _⟩ rfl hl.1 rfl (Nat.le_of_ble_eq_true rfl) rfl dX10_mayBe_34 ?_
        have hq9 := (Option.some.inj hev)
        subst hq9
        exact ret.1 _ _ _ _ _ _ _ rfl rfl dX10_mayBe_37 (show narrow _ (.int y19) = .int y19 from rfl) hP hD hS
    · replace hev := x_f c2 hev
      refine lv_bipush (v := (-3 : Int32)) hx hb dX10_mayBe_9 (by decide) ?_
      have hq9 := (Option.some.inj hev)
      subst hq9
      exact ret.1 _ _ _ _ _ _ _ rfl rfl dX10_mayBe_11 (show narrow _ (.int (-3 : Int32)) = .int (-3 : Int32) from rfl) hP hD hS
def f_SS_next (k : Nat) (nT_trials_trials_items : Nat) (vT_told_people : Int32) (vT_trials_lifted : Int32) (vT_trials_people : Int32) (vT_trials_trials_size : Int32) (fT_trials_so : Nat → Int32) (fT_trials_trials_items : Nat → Int32) : Option (Int32 × Int32 × (Nat → Int32)) := x_B (f_To_people vT_told_people) (fun y1 => x_B (f_Tr_weigh k nT_trials_trials_items vT_trials_people vT_trials_trials_size fT_trials_so fT_trials_trials_items y1) (fun ⟨w2, w3⟩ => x_B (f_Tr_bestDay k vT_trials_lifted w2 w3) (fun y4 => some (y4, w2, w3))))
set_option maxHeartbeats 8000000 in
set_option maxRecDepth 100000 in
theorem c_SS_next (l : Launch) (G : GG) (aT aT_text aT_told aT_reader aT_rules aT_fromNow aT_whatIf aT_trials aT_undoable aT_keptStates aT_keptDeeds aT_row aT_princes aT_told_kinds aT_told_targets aT_told_wakes aT_told_terms aT_told_sorts aT_told_numbers aT_trials_trials aT_trials_so aT_trials_trials_items : Nat) (vT_state : Int32) (vT_deeds : Int32) (vT_told_people : Int32) (vT_told_spells : Int32) (vT_told_day : Int32) (vT_told_broken : Int32) (vT_trials_lifted : Int32) (vT_trials_people : Int32) (vT_trials_trials_size : Int32) (fT_trials_so : Nat → Int32) (fT_trials_trials_items : Nat → Int32) (nT_trials_trials_items : Nat) (k : Nat) (r0 : Int32) (wvT_trials_people : Int32) (wfT_trials_so : Nat → Int32) (hev : f_SS_next k nT_trials_trials_items vT_told_people vT_trials_lifted vT_trials_people vT_trials_trials_size fT_trials_so fT_trials_trials_items = some (r0, wvT_trials_people, wfT_trials_so)) : RW l G yX10_next cX10_next 1 (some .int) 5 [.ref aT] [(aT, .inr (6, [.ref aT_text, .ref aT_told, .ref aT_reader, .ref aT_rules, .ref aT_fromNow, .ref aT_whatIf, .ref aT_trials, .ref aT_undoable, .ref aT_keptStates, .ref aT_keptDeeds, .ref aT_row, .ref aT_princes, .int vT_state, .int vT_deeds])), (aT_told, .inr (4, [.int vT_told_people, .int vT_told_spells, .int vT_told_day, .int vT_told_broken, .ref aT_told_kinds, .ref aT_told_targets, .ref aT_told_wakes, .ref aT_told_terms, .ref aT_told_sorts, .ref aT_told_numbers])), (aT_trials, .inr (5, [.ref aT_trials_trials, .int vT_trials_lifted, .ref aT_trials_so, .int vT_trials_people])), (aT_trials_trials, .inr (1, [.ref aT_trials_trials_items, .int vT_trials_trials_size])), (aT_trials_so, .inl (G.2.1, 17, .inl fT_trials_so)), (aT_trials_trials_items, .inl (G.2.1, nT_trials_trials_items, .inl fT_trials_trials_items))] (some (.int r0)) [(aT, .inr (6, [.ref aT_text, .ref aT_told, .ref aT_reader, .ref aT_rules, .ref aT_fromNow, .ref aT_whatIf, .ref aT_trials, .ref aT_undoable, .ref aT_keptStates, .ref aT_keptDeeds, .ref aT_row, .ref aT_princes, .int vT_state, .int vT_deeds])), (aT_told, .inr (4, [.int vT_told_people, .int vT_told_spells, .int vT_told_day, .int vT_told_broken, .ref aT_told_kinds, .ref aT_told_targets, .ref aT_told_wakes, .ref aT_told_terms, .ref aT_told_sorts, .ref aT_told_numbers])), (aT_trials, .inr (5, [.ref aT_trials_trials, .int vT_trials_lifted, .ref aT_trials_so, .int wvT_trials_people])), (aT_trials_trials, .inr (1, [.ref aT_trials_trials_items, .int vT_trials_trials_size])), (aT_trials_so, .inl (G.2.1, 17, .inl wfT_trials_so)), (aT_trials_trials_items, .inl (G.2.1, nT_trials_trials_items, .inl fT_trials_trials_items))] 0 0 := by
  refine RW_of (by decide) (Nat.le_of_ble_eq_true rfl) ?_
  intro p e s m ar below meth c R Q A ls X hR hRc hin hP hKK hD hS hA hAb hl ret
  obtain ⟨rs, hrs⟩ : ∃ q, q = (r0, wvT_trials_people, wfT_trials_so) := ⟨_, rfl⟩
  rw [← hrs] at hev
  have hr0 : r0 = rs.1 := by rw [hrs]
  have hwvT_trials_people : wvT_trials_people = rs.2.1 := by rw [hrs]
  have hwfT_trials_so : wfT_trials_so = rs.2.2 := by rw [hrs]
  rw [hr0, hwvT_trials_people, hwfT_trials_so] at ret
  clear hr0 hwvT_trials_people hwfT_trials_so hrs r0 wvT_trials_people wfT_trials_so
  have hl : lv_has ls 1 [(0, .ref aT)] := hl
  obtain ⟨hx, hb, hml, hown, hts, hT⟩ := id X
  have hK := hKK.1
  have hw : ∀ w ∈ T0, w.before ar s = true := fun w h => hts w (hT w h)
  have i10 := fun w h => hT w (inT10 w h)
  unfold f_SS_next at hev
  refine lv_aload_n hx hb dX10_next_0 rfl (lv_at hl 0 rfl) ?_
  refine va_get (D := G.1) (ci := 6) (v := .ref aT_trials) (C := RX10) (T := TX10) (N := 14) hx hb hts i10 hown hK hP 0 rfl rfl 6 (by decide) (hw _ u422) (fun _ h9 => h9) rfl dX10_next_1 ?_
  refine lv_aload_n hx hb dX10_next_4 rfl (lv_at hl 0 rfl) ?_
  refine va_get (D := G.1) (ci := 6) (v := .ref aT_told) (C := RX10) (T := TX10) (N := 14) hx hb hts i10 hown hK hP 0 rfl rfl 1 (by decide) (hw _ u417) (fun _ h9 => h9) rfl dX10_next_5 ?_
  obtain ⟨y1, hq, hev⟩ := x_bd hev
  refine roV X (KK_at hKK hS hAb) hR (st1 := [.int y1, .ref aT_trials]) (c_To_people l G aT_told aT_told_kinds aT_told_targets aT_told_wakes aT_told_terms aT_told_sorts aT_told_numbers vT_told_people vT_told_spells vT_told_day vT_told_broken y1 hq) K_X8_people u1005 (x_Psub hP [1] rfl) rfl (q0 := 0) rfl (by decide) ⟨Nat.zero_le _, Nat.zero_le _⟩ rfl hl.1 rfl (Nat.le_of_ble_eq_true rfl) rfl dX10_next_8 ?_
  obtain ⟨⟨w2, w3⟩, hq, hev⟩ := x_bd hev
  refine rwV X (KK_at hKK hS hAb) hR (st1 := []) (ws2 := [(aT, .inr (6, [.ref aT_text, .ref aT_told, .ref aT_reader, .ref aT_rules, .ref aT_fromNow, .ref aT_whatIf, .ref aT_trials, .ref aT_undoable, .ref aT_keptStates, .ref aT_keptDeeds, .ref aT_row, .ref aT_princes, .int vT_state, .int vT_deeds])), (aT_told, .inr (4, [.int vT_told_people, .int vT_told_spells, .int vT_told_day, .int vT_told_broken, .ref aT_told_kinds, .ref aT_told_targets, .ref aT_told_wakes, .ref aT_told_terms, .ref aT_told_sorts, .ref aT_told_numbers])), (aT_trials, .inr (5, [.ref aT_trials_trials, .int vT_trials_lifted, .ref aT_trials_so, .int w2])), (aT_trials_trials, .inr (1, [.ref aT_trials_trials_items, .int vT_trials_trials_size])), (aT_trials_so, .inl (G.2.1, 17, .inl w3)), (aT_trials_trials_items, .inl (G.2.1, nT_trials_trials_items, .inl fT_trials_trials_items))]) (c_Tr_weigh l G aT_trials aT_trials_trials aT_trials_so aT_trials_trials_items vT_trials_lifted vT_trials_people vT_trials_trials_size fT_trials_so fT_trials_trials_items nT_trials_trials_items k y1 w2 w3 hq) K_X9_weigh u1006 hP hD hS hA hAb [2, 3, 4, 5] rfl rfl rfl rfl rfl (q0 := 0) rfl (by decide) ⟨Nat.zero_le _, Nat.zero_le _⟩ rfl hl.1 rfl (Nat.le_of_ble_eq_true rfl) rfl dX10_next_11 (fun H lo hP hD hS => ?_)
  refine lv_aload_n hx hb dX10_next_14 rfl (lv_at hl 0 rfl) ?_
  refine va_get (D := G.1) (ci := 6) (v := .ref aT_trials) (C := RX10) (T := TX10) (N := 14) hx hb hts i10 hown hK hP 0 rfl rfl 6 (by decide) (hw _ u422) (fun _ h9 => h9) rfl dX10_next_15 ?_
  obtain ⟨y4, hq, hev⟩ := x_bd hev
  refine roV X (KK_at hKK hS hAb) hR (st1 := [.int y4]) (c_Tr_bestDay l G aT_trials aT_trials_trials aT_trials_so vT_trials_lifted w2 w3 k y4 hq) K_X9_bestDay u1055 (x_Psub hP [2, 4] rfl) rfl (q0 := 0) rfl (by decide) ⟨Nat.zero_le _, Nat.zero_le _⟩ rfl hl.1 rfl (Nat.le_of_ble_eq_true rfl) rfl dX10_next_18 ?_
  have hq9 := (Option.some.inj hev)
  subst hq9
  exact ret.1 _ _ _ _ _ _ _ rfl rfl dX10_next_21 (show narrow _ (.int y4) = .int y4 from rfl) hP hD hS
def f_SS_count (vT_deeds : Int32) (vT_princes_size : Int32) (vT_row_size : Int32) (vT_state : Int32) (vT_text_size : Int32) (vT_told_people : Int32) (vT_told_spells : Int32) (vT_trials_trials_size : Int32) (vT_undoable_size : Int32) (p1 : Int32) : Option (Int32) := if p1 = (0 : Int32) then (x_B (f_To_people vT_told_people) (fun y2 => some y2)) else if p1 = (1 : Int32) then (x_B (f_To_spells vT_told_spells) (fun y4 => some y4)) else if p1 = (2 : Int32) then (x_B (f_St_holding vT_state) (fun y6 => some y6)) else if p1 = (3 : Int32) then (x_B (f_St_broken vT_state) (fun y8 => some y8)) else if p1 = (4 : Int32) then (x_B (f_St_weepers vT_state) (fun y10 => some y10)) else if p1 = (5 : Int32) then (x_B (f_St_day vT_state) (fun y12 => some y12)) else if p1 = (6 : Int32) then (x_B (f_St_asked vT_state) (fun y14 => some y14)) else if p1 = (7 : Int32) then (some vT_deeds) else if p1 = (8 : Int32) then (x_B (f_Rw_size vT_undoable_size) (fun y17 => some y17)) else if p1 = (9 : Int32) then (x_B (f_Rw_size vT_row_size) (fun y19 => some y19)) else if p1 = (10 : Int32) then (x_B (f_Rw_size vT_princes_size) (fun y21 => some y21)) else if p1 = (11 : Int32) then (x_B (f_Tr_size vT_trials_trials_size) (fun y23 => some y23)) else if p1 = (12 : Int32) then (x_B (f_Rw_size vT_text_size) (fun y25 => some y25)) else some (-3 : Int32)
set_option maxHeartbeats 8000000 in
set_option maxRecDepth 100000 in
theorem c_SS_count (l : Launch) (G : GG) (aT aT_text aT_told aT_reader aT_rules aT_fromNow aT_whatIf aT_trials aT_undoable aT_keptStates aT_keptDeeds aT_row aT_princes aT_text_items aT_trials_trials aT_trials_so aT_trials_trials_items aT_princes_items aT_row_items aT_undoable_items aT_told_kinds aT_told_targets aT_told_wakes aT_told_terms aT_told_sorts aT_told_numbers : Nat) (vT_state : Int32) (vT_deeds : Int32) (vT_text_size : Int32) (vT_trials_lifted : Int32) (vT_trials_people : Int32) (vT_trials_trials_size : Int32) (vT_princes_size : Int32) (vT_row_size : Int32) (vT_undoable_size : Int32) (vT_told_people : Int32) (vT_told_spells : Int32) (vT_told_day : Int32) (vT_told_broken : Int32) (p1 : Int32) (r0 : Int32) (hev : f_SS_count vT_deeds vT_princes_size vT_row_size vT_state vT_text_size vT_told_people vT_told_spells vT_trials_trials_size vT_undoable_size p1 = some r0) : RO l G yX10_count cX10_count 2 (some .int) 2 [.ref aT, .int p1] [(aT, .inr (6, [.ref aT_text, .ref aT_told, .ref aT_reader, .ref aT_rules, .ref aT_fromNow, .ref aT_whatIf, .ref aT_trials, .ref aT_undoable, .ref aT_keptStates, .ref aT_keptDeeds, .ref aT_row, .ref aT_princes, .int vT_state, .int vT_deeds])), (aT_text, .inr (1, [.ref aT_text_items, .int vT_text_size])), (aT_trials, .inr (5, [.ref aT_trials_trials, .int vT_trials_lifted, .ref aT_trials_so, .int vT_trials_people])), (aT_trials_trials, .inr (1, [.ref aT_trials_trials_items, .int vT_trials_trials_size])), (aT_princes, .inr (1, [.ref aT_princes_items, .int vT_princes_size])), (aT_row, .inr (1, [.ref aT_row_items, .int vT_row_size])), (aT_undoable, .inr (1, [.ref aT_undoable_items, .int vT_undoable_size])), (aT_told, .inr (4, [.int vT_told_people, .int vT_told_spells, .int vT_told_day, .int vT_told_broken, .ref aT_told_kinds, .ref aT_told_targets, .ref aT_told_wakes, .ref aT_told_terms, .ref aT_told_sorts, .ref aT_told_numbers]))] (some (.int r0)) := by
  refine RO_of (by decide) (Nat.le_of_ble_eq_true rfl) ?_
  intro p e s m ar below meth c R Q H ls X hR hP hKK hS0 hl ret
  generalize hrs : r0 = rs at hev ret
  have hl : lv_has ls 2 [(0, .ref aT), (1, .int p1)] := hl
  obtain ⟨hx, hb, hml, hown, hts, hT⟩ := id X
  have hK := hKK.1
  have hw : ∀ w ∈ T0, w.before ar s = true := fun w h => hts w (hT w h)
  have i10 := fun w h => hT w (inT10 w h)
  unfold f_SS_count at hev
  refine lv_iload_n hx hb dX10_count_0 rfl (lv_at hl 1 rfl) ?_
  by_cases c1 : p1 = (0 : Int32)
  · replace hev := x_t c1 hev
    refine lv_tableIn (tgt := 68) hx hb dX10_count_1 (by rw [c1]; decide) (by rw [c1]; decide) (by rw [c1]; rfl) (by decide) ?_
    refine lv_aload_n hx hb dX10_count_68 rfl (lv_at hl 0 rfl) ?_
    refine va_get (D := G.1) (ci := 6) (v := .ref aT_told) (C := RX10) (T := TX10) (N := 14) hx hb hts i10 hown hK hP 0 rfl rfl 1 (by decide) (hw _ u417) (fun _ h9 => h9) rfl dX10_count_69 ?_
    obtain ⟨y2, hq, hev⟩ := x_bd hev
    refine roV X hKK hR (st1 := [.int y2]) (c_To_people l G aT_told aT_told_kinds aT_told_targets aT_told_wakes aT_told_terms aT_told_sorts aT_told_numbers vT_told_people vT_told_spells vT_told_day vT_told_broken y2 hq) K_X8_people u1005 (x_Psub hP [7] rfl) rfl (q0 := 0) rfl (by decide) ⟨Nat.zero_le _, Nat.zero_le _⟩ rfl hl.1 rfl (Nat.le_of_ble_eq_true rfl) rfl dX10_count_72 ?_
    exact ret _ _ _ dX10_count_75 ((show narrow _ (.int y2) = .int y2 from rfl).trans (congrArg Value.int (Option.some.inj hev)))
  replace hev := x_f c1 hev
  by_cases c3 : p1 = (1 : Int32)
  · replace hev := x_t c3 hev
    refine lv_tableIn (tgt := 76) hx hb dX10_count_1 (by rw [c3]; decide) (by rw [c3]; decide) (by rw [c3]; rfl) (by decide) ?_
    refine lv_aload_n hx hb dX10_count_76 rfl (lv_at hl 0 rfl) ?_
    refine va_get (D := G.1) (ci := 6) (v := .ref aT_told) (C := RX10) (T := TX10) (N := 14) hx hb hts i10 hown hK hP 0 rfl rfl 1 (by decide) (hw _ u417) (fun _ h9 => h9) rfl dX10_count_77 ?_
    obtain ⟨y4, hq, hev⟩ := x_bd hev
    refine roV X hKK hR (st1 := [.int y4]) (c_To_spells l G aT_told aT_told_kinds aT_told_targets aT_told_wakes aT_told_terms aT_told_sorts aT_told_numbers vT_told_people vT_told_spells vT_told_day vT_told_broken y4 hq) K_X8_spells u1070 (x_Psub hP [7] rfl) rfl (q0 := 0) rfl (by decide) ⟨Nat.zero_le _, Nat.zero_le _⟩ rfl hl.1 rfl (Nat.le_of_ble_eq_true rfl) rfl dX10_count_80 ?_
    exact ret _ _ _ dX10_count_83 ((show narrow _ (.int y4) = .int y4 from rfl).trans (congrArg Value.int (Option.some.inj hev)))
  replace hev := x_f c3 hev
  by_cases c5 : p1 = (2 : Int32)
  · replace hev := x_t c5 hev
    refine lv_tableIn (tgt := 84) hx hb dX10_count_1 (by rw [c5]; decide) (by rw [c5]; decide) (by rw [c5]; rfl) (by decide) ?_
    refine lv_aload_n hx hb dX10_count_84 rfl (lv_at hl 0 rfl) ?_
    refine va_get (D := G.1) (ci := 6) (v := .int vT_state) (C := RX10) (T := TX10) (N := 14) hx hb hts i10 hown hK hP 0 rfl rfl 12 (by decide) (hw _ u428) (fun _ h9 => h9) rfl dX10_count_85 ?_
    obtain ⟨y6, hq, hev⟩ := x_bd hev
    refine roS X hKK hR (st1 := [.int y6]) (c_St_holding l G vT_state y6 hq) K_X6_holding u919 (x_Psub hP [] rfl) (by decide) ⟨Nat.zero_le _, Nat.zero_le _⟩ rfl hl.1 rfl (Nat.le_of_ble_eq_true rfl) rfl dX10_count_88 ?_
    exact ret _ _ _ dX10_count_91 ((show narrow _ (.int y6) = .int y6 from rfl).trans (congrArg Value.int (Option.some.inj hev)))
  replace hev := x_f c5 hev
  by_cases c7 : p1 = (3 : Int32)
  · replace hev := x_t c7 hev
    refine lv_tableIn (tgt := 92) hx hb dX10_count_1 (by rw [c7]; decide) (by rw [c7]; decide) (by rw [c7]; rfl) (by decide) ?_
    refine lv_aload_n hx hb dX10_count_92 rfl (lv_at hl 0 rfl) ?_
    refine va_get (D := G.1) (ci := 6) (v := .int vT_state) (C := RX10) (T := TX10) (N := 14) hx hb hts i10 hown hK hP 0 rfl rfl 12 (by decide) (hw _ u428) (fun _ h9 => h9) rfl dX10_count_93 ?_
    obtain ⟨y8, hq, hev⟩ := x_bd hev
    refine roS X hKK hR (st1 := [.int y8]) (c_St_broken l G vT_state y8 hq) K_X6_broken u1071 (x_Psub hP [] rfl) (by decide) ⟨Nat.zero_le _, Nat.zero_le _⟩ rfl hl.1 rfl (Nat.le_of_ble_eq_true rfl) rfl dX10_count_96 ?_
    exact ret _ _ _ dX10_count_99 ((show narrow _ (.int y8) = .int y8 from rfl).trans (congrArg Value.int (Option.some.inj hev)))
  replace hev := x_f c7 hev
  by_cases c9 : p1 = (4 : Int32)
  · replace hev := x_t c9 hev
    refine lv_tableIn (tgt := 100) hx hb dX10_count_1 (by rw [c9]; decide) (by rw [c9]; decide) (by rw [c9]; rfl) (by decide) ?_
    refine lv_aload_n hx hb dX10_count_100 rfl (lv_at hl 0 rfl) ?_
    refine va_get (D := G.1) (ci := 6) (v := .int vT_state) (C := RX10) (T := TX10) (N := 14) hx hb hts i10 hown hK hP 0 rfl rfl 12 (by decide) (hw _ u428) (fun _ h9 => h9) rfl dX10_count_101 ?_
    obtain ⟨y10, hq, hev⟩ := x_bd hev
    refine roS X hKK hR (st1 := [.int y10]) (c_St_weepers l G vT_state y10 hq) K_X6_weepers u653 (x_Psub hP [] rfl) (by decide) ⟨Nat.zero_le _, Nat.zero_le _⟩ rfl hl.1 rfl (Nat.le_of_ble_eq_true rfl) rfl dX10_count_104 ?_
    exact ret _ _ _ dX10_count_107 ((show narrow _ (.int y10) = .int y10 from rfl).trans (congrArg Value.int (Option.some.inj hev)))
  replace hev := x_f c9 hev
  by_cases c11 : p1 = (5 : Int32)
  · replace hev := x_t c11 hev
    refine lv_tableIn (tgt := 108) hx hb dX10_count_1 (by rw [c11]; decide) (by rw [c11]; decide) (by rw [c11]; rfl) (by decide) ?_
    refine lv_aload_n hx hb dX10_count_108 rfl (lv_at hl 0 rfl) ?_
    refine va_get (D := G.1) (ci := 6) (v := .int vT_state) (C := RX10) (T := TX10) (N := 14) hx hb hts i10 hown hK hP 0 rfl rfl 12 (by decide) (hw _ u428) (fun _ h9 => h9) rfl dX10_count_109 ?_
    obtain ⟨y12, hq, hev⟩ := x_bd hev
    refine roS X hKK hR (st1 := [.int y12]) (c_St_day l G vT_state y12 hq) K_X6_day u976 (x_Psub hP [] rfl) (by decide) ⟨Nat.zero_le _, Nat.zero_le _⟩ rfl hl.1 rfl (Nat.le_of_ble_eq_true rfl) rfl dX10_count_112 ?_
    exact ret _ _ _ dX10_count_115 ((show narrow _ (.int y12) = .int y12 from rfl).trans (congrArg Value.int (Option.some.inj hev)))
  replace hev := x_f c11 hev
  by_cases c13 : p1 = (6 : Int32)
  · replace hev := x_t c13 hev
    refine lv_tableIn (tgt := 116) hx hb dX10_count_1 (by rw [c13]; decide) (by rw [c13]; decide) (by rw [c13]; rfl) (by decide) ?_
    refine lv_aload_n hx hb dX10_count_116 rfl (lv_at hl 0 rfl) ?_
    refine va_get (D := G.1) (ci := 6) (v := .int vT_state) (C := RX10) (T := TX10) (N := 14) hx hb hts i10 hown hK hP 0 rfl rfl 12 (by decide) (hw _ u428) (fun _ h9 => h9) rfl dX10_count_117 ?_
    obtain ⟨y14, hq, hev⟩ := x_bd hev
    refine roS X hKK hR (st1 := [.int y14]) (c_St_asked l G vT_state y14 hq) K_X6_asked u1074 (x_Psub hP [] rfl) (by decide) ⟨Nat.zero_le _, Nat.zero_le _⟩ rfl hl.1 rfl (Nat.le_of_ble_eq_true rfl) rfl dX10_count_120 ?_
    exact ret _ _ _ dX10_count_123 ((show narrow _ (.int y14) = .int y14 from rfl).trans (congrArg Value.int (Option.some.inj hev)))
  replace hev := x_f c13 hev
  by_cases c15 : p1 = (7 : Int32)
  · replace hev := x_t c15 hev
    refine lv_tableIn (tgt := 124) hx hb dX10_count_1 (by rw [c15]; decide) (by rw [c15]; decide) (by rw [c15]; rfl) (by decide) ?_
    refine lv_aload_n hx hb dX10_count_124 rfl (lv_at hl 0 rfl) ?_
    refine va_get (D := G.1) (ci := 6) (v := .int vT_deeds) (C := RX10) (T := TX10) (N := 14) hx hb hts i10 hown hK hP 0 rfl rfl 13 (by decide) (hw _ u429) (fun _ h9 => h9) rfl dX10_count_125 ?_
    exact ret _ _ _ dX10_count_128 ((show narrow _ (.int vT_deeds) = .int vT_deeds from rfl).trans (congrArg Value.int (Option.some.inj hev)))
  replace hev := x_f c15 hev
  by_cases c16 : p1 = (8 : Int32)
  · replace hev := x_t c16 hev
    refine lv_tableIn (tgt := 129) hx hb dX10_count_1 (by rw [c16]; decide) (by rw [c16]; decide) (by rw [c16]; rfl) (by decide) ?_
    refine lv_aload_n hx hb dX10_count_129 rfl (lv_at hl 0 rfl) ?_
    refine va_get (D := G.1) (ci := 6) (v := .ref aT_undoable) (C := RX10) (T := TX10) (N := 14) hx hb hts i10 hown hK hP 0 rfl rfl 7 (by decide) (hw _ u423) (fun _ h9 => h9) rfl dX10_count_130 ?_
    obtain ⟨y17, hq, hev⟩ := x_bd hev
    refine roV X hKK hR (st1 := [.int y17]) (c_Rw_size l G aT_undoable aT_undoable_items vT_undoable_size y17 hq) K_X3_size u467 (x_Psub hP [6] rfl) rfl (q0 := 0) rfl (by decide) ⟨Nat.zero_le _, Nat.zero_le _⟩ rfl hl.1 rfl (Nat.le_of_ble_eq_true rfl) rfl dX10_count_133 ?_
    exact ret _ _ _ dX10_count_136 ((show narrow _ (.int y17) = .int y17 from rfl).trans (congrArg Value.int (Option.some.inj hev)))
  replace hev := x_f c16 hev
  by_cases c18 : p1 = (9 : Int32)
  · replace hev := x_t c18 hev
    refine lv_tableIn (tgt := 137) hx hb dX10_count_1 (by rw [c18]; decide) (by rw [c18]; decide) (by rw [c18]; rfl) (by decide) ?_
    refine lv_aload_n hx hb dX10_count_137 rfl (lv_at hl 0 rfl) ?_
    refine va_get (D := G.1) (ci := 6) (v := .ref aT_row) (C := RX10) (T := TX10) (N := 14) hx hb hts i10 hown hK hP 0 rfl rfl 10 (by decide) (hw _ u426) (fun _ h9 => h9) rfl dX10_count_138 ?_
    obtain ⟨y19, hq, hev⟩ := x_bd hev
    refine roV X hKK hR (st1 := [.int y19]) (c_Rw_size l G aT_row aT_row_items vT_row_size y19 hq) K_X3_size u467 (x_Psub hP [5] rfl) rfl (q0 := 0) rfl (by decide) ⟨Nat.zero_le _, Nat.zero_le _⟩ rfl hl.1 rfl (Nat.le_of_ble_eq_true rfl) rfl dX10_count_141 ?_
    exact ret _ _ _ dX10_count_144 ((show narrow _ (.int y19) = .int y19 from rfl).trans (congrArg Value.int (Option.some.inj hev)))
  replace hev := x_f c18 hev
  by_cases c20 : p1 = (10 : Int32)
  · replace hev := x_t c20 hev
    refine lv_tableIn (tgt := 145) hx hb dX10_count_1 (by rw [c20]; decide) (by rw [c20]; decide) (by rw [c20]; rfl) (by decide) ?_
    refine lv_aload_n hx hb dX10_count_145 rfl (lv_at hl 0 rfl) ?_
    refine va_get (D := G.1) (ci := 6) (v := .ref aT_princes) (C := RX10) (T := TX10) (N := 14) hx hb hts i10 hown hK hP 0 rfl rfl 11 (by decide) (hw _ u427) (fun _ h9 => h9) rfl dX10_count_146 ?_
    obtain ⟨y21, hq, hev⟩ := x_bd hev
    refine roV X hKK hR (st1 := [.int y21]) (c_Rw_size l G aT_princes aT_princes_items vT_princes_size y21 hq) K_X3_size u467 (x_Psub hP [4] rfl) rfl (q0 := 0) rfl (by decide) ⟨Nat.zero_le _, Nat.zero_le _⟩ rfl hl.1 rfl (Nat.le_of_ble_eq_true rfl) rfl dX10_count_149 ?_
    exact ret _ _ _ dX10_count_152 ((show narrow _ (.int y21) = .int y21 from rfl).trans (congrArg Value.int (Option.some.inj hev)))
  replace hev := x_f c20 hev
  by_cases c22 : p1 = (11 : Int32)
  · replace hev := x_t c22 hev
    refine lv_tableIn (tgt := 153) hx hb dX10_count_1 (by rw [c22]; decide) (by rw [c22]; decide) (by rw [c22]; rfl) (by decide) ?_
    refine lv_aload_n hx hb dX10_count_153 rfl (lv_at hl 0 rfl) ?_
    refine va_get (D := G.1) (ci := 6) (v := .ref aT_trials) (C := RX10) (T := TX10) (N := 14) hx hb hts i10 hown hK hP 0 rfl rfl 6 (by decide) (hw _ u422) (fun _ h9 => h9) rfl dX10_count_154 ?_
    obtain ⟨y23, hq, hev⟩ := x_bd hev
    refine roV X hKK hR (st1 := [.int y23]) (c_Tr_size l G aT_trials aT_trials_trials aT_trials_so aT_trials_trials_items vT_trials_lifted vT_trials_people vT_trials_trials_size y23 hq) K_X9_size u993 (x_Psub hP [2, 3] rfl) rfl (q0 := 0) rfl (by decide) ⟨Nat.zero_le _, Nat.zero_le _⟩ rfl hl.1 rfl (Nat.le_of_ble_eq_true rfl) rfl dX10_count_157 ?_
    exact ret _ _ _ dX10_count_160 ((show narrow _ (.int y23) = .int y23 from rfl).trans (congrArg Value.int (Option.some.inj hev)))
  replace hev := x_f c22 hev
  by_cases c24 : p1 = (12 : Int32)
  · replace hev := x_t c24 hev
    refine lv_tableIn (tgt := 161) hx hb dX10_count_1 (by rw [c24]; decide) (by rw [c24]; decide) (by rw [c24]; rfl) (by decide) ?_
    refine lv_aload_n hx hb dX10_count_161 rfl (lv_at hl 0 rfl) ?_
    refine va_get (D := G.1) (ci := 6) (v := .ref aT_text) (C := RX10) (T := TX10) (N := 14) hx hb hts i10 hown hK hP 0 rfl rfl 0 (by decide) (hw _ u416) (fun _ h9 => h9) rfl dX10_count_162 ?_
    obtain ⟨y25, hq, hev⟩ := x_bd hev
    refine roV X hKK hR (st1 := [.int y25]) (c_Rw_size l G aT_text aT_text_items vT_text_size y25 hq) K_X3_size u467 (x_Psub hP [1] rfl) rfl (q0 := 0) rfl (by decide) ⟨Nat.zero_le _, Nat.zero_le _⟩ rfl hl.1 rfl (Nat.le_of_ble_eq_true rfl) rfl dX10_count_165 ?_
    exact ret _ _ _ dX10_count_168 ((show narrow _ (.int y25) = .int y25 from rfl).trans (congrArg Value.int (Option.some.inj hev)))
  replace hev := x_f c24 hev
  refine lv_tableOut (tgt := 169) hx hb dX10_count_1 (by have q0 : p1.toInt ≠ 0 := x_ne c1; have q1 : p1.toInt ≠ 1 := x_ne c3; have q2 : p1.toInt ≠ 2 := x_ne c5; have q3 : p1.toInt ≠ 3 := x_ne c7; have q4 : p1.toInt ≠ 4 := x_ne c9; have q5 : p1.toInt ≠ 5 := x_ne c11; have q6 : p1.toInt ≠ 6 := x_ne c13; have q7 : p1.toInt ≠ 7 := x_ne c15; have q8 : p1.toInt ≠ 8 := x_ne c16; have q9 : p1.toInt ≠ 9 := x_ne c18; have q10 : p1.toInt ≠ 10 := x_ne c20; have q11 : p1.toInt ≠ 11 := x_ne c22; have q12 : p1.toInt ≠ 12 := x_ne c24; omega) (by decide) ?_
  refine lv_bipush (v := (-3 : Int32)) hx hb dX10_count_169 (by decide) ?_
  exact ret _ _ _ dX10_count_171 ((show narrow _ (.int (-3 : Int32)) = .int (-3 : Int32) from rfl).trans (congrArg Value.int (Option.some.inj hev)))
