def f_SS_spell_J100 (vT_state : Int32) (vT_told_spells : Int32) (fT_rules_binders : Nat → Int32) (fT_told_kinds : Nat → Int32) (fT_told_targets : Nat → Int32) (fT_told_terms : Nat → Int32) (fT_told_wakes : Nat → Int32) (s0 : Int32) : Option (Int32) := x_B (f_SS_oneIf s0) (fun y1 => some y1)
def f_SS_spell (vT_state : Int32) (vT_told_spells : Int32) (fT_rules_binders : Nat → Int32) (fT_told_kinds : Nat → Int32) (fT_told_targets : Nat → Int32) (fT_told_terms : Nat → Int32) (fT_told_wakes : Nat → Int32) (p1 : Int32) (p2 : Int32) : Option (Int32) := x_B (f_To_hasSpell vT_told_spells p1) (fun y2 => if y2 = 0 then (some (-2 : Int32)) else if p2 = (0 : Int32) then (x_B (f_To_kindOf vT_told_spells fT_told_kinds p1) (fun y5 => some y5)) else if p2 = (1 : Int32) then (x_B (f_To_targetOf vT_told_spells fT_told_targets p1) (fun y7 => some y7)) else if p2 = (2 : Int32) then (some ((vT_state >>> (p1 &&& 31)) &&& (1 : Int32))) else if p2 = (3 : Int32) then (x_B (f_Ru_bindersOf fT_rules_binders p1) (fun y10 => if (vT_state &&& y10) = 0 then (f_SS_spell_J100 vT_state vT_told_spells fT_rules_binders fT_told_kinds fT_told_targets fT_told_terms fT_told_wakes (0 : Int32)) else f_SS_spell_J100 vT_state vT_told_spells fT_rules_binders fT_told_kinds fT_told_targets fT_told_terms fT_told_wakes (1 : Int32))) else if p2 = (4 : Int32) then (x_B (f_To_termsOf vT_told_spells fT_told_terms p1) (fun y13 => some y13)) else if p2 = (5 : Int32) then (x_B (f_To_wakenedBy vT_told_spells fT_told_wakes p1) (fun y15 => some y15)) else some (-3 : Int32))
set_option maxHeartbeats 8000000 in
set_option maxRecDepth 100000 in
theorem c_SS_spell (l : Launch) (G : GG) (aT aT_text aT_told aT_reader aT_rules aT_fromNow aT_whatIf aT_trials aT_undoable aT_keptStates aT_keptDeeds aT_row aT_princes aT_told_kinds aT_told_targets aT_told_wakes aT_told_terms aT_told_sorts aT_told_numbers aT_rules_masks aT_rules_values aT_rules_askings aT_rules_kissesNeeded aT_rules_wakings aT_rules_binders aT_rules_curses aT_rules_doers aT_rules_sorts aT_rules_whichs aT_rules_bars aT_rules_bits aT_rules_kisses : Nat) (vT_state : Int32) (vT_deeds : Int32) (vT_told_people : Int32) (vT_told_spells : Int32) (vT_told_day : Int32) (vT_told_broken : Int32) (vT_rules_people : Int32) (vT_rules_spells : Int32) (vT_rules_deedCount : Int32) (fT_told_wakes : Nat → Int32) (fT_told_terms : Nat → Int32) (fT_rules_binders : Nat → Int32) (fT_told_targets : Nat → Int32) (fT_told_kinds : Nat → Int32) (p1 : Int32) (p2 : Int32) (r0 : Int32) (hev : f_SS_spell vT_state vT_told_spells fT_rules_binders fT_told_kinds fT_told_targets fT_told_terms fT_told_wakes p1 p2 = some r0) : RO l G yX10_spell cX10_spell 3 (some .int) 2 [.ref aT, .int p1, .int p2] [(aT, .inr (6, [.ref aT_text, .ref aT_told, .ref aT_reader, .ref aT_rules, .ref aT_fromNow, .ref aT_whatIf, .ref aT_trials, .ref aT_undoable, .ref aT_keptStates, .ref aT_keptDeeds, .ref aT_row, .ref aT_princes, .int vT_state, .int vT_deeds])), (aT_told, .inr (4, [.int vT_told_people, .int vT_told_spells, .int vT_told_day, .int vT_told_broken, .ref aT_told_kinds, .ref aT_told_targets, .ref aT_told_wakes, .ref aT_told_terms, .ref aT_told_sorts, .ref aT_told_numbers])), (aT_rules, .inr (2, [.int vT_rules_people, .int vT_rules_spells, .int vT_rules_deedCount, .ref aT_rules_masks, .ref aT_rules_values, .ref aT_rules_askings, .ref aT_rules_kissesNeeded, .ref aT_rules_wakings, .ref aT_rules_binders, .ref aT_rules_curses, .ref aT_rules_doers, .ref aT_rules_sorts, .ref aT_rules_whichs, .ref aT_rules_bars, .ref aT_rules_bits, .ref aT_rules_kisses])), (aT_told_wakes, .inl (G.2.1, 5, .inl fT_told_wakes)), (aT_told_terms, .inl (G.2.1, 5, .inl fT_told_terms)), (aT_rules_binders, .inl (G.2.1, 5, .inl fT_rules_binders)), (aT_told_targets, .inl (G.2.1, 5, .inl fT_told_targets)), (aT_told_kinds, .inl (G.2.1, 5, .inl fT_told_kinds))] (some (.int r0)) := by
  refine RO_of (by decide) (Nat.le_of_ble_eq_true rfl) ?_
  intro p e s m ar below meth c R Q H ls X hR hP hKK hS0 hl ret
  generalize hrs : r0 = rs at hev ret
  have hl : lv_has ls 3 [(0, .ref aT), (1, .int p1), (2, .int p2)] := hl
  obtain ⟨hx, hb, hml, hown, hts, hT⟩ := id X
  have hK := hKK.1
  have hw : ∀ w ∈ T0, w.before ar s = true := fun w h => hts w (hT w h)
  have i10 := fun w h => hT w (inT10 w h)
  have J100 : ∀ (s0 : Int32), ∀ (ls : Array Slot), f_SS_spell_J100 vT_state vT_told_spells fT_rules_binders fT_told_kinds fT_told_targets fT_told_terms fT_told_wakes s0 = some rs → lv_has ls 3 [] → W p l e R s m ar below meth c H [] 0 0 Q (F0 m 100 ls [.int s0]) := by
    intro s0 ls hev hl
    unfold f_SS_spell_J100 at hev
    obtain ⟨y1, hq, hev⟩ := x_bd hev
    refine roS X hKK hR (st1 := [.int y1]) (c_SS_oneIf l G s0 y1 hq) K_X10_oneIf u662 (x_Psub hP [] rfl) (by decide) ⟨Nat.zero_le _, Nat.zero_le _⟩ rfl hl.1 rfl (Nat.le_of_ble_eq_true rfl) rfl dX10_spell_100 ?_
    exact ret _ _ _ dX10_spell_103 ((show narrow _ (.int y1) = .int y1 from rfl).trans (congrArg Value.int (Option.some.inj hev)))
  unfold f_SS_spell at hev
  refine lv_aload_n hx hb dX10_spell_0 rfl (lv_at hl 0 rfl) ?_
  refine va_get (D := G.1) (ci := 6) (v := .ref aT_told) (C := RX10) (T := TX10) (N := 14) hx hb hts i10 hown hK hP 0 rfl rfl 1 (by decide) (hw _ u418) (fun _ h9 => h9) rfl dX10_spell_1 ?_
  refine lv_iload_n hx hb dX10_spell_4 rfl (lv_at hl 1 rfl) ?_
  obtain ⟨y2, hq, hev⟩ := x_bd hev
  refine roV X hKK hR (st1 := [.int y2]) (c_To_hasSpell l G aT_told aT_told_kinds aT_told_targets aT_told_wakes aT_told_terms aT_told_sorts aT_told_numbers vT_told_people vT_told_spells vT_told_day vT_told_broken p1 y2 hq) K_X8_hasSpell u669 (x_Psub hP [1] rfl) rfl (q0 := 0) rfl (by decide) ⟨Nat.zero_le _, Nat.zero_le _⟩ rfl hl.1 rfl (Nat.le_of_ble_eq_true rfl) rfl dX10_spell_5 ?_
  refine lv_if_ne (tgt := 14) hx hb dX10_spell_8 (by decide) (fun c3 => ?_) (fun c3 => ?_)
  · replace hev := x_f c3 hev
    refine lv_iload_n hx hb dX10_spell_14 rfl (lv_at hl 2 rfl) ?_
    by_cases c4 : p2 = (0 : Int32)
    · replace hev := x_t c4 hev
      refine lv_tableIn (tgt := 52) hx hb dX10_spell_15 (by rw [c4]; decide) (by rw [c4]; decide) (by rw [c4]; rfl) (by decide) ?_
      refine lv_aload_n hx hb dX10_spell_52 rfl (lv_at hl 0 rfl) ?_
      refine va_get (D := G.1) (ci := 6) (v := .ref aT_told) (C := RX10) (T := TX10) (N := 14) hx hb hts i10 hown hK hP 0 rfl rfl 1 (by decide) (hw _ u418) (fun _ h9 => h9) rfl dX10_spell_53 ?_
      refine lv_iload_n hx hb dX10_spell_56 rfl (lv_at hl 1 rfl) ?_
      obtain ⟨y5, hq, hev⟩ := x_bd hev
      refine roV X hKK hR (st1 := [.int y5]) (c_To_kindOf l G aT_told aT_told_kinds aT_told_targets aT_told_wakes aT_told_terms aT_told_sorts aT_told_numbers vT_told_people vT_told_spells vT_told_day vT_told_broken fT_told_kinds p1 y5 hq) K_X8_kindOf u670 (x_Psub hP [1, 7] rfl) rfl (q0 := 0) rfl (by decide) ⟨Nat.zero_le _, Nat.zero_le _⟩ rfl hl.1 rfl (Nat.le_of_ble_eq_true rfl) rfl dX10_spell_57 ?_
      exact ret _ _ _ dX10_spell_60 ((show narrow _ (.int y5) = .int y5 from rfl).trans (congrArg Value.int (Option.some.inj hev)))
    replace hev := x_f c4 hev
    by_cases c6 : p2 = (1 : Int32)
    · replace hev := x_t c6 hev
      refine lv_tableIn (tgt := 61) hx hb dX10_spell_15 (by rw [c6]; decide) (by rw [c6]; decide) (by rw [c6]; rfl) (by decide) ?_
      refine lv_aload_n hx hb dX10_spell_61 rfl (lv_at hl 0 rfl) ?_
      refine va_get (D := G.1) (ci := 6) (v := .ref aT_told) (C := RX10) (T := TX10) (N := 14) hx hb hts i10 hown hK hP 0 rfl rfl 1 (by decide) (hw _ u418) (fun _ h9 => h9) rfl dX10_spell_62 ?_
      refine lv_iload_n hx hb dX10_spell_65 rfl (lv_at hl 1 rfl) ?_
      obtain ⟨y7, hq, hev⟩ := x_bd hev
      refine roV X hKK hR (st1 := [.int y7]) (c_To_targetOf l G aT_told aT_told_kinds aT_told_targets aT_told_wakes aT_told_terms aT_told_sorts aT_told_numbers vT_told_people vT_told_spells vT_told_day vT_told_broken fT_told_targets p1 y7 hq) K_X8_targetOf u671 (x_Psub hP [1, 6] rfl) rfl (q0 := 0) rfl (by decide) ⟨Nat.zero_le _, Nat.zero_le _⟩ rfl hl.1 rfl (Nat.le_of_ble_eq_true rfl) rfl dX10_spell_66 ?_
      exact ret _ _ _ dX10_spell_69 ((show narrow _ (.int y7) = .int y7 from rfl).trans (congrArg Value.int (Option.some.inj hev)))
    replace hev := x_f c6 hev
    by_cases c8 : p2 = (2 : Int32)
    · replace hev := x_t c8 hev
      refine lv_tableIn (tgt := 70) hx hb dX10_spell_15 (by rw [c8]; decide) (by rw [c8]; decide) (by rw [c8]; rfl) (by decide) ?_
      refine lv_aload_n hx hb dX10_spell_70 rfl (lv_at hl 0 rfl) ?_
      refine va_get (D := G.1) (ci := 6) (v := .int vT_state) (C := RX10) (T := TX10) (N := 14) hx hb hts i10 hown hK hP 0 rfl rfl 12 (by decide) (hw _ u429) (fun _ h9 => h9) rfl dX10_spell_71 ?_
      refine lv_iload_n hx hb dX10_spell_74 rfl (lv_at hl 1 rfl) ?_
      refine lv_ishr hx hb dX10_spell_75 ?_
      refine lv_iconst (v := (1 : Int32)) hx hb dX10_spell_76 (by decide) ?_
      refine lv_iand hx hb dX10_spell_77 ?_
      exact ret _ _ _ dX10_spell_78 ((show narrow _ (.int ((vT_state >>> (p1 &&& 31)) &&& (1 : Int32))) = .int ((vT_state >>> (p1 &&& 31)) &&& (1 : Int32)) from rfl).trans (congrArg Value.int (Option.some.inj hev)))
    replace hev := x_f c8 hev
    by_cases c9 : p2 = (3 : Int32)
    · replace hev := x_t c9 hev
      refine lv_tableIn (tgt := 79) hx hb dX10_spell_15 (by rw [c9]; decide) (by rw [c9]; decide) (by rw [c9]; rfl) (by decide) ?_
      refine lv_aload_n hx hb dX10_spell_79 rfl (lv_at hl 0 rfl) ?_
      refine va_get (D := G.1) (ci := 6) (v := .int vT_state) (C := RX10) (T := TX10) (N := 14) hx hb hts i10 hown hK hP 0 rfl rfl 12 (by decide) (hw _ u429) (fun _ h9 => h9) rfl dX10_spell_80 ?_
      refine lv_aload_n hx hb dX10_spell_83 rfl (lv_at hl 0 rfl) ?_
      refine va_get (D := G.1) (ci := 6) (v := .ref aT_rules) (C := RX10) (T := TX10) (N := 14) hx hb hts i10 hown hK hP 0 rfl rfl 3 (by decide) (hw _ u420) (fun _ h9 => h9) rfl dX10_spell_84 ?_
      refine lv_iload_n hx hb dX10_spell_87 rfl (lv_at hl 1 rfl) ?_
      obtain ⟨y10, hq, hev⟩ := x_bd hev
      refine roV X hKK hR (st1 := [.int y10, .int vT_state]) (c_Ru_bindersOf l G aT_rules aT_rules_masks aT_rules_values aT_rules_askings aT_rules_kissesNeeded aT_rules_wakings aT_rules_binders aT_rules_curses aT_rules_doers aT_rules_sorts aT_rules_whichs aT_rules_bars aT_rules_bits aT_rules_kisses vT_rules_people vT_rules_spells vT_rules_deedCount fT_rules_binders p1 y10 hq) K_X4_bindersOf u672 (x_Psub hP [2, 5] rfl) rfl (q0 := 0) rfl (by decide) ⟨Nat.zero_le _, Nat.zero_le _⟩ rfl hl.1 rfl (Nat.le_of_ble_eq_true rfl) rfl dX10_spell_88 ?_
      refine lv_iand hx hb dX10_spell_91 ?_
      refine lv_if_eq (tgt := 99) hx hb dX10_spell_92 (by decide) (fun c11 => ?_) (fun c11 => ?_)
      · replace hev := x_t c11 hev
        refine lv_iconst (v := (0 : Int32)) hx hb dX10_spell_99 (by decide) ?_
        exact J100 (0 : Int32) ls hev (lv_sub hl [] rfl)
      · replace hev := x_f c11 hev
        refine lv_iconst (v := (1 : Int32)) hx hb dX10_spell_95 (by decide) ?_
        refine lv_goto (tgt := 100) hx hb dX10_spell_96 (by decide) ?_
        exact J100 (1 : Int32) ls hev (lv_sub hl [] rfl)
    replace hev := x_f c9 hev
    by_cases c12 : p2 = (4 : Int32)
    · replace hev := x_t c12 hev
      refine lv_tableIn (tgt := 104) hx hb dX10_spell_15 (by rw [c12]; decide) (by rw [c12]; decide) (by rw [c12]; rfl) (by decide) ?_
      refine lv_aload_n hx hb dX10_spell_104 rfl (lv_at hl 0 rfl) ?_
      refine va_get (D := G.1) (ci := 6) (v := .ref aT_told) (C := RX10) (T := TX10) (N := 14) hx hb hts i10 hown hK hP 0 rfl rfl 1 (by decide) (hw _ u418) (fun _ h9 => h9) rfl dX10_spell_105 ?_
      refine lv_iload_n hx hb dX10_spell_108 rfl (lv_at hl 1 rfl) ?_
      obtain ⟨y13, hq, hev⟩ := x_bd hev
      refine roV X hKK hR (st1 := [.int y13]) (c_To_termsOf l G aT_told aT_told_kinds aT_told_targets aT_told_wakes aT_told_terms aT_told_sorts aT_told_numbers vT_told_people vT_told_spells vT_told_day vT_told_broken fT_told_terms p1 y13 hq) K_X8_termsOf u676 (x_Psub hP [1, 4] rfl) rfl (q0 := 0) rfl (by decide) ⟨Nat.zero_le _, Nat.zero_le _⟩ rfl hl.1 rfl (Nat.le_of_ble_eq_true rfl) rfl dX10_spell_109 ?_
      exact ret _ _ _ dX10_spell_112 ((show narrow _ (.int y13) = .int y13 from rfl).trans (congrArg Value.int (Option.some.inj hev)))
    replace hev := x_f c12 hev
    by_cases c14 : p2 = (5 : Int32)
    · replace hev := x_t c14 hev
      refine lv_tableIn (tgt := 113) hx hb dX10_spell_15 (by rw [c14]; decide) (by rw [c14]; decide) (by rw [c14]; rfl) (by decide) ?_
      refine lv_aload_n hx hb dX10_spell_113 rfl (lv_at hl 0 rfl) ?_
      refine va_get (D := G.1) (ci := 6) (v := .ref aT_told) (C := RX10) (T := TX10) (N := 14) hx hb hts i10 hown hK hP 0 rfl rfl 1 (by decide) (hw _ u418) (fun _ h9 => h9) rfl dX10_spell_114 ?_
      refine lv_iload_n hx hb dX10_spell_117 rfl (lv_at hl 1 rfl) ?_
      obtain ⟨y15, hq, hev⟩ := x_bd hev
      refine roV X hKK hR (st1 := [.int y15]) (c_To_wakenedBy l G aT_told aT_told_kinds aT_told_targets aT_told_wakes aT_told_terms aT_told_sorts aT_told_numbers vT_told_people vT_told_spells vT_told_day vT_told_broken fT_told_wakes p1 y15 hq) K_X8_wakenedBy u677 (x_Psub hP [1, 3] rfl) rfl (q0 := 0) rfl (by decide) ⟨Nat.zero_le _, Nat.zero_le _⟩ rfl hl.1 rfl (Nat.le_of_ble_eq_true rfl) rfl dX10_spell_118 ?_
      exact ret _ _ _ dX10_spell_121 ((show narrow _ (.int y15) = .int y15 from rfl).trans (congrArg Value.int (Option.some.inj hev)))
    replace hev := x_f c14 hev
    refine lv_tableOut (tgt := 122) hx hb dX10_spell_15 (by have q0 : p2.toInt ≠ 0 := x_ne c4; have q1 : p2.toInt ≠ 1 := x_ne c6; have q2 : p2.toInt ≠ 2 := x_ne c8; have q3 : p2.toInt ≠ 3 := x_ne c9; have q4 : p2.toInt ≠ 4 := x_ne c12; have q5 : p2.toInt ≠ 5 := x_ne c14; omega) (by decide) ?_
    refine lv_bipush (v := (-3 : Int32)) hx hb dX10_spell_122 (by decide) ?_
    exact ret _ _ _ dX10_spell_124 ((show narrow _ (.int (-3 : Int32)) = .int (-3 : Int32) from rfl).trans (congrArg Value.int (Option.some.inj hev)))
  · replace hev := x_t c3 hev
    refine lv_bipush (v := (-2 : Int32)) hx hb dX10_spell_11 (by decide) ?_
    exact ret _ _ _ dX10_spell_13 ((show narrow _ (.int (-2 : Int32)) = .int (-2 : Int32) from rfl).trans (congrArg Value.int (Option.some.inj hev)))
def f_SS_isSoNow (vT_state : Int32) (vT_told_spells : Int32) (fT_told_numbers : Nat → Int32) (fT_told_sorts : Nat → Int32) (fT_told_terms : Nat → Int32) (p1 : Int32) (p2 : Int32) : Option (Int32) := x_B (f_To_sortOf vT_told_spells fT_told_sorts fT_told_terms p1 p2) (fun y1 => x_B (f_To_numberOf vT_told_spells fT_told_numbers fT_told_terms p1 p2) (fun y2 => x_B (f_Tm_isSo y1 y2 vT_state) (fun y3 => some (y3 &&& 1))))
set_option maxHeartbeats 8000000 in
set_option maxRecDepth 100000 in
theorem c_SS_isSoNow (l : Launch) (G : GG) (aT aT_text aT_told aT_reader aT_rules aT_fromNow aT_whatIf aT_trials aT_undoable aT_keptStates aT_keptDeeds aT_row aT_princes aT_told_kinds aT_told_targets aT_told_wakes aT_told_terms aT_told_sorts aT_told_numbers : Nat) (vT_state : Int32) (vT_deeds : Int32) (vT_told_people : Int32) (vT_told_spells : Int32) (vT_told_day : Int32) (vT_told_broken : Int32) (fT_told_terms : Nat → Int32) (fT_told_sorts : Nat → Int32) (fT_told_numbers : Nat → Int32) (p1 : Int32) (p2 : Int32) (r0 : Int32) (hev : f_SS_isSoNow vT_state vT_told_spells fT_told_numbers fT_told_sorts fT_told_terms p1 p2 = some r0) : RO l G yX10_isSoNow cX10_isSoNow 3 (some .boolean) 3 [.ref aT, .int p1, .int p2] [(aT, .inr (6, [.ref aT_text, .ref aT_told, .ref aT_reader, .ref aT_rules, .ref aT_fromNow, .ref aT_whatIf, .ref aT_trials, .ref aT_undoable, .ref aT_keptStates, .ref aT_keptDeeds, .ref aT_row, .ref aT_princes, .int vT_state, .int vT_deeds])), (aT_told, .inr (4, [.int vT_told_people, .int vT_told_spells, .int vT_told_day, .int vT_told_broken, .ref aT_told_kinds, .ref aT_told_targets, .ref aT_told_wakes, .ref aT_told_terms, .ref aT_told_sorts, .ref aT_told_numbers])), (aT_told_terms, .inl (G.2.1, 5, .inl fT_told_terms)), (aT_told_sorts, .inl (G.2.1, 15, .inl fT_told_sorts)), (aT_told_numbers, .inl (G.2.1, 15, .inl fT_told_numbers))] (some (.int r0)) := by
  refine RO_of (by decide) (Nat.le_of_ble_eq_true rfl) ?_
  intro p e s m ar below meth c R Q H ls X hR hP hKK hS0 hl ret
  generalize hrs : r0 = rs at hev ret
  have hl : lv_has ls 3 [(0, .ref aT), (1, .int p1), (2, .int p2)] := hl
  obtain ⟨hx, hb, hml, hown, hts, hT⟩ := id X
  have hK := hKK.1
  have hw : ∀ w ∈ T0, w.before ar s = true := fun w h => hts w (hT w h)
  have i10 := fun w h => hT w (inT10 w h)
  unfold f_SS_isSoNow at hev
  refine lv_aload_n hx hb dX10_isSoNow_0 rfl (lv_at hl 0 rfl) ?_
  refine va_get (D := G.1) (ci := 6) (v := .ref aT_told) (C := RX10) (T := TX10) (N := 14) hx hb hts i10 hown hK hP 0 rfl rfl 1 (by decide) (hw _ u418) (fun _ h9 => h9) rfl dX10_isSoNow_1 ?_
  refine lv_iload_n hx hb dX10_isSoNow_4 rfl (lv_at hl 1 rfl) ?_
  refine lv_iload_n hx hb dX10_isSoNow_5 rfl (lv_at hl 2 rfl) ?_
  obtain ⟨y1, hq, hev⟩ := x_bd hev
  refine roV X hKK hR (st1 := [.int y1]) (c_To_sortOf l G aT_told aT_told_kinds aT_told_targets aT_told_wakes aT_told_terms aT_told_sorts aT_told_numbers vT_told_people vT_told_spells vT_told_day vT_told_broken fT_told_terms fT_told_sorts p1 p2 y1 hq) K_X8_sortOf u682 (x_Psub hP [1, 2, 3] rfl) rfl (q0 := 0) rfl (by decide) ⟨Nat.zero_le _, Nat.zero_le _⟩ rfl hl.1 rfl (Nat.le_of_ble_eq_true rfl) rfl dX10_isSoNow_6 ?_
  refine lv_aload_n hx hb dX10_isSoNow_9 rfl (lv_at hl 0 rfl) ?_
  refine va_get (D := G.1) (ci := 6) (v := .ref aT_told) (C := RX10) (T := TX10) (N := 14) hx hb hts i10 hown hK hP 0 rfl rfl 1 (by decide) (hw _ u418) (fun _ h9 => h9) rfl dX10_isSoNow_10 ?_
  refine lv_iload_n hx hb dX10_isSoNow_13 rfl (lv_at hl 1 rfl) ?_
  refine lv_iload_n hx hb dX10_isSoNow_14 rfl (lv_at hl 2 rfl) ?_
  obtain ⟨y2, hq, hev⟩ := x_bd hev
  refine roV X hKK hR (st1 := [.int y2, .int y1]) (c_To_numberOf l G aT_told aT_told_kinds aT_told_targets aT_told_wakes aT_told_terms aT_told_sorts aT_told_numbers vT_told_people vT_told_spells vT_told_day vT_told_broken fT_told_terms fT_told_numbers p1 p2 y2 hq) K_X8_numberOf u683 (x_Psub hP [1, 2, 4] rfl) rfl (q0 := 0) rfl (by decide) ⟨Nat.zero_le _, Nat.zero_le _⟩ rfl hl.1 rfl (Nat.le_of_ble_eq_true rfl) rfl dX10_isSoNow_15 ?_
  refine lv_aload_n hx hb dX10_isSoNow_18 rfl (lv_at hl 0 rfl) ?_
  refine va_get (D := G.1) (ci := 6) (v := .int vT_state) (C := RX10) (T := TX10) (N := 14) hx hb hts i10 hown hK hP 0 rfl rfl 12 (by decide) (hw _ u429) (fun _ h9 => h9) rfl dX10_isSoNow_19 ?_
  obtain ⟨y3, hq, hev⟩ := x_bd hev
  refine roS X hKK hR (st1 := [.int y3]) (c_Tm_isSo l G y1 y2 vT_state y3 hq) K_X7_isSo u688 (x_Psub hP [] rfl) (by decide) ⟨Nat.zero_le _, Nat.zero_le _⟩ rfl hl.1 rfl (Nat.le_of_ble_eq_true rfl) rfl dX10_isSoNow_22 ?_
  exact ret _ _ _ dX10_isSoNow_25 ((show narrow _ (.int y3) = .int (y3 &&& 1) from rfl).trans (congrArg Value.int (Option.some.inj hev)))
def f_SS_term (vT_state : Int32) (vT_told_spells : Int32) (fT_told_numbers : Nat → Int32) (fT_told_sorts : Nat → Int32) (fT_told_terms : Nat → Int32) (p1 : Int32) (p2 : Int32) (p3 : Int32) : Option (Int32) := x_B (f_To_hasSpell vT_told_spells p1) (fun y1 => if y1 = 0 then (some (-2 : Int32)) else if p2 < 0 then (some (-2 : Int32)) else x_B (f_To_termsOf vT_told_spells fT_told_terms p1) (fun y4 => if p2 < y4 then (if p3 = (0 : Int32) then (x_B (f_To_sortOf vT_told_spells fT_told_sorts fT_told_terms p1 p2) (fun y7 => some y7)) else if p3 = (1 : Int32) then (x_B (f_To_numberOf vT_told_spells fT_told_numbers fT_told_terms p1 p2) (fun y9 => some y9)) else if p3 = (2 : Int32) then (x_B (f_SS_isSoNow vT_state vT_told_spells fT_told_numbers fT_told_sorts fT_told_terms p1 p2) (fun y11 => x_B (f_SS_oneIf y11) (fun y12 => some y12))) else some (-3 : Int32)) else some (-2 : Int32)))
set_option maxHeartbeats 8000000 in
set_option maxRecDepth 100000 in
theorem c_SS_term (l : Launch) (G : GG) (aT aT_text aT_told aT_reader aT_rules aT_fromNow aT_whatIf aT_trials aT_undoable aT_keptStates aT_keptDeeds aT_row aT_princes aT_told_kinds aT_told_targets aT_told_wakes aT_told_terms aT_told_sorts aT_told_numbers : Nat) (vT_state : Int32) (vT_deeds : Int32) (vT_told_people : Int32) (vT_told_spells : Int32) (vT_told_day : Int32) (vT_told_broken : Int32) (fT_told_terms : Nat → Int32) (fT_told_sorts : Nat → Int32) (fT_told_numbers : Nat → Int32) (p1 : Int32) (p2 : Int32) (p3 : Int32) (r0 : Int32) (hev : f_SS_term vT_state vT_told_spells fT_told_numbers fT_told_sorts fT_told_terms p1 p2 p3 = some r0) : RO l G yX10_term cX10_term 4 (some .int) 4 [.ref aT, .int p1, .int p2, .int p3] [(aT, .inr (6, [.ref aT_text, .ref aT_told, .ref aT_reader, .ref aT_rules, .ref aT_fromNow, .ref aT_whatIf, .ref aT_trials, .ref aT_undoable, .ref aT_keptStates, .ref aT_keptDeeds, .ref aT_row, .ref aT_princes, .int vT_state, .int vT_deeds])), (aT_told, .inr (4, [.int vT_told_people, .int vT_told_spells, .int vT_told_day, .int vT_told_broken, .ref aT_told_kinds, .ref aT_told_targets, .ref aT_told_wakes, .ref aT_told_terms, .ref aT_told_sorts, .ref aT_told_numbers])), (aT_told_terms, .inl (G.2.1, 5, .inl fT_told_terms)), (aT_told_sorts, .inl (G.2.1, 15, .inl fT_told_sorts)), (aT_told_numbers, .inl (G.2.1, 15, .inl fT_told_numbers))] (some (.int r0)) := by
  refine RO_of (by decide) (Nat.le_of_ble_eq_true rfl) ?_
  intro p e s m ar below meth c R Q H ls X hR hP hKK hS0 hl ret
  generalize hrs : r0 = rs at hev ret
  have hl : lv_has ls 4 [(0, .ref aT), (1, .int p1), (2, .int p2), (3, .int p3)] := hl
  obtain ⟨hx, hb, hml, hown, hts, hT⟩ := id X
  have hK := hKK.1
  have hw : ∀ w ∈ T0, w.before ar s = true := fun w h => hts w (hT w h)
  have i10 := fun w h => hT w (inT10 w h)
  unfold f_SS_term at hev
  refine lv_aload_n hx hb dX10_term_0 rfl (lv_at hl 0 rfl) ?_
  refine va_get (D := G.1) (ci := 6) (v := .ref aT_told) (C := RX10) (T := TX10) (N := 14) hx hb hts i10 hown hK hP 0 rfl rfl 1 (by decide) (hw _ u418) (fun _ h9 => h9) rfl dX10_term_1 ?_
  refine lv_iload_n hx hb dX10_term_4 rfl (lv_at hl 1 rfl) ?_
  obtain ⟨y1, hq, hev⟩ := x_bd hev
  refine roV X hKK hR (st1 := [.int y1]) (c_To_hasSpell l G aT_told aT_told_kinds aT_told_targets aT_told_wakes aT_told_terms aT_told_sorts aT_told_numbers vT_told_people vT_told_spells vT_told_day vT_told_broken p1 y1 hq) K_X8_hasSpell u669 (x_Psub hP [1] rfl) rfl (q0 := 0) rfl (by decide) ⟨Nat.zero_le _, Nat.zero_le _⟩ rfl hl.1 rfl (Nat.le_of_ble_eq_true rfl) rfl dX10_term_5 ?_
  refine lv_if_eq (tgt := 27) hx hb dX10_term_8 (by decide) (fun c2 => ?_) (fun c2 => ?_)
  · replace hev := x_t c2 hev
    refine lv_bipush (v := (-2 : Int32)) hx hb dX10_term_27 (by decide) ?_
    exact ret _ _ _ dX10_term_29 ((show narrow _ (.int (-2 : Int32)) = .int (-2 : Int32) from rfl).trans (congrArg Value.int (Option.some.inj hev)))
  · replace hev := x_f c2 hev
    refine lv_iload_n hx hb dX10_term_11 rfl (lv_at hl 2 rfl) ?_
    refine lv_if_lt (tgt := 27) hx hb dX10_term_12 (by decide) (fun c3 => ?_) (fun c3 => ?_)
    · replace hev := x_t c3 hev
      refine lv_bipush (v := (-2 : Int32)) hx hb dX10_term_27 (by decide) ?_
      exact ret _ _ _ dX10_term_29 ((show narrow _ (.int (-2 : Int32)) = .int (-2 : Int32) from rfl).trans (congrArg Value.int (Option.some.inj hev)))
    · replace hev := x_f c3 hev
      refine lv_iload_n hx hb dX10_term_15 rfl (lv_at hl 2 rfl) ?_
      refine lv_aload_n hx hb dX10_term_16 rfl (lv_at hl 0 rfl) ?_
      refine va_get (D := G.1) (ci := 6) (v := .ref aT_told) (C := RX10) (T := TX10) (N := 14) hx hb hts i10 hown hK hP 0 rfl rfl 1 (by decide) (hw _ u418) (fun _ h9 => h9) rfl dX10_term_17 ?_
      refine lv_iload_n hx hb dX10_term_20 rfl (lv_at hl 1 rfl) ?_
      obtain ⟨y4, hq, hev⟩ := x_bd hev
      refine roV X hKK hR (st1 := [.int y4, .int p2]) (c_To_termsOf l G aT_told aT_told_kinds aT_told_targets aT_told_wakes aT_told_terms aT_told_sorts aT_told_numbers vT_told_people vT_told_spells vT_told_day vT_told_broken fT_told_terms p1 y4 hq) K_X8_termsOf u676 (x_Psub hP [1, 2] rfl) rfl (q0 := 0) rfl (by decide) ⟨Nat.zero_le _, Nat.zero_le _⟩ rfl hl.1 rfl (Nat.le_of_ble_eq_true rfl) rfl dX10_term_21 ?_
      refine lv_icmp_lt (tgt := 30) hx hb dX10_term_24 (by decide) (fun c5 => ?_) (fun c5 => ?_)
      · replace hev := x_t c5 hev
        refine lv_iload_n hx hb dX10_term_30 rfl (lv_at hl 3 rfl) ?_
        by_cases c6 : p3 = (0 : Int32)
        · replace hev := x_t c6 hev
          refine lv_tableIn (tgt := 56) hx hb dX10_term_31 (by rw [c6]; decide) (by rw [c6]; decide) (by rw [c6]; rfl) (by decide) ?_
          refine lv_aload_n hx hb dX10_term_56 rfl (lv_at hl 0 rfl) ?_
          refine va_get (D := G.1) (ci := 6) (v := .ref aT_told) (C := RX10) (T := TX10) (N := 14) hx hb hts i10 hown hK hP 0 rfl rfl 1 (by decide) (hw _ u418) (fun _ h9 => h9) rfl dX10_term_57 ?_
          refine lv_iload_n hx hb dX10_term_60 rfl (lv_at hl 1 rfl) ?_
          refine lv_iload_n hx hb dX10_term_61 rfl (lv_at hl 2 rfl) ?_
          obtain ⟨y7, hq, hev⟩ := x_bd hev
          refine roV X hKK hR (st1 := [.int y7]) (c_To_sortOf l G aT_told aT_told_kinds aT_told_targets aT_told_wakes aT_told_terms aT_told_sorts aT_told_numbers vT_told_people vT_told_spells vT_told_day vT_told_broken fT_told_terms fT_told_sorts p1 p2 y7 hq) K_X8_sortOf u682 (x_Psub hP [1, 2, 3] rfl) rfl (q0 := 0) rfl (by decide) ⟨Nat.zero_le _, Nat.zero_le _⟩ rfl hl.1 rfl (Nat.le_of_ble_eq_true rfl) rfl dX10_term_62 ?_
          exact ret _ _ _ dX10_term_65 ((show narrow _ (.int y7) = .int y7 from rfl).trans (congrArg Value.int (Option.some.inj hev)))
        replace hev := x_f c6 hev
        by_cases c8 : p3 = (1 : Int32)
        · replace hev := x_t c8 hev
          refine lv_tableIn (tgt := 66) hx hb dX10_term_31 (by rw [c8]; decide) (by rw [c8]; decide) (by rw [c8]; rfl) (by decide) ?_
          refine lv_aload_n hx hb dX10_term_66 rfl (lv_at hl 0 rfl) ?_
          refine va_get (D := G.1) (ci := 6) (v := .ref aT_told) (C := RX10) (T := TX10) (N := 14) hx hb hts i10 hown hK hP 0 rfl rfl 1 (by decide) (hw _ u418) (fun _ h9 => h9) rfl dX10_term_67 ?_
          refine lv_iload_n hx hb dX10_term_70 rfl (lv_at hl 1 rfl) ?_
          refine lv_iload_n hx hb dX10_term_71 rfl (lv_at hl 2 rfl) ?_
          obtain ⟨y9, hq, hev⟩ := x_bd hev
          refine roV X hKK hR (st1 := [.int y9]) (c_To_numberOf l G aT_told aT_told_kinds aT_told_targets aT_told_wakes aT_told_terms aT_told_sorts aT_told_numbers vT_told_people vT_told_spells vT_told_day vT_told_broken fT_told_terms fT_told_numbers p1 p2 y9 hq) K_X8_numberOf u683 (x_Psub hP [1, 2, 4] rfl) rfl (q0 := 0) rfl (by decide) ⟨Nat.zero_le _, Nat.zero_le _⟩ rfl hl.1 rfl (Nat.le_of_ble_eq_true rfl) rfl dX10_term_72 ?_
          exact ret _ _ _ dX10_term_75 ((show narrow _ (.int y9) = .int y9 from rfl).trans (congrArg Value.int (Option.some.inj hev)))
        replace hev := x_f c8 hev
        by_cases c10 : p3 = (2 : Int32)
        · replace hev := x_t c10 hev
          refine lv_tableIn (tgt := 76) hx hb dX10_term_31 (by rw [c10]; decide) (by rw [c10]; decide) (by rw [c10]; rfl) (by decide) ?_
          refine lv_aload_n hx hb dX10_term_76 rfl (lv_at hl 0 rfl) ?_
          refine lv_iload_n hx hb dX10_term_77 rfl (lv_at hl 1 rfl) ?_
          refine lv_iload_n hx hb dX10_term_78 rfl (lv_at hl 2 rfl) ?_
          obtain ⟨y11, hq, hev⟩ := x_bd hev
          refine roV X hKK hR (st1 := [.int y11]) (c_SS_isSoNow l G aT aT_text aT_told aT_reader aT_rules aT_fromNow aT_whatIf aT_trials aT_undoable aT_keptStates aT_keptDeeds aT_row aT_princes aT_told_kinds aT_told_targets aT_told_wakes aT_told_terms aT_told_sorts aT_told_numbers vT_state vT_deeds vT_told_people vT_told_spells vT_told_day vT_told_broken fT_told_terms fT_told_sorts fT_told_numbers p1 p2 y11 hq) K_X10_isSoNow u684 (x_Psub hP [0, 1, 2, 3, 4] rfl) rfl (q0 := 0) rfl (by decide) ⟨Nat.zero_le _, Nat.zero_le _⟩ rfl hl.1 rfl (Nat.le_of_ble_eq_true rfl) rfl dX10_term_79 ?_
          obtain ⟨y12, hq, hev⟩ := x_bd hev
          refine roS X hKK hR (st1 := [.int y12]) (c_SS_oneIf l G y11 y12 hq) K_X10_oneIf u662 (x_Psub hP [] rfl) (by decide) ⟨Nat.zero_le _, Nat.zero_le _⟩ rfl hl.1 rfl (Nat.le_of_ble_eq_true rfl) rfl dX10_term_82 ?_
          exact ret _ _ _ dX10_term_85 ((show narrow _ (.int y12) = .int y12 from rfl).trans (congrArg Value.int (Option.some.inj hev)))
        replace hev := x_f c10 hev
        refine lv_tableOut (tgt := 86) hx hb dX10_term_31 (by have q0 : p3.toInt ≠ 0 := x_ne c6; have q1 : p3.toInt ≠ 1 := x_ne c8; have q2 : p3.toInt ≠ 2 := x_ne c10; omega) (by decide) ?_
        refine lv_bipush (v := (-3 : Int32)) hx hb dX10_term_86 (by decide) ?_
        exact ret _ _ _ dX10_term_88 ((show narrow _ (.int (-3 : Int32)) = .int (-3 : Int32) from rfl).trans (congrArg Value.int (Option.some.inj hev)))
      · replace hev := x_f c5 hev
        refine lv_bipush (v := (-2 : Int32)) hx hb dX10_term_27 (by decide) ?_
        exact ret _ _ _ dX10_term_29 ((show narrow _ (.int (-2 : Int32)) = .int (-2 : Int32) from rfl).trans (congrArg Value.int (Option.some.inj hev)))
def f_Kd_isA_L6 (x1 : Int32) : Nat → Int32 → Int32 → Option ((Unit) ⊕ (Int32))
  | 0, _, _ => none
  | k + 1, x2, x3 => if (3 : Int32) ≤ x3 then (some (.inl ())) else if x2 < 0 then (some (.inl ())) else if (6 : Int32) ≤ x2 then (some (.inl ())) else if x2 = x1 then (some (.inr (1 : Int32))) else x_I 6 (fun j => overR.getD j 0) x2 (fun v7 => x_L (x3 + (1 : Int32)) (fun y8 => (f_Kd_isA_L6 x1 k) v7 y8))
def f_Kd_isA (k : Nat) (p0 : Int32) (p1 : Int32) : Option (Int32) := x_L ((p0 + (2 : Int32))) (fun y1 => x_S (f_Kd_isA_L6 p1 k y1 (0 : Int32)) (fun _ => some (0 : Int32)) (fun r9 => some r9))
set_option maxHeartbeats 8000000 in
set_option maxRecDepth 100000 in
theorem c_Kd_isA (l : Launch) (G : GG) (k : Nat) (p0 : Int32) (p1 : Int32) (r0 : Int32) (hev : f_Kd_isA k p0 p1 = some r0) : RO l G yX1_isA cX1_isA 4 (some .boolean) 0 [.int p0, .int p1] [] (some (.int r0)) := by
  refine RO_of (by decide) (Nat.le_of_ble_eq_true rfl) ?_
  intro p e s m ar below meth c R Q H ls X hR hP hKK hS0 hl ret
  generalize hrs : r0 = rs at hev ret
  have hl : lv_has ls 4 [(0, .int p0), (1, .int p1)] := hl
  obtain ⟨hx, hb, hml, hown, hts, hT⟩ := id X
  have hK := hKK.1
  have hw : ∀ w ∈ T0, w.before ar s = true := fun w h => hts w (hT w h)
  unfold f_Kd_isA at hev
  refine lv_iload_n hx hb dX1_isA_0 rfl (lv_at hl 0 rfl) ?_
  refine lv_iconst (v := (2 : Int32)) hx hb dX1_isA_1 (by decide) ?_
  refine lv_iadd hx hb dX1_isA_2 ?_
  refine lv_topi (fun y1 ey1 => ?_)
  replace hev := x_lt hev y1 ey1
  refine lv_istore_n (lv' := [(2, .int y1), (0, .int p0), (1, .int p1)]) hx hb dX1_isA_3 rfl hl (by decide) rfl (fun ls hl => ?_)
  refine lv_iconst (v := (0 : Int32)) hx hb dX1_isA_4 (by decide) ?_
  refine lv_istore_n (lv' := [(3, .int (0 : Int32)), (2, .int y1), (0, .int p0), (1, .int p1)]) hx hb dX1_isA_5 rfl hl (by decide) rfl (fun ls hl => ?_)
  have L6 : ∀ (x1 : Int32), ∀ (k : Nat) (x2 : Int32) (x3 : Int32) (out : (Unit) ⊕ (Int32)), f_Kd_isA_L6 x1 k x2 x3 = some out → (out = .inl () → ∀ (ls : Array Slot), lv_has ls 4 [] → W p l e R s m ar below meth c H [] 0 0 Q (F0 m 42 ls [])) → (∀ v, out = .inr v → v = rs) → ∀ (ls : Array Slot), lv_has ls 4 [(1, .int x1), (2, .int x2), (3, .int x3)] → W p l e R s m ar below meth c H [] 0 0 Q (F0 m 6 ls []) := by
    intro x1 k
    induction k with
    | zero => intro x2 x3 out hev; rw [f_Kd_isA_L6] at hev; cases hev
    | succ k ih =>
      intro x2 x3 out hev hex hret ls hl
      rw [f_Kd_isA_L6] at hev
      refine lv_iload_n hx hb dX1_isA_6 rfl (lv_at hl 2 rfl) ?_
      refine lv_iconst (v := (3 : Int32)) hx hb dX1_isA_7 (by decide) ?_
      refine lv_icmp_ge (tgt := 42) hx hb dX1_isA_8 (by decide) (fun c2 => ?_) (fun c2 => ?_)
      · replace hev := x_t c2 hev
        exact hex  (Option.some.inj hev).symm ls (lv_sub hl [] rfl)
      · replace hev := x_f c2 hev
        refine lv_iload_n hx hb dX1_isA_11 rfl (lv_at hl 1 rfl) ?_
        refine lv_if_lt (tgt := 42) hx hb dX1_isA_12 (by decide) (fun c3 => ?_) (fun c3 => ?_)
        · replace hev := x_t c3 hev
          exact hex  (Option.some.inj hev).symm ls (lv_sub hl [] rfl)
        · replace hev := x_f c3 hev
          refine lv_iload_n hx hb dX1_isA_15 rfl (lv_at hl 1 rfl) ?_
          refine gets_at hx hb hKK.2.2.2.2.1 hown (hw _ u702) (fun _ h9 => h9) dX1_isA_16 ?_
          refine tlen_at hx hb hKK.2.2.2.2.2.1 (v := (6 : Int32)) rfl dX1_isA_19 ?_
          refine lv_icmp_ge (tgt := 42) hx hb dX1_isA_20 (by decide) (fun c4 => ?_) (fun c4 => ?_)
          · replace hev := x_t c4 hev
            exact hex  (Option.some.inj hev).symm ls (lv_sub hl [] rfl)
          · replace hev := x_f c4 hev
            refine lv_iload_n hx hb dX1_isA_23 rfl (lv_at hl 1 rfl) ?_
            refine lv_iload_n hx hb dX1_isA_24 rfl (lv_at hl 0 rfl) ?_
            refine lv_icmp_ne (tgt := 30) hx hb dX1_isA_25 (by decide) (fun c5 => ?_) (fun c5 => ?_)
            · replace hev := x_f c5 hev
              refine gets_at hx hb hKK.2.2.2.2.1 hown (hw _ u702) (fun _ h9 => h9) dX1_isA_30 ?_
              refine lv_iload_n hx hb dX1_isA_33 rfl (lv_at hl 1 rfl) ?_
              obtain ⟨h6, hev⟩ := x_ld hev
              refine ti_at hx hb hKK.2.2.2.2.2.1 h6 rfl dX1_isA_34 ?_
              refine lv_topi (fun v7 ev7 => ?_)
              replace hev := hev v7 ev7
              refine lv_istore_n (lv' := [(2, .int v7), (1, .int x1), (3, .int x3)]) hx hb dX1_isA_35 rfl hl (by decide) rfl (fun ls hl => ?_)
              obtain ⟨y8, ey8⟩ : ∃ y : Int32, y = x3 + (1 : Int32) := ⟨_, rfl⟩
              refine lv_iinc (v := y8) (lv' := [(3, .int y8), (2, .int v7), (1, .int x1)]) hx hb dX1_isA_36 hl (k := 2) rfl (by rw [ey8]; rfl) (by decide) rfl (fun ls hl => ?_)
              replace hev := x_lt hev y8 ey8
              refine lv_goto (tgt := 6) hx hb dX1_isA_39 (by decide) ?_
              exact ih v7 y8 _ hev hex hret ls (lv_sub hl [2, 1, 0] rfl)
            · replace hev := x_t c5 hev
              refine lv_iconst (v := (1 : Int32)) hx hb dX1_isA_28 (by decide) ?_
              exact ret _ _ _ dX1_isA_29 ((show narrow _ (.int (1 : Int32)) = .int (1 : Int32) from nb1).trans (congrArg Value.int (hret _ (Option.some.inj hev).symm)))
  rcases x_sd hev with ⟨q9, hq, hev⟩ | ⟨q9, hq, hev⟩
  · refine L6 p1 k y1 (0 : Int32) (.inl q9) hq ?_ (fun v he => by cases he) ls (lv_sub hl [3, 1, 0] rfl)
    intro  he ls hl
    refine lv_iconst (v := (0 : Int32)) hx hb dX1_isA_42 (by decide) ?_
    exact ret _ _ _ dX1_isA_43 ((show narrow _ (.int (0 : Int32)) = .int (0 : Int32) from nb0).trans (congrArg Value.int (Option.some.inj hev)))
  · refine L6 p1 k y1 (0 : Int32) (.inr q9) hq (fun he => by cases he) (fun v he => ?_) ls (lv_sub hl [3, 1, 0] rfl)
    rw [← Sum.inr.inj he]
    exact Option.some.inj hev
def f_SS_termsSoNow_L4 (vT_state : Int32) (vT_told_spells : Int32) (fT_told_numbers : Nat → Int32) (fT_told_sorts : Nat → Int32) (fT_told_terms : Nat → Int32) (x1 : Int32) : Nat → Int32 → Int32 → Option (Int32)
  | 0, _, _ => none
  | k + 1, x2, x3 => if (3 : Int32) ≤ x3 then (some x2) else x_B (f_To_termsOf vT_told_spells fT_told_terms x1) (fun y2 => if y2 ≤ x3 then (some x2) else x_B (f_SS_isSoNow vT_state vT_told_spells fT_told_numbers fT_told_sorts fT_told_terms x1 x3) (fun y4 => x_B (f_SS_oneIf y4) (fun y5 => x_L ((x2 + y5)) (fun y6 => x_L (x3 + (1 : Int32)) (fun y7 => (f_SS_termsSoNow_L4 vT_state vT_told_spells fT_told_numbers fT_told_sorts fT_told_terms x1 k) y6 y7)))))
def f_SS_termsSoNow (k : Nat) (vT_state : Int32) (vT_told_spells : Int32) (fT_told_numbers : Nat → Int32) (fT_told_sorts : Nat → Int32) (fT_told_terms : Nat → Int32) (p1 : Int32) : Option (Int32) := x_B (f_SS_termsSoNow_L4 vT_state vT_told_spells fT_told_numbers fT_told_sorts fT_told_terms p1 k (0 : Int32) (0 : Int32)) (fun y8 => some y8)
set_option maxHeartbeats 8000000 in
set_option maxRecDepth 100000 in
theorem c_SS_termsSoNow (l : Launch) (G : GG) (aT aT_text aT_told aT_reader aT_rules aT_fromNow aT_whatIf aT_trials aT_undoable aT_keptStates aT_keptDeeds aT_row aT_princes aT_told_kinds aT_told_targets aT_told_wakes aT_told_terms aT_told_sorts aT_told_numbers : Nat) (vT_state : Int32) (vT_deeds : Int32) (vT_told_people : Int32) (vT_told_spells : Int32) (vT_told_day : Int32) (vT_told_broken : Int32) (fT_told_terms : Nat → Int32) (fT_told_sorts : Nat → Int32) (fT_told_numbers : Nat → Int32) (k : Nat) (p1 : Int32) (r0 : Int32) (hev : f_SS_termsSoNow k vT_state vT_told_spells fT_told_numbers fT_told_sorts fT_told_terms p1 = some r0) : RO l G yX10_termsSoNow cX10_termsSoNow 4 (some .int) 4 [.ref aT, .int p1] [(aT, .inr (6, [.ref aT_text, .ref aT_told, .ref aT_reader, .ref aT_rules, .ref aT_fromNow, .ref aT_whatIf, .ref aT_trials, .ref aT_undoable, .ref aT_keptStates, .ref aT_keptDeeds, .ref aT_row, .ref aT_princes, .int vT_state, .int vT_deeds])), (aT_told, .inr (4, [.int vT_told_people, .int vT_told_spells, .int vT_told_day, .int vT_told_broken, .ref aT_told_kinds, .ref aT_told_targets, .ref aT_told_wakes, .ref aT_told_terms, .ref aT_told_sorts, .ref aT_told_numbers])), (aT_told_terms, .inl (G.2.1, 5, .inl fT_told_terms)), (aT_told_sorts, .inl (G.2.1, 15, .inl fT_told_sorts)), (aT_told_numbers, .inl (G.2.1, 15, .inl fT_told_numbers))] (some (.int r0)) := by
  refine RO_of (by decide) (Nat.le_of_ble_eq_true rfl) ?_
  intro p e s m ar below meth c R Q H ls X hR hP hKK hS0 hl ret
  generalize hrs : r0 = rs at hev ret
  have hl : lv_has ls 4 [(0, .ref aT), (1, .int p1)] := hl
  obtain ⟨hx, hb, hml, hown, hts, hT⟩ := id X
  have hK := hKK.1
  have hw : ∀ w ∈ T0, w.before ar s = true := fun w h => hts w (hT w h)
  have i10 := fun w h => hT w (inT10 w h)
  unfold f_SS_termsSoNow at hev
  refine lv_iconst (v := (0 : Int32)) hx hb dX10_termsSoNow_0 (by decide) ?_
  refine lv_istore_n (lv' := [(2, .int (0 : Int32)), (0, .ref aT), (1, .int p1)]) hx hb dX10_termsSoNow_1 rfl hl (by decide) rfl (fun ls hl => ?_)
  refine lv_iconst (v := (0 : Int32)) hx hb dX10_termsSoNow_2 (by decide) ?_
  refine lv_istore_n (lv' := [(3, .int (0 : Int32)), (2, .int (0 : Int32)), (0, .ref aT), (1, .int p1)]) hx hb dX10_termsSoNow_3 rfl hl (by decide) rfl (fun ls hl => ?_)
  have L4 : ∀ (x1 : Int32), ∀ (k : Nat) (x2 : Int32) (x3 : Int32) (o2 : Int32), f_SS_termsSoNow_L4 vT_state vT_told_spells fT_told_numbers fT_told_sorts fT_told_terms x1 k x2 x3 = some o2 → (∀ (ls : Array Slot), lv_has ls 4 [(2, .int o2)] → W p l e R s m ar below meth c H [] 0 0 Q (F0 m 39 ls [])) → ∀ (ls : Array Slot), lv_has ls 4 [(0, .ref aT), (1, .int x1), (2, .int x2), (3, .int x3)] → W p l e R s m ar below meth c H [] 0 0 Q (F0 m 4 ls []) := by
    intro x1 k
    induction k with
    | zero => intro x2 x3 o2 hev; rw [f_SS_termsSoNow_L4] at hev; cases hev
    | succ k ih =>
      intro x2 x3 o2 hev hex ls hl
      rw [f_SS_termsSoNow_L4] at hev
      refine lv_iload_n hx hb dX10_termsSoNow_4 rfl (lv_at hl 3 rfl) ?_
      refine lv_iconst (v := (3 : Int32)) hx hb dX10_termsSoNow_5 (by decide) ?_
      refine lv_icmp_ge (tgt := 39) hx hb dX10_termsSoNow_6 (by decide) (fun c1 => ?_) (fun c1 => ?_)
      · replace hev := x_t c1 hev
        cases hev
        exact hex ls (lv_sub hl [2] rfl)
      · replace hev := x_f c1 hev
        refine lv_iload_n hx hb dX10_termsSoNow_9 rfl (lv_at hl 3 rfl) ?_
        refine lv_aload_n hx hb dX10_termsSoNow_10 rfl (lv_at hl 0 rfl) ?_
        refine va_get (D := G.1) (ci := 6) (v := .ref aT_told) (C := RX10) (T := TX10) (N := 14) hx hb hts i10 hown hK hP 0 rfl rfl 1 (by decide) (hw _ u418) (fun _ h9 => h9) rfl dX10_termsSoNow_11 ?_
        refine lv_iload_n hx hb dX10_termsSoNow_14 rfl (lv_at hl 1 rfl) ?_
        obtain ⟨y2, hq, hev⟩ := x_bd hev
        refine roV X hKK hR (st1 := [.int y2, .int x3]) (c_To_termsOf l G aT_told aT_told_kinds aT_told_targets aT_told_wakes aT_told_terms aT_told_sorts aT_told_numbers vT_told_people vT_told_spells vT_told_day vT_told_broken fT_told_terms x1 y2 hq) K_X8_termsOf u676 (x_Psub hP [1, 2] rfl) rfl (q0 := 0) rfl (by decide) ⟨Nat.zero_le _, Nat.zero_le _⟩ rfl hl.1 rfl (Nat.le_of_ble_eq_true rfl) rfl dX10_termsSoNow_15 ?_
        refine lv_icmp_ge (tgt := 39) hx hb dX10_termsSoNow_18 (by decide) (fun c3 => ?_) (fun c3 => ?_)
        · replace hev := x_t c3 hev
          cases hev
          exact hex ls (lv_sub hl [2] rfl)
        · replace hev := x_f c3 hev
          refine lv_iload_n hx hb dX10_termsSoNow_21 rfl (lv_at hl 2 rfl) ?_
          refine lv_aload_n hx hb dX10_termsSoNow_22 rfl (lv_at hl 0 rfl) ?_
          refine lv_iload_n hx hb dX10_termsSoNow_23 rfl (lv_at hl 1 rfl) ?_
          refine lv_iload_n hx hb dX10_termsSoNow_24 rfl (lv_at hl 3 rfl) ?_
          obtain ⟨y4, hq, hev⟩ := x_bd hev
          refine roV X hKK hR (st1 := [.int y4, .int x2]) (c_SS_isSoNow l G aT aT_text aT_told aT_reader aT_rules aT_fromNow aT_whatIf aT_trials aT_undoable aT_keptStates aT_keptDeeds aT_row aT_princes aT_told_kinds aT_told_targets aT_told_wakes aT_told_terms aT_told_sorts aT_told_numbers vT_state vT_deeds vT_told_people vT_told_spells vT_told_day vT_told_broken fT_told_terms fT_told_sorts fT_told_numbers x1 x3 y4 hq) K_X10_isSoNow u684 (x_Psub hP [0, 1, 2, 3, 4] rfl) rfl (q0 := 0) rfl (by decide) ⟨Nat.zero_le _, Nat.zero_le _⟩ rfl hl.1 rfl (Nat.le_of_ble_eq_true rfl) rfl dX10_termsSoNow_25 ?_
          obtain ⟨y5, hq, hev⟩ := x_bd hev
          refine roS X hKK hR (st1 := [.int y5, .int x2]) (c_SS_oneIf l G y4 y5 hq) K_X10_oneIf u662 (x_Psub hP [] rfl) (by decide) ⟨Nat.zero_le _, Nat.zero_le _⟩ rfl hl.1 rfl (Nat.le_of_ble_eq_true rfl) rfl dX10_termsSoNow_28 ?_
          refine lv_iadd hx hb dX10_termsSoNow_31 ?_
          refine lv_topi (fun y6 ey6 => ?_)
          replace hev := x_lt hev y6 ey6
          refine lv_istore_n (lv' := [(2, .int y6), (0, .ref aT), (1, .int x1), (3, .int x3)]) hx hb dX10_termsSoNow_32 rfl hl (by decide) rfl (fun ls hl => ?_)
          obtain ⟨y7, ey7⟩ : ∃ y : Int32, y = x3 + (1 : Int32) := ⟨_, rfl⟩
          refine lv_iinc (v := y7) (lv' := [(3, .int y7), (2, .int y6), (0, .ref aT), (1, .int x1)]) hx hb dX10_termsSoNow_33 hl (k := 3) rfl (by rw [ey7]; rfl) (by decide) rfl (fun ls hl => ?_)
          replace hev := x_lt hev y7 ey7
          refine lv_goto (tgt := 4) hx hb dX10_termsSoNow_36 (by decide) ?_
          exact ih y6 y7 _ hev hex ls (lv_sub hl [2, 3, 1, 0] rfl)
  obtain ⟨y8, hq, hev⟩ := x_bd hev
  refine L4 p1 k (0 : Int32) (0 : Int32) y8 hq (fun ls hl => ?_) ls (lv_sub hl [2, 3, 1, 0] rfl)
  refine lv_iload_n hx hb dX10_termsSoNow_39 rfl (lv_at hl 0 rfl) ?_
  exact ret _ _ _ dX10_termsSoNow_40 ((show narrow _ (.int y8) = .int y8 from rfl).trans (congrArg Value.int (Option.some.inj hev)))
def f_SS_as (k : Nat) (vT_state : Int32) (vT_told_spells : Int32) (fT_told_kinds : Nat → Int32) (fT_told_numbers : Nat → Int32) (fT_told_sorts : Nat → Int32) (fT_told_terms : Nat → Int32) (p1 : Int32) (p2 : Int32) : Option (Int32) := x_B (f_To_hasSpell vT_told_spells p1) (fun y1 => if y1 = 0 then (some (-2 : Int32)) else if p2 < 0 then (some (-3 : Int32)) else if p2 ≤ (5 : Int32) then (x_B (f_To_kindOf vT_told_spells fT_told_kinds p1) (fun y5 => x_B (f_Kd_isA k y5 p2) (fun y6 => if y6 = 0 then (some (-4 : Int32)) else x_B (f_SS_termsSoNow k vT_state vT_told_spells fT_told_numbers fT_told_sorts fT_told_terms p1) (fun y8 => some y8)))) else some (-3 : Int32))
set_option maxHeartbeats 8000000 in
set_option maxRecDepth 100000 in
theorem c_SS_as (l : Launch) (G : GG) (aT aT_text aT_told aT_reader aT_rules aT_fromNow aT_whatIf aT_trials aT_undoable aT_keptStates aT_keptDeeds aT_row aT_princes aT_told_kinds aT_told_targets aT_told_wakes aT_told_terms aT_told_sorts aT_told_numbers : Nat) (vT_state : Int32) (vT_deeds : Int32) (vT_told_people : Int32) (vT_told_spells : Int32) (vT_told_day : Int32) (vT_told_broken : Int32) (fT_told_kinds : Nat → Int32) (fT_told_terms : Nat → Int32) (fT_told_sorts : Nat → Int32) (fT_told_numbers : Nat → Int32) (k : Nat) (p1 : Int32) (p2 : Int32) (r0 : Int32) (hev : f_SS_as k vT_state vT_told_spells fT_told_kinds fT_told_numbers fT_told_sorts fT_told_terms p1 p2 = some r0) : RO l G yX10_as cX10_as 3 (some .int) 5 [.ref aT, .int p1, .int p2] [(aT, .inr (6, [.ref aT_text, .ref aT_told, .ref aT_reader, .ref aT_rules, .ref aT_fromNow, .ref aT_whatIf, .ref aT_trials, .ref aT_undoable, .ref aT_keptStates, .ref aT_keptDeeds, .ref aT_row, .ref aT_princes, .int vT_state, .int vT_deeds])), (aT_told, .inr (4, [.int vT_told_people, .int vT_told_spells, .int vT_told_day, .int vT_told_broken, .ref aT_told_kinds, .ref aT_told_targets, .ref aT_told_wakes, .ref aT_told_terms, .ref aT_told_sorts, .ref aT_told_numbers])), (aT_told_kinds, .inl (G.2.1, 5, .inl fT_told_kinds)), (aT_told_terms, .inl (G.2.1, 5, .inl fT_told_terms)), (aT_told_sorts, .inl (G.2.1, 15, .inl fT_told_sorts)), (aT_told_numbers, .inl (G.2.1, 15, .inl fT_told_numbers))] (some (.int r0)) := by
  refine RO_of (by decide) (Nat.le_of_ble_eq_true rfl) ?_
  intro p e s m ar below meth c R Q H ls X hR hP hKK hS0 hl ret
  generalize hrs : r0 = rs at hev ret
  have hl : lv_has ls 3 [(0, .ref aT), (1, .int p1), (2, .int p2)] := hl
  obtain ⟨hx, hb, hml, hown, hts, hT⟩ := id X
  have hK := hKK.1
  have hw : ∀ w ∈ T0, w.before ar s = true := fun w h => hts w (hT w h)
  have i10 := fun w h => hT w (inT10 w h)
  unfold f_SS_as at hev
  refine lv_aload_n hx hb dX10_as_0 rfl (lv_at hl 0 rfl) ?_
  refine va_get (D := G.1) (ci := 6) (v := .ref aT_told) (C := RX10) (T := TX10) (N := 14) hx hb hts i10 hown hK hP 0 rfl rfl 1 (by decide) (hw _ u418) (fun _ h9 => h9) rfl dX10_as_1 ?_
  refine lv_iload_n hx hb dX10_as_4 rfl (lv_at hl 1 rfl) ?_
  obtain ⟨y1, hq, hev⟩ := x_bd hev
  refine roV X hKK hR (st1 := [.int y1]) (c_To_hasSpell l G aT_told aT_told_kinds aT_told_targets aT_told_wakes aT_told_terms aT_told_sorts aT_told_numbers vT_told_people vT_told_spells vT_told_day vT_told_broken p1 y1 hq) K_X8_hasSpell u669 (x_Psub hP [1] rfl) rfl (q0 := 0) rfl (by decide) ⟨Nat.zero_le _, Nat.zero_le _⟩ rfl hl.1 rfl (Nat.le_of_ble_eq_true rfl) rfl dX10_as_5 ?_
  refine lv_if_ne (tgt := 14) hx hb dX10_as_8 (by decide) (fun c2 => ?_) (fun c2 => ?_)
  · replace hev := x_f c2 hev
    refine lv_iload_n hx hb dX10_as_14 rfl (lv_at hl 2 rfl) ?_
    refine lv_if_lt (tgt := 23) hx hb dX10_as_15 (by decide) (fun c3 => ?_) (fun c3 => ?_)
    · replace hev := x_t c3 hev
      refine lv_bipush (v := (-3 : Int32)) hx hb dX10_as_23 (by decide) ?_
      exact ret _ _ _ dX10_as_25 ((show narrow _ (.int (-3 : Int32)) = .int (-3 : Int32) from rfl).trans (congrArg Value.int (Option.some.inj hev)))
    · replace hev := x_f c3 hev
      refine lv_iload_n hx hb dX10_as_18 rfl (lv_at hl 2 rfl) ?_
      refine lv_iconst (v := (5 : Int32)) hx hb dX10_as_19 (by decide) ?_
      refine lv_icmp_le (tgt := 26) hx hb dX10_as_20 (by decide) (fun c4 => ?_) (fun c4 => ?_)
      · replace hev := x_t c4 hev
        refine lv_aload_n hx hb dX10_as_26 rfl (lv_at hl 0 rfl) ?_
        refine va_get (D := G.1) (ci := 6) (v := .ref aT_told) (C := RX10) (T := TX10) (N := 14) hx hb hts i10 hown hK hP 0 rfl rfl 1 (by decide) (hw _ u418) (fun _ h9 => h9) rfl dX10_as_27 ?_
        refine lv_iload_n hx hb dX10_as_30 rfl (lv_at hl 1 rfl) ?_
        obtain ⟨y5, hq, hev⟩ := x_bd hev
        refine roV X hKK hR (st1 := [.int y5]) (c_To_kindOf l G aT_told aT_told_kinds aT_told_targets aT_told_wakes aT_told_terms aT_told_sorts aT_told_numbers vT_told_people vT_told_spells vT_told_day vT_told_broken fT_told_kinds p1 y5 hq) K_X8_kindOf u670 (x_Psub hP [1, 2] rfl) rfl (q0 := 0) rfl (by decide) ⟨Nat.zero_le _, Nat.zero_le _⟩ rfl hl.1 rfl (Nat.le_of_ble_eq_true rfl) rfl dX10_as_31 ?_
        refine lv_iload_n hx hb dX10_as_34 rfl (lv_at hl 2 rfl) ?_
        obtain ⟨y6, hq, hev⟩ := x_bd hev
        refine roS X hKK hR (st1 := [.int y6]) (c_Kd_isA l G k y5 p2 y6 hq) K_X1_isA u699 (x_Psub hP [] rfl) (by decide) ⟨Nat.zero_le _, Nat.zero_le _⟩ rfl hl.1 rfl (Nat.le_of_ble_eq_true rfl) rfl dX10_as_35 ?_
        refine lv_if_ne (tgt := 44) hx hb dX10_as_38 (by decide) (fun c7 => ?_) (fun c7 => ?_)
        · replace hev := x_f c7 hev
          refine lv_aload_n hx hb dX10_as_44 rfl (lv_at hl 0 rfl) ?_
          refine lv_iload_n hx hb dX10_as_45 rfl (lv_at hl 1 rfl) ?_
          obtain ⟨y8, hq, hev⟩ := x_bd hev
          refine roV X hKK hR (st1 := [.int y8]) (c_SS_termsSoNow l G aT aT_text aT_told aT_reader aT_rules aT_fromNow aT_whatIf aT_trials aT_undoable aT_keptStates aT_keptDeeds aT_row aT_princes aT_told_kinds aT_told_targets aT_told_wakes aT_told_terms aT_told_sorts aT_told_numbers vT_state vT_deeds vT_told_people vT_told_spells vT_told_day vT_told_broken fT_told_terms fT_told_sorts fT_told_numbers k p1 y8 hq) K_X10_termsSoNow u704 (x_Psub hP [0, 1, 3, 4, 5] rfl) rfl (q0 := 0) rfl (by decide) ⟨Nat.zero_le _, Nat.zero_le _⟩ rfl hl.1 rfl (Nat.le_of_ble_eq_true rfl) rfl dX10_as_46 ?_
          exact ret _ _ _ dX10_as_49 ((show narrow _ (.int y8) = .int y8 from rfl).trans (congrArg Value.int (Option.some.inj hev)))
        · replace hev := x_t c7 hev
          refine lv_bipush (v := (-4 : Int32)) hx hb dX10_as_41 (by decide) ?_
          exact ret _ _ _ dX10_as_43 ((show narrow _ (.int (-4 : Int32)) = .int (-4 : Int32) from rfl).trans (congrArg Value.int (Option.some.inj hev)))
      · replace hev := x_f c4 hev
        refine lv_bipush (v := (-3 : Int32)) hx hb dX10_as_23 (by decide) ?_
        exact ret _ _ _ dX10_as_25 ((show narrow _ (.int (-3 : Int32)) = .int (-3 : Int32) from rfl).trans (congrArg Value.int (Option.some.inj hev)))
  · replace hev := x_t c2 hev
    refine lv_bipush (v := (-2 : Int32)) hx hb dX10_as_11 (by decide) ?_
    exact ret _ _ _ dX10_as_13 ((show narrow _ (.int (-2 : Int32)) = .int (-2 : Int32) from rfl).trans (congrArg Value.int (Option.some.inj hev)))
def f_SS_wordsLovedBy_J47 (rec : Int32 → Int32 → Option (Int32)) (k : Nat) (vT_told_spells : Int32) (fT_told_sorts : Nat → Int32) (fT_told_terms : Nat → Int32) (x1 : Int32) (x2 : Int32) (x4 : Int32) (s0 : Int32) (s1 : Int32) : Option (Int32) := x_B (f_SS_oneIf s0) (fun y1 => x_L ((s1 + y1)) (fun y2 => x_L (x4 + (1 : Int32)) (fun y3 => rec y2 y3)))
def f_SS_wordsLovedBy_L5 (vT_told_spells : Int32) (fT_told_sorts : Nat → Int32) (fT_told_terms : Nat → Int32) (x1 : Int32) (x2 : Int32) : Nat → Int32 → Int32 → Option (Int32)
  | 0, _, _ => none
  | k + 1, x3, x4 => if (3 : Int32) ≤ x4 then (some x3) else x_B (f_To_termsOf vT_told_spells fT_told_terms x2) (fun y5 => if y5 ≤ x4 then (some x3) else x_B (f_To_sortOf vT_told_spells fT_told_sorts fT_told_terms x2 x4) (fun y7 => x_B (f_Tm_lover y7) (fun y8 => if y8 = x1 then (f_SS_wordsLovedBy_J47 (f_SS_wordsLovedBy_L5 vT_told_spells fT_told_sorts fT_told_terms x1 x2 k) k vT_told_spells fT_told_sorts fT_told_terms x1 x2 x4 (1 : Int32) x3) else f_SS_wordsLovedBy_J47 (f_SS_wordsLovedBy_L5 vT_told_spells fT_told_sorts fT_told_terms x1 x2 k) k vT_told_spells fT_told_sorts fT_told_terms x1 x2 x4 (0 : Int32) x3)))
def f_SS_wordsLovedBy (k : Nat) (vT_told_spells : Int32) (fT_told_sorts : Nat → Int32) (fT_told_terms : Nat → Int32) (p1 : Int32) (p2 : Int32) : Option (Int32) := x_B (f_SS_wordsLovedBy_L5 vT_told_spells fT_told_sorts fT_told_terms p1 p2 k (0 : Int32) (0 : Int32)) (fun y10 => some y10)
set_option maxHeartbeats 8000000 in
set_option maxRecDepth 100000 in
theorem c_SS_wordsLovedBy (l : Launch) (G : GG) (aT aT_text aT_told aT_reader aT_rules aT_fromNow aT_whatIf aT_trials aT_undoable aT_keptStates aT_keptDeeds aT_row aT_princes aT_told_kinds aT_told_targets aT_told_wakes aT_told_terms aT_told_sorts aT_told_numbers : Nat) (vT_state : Int32) (vT_deeds : Int32) (vT_told_people : Int32) (vT_told_spells : Int32) (vT_told_day : Int32) (vT_told_broken : Int32) (fT_told_terms : Nat → Int32) (fT_told_sorts : Nat → Int32) (k : Nat) (p1 : Int32) (p2 : Int32) (r0 : Int32) (hev : f_SS_wordsLovedBy k vT_told_spells fT_told_sorts fT_told_terms p1 p2 = some r0) : RO l G yX10_wordsLovedBy cX10_wordsLovedBy 5 (some .int) 3 [.ref aT, .int p1, .int p2] [(aT, .inr (6, [.ref aT_text, .ref aT_told, .ref aT_reader, .ref aT_rules, .ref aT_fromNow, .ref aT_whatIf, .ref aT_trials, .ref aT_undoable, .ref aT_keptStates, .ref aT_keptDeeds, .ref aT_row, .ref aT_princes, .int vT_state, .int vT_deeds])), (aT_told, .inr (4, [.int vT_told_people, .int vT_told_spells, .int vT_told_day, .int vT_told_broken, .ref aT_told_kinds, .ref aT_told_targets, .ref aT_told_wakes, .ref aT_told_terms, .ref aT_told_sorts, .ref aT_told_numbers])), (aT_told_terms, .inl (G.2.1, 5, .inl fT_told_terms)), (aT_told_sorts, .inl (G.2.1, 15, .inl fT_told_sorts))] (some (.int r0)) := by
  refine RO_of (by decide) (Nat.le_of_ble_eq_true rfl) ?_
  intro p e s m ar below meth c R Q H ls X hR hP hKK hS0 hl ret
  generalize hrs : r0 = rs at hev ret
  have hl : lv_has ls 5 [(0, .ref aT), (1, .int p1), (2, .int p2)] := hl
  obtain ⟨hx, hb, hml, hown, hts, hT⟩ := id X
  have hK := hKK.1
  have hw : ∀ w ∈ T0, w.before ar s = true := fun w h => hts w (hT w h)
  have i10 := fun w h => hT w (inT10 w h)
  unfold f_SS_wordsLovedBy at hev
  refine lv_iconst (v := (0 : Int32)) hx hb dX10_wordsLovedBy_0 (by decide) ?_
  refine lv_istore_n (lv' := [(3, .int (0 : Int32)), (0, .ref aT), (1, .int p1), (2, .int p2)]) hx hb dX10_wordsLovedBy_1 rfl hl (by decide) rfl (fun ls hl => ?_)
  refine lv_iconst (v := (0 : Int32)) hx hb dX10_wordsLovedBy_2 (by decide) ?_
  refine lv_istore (lv' := [(4, .int (0 : Int32)), (3, .int (0 : Int32)), (0, .ref aT), (1, .int p1), (2, .int p2)]) hx hb dX10_wordsLovedBy_3 hl (by decide) rfl (fun ls hl => ?_)
  have L5 : ∀ (x1 : Int32) (x2 : Int32), ∀ (k : Nat) (x3 : Int32) (x4 : Int32) (o3 : Int32), f_SS_wordsLovedBy_L5 vT_told_spells fT_told_sorts fT_told_terms x1 x2 k x3 x4 = some o3 → (∀ (ls : Array Slot), lv_has ls 5 [(3, .int o3)] → W p l e R s m ar below meth c H [] 0 0 Q (F0 m 58 ls [])) → ∀ (ls : Array Slot), lv_has ls 5 [(0, .ref aT), (1, .int x1), (2, .int x2), (3, .int x3), (4, .int x4)] → W p l e R s m ar below meth c H [] 0 0 Q (F0 m 5 ls []) := by
    intro x1 x2 k
    induction k with
    | zero => intro x3 x4 o3 hev; rw [f_SS_wordsLovedBy_L5] at hev; cases hev
    | succ k ih =>
      intro x3 x4 o3 hev hex ls hl
      rw [f_SS_wordsLovedBy_L5] at hev
      have J47 : ∀ (x4 : Int32) (s0 : Int32) (s1 : Int32), ∀ (ls : Array Slot), f_SS_wordsLovedBy_J47 (f_SS_wordsLovedBy_L5 vT_told_spells fT_told_sorts fT_told_terms x1 x2 k) k vT_told_spells fT_told_sorts fT_told_terms x1 x2 x4 s0 s1 = some o3 → lv_has ls 5 [(0, .ref aT), (1, .int x1), (2, .int x2), (4, .int x4)] → W p l e R s m ar below meth c H [] 0 0 Q (F0 m 47 ls [.int s0, .int s1]) := by
        intro x4 s0 s1 ls hev hl
        unfold f_SS_wordsLovedBy_J47 at hev
        obtain ⟨y1, hq, hev⟩ := x_bd hev
        refine roS X hKK hR (st1 := [.int y1, .int s1]) (c_SS_oneIf l G s0 y1 hq) K_X10_oneIf u662 (x_Psub hP [] rfl) (by decide) ⟨Nat.zero_le _, Nat.zero_le _⟩ rfl hl.1 rfl (Nat.le_of_ble_eq_true rfl) rfl dX10_wordsLovedBy_47 ?_
        refine lv_iadd hx hb dX10_wordsLovedBy_50 ?_
        refine lv_topi (fun y2 ey2 => ?_)
        replace hev := x_lt hev y2 ey2
        refine lv_istore_n (lv' := [(3, .int y2), (0, .ref aT), (1, .int x1), (2, .int x2), (4, .int x4)]) hx hb dX10_wordsLovedBy_51 rfl hl (by decide) rfl (fun ls hl => ?_)
        obtain ⟨y3, ey3⟩ : ∃ y : Int32, y = x4 + (1 : Int32) := ⟨_, rfl⟩
        refine lv_iinc (v := y3) (lv' := [(4, .int y3), (3, .int y2), (0, .ref aT), (1, .int x1), (2, .int x2)]) hx hb dX10_wordsLovedBy_52 hl (k := 4) rfl (by rw [ey3]; rfl) (by decide) rfl (fun ls hl => ?_)
        replace hev := x_lt hev y3 ey3
        refine lv_goto (tgt := 5) hx hb dX10_wordsLovedBy_55 (by decide) ?_
        exact ih y2 y3 _ hev hex ls (lv_sub hl [2, 3, 4, 1, 0] rfl)
      refine lv_iload hx hb dX10_wordsLovedBy_5 (lv_at hl 4 rfl) ?_
      refine lv_iconst (v := (3 : Int32)) hx hb dX10_wordsLovedBy_7 (by decide) ?_
      refine lv_icmp_ge (tgt := 58) hx hb dX10_wordsLovedBy_8 (by decide) (fun c4 => ?_) (fun c4 => ?_)
      · replace hev := x_t c4 hev
        cases hev
        exact hex ls (lv_sub hl [3] rfl)
      · replace hev := x_f c4 hev
        refine lv_iload hx hb dX10_wordsLovedBy_11 (lv_at hl 4 rfl) ?_
        refine lv_aload_n hx hb dX10_wordsLovedBy_13 rfl (lv_at hl 0 rfl) ?_
        refine va_get (D := G.1) (ci := 6) (v := .ref aT_told) (C := RX10) (T := TX10) (N := 14) hx hb hts i10 hown hK hP 0 rfl rfl 1 (by decide) (hw _ u418) (fun _ h9 => h9) rfl dX10_wordsLovedBy_14 ?_
        refine lv_iload_n hx hb dX10_wordsLovedBy_17 rfl (lv_at hl 2 rfl) ?_
        obtain ⟨y5, hq, hev⟩ := x_bd hev
        refine roV X hKK hR (st1 := [.int y5, .int x4]) (c_To_termsOf l G aT_told aT_told_kinds aT_told_targets aT_told_wakes aT_told_terms aT_told_sorts aT_told_numbers vT_told_people vT_told_spells vT_told_day vT_told_broken fT_told_terms x2 y5 hq) K_X8_termsOf u676 (x_Psub hP [1, 2] rfl) rfl (q0 := 0) rfl (by decide) ⟨Nat.zero_le _, Nat.zero_le _⟩ rfl hl.1 rfl (Nat.le_of_ble_eq_true rfl) rfl dX10_wordsLovedBy_18 ?_
        refine lv_icmp_ge (tgt := 58) hx hb dX10_wordsLovedBy_21 (by decide) (fun c6 => ?_) (fun c6 => ?_)
        · replace hev := x_t c6 hev
          cases hev
          exact hex ls (lv_sub hl [3] rfl)
        · replace hev := x_f c6 hev
          refine lv_iload_n hx hb dX10_wordsLovedBy_24 rfl (lv_at hl 3 rfl) ?_
          refine lv_aload_n hx hb dX10_wordsLovedBy_25 rfl (lv_at hl 0 rfl) ?_
          refine va_get (D := G.1) (ci := 6) (v := .ref aT_told) (C := RX10) (T := TX10) (N := 14) hx hb hts i10 hown hK hP 0 rfl rfl 1 (by decide) (hw _ u418) (fun _ h9 => h9) rfl dX10_wordsLovedBy_26 ?_
          refine lv_iload_n hx hb dX10_wordsLovedBy_29 rfl (lv_at hl 2 rfl) ?_
          refine lv_iload hx hb dX10_wordsLovedBy_30 (lv_at hl 4 rfl) ?_
          obtain ⟨y7, hq, hev⟩ := x_bd hev
          refine roV X hKK hR (st1 := [.int y7, .int x3]) (c_To_sortOf l G aT_told aT_told_kinds aT_told_targets aT_told_wakes aT_told_terms aT_told_sorts aT_told_numbers vT_told_people vT_told_spells vT_told_day vT_told_broken fT_told_terms fT_told_sorts x2 x4 y7 hq) K_X8_sortOf u682 (x_Psub hP [1, 2, 3] rfl) rfl (q0 := 0) rfl (by decide) ⟨Nat.zero_le _, Nat.zero_le _⟩ rfl hl.1 rfl (Nat.le_of_ble_eq_true rfl) rfl dX10_wordsLovedBy_32 ?_
          obtain ⟨y8, hq, hev⟩ := x_bd hev
          refine roS X hKK hR (st1 := [.int y8, .int x3]) (c_Tm_lover l G y7 y8 hq) K_X7_lover u716 (x_Psub hP [] rfl) (by decide) ⟨Nat.zero_le _, Nat.zero_le _⟩ rfl hl.1 rfl (Nat.le_of_ble_eq_true rfl) rfl dX10_wordsLovedBy_35 ?_
          refine lv_iload_n hx hb dX10_wordsLovedBy_38 rfl (lv_at hl 1 rfl) ?_
          refine lv_icmp_ne (tgt := 46) hx hb dX10_wordsLovedBy_39 (by decide) (fun c9 => ?_) (fun c9 => ?_)
          · replace hev := x_f c9 hev
            refine lv_iconst (v := (0 : Int32)) hx hb dX10_wordsLovedBy_46 (by decide) ?_
            exact J47 x4 (0 : Int32) x3 ls hev (lv_sub hl [0, 1, 2, 4] rfl)
          · replace hev := x_t c9 hev
            refine lv_iconst (v := (1 : Int32)) hx hb dX10_wordsLovedBy_42 (by decide) ?_
            refine lv_goto (tgt := 47) hx hb dX10_wordsLovedBy_43 (by decide) ?_
            exact J47 x4 (1 : Int32) x3 ls hev (lv_sub hl [0, 1, 2, 4] rfl)
  obtain ⟨y10, hq, hev⟩ := x_bd hev
  refine L5 p1 p2 k (0 : Int32) (0 : Int32) y10 hq (fun ls hl => ?_) ls (lv_sub hl [2, 3, 4, 1, 0] rfl)
  refine lv_iload_n hx hb dX10_wordsLovedBy_58 rfl (lv_at hl 0 rfl) ?_
  exact ret _ _ _ dX10_wordsLovedBy_59 ((show narrow _ (.int y10) = .int y10 from rfl).trans (congrArg Value.int (Option.some.inj hev)))
def f_SS_laidBy_J48 (rec : Int32 → Int32 → Int32 → Option (Int32)) (k : Nat) (vT_told_spells : Int32) (fT_told_sorts : Nat → Int32) (fT_told_terms : Nat → Int32) (x1 : Int32) (x2 : Int32) (x3 : Int32) (x4 : Int32) : Option (Int32) := x_L (x4 + (1 : Int32)) (fun y3 => rec x2 x3 y3)
def f_SS_laidBy_L21 (vT_told_spells : Int32) (fT_told_sorts : Nat → Int32) (fT_told_terms : Nat → Int32) (x1 : Int32) : Nat → Int32 → Int32 → Int32 → Option (Int32)
  | 0, _, _, _ => none
  | k + 1, x2, x3, x4 => if (3 : Int32) ≤ x4 then (some x2) else x_B (f_SS_wordsLovedBy k vT_told_spells fT_told_sorts fT_told_terms x4 x1) (fun y5 => if y5 ≤ x3 then (f_SS_laidBy_J48 (f_SS_laidBy_L21 vT_told_spells fT_told_sorts fT_told_terms x1 k) k vT_told_spells fT_told_sorts fT_told_terms x1 x2 x3 x4) else f_SS_laidBy_J48 (f_SS_laidBy_L21 vT_told_spells fT_told_sorts fT_told_terms x1 k) k vT_told_spells fT_told_sorts fT_told_terms x1 x4 y5 x4)
def f_SS_laidBy (k : Nat) (vT_told_spells : Int32) (fT_told_sorts : Nat → Int32) (fT_told_terms : Nat → Int32) (p1 : Int32) : Option (Int32) := x_B (f_To_hasSpell vT_told_spells p1) (fun y1 => if y1 = 0 then (some (-2 : Int32)) else x_B (f_SS_laidBy_L21 vT_told_spells fT_told_sorts fT_told_terms p1 k (-1 : Int32) (0 : Int32) (0 : Int32)) (fun y7 => some y7))
set_option maxHeartbeats 8000000 in
set_option maxRecDepth 100000 in
theorem c_SS_laidBy (l : Launch) (G : GG) (aT aT_text aT_told aT_reader aT_rules aT_fromNow aT_whatIf aT_trials aT_undoable aT_keptStates aT_keptDeeds aT_row aT_princes aT_told_kinds aT_told_targets aT_told_wakes aT_told_terms aT_told_sorts aT_told_numbers : Nat) (vT_state : Int32) (vT_deeds : Int32) (vT_told_people : Int32) (vT_told_spells : Int32) (vT_told_day : Int32) (vT_told_broken : Int32) (fT_told_terms : Nat → Int32) (fT_told_sorts : Nat → Int32) (k : Nat) (p1 : Int32) (r0 : Int32) (hev : f_SS_laidBy k vT_told_spells fT_told_sorts fT_told_terms p1 = some r0) : RO l G yX10_laidBy cX10_laidBy 6 (some .int) 4 [.ref aT, .int p1] [(aT, .inr (6, [.ref aT_text, .ref aT_told, .ref aT_reader, .ref aT_rules, .ref aT_fromNow, .ref aT_whatIf, .ref aT_trials, .ref aT_undoable, .ref aT_keptStates, .ref aT_keptDeeds, .ref aT_row, .ref aT_princes, .int vT_state, .int vT_deeds])), (aT_told, .inr (4, [.int vT_told_people, .int vT_told_spells, .int vT_told_day, .int vT_told_broken, .ref aT_told_kinds, .ref aT_told_targets, .ref aT_told_wakes, .ref aT_told_terms, .ref aT_told_sorts, .ref aT_told_numbers])), (aT_told_terms, .inl (G.2.1, 5, .inl fT_told_terms)), (aT_told_sorts, .inl (G.2.1, 15, .inl fT_told_sorts))] (some (.int r0)) := by
  refine RO_of (by decide) (Nat.le_of_ble_eq_true rfl) ?_
  intro p e s m ar below meth c R Q H ls X hR hP hKK hS0 hl ret
  generalize hrs : r0 = rs at hev ret
  have hl : lv_has ls 6 [(0, .ref aT), (1, .int p1)] := hl
  obtain ⟨hx, hb, hml, hown, hts, hT⟩ := id X
  have hK := hKK.1
  have hw : ∀ w ∈ T0, w.before ar s = true := fun w h => hts w (hT w h)
  have i10 := fun w h => hT w (inT10 w h)
  unfold f_SS_laidBy at hev
  refine lv_aload_n hx hb dX10_laidBy_0 rfl (lv_at hl 0 rfl) ?_
  refine va_get (D := G.1) (ci := 6) (v := .ref aT_told) (C := RX10) (T := TX10) (N := 14) hx hb hts i10 hown hK hP 0 rfl rfl 1 (by decide) (hw _ u418) (fun _ h9 => h9) rfl dX10_laidBy_1 ?_
  refine lv_iload_n hx hb dX10_laidBy_4 rfl (lv_at hl 1 rfl) ?_
  obtain ⟨y1, hq, hev⟩ := x_bd hev
  refine roV X hKK hR (st1 := [.int y1]) (c_To_hasSpell l G aT_told aT_told_kinds aT_told_targets aT_told_wakes aT_told_terms aT_told_sorts aT_told_numbers vT_told_people vT_told_spells vT_told_day vT_told_broken p1 y1 hq) K_X8_hasSpell u669 (x_Psub hP [1] rfl) rfl (q0 := 0) rfl (by decide) ⟨Nat.zero_le _, Nat.zero_le _⟩ rfl hl.1 rfl (Nat.le_of_ble_eq_true rfl) rfl dX10_laidBy_5 ?_
  refine lv_if_ne (tgt := 14) hx hb dX10_laidBy_8 (by decide) (fun c2 => ?_) (fun c2 => ?_)
  · replace hev := x_f c2 hev
    refine lv_iconst (v := (-1 : Int32)) hx hb dX10_laidBy_14 (by decide) ?_
    refine lv_istore_n (lv' := [(2, .int (-1 : Int32)), (0, .ref aT), (1, .int p1)]) hx hb dX10_laidBy_15 rfl hl (by decide) rfl (fun ls hl => ?_)
    refine lv_iconst (v := (0 : Int32)) hx hb dX10_laidBy_16 (by decide) ?_
    refine lv_istore_n (lv' := [(3, .int (0 : Int32)), (2, .int (-1 : Int32)), (0, .ref aT), (1, .int p1)]) hx hb dX10_laidBy_17 rfl hl (by decide) rfl (fun ls hl => ?_)
    refine lv_iconst (v := (0 : Int32)) hx hb dX10_laidBy_18 (by decide) ?_
    refine lv_istore (lv' := [(4, .int (0 : Int32)), (3, .int (0 : Int32)), (2, .int (-1 : Int32)), (0, .ref aT), (1, .int p1)]) hx hb dX10_laidBy_19 hl (by decide) rfl (fun ls hl => ?_)
    have L21 : ∀ (x1 : Int32), ∀ (k : Nat) (x2 : Int32) (x3 : Int32) (x4 : Int32) (o2 : Int32), f_SS_laidBy_L21 vT_told_spells fT_told_sorts fT_told_terms x1 k x2 x3 x4 = some o2 → (∀ (ls : Array Slot), lv_has ls 6 [(2, .int o2)] → W p l e R s m ar below meth c H [] 0 0 Q (F0 m 54 ls [])) → ∀ (ls : Array Slot), lv_has ls 6 [(0, .ref aT), (1, .int x1), (2, .int x2), (3, .int x3), (4, .int x4)] → W p l e R s m ar below meth c H [] 0 0 Q (F0 m 21 ls []) := by
      intro x1 k
      induction k with
      | zero => intro x2 x3 x4 o2 hev; rw [f_SS_laidBy_L21] at hev; cases hev
      | succ k ih =>
        intro x2 x3 x4 o2 hev hex ls hl
        rw [f_SS_laidBy_L21] at hev
        have J48 : ∀ (x2 : Int32) (x3 : Int32) (x4 : Int32), ∀ (ls : Array Slot), f_SS_laidBy_J48 (f_SS_laidBy_L21 vT_told_spells fT_told_sorts fT_told_terms x1 k) k vT_told_spells fT_told_sorts fT_told_terms x1 x2 x3 x4 = some o2 → lv_has ls 6 [(0, .ref aT), (1, .int x1), (2, .int x2), (3, .int x3), (4, .int x4)] → W p l e R s m ar below meth c H [] 0 0 Q (F0 m 48 ls []) := by
          intro x2 x3 x4 ls hev hl
          unfold f_SS_laidBy_J48 at hev
          obtain ⟨y3, ey3⟩ : ∃ y : Int32, y = x4 + (1 : Int32) := ⟨_, rfl⟩
          refine lv_iinc (v := y3) (lv' := [(4, .int y3), (0, .ref aT), (1, .int x1), (2, .int x2), (3, .int x3)]) hx hb dX10_laidBy_48 hl (k := 4) rfl (by rw [ey3]; rfl) (by decide) rfl (fun ls hl => ?_)
          replace hev := x_lt hev y3 ey3
          refine lv_goto (tgt := 21) hx hb dX10_laidBy_51 (by decide) ?_
          exact ih x2 x3 y3 _ hev hex ls (lv_sub hl [1, 2, 3, 4, 0] rfl)
        refine lv_iload hx hb dX10_laidBy_21 (lv_at hl 4 rfl) ?_
        refine lv_iconst (v := (3 : Int32)) hx hb dX10_laidBy_23 (by decide) ?_
        refine lv_icmp_ge (tgt := 54) hx hb dX10_laidBy_24 (by decide) (fun c4 => ?_) (fun c4 => ?_)
        · replace hev := x_t c4 hev
          cases hev
          exact hex ls (lv_sub hl [2] rfl)
        · replace hev := x_f c4 hev
          refine lv_aload_n hx hb dX10_laidBy_27 rfl (lv_at hl 0 rfl) ?_
          refine lv_iload hx hb dX10_laidBy_28 (lv_at hl 4 rfl) ?_
          refine lv_iload_n hx hb dX10_laidBy_30 rfl (lv_at hl 1 rfl) ?_
          obtain ⟨y5, hq, hev⟩ := x_bd hev
          refine roV X hKK hR (st1 := [.int y5]) (c_SS_wordsLovedBy l G aT aT_text aT_told aT_reader aT_rules aT_fromNow aT_whatIf aT_trials aT_undoable aT_keptStates aT_keptDeeds aT_row aT_princes aT_told_kinds aT_told_targets aT_told_wakes aT_told_terms aT_told_sorts aT_told_numbers vT_state vT_deeds vT_told_people vT_told_spells vT_told_day vT_told_broken fT_told_terms fT_told_sorts k x4 x1 y5 hq) K_X10_wordsLovedBy u712 (x_Psub hP [0, 1, 2, 3] rfl) rfl (q0 := 0) rfl (by decide) ⟨Nat.zero_le _, Nat.zero_le _⟩ rfl hl.1 rfl (Nat.le_of_ble_eq_true rfl) rfl dX10_laidBy_31 ?_
          refine lv_istore (lv' := [(5, .int y5), (0, .ref aT), (1, .int x1), (2, .int x2), (3, .int x3), (4, .int x4)]) hx hb dX10_laidBy_34 hl (by decide) rfl (fun ls hl => ?_)
          refine lv_iload hx hb dX10_laidBy_36 (lv_at hl 0 rfl) ?_
          refine lv_iload_n hx hb dX10_laidBy_38 rfl (lv_at hl 4 rfl) ?_
          refine lv_icmp_le (tgt := 48) hx hb dX10_laidBy_39 (by decide) (fun c6 => ?_) (fun c6 => ?_)
          · replace hev := x_t c6 hev
            exact J48 x2 x3 x4 ls hev (lv_sub hl [1, 2, 3, 4, 5] rfl)
          · replace hev := x_f c6 hev
            refine lv_iload hx hb dX10_laidBy_42 (lv_at hl 0 rfl) ?_
            refine lv_istore_n (lv' := [(3, .int y5), (5, .int y5), (0, .ref aT), (1, .int x1), (2, .int x2), (4, .int x4)]) hx hb dX10_laidBy_44 rfl hl (by decide) rfl (fun ls hl => ?_)
            refine lv_iload hx hb dX10_laidBy_45 (lv_at hl 5 rfl) ?_
            refine lv_istore_n (lv' := [(2, .int x4), (3, .int y5), (5, .int y5), (0, .ref aT), (1, .int x1), (4, .int x4)]) hx hb dX10_laidBy_47 rfl hl (by decide) rfl (fun ls hl => ?_)
            exact J48 x4 y5 x4 ls hev (lv_sub hl [3, 4, 0, 1, 5] rfl)
    obtain ⟨y7, hq, hev⟩ := x_bd hev
    refine L21 p1 k (-1 : Int32) (0 : Int32) (0 : Int32) y7 hq (fun ls hl => ?_) ls (lv_sub hl [3, 4, 2, 1, 0] rfl)
    refine lv_iload_n hx hb dX10_laidBy_54 rfl (lv_at hl 0 rfl) ?_
    exact ret _ _ _ dX10_laidBy_55 ((show narrow _ (.int y7) = .int y7 from rfl).trans (congrArg Value.int (Option.some.inj hev)))
  · replace hev := x_t c2 hev
    refine lv_bipush (v := (-2 : Int32)) hx hb dX10_laidBy_11 (by decide) ?_
    exact ret _ _ _ dX10_laidBy_13 ((show narrow _ (.int (-2 : Int32)) = .int (-2 : Int32) from rfl).trans (congrArg Value.int (Option.some.inj hev)))
def f_SS_isAnother (vT_told_people : Int32) (p1 : Int32) (p2 : Int32) : Option (Int32) := x_B (f_To_hasPerson vT_told_people p2) (fun y1 => if y1 = 0 then (some (0 : Int32)) else if p2 = p1 then (some (0 : Int32)) else some (1 : Int32))
set_option maxHeartbeats 8000000 in
set_option maxRecDepth 100000 in
theorem c_SS_isAnother (l : Launch) (G : GG) (aT aT_text aT_told aT_reader aT_rules aT_fromNow aT_whatIf aT_trials aT_undoable aT_keptStates aT_keptDeeds aT_row aT_princes aT_told_kinds aT_told_targets aT_told_wakes aT_told_terms aT_told_sorts aT_told_numbers : Nat) (vT_state : Int32) (vT_deeds : Int32) (vT_told_people : Int32) (vT_told_spells : Int32) (vT_told_day : Int32) (vT_told_broken : Int32) (p1 : Int32) (p2 : Int32) (r0 : Int32) (hev : f_SS_isAnother vT_told_people p1 p2 = some r0) : RO l G yX10_isAnother cX10_isAnother 3 (some .boolean) 1 [.ref aT, .int p1, .int p2] [(aT, .inr (6, [.ref aT_text, .ref aT_told, .ref aT_reader, .ref aT_rules, .ref aT_fromNow, .ref aT_whatIf, .ref aT_trials, .ref aT_undoable, .ref aT_keptStates, .ref aT_keptDeeds, .ref aT_row, .ref aT_princes, .int vT_state, .int vT_deeds])), (aT_told, .inr (4, [.int vT_told_people, .int vT_told_spells, .int vT_told_day, .int vT_told_broken, .ref aT_told_kinds, .ref aT_told_targets, .ref aT_told_wakes, .ref aT_told_terms, .ref aT_told_sorts, .ref aT_told_numbers]))] (some (.int r0)) := by
  refine RO_of (by decide) (Nat.le_of_ble_eq_true rfl) ?_
  intro p e s m ar below meth c R Q H ls X hR hP hKK hS0 hl ret
  generalize hrs : r0 = rs at hev ret
  have hl : lv_has ls 3 [(0, .ref aT), (1, .int p1), (2, .int p2)] := hl
  obtain ⟨hx, hb, hml, hown, hts, hT⟩ := id X
  have hK := hKK.1
  have hw : ∀ w ∈ T0, w.before ar s = true := fun w h => hts w (hT w h)
  have i10 := fun w h => hT w (inT10 w h)
  unfold f_SS_isAnother at hev
  refine lv_aload_n hx hb dX10_isAnother_0 rfl (lv_at hl 0 rfl) ?_
  refine va_get (D := G.1) (ci := 6) (v := .ref aT_told) (C := RX10) (T := TX10) (N := 14) hx hb hts i10 hown hK hP 0 rfl rfl 1 (by decide) (hw _ u418) (fun _ h9 => h9) rfl dX10_isAnother_1 ?_
  refine lv_iload_n hx hb dX10_isAnother_4 rfl (lv_at hl 2 rfl) ?_
  obtain ⟨y1, hq, hev⟩ := x_bd hev
  refine roV X hKK hR (st1 := [.int y1]) (c_To_hasPerson l G aT_told aT_told_kinds aT_told_targets aT_told_wakes aT_told_terms aT_told_sorts aT_told_numbers vT_told_people vT_told_spells vT_told_day vT_told_broken p2 y1 hq) K_X8_hasPerson u654 (x_Psub hP [1] rfl) rfl (q0 := 0) rfl (by decide) ⟨Nat.zero_le _, Nat.zero_le _⟩ rfl hl.1 rfl (Nat.le_of_ble_eq_true rfl) rfl dX10_isAnother_5 ?_
  refine lv_if_eq (tgt := 20) hx hb dX10_isAnother_8 (by decide) (fun c2 => ?_) (fun c2 => ?_)
  · replace hev := x_t c2 hev
    refine lv_iconst (v := (0 : Int32)) hx hb dX10_isAnother_20 (by decide) ?_
    exact ret _ _ _ dX10_isAnother_21 ((show narrow _ (.int (0 : Int32)) = .int (0 : Int32) from nb0).trans (congrArg Value.int (Option.some.inj hev)))
  · replace hev := x_f c2 hev
    refine lv_iload_n hx hb dX10_isAnother_11 rfl (lv_at hl 2 rfl) ?_
    refine lv_iload_n hx hb dX10_isAnother_12 rfl (lv_at hl 1 rfl) ?_
    refine lv_icmp_eq (tgt := 20) hx hb dX10_isAnother_13 (by decide) (fun c3 => ?_) (fun c3 => ?_)
    · replace hev := x_t c3 hev
      refine lv_iconst (v := (0 : Int32)) hx hb dX10_isAnother_20 (by decide) ?_
      exact ret _ _ _ dX10_isAnother_21 ((show narrow _ (.int (0 : Int32)) = .int (0 : Int32) from nb0).trans (congrArg Value.int (Option.some.inj hev)))
    · replace hev := x_f c3 hev
      refine lv_iconst (v := (1 : Int32)) hx hb dX10_isAnother_16 (by decide) ?_
      refine lv_goto (tgt := 21) hx hb dX10_isAnother_17 (by decide) ?_
      exact ret _ _ _ dX10_isAnother_21 ((show narrow _ (.int (1 : Int32)) = .int (1 : Int32) from nb1).trans (congrArg Value.int (Option.some.inj hev)))
def f_SS_refusal_J56 (vT_told_people : Int32) : Option (Int32) := some (-3 : Int32)
def f_SS_refusal_J47 (vT_told_people : Int32) (x2 : Int32) : Option (Int32) := if x2 < 0 then (f_SS_refusal_J56 vT_told_people) else if x2 ≤ (4 : Int32) then (some (0 : Int32)) else f_SS_refusal_J56 vT_told_people
def f_SS_refusal_J30 (vT_told_people : Int32) (x2 : Int32) (x3 : Int32) : Option (Int32) := if x2 = (2 : Int32) then (if x3 < 0 then (some (-2 : Int32)) else if x3 < (2 : Int32) then (f_SS_refusal_J47 vT_told_people x2) else some (-2 : Int32)) else f_SS_refusal_J47 vT_told_people x2
def f_SS_refusal (vT_told_people : Int32) (p1 : Int32) (p2 : Int32) (p3 : Int32) : Option (Int32) := x_B (f_To_hasPerson vT_told_people p1) (fun y6 => if y6 = 0 then (some (-2 : Int32)) else if p2 = 0 then (x_B (f_SS_isAnother vT_told_people p1 p3) (fun y9 => if y9 = 0 then (some (-2 : Int32)) else f_SS_refusal_J30 vT_told_people p2 p3)) else f_SS_refusal_J30 vT_told_people p2 p3)
set_option maxHeartbeats 8000000 in
set_option maxRecDepth 100000 in
theorem c_SS_refusal (l : Launch) (G : GG) (aT aT_text aT_told aT_reader aT_rules aT_fromNow aT_whatIf aT_trials aT_undoable aT_keptStates aT_keptDeeds aT_row aT_princes aT_told_kinds aT_told_targets aT_told_wakes aT_told_terms aT_told_sorts aT_told_numbers : Nat) (vT_state : Int32) (vT_deeds : Int32) (vT_told_people : Int32) (vT_told_spells : Int32) (vT_told_day : Int32) (vT_told_broken : Int32) (p1 : Int32) (p2 : Int32) (p3 : Int32) (r0 : Int32) (hev : f_SS_refusal vT_told_people p1 p2 p3 = some r0) : RO l G yX10_refusal cX10_refusal 4 (some .int) 2 [.ref aT, .int p1, .int p2, .int p3] [(aT, .inr (6, [.ref aT_text, .ref aT_told, .ref aT_reader, .ref aT_rules, .ref aT_fromNow, .ref aT_whatIf, .ref aT_trials, .ref aT_undoable, .ref aT_keptStates, .ref aT_keptDeeds, .ref aT_row, .ref aT_princes, .int vT_state, .int vT_deeds])), (aT_told, .inr (4, [.int vT_told_people, .int vT_told_spells, .int vT_told_day, .int vT_told_broken, .ref aT_told_kinds, .ref aT_told_targets, .ref aT_told_wakes, .ref aT_told_terms, .ref aT_told_sorts, .ref aT_told_numbers]))] (some (.int r0)) := by
  refine RO_of (by decide) (Nat.le_of_ble_eq_true rfl) ?_
  intro p e s m ar below meth c R Q H ls X hR hP hKK hS0 hl ret
  generalize hrs : r0 = rs at hev ret
  have hl : lv_has ls 4 [(0, .ref aT), (1, .int p1), (2, .int p2), (3, .int p3)] := hl
  obtain ⟨hx, hb, hml, hown, hts, hT⟩ := id X
  have hK := hKK.1
  have hw : ∀ w ∈ T0, w.before ar s = true := fun w h => hts w (hT w h)
  have i10 := fun w h => hT w (inT10 w h)
  have J56 : ∀ (ls : Array Slot), f_SS_refusal_J56 vT_told_people = some rs → lv_has ls 4 [] → W p l e R s m ar below meth c H [] 0 0 Q (F0 m 56 ls []) := by
    intro  ls hev hl
    unfold f_SS_refusal_J56 at hev
    refine lv_bipush (v := (-3 : Int32)) hx hb dX10_refusal_56 (by decide) ?_
    refine lv_goto (tgt := 62) hx hb dX10_refusal_58 (by decide) ?_
    exact ret _ _ _ dX10_refusal_62 ((show narrow _ (.int (-3 : Int32)) = .int (-3 : Int32) from rfl).trans (congrArg Value.int (Option.some.inj hev)))
  have J47 : ∀ (x2 : Int32), ∀ (ls : Array Slot), f_SS_refusal_J47 vT_told_people x2 = some rs → lv_has ls 4 [(2, .int x2)] → W p l e R s m ar below meth c H [] 0 0 Q (F0 m 47 ls []) := by
    intro x2 ls hev hl
    unfold f_SS_refusal_J47 at hev
    refine lv_iload_n hx hb dX10_refusal_47 rfl (lv_at hl 0 rfl) ?_
    refine lv_if_lt (tgt := 56) hx hb dX10_refusal_48 (by decide) (fun c1 => ?_) (fun c1 => ?_)
    · replace hev := x_t c1 hev
      exact J56  ls hev (lv_sub hl [] rfl)
    · replace hev := x_f c1 hev
      refine lv_iload_n hx hb dX10_refusal_51 rfl (lv_at hl 0 rfl) ?_
      refine lv_iconst (v := (4 : Int32)) hx hb dX10_refusal_52 (by decide) ?_
      refine lv_icmp_le (tgt := 61) hx hb dX10_refusal_53 (by decide) (fun c2 => ?_) (fun c2 => ?_)
      · replace hev := x_t c2 hev
        refine lv_iconst (v := (0 : Int32)) hx hb dX10_refusal_61 (by decide) ?_
        exact ret _ _ _ dX10_refusal_62 ((show narrow _ (.int (0 : Int32)) = .int (0 : Int32) from rfl).trans (congrArg Value.int (Option.some.inj hev)))
      · replace hev := x_f c2 hev
        exact J56  ls hev (lv_sub hl [] rfl)
  have J30 : ∀ (x2 : Int32) (x3 : Int32), ∀ (ls : Array Slot), f_SS_refusal_J30 vT_told_people x2 x3 = some rs → lv_has ls 4 [(2, .int x2), (3, .int x3)] → W p l e R s m ar below meth c H [] 0 0 Q (F0 m 30 ls []) := by
    intro x2 x3 ls hev hl
    unfold f_SS_refusal_J30 at hev
    refine lv_iload_n hx hb dX10_refusal_30 rfl (lv_at hl 0 rfl) ?_
    refine lv_iconst (v := (2 : Int32)) hx hb dX10_refusal_31 (by decide) ?_
    refine lv_icmp_ne (tgt := 47) hx hb dX10_refusal_32 (by decide) (fun c3 => ?_) (fun c3 => ?_)
    · replace hev := x_f c3 hev
      exact J47 x2 ls hev (lv_sub hl [0] rfl)
    · replace hev := x_t c3 hev
      refine lv_iload_n hx hb dX10_refusal_35 rfl (lv_at hl 1 rfl) ?_
      refine lv_if_lt (tgt := 44) hx hb dX10_refusal_36 (by decide) (fun c4 => ?_) (fun c4 => ?_)
      · replace hev := x_t c4 hev
        refine lv_bipush (v := (-2 : Int32)) hx hb dX10_refusal_44 (by decide) ?_
        exact ret _ _ _ dX10_refusal_46 ((show narrow _ (.int (-2 : Int32)) = .int (-2 : Int32) from rfl).trans (congrArg Value.int (Option.some.inj hev)))
      · replace hev := x_f c4 hev
        refine lv_iload_n hx hb dX10_refusal_39 rfl (lv_at hl 1 rfl) ?_
        refine lv_iconst (v := (2 : Int32)) hx hb dX10_refusal_40 (by decide) ?_
        refine lv_icmp_lt (tgt := 47) hx hb dX10_refusal_41 (by decide) (fun c5 => ?_) (fun c5 => ?_)
        · replace hev := x_t c5 hev
          exact J47 x2 ls hev (lv_sub hl [0] rfl)
        · replace hev := x_f c5 hev
          refine lv_bipush (v := (-2 : Int32)) hx hb dX10_refusal_44 (by decide) ?_
          exact ret _ _ _ dX10_refusal_46 ((show narrow _ (.int (-2 : Int32)) = .int (-2 : Int32) from rfl).trans (congrArg Value.int (Option.some.inj hev)))
  unfold f_SS_refusal at hev
  refine lv_aload_n hx hb dX10_refusal_0 rfl (lv_at hl 0 rfl) ?_
  refine va_get (D := G.1) (ci := 6) (v := .ref aT_told) (C := RX10) (T := TX10) (N := 14) hx hb hts i10 hown hK hP 0 rfl rfl 1 (by decide) (hw _ u418) (fun _ h9 => h9) rfl dX10_refusal_1 ?_
  refine lv_iload_n hx hb dX10_refusal_4 rfl (lv_at hl 1 rfl) ?_
  obtain ⟨y6, hq, hev⟩ := x_bd hev
  refine roV X hKK hR (st1 := [.int y6]) (c_To_hasPerson l G aT_told aT_told_kinds aT_told_targets aT_told_wakes aT_told_terms aT_told_sorts aT_told_numbers vT_told_people vT_told_spells vT_told_day vT_told_broken p1 y6 hq) K_X8_hasPerson u654 (x_Psub hP [1] rfl) rfl (q0 := 0) rfl (by decide) ⟨Nat.zero_le _, Nat.zero_le _⟩ rfl hl.1 rfl (Nat.le_of_ble_eq_true rfl) rfl dX10_refusal_5 ?_
  refine lv_if_ne (tgt := 14) hx hb dX10_refusal_8 (by decide) (fun c7 => ?_) (fun c7 => ?_)
  · replace hev := x_f c7 hev
    refine lv_iload_n hx hb dX10_refusal_14 rfl (lv_at hl 2 rfl) ?_
    refine lv_if_ne (tgt := 30) hx hb dX10_refusal_15 (by decide) (fun c8 => ?_) (fun c8 => ?_)
    · replace hev := x_f c8 hev
      exact J30 p2 p3 ls hev (lv_sub hl [2, 3] rfl)
    · replace hev := x_t c8 hev
      refine lv_aload_n hx hb dX10_refusal_18 rfl (lv_at hl 0 rfl) ?_
      refine lv_iload_n hx hb dX10_refusal_19 rfl (lv_at hl 1 rfl) ?_
      refine lv_iload_n hx hb dX10_refusal_20 rfl (lv_at hl 3 rfl) ?_
      obtain ⟨y9, hq, hev⟩ := x_bd hev
      refine roV X hKK hR (st1 := [.int y9]) (c_SS_isAnother l G aT aT_text aT_told aT_reader aT_rules aT_fromNow aT_whatIf aT_trials aT_undoable aT_keptStates aT_keptDeeds aT_row aT_princes aT_told_kinds aT_told_targets aT_told_wakes aT_told_terms aT_told_sorts aT_told_numbers vT_state vT_deeds vT_told_people vT_told_spells vT_told_day vT_told_broken p1 p3 y9 hq) K_X10_isAnother u727 (x_Psub hP [0, 1] rfl) rfl (q0 := 0) rfl (by decide) ⟨Nat.zero_le _, Nat.zero_le _⟩ rfl hl.1 rfl (Nat.le_of_ble_eq_true rfl) rfl dX10_refusal_21 ?_
      refine lv_if_ne (tgt := 30) hx hb dX10_refusal_24 (by decide) (fun c10 => ?_) (fun c10 => ?_)
      · replace hev := x_f c10 hev
        exact J30 p2 p3 ls hev (lv_sub hl [2, 3] rfl)
      · replace hev := x_t c10 hev
        refine lv_bipush (v := (-2 : Int32)) hx hb dX10_refusal_27 (by decide) ?_
        exact ret _ _ _ dX10_refusal_29 ((show narrow _ (.int (-2 : Int32)) = .int (-2 : Int32) from rfl).trans (congrArg Value.int (Option.some.inj hev)))
  · replace hev := x_t c7 hev
    refine lv_bipush (v := (-2 : Int32)) hx hb dX10_refusal_11 (by decide) ?_
    exact ret _ _ _ dX10_refusal_13 ((show narrow _ (.int (-2 : Int32)) = .int (-2 : Int32) from rfl).trans (congrArg Value.int (Option.some.inj hev)))
def f_SS_can_J47 (k : Nat) (vT_rules_deedCount : Int32) (vT_rules_spells : Int32) (vT_state : Int32) (vT_told_people : Int32) (fT_rules_askings : Nat → Int32) (fT_rules_bars : Nat → Int32) (fT_rules_bits : Nat → Int32) (fT_rules_doers : Nat → Int32) (fT_rules_kisses : Nat → Int32) (fT_rules_kissesNeeded : Nat → Int32) (fT_rules_masks : Nat → Int32) (fT_rules_sorts : Nat → Int32) (fT_rules_values : Nat → Int32) (fT_rules_wakings : Nat → Int32) (fT_rules_whichs : Nat → Int32) (s0 : Int32) : Option (Int32) := x_B (f_SS_oneIf s0) (fun y1 => some y1)
def f_SS_can (k : Nat) (vT_rules_deedCount : Int32) (vT_rules_spells : Int32) (vT_state : Int32) (vT_told_people : Int32) (fT_rules_askings : Nat → Int32) (fT_rules_bars : Nat → Int32) (fT_rules_bits : Nat → Int32) (fT_rules_doers : Nat → Int32) (fT_rules_kisses : Nat → Int32) (fT_rules_kissesNeeded : Nat → Int32) (fT_rules_masks : Nat → Int32) (fT_rules_sorts : Nat → Int32) (fT_rules_values : Nat → Int32) (fT_rules_wakings : Nat → Int32) (fT_rules_whichs : Nat → Int32) (p1 : Int32) (p2 : Int32) (p3 : Int32) : Option (Int32) := x_B (f_SS_refusal vT_told_people p1 p2 p3) (fun y2 => if y2 = 0 then (x_B (f_Ru_deedOf k vT_rules_deedCount fT_rules_doers fT_rules_sorts fT_rules_whichs p1 p2 p3) (fun y4 => x_B (f_Ru_after k vT_rules_deedCount vT_rules_spells fT_rules_askings fT_rules_bars fT_rules_bits fT_rules_kisses fT_rules_kissesNeeded fT_rules_masks fT_rules_sorts fT_rules_values fT_rules_wakings vT_state y4) (fun y5 => if y5 = (-1 : Int32) then (f_SS_can_J47 k vT_rules_deedCount vT_rules_spells vT_state vT_told_people fT_rules_askings fT_rules_bars fT_rules_bits fT_rules_doers fT_rules_kisses fT_rules_kissesNeeded fT_rules_masks fT_rules_sorts fT_rules_values fT_rules_wakings fT_rules_whichs (0 : Int32)) else f_SS_can_J47 k vT_rules_deedCount vT_rules_spells vT_state vT_told_people fT_rules_askings fT_rules_bars fT_rules_bits fT_rules_doers fT_rules_kisses fT_rules_kissesNeeded fT_rules_masks fT_rules_sorts fT_rules_values fT_rules_wakings fT_rules_whichs (1 : Int32)))) else some y2)
set_option maxHeartbeats 8000000 in
set_option maxRecDepth 100000 in
theorem c_SS_can (l : Launch) (G : GG) (aT aT_text aT_told aT_reader aT_rules aT_fromNow aT_whatIf aT_trials aT_undoable aT_keptStates aT_keptDeeds aT_row aT_princes aT_told_kinds aT_told_targets aT_told_wakes aT_told_terms aT_told_sorts aT_told_numbers aT_rules_masks aT_rules_values aT_rules_askings aT_rules_kissesNeeded aT_rules_wakings aT_rules_binders aT_rules_curses aT_rules_doers aT_rules_sorts aT_rules_whichs aT_rules_bars aT_rules_bits aT_rules_kisses : Nat) (vT_state : Int32) (vT_deeds : Int32) (vT_told_people : Int32) (vT_told_spells : Int32) (vT_told_day : Int32) (vT_told_broken : Int32) (vT_rules_people : Int32) (vT_rules_spells : Int32) (vT_rules_deedCount : Int32) (fT_rules_doers : Nat → Int32) (fT_rules_whichs : Nat → Int32) (fT_rules_sorts : Nat → Int32) (fT_rules_bars : Nat → Int32) (fT_rules_kisses : Nat → Int32) (fT_rules_masks : Nat → Int32) (fT_rules_values : Nat → Int32) (fT_rules_askings : Nat → Int32) (fT_rules_kissesNeeded : Nat → Int32) (fT_rules_wakings : Nat → Int32) (fT_rules_bits : Nat → Int32) (k : Nat) (p1 : Int32) (p2 : Int32) (p3 : Int32) (r0 : Int32) (hev : f_SS_can k vT_rules_deedCount vT_rules_spells vT_state vT_told_people fT_rules_askings fT_rules_bars fT_rules_bits fT_rules_doers fT_rules_kisses fT_rules_kissesNeeded fT_rules_masks fT_rules_sorts fT_rules_values fT_rules_wakings fT_rules_whichs p1 p2 p3 = some r0) : RO l G yX10_can cX10_can 5 (some .int) 3 [.ref aT, .int p1, .int p2, .int p3] [(aT, .inr (6, [.ref aT_text, .ref aT_told, .ref aT_reader, .ref aT_rules, .ref aT_fromNow, .ref aT_whatIf, .ref aT_trials, .ref aT_undoable, .ref aT_keptStates, .ref aT_keptDeeds, .ref aT_row, .ref aT_princes, .int vT_state, .int vT_deeds])), (aT_told, .inr (4, [.int vT_told_people, .int vT_told_spells, .int vT_told_day, .int vT_told_broken, .ref aT_told_kinds, .ref aT_told_targets, .ref aT_told_wakes, .ref aT_told_terms, .ref aT_told_sorts, .ref aT_told_numbers])), (aT_rules, .inr (2, [.int vT_rules_people, .int vT_rules_spells, .int vT_rules_deedCount, .ref aT_rules_masks, .ref aT_rules_values, .ref aT_rules_askings, .ref aT_rules_kissesNeeded, .ref aT_rules_wakings, .ref aT_rules_binders, .ref aT_rules_curses, .ref aT_rules_doers, .ref aT_rules_sorts, .ref aT_rules_whichs, .ref aT_rules_bars, .ref aT_rules_bits, .ref aT_rules_kisses])), (aT_rules_doers, .inl (G.2.1, 19, .inl fT_rules_doers)), (aT_rules_whichs, .inl (G.2.1, 19, .inl fT_rules_whichs)), (aT_rules_sorts, .inl (G.2.1, 19, .inl fT_rules_sorts)), (aT_rules_bars, .inl (G.2.1, 19, .inl fT_rules_bars)), (aT_rules_kisses, .inl (G.2.1, 19, .inl fT_rules_kisses)), (aT_rules_masks, .inl (G.2.1, 5, .inl fT_rules_masks)), (aT_rules_values, .inl (G.2.1, 5, .inl fT_rules_values)), (aT_rules_askings, .inl (G.2.1, 5, .inl fT_rules_askings)), (aT_rules_kissesNeeded, .inl (G.2.1, 5, .inl fT_rules_kissesNeeded)), (aT_rules_wakings, .inl (G.2.1, 5, .inl fT_rules_wakings)), (aT_rules_bits, .inl (G.2.1, 19, .inl fT_rules_bits))] (some (.int r0)) := by
  refine RO_of (by decide) (Nat.le_of_ble_eq_true rfl) ?_
  intro p e s m ar below meth c R Q H ls X hR hP hKK hS0 hl ret
  generalize hrs : r0 = rs at hev ret
  have hl : lv_has ls 5 [(0, .ref aT), (1, .int p1), (2, .int p2), (3, .int p3)] := hl
  obtain ⟨hx, hb, hml, hown, hts, hT⟩ := id X
  have hK := hKK.1
  have hw : ∀ w ∈ T0, w.before ar s = true := fun w h => hts w (hT w h)
  have i10 := fun w h => hT w (inT10 w h)
  have J47 : ∀ (s0 : Int32), ∀ (ls : Array Slot), f_SS_can_J47 k vT_rules_deedCount vT_rules_spells vT_state vT_told_people fT_rules_askings fT_rules_bars fT_rules_bits fT_rules_doers fT_rules_kisses fT_rules_kissesNeeded fT_rules_masks fT_rules_sorts fT_rules_values fT_rules_wakings fT_rules_whichs s0 = some rs → lv_has ls 5 [] → W p l e R s m ar below meth c H [] 0 0 Q (F0 m 47 ls [.int s0]) := by
    intro s0 ls hev hl
    unfold f_SS_can_J47 at hev
    obtain ⟨y1, hq, hev⟩ := x_bd hev
    refine roS X hKK hR (st1 := [.int y1]) (c_SS_oneIf l G s0 y1 hq) K_X10_oneIf u662 (x_Psub hP [] rfl) (by decide) ⟨Nat.zero_le _, Nat.zero_le _⟩ rfl hl.1 rfl (Nat.le_of_ble_eq_true rfl) rfl dX10_can_47 ?_
    exact ret _ _ _ dX10_can_50 ((show narrow _ (.int y1) = .int y1 from rfl).trans (congrArg Value.int (Option.some.inj hev)))
  unfold f_SS_can at hev
  refine lv_aload_n hx hb dX10_can_0 rfl (lv_at hl 0 rfl) ?_
  refine lv_iload_n hx hb dX10_can_1 rfl (lv_at hl 1 rfl) ?_
  refine lv_iload_n hx hb dX10_can_2 rfl (lv_at hl 2 rfl) ?_
  refine lv_iload_n hx hb dX10_can_3 rfl (lv_at hl 3 rfl) ?_
  obtain ⟨y2, hq, hev⟩ := x_bd hev
  refine roV X hKK hR (st1 := [.int y2]) (c_SS_refusal l G aT aT_text aT_told aT_reader aT_rules aT_fromNow aT_whatIf aT_trials aT_undoable aT_keptStates aT_keptDeeds aT_row aT_princes aT_told_kinds aT_told_targets aT_told_wakes aT_told_terms aT_told_sorts aT_told_numbers vT_state vT_deeds vT_told_people vT_told_spells vT_told_day vT_told_broken p1 p2 p3 y2 hq) K_X10_refusal u723 (x_Psub hP [0, 1] rfl) rfl (q0 := 0) rfl (by decide) ⟨Nat.zero_le _, Nat.zero_le _⟩ rfl hl.1 rfl (Nat.le_of_ble_eq_true rfl) rfl dX10_can_4 ?_
  refine lv_istore (lv' := [(4, .int y2), (0, .ref aT), (1, .int p1), (2, .int p2), (3, .int p3)]) hx hb dX10_can_7 hl (by decide) rfl (fun ls hl => ?_)
  refine lv_iload hx hb dX10_can_9 (lv_at hl 0 rfl) ?_
  refine lv_if_eq (tgt := 17) hx hb dX10_can_11 (by decide) (fun c3 => ?_) (fun c3 => ?_)
  · replace hev := x_t c3 hev
    refine lv_aload_n hx hb dX10_can_17 rfl (lv_at hl 1 rfl) ?_
    refine va_get (D := G.1) (ci := 6) (v := .ref aT_rules) (C := RX10) (T := TX10) (N := 14) hx hb hts i10 hown hK hP 0 rfl rfl 3 (by decide) (hw _ u420) (fun _ h9 => h9) rfl dX10_can_18 ?_
    refine lv_aload_n hx hb dX10_can_21 rfl (lv_at hl 1 rfl) ?_
    refine va_get (D := G.1) (ci := 6) (v := .int vT_state) (C := RX10) (T := TX10) (N := 14) hx hb hts i10 hown hK hP 0 rfl rfl 12 (by decide) (hw _ u429) (fun _ h9 => h9) rfl dX10_can_22 ?_
    refine lv_aload_n hx hb dX10_can_25 rfl (lv_at hl 1 rfl) ?_
    refine va_get (D := G.1) (ci := 6) (v := .ref aT_rules) (C := RX10) (T := TX10) (N := 14) hx hb hts i10 hown hK hP 0 rfl rfl 3 (by decide) (hw _ u420) (fun _ h9 => h9) rfl dX10_can_26 ?_
    refine lv_iload_n hx hb dX10_can_29 rfl (lv_at hl 2 rfl) ?_
    refine lv_iload_n hx hb dX10_can_30 rfl (lv_at hl 3 rfl) ?_
    refine lv_iload_n hx hb dX10_can_31 rfl (lv_at hl 4 rfl) ?_
    obtain ⟨y4, hq, hev⟩ := x_bd hev
    refine roV X hKK hR (st1 := [.int y4, .int vT_state, .ref aT_rules]) (c_Ru_deedOf l G aT_rules aT_rules_masks aT_rules_values aT_rules_askings aT_rules_kissesNeeded aT_rules_wakings aT_rules_binders aT_rules_curses aT_rules_doers aT_rules_sorts aT_rules_whichs aT_rules_bars aT_rules_bits aT_rules_kisses vT_rules_people vT_rules_spells vT_rules_deedCount fT_rules_doers fT_rules_whichs fT_rules_sorts k p1 p2 p3 y4 hq) K_X4_deedOf u731 (x_Psub hP [2, 3, 4, 5] rfl) rfl (q0 := 0) rfl (by decide) ⟨Nat.zero_le _, Nat.zero_le _⟩ rfl hl.1 rfl (Nat.le_of_ble_eq_true rfl) rfl dX10_can_32 ?_
    obtain ⟨y5, hq, hev⟩ := x_bd hev
    refine roV X hKK hR (st1 := [.int y5]) (c_Ru_after l G aT_rules aT_rules_masks aT_rules_values aT_rules_askings aT_rules_kissesNeeded aT_rules_wakings aT_rules_binders aT_rules_curses aT_rules_doers aT_rules_sorts aT_rules_whichs aT_rules_bars aT_rules_bits aT_rules_kisses vT_rules_people vT_rules_spells vT_rules_deedCount fT_rules_bars fT_rules_sorts fT_rules_kisses fT_rules_masks fT_rules_values fT_rules_askings fT_rules_kissesNeeded fT_rules_wakings fT_rules_bits k vT_state y4 y5 hq) K_X4_after u735 (x_Psub hP [2, 6, 5, 7, 8, 9, 10, 11, 12, 13] rfl) rfl (q0 := 0) rfl (by decide) ⟨Nat.zero_le _, Nat.zero_le _⟩ rfl hl.1 rfl (Nat.le_of_ble_eq_true rfl) rfl dX10_can_35 ?_
    refine lv_iconst (v := (-1 : Int32)) hx hb dX10_can_38 (by decide) ?_
    refine lv_icmp_eq (tgt := 46) hx hb dX10_can_39 (by decide) (fun c6 => ?_) (fun c6 => ?_)
    · replace hev := x_t c6 hev
      refine lv_iconst (v := (0 : Int32)) hx hb dX10_can_46 (by decide) ?_
      exact J47 (0 : Int32) ls hev (lv_sub hl [] rfl)
    · replace hev := x_f c6 hev
      refine lv_iconst (v := (1 : Int32)) hx hb dX10_can_42 (by decide) ?_
      refine lv_goto (tgt := 47) hx hb dX10_can_43 (by decide) ?_
      exact J47 (1 : Int32) ls hev (lv_sub hl [] rfl)
  · replace hev := x_f c3 hev
    refine lv_iload hx hb dX10_can_14 (lv_at hl 0 rfl) ?_
    exact ret _ _ _ dX10_can_16 ((show narrow _ (.int y2) = .int y2 from rfl).trans (congrArg Value.int (Option.some.inj hev)))
