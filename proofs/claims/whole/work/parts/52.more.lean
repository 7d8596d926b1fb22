def f_SS_count (vT_deeds : Int32) (vT_princes_size : Int32) (vT_row_size : Int32) (vT_state : Int32) (vT_text_size : Int32) (vT_told_people : Int32) (vT_told_spells : Int32) (vT_trials_trials_size : Int32) (vT_undoable_size : Int32) (p1 : Int32) : Option (Int32) := if p1 = (0 : Int32) then (x_B (f_To_people vT_told_people) (fun y2 => some y2)) else if p1 = (1 : Int32) then (x_B (f_To_spells vT_told_spells) (fun y4 => some y4)) else if p1 = (2 : Int32) then (x_B (f_St_holding vT_state) (fun y6 => some y6)) else if p1 = (3 : Int32) then (x_B (f_St_broken vT_state) (fun y8 => some y8)) else if p1 = (4 : Int32) then (x_B (f_St_weepers vT_state) (fun y10 => some y10)) else if p1 = (5 : Int32) then (x_B (f_St_day vT_state) (fun y12 => some y12)) else if p1 = (6 : Int32) then (x_B (f_St_asked vT_state) (fun y14 => some y14)) else if p1 = (7 : Int32) then (some vT_deeds) else if p1 = (8 : Int32) then (x_B (f_Rw_size vT_undoable_size) (fun y17 => some y17)) else if p1 = (9 : Int32) then (x_B (f_Rw_size vT_row_size) (fun y19 => some y19)) else if p1 = (10 : Int32) then (x_B (f_Rw_size vT_princes_size) (fun y21 => some y21)) else if p1 = (11 : Int32) then (x_B (f_Tr_size vT_trials_trials_size) (fun y23 => some y23)) else if p1 = (12 : Int32) then (x_B (f_Rw_size vT_text_size) (fun y25 => some y25)) else some (-3 : Int32)
set_option maxHeartbeats 8000000 in
set_option maxRecDepth 100000 in
theorem c_SS_count (l : Launch) (G : GG) (aT aT_text aT_told aT_reader aT_rules aT_fromNow aT_whatIf aT_trials aT_undoable aT_keptStates aT_keptDeeds aT_row aT_princes aT_text_items aT_trials_trials aT_trials_so aT_trials_trials_items aT_princes_items aT_row_items aT_undoable_items aT_told_kinds aT_told_targets aT_told_wakes aT_told_terms aT_told_sorts aT_told_numbers : Nat) (vT_state : Int32) (vT_deeds : Int32) (vT_text_size : Int32) (vT_trials_lifted : Int32) (vT_trials_people : Int32) (vT_trials_trials_size : Int32) (vT_princes_size : Int32) (vT_row_size : Int32) (vT_undoable_size : Int32) (vT_told_people : Int32) (vT_told_spells : Int32) (vT_told_day : Int32) (vT_told_broken : Int32) (p1 : Int32) (r0 : Int32) (hev : f_SS_count vT_deeds vT_princes_size vT_row_size vT_state vT_text_size vT_told_people vT_told_spells vT_trials_trials_size vT_undoable_size p1 = some r0) : RO l G yX10_count cX10_count 2 (some .int) 2 [.ref aT, .int p1] [(aT, .inr (6, [.ref aT_text, .ref aT_told, .ref aT_reader, .ref aT_rules, .ref aT_fromNow, .ref aT_whatIf, .ref aT_trials, .ref aT_undoable, .ref aT_keptStates, .ref aT_keptDeeds, .ref aT_row, .ref aT_princes, .int vT_state, .int vT_deeds])), (aT_text, .inr (1, [.ref aT_text_items, .int vT_text_size])), (aT_trials, .inr (5, [.ref aT_trials_trials, .int vT_trials_lifted, .ref aT_trials_so, .int vT_trials_people])), (aT_trials_trials, .inr (1, [.ref aT_trials_trials_items, .int vT_trials_trials_size])), (aT_princes, .inr (1, [.ref aT_princes_items, .int vT_princes_size])), (aT_row, .inr (1, [.ref aT_row_items, .int vT_row_size])), (aT_undoable, .inr (1, [.ref aT_undoable_items, .int vT_undoable_size])), (aT_told, .inr (4, [.int vT_told_people, .int vT_told_spells, .int vT_told_day, .int vT_told_broken, .ref aT_told_kinds, .ref aT_told_targets, .ref aT_told_wakes, .ref aT_told_terms, .ref aT_told_sorts, .ref aT_told_numbers]))] (some (.int r0)) := by
  refine RO_of (by decide) (Nat.le_of_ble_eq_true rfl) ?_
  intro p e s m ar below meth c R Q H ls X hR hP hKK hS0 hl ret
  generalize hrs : r0 = rs at hev ret
  have hl : lv_has ls 2 [(0, .ref aT), (1, .int p1)] := hl
  obtain ⟨hx, hb, hml, hown, hts, hT⟩ := id X
  have hK := hKK.1
  have hw : ∀ w ∈ T0, w.before ar s = true := fun w h => hts w (hT w h)
  have i10 := fun w h => hT w (inT10 w h)
  unfold f_SS_count at hev
  refine lv_iload_n hx hb dX10_count_0 rfl (lv_at hl 1 rfl) ?_
  by_cases c1 : p1 = (0 : Int32)
  · replace hev := x_t c1 hev
    refine lv_tableIn (tgt := 68) hx hb dX10_count_1 (by rw [c1]; decide) (by rw [c1]; decide) (by rw [c1]; rfl) (by decide) ?_
    refine lv_aload_n hx hb dX10_count_68 rfl (lv_at hl 0 rfl) ?_
    refine va_get (D := G.1) (ci := 6) (v := .ref aT_told) (C := RX10) (T := TX10) (N := 14) hx hb hts i10 hown hK hP 0 rfl rfl 1 (by decide) (hw _ u418) (fun _ h9 => h9) rfl dX10_count_69 ?_
    obtain ⟨y2, hq, hev⟩ := x_bd hev
    refine roV X hKK hR (st1 := [.int y2]) (c_To_people l G aT_told aT_told_kinds aT_told_targets aT_told_wakes aT_told_terms aT_told_sorts aT_told_numbers vT_told_people vT_told_spells vT_told_day vT_told_broken y2 hq) K_X8_people u1010 (x_Psub hP [7] rfl) rfl (q0 := 0) rfl (by decide) ⟨Nat.zero_le _, Nat.zero_le _⟩ rfl hl.1 rfl (Nat.le_of_ble_eq_true rfl) rfl dX10_count_72 ?_
    exact ret _ _ _ dX10_count_75 ((show narrow _ (.int y2) = .int y2 from rfl).trans (congrArg Value.int (Option.some.inj hev)))
  replace hev := x_f c1 hev
  by_cases c3 : p1 = (1 : Int32)
  · replace hev := x_t c3 hev
    refine lv_tableIn (tgt := 76) hx hb dX10_count_1 (by rw [c3]; decide) (by rw [c3]; decide) (by rw [c3]; rfl) (by decide) ?_
    refine lv_aload_n hx hb dX10_count_76 rfl (lv_at hl 0 rfl) ?_
    refine va_get (D := G.1) (ci := 6) (v := .ref aT_told) (C := RX10) (T := TX10) (N := 14) hx hb hts i10 hown hK hP 0 rfl rfl 1 (by decide) (hw _ u418) (fun _ h9 => h9) rfl dX10_count_77 ?_
    obtain ⟨y4, hq, hev⟩ := x_bd hev
    refine roV X hKK hR (st1 := [.int y4]) (c_To_spells l G aT_told aT_told_kinds aT_told_targets aT_told_wakes aT_told_terms aT_told_sorts aT_told_numbers vT_told_people vT_told_spells vT_told_day vT_told_broken y4 hq) K_X8_spells u1075 (x_Psub hP [7] rfl) rfl (q0 := 0) rfl (by decide) ⟨Nat.zero_le _, Nat.zero_le _⟩ rfl hl.1 rfl (Nat.le_of_ble_eq_true rfl) rfl dX10_count_80 ?_
    exact ret _ _ _ dX10_count_83 ((show narrow _ (.int y4) = .int y4 from rfl).trans (congrArg Value.int (Option.some.inj hev)))
  replace hev := x_f c3 hev
  by_cases c5 : p1 = (2 : Int32)
  · replace hev := x_t c5 hev
    refine lv_tableIn (tgt := 84) hx hb dX10_count_1 (by rw [c5]; decide) (by rw [c5]; decide) (by rw [c5]; rfl) (by decide) ?_
    refine lv_aload_n hx hb dX10_count_84 rfl (lv_at hl 0 rfl) ?_
    refine va_get (D := G.1) (ci := 6) (v := .int vT_state) (C := RX10) (T := TX10) (N := 14) hx hb hts i10 hown hK hP 0 rfl rfl 12 (by decide) (hw _ u429) (fun _ h9 => h9) rfl dX10_count_85 ?_
    obtain ⟨y6, hq, hev⟩ := x_bd hev
    refine roS X hKK hR (st1 := [.int y6]) (c_St_holding l G vT_state y6 hq) K_X6_holding u924 (x_Psub hP [] rfl) (by decide) ⟨Nat.zero_le _, Nat.zero_le _⟩ rfl hl.1 rfl (Nat.le_of_ble_eq_true rfl) rfl dX10_count_88 ?_
    exact ret _ _ _ dX10_count_91 ((show narrow _ (.int y6) = .int y6 from rfl).trans (congrArg Value.int (Option.some.inj hev)))
  replace hev := x_f c5 hev
  by_cases c7 : p1 = (3 : Int32)
  · replace hev := x_t c7 hev
    refine lv_tableIn (tgt := 92) hx hb dX10_count_1 (by rw [c7]; decide) (by rw [c7]; decide) (by rw [c7]; rfl) (by decide) ?_
    refine lv_aload_n hx hb dX10_count_92 rfl (lv_at hl 0 rfl) ?_
    refine va_get (D := G.1) (ci := 6) (v := .int vT_state) (C := RX10) (T := TX10) (N := 14) hx hb hts i10 hown hK hP 0 rfl rfl 12 (by decide) (hw _ u429) (fun _ h9 => h9) rfl dX10_count_93 ?_
    obtain ⟨y8, hq, hev⟩ := x_bd hev
    refine roS X hKK hR (st1 := [.int y8]) (c_St_broken l G vT_state y8 hq) K_X6_broken u1076 (x_Psub hP [] rfl) (by decide) ⟨Nat.zero_le _, Nat.zero_le _⟩ rfl hl.1 rfl (Nat.le_of_ble_eq_true rfl) rfl dX10_count_96 ?_
    exact ret _ _ _ dX10_count_99 ((show narrow _ (.int y8) = .int y8 from rfl).trans (congrArg Value.int (Option.some.inj hev)))
  replace hev := x_f c7 hev
  by_cases c9 : p1 = (4 : Int32)
  · replace hev := x_t c9 hev
    refine lv_tableIn (tgt := 100) hx hb dX10_count_1 (by rw [c9]; decide) (by rw [c9]; decide) (by rw [c9]; rfl) (by decide) ?_
    refine lv_aload_n hx hb dX10_count_100 rfl (lv_at hl 0 rfl) ?_
    refine va_get (D := G.1) (ci := 6) (v := .int vT_state) (C := RX10) (T := TX10) (N := 14) hx hb hts i10 hown hK hP 0 rfl rfl 12 (by decide) (hw _ u429) (fun _ h9 => h9) rfl dX10_count_101 ?_
    obtain ⟨y10, hq, hev⟩ := x_bd hev
    refine roS X hKK hR (st1 := [.int y10]) (c_St_weepers l G vT_state y10 hq) K_X6_weepers u658 (x_Psub hP [] rfl) (by decide) ⟨Nat.zero_le _, Nat.zero_le _⟩ rfl hl.1 rfl (Nat.le_of_ble_eq_true rfl) rfl dX10_count_104 ?_
    exact ret _ _ _ dX10_count_107 ((show narrow _ (.int y10) = .int y10 from rfl).trans (congrArg Value.int (Option.some.inj hev)))
  replace hev := x_f c9 hev
  by_cases c11 : p1 = (5 : Int32)
  · replace hev := x_t c11 hev
    refine lv_tableIn (tgt := 108) hx hb dX10_count_1 (by rw [c11]; decide) (by rw [c11]; decide) (by rw [c11]; rfl) (by decide) ?_
    refine lv_aload_n hx hb dX10_count_108 rfl (lv_at hl 0 rfl) ?_
    refine va_get (D := G.1) (ci := 6) (v := .int vT_state) (C := RX10) (T := TX10) (N := 14) hx hb hts i10 hown hK hP 0 rfl rfl 12 (by decide) (hw _ u429) (fun _ h9 => h9) rfl dX10_count_109 ?_
    obtain ⟨y12, hq, hev⟩ := x_bd hev
    refine roS X hKK hR (st1 := [.int y12]) (c_St_day l G vT_state y12 hq) K_X6_day u981 (x_Psub hP [] rfl) (by decide) ⟨Nat.zero_le _, Nat.zero_le _⟩ rfl hl.1 rfl (Nat.le_of_ble_eq_true rfl) rfl dX10_count_112 ?_
    exact ret _ _ _ dX10_count_115 ((show narrow _ (.int y12) = .int y12 from rfl).trans (congrArg Value.int (Option.some.inj hev)))
  replace hev := x_f c11 hev
  by_cases c13 : p1 = (6 : Int32)
  · replace hev := x_t c13 hev
    refine lv_tableIn (tgt := 116) hx hb dX10_count_1 (by rw [c13]; decide) (by rw [c13]; decide) (by rw [c13]; rfl) (by decide) ?_
    refine lv_aload_n hx hb dX10_count_116 rfl (lv_at hl 0 rfl) ?_
    refine va_get (D := G.1) (ci := 6) (v := .int vT_state) (C := RX10) (T := TX10) (N := 14) hx hb hts i10 hown hK hP 0 rfl rfl 12 (by decide) (hw _ u429) (fun _ h9 => h9) rfl dX10_count_117 ?_
    obtain ⟨y14, hq, hev⟩ := x_bd hev
    refine roS X hKK hR (st1 := [.int y14]) (c_St_asked l G vT_state y14 hq) K_X6_asked u1079 (x_Psub hP [] rfl) (by decide) ⟨Nat.zero_le _, Nat.zero_le _⟩ rfl hl.1 rfl (Nat.le_of_ble_eq_true rfl) rfl dX10_count_120 ?_
    exact ret _ _ _ dX10_count_123 ((show narrow _ (.int y14) = .int y14 from rfl).trans (congrArg Value.int (Option.some.inj hev)))
  replace hev := x_f c13 hev
  by_cases c15 : p1 = (7 : Int32)
  · replace hev := x_t c15 hev
    refine lv_tableIn (tgt := 124) hx hb dX10_count_1 (by rw [c15]; decide) (by rw [c15]; decide) (by rw [c15]; rfl) (by decide) ?_
    refine lv_aload_n hx hb dX10_count_124 rfl (lv_at hl 0 rfl) ?_
    refine va_get (D := G.1) (ci := 6) (v := .int vT_deeds) (C := RX10) (T := TX10) (N := 14) hx hb hts i10 hown hK hP 0 rfl rfl 13 (by decide) (hw _ u430) (fun _ h9 => h9) rfl dX10_count_125 ?_
    exact ret _ _ _ dX10_count_128 ((show narrow _ (.int vT_deeds) = .int vT_deeds from rfl).trans (congrArg Value.int (Option.some.inj hev)))
  replace hev := x_f c15 hev
  by_cases c16 : p1 = (8 : Int32)
  · replace hev := x_t c16 hev
    refine lv_tableIn (tgt := 129) hx hb dX10_count_1 (by rw [c16]; decide) (by rw [c16]; decide) (by rw [c16]; rfl) (by decide) ?_
    refine lv_aload_n hx hb dX10_count_129 rfl (lv_at hl 0 rfl) ?_
    refine va_get (D := G.1) (ci := 6) (v := .ref aT_undoable) (C := RX10) (T := TX10) (N := 14) hx hb hts i10 hown hK hP 0 rfl rfl 7 (by decide) (hw _ u424) (fun _ h9 => h9) rfl dX10_count_130 ?_
    obtain ⟨y17, hq, hev⟩ := x_bd hev
    refine roV X hKK hR (st1 := [.int y17]) (c_Rw_size l G aT_undoable aT_undoable_items vT_undoable_size y17 hq) K_X3_size u468 (x_Psub hP [6] rfl) rfl (q0 := 0) rfl (by decide) ⟨Nat.zero_le _, Nat.zero_le _⟩ rfl hl.1 rfl (Nat.le_of_ble_eq_true rfl) rfl dX10_count_133 ?_
    exact ret _ _ _ dX10_count_136 ((show narrow _ (.int y17) = .int y17 from rfl).trans (congrArg Value.int (Option.some.inj hev)))
  replace hev := x_f c16 hev
  by_cases c18 : p1 = (9 : Int32)
  · replace hev := x_t c18 hev
    refine lv_tableIn (tgt := 137) hx hb dX10_count_1 (by rw [c18]; decide) (by rw [c18]; decide) (by rw [c18]; rfl) (by decide) ?_
    refine lv_aload_n hx hb dX10_count_137 rfl (lv_at hl 0 rfl) ?_
    refine va_get (D := G.1) (ci := 6) (v := .ref aT_row) (C := RX10) (T := TX10) (N := 14) hx hb hts i10 hown hK hP 0 rfl rfl 10 (by decide) (hw _ u427) (fun _ h9 => h9) rfl dX10_count_138 ?_
    obtain ⟨y19, hq, hev⟩ := x_bd hev
    refine roV X hKK hR (st1 := [.int y19]) (c_Rw_size l G aT_row aT_row_items vT_row_size y19 hq) K_X3_size u468 (x_Psub hP [5] rfl) rfl (q0 := 0) rfl (by decide) ⟨Nat.zero_le _, Nat.zero_le _⟩ rfl hl.1 rfl (Nat.le_of_ble_eq_true rfl) rfl dX10_count_141 ?_
    exact ret _ _ _ dX10_count_144 ((show narrow _ (.int y19) = .int y19 from rfl).trans (congrArg Value.int (Option.some.inj hev)))
  replace hev := x_f c18 hev
  by_cases c20 : p1 = (10 : Int32)
  · replace hev := x_t c20 hev
    refine lv_tableIn (tgt := 145) hx hb dX10_count_1 (by rw [c20]; decide) (by rw [c20]; decide) (by rw [c20]; rfl) (by decide) ?_
    refine lv_aload_n hx hb dX10_count_145 rfl (lv_at hl 0 rfl) ?_
    refine va_get (D := G.1) (ci := 6) (v := .ref aT_princes) (C := RX10) (T := TX10) (N := 14) hx hb hts i10 hown hK hP 0 rfl rfl 11 (by decide) (hw _ u428) (fun _ h9 => h9) rfl dX10_count_146 ?_
    obtain ⟨y21, hq, hev⟩ := x_bd hev
    refine roV X hKK hR (st1 := [.int y21]) (c_Rw_size l G aT_princes aT_princes_items vT_princes_size y21 hq) K_X3_size u468 (x_Psub hP [4] rfl) rfl (q0 := 0) rfl (by decide) ⟨Nat.zero_le _, Nat.zero_le _⟩ rfl hl.1 rfl (Nat.le_of_ble_eq_true rfl) rfl dX10_count_149 ?_
    exact ret _ _ _ dX10_count_152 ((show narrow _ (.int y21) = .int y21 from rfl).trans (congrArg Value.int (Option.some.inj hev)))
  replace hev := x_f c20 hev
  by_cases c22 : p1 = (11 : Int32)
  · replace hev := x_t c22 hev
    refine lv_tableIn (tgt := 153) hx hb dX10_count_1 (by rw [c22]; decide) (by rw [c22]; decide) (by rw [c22]; rfl) (by decide) ?_
    refine lv_aload_n hx hb dX10_count_153 rfl (lv_at hl 0 rfl) ?_
    refine va_get (D := G.1) (ci := 6) (v := .ref aT_trials) (C := RX10) (T := TX10) (N := 14) hx hb hts i10 hown hK hP 0 rfl rfl 6 (by decide) (hw _ u423) (fun _ h9 => h9) rfl dX10_count_154 ?_
    obtain ⟨y23, hq, hev⟩ := x_bd hev
    refine roV X hKK hR (st1 := [.int y23]) (c_Tr_size l G aT_trials aT_trials_trials aT_trials_so aT_trials_trials_items vT_trials_lifted vT_trials_people vT_trials_trials_size y23 hq) K_X9_size u998 (x_Psub hP [2, 3] rfl) rfl (q0 := 0) rfl (by decide) ⟨Nat.zero_le _, Nat.zero_le _⟩ rfl hl.1 rfl (Nat.le_of_ble_eq_true rfl) rfl dX10_count_157 ?_
    exact ret _ _ _ dX10_count_160 ((show narrow _ (.int y23) = .int y23 from rfl).trans (congrArg Value.int (Option.some.inj hev)))
  replace hev := x_f c22 hev
  by_cases c24 : p1 = (12 : Int32)
  · replace hev := x_t c24 hev
    refine lv_tableIn (tgt := 161) hx hb dX10_count_1 (by rw [c24]; decide) (by rw [c24]; decide) (by rw [c24]; rfl) (by decide) ?_
    refine lv_aload_n hx hb dX10_count_161 rfl (lv_at hl 0 rfl) ?_
    refine va_get (D := G.1) (ci := 6) (v := .ref aT_text) (C := RX10) (T := TX10) (N := 14) hx hb hts i10 hown hK hP 0 rfl rfl 0 (by decide) (hw _ u417) (fun _ h9 => h9) rfl dX10_count_162 ?_
    obtain ⟨y25, hq, hev⟩ := x_bd hev
    refine roV X hKK hR (st1 := [.int y25]) (c_Rw_size l G aT_text aT_text_items vT_text_size y25 hq) K_X3_size u468 (x_Psub hP [1] rfl) rfl (q0 := 0) rfl (by decide) ⟨Nat.zero_le _, Nat.zero_le _⟩ rfl hl.1 rfl (Nat.le_of_ble_eq_true rfl) rfl dX10_count_165 ?_
    exact ret _ _ _ dX10_count_168 ((show narrow _ (.int y25) = .int y25 from rfl).trans (congrArg Value.int (Option.some.inj hev)))
  replace hev := x_f c24 hev
  refine lv_tableOut (tgt := 169) hx hb dX10_count_1 (by have q0 : p1.toInt ≠ 0 := x_ne c1; have q1 : p1.toInt ≠ 1 := x_ne c3; have q2 : p1.toInt ≠ 2 := x_ne c5; have q3 : p1.toInt ≠ 3 := x_ne c7; have q4 : p1.toInt ≠ 4 := x_ne c9; have q5 : p1.toInt ≠ 5 := x_ne c11; have q6 : p1.toInt ≠ 6 := x_ne c13; have q7 : p1.toInt ≠ 7 := x_ne c15; have q8 : p1.toInt ≠ 8 := x_ne c16; have q9 : p1.toInt ≠ 9 := x_ne c18; have q10 : p1.toInt ≠ 10 := x_ne c20; have q11 : p1.toInt ≠ 11 := x_ne c22; have q12 : p1.toInt ≠ 12 := x_ne c24; omega) (by decide) ?_
  refine lv_bipush (v := (-3 : Int32)) hx hb dX10_count_169 (by decide) ?_
  exact ret _ _ _ dX10_count_171 ((show narrow _ (.int (-3 : Int32)) = .int (-3 : Int32) from rfl).trans (congrArg Value.int (Option.some.inj hev)))
