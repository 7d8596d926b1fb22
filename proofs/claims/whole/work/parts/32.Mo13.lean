def f_Mo_count (vT_deeds : Int32) (vT_length : Int32) (vT_many : Int32) (vT_now : Int32) (vT_pastMany : Int32) (vT_people : Int32) (vT_princeMany : Int32) (vT_rowMany : Int32) (vT_triedMany : Int32) (p1 : Int32) : Option (Int32) := if p1 = (0 : Int32) then (some vT_people) else if p1 = (1 : Int32) then (some vT_many) else if p1 = (2 : Int32) then (x_B (f_Mo_holdsOf vT_now) (fun y4 => some y4)) else if p1 = (3 : Int32) then (x_B (f_Mo_brokenOf vT_now) (fun y6 => some y6)) else if p1 = (4 : Int32) then (x_B (f_Mo_weepersOf vT_now) (fun y8 => some y8)) else if p1 = (5 : Int32) then (x_B (f_Mo_dayOf vT_now) (fun y10 => some y10)) else if p1 = (6 : Int32) then (x_B (f_Mo_askedOf vT_now) (fun y12 => some y12)) else if p1 = (7 : Int32) then (some vT_deeds) else if p1 = (8 : Int32) then (some vT_pastMany) else if p1 = (9 : Int32) then (some vT_rowMany) else if p1 = (10 : Int32) then (some vT_princeMany) else if p1 = (11 : Int32) then (some vT_triedMany) else if p1 = (12 : Int32) then (some vT_length) else some (-3 : Int32)
set_option maxHeartbeats 8000000 in
set_option maxRecDepth 100000 in
theorem c_Mo_count (l : Launch) (G : GG) (aT aT_text aT_read aT_spells aT_pasts aT_keptStates aT_keptDeeds aT_isKept aT_fars aT_queue aT_later aT_onWay aT_row aT_princes aT_tries : Nat) (vT_length : Int32) (vT_readMany : Int32) (vT_people : Int32) (vT_toldDay : Int32) (vT_toldBroken : Int32) (vT_many : Int32) (vT_now : Int32) (vT_deeds : Int32) (vT_pastMany : Int32) (vT_at : Int32) (vT_place : Int32) (vT_end : Int32) (vT_readPeople : Int32) (vT_readSpells : Int32) (vT_lifted : Int32) (vT_queued : Int32) (vT_laterMany : Int32) (vT_rowMany : Int32) (vT_princeMany : Int32) (vT_triedMany : Int32) (p1 : Int32) (r0 : Int32) (hev : f_Mo_count vT_deeds vT_length vT_many vT_now vT_pastMany vT_people vT_princeMany vT_rowMany vT_triedMany p1 = some r0) : RO l G yX11_count cX11_count 2 (some .int) 1 [.ref aT, .int p1] [(aT, .inr (7, [.ref aT_text, .int vT_length, .ref aT_read, .int vT_readMany, .int vT_people, .int vT_toldDay, .int vT_toldBroken, .ref aT_spells, .int vT_many, .int vT_now, .int vT_deeds, .ref aT_pasts, .int vT_pastMany, .ref aT_keptStates, .ref aT_keptDeeds, .ref aT_isKept, .int vT_at, .int vT_place, .int vT_end, .int vT_readPeople, .int vT_readSpells, .int vT_lifted, .ref aT_fars, .ref aT_queue, .int vT_queued, .ref aT_later, .int vT_laterMany, .ref aT_onWay, .ref aT_row, .int vT_rowMany, .ref aT_princes, .int vT_princeMany, .ref aT_tries, .int vT_triedMany]))] (some (.int r0)) := by
  refine RO_of (by decide) (Nat.le_of_ble_eq_true rfl) ?_
  intro p e s m ar below meth c R Q H ls X hR hP hKK hS0 hl ret
  generalize hrs : r0 = rs at hev ret
  have hl : lv_has ls 2 [(0, .ref aT), (1, .int p1)] := hl
  obtain ⟨hx, hb, hml, hown, hts, hT⟩ := id X
  have hK := hKK.1
  have hw : ∀ w ∈ T0, w.before ar s = true := fun w h => hts w (hT w h)
  have i11 := fun w h => hT w (inT11 w h)
  unfold f_Mo_count at hev
  refine lv_iload_n hx hb dX11_count_0 rfl (lv_at hl 1 rfl) ?_
  by_cases c1 : p1 = (0 : Int32)
  · replace hev := x_t c1 hev
    refine lv_tableIn (tgt := 68) hx hb dX11_count_1 (by rw [c1]; decide) (by rw [c1]; decide) (by rw [c1]; rfl) (by decide) ?_
    refine lv_aload_n hx hb dX11_count_68 rfl (lv_at hl 0 rfl) ?_
    refine va_get (D := G.1) (ci := 7) (v := .int vT_people) (C := RX11) (T := TX11) (N := 34) hx hb hts i11 hown hK hP 0 rfl rfl 4 (by decide) (hw _ u1091) (fun _ h9 => h9) rfl dX11_count_69 ?_
    exact ret _ _ _ dX11_count_72 ((show narrow _ (.int vT_people) = .int vT_people from rfl).trans (congrArg Value.int (Option.some.inj hev)))
  replace hev := x_f c1 hev
  by_cases c2 : p1 = (1 : Int32)
  · replace hev := x_t c2 hev
    refine lv_tableIn (tgt := 73) hx hb dX11_count_1 (by rw [c2]; decide) (by rw [c2]; decide) (by rw [c2]; rfl) (by decide) ?_
    refine lv_aload_n hx hb dX11_count_73 rfl (lv_at hl 0 rfl) ?_
    refine va_get (D := G.1) (ci := 7) (v := .int vT_many) (C := RX11) (T := TX11) (N := 34) hx hb hts i11 hown hK hP 0 rfl rfl 8 (by decide) (hw _ u1095) (fun _ h9 => h9) rfl dX11_count_74 ?_
    exact ret _ _ _ dX11_count_77 ((show narrow _ (.int vT_many) = .int vT_many from rfl).trans (congrArg Value.int (Option.some.inj hev)))
  replace hev := x_f c2 hev
  by_cases c3 : p1 = (2 : Int32)
  · replace hev := x_t c3 hev
    refine lv_tableIn (tgt := 78) hx hb dX11_count_1 (by rw [c3]; decide) (by rw [c3]; decide) (by rw [c3]; rfl) (by decide) ?_
    refine lv_aload_n hx hb dX11_count_78 rfl (lv_at hl 0 rfl) ?_
    refine va_get (D := G.1) (ci := 7) (v := .int vT_now) (C := RX11) (T := TX11) (N := 34) hx hb hts i11 hown hK hP 0 rfl rfl 9 (by decide) (hw _ u1096) (fun _ h9 => h9) rfl dX11_count_79 ?_
    obtain ⟨y4, hq, hev⟩ := x_bd hev
    refine roS X hKK hR (st1 := [.int y4]) (c_Mo_holdsOf l G vT_now y4 hq) K_X11_holdsOf u1471 (x_Psub hP [] rfl) (by decide) ⟨Nat.zero_le _, Nat.zero_le _⟩ rfl hl.1 rfl (Nat.le_of_ble_eq_true rfl) rfl dX11_count_82 ?_
    exact ret _ _ _ dX11_count_85 ((show narrow _ (.int y4) = .int y4 from rfl).trans (congrArg Value.int (Option.some.inj hev)))
  replace hev := x_f c3 hev
  by_cases c5 : p1 = (3 : Int32)
  · replace hev := x_t c5 hev
    refine lv_tableIn (tgt := 86) hx hb dX11_count_1 (by rw [c5]; decide) (by rw [c5]; decide) (by rw [c5]; rfl) (by decide) ?_
    refine lv_aload_n hx hb dX11_count_86 rfl (lv_at hl 0 rfl) ?_
    refine va_get (D := G.1) (ci := 7) (v := .int vT_now) (C := RX11) (T := TX11) (N := 34) hx hb hts i11 hown hK hP 0 rfl rfl 9 (by decide) (hw _ u1096) (fun _ h9 => h9) rfl dX11_count_87 ?_
    obtain ⟨y6, hq, hev⟩ := x_bd hev
    refine roS X hKK hR (st1 := [.int y6]) (c_Mo_brokenOf l G vT_now y6 hq) K_X11_brokenOf u1316 (x_Psub hP [] rfl) (by decide) ⟨Nat.zero_le _, Nat.zero_le _⟩ rfl hl.1 rfl (Nat.le_of_ble_eq_true rfl) rfl dX11_count_90 ?_
    exact ret _ _ _ dX11_count_93 ((show narrow _ (.int y6) = .int y6 from rfl).trans (congrArg Value.int (Option.some.inj hev)))
  replace hev := x_f c5 hev
  by_cases c7 : p1 = (4 : Int32)
  · replace hev := x_t c7 hev
    refine lv_tableIn (tgt := 94) hx hb dX11_count_1 (by rw [c7]; decide) (by rw [c7]; decide) (by rw [c7]; rfl) (by decide) ?_
    refine lv_aload_n hx hb dX11_count_94 rfl (lv_at hl 0 rfl) ?_
    refine va_get (D := G.1) (ci := 7) (v := .int vT_now) (C := RX11) (T := TX11) (N := 34) hx hb hts i11 hown hK hP 0 rfl rfl 9 (by decide) (hw _ u1096) (fun _ h9 => h9) rfl dX11_count_95 ?_
    obtain ⟨y8, hq, hev⟩ := x_bd hev
    refine roS X hKK hR (st1 := [.int y8]) (c_Mo_weepersOf l G vT_now y8 hq) K_X11_weepersOf u1290 (x_Psub hP [] rfl) (by decide) ⟨Nat.zero_le _, Nat.zero_le _⟩ rfl hl.1 rfl (Nat.le_of_ble_eq_true rfl) rfl dX11_count_98 ?_
    exact ret _ _ _ dX11_count_101 ((show narrow _ (.int y8) = .int y8 from rfl).trans (congrArg Value.int (Option.some.inj hev)))
  replace hev := x_f c7 hev
  by_cases c9 : p1 = (5 : Int32)
  · replace hev := x_t c9 hev
    refine lv_tableIn (tgt := 102) hx hb dX11_count_1 (by rw [c9]; decide) (by rw [c9]; decide) (by rw [c9]; rfl) (by decide) ?_
    refine lv_aload_n hx hb dX11_count_102 rfl (lv_at hl 0 rfl) ?_
    refine va_get (D := G.1) (ci := 7) (v := .int vT_now) (C := RX11) (T := TX11) (N := 34) hx hb hts i11 hown hK hP 0 rfl rfl 9 (by decide) (hw _ u1096) (fun _ h9 => h9) rfl dX11_count_103 ?_
    obtain ⟨y10, hq, hev⟩ := x_bd hev
    refine roS X hKK hR (st1 := [.int y10]) (c_Mo_dayOf l G vT_now y10 hq) K_X11_dayOf u1313 (x_Psub hP [] rfl) (by decide) ⟨Nat.zero_le _, Nat.zero_le _⟩ rfl hl.1 rfl (Nat.le_of_ble_eq_true rfl) rfl dX11_count_106 ?_
    exact ret _ _ _ dX11_count_109 ((show narrow _ (.int y10) = .int y10 from rfl).trans (congrArg Value.int (Option.some.inj hev)))
  replace hev := x_f c9 hev
  by_cases c11 : p1 = (6 : Int32)
  · replace hev := x_t c11 hev
    refine lv_tableIn (tgt := 110) hx hb dX11_count_1 (by rw [c11]; decide) (by rw [c11]; decide) (by rw [c11]; rfl) (by decide) ?_
    refine lv_aload_n hx hb dX11_count_110 rfl (lv_at hl 0 rfl) ?_
    refine va_get (D := G.1) (ci := 7) (v := .int vT_now) (C := RX11) (T := TX11) (N := 34) hx hb hts i11 hown hK hP 0 rfl rfl 9 (by decide) (hw _ u1096) (fun _ h9 => h9) rfl dX11_count_111 ?_
    obtain ⟨y12, hq, hev⟩ := x_bd hev
    refine roS X hKK hR (st1 := [.int y12]) (c_Mo_askedOf l G vT_now y12 hq) K_X11_askedOf u1319 (x_Psub hP [] rfl) (by decide) ⟨Nat.zero_le _, Nat.zero_le _⟩ rfl hl.1 rfl (Nat.le_of_ble_eq_true rfl) rfl dX11_count_114 ?_
    exact ret _ _ _ dX11_count_117 ((show narrow _ (.int y12) = .int y12 from rfl).trans (congrArg Value.int (Option.some.inj hev)))
  replace hev := x_f c11 hev
  by_cases c13 : p1 = (7 : Int32)
  · replace hev := x_t c13 hev
    refine lv_tableIn (tgt := 118) hx hb dX11_count_1 (by rw [c13]; decide) (by rw [c13]; decide) (by rw [c13]; rfl) (by decide) ?_
    refine lv_aload_n hx hb dX11_count_118 rfl (lv_at hl 0 rfl) ?_
    refine va_get (D := G.1) (ci := 7) (v := .int vT_deeds) (C := RX11) (T := TX11) (N := 34) hx hb hts i11 hown hK hP 0 rfl rfl 10 (by decide) (hw _ u1097) (fun _ h9 => h9) rfl dX11_count_119 ?_
    exact ret _ _ _ dX11_count_122 ((show narrow _ (.int vT_deeds) = .int vT_deeds from rfl).trans (congrArg Value.int (Option.some.inj hev)))
  replace hev := x_f c13 hev
  by_cases c14 : p1 = (8 : Int32)
  · replace hev := x_t c14 hev
    refine lv_tableIn (tgt := 123) hx hb dX11_count_1 (by rw [c14]; decide) (by rw [c14]; decide) (by rw [c14]; rfl) (by decide) ?_
    refine lv_aload_n hx hb dX11_count_123 rfl (lv_at hl 0 rfl) ?_
    refine va_get (D := G.1) (ci := 7) (v := .int vT_pastMany) (C := RX11) (T := TX11) (N := 34) hx hb hts i11 hown hK hP 0 rfl rfl 12 (by decide) (hw _ u1099) (fun _ h9 => h9) rfl dX11_count_124 ?_
    exact ret _ _ _ dX11_count_127 ((show narrow _ (.int vT_pastMany) = .int vT_pastMany from rfl).trans (congrArg Value.int (Option.some.inj hev)))
  replace hev := x_f c14 hev
  by_cases c15 : p1 = (9 : Int32)
  · replace hev := x_t c15 hev
    refine lv_tableIn (tgt := 128) hx hb dX11_count_1 (by rw [c15]; decide) (by rw [c15]; decide) (by rw [c15]; rfl) (by decide) ?_
    refine lv_aload_n hx hb dX11_count_128 rfl (lv_at hl 0 rfl) ?_
    refine va_get (D := G.1) (ci := 7) (v := .int vT_rowMany) (C := RX11) (T := TX11) (N := 34) hx hb hts i11 hown hK hP 0 rfl rfl 29 (by decide) (hw _ u1116) (fun _ h9 => h9) rfl dX11_count_129 ?_
    exact ret _ _ _ dX11_count_132 ((show narrow _ (.int vT_rowMany) = .int vT_rowMany from rfl).trans (congrArg Value.int (Option.some.inj hev)))
  replace hev := x_f c15 hev
  by_cases c16 : p1 = (10 : Int32)
  · replace hev := x_t c16 hev
    refine lv_tableIn (tgt := 133) hx hb dX11_count_1 (by rw [c16]; decide) (by rw [c16]; decide) (by rw [c16]; rfl) (by decide) ?_
    refine lv_aload_n hx hb dX11_count_133 rfl (lv_at hl 0 rfl) ?_
    refine va_get (D := G.1) (ci := 7) (v := .int vT_princeMany) (C := RX11) (T := TX11) (N := 34) hx hb hts i11 hown hK hP 0 rfl rfl 31 (by decide) (hw _ u1118) (fun _ h9 => h9) rfl dX11_count_134 ?_
    exact ret _ _ _ dX11_count_137 ((show narrow _ (.int vT_princeMany) = .int vT_princeMany from rfl).trans (congrArg Value.int (Option.some.inj hev)))
  replace hev := x_f c16 hev
  by_cases c17 : p1 = (11 : Int32)
  · replace hev := x_t c17 hev
    refine lv_tableIn (tgt := 138) hx hb dX11_count_1 (by rw [c17]; decide) (by rw [c17]; decide) (by rw [c17]; rfl) (by decide) ?_
    refine lv_aload_n hx hb dX11_count_138 rfl (lv_at hl 0 rfl) ?_
    refine va_get (D := G.1) (ci := 7) (v := .int vT_triedMany) (C := RX11) (T := TX11) (N := 34) hx hb hts i11 hown hK hP 0 rfl rfl 33 (by decide) (hw _ u1120) (fun _ h9 => h9) rfl dX11_count_139 ?_
    exact ret _ _ _ dX11_count_142 ((show narrow _ (.int vT_triedMany) = .int vT_triedMany from rfl).trans (congrArg Value.int (Option.some.inj hev)))
  replace hev := x_f c17 hev
  by_cases c18 : p1 = (12 : Int32)
  · replace hev := x_t c18 hev
    refine lv_tableIn (tgt := 143) hx hb dX11_count_1 (by rw [c18]; decide) (by rw [c18]; decide) (by rw [c18]; rfl) (by decide) ?_
    refine lv_aload_n hx hb dX11_count_143 rfl (lv_at hl 0 rfl) ?_
    refine va_get (D := G.1) (ci := 7) (v := .int vT_length) (C := RX11) (T := TX11) (N := 34) hx hb hts i11 hown hK hP 0 rfl rfl 1 (by decide) (hw _ u1088) (fun _ h9 => h9) rfl dX11_count_144 ?_
    exact ret _ _ _ dX11_count_147 ((show narrow _ (.int vT_length) = .int vT_length from rfl).trans (congrArg Value.int (Option.some.inj hev)))
  replace hev := x_f c18 hev
  refine lv_tableOut (tgt := 148) hx hb dX11_count_1 (by have q0 : p1.toInt ≠ 0 := x_ne c1; have q1 : p1.toInt ≠ 1 := x_ne c2; have q2 : p1.toInt ≠ 2 := x_ne c3; have q3 : p1.toInt ≠ 3 := x_ne c5; have q4 : p1.toInt ≠ 4 := x_ne c7; have q5 : p1.toInt ≠ 5 := x_ne c9; have q6 : p1.toInt ≠ 6 := x_ne c11; have q7 : p1.toInt ≠ 7 := x_ne c13; have q8 : p1.toInt ≠ 8 := x_ne c14; have q9 : p1.toInt ≠ 9 := x_ne c15; have q10 : p1.toInt ≠ 10 := x_ne c16; have q11 : p1.toInt ≠ 11 := x_ne c17; have q12 : p1.toInt ≠ 12 := x_ne c18; omega) (by decide) ?_
  refine lv_bipush (v := (-3 : Int32)) hx hb dX11_count_148 (by decide) ?_
  exact ret _ _ _ dX11_count_150 ((show narrow _ (.int (-3 : Int32)) = .int (-3 : Int32) from rfl).trans (congrArg Value.int (Option.some.inj hev)))
