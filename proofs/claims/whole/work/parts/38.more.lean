def f_SS_term (vT_state : Int32) (vT_told_spells : Int32) (fT_told_numbers : Nat → Int32) (fT_told_sorts : Nat → Int32) (fT_told_terms : Nat → Int32) (p1 : Int32) (p2 : Int32) (p3 : Int32) : Option (Int32) := x_B (f_To_hasSpell vT_told_spells p1) (fun y1 => if y1 = 0 then (some (-2 : Int32)) else if p2 < 0 then (some (-2 : Int32)) else x_B (f_To_termsOf vT_told_spells fT_told_terms p1) (fun y4 => if p2 < y4 then (if p3 = (0 : Int32) then (x_B (f_To_sortOf vT_told_spells fT_told_sorts fT_told_terms p1 p2) (fun y7 => some y7)) else if p3 = (1 : Int32) then (x_B (f_To_numberOf vT_told_spells fT_told_numbers fT_told_terms p1 p2) (fun y9 => some y9)) else if p3 = (2 : Int32) then (x_B (f_SS_isSoNow vT_state vT_told_spells fT_told_numbers fT_told_sorts fT_told_terms p1 p2) (fun y11 => x_B (f_SS_oneIf y11) (fun y12 => some y12))) else some (-3 : Int32)) else some (-2 : Int32)))
set_option maxHeartbeats 8000000 in
set_option maxRecDepth 100000 in
theorem c_SS_term (l : Launch) (G : GG) (aT aT_text aT_told aT_reader aT_rules aT_fromNow aT_whatIf aT_trials aT_undoable aT_keptStates aT_keptDeeds aT_row aT_princes aT_told_kinds aT_told_targets aT_told_wakes aT_told_terms aT_told_sorts aT_told_numbers : Nat) (vT_state : Int32) (vT_deeds : Int32) (vT_told_people : Int32) (vT_told_spells : Int32) (vT_told_day : Int32) (vT_told_broken : Int32) (fT_told_terms : Nat → Int32) (fT_told_sorts : Nat → Int32) (fT_told_numbers : Nat → Int32) (p1 : Int32) (p2 : Int32) (p3 : Int32) (r0 : Int32) (hev : f_SS_term vT_state vT_told_spells fT_told_numbers fT_told_sorts fT_told_terms p1 p2 p3 = some r0) : RO l G yX10_term cX10_term 4 (some .int) 4 [.ref aT, .int p1, .int p2, .int p3] [(aT, .inr (6, [.ref aT_text, .ref aT_told, .ref aT_reader, .ref aT_rules, .ref aT_fromNow, .ref aT_whatIf, .ref aT_trials, .ref aT_undoable, .ref aT_keptStates, .ref aT_keptDeeds, .ref aT_row, .ref aT_princes, .int vT_state, .int vT_deeds])), (aT_told, .inr (4, [.int vT_told_people, .int vT_told_spells, .int vT_told_day, .int vT_told_broken, .ref aT_told_kinds, .ref aT_told_targets, .ref aT_told_wakes, .ref aT_told_terms, .ref aT_told_sorts, .ref aT_told_numbers])), (aT_told_terms, .inl (G.2.1, 5, .inl fT_told_terms)), (aT_told_sorts, .inl (G.2.1, 15, .inl fT_told_sorts)), (aT_told_numbers, .inl (G.2.1, 15, .inl fT_told_numbers))] (some (.int r0)) := by
  refine RO_of (by decide) (Nat.le_of_ble_eq_true rfl) ?_
  intro p e s m ar below meth c R Q H ls X hR hP hKK hS0 hl ret
  generalize hrs : r0 = rs at hev ret
  have hl : lv_has ls 4 [(0, .ref aT), (1, .int p1), (2, .int p2), (3, .int p3)] := hl
  obtain ⟨hx, hb, hml, hown, hts, hT⟩ := id X
  have hK := hKK.1
  have hw : ∀ w ∈ T0, w.before ar s = true := fun w h => hts w (hT w h)
  have i10 := fun w h => hT w (inT10 w h)
  unfold f_SS_term at hev
  refine lv_aload_n hx hb dX10_term_0 rfl (lv_at hl 0 rfl) ?_
  refine va_get (D := G.1) (ci := 6) (v := .ref aT_told) (C := RX10) (T := TX10) (N := 14) hx hb hts i10 hown hK hP 0 rfl rfl 1 (by decide) (hw _ u417) (fun _ h9 => h9) rfl dX10_term_1 ?_
  refine lv_iload_n hx hb dX10_term_4 rfl (lv_at hl 1 rfl) ?_
  obtain ⟨y1, hq, hev⟩ := x_bd hev
  refine roV X hKK hR (st1 := [.int y1]) (c_To_hasSpell l G aT_told aT_told_kinds aT_told_targets aT_told_wakes aT_told_terms aT_told_sorts aT_told_numbers vT_told_people vT_told_spells vT_told_day vT_told_broken p1 y1 hq) K_X8_hasSpell u664 (x_Psub hP [1] rfl) rfl (q0 := 0) rfl (by decide) ⟨Nat.zero_le _, Nat.zero_le _⟩ rfl hl.1 rfl (Nat.le_of_ble_eq_true rfl) rfl dX10_term_5 ?_
  refine lv_if_eq (tgt := 27) hx hb dX10_term_8 (by decide) (fun c2 => ?_) (fun c2 => ?_)
  · replace hev := x_t c2 hev
    refine lv_bipush (v := (-2 : Int32)) hx hb dX10_term_27 (by decide) ?_
    exact ret _ _ _ dX10_term_29 ((show narrow _ (.int (-2 : Int32)) = .int (-2 : Int32) from rfl).trans (congrArg Value.int (Option.some.inj hev)))
  · replace hev := x_f c2 hev
    refine lv_iload_n hx hb dX10_term_11 rfl (lv_at hl 2 rfl) ?_
    refine lv_if_lt (tgt := 27) hx hb dX10_term_12 (by decide) (fun c3 => ?_) (fun c3 => ?_)
    · replace hev := x_t c3 hev
      refine lv_bipush (v := (-2 : Int32)) hx hb dX10_term_27 (by decide) ?_
      exact ret _ _ _ dX10_term_29 ((show narrow _ (.int (-2 : Int32)) = .int (-2 : Int32) from rfl).trans (congrArg Value.int (Option.some.inj hev)))
    · replace hev := x_f c3 hev
      refine lv_iload_n hx hb dX10_term_15 rfl (lv_at hl 2 rfl) ?_
      refine lv_aload_n hx hb dX10_term_16 rfl (lv_at hl 0 rfl) ?_
      refine va_get (D := G.1) (ci := 6) (v := .ref aT_told) (C := RX10) (T := TX10) (N := 14) hx hb hts i10 hown hK hP 0 rfl rfl 1 (by decide) (hw _ u417) (fun _ h9 => h9) rfl dX10_term_17 ?_
      refine lv_iload_n hx hb dX10_term_20 rfl (lv_at hl 1 rfl) ?_
      obtain ⟨y4, hq, hev⟩ := x_bd hev
      refine roV X hKK hR (st1 := [.int y4, .int p2]) (c_To_termsOf l G aT_told aT_told_kinds aT_told_targets aT_told_wakes aT_told_terms aT_told_sorts aT_told_numbers vT_told_people vT_told_spells vT_told_day vT_told_broken fT_told_terms p1 y4 hq) K_X8_termsOf u671 (x_Psub hP [1, 2] rfl) rfl (q0 := 0) rfl (by decide) ⟨Nat.zero_le _, Nat.zero_le _⟩ rfl hl.1 rfl (Nat.le_of_ble_eq_true rfl) rfl dX10_term_21 ?_
      refine lv_icmp_lt (tgt := 30) hx hb dX10_term_24 (by decide) (fun c5 => ?_) (fun c5 => ?_)
      · replace hev := x_t c5 hev
        refine lv_iload_n hx hb dX10_term_30 rfl (lv_at hl 3 rfl) ?_
        by_cases c6 : p3 = (0 : Int32)
        · replace hev := x_t c6 hev
          refine lv_tableIn (tgt := 56) hx hb dX10_term_31 (by rw [c6]; decide) (by rw [c6]; decide) (by rw [c6]; rfl) (by decide) ?_
          refine lv_aload_n hx hb dX10_term_56 rfl (lv_at hl 0 rfl) ?_
          refine va_get (D := G.1) (ci := 6) (v := .ref aT_told) (C := RX10) (T := TX10) (N := 14) hx hb hts i10 hown hK hP 0 rfl rfl 1 (by decide) (hw _ u417) (fun _ h9 => h9) rfl dX10_term_57 ?_
          refine lv_iload_n hx hb dX10_term_60 rfl (lv_at hl 1 rfl) ?_
          refine lv_iload_n hx hb dX10_term_61 rfl (lv_at hl 2 rfl) ?_
          obtain ⟨y7, hq, hev⟩ := x_bd hev
          refine roV X hKK hR (st1 := [.int y7]) (c_To_sortOf l G aT_told aT_told_kinds aT_told_targets aT_told_wakes aT_told_terms aT_told_sorts aT_told_numbers vT_told_people vT_told_spells vT_told_day vT_told_broken fT_told_terms fT_told_sorts p1 p2 y7 hq) K_X8_sortOf u677 (x_Psub hP [1, 2, 3] rfl) rfl (q0 := 0) rfl (by decide) ⟨Nat.zero_le _, Nat.zero_le _⟩ rfl hl.1 rfl (Nat.le_of_ble_eq_true rfl) rfl dX10_term_62 ?_
          exact ret _ _ _ dX10_term_65 ((show narrow _ (.int y7) = .int y7 from rfl).trans (congrArg Value.int (Option.some.inj hev)))
        replace hev := x_f c6 hev
        by_cases c8 : p3 = (1 : Int32)
        · replace hev := x_t c8 hev
          refine lv_tableIn (tgt := 66) hx hb dX10_term_31 (by rw [c8]; decide) (by rw [c8]; decide) (by rw [c8]; rfl) (by decide) ?_
          refine lv_aload_n hx hb dX10_term_66 rfl (lv_at hl 0 rfl) ?_
          refine va_get (D := G.1) (ci := 6) (v := .ref aT_told) (C := RX10) (T := TX10) (N := 14) hx hb hts i10 hown hK hP 0 rfl rfl 1 (by decide) (hw _ u417) (fun _ h9 => h9) rfl dX10_term_67 ?_
          refine lv_iload_n hx hb dX10_term_70 rfl (lv_at hl 1 rfl) ?_
          refine lv_iload_n hx hb dX10_term_71 rfl (lv_at hl 2 rfl) ?_
          obtain ⟨y9, hq, hev⟩ := x_bd hev
          refine roV X hKK hR (st1 := [.int y9]) (c_To_numberOf l G aT_told aT_told_kinds aT_told_targets aT_told_wakes aT_told_terms aT_told_sorts aT_told_numbers vT_told_people vT_told_spells vT_told_day vT_told_broken fT_told_terms fT_told_numbers p1 p2 y9 hq) K_X8_numberOf u678 (x_Psub hP [1, 2, 4] rfl) rfl (q0 := 0) rfl (by decide) ⟨Nat.zero_le _, Nat.zero_le _⟩ rfl hl.1 rfl (Nat.le_of_ble_eq_true rfl) rfl dX10_term_72 ?_
          exact ret _ _ _ dX10_term_75 ((show narrow _ (.int y9) = .int y9 from rfl).trans (congrArg Value.int (Option.some.inj hev)))
        replace hev := x_f c8 hev
        by_cases c10 : p3 = (2 : Int32)
        · replace hev := x_t c10 hev
          refine lv_tableIn (tgt := 76) hx hb dX10_term_31 (by rw [c10]; decide) (by rw [c10]; decide) (by rw [c10]; rfl) (by decide) ?_
          refine lv_aload_n hx hb dX10_term_76 rfl (lv_at hl 0 rfl) ?_
          refine lv_iload_n hx hb dX10_term_77 rfl (lv_at hl 1 rfl) ?_
          refine lv_iload_n hx hb dX10_term_78 rfl (lv_at hl 2 rfl) ?_
          obtain ⟨y11, hq, hev⟩ := x_bd hev
          refine roV X hKK hR (st1 := [.int y11]) (c_SS_isSoNow l G aT aT_text aT_told aT_reader aT_rules aT_fromNow aT_whatIf aT_trials aT_undoable aT_keptStates aT_keptDeeds aT_row aT_princes aT_told_kinds aT_told_targets aT_told_wakes aT_told_terms aT_told_sorts aT_told_numbers vT_state vT_deeds vT_told_people vT_told_spells vT_told_day vT_told_broken fT_told_terms fT_told_sorts fT_told_numbers p1 p2 y11 hq) K_X10_isSoNow u679 (x_Psub hP [0, 1, 2, 3, 4] rfl) rfl (q0 := 0) rfl (by decide) ⟨Nat.zero_le _, Nat.zero_le _⟩ rfl hl.1 rfl (Nat.le_of_ble_eq_true rfl) rfl dX10_term_79 ?_
          obtain ⟨y12, hq, hev⟩ := x_bd hev
          refine roS X hKK hR (st1 := [.int y12]) (c_SS_oneIf l G y11 y12 hq) K_X10_oneIf u657 (x_Psub hP [] rfl) (by decide) ⟨Nat.zero_le _, Nat.zero_le _⟩ rfl hl.1 rfl (Nat.le_of_ble_eq_true rfl) rfl dX10_term_82 ?_
          exact ret _ _ _ dX10_term_85 ((show narrow _ (.int y12) = .int y12 from rfl).trans (congrArg Value.int (Option.some.inj hev)))
        replace hev := x_f c10 hev
        refine lv_tableOut (tgt := 86) hx hb dX10_term_31 (by have q0 : p3.toInt ≠ 0 := x_ne c6; have q1 : p3.toInt ≠ 1 := x_ne c8; have q2 : p3.toInt ≠ 2 := x_ne c10; omega) (by decide) ?_
        refine lv_bipush (v := (-3 : Int32)) hx hb dX10_term_86 (by decide) ?_
        exact ret _ _ _ dX10_term_88 ((show narrow _ (.int (-3 : Int32)) = .int (-3 : Int32) from rfl).trans (congrArg Value.int (Option.some.inj hev)))
      · replace hev := x_f c5 hev
        refine lv_bipush (v := (-2 : Int32)) hx hb dX10_term_27 (by decide) ?_
        exact ret _ _ _ dX10_term_29 ((show narrow _ (.int (-2 : Int32)) = .int (-2 : Int32) from rfl).trans (congrArg Value.int (Option.some.inj hev)))
def f_SS_termsSoNow_L4 (vT_state : Int32) (vT_told_spells : Int32) (fT_told_numbers : Nat → Int32) (fT_told_sorts : Nat → Int32) (fT_told_terms : Nat → Int32) (x1 : Int32) : Nat → Int32 → Int32 → Option (Int32)
  | 0, _, _ => none
  | k + 1, x2, x3 => if (3 : Int32) ≤ x3 then (some x2) else x_B (f_To_termsOf vT_told_spells fT_told_terms x1) (fun y2 => if y2 ≤ x3 then (some x2) else x_B (f_SS_isSoNow vT_state vT_told_spells fT_told_numbers fT_told_sorts fT_told_terms x1 x3) (fun y4 => x_B (f_SS_oneIf y4) (fun y5 => x_L ((x2 + y5)) (fun y6 => x_L (x3 + (1 : Int32)) (fun y7 => (f_SS_termsSoNow_L4 vT_state vT_told_spells fT_told_numbers fT_told_sorts fT_told_terms x1 k) y6 y7)))))
def f_SS_termsSoNow (k : Nat) (vT_state : Int32) (vT_told_spells : Int32) (fT_told_numbers : Nat → Int32) (fT_told_sorts : Nat → Int32) (fT_told_terms : Nat → Int32) (p1 : Int32) : Option (Int32) := x_B (f_SS_termsSoNow_L4 vT_state vT_told_spells fT_told_numbers fT_told_sorts fT_told_terms p1 k (0 : Int32) (0 : Int32)) (fun y8 => some y8)
set_option maxHeartbeats 8000000 in
set_option maxRecDepth 100000 in
theorem c_SS_termsSoNow (l : Launch) (G : GG) (aT aT_text aT_told aT_reader aT_rules aT_fromNow aT_whatIf aT_trials aT_undoable aT_keptStates aT_keptDeeds aT_row aT_princes aT_told_kinds aT_told_targets aT_told_wakes aT_told_terms aT_told_sorts aT_told_numbers : Nat) (vT_state : Int32) (vT_deeds : Int32) (vT_told_people : Int32) (vT_told_spells : Int32) (vT_told_day : Int32) (vT_told_broken : Int32) (fT_told_terms : Nat → Int32) (fT_told_sorts : Nat → Int32) (fT_told_numbers : Nat → Int32) (k : Nat) (p1 : Int32) (r0 : Int32) (hev : f_SS_termsSoNow k vT_state vT_told_spells fT_told_numbers fT_told_sorts fT_told_terms p1 = some r0) : RO l G yX10_termsSoNow cX10_termsSoNow 4 (some .int) 4 [.ref aT, .int p1] [(aT, .inr (6, [.ref aT_text, .ref aT_told, .ref aT_reader, .ref aT_rules, .ref aT_fromNow, .ref aT_whatIf, .ref aT_trials, .ref aT_undoable, .ref aT_keptStates, .ref aT_keptDeeds, .ref aT_row, .ref aT_princes, .int vT_state, .int vT_deeds])), (aT_told, .inr (4, [.int vT_told_people, .int vT_told_spells, .int vT_told_day, .int vT_told_broken, .ref aT_told_kinds, .ref aT_told_targets, .ref aT_told_wakes, .ref aT_told_terms, .ref aT_told_sorts, .ref aT_told_numbers])), (aT_told_terms, .inl (G.2.1, 5, .inl fT_told_terms)), (aT_told_sorts, .inl (G.2.1, 15, .inl fT_told_sorts)), (aT_told_numbers, .inl (G.2.1, 15, .inl fT_told_numbers))] (some (.int r0)) := by
  refine RO_of (by decide) (Nat.le_of_ble_eq_true rfl) ?_
  intro p e s m ar below meth c R Q H ls X hR hP hKK hS0 hl ret
  generalize hrs : r0 = rs at hev ret
  have hl : lv_has ls 4 [(0, .ref aT), (1, .int p1)] := hl
  obtain ⟨hx, hb, hml, hown, hts, hT⟩ := id X
  have hK := hKK.1
  have hw : ∀ w ∈ T0, w.before ar s = true := fun w h => hts w (hT w h)
  have i10 := fun w h => hT w (inT10 w h)
  unfold f_SS_termsSoNow at hev
  refine lv_iconst (v := (0 : Int32)) hx hb dX10_termsSoNow_0 (by decide) ?_
  refine lv_istore_n (lv' := [(2, .int (0 : Int32)), (0, .ref aT), (1, .int p1)]) hx hb dX10_termsSoNow_1 rfl hl (by decide) rfl (fun ls hl => ?_)
  refine lv_iconst (v := (0 : Int32)) hx hb dX10_termsSoNow_2 (by decide) ?_
  refine lv_istore_n (lv' := [(3, .int (0 : Int32)), (2, .int (0 : Int32)), (0, .ref aT), (1, .int p1)]) hx hb dX10_termsSoNow_3 rfl hl (by decide) rfl (fun ls hl => ?_)
  have L4 : ∀ (x1 : Int32), ∀ (k : Nat) (x2 : Int32) (x3 : Int32) (o2 : Int32), f_SS_termsSoNow_L4 vT_state vT_told_spells fT_told_numbers fT_told_sorts fT_told_terms x1 k x2 x3 = some o2 → (∀ (ls : Array Slot), lv_has ls 4 [(2, .int o2)] → W p l e R s m ar below meth c H [] 0 0 Q (F0 m 39 ls [])) → ∀ (ls : Array Slot), lv_has ls 4 [(0, .ref aT), (1, .int x1), (2, .int x2), (3, .int x3)] → W p l e R s m ar below meth c H [] 0 0 Q (F0 m 4 ls []) := by
    intro x1 k
    induction k with
    | zero => intro x2 x3 o2 hev; rw [f_SS_termsSoNow_L4] at hev; cases hev
    | succ k ih =>
      intro x2 x3 o2 hev hex ls hl
      rw [f_SS_termsSoNow_L4] at hev
      refine lv_iload_n hx hb dX10_termsSoNow_4 rfl (lv_at hl 3 rfl) ?_
      refine lv_iconst (v := (3 : Int32)) hx hb dX10_termsSoNow_5 (by decide) ?_
      refine lv_icmp_ge (tgt := 39) hx hb dX10_termsSoNow_6 (by decide) (fun c1 => ?_) (fun c1 => ?_)
      · replace hev := x_t c1 hev
        cases hev
        exact hex ls (lv_sub hl [2] rfl)
      · replace hev := x_f c1 hev
        refine lv_iload_n hx hb dX10_termsSoNow_9 rfl (lv_at hl 3 rfl) ?_
        refine lv_aload_n hx hb dX10_termsSoNow_10 rfl (lv_at hl 0 rfl) ?_
        refine va_get (D := G.1) (ci := 6) (v := .ref aT_told) (C := RX10) (T := TX10) (N := 14) hx hb hts i10 hown hK hP 0 rfl rfl 1 (by decide) (hw _ u417) (fun _ h9 => h9) rfl dX10_termsSoNow_11 ?_
        refine lv_iload_n hx hb dX10_termsSoNow_14 rfl (lv_at hl 1 rfl) ?_
        obtain ⟨y2, hq, hev⟩ := x_bd hev
        refine roV X hKK hR (st1 := [.int y2, .int x3]) (c_To_termsOf l G aT_told aT_told_kinds aT_told_targets aT_told_wakes aT_told_terms aT_told_sorts aT_told_numbers vT_told_people vT_told_spells vT_told_day vT_told_broken fT_told_terms x1 y2 hq) K_X8_termsOf u671 (x_Psub hP [1, 2] rfl) rfl (q0 := 0) rfl (by decide) ⟨Nat.zero_le _, Nat.zero_le _⟩ rfl hl.1 rfl (Nat.le_of_ble_eq_true rfl) rfl dX10_termsSoNow_15 ?_
        refine lv_icmp_ge (tgt := 39) hx hb dX10_termsSoNow_18 (by decide) (fun c3 => ?_) (fun c3 => ?_)
        · replace hev := x_t c3 hev
          cases hev
          exact hex ls (lv_sub hl [2] rfl)
        · replace hev := x_f c3 hev
          refine lv_iload_n hx hb dX10_termsSoNow_21 rfl (lv_at hl 2 rfl) ?_
          refine lv_aload_n hx hb dX10_termsSoNow_22 rfl (lv_at hl 0 rfl) ?_
          refine lv_iload_n hx hb dX10_termsSoNow_23 rfl (lv_at hl 1 rfl) ?_
          refine lv_iload_n hx hb dX10_termsSoNow_24 rfl (lv_at hl 3 rfl) ?_
          obtain ⟨y4, hq, hev⟩ := x_bd hev
          refine roV X hKK hR (st1 := [.int y4, .int x2]) (c_SS_isSoNow l G aT aT_text aT_told aT_reader aT_rules aT_fromNow aT_whatIf aT_trials aT_undoable aT_keptStates aT_keptDeeds aT_row aT_princes aT_told_kinds aT_told_targets aT_told_wakes aT_told_terms aT_told_sorts aT_told_numbers vT_state vT_deeds vT_told_people vT_told_spells vT_told_day vT_told_broken fT_told_terms fT_told_sorts fT_told_numbers x1 x3 y4 hq) K_X10_isSoNow u679 (x_Psub hP [0, 1, 2, 3, 4] rfl) rfl (q0 := 0) rfl (by decide) ⟨Nat.zero_le _, Nat.zero_le _⟩ rfl hl.1 rfl (Nat.le_of_ble_eq_true rfl) rfl dX10_termsSoNow_25 ?_
          obtain ⟨y5, hq, hev⟩ := x_bd hev
          refine roS X hKK hR (st1 := [.int y5, .int x2]) (c_SS_oneIf l G y4 y5 hq) K_X10_oneIf u657 (x_Psub hP [] rfl) (by decide) ⟨Nat.zero_le _, Nat.zero_le _⟩ rfl hl.1 rfl (Nat.le_of_ble_eq_true rfl) rfl dX10_termsSoNow_28 ?_
          refine lv_iadd hx hb dX10_termsSoNow_31 ?_
          refine lv_topi (fun y6 ey6 => ?_)
          replace hev := x_lt hev y6 ey6
          refine lv_istore_n (lv' := [(2, .int y6), (0, .ref aT), (1, .int x1), (3, .int x3)]) hx hb dX10_termsSoNow_32 rfl hl (by decide) rfl (fun ls hl => ?_)
          obtain ⟨y7, ey7⟩ : ∃ y : Int32, y = x3 + (1 : Int32) := ⟨_, rfl⟩
          refine lv_iinc (v := y7) (lv' := [(3, .int y7), (2, .int y6), (0, .ref aT), (1, .int x1)]) hx hb dX10_termsSoNow_33 hl (k := 3) rfl (by rw [ey7]; rfl) (by decide) rfl (fun ls hl => ?_)
          replace hev := x_lt hev y7 ey7
          refine lv_goto (tgt := 4) hx hb dX10_termsSoNow_36 (by decide) ?_
          exact ih y6 y7 _ hev hex ls (lv_sub hl [2, 3, 1, 0] rfl)
  obtain ⟨y8, hq, hev⟩ := x_bd hev
  refine L4 p1 k (0 : Int32) (0 : Int32) y8 hq (fun ls hl => ?_) ls (lv_sub hl [2, 3, 1, 0] rfl)
  refine lv_iload_n hx hb dX10_termsSoNow_39 rfl (lv_at hl 0 rfl) ?_
  exact ret _ _ _ dX10_termsSoNow_40 ((show narrow _ (.int y8) = .int y8 from rfl).trans (congrArg Value.int (Option.some.inj hev)))
def f_SS_wordsLovedBy_J47 (rec : Int32 → Int32 → Option (Int32)) (k : Nat) (vT_told_spells : Int32) (fT_told_sorts : Nat → Int32) (fT_told_terms : Nat → Int32) (x1 : Int32) (x2 : Int32) (x4 : Int32) (s0 : Int32) (s1 : Int32) : Option (Int32) := x_B (f_SS_oneIf s0) (fun y1 => x_L ((s1 + y1)) (fun y2 => x_L (x4 + (1 : Int32)) (fun y3 => rec y2 y3)))
def f_SS_wordsLovedBy_L5 (vT_told_spells : Int32) (fT_told_sorts : Nat → Int32) (fT_told_terms : Nat → Int32) (x1 : Int32) (x2 : Int32) : Nat → Int32 → Int32 → Option (Int32)
  | 0, _, _ => none
  | k + 1, x3, x4 => if (3 : Int32) ≤ x4 then (some x3) else x_B (f_To_termsOf vT_told_spells fT_told_terms x2) (fun y5 => if y5 ≤ x4 then (some x3) else x_B (f_To_sortOf vT_told_spells fT_told_sorts fT_told_terms x2 x4) (fun y7 => x_B (f_Tm_lover y7) (fun y8 => if y8 = x1 then (f_SS_wordsLovedBy_J47 (f_SS_wordsLovedBy_L5 vT_told_spells fT_told_sorts fT_told_terms x1 x2 k) k vT_told_spells fT_told_sorts fT_told_terms x1 x2 x4 (1 : Int32) x3) else f_SS_wordsLovedBy_J47 (f_SS_wordsLovedBy_L5 vT_told_spells fT_told_sorts fT_told_terms x1 x2 k) k vT_told_spells fT_told_sorts fT_told_terms x1 x2 x4 (0 : Int32) x3)))
def f_SS_wordsLovedBy (k : Nat) (vT_told_spells : Int32) (fT_told_sorts : Nat → Int32) (fT_told_terms : Nat → Int32) (p1 : Int32) (p2 : Int32) : Option (Int32) := x_B (f_SS_wordsLovedBy_L5 vT_told_spells fT_told_sorts fT_told_terms p1 p2 k (0 : Int32) (0 : Int32)) (fun y10 => some y10)
set_option maxHeartbeats 8000000 in
set_option maxRecDepth 100000 in
theorem c_SS_wordsLovedBy (l : Launch) (G : GG) (aT aT_text aT_told aT_reader aT_rules aT_fromNow aT_whatIf aT_trials aT_undoable aT_keptStates aT_keptDeeds aT_row aT_princes aT_told_kinds aT_told_targets aT_told_wakes aT_told_terms aT_told_sorts aT_told_numbers : Nat) (vT_state : Int32) (vT_deeds : Int32) (vT_told_people : Int32) (vT_told_spells : Int32) (vT_told_day : Int32) (vT_told_broken : Int32) (fT_told_terms : Nat → Int32) (fT_told_sorts : Nat → Int32) (k : Nat) (p1 : Int32) (p2 : Int32) (r0 : Int32) (hev : f_SS_wordsLovedBy k vT_told_spells fT_told_sorts fT_told_terms p1 p2 = some r0) : RO l G yX10_wordsLovedBy cX10_wordsLovedBy 5 (some .int) 3 [.ref aT, .int p1, .int p2] [(aT, .inr (6, [.ref aT_text, .ref aT_told, .ref aT_reader, .ref aT_rules, .ref aT_fromNow, .ref aT_whatIf, .ref aT_trials, .ref aT_undoable, .ref aT_keptStates, .ref aT_keptDeeds, .ref aT_row, .ref aT_princes, .int vT_state, .int vT_deeds])), (aT_told, .inr (4, [.int vT_told_people, .int vT_told_spells, .int vT_told_day, .int vT_told_broken, .ref aT_told_kinds, .ref aT_told_targets, .ref aT_told_wakes, .ref aT_told_terms, .ref aT_told_sorts, .ref aT_told_numbers])), (aT_told_terms, .inl (G.2.1, 5, .inl fT_told_terms)), (aT_told_sorts, .inl (G.2.1, 15, .inl fT_told_sorts))] (some (.int r0)) := by
  refine RO_of (by decide) (Nat.le_of_ble_eq_true rfl) ?_
  intro p e s m ar below meth c R Q H ls X hR hP hKK hS0 hl ret
  generalize hrs : r0 = rs at hev ret
  have hl : lv_has ls 5 [(0, .ref aT), (1, .int p1), (2, .int p2)] := hl
  obtain ⟨hx, hb, hml, hown, hts, hT⟩ := id X
  have hK := hKK.1
  have hw : ∀ w ∈ T0, w.before ar s = true := fun w h => hts w (hT w h)
  have i10 := fun w h => hT w (inT10 w h)
  unfold f_SS_wordsLovedBy at hev
  refine lv_iconst (v := (0 : Int32)) hx hb dX10_wordsLovedBy_0 (by decide) ?_
  refine lv_istore_n (lv' := [(3, .int (0 : Int32)), (0, .ref aT), (1, .int p1), (2, .int p2)]) hx hb dX10_wordsLovedBy_1 rfl hl (by decide) rfl (fun ls hl => ?_)
  refine lv_iconst (v := (0 : Int32)) hx hb dX10_wordsLovedBy_2 (by decide) ?_
  refine lv_istore (lv' := [(4, .int (0 : Int32)), (3, .int (0 : Int32)), (0, .ref aT), (1, .int p1), (2, .int p2)]) hx hb dX10_wordsLovedBy_3 hl (by decide) rfl (fun ls hl => ?_)
  have L5 : ∀ (x1 : Int32) (x2 : Int32), ∀ (k : Nat) (x3 : Int32) (x4 : Int32) (o3 : Int32), f_SS_wordsLovedBy_L5 vT_told_spells fT_told_sorts fT_told_terms x1 x2 k x3 x4 = some o3 → (∀ (ls : Array Slot), lv_has ls 5 [(3, .int o3)] → W p l e R s m ar below meth c H [] 0 0 Q (F0 m 58 ls [])) → ∀ (ls : Array Slot), lv_has ls 5 [(0, .ref aT), (1, .int x1), (2, .int x2), (3, .int x3), (4, .int x4)] → W p l e R s m ar below meth c H [] 0 0 Q (F0 m 5 ls []) := by
    intro x1 x2 k
    induction k with
    | zero => intro x3 x4 o3 hev; rw [f_SS_wordsLovedBy_L5] at hev; cases hev
    | succ k ih =>
      intro x3 x4 o3 hev hex ls hl
      rw [f_SS_wordsLovedBy_L5] at hev
      have J47 : ∀ (x4 : Int32) (s0 : Int32) (s1 : Int32), ∀ (ls : Array Slot), f_SS_wordsLovedBy_J47 (f_SS_wordsLovedBy_L5 vT_told_spells fT_told_sorts fT_told_terms x1 x2 k) k vT_told_spells fT_told_sorts fT_told_terms x1 x2 x4 s0 s1 = some o3 → lv_has ls 5 [(0, .ref aT), (1, .int x1), (2, .int x2), (4, .int x4)] → W p l e R s m ar below meth c H [] 0 0 Q (F0 m 47 ls [.int s0, .int s1]) := by
        intro x4 s0 s1 ls hev hl
        unfold f_SS_wordsLovedBy_J47 at hev
        obtain ⟨y1, hq, hev⟩ := x_bd hev
        refine roS X hKK hR (st1 := [.int y1, .int s1]) (c_SS_oneIf l G s0 y1 hq) K_X10_oneIf u657 (x_Psub hP [] rfl) (by decide) ⟨Nat.zero_le _, Nat.zero_le _⟩ rfl hl.1 rfl (Nat.le_of_ble_eq_true rfl) rfl dX10_wordsLovedBy_47 ?_
        refine lv_iadd hx hb dX10_wordsLovedBy_50 ?_
        refine lv_topi (fun y2 ey2 => ?_)
        replace hev := x_lt hev y2 ey2
        refine lv_istore_n (lv' := [(3, .int y2), (0, .ref aT), (1, .int x1), (2, .int x2), (4, .int x4)]) hx hb dX10_wordsLovedBy_51 rfl hl (by decide) rfl (fun ls hl => ?_)
        obtain ⟨y3, ey3⟩ : ∃ y : Int32, y = x4 + (1 : Int32) := ⟨_, rfl⟩
        refine lv_iinc (v := y3) (lv' := [(4, .int y3), (3, .int y2), (0, .ref aT), (1, .int x1), (2, .int x2)]) hx hb dX10_wordsLovedBy_52 hl (k := 4) rfl (by rw [ey3]; rfl) (by decide) rfl (fun ls hl => ?_)
        replace hev := x_lt hev y3 ey3
        refine lv_goto (tgt := 5) hx hb dX10_wordsLovedBy_55 (by decide) ?_
        exact ih y2 y3 _ hev hex ls (lv_sub hl [2, 3, 4, 1, 0] rfl)
      refine lv_iload hx hb dX10_wordsLovedBy_5 (lv_at hl 4 rfl) ?_
      refine lv_iconst (v := (3 : Int32)) hx hb dX10_wordsLovedBy_7 (by decide) ?_
      refine lv_icmp_ge (tgt := 58) hx hb dX10_wordsLovedBy_8 (by decide) (fun c4 => ?_) (fun c4 => ?_)
      · replace hev := x_t c4 hev
        cases hev
        exact hex ls (lv_sub hl [3] rfl)
      · replace hev := x_f c4 hev
        refine lv_iload hx hb dX10_wordsLovedBy_11 (lv_at hl 4 rfl) ?_
        refine lv_aload_n hx hb dX10_wordsLovedBy_13 rfl (lv_at hl 0 rfl) ?_
        refine va_get (D := G.1) (ci := 6) (v := .ref aT_told) (C := RX10) (T := TX10) (N := 14) hx hb hts i10 hown hK hP 0 rfl rfl 1 (by decide) (hw _ u417) (fun _ h9 => h9) rfl dX10_wordsLovedBy_14 ?_
        refine lv_iload_n hx hb dX10_wordsLovedBy_17 rfl (lv_at hl 2 rfl) ?_
        obtain ⟨y5, hq, hev⟩ := x_bd hev
        refine roV X hKK hR (st1 := [.int y5, .int x4]) (c_To_termsOf l G aT_told aT_told_kinds aT_told_targets aT_told_wakes aT_told_terms aT_told_sorts aT_told_numbers vT_told_people vT_told_spells vT_told_day vT_told_broken fT_told_terms x2 y5 hq) K_X8_termsOf u671 (x_Psub hP [1, 2] rfl) rfl (q0 := 0) rfl (by decide) ⟨Nat.zero_le _, Nat.zero_le _⟩ rfl hl.1 rfl (Nat.le_of_ble_eq_true rfl) rfl dX10_wordsLovedBy_18 ?_
        refine lv_icmp_ge (tgt := 58) hx hb dX10_wordsLovedBy_21 (by decide) (fun c6 => ?_) (fun c6 => ?_)
        · replace hev := x_t c6 hev
          cases hev
          exact hex ls (lv_sub hl [3] rfl)
        · replace hev := x_f c6 hev
          refine lv_iload_n hx hb dX10_wordsLovedBy_24 rfl (lv_at hl 3 rfl) ?_
          refine lv_aload_n hx hb dX10_wordsLovedBy_25 rfl (lv_at hl 0 rfl) ?_
          refine va_get (D := G.1) (ci := 6) (v := .ref aT_told) (C := RX10) (T := TX10) (N := 14) hx hb hts i10 hown hK hP 0 rfl rfl 1 (by decide) (hw _ u417) (fun _ h9 => h9) rfl dX10_wordsLovedBy_26 ?_
          refine lv_iload_n hx hb dX10_wordsLovedBy_29 rfl (lv_at hl 2 rfl) ?_
          refine lv_iload hx hb dX10_wordsLovedBy_30 (lv_at hl 4 rfl) ?_
          obtain ⟨y7, hq, hev⟩ := x_bd hev
          refine roV X hKK hR (st1 := [.int y7, .int x3]) (c_To_sortOf l G aT_told aT_told_kinds aT_told_targets aT_told_wakes aT_told_terms aT_told_sorts aT_told_numbers vT_told_people vT_told_spells vT_told_day vT_told_broken fT_told_terms fT_told_sorts x2 x4 y7 hq) K_X8_sortOf u677 (x_Psub hP [1, 2, 3] rfl) rfl (q0 := 0) rfl (by decide) ⟨Nat.zero_le _, Nat.zero_le _⟩ rfl hl.1 rfl (Nat.le_of_ble_eq_true rfl) rfl dX10_wordsLovedBy_32 ?_
          obtain ⟨y8, hq, hev⟩ := x_bd hev
          refine roS X hKK hR (st1 := [.int y8, .int x3]) (c_Tm_lover l G y7 y8 hq) K_X7_lover u711 (x_Psub hP [] rfl) (by decide) ⟨Nat.zero_le _, Nat.zero_le _⟩ rfl hl.1 rfl (Nat.le_of_ble_eq_true rfl) rfl dX10_wordsLovedBy_35 ?_
          refine lv_iload_n hx hb dX10_wordsLovedBy_38 rfl (lv_at hl 1 rfl) ?_
          refine lv_icmp_ne (tgt := 46) hx hb dX10_wordsLovedBy_39 (by decide) (fun c9 => ?_) (fun c9 => ?_)
          · replace hev := x_f c9 hev
            refine lv_iconst (v := (0 : Int32)) hx hb dX10_wordsLovedBy_46 (by decide) ?_
            exact J47 x4 (0 : Int32) x3 ls hev (lv_sub hl [0, 1, 2, 4] rfl)
          · replace hev := x_t c9 hev
            refine lv_iconst (v := (1 : Int32)) hx hb dX10_wordsLovedBy_42 (by decide) ?_
            refine lv_goto (tgt := 47) hx hb dX10_wordsLovedBy_43 (by decide) ?_
            exact J47 x4 (1 : Int32) x3 ls hev (lv_sub hl [0, 1, 2, 4] rfl)
  obtain ⟨y10, hq, hev⟩ := x_bd hev
  refine L5 p1 p2 k (0 : Int32) (0 : Int32) y10 hq (fun ls hl => ?_) ls (lv_sub hl [2, 3, 4, 1, 0] rfl)
  refine lv_iload_n hx hb dX10_wordsLovedBy_58 rfl (lv_at hl 0 rfl) ?_
  exact ret _ _ _ dX10_wordsLovedBy_59 ((show narrow _ (.int y10) = .int y10 from rfl).trans (congrArg Value.int (Option.some.inj hev)))
def f_SS_laidBy_J48 (rec : Int32 → Int32 → Int32 → Option (Int32)) (k : Nat) (vT_told_spells : Int32) (fT_told_sorts : Nat → Int32) (fT_told_terms : Nat → Int32) (x1 : Int32) (x2 : Int32) (x3 : Int32) (x4 : Int32) : Option (Int32) := x_L (x4 + (1 : Int32)) (fun y3 => rec x2 x3 y3)
def f_SS_laidBy_L21 (vT_told_spells : Int32) (fT_told_sorts : Nat → Int32) (fT_told_terms : Nat → Int32) (x1 : Int32) : Nat → Int32 → Int32 → Int32 → Option (Int32)
  | 0, _, _, _ => none
  | k + 1, x2, x3, x4 => if (3 : Int32) ≤ x4 then (some x2) else x_B (f_SS_wordsLovedBy k vT_told_spells fT_told_sorts fT_told_terms x4 x1) (fun y5 => if y5 ≤ x3 then (f_SS_laidBy_J48 (f_SS_laidBy_L21 vT_told_spells fT_told_sorts fT_told_terms x1 k) k vT_told_spells fT_told_sorts fT_told_terms x1 x2 x3 x4) else f_SS_laidBy_J48 (f_SS_laidBy_L21 vT_told_spells fT_told_sorts fT_told_terms x1 k) k vT_told_spells fT_told_sorts fT_told_terms x1 x4 y5 x4)
def f_SS_laidBy (k : Nat) (vT_told_spells : Int32) (fT_told_sorts : Nat → Int32) (fT_told_terms : Nat → Int32) (p1 : Int32) : Option (Int32) := x_B (f_To_hasSpell vT_told_spells p1) (fun y1 => if y1 = 0 then (some (-2 : Int32)) else x_B (f_SS_laidBy_L21 vT_told_spells fT_told_sorts fT_told_terms p1 k (-1 : Int32) (0 : Int32) (0 : Int32)) (fun y7 => some y7))
set_option maxHeartbeats 8000000 in
set_option maxRecDepth 100000 in
theorem c_SS_laidBy (l : Launch) (G : GG) (aT aT_text aT_told aT_reader aT_rules aT_fromNow aT_whatIf aT_trials aT_undoable aT_keptStates aT_keptDeeds aT_row aT_princes aT_told_kinds aT_told_targets aT_told_wakes aT_told_terms aT_told_sorts aT_told_numbers : Nat) (vT_state : Int32) (vT_deeds : Int32) (vT_told_people : Int32) (vT_told_spells : Int32) (vT_told_day : Int32) (vT_told_broken : Int32) (fT_told_terms : Nat → Int32) (fT_told_sorts : Nat → Int32) (k : Nat) (p1 : Int32) (r0 : Int32) (hev : f_SS_laidBy k vT_told_spells fT_told_sorts fT_told_terms p1 = some r0) : RO l G yX10_laidBy cX10_laidBy 6 (some .int) 4 [.ref aT, .int p1] [(aT, .inr (6, [.ref aT_text, .ref aT_told, .ref aT_reader, .ref aT_rules, .ref aT_fromNow, .ref aT_whatIf, .ref aT_trials, .ref aT_undoable, .ref aT_keptStates, .ref aT_keptDeeds, .ref aT_row, .ref aT_princes, .int vT_state, .int vT_deeds])), (aT_told, .inr (4, [.int vT_told_people, .int vT_told_spells, .int vT_told_day, .int vT_told_broken, .ref aT_told_kinds, .ref aT_told_targets, .ref aT_told_wakes, .ref aT_told_terms, .ref aT_told_sorts, .ref aT_told_numbers])), (aT_told_terms, .inl (G.2.1, 5, .inl fT_told_terms)), (aT_told_sorts, .inl (G.2.1, 15, .inl fT_told_sorts))] (some (.int r0)) := by
  refine RO_of (by decide) (Nat.le_of_ble_eq_true rfl) ?_
  intro p e s m ar below meth c R Q H ls X hR hP hKK hS0 hl ret
  generalize hrs : r0 = rs at hev ret
  have hl : lv_has ls 6 [(0, .ref aT), (1, .int p1)] := hl
  obtain ⟨hx, hb, hml, hown, hts, hT⟩ := id X
  have hK := hKK.1
  have hw : ∀ w ∈ T0, w.before ar s = true := fun w h => hts w (hT w h)
  have i10 := fun w h => hT w (inT10 w h)
  unfold f_SS_laidBy at hev
  refine lv_aload_n hx hb dX10_laidBy_0 rfl (lv_at hl 0 rfl) ?_
  refine va_get (D := G.1) (ci := 6) (v := .ref aT_told) (C := RX10) (T := TX10) (N := 14) hx hb hts i10 hown hK hP 0 rfl rfl 1 (by decide) (hw _ u417) (fun _ h9 => h9) rfl dX10_laidBy_1 ?_
  refine lv_iload_n hx hb dX10_laidBy_4 rfl (lv_at hl 1 rfl) ?_
  obtain ⟨y1, hq, hev⟩ := x_bd hev
  refine roV X hKK hR (st1 := [.int y1]) (c_To_hasSpell l G aT_told aT_told_kinds aT_told_targets aT_told_wakes aT_told_terms aT_told_sorts aT_told_numbers vT_told_people vT_told_spells vT_told_day vT_told_broken p1 y1 hq) K_X8_hasSpell u664 (x_Psub hP [1] rfl) rfl (q0 := 0) rfl (by decide) ⟨Nat.zero_le _, Nat.zero_le _⟩ rfl hl.1 rfl (Nat.le_of_ble_eq_true rfl) rfl dX10_laidBy_5 ?_
  refine lv_if_ne (tgt := 14) hx hb dX10_laidBy_8 (by decide) (fun c2 => ?_) (fun c2 => ?_)
  · replace hev := x_f c2 hev
    refine lv_iconst (v := (-1 : Int32)) hx hb dX10_laidBy_14 (by decide) ?_
    refine lv_istore_n (lv' := [(2, .int (-1 : Int32)), (0, .ref aT), (1, .int p1)]) hx hb dX10_laidBy_15 rfl hl (by decide) rfl (fun ls hl => ?_)
    refine lv_iconst (v := (0 : Int32)) hx hb dX10_laidBy_16 (by decide) ?_
    refine lv_istore_n (lv' := [(3, .int (0 : Int32)), (2, .int (-1 : Int32)), (0, .ref aT), (1, .int p1)]) hx hb dX10_laidBy_17 rfl hl (by decide) rfl (fun ls hl => ?_)
    refine lv_iconst (v := (0 : Int32)) hx hb dX10_laidBy_18 (by decide) ?_
    refine lv_istore (lv' := [(4, .int (0 : Int32)), (3, .int (0 : Int32)), (2, .int (-1 : Int32)), (0, .ref aT), (1, .int p1)]) hx hb dX10_laidBy_19 hl (by decide) rfl (fun ls hl => ?_)
    have L21 : ∀ (x1 : Int32), ∀ (k : Nat) (x2 : Int32) (x3 : Int32) (x4 : Int32) (o2 : Int32), f_SS_laidBy_L21 vT_told_spells fT_told_sorts fT_told_terms x1 k x2 x3 x4 = some o2 → (∀ (ls : Array Slot), lv_has ls 6 [(2, .int o2)] → W p l e R s m ar below meth c H [] 0 0 Q (F0 m 54 ls [])) → ∀ (ls : Array Slot), lv_has ls 6 [(0, .ref aT), (1, .int x1), (2, .int x2), (3, .int x3), (4, .int x4)] → W p l e R s m ar below meth c H [] 0 0 Q (F0 m 21 ls []) := by
      intro x1 k
      induction k with
      | zero => intro x2 x3 x4 o2 hev; rw [f_SS_laidBy_L21] at hev; cases hev
      | succ k ih =>
        intro x2 x3 x4 o2 hev hex ls hl
        rw [f_SS_laidBy_L21] at hev
        have J48 : ∀ (x2 : Int32) (x3 : Int32) (x4 : Int32), ∀ (ls : Array Slot), f_SS_laidBy_J48 (f_SS_laidBy_L21 vT_told_spells fT_told_sorts fT_told_terms x1 k) k vT_told_spells fT_told_sorts fT_told_terms x1 x2 x3 x4 = some o2 → lv_has ls 6 [(0, .ref aT), (1, .int x1), (2, .int x2), (3, .int x3), (4, .int x4)] → W p l e R s m ar below meth c H [] 0 0 Q (F0 m 48 ls []) := by
          intro x2 x3 x4 ls hev hl
          unfold f_SS_laidBy_J48 at hev
          obtain ⟨y3, ey3⟩ : ∃ y : Int32, y = x4 + (1 : Int32) := ⟨_, rfl⟩
          refine lv_iinc (v := y3) (lv' := [(4, .int y3), (0, .ref aT), (1, .int x1), (2, .int x2), (3, .int x3)]) hx hb dX10_laidBy_48 hl (k := 4) rfl (by rw [ey3]; rfl) (by decide) rfl (fun ls hl => ?_)
          replace hev := x_lt hev y3 ey3
          refine lv_goto (tgt := 21) hx hb dX10_laidBy_51 (by decide) ?_
          exact ih x2 x3 y3 _ hev hex ls (lv_sub hl [1, 2, 3, 4, 0] rfl)
        refine lv_iload hx hb dX10_laidBy_21 (lv_at hl 4 rfl) ?_
        refine lv_iconst (v := (3 : Int32)) hx hb dX10_laidBy_23 (by decide) ?_
        refine lv_icmp_ge (tgt := 54) hx hb dX10_laidBy_24 (by decide) (fun c4 => ?_) (fun c4 => ?_)
        · replace hev := x_t c4 hev
          cases hev
          exact hex ls (lv_sub hl [2] rfl)
        · replace hev := x_f c4 hev
          refine lv_aload_n hx hb dX10_laidBy_27 rfl (lv_at hl 0 rfl) ?_
          refine lv_iload hx hb dX10_laidBy_28 (lv_at hl 4 rfl) ?_
          refine lv_iload_n hx hb dX10_laidBy_30 rfl (lv_at hl 1 rfl) ?_
          obtain ⟨y5, hq, hev⟩ := x_bd hev
          refine roV X hKK hR (st1 := [.int y5]) (c_SS_wordsLovedBy l G aT aT_text aT_told aT_reader aT_rules aT_fromNow aT_whatIf aT_trials aT_undoable aT_keptStates aT_keptDeeds aT_row aT_princes aT_told_kinds aT_told_targets aT_told_wakes aT_told_terms aT_told_sorts aT_told_numbers vT_state vT_deeds vT_told_people vT_told_spells vT_told_day vT_told_broken fT_told_terms fT_told_sorts k x4 x1 y5 hq) K_X10_wordsLovedBy u707 (x_Psub hP [0, 1, 2, 3] rfl) rfl (q0 := 0) rfl (by decide) ⟨Nat.zero_le _, Nat.zero_le _⟩ rfl hl.1 rfl (Nat.le_of_ble_eq_true rfl) rfl dX10_laidBy_31 ?_
          refine lv_istore (lv' := [(5, .int y5), (0, .ref aT), (1, .int x1), (2, .int x2), (3, .int x3), (4, .int x4)]) hx hb dX10_laidBy_34 hl (by decide) rfl (fun ls hl => ?_)
          refine lv_iload hx hb dX10_laidBy_36 (lv_at hl 0 rfl) ?_
          refine lv_iload_n hx hb dX10_laidBy_38 rfl (lv_at hl 4 rfl) ?_
          refine lv_icmp_le (tgt := 48) hx hb dX10_laidBy_39 (by decide) (fun c6 => ?_) (fun c6 => ?_)
          · replace hev := x_t c6 hev
            exact J48 x2 x3 x4 ls hev (lv_sub hl [1, 2, 3, 4, 5] rfl)
          · replace hev := x_f c6 hev
            refine lv_iload hx hb dX10_laidBy_42 (lv_at hl 0 rfl) ?_
            refine lv_istore_n (lv' := [(3, .int y5), (5, .int y5), (0, .ref aT), (1, .int x1), (2, .int x2), (4, .int x4)]) hx hb dX10_laidBy_44 rfl hl (by decide) rfl (fun ls hl => ?_)
            refine lv_iload hx hb dX10_laidBy_45 (lv_at hl 5 rfl) ?_
            refine lv_istore_n (lv' := [(2, .int x4), (3, .int y5), (5, .int y5), (0, .ref aT), (1, .int x1), (4, .int x4)]) hx hb dX10_laidBy_47 rfl hl (by decide) rfl (fun ls hl => ?_)
            exact J48 x4 y5 x4 ls hev (lv_sub hl [3, 4, 0, 1, 5] rfl)
    obtain ⟨y7, hq, hev⟩ := x_bd hev
    refine L21 p1 k (-1 : Int32) (0 : Int32) (0 : Int32) y7 hq (fun ls hl => ?_) ls (lv_sub hl [3, 4, 2, 1, 0] rfl)
    refine lv_iload_n hx hb dX10_laidBy_54 rfl (lv_at hl 0 rfl) ?_
    exact ret _ _ _ dX10_laidBy_55 ((show narrow _ (.int y7) = .int y7 from rfl).trans (congrArg Value.int (Option.some.inj hev)))
  · replace hev := x_t c2 hev
    refine lv_bipush (v := (-2 : Int32)) hx hb dX10_laidBy_11 (by decide) ?_
    exact ret _ _ _ dX10_laidBy_13 ((show narrow _ (.int (-2 : Int32)) = .int (-2 : Int32) from rfl).trans (congrArg Value.int (Option.some.inj hev)))
def f_SS_isAnother (vT_told_people : Int32) (p1 : Int32) (p2 : Int32) : Option (Int32) := x_B (f_To_hasPerson vT_told_people p2) (fun y1 => if y1 = 0 then (some (0 : Int32)) else if p2 = p1 then (some (0 : Int32)) else some (1 : Int32))
set_option maxHeartbeats 8000000 in
set_option maxRecDepth 100000 in
theorem c_SS_isAnother (l : Launch) (G : GG) (aT aT_text aT_told aT_reader aT_rules aT_fromNow aT_whatIf aT_trials aT_undoable aT_keptStates aT_keptDeeds aT_row aT_princes aT_told_kinds aT_told_targets aT_told_wakes aT_told_terms aT_told_sorts aT_told_numbers : Nat) (vT_state : Int32) (vT_deeds : Int32) (vT_told_people : Int32) (vT_told_spells : Int32) (vT_told_day : Int32) (vT_told_broken : Int32) (p1 : Int32) (p2 : Int32) (r0 : Int32) (hev : f_SS_isAnother vT_told_people p1 p2 = some r0) : RO l G yX10_isAnother cX10_isAnother 3 (some .boolean) 1 [.ref aT, .int p1, .int p2] [(aT, .inr (6, [.ref aT_text, .ref aT_told, .ref aT_reader, .ref aT_rules, .ref aT_fromNow, .ref aT_whatIf, .ref aT_trials, .ref aT_undoable, .ref aT_keptStates, .ref aT_keptDeeds, .ref aT_row, .ref aT_princes, .int vT_state, .int vT_deeds])), (aT_told, .inr (4, [.int vT_told_people, .int vT_told_spells, .int vT_told_day, .int vT_told_broken, .ref aT_told_kinds, .ref aT_told_targets, .ref aT_told_wakes, .ref aT_told_terms, .ref aT_told_sorts, .ref aT_told_numbers]))] (some (.int r0)) := by
  refine RO_of (by decide) (Nat.le_of_ble_eq_true rfl) ?_
  intro p e s m ar below meth c R Q H ls X hR hP hKK hS0 hl ret
  generalize hrs : r0 = rs at hev ret
  have hl : lv_has ls 3 [(0, .ref aT), (1, .int p1), (2, .int p2)] := hl
  obtain ⟨hx, hb, hml, hown, hts, hT⟩ := id X
  have hK := hKK.1
  have hw : ∀ w ∈ T0, w.before ar s = true := fun w h => hts w (hT w h)
  have i10 := fun w h => hT w (inT10 w h)
  unfold f_SS_isAnother at hev
  refine lv_aload_n hx hb dX10_isAnother_0 rfl (lv_at hl 0 rfl) ?_
  refine va_get (D := G.1) (ci := 6) (v := .ref aT_told) (C := RX10) (T := TX10) (N := 14) hx hb hts i10 hown hK hP 0 rfl rfl 1 (by decide) (hw _ u417) (fun _ h9 => h9) rfl dX10_isAnother_1 ?_
  refine lv_iload_n hx hb dX10_isAnother_4 rfl (lv_at hl 2 rfl) ?_
  obtain ⟨y1, hq, hev⟩ := x_bd hev
  refine roV X hKK hR (st1 := [.int y1]) (c_To_hasPerson l G aT_told aT_told_kinds aT_told_targets aT_told_wakes aT_told_terms aT_told_sorts aT_told_numbers vT_told_people vT_told_spells vT_told_day vT_told_broken p2 y1 hq) K_X8_hasPerson u649 (x_Psub hP [1] rfl) rfl (q0 := 0) rfl (by decide) ⟨Nat.zero_le _, Nat.zero_le _⟩ rfl hl.1 rfl (Nat.le_of_ble_eq_true rfl) rfl dX10_isAnother_5 ?_
  refine lv_if_eq (tgt := 20) hx hb dX10_isAnother_8 (by decide) (fun c2 => ?_) (fun c2 => ?_)
  · replace hev := x_t c2 hev
    refine lv_iconst (v := (0 : Int32)) hx hb dX10_isAnother_20 (by decide) ?_
    exact ret _ _ _ dX10_isAnother_21 ((show narrow _ (.int (0 : Int32)) = .int (0 : Int32) from nb0).trans (congrArg Value.int (Option.some.inj hev)))
  · replace hev := x_f c2 hev
    refine lv_iload_n hx hb dX10_isAnother_11 rfl (lv_at hl 2 rfl) ?_
    refine lv_iload_n hx hb dX10_isAnother_12 rfl (lv_at hl 1 rfl) ?_
    refine lv_icmp_eq (tgt := 20) hx hb dX10_isAnother_13 (by decide) (fun c3 => ?_) (fun c3 => ?_)
    · replace hev := x_t c3 hev
      refine lv_iconst (v := (0 : Int32)) hx hb dX10_isAnother_20 (by decide) ?_
      exact ret _ _ _ dX10_isAnother_21 ((show narrow _ (.int (0 : Int32)) = .int (0 : Int32) from nb0).trans (congrArg Value.int (Option.some.inj hev)))
    · replace hev := x_f c3 hev
      refine lv_iconst (v := (1 : Int32)) hx hb dX10_isAnother_16 (by decide) ?_
      refine lv_goto (tgt := 21) hx hb dX10_isAnother_17 (by decide) ?_
      exact ret _ _ _ dX10_isAnother_21 ((show narrow _ (.int (1 : Int32)) = .int (1 : Int32) from nb1).trans (congrArg Value.int (Option.some.inj hev)))
def f_SS_refusal_J56 (vT_told_people : Int32) : Option (Int32) := some (-3 : Int32)
def f_SS_refusal_J47 (vT_told_people : Int32) (x2 : Int32) : Option (Int32) := if x2 < 0 then (f_SS_refusal_J56 vT_told_people) else if x2 ≤ (4 : Int32) then (some (0 : Int32)) else f_SS_refusal_J56 vT_told_people
def f_SS_refusal_J30 (vT_told_people : Int32) (x2 : Int32) (x3 : Int32) : Option (Int32) := if x2 = (2 : Int32) then (if x3 < 0 then (some (-2 : Int32)) else if x3 < (2 : Int32) then (f_SS_refusal_J47 vT_told_people x2) else some (-2 : Int32)) else f_SS_refusal_J47 vT_told_people x2
def f_SS_refusal (vT_told_people : Int32) (p1 : Int32) (p2 : Int32) (p3 : Int32) : Option (Int32) := x_B (f_To_hasPerson vT_told_people p1) (fun y6 => if y6 = 0 then (some (-2 : Int32)) else if p2 = 0 then (x_B (f_SS_isAnother vT_told_people p1 p3) (fun y9 => if y9 = 0 then (some (-2 : Int32)) else f_SS_refusal_J30 vT_told_people p2 p3)) else f_SS_refusal_J30 vT_told_people p2 p3)
set_option maxHeartbeats 8000000 in
set_option maxRecDepth 100000 in
theorem c_SS_refusal (l : Launch) (G : GG) (aT aT_text aT_told aT_reader aT_rules aT_fromNow aT_whatIf aT_trials aT_undoable aT_keptStates aT_keptDeeds aT_row aT_princes aT_told_kinds aT_told_targets aT_told_wakes aT_told_terms aT_told_sorts aT_told_numbers : Nat) (vT_state : Int32) (vT_deeds : Int32) (vT_told_people : Int32) (vT_told_spells : Int32) (vT_told_day : Int32) (vT_told_broken : Int32) (p1 : Int32) (p2 : Int32) (p3 : Int32) (r0 : Int32) (hev : f_SS_refusal vT_told_people p1 p2 p3 = some r0) : RO l G yX10_refusal cX10_refusal 4 (some .int) 2 [.ref aT, .int p1, .int p2, .int p3] [(aT, .inr (6, [.ref aT_text, .ref aT_told, .ref aT_reader, .ref aT_rules, .ref aT_fromNow, .ref aT_whatIf, .ref aT_trials, .ref aT_undoable, .ref aT_keptStates, .ref aT_keptDeeds, .ref aT_row, .ref aT_princes, .int vT_state, .int vT_deeds])), (aT_told, .inr (4, [.int vT_told_people, .int vT_told_spells, .int vT_told_day, .int vT_told_broken, .ref aT_told_kinds, .ref aT_told_targets, .ref aT_told_wakes, .ref aT_told_terms, .ref aT_told_sorts, .ref aT_told_numbers]))] (some (.int r0)) := by
  refine RO_of (by decide) (Nat.le_of_ble_eq_true rfl) ?_
  intro p e s m ar below meth c R Q H ls X hR hP hKK hS0 hl ret
  generalize hrs : r0 = rs at hev ret
  have hl : lv_has ls 4 [(0, .ref aT), (1, .int p1), (2, .int p2), (3, .int p3)] := hl
  obtain ⟨hx, hb, hml, hown, hts, hT⟩ := id X
  have hK := hKK.1
  have hw : ∀ w ∈ T0, w.before ar s = true := fun w h => hts w (hT w h)
  have i10 := fun w h => hT w (inT10 w h)
  have J56 : ∀ (ls : Array Slot), f_SS_refusal_J56 vT_told_people = some rs → lv_has ls 4 [] → W p l e R s m ar below meth c H [] 0 0 Q (F0 m 56 ls []) := by
    intro  ls hev hl
    unfold f_SS_refusal_J56 at hev
    refine lv_bipush (v := (-3 : Int32)) hx hb dX10_refusal_56 (by decide) ?_
    refine lv_goto (tgt := 62) hx hb dX10_refusal_58 (by decide) ?_
    exact ret _ _ _ dX10_refusal_62 ((show narrow _ (.int (-3 : Int32)) = .int (-3 : Int32) from rfl).trans (congrArg Value.int (Option.some.inj hev)))
  have J47 : ∀ (x2 : Int32), ∀ (ls : Array Slot), f_SS_refusal_J47 vT_told_people x2 = some rs → lv_has ls 4 [(2, .int x2)] → W p l e R s m ar below meth c H [] 0 0 Q (F0 m 47 ls []) := by
    intro x2 ls hev hl
    unfold f_SS_refusal_J47 at hev
    refine lv_iload_n hx hb dX10_refusal_47 rfl (lv_at hl 0 rfl) ?_
    refine lv_if_lt (tgt := 56) hx hb dX10_refusal_48 (by decide) (fun c1 => ?_) (fun c1 => ?_)
    · replace hev := x_t c1 hev
      exact J56  ls hev (lv_sub hl [] rfl)
    · replace hev := x_f c1 hev
      refine lv_iload_n hx hb dX10_refusal_51 rfl (lv_at hl 0 rfl) ?_
      refine lv_iconst (v := (4 : Int32)) hx hb dX10_refusal_52 (by decide) ?_
      refine lv_icmp_le (tgt := 61) hx hb dX10_refusal_53 (by decide) (fun c2 => ?_) (fun c2 => ?_)
      · replace hev := x_t c2 hev
        refine lv_iconst (v := (0 : Int32)) hx hb dX10_refusal_61 (by decide) ?_
        exact ret _ _ _ dX10_refusal_62 ((show narrow _ (.int (0 : Int32)) = .int (0 : Int32) from rfl).trans (congrArg Value.int (Option.some.inj hev)))
      · replace hev := x_f c2 hev
        exact J56  ls hev (lv_sub hl [] rfl)
  have J30 : ∀ (x2 : Int32) (x3 : Int32), ∀ (ls : Array Slot), f_SS_refusal_J30 vT_told_people x2 x3 = some rs → lv_has ls 4 [(2, .int x2), (3, .int x3)] → W p l e R s m ar below meth c H [] 0 0 Q (F0 m 30 ls []) := by
    intro x2 x3 ls hev hl
    unfold f_SS_refusal_J30 at hev
    refine lv_iload_n hx hb dX10_refusal_30 rfl (lv_at hl 0 rfl) ?_
    refine lv_iconst (v := (2 : Int32)) hx hb dX10_refusal_31 (by decide) ?_
    refine lv_icmp_ne (tgt := 47) hx hb dX10_refusal_32 (by decide) (fun c3 => ?_) (fun c3 => ?_)
    · replace hev := x_f c3 hev
      exact J47 x2 ls hev (lv_sub hl [0] rfl)
    · replace hev := x_t c3 hev
      refine lv_iload_n hx hb dX10_refusal_35 rfl (lv_at hl 1 rfl) ?_
      refine lv_if_lt (tgt := 44) hx hb dX10_refusal_36 (by decide) (fun c4 => ?_) (fun c4 => ?_)
      · replace hev := x_t c4 hev
        refine lv_bipush (v := (-2 : Int32)) hx hb dX10_refusal_44 (by decide) ?_
        exact ret _ _ _ dX10_refusal_46 ((show narrow _ (.int (-2 : Int32)) = .int (-2 : Int32) from rfl).trans (congrArg Value.int (Option.some.inj hev)))
      · replace hev := x_f c4 hev
        refine lv_iload_n hx hb dX10_refusal_39 rfl (lv_at hl 1 rfl) ?_
        refine lv_iconst (v := (2 : Int32)) hx hb dX10_refusal_40 (by decide) ?_
        refine lv_icmp_lt (tgt := 47) hx hb dX10_refusal_41 (by decide) (fun c5 => ?_) (fun c5 => ?_)
        · replace hev := x_t c5 hev
          exact J47 x2 ls hev (lv_sub hl [0] rfl)
        · replace hev := x_f c5 hev
          refine lv_bipush (v := (-2 : Int32)) hx hb dX10_refusal_44 (by decide) ?_
          exact ret _ _ _ dX10_refusal_46 ((show narrow _ (.int (-2 : Int32)) = .int (-2 : Int32) from rfl).trans (congrArg Value.int (Option.some.inj hev)))
  unfold f_SS_refusal at hev
  refine lv_aload_n hx hb dX10_refusal_0 rfl (lv_at hl 0 rfl) ?_
  refine va_get (D := G.1) (ci := 6) (v := .ref aT_told) (C := RX10) (T := TX10) (N := 14) hx hb hts i10 hown hK hP 0 rfl rfl 1 (by decide) (hw _ u417) (fun _ h9 => h9) rfl dX10_refusal_1 ?_
  refine lv_iload_n hx hb dX10_refusal_4 rfl (lv_at hl 1 rfl) ?_
  obtain ⟨y6, hq, hev⟩ := x_bd hev
  refine roV X hKK hR (st1 := [.int y6]) (c_To_hasPerson l G aT_told aT_told_kinds aT_told_targets aT_told_wakes aT_told_terms aT_told_sorts aT_told_numbers vT_told_people vT_told_spells vT_told_day vT_told_broken p1 y6 hq) K_X8_hasPerson u649 (x_Psub hP [1] rfl) rfl (q0 := 0) rfl (by decide) ⟨Nat.zero_le _, Nat.zero_le _⟩ rfl hl.1 rfl (Nat.le_of_ble_eq_true rfl) rfl dX10_refusal_5 ?_
  refine lv_if_ne (tgt := 14) hx hb dX10_refusal_8 (by decide) (fun c7 => ?_) (fun c7 => ?_)
  · replace hev := x_f c7 hev
    refine lv_iload_n hx hb dX10_refusal_14 rfl (lv_at hl 2 rfl) ?_
    refine lv_if_ne (tgt := 30) hx hb dX10_refusal_15 (by decide) (fun c8 => ?_) (fun c8 => ?_)
    · replace hev := x_f c8 hev
      exact J30 p2 p3 ls hev (lv_sub hl [2, 3] rfl)
    · replace hev := x_t c8 hev
      refine lv_aload_n hx hb dX10_refusal_18 rfl (lv_at hl 0 rfl) ?_
      refine lv_iload_n hx hb dX10_refusal_19 rfl (lv_at hl 1 rfl) ?_
      refine lv_iload_n hx hb dX10_refusal_20 rfl (lv_at hl 3 rfl) ?_
      obtain ⟨y9, hq, hev⟩ := x_bd hev
      refine roV X hKK hR (st1 := [.int y9]) (c_SS_isAnother l G aT aT_text aT_told aT_reader aT_rules aT_fromNow aT_whatIf aT_trials aT_undoable aT_keptStates aT_keptDeeds aT_row aT_princes aT_told_kinds aT_told_targets aT_told_wakes aT_told_terms aT_told_sorts aT_told_numbers vT_state vT_deeds vT_told_people vT_told_spells vT_told_day vT_told_broken p1 p3 y9 hq) K_X10_isAnother u722 (x_Psub hP [0, 1] rfl) rfl (q0 := 0) rfl (by decide) ⟨Nat.zero_le _, Nat.zero_le _⟩ rfl hl.1 rfl (Nat.le_of_ble_eq_true rfl) rfl dX10_refusal_21 ?_
      refine lv_if_ne (tgt := 30) hx hb dX10_refusal_24 (by decide) (fun c10 => ?_) (fun c10 => ?_)
      · replace hev := x_f c10 hev
        exact J30 p2 p3 ls hev (lv_sub hl [2, 3] rfl)
      · replace hev := x_t c10 hev
        refine lv_bipush (v := (-2 : Int32)) hx hb dX10_refusal_27 (by decide) ?_
        exact ret _ _ _ dX10_refusal_29 ((show narrow _ (.int (-2 : Int32)) = .int (-2 : Int32) from rfl).trans (congrArg Value.int (Option.some.inj hev)))
  · replace hev := x_t c7 hev
    refine lv_bipush (v := (-2 : Int32)) hx hb dX10_refusal_11 (by decide) ?_
    exact ret _ _ _ dX10_refusal_13 ((show narrow _ (.int (-2 : Int32)) = .int (-2 : Int32) from rfl).trans (congrArg Value.int (Option.some.inj hev)))
def f_SS_can_J47 (k : Nat) (vT_rules_deedCount : Int32) (vT_rules_spells : Int32) (vT_state : Int32) (vT_told_people : Int32) (fT_rules_askings : Nat → Int32) (fT_rules_bars : Nat → Int32) (fT_rules_bits : Nat → Int32) (fT_rules_doers : Nat → Int32) (fT_rules_kisses : Nat → Int32) (fT_rules_kissesNeeded : Nat → Int32) (fT_rules_masks : Nat → Int32) (fT_rules_sorts : Nat → Int32) (fT_rules_values : Nat → Int32) (fT_rules_wakings : Nat → Int32) (fT_rules_whichs : Nat → Int32) (s0 : Int32) : Option (Int32) := x_B (f_SS_oneIf s0) (fun y1 => some y1)
def f_SS_can (k : Nat) (vT_rules_deedCount : Int32) (vT_rules_spells : Int32) (vT_state : Int32) (vT_told_people : Int32) (fT_rules_askings : Nat → Int32) (fT_rules_bars : Nat → Int32) (fT_rules_bits : Nat → Int32) (fT_rules_doers : Nat → Int32) (fT_rules_kisses : Nat → Int32) (fT_rules_kissesNeeded : Nat → Int32) (fT_rules_masks : Nat → Int32) (fT_rules_sorts : Nat → Int32) (fT_rules_values : Nat → Int32) (fT_rules_wakings : Nat → Int32) (fT_rules_whichs : Nat → Int32) (p1 : Int32) (p2 : Int32) (p3 : Int32) : Option (Int32) := x_B (f_SS_refusal vT_told_people p1 p2 p3) (fun y2 => if y2 = 0 then (x_B (f_Ru_deedOf k vT_rules_deedCount fT_rules_doers fT_rules_sorts fT_rules_whichs p1 p2 p3) (fun y4 => x_B (f_Ru_after k vT_rules_deedCount vT_rules_spells fT_rules_askings fT_rules_bars fT_rules_bits fT_rules_kisses fT_rules_kissesNeeded fT_rules_masks fT_rules_sorts fT_rules_values fT_rules_wakings vT_state y4) (fun y5 => if y5 = (-1 : Int32) then (f_SS_can_J47 k vT_rules_deedCount vT_rules_spells vT_state vT_told_people fT_rules_askings fT_rules_bars fT_rules_bits fT_rules_doers fT_rules_kisses fT_rules_kissesNeeded fT_rules_masks fT_rules_sorts fT_rules_values fT_rules_wakings fT_rules_whichs (0 : Int32)) else f_SS_can_J47 k vT_rules_deedCount vT_rules_spells vT_state vT_told_people fT_rules_askings fT_rules_bars fT_rules_bits fT_rules_doers fT_rules_kisses fT_rules_kissesNeeded fT_rules_masks fT_rules_sorts fT_rules_values fT_rules_wakings fT_rules_whichs (1 : Int32)))) else some y2)
set_option maxHeartbeats 8000000 in
set_option maxRecDepth 100000 in
theorem c_SS_can (l : Launch) (G : GG) (aT aT_text aT_told aT_reader aT_rules aT_fromNow aT_whatIf aT_trials aT_undoable aT_keptStates aT_keptDeeds aT_row aT_princes aT_told_kinds aT_told_targets aT_told_wakes aT_told_terms aT_told_sorts aT_told_numbers aT_rules_masks aT_rules_values aT_rules_askings aT_rules_kissesNeeded aT_rules_wakings aT_rules_binders aT_rules_curses aT_rules_doers aT_rules_sorts aT_rules_whichs aT_rules_bars aT_rules_bits aT_rules_kisses : Nat) (vT_state : Int32) (vT_deeds : Int32) (vT_told_people : Int32) (vT_told_spells : Int32) (vT_told_day : Int32) (vT_told_broken : Int32) (vT_rules_people : Int32) (vT_rules_spells : Int32) (vT_rules_deedCount : Int32) (fT_rules_doers : Nat → Int32) (fT_rules_whichs : Nat → Int32) (fT_rules_sorts : Nat → Int32) (fT_rules_bars : Nat → Int32) (fT_rules_kisses : Nat → Int32) (fT_rules_masks : Nat → Int32) (fT_rules_values : Nat → Int32) (fT_rules_askings : Nat → Int32) (fT_rules_kissesNeeded : Nat → Int32) (fT_rules_wakings : Nat → Int32) (fT_rules_bits : Nat → Int32) (k : Nat) (p1 : Int32) (p2 : Int32) (p3 : Int32) (r0 : Int32) (hev : f_SS_can k vT_rules_deedCount vT_rules_spells vT_state vT_told_people fT_rules_askings fT_rules_bars fT_rules_bits fT_rules_doers fT_rules_kisses fT_rules_kissesNeeded fT_rules_masks fT_rules_sorts fT_rules_values fT_rules_wakings fT_rules_whichs p1 p2 p3 = some r0) : RO l G yX10_can cX10_can 5 (some .int) 3 [.ref aT, .int p1, .int p2, .int p3] [(aT, .inr (6, [.ref aT_text, .ref aT_told, .ref aT_reader, .ref aT_rules, .ref aT_fromNow, .ref aT_whatIf, .ref aT_trials, .ref aT_undoable, .ref aT_keptStates, .ref aT_keptDeeds, .ref aT_row, .ref aT_princes, .int vT_state, .int vT_deeds])), (aT_told, .inr (4, [.int vT_told_people, .int vT_told_spells, .int vT_told_day, .int vT_told_broken, .ref aT_told_kinds, .ref aT_told_targets, .ref aT_told_wakes, .ref aT_told_terms, .ref aT_told_sorts, .ref aT_told_numbers])), (aT_rules, .inr (2, [.int vT_rules_people, .int vT_rules_spells, .int vT_rules_deedCount, .ref aT_rules_masks, .ref aT_rules_values, .ref aT_rules_askings, .ref aT_rules_kissesNeeded, .ref aT_rules_wakings, .ref aT_rules_binders, .ref aT_rules_curses, .ref aT_rules_doers, .ref aT_rules_sorts, .ref aT_rules_whichs, .ref aT_rules_bars, .ref aT_rules_bits, .ref aT_rules_kisses])), (aT_rules_doers, .inl (G.2.1, 19, .inl fT_rules_doers)), (aT_rules_whichs, .inl (G.2.1, 19, .inl fT_rules_whichs)), (aT_rules_sorts, .inl (G.2.1, 19, .inl fT_rules_sorts)), (aT_rules_bars, .inl (G.2.1, 19, .inl fT_rules_bars)), (aT_rules_kisses, .inl (G.2.1, 19, .inl fT_rules_kisses)), (aT_rules_masks, .inl (G.2.1, 5, .inl fT_rules_masks)), (aT_rules_values, .inl (G.2.1, 5, .inl fT_rules_values)), (aT_rules_askings, .inl (G.2.1, 5, .inl fT_rules_askings)), (aT_rules_kissesNeeded, .inl (G.2.1, 5, .inl fT_rules_kissesNeeded)), (aT_rules_wakings, .inl (G.2.1, 5, .inl fT_rules_wakings)), (aT_rules_bits, .inl (G.2.1, 19, .inl fT_rules_bits))] (some (.int r0)) := by
  refine RO_of (by decide) (Nat.le_of_ble_eq_true rfl) ?_
  intro p e s m ar below meth c R Q H ls X hR hP hKK hS0 hl ret
  generalize hrs : r0 = rs at hev ret
  have hl : lv_has ls 5 [(0, .ref aT), (1, .int p1), (2, .int p2), (3, .int p3)] := hl
  obtain ⟨hx, hb, hml, hown, hts, hT⟩ := id X
  have hK := hKK.1
  have hw : ∀ w ∈ T0, w.before ar s = true := fun w h => hts w (hT w h)
  have i10 := fun w h => hT w (inT10 w h)
  have J47 : ∀ (s0 : Int32), ∀ (ls : Array Slot), f_SS_can_J47 k vT_rules_deedCount vT_rules_spells vT_state vT_told_people fT_rules_askings fT_rules_bars fT_rules_bits fT_rules_doers fT_rules_kisses fT_rules_kissesNeeded fT_rules_masks fT_rules_sorts fT_rules_values fT_rules_wakings fT_rules_whichs s0 = some rs → lv_has ls 5 [] → W p l e R s m ar below meth c H [] 0 0 Q (F0 m 47 ls [.int s0]) := by
    intro s0 ls hev hl
    unfold f_SS_can_J47 at hev
    obtain ⟨y1, hq, hev⟩ := x_bd hev
    refine roS X hKK hR (st1 := [.int y1]) (c_SS_oneIf l G s0 y1 hq) K_X10_oneIf u657 (x_Psub hP [] rfl) (by decide) ⟨Nat.zero_le _, Nat.zero_le _⟩ rfl hl.1 rfl (Nat.le_of_ble_eq_true rfl) rfl dX10_can_47 ?_
    exact ret _ _ _ dX10_can_50 ((show narrow _ (.int y1) = .int y1 from rfl).trans (congrArg Value.int (Option.some.inj hev)))
  unfold f_SS_can at hev
  refine lv_aload_n hx hb dX10_can_0 rfl (lv_at hl 0 rfl) ?_
  refine lv_iload_n hx hb dX10_can_1 rfl (lv_at hl 1 rfl) ?_
  refine lv_iload_n hx hb dX10_can_2 rfl (lv_at hl 2 rfl) ?_
  refine lv_iload_n hx hb dX10_can_3 rfl (lv_at hl 3 rfl) ?_
  obtain ⟨y2, hq, hev⟩ := x_bd hev
  refine roV X hKK hR (st1 := [.int y2]) (c_SS_refusal l G aT aT_text aT_told aT_reader aT_rules aT_fromNow aT_whatIf aT_trials aT_undoable aT_keptStates aT_keptDeeds aT_row aT_princes aT_told_kinds aT_told_targets aT_told_wakes aT_told_terms aT_told_sorts aT_told_numbers vT_state vT_deeds vT_told_people vT_told_spells vT_told_day vT_told_broken p1 p2 p3 y2 hq) K_X10_refusal u718 (x_Psub hP [0, 1] rfl) rfl (q0 := 0) rfl (by decide) ⟨Nat.zero_le _, Nat.zero_le _⟩ rfl hl.1 rfl (Nat.le_of_ble_eq_true rfl) rfl dX10_can_4 ?_
  refine lv_istore (lv' := [(4, .int y2), (0, .ref aT), (1, .int p1), (2, .int p2), (3, .int p3)]) hx hb dX10_can_7 hl (by decide) rfl (fun ls hl => ?_)
  refine lv_iload hx hb dX10_can_9 (lv_at hl 0 rfl) ?_
  refine lv_if_eq (tgt := 17) hx hb dX10_can_11 (by decide) (fun c3 => ?_) (fun c3 => ?_)
  · replace hev := x_t c3 hev
    refine lv_aload_n hx hb dX10_can_17 rfl (lv_at hl 1 rfl) ?_
    refine va_get (D := G.1) (ci := 6) (v := .ref aT_rules) (C := RX10) (T := TX10) (N := 14) hx hb hts i10 hown hK hP 0 rfl rfl 3 (by decide) (hw _ u419) (fun _ h9 => h9) rfl dX10_can_18 ?_
    refine lv_aload_n hx hb dX10_can_21 rfl (lv_at hl 1 rfl) ?_
    refine va_get (D := G.1) (ci := 6) (v := .int vT_state) (C := RX10) (T := TX10) (N := 14) hx hb hts i10 hown hK hP 0 rfl rfl 12 (by decide) (hw _ u428) (fun _ h9 => h9) rfl dX10_can_22 ?_
    refine lv_aload_n hx hb dX10_can_25 rfl (lv_at hl 1 rfl) ?_
    refine va_get (D := G.1) (ci := 6) (v := .ref aT_rules) (C := RX10) (T := TX10) (N := 14) hx hb hts i10 hown hK hP 0 rfl rfl 3 (by decide) (hw _ u419) (fun _ h9 => h9) rfl dX10_can_26 ?_
    refine lv_iload_n hx hb dX10_can_29 rfl (lv_at hl 2 rfl) ?_
    refine lv_iload_n hx hb dX10_can_30 rfl (lv_at hl 3 rfl) ?_
    refine lv_iload_n hx hb dX10_can_31 rfl (lv_at hl 4 rfl) ?_
    obtain ⟨y4, hq, hev⟩ := x_bd hev
    refine roV X hKK hR (st1 := [.int y4, .int vT_state, .ref aT_rules]) (c_Ru_deedOf l G aT_rules aT_rules_masks aT_rules_values aT_rules_askings aT_rules_kissesNeeded aT_rules_wakings aT_rules_binders aT_rules_curses aT_rules_doers aT_rules_sorts aT_rules_whichs aT_rules_bars aT_rules_bits aT_rules_kisses vT_rules_people vT_rules_spells vT_rules_deedCount fT_rules_doers fT_rules_whichs fT_rules_sorts k p1 p2 p3 y4 hq) K_X4_deedOf u726 (x_Psub hP [2, 3, 4, 5] rfl) rfl (q0 := 0) rfl (by decide) ⟨Nat.zero_le _, Nat.zero_le _⟩ rfl hl.1 rfl (Nat.le_of_ble_eq_true rfl) rfl dX10_can_32 ?_
    obtain ⟨y5, hq, hev⟩ := x_bd hev
    refine roV X hKK hR (st1 := [.int y5]) (c_Ru_after l G aT_rules aT_rules_masks aT_rules_values aT_rules_askings aT_rules_kissesNeeded aT_rules_wakings aT_rules_binders aT_rules_curses aT_rules_doers aT_rules_sorts aT_rules_whichs aT_rules_bars aT_rules_bits aT_rules_kisses vT_rules_people vT_rules_spells vT_rules_deedCount fT_rules_bars fT_rules_sorts fT_rules_kisses fT_rules_masks fT_rules_values fT_rules_askings fT_rules_kissesNeeded fT_rules_wakings fT_rules_bits k vT_state y4 y5 hq) K_X4_after u730 (x_Psub hP [2, 6, 5, 7, 8, 9, 10, 11, 12, 13] rfl) rfl (q0 := 0) rfl (by decide) ⟨Nat.zero_le _, Nat.zero_le _⟩ rfl hl.1 rfl (Nat.le_of_ble_eq_true rfl) rfl dX10_can_35 ?_
    refine lv_iconst (v := (-1 : Int32)) hx hb dX10_can_38 (by decide) ?_
    refine lv_icmp_eq (tgt := 46) hx hb dX10_can_39 (by decide) (fun c6 => ?_) (fun c6 => ?_)
    · replace hev := x_t c6 hev
      refine lv_iconst (v := (0 : Int32)) hx hb dX10_can_46 (by decide) ?_
      exact J47 (0 : Int32) ls hev (lv_sub hl [] rfl)
    · replace hev := x_f c6 hev
      refine lv_iconst (v := (1 : Int32)) hx hb dX10_can_42 (by decide) ?_
      refine lv_goto (tgt := 47) hx hb dX10_can_43 (by decide) ?_
      exact J47 (1 : Int32) ls hev (lv_sub hl [] rfl)
  · replace hev := x_f c3 hev
    refine lv_iload hx hb dX10_can_14 (lv_at hl 0 rfl) ?_
    exact ret _ _ _ dX10_can_16 ((show narrow _ (.int y2) = .int y2 from rfl).trans (congrArg Value.int (Option.some.inj hev)))
def f_SS_act_J79 (k : Nat) (nT_undoable_items : Nat) (vT_deeds : Int32) (vT_rules_deedCount : Int32) (vT_rules_spells : Int32) (vT_state : Int32) (vT_told_people : Int32) (vT_undoable_size : Int32) (fT_rules_askings : Nat → Int32) (fT_rules_bars : Nat → Int32) (fT_rules_bits : Nat → Int32) (fT_rules_doers : Nat → Int32) (fT_rules_kisses : Nat → Int32) (fT_rules_kissesNeeded : Nat → Int32) (fT_rules_masks : Nat → Int32) (fT_rules_sorts : Nat → Int32) (fT_rules_values : Nat → Int32) (fT_rules_wakings : Nat → Int32) (fT_rules_whichs : Nat → Int32) (fT_undoable_items : Nat → Int32) (x5 : Int32) : Option (Int32 × Int32 × Int32 × Int32 × (Nat → Int32)) := x_B (f_Rw_add nT_undoable_items vT_undoable_size fT_undoable_items vT_state) (fun ⟨y1, w2, w3⟩ => x_B (f_St_of x5) (fun y4 => x_L ((vT_deeds + (1 : Int32))) (fun y5 => x_B (f_St_lifted x5) (fun y6 => some (y6, y5, y4, w2, w3)))))
def f_SS_act (k : Nat) (nT_undoable_items : Nat) (vT_deeds : Int32) (vT_rules_deedCount : Int32) (vT_rules_spells : Int32) (vT_state : Int32) (vT_told_people : Int32) (vT_undoable_size : Int32) (fT_rules_askings : Nat → Int32) (fT_rules_bars : Nat → Int32) (fT_rules_bits : Nat → Int32) (fT_rules_doers : Nat → Int32) (fT_rules_kisses : Nat → Int32) (fT_rules_kissesNeeded : Nat → Int32) (fT_rules_masks : Nat → Int32) (fT_rules_sorts : Nat → Int32) (fT_rules_values : Nat → Int32) (fT_rules_wakings : Nat → Int32) (fT_rules_whichs : Nat → Int32) (fT_undoable_items : Nat → Int32) (p1 : Int32) (p2 : Int32) (p3 : Int32) : Option (Int32 × Int32 × Int32 × Int32 × (Nat → Int32)) := x_B (f_SS_refusal vT_told_people p1 p2 p3) (fun y7 => if y7 = 0 then (x_B (f_Ru_deedOf k vT_rules_deedCount fT_rules_doers fT_rules_sorts fT_rules_whichs p1 p2 p3) (fun y9 => x_B (f_Ru_after k vT_rules_deedCount vT_rules_spells fT_rules_askings fT_rules_bars fT_rules_bits fT_rules_kisses fT_rules_kissesNeeded fT_rules_masks fT_rules_sorts fT_rules_values fT_rules_wakings vT_state y9) (fun y10 => if y10 = (-1 : Int32) then (some ((-4 : Int32), vT_deeds, vT_state, vT_undoable_size, fT_undoable_items)) else if vT_deeds < (9999 : Int32) then (x_B (f_Rw_isFull nT_undoable_items vT_undoable_size) (fun y13 => if y13 = 0 then (f_SS_act_J79 k nT_undoable_items vT_deeds vT_rules_deedCount vT_rules_spells vT_state vT_told_people vT_undoable_size fT_rules_askings fT_rules_bars fT_rules_bits fT_rules_doers fT_rules_kisses fT_rules_kissesNeeded fT_rules_masks fT_rules_sorts fT_rules_values fT_rules_wakings fT_rules_whichs fT_undoable_items y10) else x_B (f_Rw_dropFirst k nT_undoable_items vT_undoable_size fT_undoable_items) (fun ⟨w15, w16⟩ => f_SS_act_J79 k nT_undoable_items vT_deeds vT_rules_deedCount vT_rules_spells vT_state vT_told_people w15 fT_rules_askings fT_rules_bars fT_rules_bits fT_rules_doers fT_rules_kisses fT_rules_kissesNeeded fT_rules_masks fT_rules_sorts fT_rules_values fT_rules_wakings fT_rules_whichs w16 y10))) else some ((-5 : Int32), vT_deeds, vT_state, vT_undoable_size, fT_undoable_items)))) else some (y7, vT_deeds, vT_state, vT_undoable_size, fT_undoable_items))
set_option maxHeartbeats 8000000 in
set_option maxRecDepth 100000 in
theorem c_SS_act (l : Launch) (G : GG) (aT aT_text aT_told aT_reader aT_rules aT_fromNow aT_whatIf aT_trials aT_undoable aT_keptStates aT_keptDeeds aT_row aT_princes aT_told_kinds aT_told_targets aT_told_wakes aT_told_terms aT_told_sorts aT_told_numbers aT_rules_masks aT_rules_values aT_rules_askings aT_rules_kissesNeeded aT_rules_wakings aT_rules_binders aT_rules_curses aT_rules_doers aT_rules_sorts aT_rules_whichs aT_rules_bars aT_rules_bits aT_rules_kisses aT_undoable_items : Nat) (vT_state : Int32) (vT_deeds : Int32) (vT_told_people : Int32) (vT_told_spells : Int32) (vT_told_day : Int32) (vT_told_broken : Int32) (vT_rules_people : Int32) (vT_rules_spells : Int32) (vT_rules_deedCount : Int32) (vT_undoable_size : Int32) (fT_rules_doers : Nat → Int32) (fT_rules_whichs : Nat → Int32) (fT_rules_sorts : Nat → Int32) (fT_rules_bars : Nat → Int32) (fT_rules_kisses : Nat → Int32) (fT_rules_masks : Nat → Int32) (fT_rules_values : Nat → Int32) (fT_rules_askings : Nat → Int32) (fT_rules_kissesNeeded : Nat → Int32) (fT_rules_wakings : Nat → Int32) (fT_rules_bits : Nat → Int32) (fT_undoable_items : Nat → Int32) (nT_undoable_items : Nat) (k : Nat) (p1 : Int32) (p2 : Int32) (p3 : Int32) (r0 : Int32) (wvT_deeds : Int32) (wvT_state : Int32) (wvT_undoable_size : Int32) (wfT_undoable_items : Nat → Int32) (hev : f_SS_act k nT_undoable_items vT_deeds vT_rules_deedCount vT_rules_spells vT_state vT_told_people vT_undoable_size fT_rules_askings fT_rules_bars fT_rules_bits fT_rules_doers fT_rules_kisses fT_rules_kissesNeeded fT_rules_masks fT_rules_sorts fT_rules_values fT_rules_wakings fT_rules_whichs fT_undoable_items p1 p2 p3 = some (r0, wvT_deeds, wvT_state, wvT_undoable_size, wfT_undoable_items)) : RW l G yX10_act cX10_act 6 (some .int) 3 [.ref aT, .int p1, .int p2, .int p3] [(aT, .inr (6, [.ref aT_text, .ref aT_told, .ref aT_reader, .ref aT_rules, .ref aT_fromNow, .ref aT_whatIf, .ref aT_trials, .ref aT_undoable, .ref aT_keptStates, .ref aT_keptDeeds, .ref aT_row, .ref aT_princes, .int vT_state, .int vT_deeds])), (aT_told, .inr (4, [.int vT_told_people, .int vT_told_spells, .int vT_told_day, .int vT_told_broken, .ref aT_told_kinds, .ref aT_told_targets, .ref aT_told_wakes, .ref aT_told_terms, .ref aT_told_sorts, .ref aT_told_numbers])), (aT_rules, .inr (2, [.int vT_rules_people, .int vT_rules_spells, .int vT_rules_deedCount, .ref aT_rules_masks, .ref aT_rules_values, .ref aT_rules_askings, .ref aT_rules_kissesNeeded, .ref aT_rules_wakings, .ref aT_rules_binders, .ref aT_rules_curses, .ref aT_rules_doers, .ref aT_rules_sorts, .ref aT_rules_whichs, .ref aT_rules_bars, .ref aT_rules_bits, .ref aT_rules_kisses])), (aT_undoable, .inr (1, [.ref aT_undoable_items, .int vT_undoable_size])), (aT_rules_doers, .inl (G.2.1, 19, .inl fT_rules_doers)), (aT_rules_whichs, .inl (G.2.1, 19, .inl fT_rules_whichs)), (aT_rules_sorts, .inl (G.2.1, 19, .inl fT_rules_sorts)), (aT_rules_bars, .inl (G.2.1, 19, .inl fT_rules_bars)), (aT_rules_kisses, .inl (G.2.1, 19, .inl fT_rules_kisses)), (aT_rules_masks, .inl (G.2.1, 5, .inl fT_rules_masks)), (aT_rules_values, .inl (G.2.1, 5, .inl fT_rules_values)), (aT_rules_askings, .inl (G.2.1, 5, .inl fT_rules_askings)), (aT_rules_kissesNeeded, .inl (G.2.1, 5, .inl fT_rules_kissesNeeded)), (aT_rules_wakings, .inl (G.2.1, 5, .inl fT_rules_wakings)), (aT_rules_bits, .inl (G.2.1, 19, .inl fT_rules_bits)), (aT_undoable_items, .inl (G.2.1, nT_undoable_items, .inl fT_undoable_items))] (some (.int r0)) [(aT, .inr (6, [.ref aT_text, .ref aT_told, .ref aT_reader, .ref aT_rules, .ref aT_fromNow, .ref aT_whatIf, .ref aT_trials, .ref aT_undoable, .ref aT_keptStates, .ref aT_keptDeeds, .ref aT_row, .ref aT_princes, .int wvT_state, .int wvT_deeds])), (aT_told, .inr (4, [.int vT_told_people, .int vT_told_spells, .int vT_told_day, .int vT_told_broken, .ref aT_told_kinds, .ref aT_told_targets, .ref aT_told_wakes, .ref aT_told_terms, .ref aT_told_sorts, .ref aT_told_numbers])), (aT_rules, .inr (2, [.int vT_rules_people, .int vT_rules_spells, .int vT_rules_deedCount, .ref aT_rules_masks, .ref aT_rules_values, .ref aT_rules_askings, .ref aT_rules_kissesNeeded, .ref aT_rules_wakings, .ref aT_rules_binders, .ref aT_rules_curses, .ref aT_rules_doers, .ref aT_rules_sorts, .ref aT_rules_whichs, .ref aT_rules_bars, .ref aT_rules_bits, .ref aT_rules_kisses])), (aT_undoable, .inr (1, [.ref aT_undoable_items, .int wvT_undoable_size])), (aT_rules_doers, .inl (G.2.1, 19, .inl fT_rules_doers)), (aT_rules_whichs, .inl (G.2.1, 19, .inl fT_rules_whichs)), (aT_rules_sorts, .inl (G.2.1, 19, .inl fT_rules_sorts)), (aT_rules_bars, .inl (G.2.1, 19, .inl fT_rules_bars)), (aT_rules_kisses, .inl (G.2.1, 19, .inl fT_rules_kisses)), (aT_rules_masks, .inl (G.2.1, 5, .inl fT_rules_masks)), (aT_rules_values, .inl (G.2.1, 5, .inl fT_rules_values)), (aT_rules_askings, .inl (G.2.1, 5, .inl fT_rules_askings)), (aT_rules_kissesNeeded, .inl (G.2.1, 5, .inl fT_rules_kissesNeeded)), (aT_rules_wakings, .inl (G.2.1, 5, .inl fT_rules_wakings)), (aT_rules_bits, .inl (G.2.1, 19, .inl fT_rules_bits)), (aT_undoable_items, .inl (G.2.1, nT_undoable_items, .inl wfT_undoable_items))] 0 0 := by
  refine RW_of (by decide) (Nat.le_of_ble_eq_true rfl) ?_
  intro p e s m ar below meth c R Q A ls X hR hRc hin hP hKK hD hS hA hAb hl ret
  obtain ⟨rs, hrs⟩ : ∃ q, q = (r0, wvT_deeds, wvT_state, wvT_undoable_size, wfT_undoable_items) := ⟨_, rfl⟩
  rw [← hrs] at hev
  have ret2 : ∀ (pc : Nat) (ls : Array Slot) (H : Heap) (lo : List Loc) (v r1 : Int32) (zvT_deeds : Int32) (zvT_state : Int32) (zvT_undoable_size : Int32) (zfT_undoable_items : Nat → Int32), (r1, zvT_deeds, zvT_state, zvT_undoable_size, zfT_undoable_items) = rs → decode cX10_act pc = .ok (.ireturn, 1) → narrow .int (.int v) = .int r1 → va_P G.1 classes [(aT, .inr (6, [.ref aT_text, .ref aT_told, .ref aT_reader, .ref aT_rules, .ref aT_fromNow, .ref aT_whatIf, .ref aT_trials, .ref aT_undoable, .ref aT_keptStates, .ref aT_keptDeeds, .ref aT_row, .ref aT_princes, .int zvT_state, .int zvT_deeds])), (aT_told, .inr (4, [.int vT_told_people, .int vT_told_spells, .int vT_told_day, .int vT_told_broken, .ref aT_told_kinds, .ref aT_told_targets, .ref aT_told_wakes, .ref aT_told_terms, .ref aT_told_sorts, .ref aT_told_numbers])), (aT_rules, .inr (2, [.int vT_rules_people, .int vT_rules_spells, .int vT_rules_deedCount, .ref aT_rules_masks, .ref aT_rules_values, .ref aT_rules_askings, .ref aT_rules_kissesNeeded, .ref aT_rules_wakings, .ref aT_rules_binders, .ref aT_rules_curses, .ref aT_rules_doers, .ref aT_rules_sorts, .ref aT_rules_whichs, .ref aT_rules_bars, .ref aT_rules_bits, .ref aT_rules_kisses])), (aT_undoable, .inr (1, [.ref aT_undoable_items, .int zvT_undoable_size])), (aT_rules_doers, .inl (G.2.1, 19, .inl fT_rules_doers)), (aT_rules_whichs, .inl (G.2.1, 19, .inl fT_rules_whichs)), (aT_rules_sorts, .inl (G.2.1, 19, .inl fT_rules_sorts)), (aT_rules_bars, .inl (G.2.1, 19, .inl fT_rules_bars)), (aT_rules_kisses, .inl (G.2.1, 19, .inl fT_rules_kisses)), (aT_rules_masks, .inl (G.2.1, 5, .inl fT_rules_masks)), (aT_rules_values, .inl (G.2.1, 5, .inl fT_rules_values)), (aT_rules_askings, .inl (G.2.1, 5, .inl fT_rules_askings)), (aT_rules_kissesNeeded, .inl (G.2.1, 5, .inl fT_rules_kissesNeeded)), (aT_rules_wakings, .inl (G.2.1, 5, .inl fT_rules_wakings)), (aT_rules_bits, .inl (G.2.1, 19, .inl fT_rules_bits)), (aT_undoable_items, .inl (G.2.1, nT_undoable_items, .inl zfT_undoable_items))] H → va_D A [(aT, .inr (6, [.ref aT_text, .ref aT_told, .ref aT_reader, .ref aT_rules, .ref aT_fromNow, .ref aT_whatIf, .ref aT_trials, .ref aT_undoable, .ref aT_keptStates, .ref aT_keptDeeds, .ref aT_row, .ref aT_princes, .int zvT_state, .int zvT_deeds])), (aT_told, .inr (4, [.int vT_told_people, .int vT_told_spells, .int vT_told_day, .int vT_told_broken, .ref aT_told_kinds, .ref aT_told_targets, .ref aT_told_wakes, .ref aT_told_terms, .ref aT_told_sorts, .ref aT_told_numbers])), (aT_rules, .inr (2, [.int vT_rules_people, .int vT_rules_spells, .int vT_rules_deedCount, .ref aT_rules_masks, .ref aT_rules_values, .ref aT_rules_askings, .ref aT_rules_kissesNeeded, .ref aT_rules_wakings, .ref aT_rules_binders, .ref aT_rules_curses, .ref aT_rules_doers, .ref aT_rules_sorts, .ref aT_rules_whichs, .ref aT_rules_bars, .ref aT_rules_bits, .ref aT_rules_kisses])), (aT_undoable, .inr (1, [.ref aT_undoable_items, .int zvT_undoable_size])), (aT_rules_doers, .inl (G.2.1, 19, .inl fT_rules_doers)), (aT_rules_whichs, .inl (G.2.1, 19, .inl fT_rules_whichs)), (aT_rules_sorts, .inl (G.2.1, 19, .inl fT_rules_sorts)), (aT_rules_bars, .inl (G.2.1, 19, .inl fT_rules_bars)), (aT_rules_kisses, .inl (G.2.1, 19, .inl fT_rules_kisses)), (aT_rules_masks, .inl (G.2.1, 5, .inl fT_rules_masks)), (aT_rules_values, .inl (G.2.1, 5, .inl fT_rules_values)), (aT_rules_askings, .inl (G.2.1, 5, .inl fT_rules_askings)), (aT_rules_kissesNeeded, .inl (G.2.1, 5, .inl fT_rules_kissesNeeded)), (aT_rules_wakings, .inl (G.2.1, 5, .inl fT_rules_wakings)), (aT_rules_bits, .inl (G.2.1, 19, .inl fT_rules_bits)), (aT_undoable_items, .inl (G.2.1, nT_undoable_items, .inl zfT_undoable_items))] → va_S A s.heap H lo → W p l e R s m ar below meth c H lo 0 0 Q (F0 m pc ls [.int v]) := by
    intro pc ls H lo v r1 zvT_deeds zvT_state zvT_undoable_size zfT_undoable_items he hd hn h1 h2 h3
    have he := he.trans hrs
    cases he
    exact ret.1 _ _ _ _ _ _ _ rfl rfl hd hn h1 h2 h3
  clear ret hrs
  have hl : lv_has ls 6 [(0, .ref aT), (1, .int p1), (2, .int p2), (3, .int p3)] := hl
  obtain ⟨hx, hb, hml, hown, hts, hT⟩ := id X
  have hK := hKK.1
  have hw : ∀ w ∈ T0, w.before ar s = true := fun w h => hts w (hT w h)
  have i10 := fun w h => hT w (inT10 w h)
  have J79 : ∀ (vT_deeds : Int32) (vT_state : Int32) (vT_undoable_size : Int32) (fT_undoable_items : Nat → Int32) (x5 : Int32), ∀ (H : Heap) (lo : List Loc), va_P G.1 classes [(aT, .inr (6, [.ref aT_text, .ref aT_told, .ref aT_reader, .ref aT_rules, .ref aT_fromNow, .ref aT_whatIf, .ref aT_trials, .ref aT_undoable, .ref aT_keptStates, .ref aT_keptDeeds, .ref aT_row, .ref aT_princes, .int vT_state, .int vT_deeds])), (aT_told, .inr (4, [.int vT_told_people, .int vT_told_spells, .int vT_told_day, .int vT_told_broken, .ref aT_told_kinds, .ref aT_told_targets, .ref aT_told_wakes, .ref aT_told_terms, .ref aT_told_sorts, .ref aT_told_numbers])), (aT_rules, .inr (2, [.int vT_rules_people, .int vT_rules_spells, .int vT_rules_deedCount, .ref aT_rules_masks, .ref aT_rules_values, .ref aT_rules_askings, .ref aT_rules_kissesNeeded, .ref aT_rules_wakings, .ref aT_rules_binders, .ref aT_rules_curses, .ref aT_rules_doers, .ref aT_rules_sorts, .ref aT_rules_whichs, .ref aT_rules_bars, .ref aT_rules_bits, .ref aT_rules_kisses])), (aT_undoable, .inr (1, [.ref aT_undoable_items, .int vT_undoable_size])), (aT_rules_doers, .inl (G.2.1, 19, .inl fT_rules_doers)), (aT_rules_whichs, .inl (G.2.1, 19, .inl fT_rules_whichs)), (aT_rules_sorts, .inl (G.2.1, 19, .inl fT_rules_sorts)), (aT_rules_bars, .inl (G.2.1, 19, .inl fT_rules_bars)), (aT_rules_kisses, .inl (G.2.1, 19, .inl fT_rules_kisses)), (aT_rules_masks, .inl (G.2.1, 5, .inl fT_rules_masks)), (aT_rules_values, .inl (G.2.1, 5, .inl fT_rules_values)), (aT_rules_askings, .inl (G.2.1, 5, .inl fT_rules_askings)), (aT_rules_kissesNeeded, .inl (G.2.1, 5, .inl fT_rules_kissesNeeded)), (aT_rules_wakings, .inl (G.2.1, 5, .inl fT_rules_wakings)), (aT_rules_bits, .inl (G.2.1, 19, .inl fT_rules_bits)), (aT_undoable_items, .inl (G.2.1, nT_undoable_items, .inl fT_undoable_items))] H → va_D A [(aT, .inr (6, [.ref aT_text, .ref aT_told, .ref aT_reader, .ref aT_rules, .ref aT_fromNow, .ref aT_whatIf, .ref aT_trials, .ref aT_undoable, .ref aT_keptStates, .ref aT_keptDeeds, .ref aT_row, .ref aT_princes, .int vT_state, .int vT_deeds])), (aT_told, .inr (4, [.int vT_told_people, .int vT_told_spells, .int vT_told_day, .int vT_told_broken, .ref aT_told_kinds, .ref aT_told_targets, .ref aT_told_wakes, .ref aT_told_terms, .ref aT_told_sorts, .ref aT_told_numbers])), (aT_rules, .inr (2, [.int vT_rules_people, .int vT_rules_spells, .int vT_rules_deedCount, .ref aT_rules_masks, .ref aT_rules_values, .ref aT_rules_askings, .ref aT_rules_kissesNeeded, .ref aT_rules_wakings, .ref aT_rules_binders, .ref aT_rules_curses, .ref aT_rules_doers, .ref aT_rules_sorts, .ref aT_rules_whichs, .ref aT_rules_bars, .ref aT_rules_bits, .ref aT_rules_kisses])), (aT_undoable, .inr (1, [.ref aT_undoable_items, .int vT_undoable_size])), (aT_rules_doers, .inl (G.2.1, 19, .inl fT_rules_doers)), (aT_rules_whichs, .inl (G.2.1, 19, .inl fT_rules_whichs)), (aT_rules_sorts, .inl (G.2.1, 19, .inl fT_rules_sorts)), (aT_rules_bars, .inl (G.2.1, 19, .inl fT_rules_bars)), (aT_rules_kisses, .inl (G.2.1, 19, .inl fT_rules_kisses)), (aT_rules_masks, .inl (G.2.1, 5, .inl fT_rules_masks)), (aT_rules_values, .inl (G.2.1, 5, .inl fT_rules_values)), (aT_rules_askings, .inl (G.2.1, 5, .inl fT_rules_askings)), (aT_rules_kissesNeeded, .inl (G.2.1, 5, .inl fT_rules_kissesNeeded)), (aT_rules_wakings, .inl (G.2.1, 5, .inl fT_rules_wakings)), (aT_rules_bits, .inl (G.2.1, 19, .inl fT_rules_bits)), (aT_undoable_items, .inl (G.2.1, nT_undoable_items, .inl fT_undoable_items))] → va_S A s.heap H lo → ∀ (ls : Array Slot), f_SS_act_J79 k nT_undoable_items vT_deeds vT_rules_deedCount vT_rules_spells vT_state vT_told_people vT_undoable_size fT_rules_askings fT_rules_bars fT_rules_bits fT_rules_doers fT_rules_kisses fT_rules_kissesNeeded fT_rules_masks fT_rules_sorts fT_rules_values fT_rules_wakings fT_rules_whichs fT_undoable_items x5 = some rs → lv_has ls 6 [(0, .ref aT), (5, .int x5)] → W p l e R s m ar below meth c H lo 0 0 Q (F0 m 79 ls []) := by
    intro vT_deeds vT_state vT_undoable_size fT_undoable_items x5 H lo hP hD hS ls hev hl
    unfold f_SS_act_J79 at hev
    refine lv_aload_n hx hb dX10_act_79 rfl (lv_at hl 0 rfl) ?_
    refine va_get (D := G.1) (ci := 6) (v := .ref aT_undoable) (C := RX10) (T := TX10) (N := 14) hx hb hts i10 hown hK hP 0 rfl rfl 7 (by decide) (hw _ u423) (fun _ h9 => h9) rfl dX10_act_80 ?_
    refine lv_aload_n hx hb dX10_act_83 rfl (lv_at hl 0 rfl) ?_
    refine va_get (D := G.1) (ci := 6) (v := .int vT_state) (C := RX10) (T := TX10) (N := 14) hx hb hts i10 hown hK hP 0 rfl rfl 12 (by decide) (hw _ u428) (fun _ h9 => h9) rfl dX10_act_84 ?_
    obtain ⟨⟨y1, w2, w3⟩, hq, hev⟩ := x_bd hev
    refine rgV X (KK_at hKK hS hAb) hR (st1 := [.int y1]) (ws2 := [(aT, .inr (6, [.ref aT_text, .ref aT_told, .ref aT_reader, .ref aT_rules, .ref aT_fromNow, .ref aT_whatIf, .ref aT_trials, .ref aT_undoable, .ref aT_keptStates, .ref aT_keptDeeds, .ref aT_row, .ref aT_princes, .int vT_state, .int vT_deeds])), (aT_told, .inr (4, [.int vT_told_people, .int vT_told_spells, .int vT_told_day, .int vT_told_broken, .ref aT_told_kinds, .ref aT_told_targets, .ref aT_told_wakes, .ref aT_told_terms, .ref aT_told_sorts, .ref aT_told_numbers])), (aT_rules, .inr (2, [.int vT_rules_people, .int vT_rules_spells, .int vT_rules_deedCount, .ref aT_rules_masks, .ref aT_rules_values, .ref aT_rules_askings, .ref aT_rules_kissesNeeded, .ref aT_rules_wakings, .ref aT_rules_binders, .ref aT_rules_curses, .ref aT_rules_doers, .ref aT_rules_sorts, .ref aT_rules_whichs, .ref aT_rules_bars, .ref aT_rules_bits, .ref aT_rules_kisses])), (aT_undoable, .inr (1, [.ref aT_undoable_items, .int w2])), (aT_rules_doers, .inl (G.2.1, 19, .inl fT_rules_doers)), (aT_rules_whichs, .inl (G.2.1, 19, .inl fT_rules_whichs)), (aT_rules_sorts, .inl (G.2.1, 19, .inl fT_rules_sorts)), (aT_rules_bars, .inl (G.2.1, 19, .inl fT_rules_bars)), (aT_rules_kisses, .inl (G.2.1, 19, .inl fT_rules_kisses)), (aT_rules_masks, .inl (G.2.1, 5, .inl fT_rules_masks)), (aT_rules_values, .inl (G.2.1, 5, .inl fT_rules_values)), (aT_rules_askings, .inl (G.2.1, 5, .inl fT_rules_askings)), (aT_rules_kissesNeeded, .inl (G.2.1, 5, .inl fT_rules_kissesNeeded)), (aT_rules_wakings, .inl (G.2.1, 5, .inl fT_rules_wakings)), (aT_rules_bits, .inl (G.2.1, 19, .inl fT_rules_bits)), (aT_undoable_items, .inl (G.2.1, nT_undoable_items, .inl w3))]) (c_Rw_add l G aT_undoable aT_undoable_items vT_undoable_size fT_undoable_items nT_undoable_items vT_state y1 w2 w3 hq) K_X3_add u463 hP hD hS hA hAb [3, 15] rfl (sbC rfl (sbC rfl sb0)) (mgK (by decide) (mgK (by decide) (mgK (by decide) (mgN 0 rfl rfl (mgK (by decide) (mgK (by decide) (mgK (by decide) (mgK (by decide) (mgK (by decide) (mgK (by decide) (mgK (by decide) (mgK (by decide) (mgK (by decide) (mgK (by decide) (mgK (by decide) (mgN 1 rfl rfl (mg0))))))))))))))))) rfl (q0 := 0) rfl (by decide) ⟨Nat.zero_le _, Nat.zero_le _⟩ rfl hl.1 rfl (Nat.le_of_ble_eq_true rfl) rfl dX10_act_87 (fun H lo hP hD hS => ?_)
    refine lv_pop hx hb dX10_act_90 rfl ?_
    refine lv_aload_n hx hb dX10_act_91 rfl (lv_at hl 0 rfl) ?_
    refine lv_iload hx hb dX10_act_92 (lv_at hl 1 rfl) ?_
    obtain ⟨y4, hq, hev⟩ := x_bd hev
    refine roS X (KK_at hKK hS hAb) hR (st1 := [.int y4, .ref aT]) (c_St_of l G x5 y4 hq) K_X6_of u755 (x_Psub hP [] rfl) (by decide) ⟨Nat.zero_le _, Nat.zero_le _⟩ rfl hl.1 rfl (Nat.le_of_ble_eq_true rfl) rfl dX10_act_94 ?_
    refine va_put (D := G.1) (ci := 6) (v := .int y4) (ty := .int) (C := RX10) (T := TX10) (N := 14) hx hb hts i10 tyX10 tyX10_ok nmX10 hown hK hP hD hS 0 rfl rfl 12 (by decide) (hw _ u428) (fun _ h9 => h9) rfl (by decide +kernel) rfl rfl (Nat.le_of_ble_eq_true rfl) dX10_act_97 (fun H lo hP hD hS => ?_)
    refine lv_aload_n hx hb dX10_act_100 rfl (lv_at hl 0 rfl) ?_
    refine lv_dup hx hb dX10_act_101 rfl ?_
    refine va_get (D := G.1) (ci := 6) (v := .int vT_deeds) (C := RX10) (T := TX10) (N := 14) hx hb hts i10 hown hK hP 0 rfl rfl 13 (by decide) (hw _ u429) (fun _ h9 => h9) rfl dX10_act_102 ?_
    refine lv_iconst (v := (1 : Int32)) hx hb dX10_act_105 (by decide) ?_
    refine lv_iadd hx hb dX10_act_106 ?_
    refine lv_topi (fun y5 ey5 => ?_)
    replace hev := x_lt hev y5 ey5
    refine va_put (D := G.1) (ci := 6) (v := .int y5) (ty := .int) (C := RX10) (T := TX10) (N := 14) hx hb hts i10 tyX10 tyX10_ok nmX10 hown hK hP hD hS 0 rfl rfl 13 (by decide) (hw _ u429) (fun _ h9 => h9) rfl (by decide +kernel) rfl rfl (Nat.le_of_ble_eq_true rfl) dX10_act_107 (fun H lo hP hD hS => ?_)
    refine lv_iload hx hb dX10_act_110 (lv_at hl 1 rfl) ?_
    obtain ⟨y6, hq, hev⟩ := x_bd hev
    refine roS X (KK_at hKK hS hAb) hR (st1 := [.int y6]) (c_St_lifted l G x5 y6 hq) K_X6_lifted u759 (x_Psub hP [] rfl) (by decide) ⟨Nat.zero_le _, Nat.zero_le _⟩ rfl hl.1 rfl (Nat.le_of_ble_eq_true rfl) rfl dX10_act_112 ?_
    exact ret2 _ _ _ _ y6 y6 y5 y4 w2 w3 (Option.some.inj hev) dX10_act_115 (show narrow _ (.int y6) = .int y6 from rfl) hP hD hS
  unfold f_SS_act at hev
  refine lv_aload_n hx hb dX10_act_0 rfl (lv_at hl 0 rfl) ?_
  refine lv_iload_n hx hb dX10_act_1 rfl (lv_at hl 1 rfl) ?_
  refine lv_iload_n hx hb dX10_act_2 rfl (lv_at hl 2 rfl) ?_
  refine lv_iload_n hx hb dX10_act_3 rfl (lv_at hl 3 rfl) ?_
  obtain ⟨y7, hq, hev⟩ := x_bd hev
  refine roV X (KK_at hKK hS hAb) hR (st1 := [.int y7]) (c_SS_refusal l G aT aT_text aT_told aT_reader aT_rules aT_fromNow aT_whatIf aT_trials aT_undoable aT_keptStates aT_keptDeeds aT_row aT_princes aT_told_kinds aT_told_targets aT_told_wakes aT_told_terms aT_told_sorts aT_told_numbers vT_state vT_deeds vT_told_people vT_told_spells vT_told_day vT_told_broken p1 p2 p3 y7 hq) K_X10_refusal u718 (x_Psub hP [0, 1] rfl) rfl (q0 := 0) rfl (by decide) ⟨Nat.zero_le _, Nat.zero_le _⟩ rfl hl.1 rfl (Nat.le_of_ble_eq_true rfl) rfl dX10_act_4 ?_
  refine lv_istore (lv' := [(4, .int y7), (0, .ref aT), (1, .int p1), (2, .int p2), (3, .int p3)]) hx hb dX10_act_7 hl (by decide) rfl (fun ls hl => ?_)
  refine lv_iload hx hb dX10_act_9 (lv_at hl 0 rfl) ?_
  refine lv_if_eq (tgt := 17) hx hb dX10_act_11 (by decide) (fun c8 => ?_) (fun c8 => ?_)
  · replace hev := x_t c8 hev
    refine lv_aload_n hx hb dX10_act_17 rfl (lv_at hl 1 rfl) ?_
    refine va_get (D := G.1) (ci := 6) (v := .ref aT_rules) (C := RX10) (T := TX10) (N := 14) hx hb hts i10 hown hK hP 0 rfl rfl 3 (by decide) (hw _ u419) (fun _ h9 => h9) rfl dX10_act_18 ?_
    refine lv_aload_n hx hb dX10_act_21 rfl (lv_at hl 1 rfl) ?_
    refine va_get (D := G.1) (ci := 6) (v := .int vT_state) (C := RX10) (T := TX10) (N := 14) hx hb hts i10 hown hK hP 0 rfl rfl 12 (by decide) (hw _ u428) (fun _ h9 => h9) rfl dX10_act_22 ?_
    refine lv_aload_n hx hb dX10_act_25 rfl (lv_at hl 1 rfl) ?_
    refine va_get (D := G.1) (ci := 6) (v := .ref aT_rules) (C := RX10) (T := TX10) (N := 14) hx hb hts i10 hown hK hP 0 rfl rfl 3 (by decide) (hw _ u419) (fun _ h9 => h9) rfl dX10_act_26 ?_
    refine lv_iload_n hx hb dX10_act_29 rfl (lv_at hl 2 rfl) ?_
    refine lv_iload_n hx hb dX10_act_30 rfl (lv_at hl 3 rfl) ?_
    refine lv_iload_n hx hb dX10_act_31 rfl (lv_at hl 4 rfl) ?_
    obtain ⟨y9, hq, hev⟩ := x_bd hev
    refine roV X (KK_at hKK hS hAb) hR (st1 := [.int y9, .int vT_state, .ref aT_rules]) (c_Ru_deedOf l G aT_rules aT_rules_masks aT_rules_values aT_rules_askings aT_rules_kissesNeeded aT_rules_wakings aT_rules_binders aT_rules_curses aT_rules_doers aT_rules_sorts aT_rules_whichs aT_rules_bars aT_rules_bits aT_rules_kisses vT_rules_people vT_rules_spells vT_rules_deedCount fT_rules_doers fT_rules_whichs fT_rules_sorts k p1 p2 p3 y9 hq) K_X4_deedOf u726 (x_Psub hP [2, 4, 5, 6] rfl) rfl (q0 := 0) rfl (by decide) ⟨Nat.zero_le _, Nat.zero_le _⟩ rfl hl.1 rfl (Nat.le_of_ble_eq_true rfl) rfl dX10_act_32 ?_
    obtain ⟨y10, hq, hev⟩ := x_bd hev
    refine roV X (KK_at hKK hS hAb) hR (st1 := [.int y10]) (c_Ru_after l G aT_rules aT_rules_masks aT_rules_values aT_rules_askings aT_rules_kissesNeeded aT_rules_wakings aT_rules_binders aT_rules_curses aT_rules_doers aT_rules_sorts aT_rules_whichs aT_rules_bars aT_rules_bits aT_rules_kisses vT_rules_people vT_rules_spells vT_rules_deedCount fT_rules_bars fT_rules_sorts fT_rules_kisses fT_rules_masks fT_rules_values fT_rules_askings fT_rules_kissesNeeded fT_rules_wakings fT_rules_bits k vT_state y9 y10 hq) K_X4_after u730 (x_Psub hP [2, 7, 6, 8, 9, 10, 11, 12, 13, 14] rfl) rfl (q0 := 0) rfl (by decide) ⟨Nat.zero_le _, Nat.zero_le _⟩ rfl hl.1 rfl (Nat.le_of_ble_eq_true rfl) rfl dX10_act_35 ?_
    refine lv_istore (lv' := [(5, .int y10), (4, .int y7), (0, .ref aT), (1, .int p1), (2, .int p2), (3, .int p3)]) hx hb dX10_act_38 hl (by decide) rfl (fun ls hl => ?_)
    refine lv_iload hx hb dX10_act_40 (lv_at hl 0 rfl) ?_
    refine lv_iconst (v := (-1 : Int32)) hx hb dX10_act_42 (by decide) ?_
    refine lv_icmp_ne (tgt := 49) hx hb dX10_act_43 (by decide) (fun c11 => ?_) (fun c11 => ?_)
    · replace hev := x_f c11 hev
      refine lv_aload_n hx hb dX10_act_49 rfl (lv_at hl 2 rfl) ?_
      refine va_get (D := G.1) (ci := 6) (v := .int vT_deeds) (C := RX10) (T := TX10) (N := 14) hx hb hts i10 hown hK hP 0 rfl rfl 13 (by decide) (hw _ u429) (fun _ h9 => h9) rfl dX10_act_50 ?_
      refine lv_sipush (v := (9999 : Int32)) hx hb dX10_act_53 (by decide) ?_
      refine lv_icmp_lt (tgt := 62) hx hb dX10_act_56 (by decide) (fun c12 => ?_) (fun c12 => ?_)
      · replace hev := x_t c12 hev
        refine lv_aload_n hx hb dX10_act_62 rfl (lv_at hl 2 rfl) ?_
        refine va_get (D := G.1) (ci := 6) (v := .ref aT_undoable) (C := RX10) (T := TX10) (N := 14) hx hb hts i10 hown hK hP 0 rfl rfl 7 (by decide) (hw _ u423) (fun _ h9 => h9) rfl dX10_act_63 ?_
        obtain ⟨y13, hq, hev⟩ := x_bd hev
        refine roV X (KK_at hKK hS hAb) hR (st1 := [.int y13]) (c_Rw_isFull l G aT_undoable aT_undoable_items vT_undoable_size fT_undoable_items nT_undoable_items y13 hq) K_X3_isFull u743 (x_Psub hP [3, 15] rfl) rfl (q0 := 0) rfl (by decide) ⟨Nat.zero_le _, Nat.zero_le _⟩ rfl hl.1 rfl (Nat.le_of_ble_eq_true rfl) rfl dX10_act_66 ?_
        refine lv_if_eq (tgt := 79) hx hb dX10_act_69 (by decide) (fun c14 => ?_) (fun c14 => ?_)
        · replace hev := x_t c14 hev
          exact J79 vT_deeds vT_state vT_undoable_size fT_undoable_items y10 _ _ hP hD hS ls hev (lv_sub hl [2, 0] rfl)
        · replace hev := x_f c14 hev
          refine lv_aload_n hx hb dX10_act_72 rfl (lv_at hl 2 rfl) ?_
          refine va_get (D := G.1) (ci := 6) (v := .ref aT_undoable) (C := RX10) (T := TX10) (N := 14) hx hb hts i10 hown hK hP 0 rfl rfl 7 (by decide) (hw _ u423) (fun _ h9 => h9) rfl dX10_act_73 ?_
          obtain ⟨⟨w15, w16⟩, hq, hev⟩ := x_bd hev
          refine rgV X (KK_at hKK hS hAb) hR (st1 := []) (ws2 := [(aT, .inr (6, [.ref aT_text, .ref aT_told, .ref aT_reader, .ref aT_rules, .ref aT_fromNow, .ref aT_whatIf, .ref aT_trials, .ref aT_undoable, .ref aT_keptStates, .ref aT_keptDeeds, .ref aT_row, .ref aT_princes, .int vT_state, .int vT_deeds])), (aT_told, .inr (4, [.int vT_told_people, .int vT_told_spells, .int vT_told_day, .int vT_told_broken, .ref aT_told_kinds, .ref aT_told_targets, .ref aT_told_wakes, .ref aT_told_terms, .ref aT_told_sorts, .ref aT_told_numbers])), (aT_rules, .inr (2, [.int vT_rules_people, .int vT_rules_spells, .int vT_rules_deedCount, .ref aT_rules_masks, .ref aT_rules_values, .ref aT_rules_askings, .ref aT_rules_kissesNeeded, .ref aT_rules_wakings, .ref aT_rules_binders, .ref aT_rules_curses, .ref aT_rules_doers, .ref aT_rules_sorts, .ref aT_rules_whichs, .ref aT_rules_bars, .ref aT_rules_bits, .ref aT_rules_kisses])), (aT_undoable, .inr (1, [.ref aT_undoable_items, .int w15])), (aT_rules_doers, .inl (G.2.1, 19, .inl fT_rules_doers)), (aT_rules_whichs, .inl (G.2.1, 19, .inl fT_rules_whichs)), (aT_rules_sorts, .inl (G.2.1, 19, .inl fT_rules_sorts)), (aT_rules_bars, .inl (G.2.1, 19, .inl fT_rules_bars)), (aT_rules_kisses, .inl (G.2.1, 19, .inl fT_rules_kisses)), (aT_rules_masks, .inl (G.2.1, 5, .inl fT_rules_masks)), (aT_rules_values, .inl (G.2.1, 5, .inl fT_rules_values)), (aT_rules_askings, .inl (G.2.1, 5, .inl fT_rules_askings)), (aT_rules_kissesNeeded, .inl (G.2.1, 5, .inl fT_rules_kissesNeeded)), (aT_rules_wakings, .inl (G.2.1, 5, .inl fT_rules_wakings)), (aT_rules_bits, .inl (G.2.1, 19, .inl fT_rules_bits)), (aT_undoable_items, .inl (G.2.1, nT_undoable_items, .inl w16))]) (c_Rw_dropFirst l G aT_undoable aT_undoable_items vT_undoable_size fT_undoable_items nT_undoable_items k w15 w16 hq) K_X3_dropFirst u747 hP hD hS hA hAb [3, 15] rfl (sbC rfl (sbC rfl sb0)) (mgK (by decide) (mgK (by decide) (mgK (by decide) (mgN 0 rfl rfl (mgK (by decide) (mgK (by decide) (mgK (by decide) (mgK (by decide) (mgK (by decide) (mgK (by decide) (mgK (by decide) (mgK (by decide) (mgK (by decide) (mgK (by decide) (mgK (by decide) (mgN 1 rfl rfl (mg0))))))))))))))))) rfl (q0 := 0) rfl (by decide) ⟨Nat.zero_le _, Nat.zero_le _⟩ rfl hl.1 rfl (Nat.le_of_ble_eq_true rfl) rfl dX10_act_76 (fun H lo hP hD hS => ?_)
          exact J79 vT_deeds vT_state w15 w16 y10 _ _ hP hD hS ls hev (lv_sub hl [2, 0] rfl)
      · replace hev := x_f c12 hev
        refine lv_bipush (v := (-5 : Int32)) hx hb dX10_act_59 (by decide) ?_
        exact ret2 _ _ _ _ (-5 : Int32) (-5 : Int32) vT_deeds vT_state vT_undoable_size fT_undoable_items (Option.some.inj hev) dX10_act_61 (show narrow _ (.int (-5 : Int32)) = .int (-5 : Int32) from rfl) hP hD hS
    · replace hev := x_t c11 hev
      refine lv_bipush (v := (-4 : Int32)) hx hb dX10_act_46 (by decide) ?_
      exact ret2 _ _ _ _ (-4 : Int32) (-4 : Int32) vT_deeds vT_state vT_undoable_size fT_undoable_items (Option.some.inj hev) dX10_act_48 (show narrow _ (.int (-4 : Int32)) = .int (-4 : Int32) from rfl) hP hD hS
  · replace hev := x_f c8 hev
    refine lv_iload hx hb dX10_act_14 (lv_at hl 0 rfl) ?_
    exact ret2 _ _ _ _ y7 y7 vT_deeds vT_state vT_undoable_size fT_undoable_items (Option.some.inj hev) dX10_act_16 (show narrow _ (.int y7) = .int y7 from rfl) hP hD hS
def f_SS_undo (nT_undoable_items : Nat) (vT_deeds : Int32) (vT_state : Int32) (vT_undoable_size : Int32) (fT_undoable_items : Nat → Int32) : Option (Int32 × Int32 × Int32 × Int32) := x_B (f_Rw_size vT_undoable_size) (fun y1 => if y1 = 0 then (some ((-4 : Int32), vT_deeds, vT_state, vT_undoable_size)) else x_B (f_Rw_size vT_undoable_size) (fun y3 => x_B (f_Rw_at nT_undoable_items vT_undoable_size fT_undoable_items (y3 - (1 : Int32))) (fun y4 => x_B (f_Rw_dropLast vT_undoable_size) (fun w5 => x_L ((vT_deeds - (1 : Int32))) (fun y6 => x_B (f_Rw_size w5) (fun y7 => some (y7, y6, y4, w5)))))))
set_option maxHeartbeats 8000000 in
set_option maxRecDepth 100000 in
theorem c_SS_undo (l : Launch) (G : GG) (aT aT_text aT_told aT_reader aT_rules aT_fromNow aT_whatIf aT_trials aT_undoable aT_keptStates aT_keptDeeds aT_row aT_princes aT_undoable_items : Nat) (vT_state : Int32) (vT_deeds : Int32) (vT_undoable_size : Int32) (fT_undoable_items : Nat → Int32) (nT_undoable_items : Nat) (r0 : Int32) (wvT_deeds : Int32) (wvT_state : Int32) (wvT_undoable_size : Int32) (hev : f_SS_undo nT_undoable_items vT_deeds vT_state vT_undoable_size fT_undoable_items = some (r0, wvT_deeds, wvT_state, wvT_undoable_size)) : RW l G yX10_undo cX10_undo 1 (some .int) 2 [.ref aT] [(aT, .inr (6, [.ref aT_text, .ref aT_told, .ref aT_reader, .ref aT_rules, .ref aT_fromNow, .ref aT_whatIf, .ref aT_trials, .ref aT_undoable, .ref aT_keptStates, .ref aT_keptDeeds, .ref aT_row, .ref aT_princes, .int vT_state, .int vT_deeds])), (aT_undoable, .inr (1, [.ref aT_undoable_items, .int vT_undoable_size])), (aT_undoable_items, .inl (G.2.1, nT_undoable_items, .inl fT_undoable_items))] (some (.int r0)) [(aT, .inr (6, [.ref aT_text, .ref aT_told, .ref aT_reader, .ref aT_rules, .ref aT_fromNow, .ref aT_whatIf, .ref aT_trials, .ref aT_undoable, .ref aT_keptStates, .ref aT_keptDeeds, .ref aT_row, .ref aT_princes, .int wvT_state, .int wvT_deeds])), (aT_undoable, .inr (1, [.ref aT_undoable_items, .int wvT_undoable_size])), (aT_undoable_items, .inl (G.2.1, nT_undoable_items, .inl fT_undoable_items))] 0 0 := by
  refine RW_of (by decide) (Nat.le_of_ble_eq_true rfl) ?_
  intro p e s m ar below meth c R Q A ls X hR hRc hin hP hKK hD hS hA hAb hl ret
  obtain ⟨rs, hrs⟩ : ∃ q, q = (r0, wvT_deeds, wvT_state, wvT_undoable_size) := ⟨_, rfl⟩
  rw [← hrs] at hev
  have ret2 : ∀ (pc : Nat) (ls : Array Slot) (H : Heap) (lo : List Loc) (v r1 : Int32) (zvT_deeds : Int32) (zvT_state : Int32) (zvT_undoable_size : Int32), (r1, zvT_deeds, zvT_state, zvT_undoable_size) = rs → decode cX10_undo pc = .ok (.ireturn, 1) → narrow .int (.int v) = .int r1 → va_P G.1 classes [(aT, .inr (6, [.ref aT_text, .ref aT_told, .ref aT_reader, .ref aT_rules, .ref aT_fromNow, .ref aT_whatIf, .ref aT_trials, .ref aT_undoable, .ref aT_keptStates, .ref aT_keptDeeds, .ref aT_row, .ref aT_princes, .int zvT_state, .int zvT_deeds])), (aT_undoable, .inr (1, [.ref aT_undoable_items, .int zvT_undoable_size])), (aT_undoable_items, .inl (G.2.1, nT_undoable_items, .inl fT_undoable_items))] H → va_D A [(aT, .inr (6, [.ref aT_text, .ref aT_told, .ref aT_reader, .ref aT_rules, .ref aT_fromNow, .ref aT_whatIf, .ref aT_trials, .ref aT_undoable, .ref aT_keptStates, .ref aT_keptDeeds, .ref aT_row, .ref aT_princes, .int zvT_state, .int zvT_deeds])), (aT_undoable, .inr (1, [.ref aT_undoable_items, .int zvT_undoable_size])), (aT_undoable_items, .inl (G.2.1, nT_undoable_items, .inl fT_undoable_items))] → va_S A s.heap H lo → W p l e R s m ar below meth c H lo 0 0 Q (F0 m pc ls [.int v]) := by
    intro pc ls H lo v r1 zvT_deeds zvT_state zvT_undoable_size he hd hn h1 h2 h3
    have he := he.trans hrs
    cases he
    exact ret.1 _ _ _ _ _ _ _ rfl rfl hd hn h1 h2 h3
  clear ret hrs
  have hl : lv_has ls 1 [(0, .ref aT)] := hl
  obtain ⟨hx, hb, hml, hown, hts, hT⟩ := id X
  have hK := hKK.1
  have hw : ∀ w ∈ T0, w.before ar s = true := fun w h => hts w (hT w h)
  have i10 := fun w h => hT w (inT10 w h)
  unfold f_SS_undo at hev
  refine lv_aload_n hx hb dX10_undo_0 rfl (lv_at hl 0 rfl) ?_
  refine va_get (D := G.1) (ci := 6) (v := .ref aT_undoable) (C := RX10) (T := TX10) (N := 14) hx hb hts i10 hown hK hP 0 rfl rfl 7 (by decide) (hw _ u423) (fun _ h9 => h9) rfl dX10_undo_1 ?_
  obtain ⟨y1, hq, hev⟩ := x_bd hev
  refine roV X (KK_at hKK hS hAb) hR (st1 := [.int y1]) (c_Rw_size l G aT_undoable aT_undoable_items vT_undoable_size y1 hq) K_X3_size u467 (x_Psub hP [1] rfl) rfl (q0 := 0) rfl (by decide) ⟨Nat.zero_le _, Nat.zero_le _⟩ rfl hl.1 rfl (Nat.le_of_ble_eq_true rfl) rfl dX10_undo_4 ?_
  refine lv_if_ne (tgt := 13) hx hb dX10_undo_7 (by decide) (fun c2 => ?_) (fun c2 => ?_)
  · replace hev := x_f c2 hev
    refine lv_aload_n hx hb dX10_undo_13 rfl (lv_at hl 0 rfl) ?_
    refine lv_aload_n hx hb dX10_undo_14 rfl (lv_at hl 0 rfl) ?_
    refine va_get (D := G.1) (ci := 6) (v := .ref aT_undoable) (C := RX10) (T := TX10) (N := 14) hx hb hts i10 hown hK hP 0 rfl rfl 7 (by decide) (hw _ u423) (fun _ h9 => h9) rfl dX10_undo_15 ?_
    refine lv_aload_n hx hb dX10_undo_18 rfl (lv_at hl 0 rfl) ?_
    refine va_get (D := G.1) (ci := 6) (v := .ref aT_undoable) (C := RX10) (T := TX10) (N := 14) hx hb hts i10 hown hK hP 0 rfl rfl 7 (by decide) (hw _ u423) (fun _ h9 => h9) rfl dX10_undo_19 ?_
    obtain ⟨y3, hq, hev⟩ := x_bd hev
    refine roV X (KK_at hKK hS hAb) hR (st1 := [.int y3, .ref aT_undoable, .ref aT]) (c_Rw_size l G aT_undoable aT_undoable_items vT_undoable_size y3 hq) K_X3_size u467 (x_Psub hP [1] rfl) rfl (q0 := 0) rfl (by decide) ⟨Nat.zero_le _, Nat.zero_le _⟩ rfl hl.1 rfl (Nat.le_of_ble_eq_true rfl) rfl dX10_undo_22 ?_
    refine lv_iconst (v := (1 : Int32)) hx hb dX10_undo_25 (by decide) ?_
    refine lv_isub hx hb dX10_undo_26 ?_
    obtain ⟨y4, hq, hev⟩ := x_bd hev
    refine roV X (KK_at hKK hS hAb) hR (st1 := [.int y4, .ref aT]) (c_Rw_at l G aT_undoable aT_undoable_items vT_undoable_size fT_undoable_items nT_undoable_items (y3 - (1 : Int32)) y4 hq) K_X3_at u766 (x_Psub hP [1, 2] rfl) rfl (q0 := 0) rfl (by decide) ⟨Nat.zero_le _, Nat.zero_le _⟩ rfl hl.1 rfl (Nat.le_of_ble_eq_true rfl) rfl dX10_undo_27 ?_
    refine va_put (D := G.1) (ci := 6) (v := .int y4) (ty := .int) (C := RX10) (T := TX10) (N := 14) hx hb hts i10 tyX10 tyX10_ok nmX10 hown hK hP hD hS 0 rfl rfl 12 (by decide) (hw _ u428) (fun _ h9 => h9) rfl (by decide +kernel) rfl rfl (Nat.le_of_ble_eq_true rfl) dX10_undo_30 (fun H lo hP hD hS => ?_)
    refine lv_aload_n hx hb dX10_undo_33 rfl (lv_at hl 0 rfl) ?_
    refine va_get (D := G.1) (ci := 6) (v := .ref aT_undoable) (C := RX10) (T := TX10) (N := 14) hx hb hts i10 hown hK hP 0 rfl rfl 7 (by decide) (hw _ u423) (fun _ h9 => h9) rfl dX10_undo_34 ?_
    obtain ⟨w5, hq, hev⟩ := x_bd hev
    refine rwV X (KK_at hKK hS hAb) hR (st1 := []) (ws2 := [(aT, .inr (6, [.ref aT_text, .ref aT_told, .ref aT_reader, .ref aT_rules, .ref aT_fromNow, .ref aT_whatIf, .ref aT_trials, .ref aT_undoable, .ref aT_keptStates, .ref aT_keptDeeds, .ref aT_row, .ref aT_princes, .int y4, .int vT_deeds])), (aT_undoable, .inr (1, [.ref aT_undoable_items, .int w5])), (aT_undoable_items, .inl (G.2.1, nT_undoable_items, .inl fT_undoable_items))]) (c_Rw_dropLast l G aT_undoable aT_undoable_items vT_undoable_size w5 hq) K_X3_dropLast u767 hP hD hS hA hAb [1] rfl rfl rfl rfl rfl (q0 := 0) rfl (by decide) ⟨Nat.zero_le _, Nat.zero_le _⟩ rfl hl.1 rfl (Nat.le_of_ble_eq_true rfl) rfl dX10_undo_37 (fun H lo hP hD hS => ?_)
    refine lv_aload_n hx hb dX10_undo_40 rfl (lv_at hl 0 rfl) ?_
    refine lv_dup hx hb dX10_undo_41 rfl ?_
    refine va_get (D := G.1) (ci := 6) (v := .int vT_deeds) (C := RX10) (T := TX10) (N := 14) hx hb hts i10 hown hK hP 0 rfl rfl 13 (by decide) (hw _ u429) (fun _ h9 => h9) rfl dX10_undo_42 ?_
    refine lv_iconst (v := (1 : Int32)) hx hb dX10_undo_45 (by decide) ?_
    refine lv_isub hx hb dX10_undo_46 ?_
    refine lv_topi (fun y6 ey6 => ?_)
    replace hev := x_lt hev y6 ey6
    refine va_put (D := G.1) (ci := 6) (v := .int y6) (ty := .int) (C := RX10) (T := TX10) (N := 14) hx hb hts i10 tyX10 tyX10_ok nmX10 hown hK hP hD hS 0 rfl rfl 13 (by decide) (hw _ u429) (fun _ h9 => h9) rfl (by decide +kernel) rfl rfl (Nat.le_of_ble_eq_true rfl) dX10_undo_47 (fun H lo hP hD hS => ?_)
    refine lv_aload_n hx hb dX10_undo_50 rfl (lv_at hl 0 rfl) ?_
    refine va_get (D := G.1) (ci := 6) (v := .ref aT_undoable) (C := RX10) (T := TX10) (N := 14) hx hb hts i10 hown hK hP 0 rfl rfl 7 (by decide) (hw _ u423) (fun _ h9 => h9) rfl dX10_undo_51 ?_
    obtain ⟨y7, hq, hev⟩ := x_bd hev
    refine roV X (KK_at hKK hS hAb) hR (st1 := [.int y7]) (c_Rw_size l G aT_undoable aT_undoable_items w5 y7 hq) K_X3_size u467 (x_Psub hP [1] rfl) rfl (q0 := 0) rfl (by decide) ⟨Nat.zero_le _, Nat.zero_le _⟩ rfl hl.1 rfl (Nat.le_of_ble_eq_true rfl) rfl dX10_undo_54 ?_
    exact ret2 _ _ _ _ y7 y7 y6 y4 w5 (Option.some.inj hev) dX10_undo_57 (show narrow _ (.int y7) = .int y7 from rfl) hP hD hS
  · replace hev := x_t c2 hev
    refine lv_bipush (v := (-4 : Int32)) hx hb dX10_undo_10 (by decide) ?_
    exact ret2 _ _ _ _ (-4 : Int32) (-4 : Int32) vT_deeds vT_state vT_undoable_size (Option.some.inj hev) dX10_undo_12 (show narrow _ (.int (-4 : Int32)) = .int (-4 : Int32) from rfl) hP hD hS
