def f_SS_act_J79 (k : Nat) (nT_undoable_items : Nat) (vT_deeds : Int32) (vT_rules_deedCount : Int32) (vT_rules_spells : Int32) (vT_state : Int32) (vT_told_people : Int32) (vT_undoable_size : Int32) (fT_rules_askings : Nat → Int32) (fT_rules_bars : Nat → Int32) (fT_rules_bits : Nat → Int32) (fT_rules_doers : Nat → Int32) (fT_rules_kisses : Nat → Int32) (fT_rules_kissesNeeded : Nat → Int32) (fT_rules_masks : Nat → Int32) (fT_rules_sorts : Nat → Int32) (fT_rules_values : Nat → Int32) (fT_rules_wakings : Nat → Int32) (fT_rules_whichs : Nat → Int32) (fT_undoable_items : Nat → Int32) (x5 : Int32) : Option (Int32 × Int32 × Int32 × Int32 × (Nat → Int32)) := x_B (f_Rw_add nT_undoable_items vT_undoable_size fT_undoable_items vT_state) (fun ⟨y1, w2, w3⟩ => x_B (f_St_of x5) (fun y4 => x_L ((vT_deeds + (1 : Int32))) (fun y5 => x_B (f_St_lifted x5) (fun y6 => some (y6, y5, y4, w2, w3)))))
def f_SS_act (k : Nat) (nT_undoable_items : Nat) (vT_deeds : Int32) (vT_rules_deedCount : Int32) (vT_rules_spells : Int32) (vT_state : Int32) (vT_told_people : Int32) (vT_undoable_size : Int32) (fT_rules_askings : Nat → Int32) (fT_rules_bars : Nat → Int32) (fT_rules_bits : Nat → Int32) (fT_rules_doers : Nat → Int32) (fT_rules_kisses : Nat → Int32) (fT_rules_kissesNeeded : Nat → Int32) (fT_rules_masks : Nat → Int32) (fT_rules_sorts : Nat → Int32) (fT_rules_values : Nat → Int32) (fT_rules_wakings : Nat → Int32) (fT_rules_whichs : Nat → Int32) (fT_undoable_items : Nat → Int32) (p1 : Int32) (p2 : Int32) (p3 : Int32) : Option (Int32 × Int32 × Int32 × Int32 × (Nat → Int32)) := x_B (f_SS_refusal vT_told_people p1 p2 p3) (fun y7 => if y7 = 0 then (x_B (f_Ru_deedOf k vT_rules_deedCount fT_rules_doers fT_rules_sorts fT_rules_whichs p1 p2 p3) (fun y9 => x_B (f_Ru_after k vT_rules_deedCount vT_rules_spells fT_rules_askings fT_rules_bars fT_rules_bits fT_rules_kisses fT_rules_kissesNeeded fT_rules_masks fT_rules_sorts fT_rules_values fT_rules_wakings vT_state y9) (fun y10 => if y10 = (-1 : Int32) then (some ((-4 : Int32), vT_deeds, vT_state, vT_undoable_size, fT_undoable_items)) else if vT_deeds < (9999 : Int32) then (x_B (f_Rw_isFull nT_undoable_items vT_undoable_size) (fun y13 => if y13 = 0 then (f_SS_act_J79 k nT_undoable_items vT_deeds vT_rules_deedCount vT_rules_spells vT_state vT_told_people vT_undoable_size fT_rules_askings fT_rules_bars fT_rules_bits fT_rules_doers fT_rules_kisses fT_rules_kissesNeeded fT_rules_masks fT_rules_sorts fT_rules_values fT_rules_wakings fT_rules_whichs fT_undoable_items y10) else x_B (f_Rw_dropFirst k nT_undoable_items vT_undoable_size fT_undoable_items) (fun ⟨w15, w16⟩ => f_SS_act_J79 k nT_undoable_items vT_deeds vT_rules_deedCount vT_rules_spells vT_state vT_told_people w15 fT_rules_askings fT_rules_bars fT_rules_bits fT_rules_doers fT_rules_kisses fT_rules_kissesNeeded fT_rules_masks fT_rules_sorts fT_rules_values fT_rules_wakings fT_rules_whichs w16 y10))) else some ((-5 : Int32), vT_deeds, vT_state, vT_undoable_size, fT_undoable_items)))) else some (y7, vT_deeds, vT_state, vT_undoable_size, fT_undoable_items))
set_option maxHeartbeats 8000000 in
set_option maxRecDepth 100000 in
theorem c_SS_act (l : Launch) (G : GG) (aT aT_text aT_told aT_reader aT_rules aT_fromNow aT_whatIf aT_trials aT_undoable aT_keptStates aT_keptDeeds aT_row aT_princes aT_told_kinds aT_told_targets aT_told_wakes aT_told_terms aT_told_sorts aT_told_numbers aT_rules_masks aT_rules_values aT_rules_askings aT_rules_kissesNeeded aT_rules_wakings aT_rules_binders aT_rules_curses aT_rules_doers aT_rules_sorts aT_rules_whichs aT_rules_bars aT_rules_bits aT_rules_kisses aT_undoable_items : Nat) (vT_state : Int32) (vT_deeds : Int32) (vT_told_people : Int32) (vT_told_spells : Int32) (vT_told_day : Int32) (vT_told_broken : Int32) (vT_rules_people : Int32) (vT_rules_spells : Int32) (vT_rules_deedCount : Int32) (vT_undoable_size : Int32) (fT_rules_doers : Nat → Int32) (fT_rules_whichs : Nat → Int32) (fT_rules_sorts : Nat → Int32) (fT_rules_bars : Nat → Int32) (fT_rules_kisses : Nat → Int32) (fT_rules_masks : Nat → Int32) (fT_rules_values : Nat → Int32) (fT_rules_askings : Nat → Int32) (fT_rules_kissesNeeded : Nat → Int32) (fT_rules_wakings : Nat → Int32) (fT_rules_bits : Nat → Int32) (fT_undoable_items : Nat → Int32) (nT_undoable_items : Nat) (k : Nat) (p1 : Int32) (p2 : Int32) (p3 : Int32) (r0 : Int32) (wvT_deeds : Int32) (wvT_state : Int32) (wvT_undoable_size : Int32) (wfT_undoable_items : Nat → Int32) (hev : f_SS_act k nT_undoable_items vT_deeds vT_rules_deedCount vT_rules_spells vT_state vT_told_people vT_undoable_size fT_rules_askings fT_rules_bars fT_rules_bits fT_rules_doers fT_rules_kisses fT_rules_kissesNeeded fT_rules_masks fT_rules_sorts fT_rules_values fT_rules_wakings fT_rules_whichs fT_undoable_items p1 p2 p3 = some (r0, wvT_deeds, wvT_state, wvT_undoable_size, wfT_undoable_items)) : RW l G yX10_act cX10_act 6 (some .int) 3 [.ref aT, .int p1, .int p2, .int p3] [(aT, .inr (6, [.ref aT_text, .ref aT_told, .ref aT_reader, .ref aT_rules, .ref aT_fromNow, .ref aT_whatIf, .ref aT_trials, .ref aT_undoable, .ref aT_keptStates, .ref aT_keptDeeds, .ref aT_row, .ref aT_princes, .int vT_state, .int vT_deeds])), (aT_told, .inr (4, [.int vT_told_people, .int vT_told_spells, .int vT_told_day, .int vT_told_broken, .ref aT_told_kinds, .ref aT_told_targets, .ref aT_told_wakes, .ref aT_told_terms, .ref aT_told_sorts, .ref aT_told_numbers])), (aT_rules, .inr (2, [.int vT_rules_people, .int vT_rules_spells, .int vT_rules_deedCount, .ref aT_rules_masks, .ref aT_rules_values, .ref aT_rules_askings, .ref aT_rules_kissesNeeded, .ref aT_rules_wakings, .ref aT_rules_binders, .ref aT_rules_curses, .ref aT_rules_doers, .ref aT_rules_sorts, .ref aT_rules_whichs, .ref aT_rules_bars, .ref aT_rules_bits, .ref aT_rules_kisses])), (aT_undoable, .inr (1, [.ref aT_undoable_items, .int vT_undoable_size])), (aT_rules_doers, .inl (G.2.1, 19, .inl fT_rules_doers)), (aT_rules_whichs, .inl (G.2.1, 19, .inl fT_rules_whichs)), (aT_rules_sorts, .inl (G.2.1, 19, .inl fT_rules_sorts)), (aT_rules_bars, .inl (G.2.1, 19, .inl fT_rules_bars)), (aT_rules_kisses, .inl (G.2.1, 19, .inl fT_rules_kisses)), (aT_rules_masks, .inl (G.2.1, 5, .inl fT_rules_masks)), (aT_rules_values, .inl (G.2.1, 5, .inl fT_rules_values)), (aT_rules_askings, .inl (G.2.1, 5, .inl fT_rules_askings)), (aT_rules_kissesNeeded, .inl (G.2.1, 5, .inl fT_rules_kissesNeeded)), (aT_rules_wakings, .inl (G.2.1, 5, .inl fT_rules_wakings)), (aT_rules_bits, .inl (G.2.1, 19, .inl fT_rules_bits)), (aT_undoable_items, .inl (G.2.1, nT_undoable_items, .inl fT_undoable_items))] (some (.int r0)) [(aT, .inr (6, [.ref aT_text, .ref aT_told, .ref aT_reader, .ref aT_rules, .ref aT_fromNow, .ref aT_whatIf, .ref aT_trials, .ref aT_undoable, .ref aT_keptStates, .ref aT_keptDeeds, .ref aT_row, .ref aT_princes, .int wvT_state, .int wvT_deeds])), (aT_told, .inr (4, [.int vT_told_people, .int vT_told_spells, .int vT_told_day, .int vT_told_broken, .ref aT_told_kinds, .ref aT_told_targets, .ref aT_told_wakes, .ref aT_told_terms, .ref aT_told_sorts, .ref aT_told_numbers])), (aT_rules, .inr (2, [.int vT_rules_people, .int vT_rules_spells, .int vT_rules_deedCount, .ref aT_rules_masks, .ref aT_rules_values, .ref aT_rules_askings, .ref aT_rules_kissesNeeded, .ref aT_rules_wakings, .ref aT_rules_binders, .ref aT_rules_curses, .ref aT_rules_doers, .ref aT_rules_sorts, .ref aT_rules_whichs, .ref aT_rules_bars, .ref aT_rules_bits, .ref aT_rules_kisses])), (aT_undoable, .inr (1, [.ref aT_undoable_items, .int wvT_undoable_size])), (aT_rules_doers, .inl (G.2.1, 19, .inl fT_rules_doers)), (aT_rules_whichs, .inl (G.2.1, 19, .inl fT_rules_whichs)), (aT_rules_sorts, .inl (G.2.1, 19, .inl fT_rules_sorts)), (aT_rules_bars, .inl (G.2.1, 19, .inl fT_rules_bars)), (aT_rules_kisses, .inl (G.2.1, 19, .inl fT_rules_kisses)), (aT_rules_masks, .inl (G.2.1, 5, .inl fT_rules_masks)), (aT_rules_values, .inl (G.2.1, 5, .inl fT_rules_values)), (aT_rules_askings, .inl (G.2.1, 5, .inl fT_rules_askings)), (aT_rules_kissesNeeded, .inl (G.2.1, 5, .inl fT_rules_kissesNeeded)), (aT_rules_wakings, .inl (G.2.1, 5, .inl fT_rules_wakings)), (aT_rules_bits, .inl (G.2.1, 19, .inl fT_rules_bits)), (aT_undoable_items, .inl (G.2.1, nT_undoable_items, .inl wfT_undoable_items))] 0 0 := by
  refine RW_of (by decide) (Nat.le_of_ble_eq_true rfl) ?_
  intro p e s m ar below meth c R Q A ls X hR hRc hin hP hKK hD hS hA hAb hl ret
  obtain ⟨rs, hrs⟩ : ∃ q, q = (r0, wvT_deeds, wvT_state, wvT_undoable_size, wfT_undoable_items) := ⟨_, rfl⟩
  rw [← hrs] at hev
  have ret2 : ∀ (pc : Nat) (ls : Array Slot) (H : Heap) (lo : List Loc) (v r1 : Int32) (zvT_deeds : Int32) (zvT_state : Int32) (zvT_undoable_size : Int32) (zfT_undoable_items : Nat → Int32), (r1, zvT_deeds, zvT_state, zvT_undoable_size, zfT_undoable_items) = rs → decode cX10_act pc = .ok (.ireturn, 1) → narrow .int (.int v) = .int r1 → va_P G.1 classes [(aT, .inr (6, [.ref aT_text, .ref aT_told, .ref aT_reader, .ref aT_rules, .ref aT_fromNow, .ref aT_whatIf, .ref aT_trials, .ref aT_undoable, .ref aT_keptStates, .ref aT_keptDeeds, .ref aT_row, .ref aT_princes, .int zvT_state, .int zvT_deeds])), (aT_told, .inr (4, [.int vT_told_people, .int vT_told_spells, .int vT_told_day, .int vT_told_broken, .ref aT_told_kinds, .ref aT_told_targets, .ref aT_told_wakes, .ref aT_told_terms, .ref aT_told_sorts, .ref aT_told_numbers])), (aT_rules, .inr (2, [.int vT_rules_people, .int vT_rules_spells, .int vT_rules_deedCount, .ref aT_rules_masks, .ref aT_rules_values, .ref aT_rules_askings, .ref aT_rules_kissesNeeded, .ref aT_rules_wakings, .ref aT_rules_binders, .ref aT_rules_curses, .ref aT_rules_doers, .ref aT_rules_sorts, .ref aT_rules_whichs, .ref aT_rules_bars, .ref aT_rules_bits, .ref aT_rules_kisses])), (aT_undoable, .inr (1, [.ref aT_undoable_items, .int zvT_undoable_size])), (aT_rules_doers, .inl (G.2.1, 19, .inl fT_rules_doers)), (aT_rules_whichs, .inl (G.2.1, 19, .inl fT_rules_whichs)), (aT_rules_sorts, .inl (G.2.1, 19, .inl fT_rules_sorts)), (aT_rules_bars, .inl (G.2.1, 19, .inl fT_rules_bars)), (aT_rules_kisses, .inl (G.2.1, 19, .inl fT_rules_kisses)), (aT_rules_masks, .inl (G.2.1, 5, .inl fT_rules_masks)), (aT_rules_values, .inl (G.2.1, 5, .inl fT_rules_values)), (aT_rules_askings, .inl (G.2.1, 5, .inl fT_rules_askings)), (aT_rules_kissesNeeded, .inl (G.2.1, 5, .inl fT_rules_kissesNeeded)), (aT_rules_wakings, .inl (G.2.1, 5, .inl fT_rules_wakings)), (aT_rules_bits, .inl (G.2.1, 19, .inl fT_rules_bits)), (aT_undoable_items, .inl (G.2.1, nT_undoable_items, .inl zfT_undoable_items))] H → va_D A [(aT, .inr (6, [.ref aT_text, .ref aT_told, .ref aT_reader, .ref aT_rules, .ref aT_fromNow, .ref aT_whatIf, .ref aT_trials, .ref aT_undoable, .ref aT_keptStates, .ref aT_keptDeeds, .ref aT_row, .ref aT_princes, .int zvT_state, .int zvT_deeds])), (aT_told, .inr (4, [.int vT_told_people, .int vT_told_spells, .int vT_told_day, .int vT_told_broken, .ref aT_told_kinds, .ref aT_told_targets, .ref aT_told_wakes, .ref aT_told_terms, .ref aT_told_sorts, .ref aT_told_numbers])), (aT_rules, .inr (2, [.int vT_rules_people, .int vT_rules_spells, .int vT_rules_deedCount, .ref aT_rules_masks, .ref aT_rules_values, .ref aT_rules_askings, .ref aT_rules_kissesNeeded, .ref aT_rules_wakings, .ref aT_rules_binders, .ref aT_rules_curses, .ref aT_rules_doers, .ref aT_rules_sorts, .ref aT_rules_whichs, .ref aT_rules_bars, .ref aT_rules_bits, .ref aT_rules_kisses])), (aT_undoable, .inr (1, [.ref aT_undoable_items, .int zvT_undoable_size])), (aT_rules_doers, .inl (G.2.1, 19, .inl fT_rules_doers)), (aT_rules_whichs, .inl (G.2.1, 19, .inl fT_rules_whichs)), (aT_rules_sorts, .inl (G.2.1, 19, .inl fT_rules_sorts)), (aT_rules_bars, .inl (G.2.1, 19, .inl fT_rules_bars)), (aT_rules_kisses, .inl (G.2.1, 19, .inl fT_rules_kisses)), (aT_rules_masks, .inl (G.2.1, 5, .inl fT_rules_masks)), (aT_rules_values, .inl (G.2.1, 5, .inl fT_rules_values)), (aT_rules_askings, .inl (G.2.1, 5, .inl fT_rules_askings)), (aT_rules_kissesNeeded, .inl (G.2.1, 5, .inl fT_rules_kissesNeeded)), (aT_rules_wakings, .inl (G.2.1, 5, .inl fT_rules_wakings)), (aT_rules_bits, .inl (G.2.1, 19, .inl fT_rules_bits)), (aT_undoable_items, .inl (G.2.1, nT_undoable_items, .inl zfT_undoable_items))] → va_S A s.heap H lo → W p l e R s m ar below meth c H lo 0 0 Q (F0 m pc ls [.int v]) := by
    intro pc ls H lo v r1 zvT_deeds zvT_state zvT_undoable_size zfT_undoable_items he hd hn h1 h2 h3
    have he := he.trans hrs
    cases he
    exact ret.1 _ _ _ _ _ _ _ rfl rfl hd hn h1 h2 h3
  clear ret hrs
  have hl : lv_has ls 6 [(0, .ref aT), (1, .int p1), (2, .int p2), (3, .int p3)] := hl
  obtain ⟨hx, hb, hml, hown, hts, hT⟩ := id X
  have hK := hKK.1
  have hw : ∀ w ∈ T0, w.before ar s = true := fun w h => hts w (hT w h)
  have i10 := fun w h => hT w (inT10 w h)
  have J79 : ∀ (vT_deeds : Int32) (vT_state : Int32) (vT_undoable_size : Int32) (fT_undoable_items : Nat → Int32) (x5 : Int32), ∀ (H : Heap) (lo : List Loc), va_P G.1 classes [(aT, .inr (6, [.ref aT_text, .ref aT_told, .ref aT_reader, .ref aT_rules, .ref aT_fromNow, .ref aT_whatIf, .ref aT_trials, .ref aT_undoable, .ref aT_keptStates, .ref aT_keptDeeds, .ref aT_row, .ref aT_princes, .int vT_state, .int vT_deeds])), (aT_told, .inr (4, [.int vT_told_people, .int vT_told_spells, .int vT_told_day, .int vT_told_broken, .ref aT_told_kinds, .ref aT_told_targets, .ref aT_told_wakes, .ref aT_told_terms, .ref aT_told_sorts, .ref aT_told_numbers])), (aT_rules, .inr (2, [.int vT_rules_people, .int vT_rules_spells, .int vT_rules_deedCount, .ref aT_rules_masks, .ref aT_rules_values, .ref aT_rules_askings, .ref aT_rules_kissesNeeded, .ref aT_rules_wakings, .ref aT_rules_binders, .ref aT_rules_curses, .ref aT_rules_doers, .ref aT_rules_sorts, .ref aT_rules_whichs, .ref aT_rules_bars, .ref aT_rules_bits, .ref aT_rules_kisses])), (aT_undoable, .inr (1, [.ref aT_undoable_items, .int vT_undoable_size])), (aT_rules_doers, .inl (G.2.1, 19, .inl fT_rules_doers)), (aT_rules_whichs, .inl (G.2.1, 19, .inl fT_rules_whichs)), (aT_rules_sorts, .inl (G.2.1, 19, .inl fT_rules_sorts)), (aT_rules_bars, .inl (G.2.1, 19, .inl fT_rules_bars)), (aT_rules_kisses, .inl (G.2.1, 19, .inl fT_rules_kisses)), (aT_rules_masks, .inl (G.2.1, 5, .inl fT_rules_masks)), (aT_rules_values, .inl (G.2.1, 5, .inl fT_rules_values)), (aT_rules_askings, .inl (G.2.1, 5, .inl fT_rules_askings)), (aT_rules_kissesNeeded, .inl (G.2.1, 5, .inl fT_rules_kissesNeeded)), (aT_rules_wakings, .inl (G.2.1, 5, .inl fT_rules_wakings)), (aT_rules_bits, .inl (G.2.1, 19, .inl fT_rules_bits)), (aT_undoable_items, .inl (G.2.1, nT_undoable_items, .inl fT_undoable_items))] H → va_D A [(aT, .inr (6, [.ref aT_text, .ref aT_told, .ref aT_reader, .ref aT_rules, .ref aT_fromNow, .ref aT_whatIf, .ref aT_trials, .ref aT_undoable, .ref aT_keptStates, .ref aT_keptDeeds, .ref aT_row, .ref aT_princes, .int vT_state, .int vT_deeds])), (aT_told, .inr (4, [.int vT_told_people, .int vT_told_spells, .int vT_told_day, .int vT_told_broken, .ref aT_told_kinds, .ref aT_told_targets, .ref aT_told_wakes, .ref aT_told_terms, .ref aT_told_sorts, .ref aT_told_numbers])), (aT_rules, .inr (2, [.int vT_rules_people, .int vT_rules_spells, .int vT_rules_deedCount, .ref aT_rules_masks, .ref aT_rules_values, .ref aT_rules_askings, .ref aT_rules_kissesNeeded, .ref aT_rules_wakings, .ref aT_rules_binders, .ref aT_rules_curses, .ref aT_rules_doers, .ref aT_rules_sorts, .ref aT_rules_whichs, .ref aT_rules_bars, .ref aT_rules_bits, .ref aT_rules_kisses])), (aT_undoable, .inr (1, [.ref aT_undoable_items, .int vT_undoable_size])), (aT_rules_doers, .inl (G.2.1, 19, .inl fT_rules_doers)), (aT_rules_whichs, .inl (G.2.1, 19, .inl fT_rules_whichs)), (aT_rules_sorts, .inl (G.2.1, 19, .inl fT_rules_sorts)), (aT_rules_bars, .inl (G.2.1, 19, .inl fT_rules_bars)), (aT_rules_kisses, .inl (G.2.1, 19, .inl fT_rules_kisses)), (aT_rules_masks, .inl (G.2.1, 5, .inl fT_rules_masks)), (aT_rules_values, .inl (G.2.1, 5, .inl fT_rules_values)), (aT_rules_askings, .inl (G.2.1, 5, .inl fT_rules_askings)), (aT_rules_kissesNeeded, .inl (G.2.1, 5, .inl fT_rules_kissesNeeded)), (aT_rules_wakings, .inl (G.2.1, 5, .inl fT_rules_wakings)), (aT_rules_bits, .inl (G.2.1, 19, .inl fT_rules_bits)), (aT_undoable_items, .inl (G.2.1, nT_undoable_items, .inl fT_undoable_items))] → va_S A s.heap H lo → ∀ (ls : Array Slot), f_SS_act_J79 k nT_undoable_items vT_deeds vT_rules_deedCount vT_rules_spells vT_state vT_told_people vT_undoable_size fT_rules_askings fT_rules_bars fT_rules_bits fT_rules_doers fT_rules_kisses fT_rules_kissesNeeded fT_rules_masks fT_rules_sorts fT_rules_values fT_rules_wakings fT_rules_whichs fT_undoable_items x5 = some rs → lv_has ls 6 [(0, .ref aT), (5, .int x5)] → W p l e R s m ar below meth c H lo 0 0 Q (F0 m 79 ls []) := by
    intro vT_deeds vT_state vT_undoable_size fT_undoable_items x5 H lo hP hD hS ls hev hl
    unfold f_SS_act_J79 at hev
    refine lv_aload_n hx hb dX10_act_79 rfl (lv_at hl 0 rfl) ?_
    refine va_get (D := G.1) (ci := 6) (v := .ref aT_undoable) (C := RX10) (T := TX10) (N := 14) hx hb hts i10 hown hK hP 0 rfl rfl 7 (by decide) (hw _ u423) (fun _ h9 => h9) rfl dX10_act_80 ?_
    refine lv_aload_n hx hb dX10_act_83 rfl (lv_at hl 0 rfl) ?_
    refine va_get (D := G.1) (ci := 6) (v := .int vT_state) (C := RX10) (T := TX10) (N := 14) hx hb hts i10 hown hK hP 0 rfl rfl 12 (by decide) (hw _ u428) (fun _ h9 => h9) rfl dX10_act_84 ?_
    obtain ⟨⟨y1, w2, w3⟩, hq, hev⟩ := x_bd hev
    refine rgV X (KK_at hKK hS hAb) hR (st1 := [.int y1]) (ws2 := [(aT, .inr (6, [.ref aT_text, .ref aT_told, .ref aT_reader, .ref aT_rules, .ref aT_fromNow, .ref aT_whatIf, .ref aT_trials, .ref aT_undoable, .ref aT_keptStates, .ref aT_keptDeeds, .ref aT_row, .ref aT_princes, .int vT_state, .int vT_deeds])), (aT_told, .inr (4, [.int vT_told_people, .int vT_told_spells, .int vT_told_day, .int vT_told_broken, .ref aT_told_kinds, .ref aT_told_targets, .ref aT_told_wakes, .ref aT_told_terms, .ref aT_told_sorts, .ref aT_told_numbers])), (aT_rules, .inr (2, [.int vT_rules_people, .int vT_rules_spells, .int vT_rules_deedCount, .ref aT_rules_masks, .ref aT_rules_values, .ref aT_rules_askings, .ref aT_rules_kissesNeeded, .ref aT_rules_wakings, .ref aT_rules_binders, .ref aT_rules_curses, .ref aT_rules_doers, .ref aT_rules_sorts, .ref aT_rules_whichs, .ref aT_rules_bars, .ref aT_rules_bits, .ref aT_rules_kisses])), (aT_undoable, .inr (1, [.ref aT_undoable_items, .int w2])), (aT_rules_doers, .inl (G.2.1, 19, .inl fT_rules_doers)), (aT_rules_whichs, .inl (G.2.1, 19, .inl fT_rules_whichs)), (aT_rules_sorts, .inl (G.2.1, 19, .inl fT_rules_sorts)), (aT_rules_bars, .inl (G.2.1, 19, .inl fT_rules_bars)), (aT_rules_kisses, .inl (G.2.1, 19, .inl fT_rules_kisses)), (aT_rules_masks, .inl (G.2.1, 5, .inl fT_rules_masks)), (aT_rules_values, .inl (G.2.1, 5, .inl fT_rules_values)), (aT_rules_askings, .inl (G.2.1, 5, .inl fT_rules_askings)), (aT_rules_kissesNeeded, .inl (G.2.1, 5, .inl fT_rules_kissesNeeded)), (aT_rules_wakings, .inl (G.2.1, 5, .inl fT_rules_wakings)), (aT_rules_bits, .inl (G.2.1, 19, .inl fT_rules_bits)), (aT_undoable_items, .inl (G.2.1, nT_undoable_items, .inl w3))]) (c_Rw_add l G aT_undoable aT_undoable_items vT_undoable_size fT_undoable_items nT_undoable_items vT_state y1 w2 w3 hq) K_X3_add u463 hP hD hS hA hAb [3, 15] rfl (sbC rfl (sbC rfl sb0)) (mgK (by decide) (mgK (by decide) (mgK (by decide) (mgN 0 rfl rfl (mgK (by decide) (mgK (by decide) (mgK (by decide) (mgK (by decide) (mgK (by decide) (mgK (by decide) (mgK (by decide) (mgK (by decide) (mgK (by decide) (mgK (by decide) (mgK (by decide) (mgN 1 rfl rfl (mg0))))))))))))))))) rfl (q0 := 0) rfl (by decide) ⟨Nat.zero_le _, Nat.zero_le _⟩ rfl hl.1 rfl (Nat.le_of_ble_eq_true rfl) rfl dX10_act_87 (fun H lo hP hD hS => ?_)
    refine lv_pop hx hb dX10_act_90 rfl ?_
    refine lv_aload_n hx hb dX10_act_91 rfl (lv_at hl 0 rfl) ?_
    refine lv_iload hx hb dX10_act_92 (lv_at hl 1 rfl) ?_
    obtain ⟨y4, hq, hev⟩ := x_bd hev
    refine roS X (KK_at hKK hS hAb) hR (st1 := [.int y4, .ref aT]) (c_St_of l G x5 y4 hq) K_X6_of u755 (x_Psub hP [] rfl) (by decide) ⟨Nat.zero_le _, Nat.zero_le _⟩ rfl hl.1 rfl (Nat.le_of_ble_eq_true rfl) rfl dX10_act_94 ?_
    refine va_put (D := G.1) (ci := 6) (v := .int y4) (ty := .int) (C := RX10) (T := TX10) (N := 14) hx hb hts i10 tyX10 tyX10_ok nmX10 hown hK hP hD hS 0 rfl rfl 12 (by decide) (hw _ u428) (fun _ h9 => h9) rfl (by decide +kernel) rfl rfl (Nat.le_of_ble_eq_true rfl) dX10_act_97 (fun H lo hP hD hS => ?_)
    refine lv_aload_n hx hb dX10_act_100 rfl (lv_at hl 0 rfl) ?_
    refine lv_dup hx hb dX10_act_101 rfl ?_
    refine va_get (D := G.1) (ci := 6) (v := .int vT_deeds) (C := RX10) (T := TX10) (N := 14) hx hb hts i10 hown hK hP 0 rfl rfl 13 (by decide) (hw _ u429) (fun _ h9 => h9) rfl dX10_act_102 ?_
    refine lv_iconst (v := (1 : Int32)) hx hb dX10_act_105 (by decide) ?_
    refine lv_iadd hx hb dX10_act_106 ?_
    refine lv_topi (fun y5 ey5 => ?_)
    replace hev := x_lt hev y5 ey5
    refine va_put (D := G.1) (ci := 6) (v := .int y5) (ty := .int) (C := RX10) (T := TX10) (N := 14) hx hb hts i10 tyX10 tyX10_ok nmX10 hown hK hP hD hS 0 rfl rfl 13 (by decide) (hw _ u429) (fun _ h9 => h9) rfl (by decide +kernel) rfl rfl (Nat.le_of_ble_eq_true rfl) dX10_act_107 (fun H lo hP hD hS => ?_)
    refine lv_iload hx hb dX10_act_110 (lv_at hl 1 rfl) ?_
    obtain ⟨y6, hq, hev⟩ := x_bd hev
    refine roS X (KK_at hKK hS hAb) hR (st1 := [.int y6]) (c_St_lifted l G x5 y6 hq) K_X6_lifted u759 (x_Psub hP [] rfl) (by decide) ⟨Nat.zero_le _, Nat.zero_le _⟩ rfl hl.1 rfl (Nat.le_of_ble_eq_true rfl) rfl dX10_act_112 ?_
    exact ret2 _ _ _ _ y6 y6 y5 y4 w2 w3 (Option.some.inj hev) dX10_act_115 (show narrow _ (.int y6) = .int y6 from rfl) hP hD hS
  unfold f_SS_act at hev
  refine lv_aload_n hx hb dX10_act_0 rfl (lv_at hl 0 rfl) ?_
  refine lv_iload_n hx hb dX10_act_1 rfl (lv_at hl 1 rfl) ?_
  refine lv_iload_n hx hb dX10_act_2 rfl (lv_at hl 2 rfl) ?_
  refine lv_iload_n hx hb dX10_act_3 rfl (lv_at hl 3 rfl) ?_
  obtain ⟨y7, hq, hev⟩ := x_bd hev
  refine roV X (KK_at hKK hS hAb) hR (st1 := [.int y7]) (c_SS_refusal l G aT aT_text aT_told aT_reader aT_rules aT_fromNow aT_whatIf aT_trials aT_undoable aT_keptStates aT_keptDeeds aT_row aT_princes aT_told_kinds aT_told_targets aT_told_wakes aT_told_terms aT_told_sorts aT_told_numbers vT_state vT_deeds vT_told_people vT_told_spells vT_told_day vT_told_broken p1 p2 p3 y7 hq) K_X10_refusal u718 (x_Psub hP [0, 1] rfl) rfl (q0 := 0) rfl (by decide) ⟨Nat.zero_le _, Nat.zero_le _⟩ rfl hl.1 rfl (Nat.le_of_ble_eq_true rfl) rfl dX10_act_4 ?_
  refine lv_istore (lv' := [(4, .int y7), (0, .ref aT), (1, .int p1), (2, .int p2), (3, .int p3)]) hx hb dX10_act_7 hl (by decide) rfl (fun ls hl => ?_)
  refine lv_iload hx hb dX10_act_9 (lv_at hl 0 rfl) ?_
  refine lv_if_eq (tgt := 17) hx hb dX10_act_11 (by decide) (fun c8 => ?_) (fun c8 => ?_)
  · replace hev := x_t c8 hev
    refine lv_aload_n hx hb dX10_act_17 rfl (lv_at hl 1 rfl) ?_
    refine va_get (D := G.1) (ci := 6) (v := .ref aT_rules) (C := RX10) (T := TX10) (N := 14) hx hb hts i10 hown hK hP 0 rfl rfl 3 (by decide) (hw _ u419) (fun _ h9 => h9) rfl dX10_act_18 ?_
    refine lv_aload_n hx hb dX10_act_21 rfl (lv_at hl 1 rfl) ?_
    refine va_get (D := G.1) (ci := 6) (v := .int vT_state) (C := RX10) (T := TX10) (N := 14) hx hb hts i10 hown hK hP 0 rfl rfl 12 (by decide) (hw _ u428) (fun _ h9 => h9) rfl dX10_act_22 ?_
    refine lv_aload_n hx hb dX10_act_25 rfl (lv_at hl 1 rfl) ?_
    refine va_get (D := G.1) (ci := 6) (v := .ref aT_rules) (C := RX10) (T := TX10) (N := 14) hx hb hts i10 hown hK hP 0 rfl rfl 3 (by decide) (hw _ u419) (fun _ h9 => h9) rfl dX10_act_26 ?_
    refine lv_iload_n hx hb dX10_act_29 rfl (lv_at hl 2 rfl) ?_
    refine lv_iload_n hx hb dX10_act_30 rfl (lv_at hl 3 rfl) ?_
    refine lv_iload_n hx hb dX10_act_31 rfl (lv_at hl 4 rfl) ?_
    obtain ⟨y9, hq, hev⟩ := x_bd hev
    refine roV X (KK_at hKK hS hAb) hR (st1 := [.int y9, .int vT_state, .ref aT_rules]) (c_Ru_deedOf l G aT_rules aT_rules_masks aT_rules_values aT_rules_askings aT_rules_kissesNeeded aT_rules_wakings aT_rules_binders aT_rules_curses aT_rules_doers aT_rules_sorts aT_rules_whichs aT_rules_bars aT_rules_bits aT_rules_kisses vT_rules_people vT_rules_spells vT_rules_deedCount fT_rules_doers fT_rules_whichs fT_rules_sorts k p1 p2 p3 y9 hq) K_X4_deedOf u726 (x_Psub hP [2, 4, 5, 6] rfl) rfl (q0 := 0) rfl (by decide) ⟨Nat.zero_le _, Nat.zero_le _⟩ rfl hl.1 rfl (Nat.le_of_ble_eq_true rfl) rfl dX10_act_32 ?_
    obtain ⟨y10, hq, hev⟩ := x_bd hev
    refine roV X (KK_at hKK hS hAb) hR (st1 := [.int y10]) (c_Ru_after l G aT_rules aT_rules_masks aT_rules_values aT_rules_askings aT_rules_kissesNeeded aT_rules_wakings aT_rules_binders aT_rules_curses aT_rules_doers aT_rules_sorts aT_rules_whichs aT_rules_bars aT_rules_bits aT_rules_kisses vT_rules_people vT_rules_spells vT_rules_deedCount fT_rules_bars fT_rules_sorts fT_rules_kisses fT_rules_masks fT_rules_values fT_rules_askings fT_rules_kissesNeeded fT_rules_wakings fT_rules_bits k vT_state y9 y10 hq) K_X4_after u730 (x_Psub hP [2, 7, 6, 8, 9, 10, 11, 12, 13, 14] rfl) rfl (q0 := 0) rfl (by decide) ⟨Nat.zero_le _, Nat.zero_le _⟩ rfl hl.1 rfl (Nat.le_of_ble_eq_true rfl) rfl dX10_act_35 ?_
    refine lv_istore (lv' := [(5, .int y10), (4, .int y7), (0, .ref aT), (1, .int p1), (2, .int p2), (3, .int p3)]) hx hb dX10_act_38 hl (by decide) rfl (fun ls hl => ?_)
    refine lv_iload hx hb dX10_act_40 (lv_at hl 0 rfl) ?_
    refine lv_iconst (v := (-1 : Int32)) hx hb dX10_act_42 (by decide) ?_
    refine lv_icmp_ne (tgt := 49) hx hb dX10_act_43 (by decide) (fun c11 => ?_) (fun c11 => ?_)
    · replace hev := x_f c11 hev
      refine lv_aload_n hx hb dX10_act_49 rfl (lv_at hl 2 rfl) ?_
      refine va_get (D := G.1) (ci := 6) (v := .int vT_deeds) (C := RX10) (T := TX10) (N := 14) hx hb hts i10 hown hK hP 0 rfl rfl 13 (by decide) (hw _ u429) (fun _ h9 => h9) rfl dX10_act_50 ?_
      refine lv_sipush (v := (9999 : Int32)) hx hb dX10_act_53 (by decide) ?_
      refine lv_icmp_lt (tgt := 62) hx hb dX10_act_56 (by decide) (fun c12 => ?_) (fun c12 => ?_)
      · replace hev := x_t c12 hev
        refine lv_aload_n hx hb dX10_act_62 rfl (lv_at hl 2 rfl) ?_
        refine va_get (D := G.1) (ci := 6) (v := .ref aT_undoable) (C := RX10) (T := TX10) (N := 14) hx hb hts i10 hown hK hP 0 rfl rfl 7 (by decide) (hw _ u423) (fun _ h9 => h9) rfl dX10_act_63 ?_
        obtain ⟨y13, hq, hev⟩ := x_bd hev
        refine roV X (KK_at hKK hS hAb) hR (st1 := [.int y13]) (c_Rw_isFull l G aT_undoable aT_undoable_items vT_undoable_size fT_undoable_items nT_undoable_items y13 hq) K_X3_isFull u743 (x_Psub hP [3, 15] rfl) rfl (q0 := 0) rfl (by decide) ⟨Nat.zero_le _, Nat.zero_le _⟩ rfl hl.1 rfl (Nat.le_of_ble_eq_true rfl) rfl dX10_act_66 ?_
        refine lv_if_eq (tgt := 79) hx hb dX10_act_69 (by decide) (fun c14 => ?_) (fun c14 => ?_)
        · replace hev := x_t c14 hev
          exact J79 vT_deeds vT_state vT_undoable_size fT_undoable_items y10 _ _ hP hD hS ls hev (lv_sub hl [2, 0] rfl)
        · replace hev := x_f c14 hev
          refine lv_aload_n hx hb dX10_act_72 rfl (lv_at hl 2 rfl) ?_
          refine va_get (D := G.1) (ci := 6) (v := .ref aT_undoable) (C := RX10) (T := TX10) (N := 14) hx hb hts i10 hown hK hP 0 rfl rfl 7 (by decide) (hw _ u423) (fun _ h9 => h9) rfl dX10_act_73 ?_
          obtain ⟨⟨w15, w16⟩, hq, hev⟩ := x_bd hev
          refine rgV X (KK_at hKK hS hAb) hR (st1 := []) (ws2 := [(aT, .inr (6, [.ref aT_text, .ref aT_told, .ref aT_reader, .ref aT_rules, .ref aT_fromNow, .ref aT_whatIf, .ref aT_trials, .ref aT_undoable, .ref aT_keptStates, .ref aT_keptDeeds, .ref aT_row, .ref aT_princes, .int vT_state, .int vT_deeds])), (aT_told, .inr (4, [.int vT_told_people, .int vT_told_spells, .int vT_told_day, .int vT_told_broken, .ref aT_told_kinds, .ref aT_told_targets, .ref aT_told_wakes, .ref aT_told_terms, .ref aT_told_sorts, .ref aT_told_numbers])), (aT_rules, .inr (2, [.int vT_rules_people, .int vT_rules_spells, .int vT_rules_deedCount, .ref aT_rules_masks, .ref aT_rules_values, .ref aT_rules_askings, .ref aT_rules_kissesNeeded, .ref aT_rules_wakings, .ref aT_rules_binders, .ref aT_rules_curses, .ref aT_rules_doers, .ref aT_rules_sorts, .ref aT_rules_whichs, .ref aT_rules_bars, .ref aT_rules_bits, .ref aT_rules_kisses])), (aT_undoable, .inr (1, [.ref aT_undoable_items, .int w15])), (aT_rules_doers, .inl (G.2.1, 19, .inl fT_rules_doers)), (aT_rules_whichs, .inl (G.2.1, 19, .inl fT_rules_whichs)), (aT_rules_sorts, .inl (G.2.1, 19, .inl fT_rules_sorts)), (aT_rules_bars, .inl (G.2.1, 19, .inl fT_rules_bars)), (aT_rules_kisses, .inl (G.2.1, 19, .inl fT_rules_kisses)), (aT_rules_masks, .inl (G.2.1, 5, .inl fT_rules_masks)), (aT_rules_values, .inl (G.2.1, 5, .inl fT_rules_values)), (aT_rules_askings, .inl (G.2.1, 5, .inl fT_rules_askings)), (aT_rules_kissesNeeded, .inl (G.2.1, 5, .inl fT_rules_kissesNeeded)), (aT_rules_wakings, .inl (G.2.1, 5, .inl fT_rules_wakings)), (aT_rules_bits, .inl (G.2.1, 19, .inl fT_rules_bits)), (aT_undoable_items, .inl (G.2.1, nT_undoable_items, .inl w16))]) (c_Rw_dropFirst l G aT_undoable aT_undoable_items vT_undoable_size fT_undoable_items nT_undoable_items k w15 w16 hq) K_X3_dropFirst u747 hP hD hS hA hAb [3, 15] rfl (sbC rfl (sbC rfl sb0)) (mgK (by decide) (mgK (by decide) (mgK (by decide) (mgN 0 rfl rfl (mgK (by decide) (mgK (by decide) (mgK (by decide) (mgK (by decide) (mgK (by decide) (mgK (by decide) (mgK (by decide) (mgK (by decide) (mgK (by decide) (mgK (by decide) (mgK (by decide) (mgN 1 rfl rfl (mg0))))))))))))))))) rfl (q0 := 0) rfl (by decide) ⟨Nat.zero_le _, Nat.zero_le _⟩ rfl hl.1 rfl (Nat.le_of_ble_eq_true rfl) rfl dX10_act_76 (fun H lo hP hD hS => ?_)
          exact J79 vT_deeds vT_state w15 w16 y10 _ _ hP hD hS ls hev (lv_sub hl [2, 0] rfl)
      · replace hev := x_f c12 hev
        refine lv_bipush (v := (-5 : Int32)) hx hb dX10_act_59 (by decide) ?_
        exact ret2 _ _ _ _ (-5 : Int32) (-5 : Int32) vT_deeds vT_state vT_undoable_size fT_undoable_items (Option.some.inj hev) dX10_act_61 (show narrow _ (.int (-5 : Int32)) = .int (-5 : Int32) from rfl) hP hD hS
    · replace hev := x_t c11 hev
      refine lv_bipush (v := (-4 : Int32)) hx hb dX10_act_46 (by decide) ?_
      exact ret2 _ _ _ _ (-4 : Int32) (-4 : Int32) vT_deeds vT_state vT_undoable_size fT_undoable_items (Option.some.inj hev) dX10_act_48 (show narrow _ (.int (-4 : Int32)) = .int (-4 : Int32) from rfl) hP hD hS
  · replace hev := x_f c8 hev
    refine lv_iload hx hb dX10_act_14 (lv_at hl 0 rfl) ?_
    exact ret2 _ _ _ _ y7 y7 vT_deeds vT_state vT_undoable_size fT_undoable_items (Option.some.inj hev) dX10_act_16 (show narrow _ (.int y7) = .int y7 from rfl) hP hD hS
def f_SS_undo (nT_undoable_items : Nat) (vT_deeds : Int32) (vT_state : Int32) (vT_undoable_size : Int32) (fT_undoable_items : Nat → Int32) : Option (Int32 × Int32 × Int32 × Int32) := x_B (f_Rw_size vT_undoable_size) (fun y1 => if y1 = 0 then (some ((-4 : Int32), vT_deeds, vT_state, vT_undoable_size)) else x_B (f_Rw_size vT_undoable_size) (fun y3 => x_B (f_Rw_at nT_undoable_items vT_undoable_size fT_undoable_items (y3 - (1 : Int32))) (fun y4 => x_B (f_Rw_dropLast vT_undoable_size) (fun w5 => x_L ((vT_deeds - (1 : Int32))) (fun y6 => x_B (f_Rw_size w5) (fun y7 => some (y7, y6, y4, w5)))))))
set_option maxHeartbeats 8000000 in
set_option maxRecDepth 100000 in
theorem c_SS_undo (l : Launch) (G : GG) (aT aT_text aT_told aT_reader aT_rules aT_fromNow aT_whatIf aT_trials aT_undoable aT_keptStates aT_keptDeeds aT_row aT_princes aT_undoable_items : Nat) (vT_state : Int32) (vT_deeds : Int32) (vT_undoable_size : Int32) (fT_undoable_items : Nat → Int32) (nT_undoable_items : Nat) (r0 : Int32) (wvT_deeds : Int32) (wvT_state : Int32) (wvT_undoable_size : Int32) (hev : f_SS_undo nT_undoable_items vT_deeds vT_state vT_undoable_size fT_undoable_items = some (r0, wvT_deeds, wvT_state, wvT_undoable_size)) : RW l G yX10_undo cX10_undo 1 (some .int) 2 [.ref aT] [(aT, .inr (6, [.ref aT_text, .ref aT_told, .ref aT_reader, .ref aT_rules, .ref aT_fromNow, .ref aT_whatIf, .ref aT_trials, .ref aT_undoable, .ref aT_keptStates, .ref aT_keptDeeds, .ref aT_row, .ref aT_princes, .int vT_state, .int vT_deeds])), (aT_undoable, .inr (1, [.ref aT_undoable_items, .int vT_undoable_size])), (aT_undoable_items, .inl (G.2.1, nT_undoable_items, .inl fT_undoable_items))] (some (.int r0)) [(aT, .inr (6, [.ref aT_text, .ref aT_told, .ref aT_reader, .ref aT_rules, .ref aT_fromNow, .ref aT_whatIf, .ref aT_trials, .ref aT_undoable, .ref aT_keptStates, .ref aT_keptDeeds, .ref aT_row, .ref aT_princes, .int wvT_state, .int wvT_deeds])), (aT_undoable, .inr (1, [.ref aT_undoable_items, .int wvT_undoable_size])), (aT_undoable_items, .inl (G.2.1, nT_undoable_items, .inl fT_undoable_items))] 0 0 := by
  refine RW_of (by decide) (Nat.le_of_ble_eq_true rfl) ?_
  intro p e s m ar below meth c R Q A ls X hR hRc hin hP hKK hD hS hA hAb hl ret
  obtain ⟨rs, hrs⟩ : ∃ q, q = (r0, wvT_deeds, wvT_state, wvT_undoable_size) := ⟨_, rfl⟩
  rw [← hrs] at hev
  have ret2 : ∀ (pc : Nat) (ls : Array Slot) (H : Heap) (lo : List Loc) (v r1 : Int32) (zvT_deeds : Int32) (zvT_state : Int32) (zvT_undoable_size : Int32), (r1, zvT_deeds, zvT_state, zvT_undoable_size) = rs → decode cX10_undo pc = .ok (.ireturn, 1) → narrow .int (.int v) = .int r1 → va_P G.1 classes [(aT, .inr (6, [.ref aT_text, .ref aT_told, .ref aT_reader, .ref aT_rules, .ref aT_fromNow, .ref aT_whatIf, .ref aT_trials, .ref aT_undoable, .ref aT_keptStates, .ref aT_keptDeeds, .ref aT_row, .ref aT_princes, .int zvT_state, .int zvT_deeds])), (aT_undoable, .inr (1, [.ref aT_undoable_items, .int zvT_undoable_size])), (aT_undoable_items, .inl (G.2.1, nT_undoable_items, .inl fT_undoable_items))] H → va_D A [(aT, .inr (6, [.ref aT_text, .ref aT_told, .ref aT_reader, .ref aT_rules, .ref aT_fromNow, .ref aT_whatIf, .ref aT_trials, .ref aT_undoable, .ref aT_keptStates, .ref aT_keptDeeds, .ref aT_row, .ref aT_princes, .int zvT_state, .int zvT_deeds])), (aT_undoable, .inr (1, [.ref aT_undoable_items, .int zvT_undoable_size])), (aT_undoable_items, .inl (G.2.1, nT_undoable_items, .inl fT_undoable_items))] → va_S A s.heap H lo → W p l e R s m ar below meth c H lo 0 0 Q (F0 m pc ls [.int v]) := by
    intro pc ls H lo v r1 zvT_deeds zvT_state zvT_undoable_size he hd hn h1 h2 h3
    have he := he.trans hrs
    cases he
    exact ret.1 _ _ _ _ _ _ _ rfl rfl hd hn h1 h2 h3
  clear ret hrs
  have hl : lv_has ls 1 [(0, .ref aT)] := hl
  obtain ⟨hx, hb, hml, hown, hts, hT⟩ := id X
  have hK := hKK.1
  have hw : ∀ w ∈ T0, w.before ar s = true := fun w h => hts w (hT w h)
  have i10 := fun w h => hT w (inT10 w h)
  unfold f_SS_undo at hev
  refine lv_aload_n hx hb dX10_undo_0 rfl (lv_at hl 0 rfl) ?_
  refine va_get (D := G.1) (ci := 6) (v := .ref aT_undoable) (C := RX10) (T := TX10) (N := 14) hx hb hts i10 hown hK hP 0 rfl rfl 7 (by decide) (hw _ u423) (fun _ h9 => h9) rfl dX10_undo_1 ?_
  obtain ⟨y1, hq, hev⟩ := x_bd hev
  refine roV X (KK_at hKK hS hAb) hR (st1 := [.int y1]) (c_Rw_size l G aT_undoable aT_undoable_items vT_undoable_size y1 hq) K_X3_size u467 (x_Psub hP [1] rfl) rfl (q0 := 0) rfl (by decide) ⟨Nat.zero_le _, Nat.zero_le _⟩ rfl hl.1 rfl (Nat.le_of_ble_eq_true rfl) rfl dX10_undo_4 ?_
  refine lv_if_ne (tgt := 13) hx hb dX10_undo_7 (by decide) (fun c2 => ?_) (fun c2 => ?_)
  · replace hev := x_f c2 hev
    refine lv_aload_n hx hb dX10_undo_13 rfl (lv_at hl 0 rfl) ?_
    refine lv_aload_n hx hb dX10_undo_14 rfl (lv_at hl 0 rfl) ?_
    refine va_get (D := G.1) (ci := 6) (v := .ref aT_undoable) (C := RX10) (T := TX10) (N := 14) hx hb hts i10 hown hK hP 0 rfl rfl 7 (by decide) (hw _ u423) (fun _ h9 => h9) rfl dX10_undo_15 ?_
    refine lv_aload_n hx hb dX10_undo_18 rfl (lv_at hl 0 rfl) ?_
    refine va_get (D := G.1) (ci := 6) (v := .ref aT_undoable) (C := RX10) (T := TX10) (N := 14) hx hb hts i10 hown hK hP 0 rfl rfl 7 (by decide) (hw _ u423) (fun _ h9 => h9) rfl dX10_undo_19 ?_
    obtain ⟨y3, hq, hev⟩ := x_bd hev
    refine roV X (KK_at hKK hS hAb) hR (st1 := [.int y3, .ref aT_undoable, .ref aT]) (c_Rw_size l G aT_undoable aT_undoable_items vT_undoable_size y3 hq) K_X3_size u467 (x_Psub hP [1] rfl) rfl (q0 := 0) rfl (by decide) ⟨Nat.zero_le _, Nat.zero_le _⟩ rfl hl.1 rfl (Nat.le_of_ble_eq_true rfl) rfl dX10_undo_22 ?_
    refine lv_iconst (v := (1 : Int32)) hx hb dX10_undo_25 (by decide) ?_
    refine lv_isub hx hb dX10_undo_26 ?_
    obtain ⟨y4, hq, hev⟩ := x_bd hev
    refine roV X (KK_at hKK hS hAb) hR (st1 := [.int y4, .ref aT]) (c_Rw_at l G aT_undoable aT_undoable_items vT_undoable_size fT_undoable_items nT_undoable_items (y3 - (1 : Int32)) y4 hq) K_X3_at u766 (x_Psub hP [1, 2] rfl) rfl (q0 := 0) rfl (by decide) ⟨Nat.zero_le _, Nat.zero_le _⟩ rfl hl.1 rfl (Nat.le_of_ble_eq_true rfl) rfl dX10_undo_27 ?_
    refine va_put (D := G.1) (ci := 6) (v := .int y4) (ty := .int) (C := RX10) (T := TX10) (N := 14) hx hb hts i10 tyX10 tyX10_ok nmX10 hown hK hP hD hS 0 rfl rfl 12 (by decide) (hw _ u428) (fun _ h9 => h9) rfl (by decide +kernel) rfl rfl (Nat.le_of_ble_eq_true rfl) dX10_undo_30 (fun H lo hP hD hS => ?_)
    refine lv_aload_n hx hb dX10_undo_33 rfl (lv_at hl 0 rfl) ?_
    refine va_get (D := G.1) (ci := 6) (v := .ref aT_undoable) (C := RX10) (T := TX10) (N := 14) hx hb hts i10 hown hK hP 0 rfl rfl 7 (by decide) (hw _ u423) (fun _ h9 => h9) rfl dX10_undo_34 ?_
    obtain ⟨w5, hq, hev⟩ := x_bd hev
    refine rwV X (KK_at hKK hS hAb) hR (st1 := []) (ws2 := [(aT, .inr (6, [.ref aT_text, .ref aT_told, .ref aT_reader, .ref aT_rules, .ref aT_fromNow, .ref aT_whatIf, .ref aT_trials, .ref aT_undoable, .ref aT_keptStates, .ref aT_keptDeeds, .ref aT_row, .ref aT_princes, .int y4, .int vT_deeds])), (aT_undoable, .inr (1, [.ref aT_undoable_items, .int w5])), (aT_undoable_items, .inl (G.2.1, nT_undoable_items, .inl fT_undoable_items))]) (c_Rw_dropLast l G aT_undoable aT_undoable_items vT_undoable_size w5 hq) K_X3_dropLast u767 hP hD hS hA hAb [1] rfl rfl rfl rfl rfl (q0 := 0) rfl (by decide) ⟨Nat.zero_le _, Nat.zero_le _⟩ rfl hl.1 rfl (Nat.le_of_ble_eq_true rfl) rfl dX10_undo_37 (fun H lo hP hD hS => ?_)
    refine lv_aload_n hx hb dX10_undo_40 rfl (lv_at hl 0 rfl) ?_
    refine lv_dup hx hb dX10_undo_41 rfl ?_
    refine va_get (D := G.1) (ci := 6) (v := .int vT_deeds) (C := RX10) (T := TX10) (N := 14) hx hb hts i10 hown hK hP 0 rfl rfl 13 (by decide) (hw _ u429) (fun _ h9 => h9) rfl dX10_undo_42 ?_
    refine lv_iconst (v := (1 : Int32)) hx hb dX10_undo_45 (by decide) ?_
    refine lv_isub hx hb dX10_undo_46 ?_
    refine lv_topi (fun y6 ey6 => ?_)
    replace hev := x_lt hev y6 ey6
    refine va_put (D := G.1) (ci := 6) (v := .int y6) (ty := .int) (C := RX10) (T := TX10) (N := 14) hx hb hts i10 tyX10 tyX10_ok nmX10 hown hK hP hD hS 0 rfl rfl 13 (by decide) (hw _ u429) (fun _ h9 => h9) rfl (by decide +kernel) rfl rfl (Nat.le_of_ble_eq_true rfl) dX10_undo_47 (fun H lo hP hD hS => ?_)
    refine lv_aload_n hx hb dX10_undo_50 rfl (lv_at hl 0 rfl) ?_
    refine va_get (D := G.1) (ci := 6) (v := .ref aT_undoable) (C := RX10) (T := TX10) (N := 14) hx hb hts i10 hown hK hP 0 rfl rfl 7 (by decide) (hw _ u423) (fun _ h9 => h9) rfl dX10_undo_51 ?_
    obtain ⟨y7, hq, hev⟩ := x_bd hev
    refine roV X (KK_at hKK hS hAb) hR (st1 := [.int y7]) (c_Rw_size l G aT_undoable aT_undoable_items w5 y7 hq) K_X3_size u467 (x_Psub hP [1] rfl) rfl (q0 := 0) rfl (by decide) ⟨Nat.zero_le _, Nat.zero_le _⟩ rfl hl.1 rfl (Nat.le_of_ble_eq_true rfl) rfl dX10_undo_54 ?_
    exact ret2 _ _ _ _ y7 y7 y6 y4 w5 (Option.some.inj hev) dX10_undo_57 (show narrow _ (.int y7) = .int y7 from rfl) hP hD hS
  · replace hev := x_t c2 hev
    refine lv_bipush (v := (-4 : Int32)) hx hb dX10_undo_10 (by decide) ?_
    exact ret2 _ _ _ _ (-4 : Int32) (-4 : Int32) vT_deeds vT_state vT_undoable_size (Option.some.inj hev) dX10_undo_12 (show narrow _ (.int (-4 : Int32)) = .int (-4 : Int32) from rfl) hP hD hS
def f_SS_keep (vT_deeds : Int32) (vT_state : Int32) (fT_keptDeeds : Nat → Int32) (fT_keptStates : Nat → Int32) (p1 : Int32) : Option (Int32 × (Nat → Int32) × (Nat → Int32)) := if p1 < 0 then (some ((-2 : Int32), fT_keptDeeds, fT_keptStates)) else if (2 : Int32) ≤ p1 then (some ((-2 : Int32), fT_keptDeeds, fT_keptStates)) else if p1 < (2 : Int32) then (x_C 2 p1 (x_C 2 p1 (some (vT_deeds, (upd fT_keptDeeds (p1).toNatClampNeg vT_deeds), (upd fT_keptStates (p1).toNatClampNeg vT_state))))) else some ((-2 : Int32), fT_keptDeeds, fT_keptStates)
set_option maxHeartbeats 8000000 in
set_option maxRecDepth 100000 in
theorem c_SS_keep (l : Launch) (G : GG) (aT aT_text aT_told aT_reader aT_rules aT_fromNow aT_whatIf aT_trials aT_undoable aT_keptStates aT_keptDeeds aT_row aT_princes : Nat) (vT_state : Int32) (vT_deeds : Int32) (fT_keptStates : Nat → Int32) (fT_keptDeeds : Nat → Int32) (p1 : Int32) (r0 : Int32) (wfT_keptDeeds : Nat → Int32) (wfT_keptStates : Nat → Int32) (hev : f_SS_keep vT_deeds vT_state fT_keptDeeds fT_keptStates p1 = some (r0, wfT_keptDeeds, wfT_keptStates)) : RW l G yX10_keep cX10_keep 2 (some .int) 0 [.ref aT, .int p1] [(aT, .inr (6, [.ref aT_text, .ref aT_told, .ref aT_reader, .ref aT_rules, .ref aT_fromNow, .ref aT_whatIf, .ref aT_trials, .ref aT_undoable, .ref aT_keptStates, .ref aT_keptDeeds, .ref aT_row, .ref aT_princes, .int vT_state, .int vT_deeds])), (aT_keptStates, .inl (G.2.1, 2, .inl fT_keptStates)), (aT_keptDeeds, .inl (G.2.1, 2, .inl fT_keptDeeds))] (some (.int r0)) [(aT, .inr (6, [.ref aT_text, .ref aT_told, .ref aT_reader, .ref aT_rules, .ref aT_fromNow, .ref aT_whatIf, .ref aT_trials, .ref aT_undoable, .ref aT_keptStates, .ref aT_keptDeeds, .ref aT_row, .ref aT_princes, .int vT_state, .int vT_deeds])), (aT_keptStates, .inl (G.2.1, 2, .inl wfT_keptStates)), (aT_keptDeeds, .inl (G.2.1, 2, .inl wfT_keptDeeds))] 0 0 := by
  refine RW_of (by decide) (Nat.le_of_ble_eq_true rfl) ?_
  intro p e s m ar below meth c R Q A ls X hR hRc hin hP hKK hD hS hA hAb hl ret
  obtain ⟨rs, hrs⟩ : ∃ q, q = (r0, wfT_keptDeeds, wfT_keptStates) := ⟨_, rfl⟩
  rw [← hrs] at hev
  have ret2 : ∀ (pc : Nat) (ls : Array Slot) (H : Heap) (lo : List Loc) (v r1 : Int32) (zfT_keptDeeds : Nat → Int32) (zfT_keptStates : Nat → Int32), (r1, zfT_keptDeeds, zfT_keptStates) = rs → decode cX10_keep pc = .ok (.ireturn, 1) → narrow .int (.int v) = .int r1 → va_P G.1 classes [(aT, .inr (6, [.ref aT_text, .ref aT_told, .ref aT_reader, .ref aT_rules, .ref aT_fromNow, .ref aT_whatIf, .ref aT_trials, .ref aT_undoable, .ref aT_keptStates, .ref aT_keptDeeds, .ref aT_row, .ref aT_princes, .int vT_state, .int vT_deeds])), (aT_keptStates, .inl (G.2.1, 2, .inl zfT_keptStates)), (aT_keptDeeds, .inl (G.2.1, 2, .inl zfT_keptDeeds))] H → va_D A [(aT, .inr (6, [.ref aT_text, .ref aT_told, .ref aT_reader, .ref aT_rules, .ref aT_fromNow, .ref aT_whatIf, .ref aT_trials, .ref aT_undoable, .ref aT_keptStates, .ref aT_keptDeeds, .ref aT_row, .ref aT_princes, .int vT_state, .int vT_deeds])), (aT_keptStates, .inl (G.2.1, 2, .inl zfT_keptStates)), (aT_keptDeeds, .inl (G.2.1, 2, .inl zfT_keptDeeds))] → va_S A s.heap H lo → W p l e R s m ar below meth c H lo 0 0 Q (F0 m pc ls [.int v]) := by
    intro pc ls H lo v r1 zfT_keptDeeds zfT_keptStates he hd hn h1 h2 h3
    have he := he.trans hrs
    cases he
    exact ret.1 _ _ _ _ _ _ _ rfl rfl hd hn h1 h2 h3
  clear ret hrs
  have hl : lv_has ls 2 [(0, .ref aT), (1, .int p1)] := hl
  obtain ⟨hx, hb, hml, hown, hts, hT⟩ := id X
  have hK := hKK.1
  have hw : ∀ w ∈ T0, w.before ar s = true := fun w h => hts w (hT w h)
  have i10 := fun w h => hT w (inT10 w h)
  unfold f_SS_keep at hev
  refine lv_iload_n hx hb dX10_keep_0 rfl (lv_at hl 1 rfl) ?_
  refine lv_if_lt (tgt := 22) hx hb dX10_keep_1 (by decide) (fun c1 => ?_) (fun c1 => ?_)
  · replace hev := x_t c1 hev
    refine lv_bipush (v := (-2 : Int32)) hx hb dX10_keep_22 (by decide) ?_
    exact ret2 _ _ _ _ (-2 : Int32) (-2 : Int32) fT_keptDeeds fT_keptStates (Option.some.inj hev) dX10_keep_24 (show narrow _ (.int (-2 : Int32)) = .int (-2 : Int32) from rfl) hP hD hS
  · replace hev := x_f c1 hev
    refine lv_iload_n hx hb dX10_keep_4 rfl (lv_at hl 1 rfl) ?_
    refine lv_aload_n hx hb dX10_keep_5 rfl (lv_at hl 0 rfl) ?_
    refine va_get (D := G.1) (ci := 6) (v := .ref aT_keptStates) (C := RX10) (T := TX10) (N := 14) hx hb hts i10 hown hK hP 0 rfl rfl 8 (by decide) (hw _ u424) (fun _ h9 => h9) rfl dX10_keep_6 ?_
    refine va_alen hx hb hK hP 1 0 (v := (2 : Int32)) rfl rfl rfl dX10_keep_9 ?_
    refine lv_icmp_ge (tgt := 22) hx hb dX10_keep_10 (by decide) (fun c2 => ?_) (fun c2 => ?_)
    · replace hev := x_t c2 hev
      refine lv_bipush (v := (-2 : Int32)) hx hb dX10_keep_22 (by decide) ?_
      exact ret2 _ _ _ _ (-2 : Int32) (-2 : Int32) fT_keptDeeds fT_keptStates (Option.some.inj hev) dX10_keep_24 (show narrow _ (.int (-2 : Int32)) = .int (-2 : Int32) from rfl) hP hD hS
    · replace hev := x_f c2 hev
      refine lv_iload_n hx hb dX10_keep_13 rfl (lv_at hl 1 rfl) ?_
      refine lv_aload_n hx hb dX10_keep_14 rfl (lv_at hl 0 rfl) ?_
      refine va_get (D := G.1) (ci := 6) (v := .ref aT_keptDeeds) (C := RX10) (T := TX10) (N := 14) hx hb hts i10 hown hK hP 0 rfl rfl 9 (by decide) (hw _ u425) (fun _ h9 => h9) rfl dX10_keep_15 ?_
      refine va_alen hx hb hK hP 2 0 (v := (2 : Int32)) rfl rfl rfl dX10_keep_18 ?_
      refine lv_icmp_lt (tgt := 25) hx hb dX10_keep_19 (by decide) (fun c3 => ?_) (fun c3 => ?_)
      · replace hev := x_t c3 hev
        refine lv_aload_n hx hb dX10_keep_25 rfl (lv_at hl 0 rfl) ?_
        refine va_get (D := G.1) (ci := 6) (v := .ref aT_keptStates) (C := RX10) (T := TX10) (N := 14) hx hb hts i10 hown hK hP 0 rfl rfl 8 (by decide) (hw _ u424) (fun _ h9 => h9) rfl dX10_keep_26 ?_
        refine lv_iload_n hx hb dX10_keep_29 rfl (lv_at hl 1 rfl) ?_
        refine lv_aload_n hx hb dX10_keep_30 rfl (lv_at hl 0 rfl) ?_
        refine va_get (D := G.1) (ci := 6) (v := .int vT_state) (C := RX10) (T := TX10) (N := 14) hx hb hts i10 hown hK hP 0 rfl rfl 12 (by decide) (hw _ u428) (fun _ h9 => h9) rfl dX10_keep_31 ?_
        obtain ⟨h4, hev⟩ := x_ck hev
        refine va_iast hx hb hK hP hD hS 1 0 rfl rfl h4 dX10_keep_34 (fun H lo hP hD hS => ?_)
        refine lv_aload_n hx hb dX10_keep_35 rfl (lv_at hl 0 rfl) ?_
        refine va_get (D := G.1) (ci := 6) (v := .ref aT_keptDeeds) (C := RX10) (T := TX10) (N := 14) hx hb hts i10 hown hK hP 0 rfl rfl 9 (by decide) (hw _ u425) (fun _ h9 => h9) rfl dX10_keep_36 ?_
        refine lv_iload_n hx hb dX10_keep_39 rfl (lv_at hl 1 rfl) ?_
        refine lv_aload_n hx hb dX10_keep_40 rfl (lv_at hl 0 rfl) ?_
        refine va_get (D := G.1) (ci := 6) (v := .int vT_deeds) (C := RX10) (T := TX10) (N := 14) hx hb hts i10 hown hK hP 0 rfl rfl 13 (by decide) (hw _ u429) (fun _ h9 => h9) rfl dX10_keep_41 ?_
        obtain ⟨h5, hev⟩ := x_ck hev
        refine va_iast hx hb hK hP hD hS 2 0 rfl rfl h5 dX10_keep_44 (fun H lo hP hD hS => ?_)
        refine lv_aload_n hx hb dX10_keep_45 rfl (lv_at hl 0 rfl) ?_
        refine va_get (D := G.1) (ci := 6) (v := .int vT_deeds) (C := RX10) (T := TX10) (N := 14) hx hb hts i10 hown hK hP 0 rfl rfl 13 (by decide) (hw _ u429) (fun _ h9 => h9) rfl dX10_keep_46 ?_
        exact ret2 _ _ _ _ vT_deeds vT_deeds (upd fT_keptDeeds (p1).toNatClampNeg vT_deeds) (upd fT_keptStates (p1).toNatClampNeg vT_state) (Option.some.inj hev) dX10_keep_49 (show narrow _ (.int vT_deeds) = .int vT_deeds from rfl) hP hD hS
      · replace hev := x_f c3 hev
        refine lv_bipush (v := (-2 : Int32)) hx hb dX10_keep_22 (by decide) ?_
        exact ret2 _ _ _ _ (-2 : Int32) (-2 : Int32) fT_keptDeeds fT_keptStates (Option.some.inj hev) dX10_keep_24 (show narrow _ (.int (-2 : Int32)) = .int (-2 : Int32) from rfl) hP hD hS
def f_SS_back (vT_deeds : Int32) (vT_state : Int32) (vT_undoable_size : Int32) (fT_keptDeeds : Nat → Int32) (fT_keptStates : Nat → Int32) (p1 : Int32) : Option (Int32 × Int32 × Int32 × Int32) := if p1 < 0 then (some ((-2 : Int32), vT_deeds, vT_state, vT_undoable_size)) else if (2 : Int32) ≤ p1 then (some ((-2 : Int32), vT_deeds, vT_state, vT_undoable_size)) else if p1 < (2 : Int32) then (x_I 2 fT_keptDeeds p1 (fun v5 => if v5 = (-1 : Int32) then (some ((-4 : Int32), vT_deeds, vT_state, vT_undoable_size)) else x_I 2 fT_keptStates p1 (fun v8 => x_I 2 fT_keptDeeds p1 (fun v10 => x_B (f_Rw_empty vT_undoable_size) (fun ⟨y11, w12⟩ => some (v10, v10, v8, w12)))))) else some ((-2 : Int32), vT_deeds, vT_state, vT_undoable_size)
set_option maxHeartbeats 8000000 in
set_option maxRecDepth 100000 in
theorem c_SS_back (l : Launch) (G : GG) (aT aT_text aT_told aT_reader aT_rules aT_fromNow aT_whatIf aT_trials aT_undoable aT_keptStates aT_keptDeeds aT_row aT_princes aT_undoable_items : Nat) (vT_state : Int32) (vT_deeds : Int32) (vT_undoable_size : Int32) (fT_keptStates : Nat → Int32) (fT_keptDeeds : Nat → Int32) (p1 : Int32) (r0 : Int32) (wvT_deeds : Int32) (wvT_state : Int32) (wvT_undoable_size : Int32) (hev : f_SS_back vT_deeds vT_state vT_undoable_size fT_keptDeeds fT_keptStates p1 = some (r0, wvT_deeds, wvT_state, wvT_undoable_size)) : RW l G yX10_back cX10_back 2 (some .int) 1 [.ref aT, .int p1] [(aT, .inr (6, [.ref aT_text, .ref aT_told, .ref aT_reader, .ref aT_rules, .ref aT_fromNow, .ref aT_whatIf, .ref aT_trials, .ref aT_undoable, .ref aT_keptStates, .ref aT_keptDeeds, .ref aT_row, .ref aT_princes, .int vT_state, .int vT_deeds])), (aT_undoable, .inr (1, [.ref aT_undoable_items, .int vT_undoable_size])), (aT_keptStates, .inl (G.2.1, 2, .inl fT_keptStates)), (aT_keptDeeds, .inl (G.2.1, 2, .inl fT_keptDeeds))] (some (.int r0)) [(aT, .inr (6, [.ref aT_text, .ref aT_told, .ref aT_reader, .ref aT_rules, .ref aT_fromNow, .ref aT_whatIf, .ref aT_trials, .ref aT_undoable, .ref aT_keptStates, .ref aT_keptDeeds, .ref aT_row, .ref aT_princes, .int wvT_state, .int wvT_deeds])), (aT_undoable, .inr (1, [.ref aT_undoable_items, .int wvT_undoable_size])), (aT_keptStates, .inl (G.2.1, 2, .inl fT_keptStates)), (aT_keptDeeds, .inl (G.2.1, 2, .inl fT_keptDeeds))] 0 0 := by
  refine RW_of (by decide) (Nat.le_of_ble_eq_true rfl) ?_
  intro p e s m ar below meth c R Q A ls X hR hRc hin hP hKK hD hS hA hAb hl ret
  obtain ⟨rs, hrs⟩ : ∃ q, q = (r0, wvT_deeds, wvT_state, wvT_undoable_size) := ⟨_, rfl⟩
  rw [← hrs] at hev
  have ret2 : ∀ (pc : Nat) (ls : Array Slot) (H : Heap) (lo : List Loc) (v r1 : Int32) (zvT_deeds : Int32) (zvT_state : Int32) (zvT_undoable_size : Int32), (r1, zvT_deeds, zvT_state, zvT_undoable_size) = rs → decode cX10_back pc = .ok (.ireturn, 1) → narrow .int (.int v) = .int r1 → va_P G.1 classes [(aT, .inr (6, [.ref aT_text, .ref aT_told, .ref aT_reader, .ref aT_rules, .ref aT_fromNow, .ref aT_whatIf, .ref aT_trials, .ref aT_undoable, .ref aT_keptStates, .ref aT_keptDeeds, .ref aT_row, .ref aT_princes, .int zvT_state, .int zvT_deeds])), (aT_undoable, .inr (1, [.ref aT_undoable_items, .int zvT_undoable_size])), (aT_keptStates, .inl (G.2.1, 2, .inl fT_keptStates)), (aT_keptDeeds, .inl (G.2.1, 2, .inl fT_keptDeeds))] H → va_D A [(aT, .inr (6, [.ref aT_text, .ref aT_told, .ref aT_reader, .ref aT_rules, .ref aT_fromNow, .ref aT_whatIf, .ref aT_trials, .ref aT_undoable, .ref aT_keptStates, .ref aT_keptDeeds, .ref aT_row, .ref aT_princes, .int zvT_state, .int zvT_deeds])), (aT_undoable, .inr (1, [.ref aT_undoable_items, .int zvT_undoable_size])), (aT_keptStates, .inl (G.2.1, 2, .inl fT_keptStates)), (aT_keptDeeds, .inl (G.2.1, 2, .inl fT_keptDeeds))] → va_S A s.heap H lo → W p l e R s m ar below meth c H lo 0 0 Q (F0 m pc ls [.int v]) := by
    intro pc ls H lo v r1 zvT_deeds zvT_state zvT_undoable_size he hd hn h1 h2 h3
    have he := he.trans hrs
    cases he
    exact ret.1 _ _ _ _ _ _ _ rfl rfl hd hn h1 h2 h3
  clear ret hrs
  have hl : lv_has ls 2 [(0, .ref aT), (1, .int p1)] := hl
  obtain ⟨hx, hb, hml, hown, hts, hT⟩ := id X
  have hK := hKK.1
  have hw : ∀ w ∈ T0, w.before ar s = true := fun w h => hts w (hT w h)
  have i10 := fun w h => hT w (inT10 w h)
  unfold f_SS_back at hev
  refine lv_iload_n hx hb dX10_back_0 rfl (lv_at hl 1 rfl) ?_
  refine lv_if_lt (tgt := 22) hx hb dX10_back_1 (by decide) (fun c1 => ?_) (fun c1 => ?_)
  · replace hev := x_t c1 hev
    refine lv_bipush (v := (-2 : Int32)) hx hb dX10_back_22 (by decide) ?_
    exact ret2 _ _ _ _ (-2 : Int32) (-2 : Int32) vT_deeds vT_state vT_undoable_size (Option.some.inj hev) dX10_back_24 (show narrow _ (.int (-2 : Int32)) = .int (-2 : Int32) from rfl) hP hD hS
  · replace hev := x_f c1 hev
    refine lv_iload_n hx hb dX10_back_4 rfl (lv_at hl 1 rfl) ?_
    refine lv_aload_n hx hb dX10_back_5 rfl (lv_at hl 0 rfl) ?_
    refine va_get (D := G.1) (ci := 6) (v := .ref aT_keptStates) (C := RX10) (T := TX10) (N := 14) hx hb hts i10 hown hK hP 0 rfl rfl 8 (by decide) (hw _ u424) (fun _ h9 => h9) rfl dX10_back_6 ?_
    refine va_alen hx hb hK hP 2 0 (v := (2 : Int32)) rfl rfl rfl dX10_back_9 ?_
    refine lv_icmp_ge (tgt := 22) hx hb dX10_back_10 (by decide) (fun c2 => ?_) (fun c2 => ?_)
    · replace hev := x_t c2 hev
      refine lv_bipush (v := (-2 : Int32)) hx hb dX10_back_22 (by decide) ?_
      exact ret2 _ _ _ _ (-2 : Int32) (-2 : Int32) vT_deeds vT_state vT_undoable_size (Option.some.inj hev) dX10_back_24 (show narrow _ (.int (-2 : Int32)) = .int (-2 : Int32) from rfl) hP hD hS
    · replace hev := x_f c2 hev
      refine lv_iload_n hx hb dX10_back_13 rfl (lv_at hl 1 rfl) ?_
      refine lv_aload_n hx hb dX10_back_14 rfl (lv_at hl 0 rfl) ?_
      refine va_get (D := G.1) (ci := 6) (v := .ref aT_keptDeeds) (C := RX10) (T := TX10) (N := 14) hx hb hts i10 hown hK hP 0 rfl rfl 9 (by decide) (hw _ u425) (fun _ h9 => h9) rfl dX10_back_15 ?_
      refine va_alen hx hb hK hP 3 0 (v := (2 : Int32)) rfl rfl rfl dX10_back_18 ?_
      refine lv_icmp_lt (tgt := 25) hx hb dX10_back_19 (by decide) (fun c3 => ?_) (fun c3 => ?_)
      · replace hev := x_t c3 hev
        refine lv_aload_n hx hb dX10_back_25 rfl (lv_at hl 0 rfl) ?_
        refine va_get (D := G.1) (ci := 6) (v := .ref aT_keptDeeds) (C := RX10) (T := TX10) (N := 14) hx hb hts i10 hown hK hP 0 rfl rfl 9 (by decide) (hw _ u425) (fun _ h9 => h9) rfl dX10_back_26 ?_
        refine lv_iload_n hx hb dX10_back_29 rfl (lv_at hl 1 rfl) ?_
        obtain ⟨h4, hev⟩ := x_ld hev
        refine va_iald hx hb hK hP 3 0 rfl rfl h4 dX10_back_30 ?_
        refine lv_topi (fun v5 ev5 => ?_)
        replace hev := hev v5 ev5
        refine lv_iconst (v := (-1 : Int32)) hx hb dX10_back_31 (by decide) ?_
        refine lv_icmp_ne (tgt := 38) hx hb dX10_back_32 (by decide) (fun c6 => ?_) (fun c6 => ?_)
        · replace hev := x_f c6 hev
          refine lv_aload_n hx hb dX10_back_38 rfl (lv_at hl 0 rfl) ?_
          refine lv_aload_n hx hb dX10_back_39 rfl (lv_at hl 0 rfl) ?_
          refine va_get (D := G.1) (ci := 6) (v := .ref aT_keptStates) (C := RX10) (T := TX10) (N := 14) hx hb hts i10 hown hK hP 0 rfl rfl 8 (by decide) (hw _ u424) (fun _ h9 => h9) rfl dX10_back_40 ?_
          refine lv_iload_n hx hb dX10_back_43 rfl (lv_at hl 1 rfl) ?_
          obtain ⟨h7, hev⟩ := x_ld hev
          refine va_iald hx hb hK hP 2 0 rfl rfl h7 dX10_back_44 ?_
          refine lv_topi (fun v8 ev8 => ?_)
          replace hev := hev v8 ev8
          refine va_put (D := G.1) (ci := 6) (v := .int v8) (ty := .int) (C := RX10) (T := TX10) (N := 14) hx hb hts i10 tyX10 tyX10_ok nmX10 hown hK hP hD hS 0 rfl rfl 12 (by decide) (hw _ u428) (fun _ h9 => h9) rfl (by decide +kernel) rfl rfl (Nat.le_of_ble_eq_true rfl) dX10_back_45 (fun H lo hP hD hS => ?_)
          refine lv_aload_n hx hb dX10_back_48 rfl (lv_at hl 0 rfl) ?_
          refine lv_aload_n hx hb dX10_back_49 rfl (lv_at hl 0 rfl) ?_
          refine va_get (D := G.1) (ci := 6) (v := .ref aT_keptDeeds) (C := RX10) (T := TX10) (N := 14) hx hb hts i10 hown hK hP 0 rfl rfl 9 (by decide) (hw _ u425) (fun _ h9 => h9) rfl dX10_back_50 ?_
          refine lv_iload_n hx hb dX10_back_53 rfl (lv_at hl 1 rfl) ?_
          obtain ⟨h9, hev⟩ := x_ld hev
          refine va_iald hx hb hK hP 3 0 rfl rfl h9 dX10_back_54 ?_
          refine lv_topi (fun v10 ev10 => ?_)
          replace hev := hev v10 ev10
          refine va_put (D := G.1) (ci := 6) (v := .int v10) (ty := .int) (C := RX10) (T := TX10) (N := 14) hx hb hts i10 tyX10 tyX10_ok nmX10 hown hK hP hD hS 0 rfl rfl 13 (by decide) (hw _ u429) (fun _ h9 => h9) rfl (by decide +kernel) rfl rfl (Nat.le_of_ble_eq_true rfl) dX10_back_55 (fun H lo hP hD hS => ?_)
          refine lv_aload_n hx hb dX10_back_58 rfl (lv_at hl 0 rfl) ?_
          refine va_get (D := G.1) (ci := 6) (v := .ref aT_undoable) (C := RX10) (T := TX10) (N := 14) hx hb hts i10 hown hK hP 0 rfl rfl 7 (by decide) (hw _ u423) (fun _ h9 => h9) rfl dX10_back_59 ?_
          obtain ⟨⟨y11, w12⟩, hq, hev⟩ := x_bd hev
          refine rwV X (KK_at hKK hS hAb) hR (st1 := [.int y11]) (ws2 := [(aT, .inr (6, [.ref aT_text, .ref aT_told, .ref aT_reader, .ref aT_rules, .ref aT_fromNow, .ref aT_whatIf, .ref aT_trials, .ref aT_undoable, .ref aT_keptStates, .ref aT_keptDeeds, .ref aT_row, .ref aT_princes, .int v8, .int v10])), (aT_undoable, .inr (1, [.ref aT_undoable_items, .int w12])), (aT_keptStates, .inl (G.2.1, 2, .inl fT_keptStates)), (aT_keptDeeds, .inl (G.2.1, 2, .inl fT_keptDeeds))]) (c_Rw_empty l G aT_undoable aT_undoable_items vT_undoable_size y11 w12 hq) K_X3_empty u406 hP hD hS hA hAb [1] rfl rfl rfl rfl rfl (q0 := 0) rfl (by decide) ⟨Nat.zero_le _, Nat.zero_le _⟩ rfl hl.1 rfl (Nat.le_of_ble_eq_true rfl) rfl dX10_back_62 (fun H lo hP hD hS => ?_)
          refine lv_pop hx hb dX10_back_65 rfl ?_
          refine lv_aload_n hx hb dX10_back_66 rfl (lv_at hl 0 rfl) ?_
          refine va_get (D := G.1) (ci := 6) (v := .int v10) (C := RX10) (T := TX10) (N := 14) hx hb hts i10 hown hK hP 0 rfl rfl 13 (by decide) (hw _ u429) (fun _ h9 => h9) rfl dX10_back_67 ?_
          exact ret2 _ _ _ _ v10 v10 v10 v8 w12 (Option.some.inj hev) dX10_back_70 (show narrow _ (.int v10) = .int v10 from rfl) hP hD hS
        · replace hev := x_t c6 hev
          refine lv_bipush (v := (-4 : Int32)) hx hb dX10_back_35 (by decide) ?_
          exact ret2 _ _ _ _ (-4 : Int32) (-4 : Int32) vT_deeds vT_state vT_undoable_size (Option.some.inj hev) dX10_back_37 (show narrow _ (.int (-4 : Int32)) = .int (-4 : Int32) from rfl) hP hD hS
      · replace hev := x_f c3 hev
        refine lv_bipush (v := (-2 : Int32)) hx hb dX10_back_22 (by decide) ?_
        exact ret2 _ _ _ _ (-2 : Int32) (-2 : Int32) vT_deeds vT_state vT_undoable_size (Option.some.inj hev) dX10_back_24 (show narrow _ (.int (-2 : Int32)) = .int (-2 : Int32) from rfl) hP hD hS
def f_SS_isPropped_L31 (vT_state : Int32) (vT_told_spells : Int32) (fT_told_numbers : Nat → Int32) (fT_told_sorts : Nat → Int32) (fT_told_terms : Nat → Int32) (x1 : Int32) (x3 : Int32) : Nat → Int32 → Option ((Unit) ⊕ (Int32))
  | 0, _ => none
  | k + 1, x4 => if (3 : Int32) ≤ x4 then (some (.inl ())) else x_B (f_To_termsOf vT_told_spells fT_told_terms x1) (fun y6 => if y6 ≤ x4 then (some (.inl ())) else x_B (f_SS_isSoNow vT_state vT_told_spells fT_told_numbers fT_told_sorts fT_told_terms x1 x4) (fun y8 => if y8 = 0 then (x_B (f_To_sortOf vT_told_spells fT_told_sorts fT_told_terms x1 x4) (fun y11 => if y11 = (4 : Int32) then (x_B (f_To_numberOf vT_told_spells fT_told_numbers fT_told_terms x1 x4) (fun y13 => if ((x3 >>> (y13 &&& 31)) &&& (1 : Int32)) = 0 then (some (.inr (0 : Int32))) else some (.inr (1 : Int32)))) else some (.inr (0 : Int32)))) else x_L (x4 + (1 : Int32)) (fun y10 => (f_SS_isPropped_L31 vT_state vT_told_spells fT_told_numbers fT_told_sorts fT_told_terms x1 x3 k) y10)))
def f_SS_isPropped (k : Nat) (vT_state : Int32) (vT_told_spells : Int32) (fT_told_numbers : Nat → Int32) (fT_told_sorts : Nat → Int32) (fT_told_terms : Nat → Int32) (p1 : Int32) (p2 : Int32) : Option (Int32) := x_B (f_SS_termsSoNow k vT_state vT_told_spells fT_told_numbers fT_told_sorts fT_told_terms p1) (fun y1 => x_B (f_To_termsOf vT_told_spells fT_told_terms p1) (fun y2 => if y1 = (y2 - (1 : Int32)) then (x_L ((p2 &&& (((1 : Int32) <<< (p1 &&& 31)) ^^^ (-1 : Int32)))) (fun y4 => x_S (f_SS_isPropped_L31 vT_state vT_told_spells fT_told_numbers fT_told_sorts fT_told_terms p1 y4 k (0 : Int32)) (fun _ => some (0 : Int32)) (fun r9 => some r9))) else some (0 : Int32)))
set_option maxHeartbeats 8000000 in
set_option maxRecDepth 100000 in
theorem c_SS_isPropped (l : Launch) (G : GG) (aT aT_text aT_told aT_reader aT_rules aT_fromNow aT_whatIf aT_trials aT_undoable aT_keptStates aT_keptDeeds aT_row aT_princes aT_told_kinds aT_told_targets aT_told_wakes aT_told_terms aT_told_sorts aT_told_numbers : Nat) (vT_state : Int32) (vT_deeds : Int32) (vT_told_people : Int32) (vT_told_spells : Int32) (vT_told_day : Int32) (vT_told_broken : Int32) (fT_told_terms : Nat → Int32) (fT_told_sorts : Nat → Int32) (fT_told_numbers : Nat → Int32) (k : Nat) (p1 : Int32) (p2 : Int32) (r0 : Int32) (hev : f_SS_isPropped k vT_state vT_told_spells fT_told_numbers fT_told_sorts fT_told_terms p1 p2 = some r0) : RO l G yX10_isPropped cX10_isPropped 5 (some .boolean) 5 [.ref aT, .int p1, .int p2] [(aT, .inr (6, [.ref aT_text, .ref aT_told, .ref aT_reader, .ref aT_rules, .ref aT_fromNow, .ref aT_whatIf, .ref aT_trials, .ref aT_undoable, .ref aT_keptStates, .ref aT_keptDeeds, .ref aT_row, .ref aT_princes, .int vT_state, .int vT_deeds])), (aT_told, .inr (4, [.int vT_told_people, .int vT_told_spells, .int vT_told_day, .int vT_told_broken, .ref aT_told_kinds, .ref aT_told_targets, .ref aT_told_wakes, .ref aT_told_terms, .ref aT_told_sorts, .ref aT_told_numbers])), (aT_told_terms, .inl (G.2.1, 5, .inl fT_told_terms)), (aT_told_sorts, .inl (G.2.1, 15, .inl fT_told_sorts)), (aT_told_numbers, .inl (G.2.1, 15, .inl fT_told_numbers))] (some (.int r0)) := by
  refine RO_of (by decide) (Nat.le_of_ble_eq_true rfl) ?_
  intro p e s m ar below meth c R Q H ls X hR hP hKK hS0 hl ret
  generalize hrs : r0 = rs at hev ret
  have hl : lv_has ls 5 [(0, .ref aT), (1, .int p1), (2, .int p2)] := hl
  obtain ⟨hx, hb, hml, hown, hts, hT⟩ := id X
  have hK := hKK.1
  have hw : ∀ w ∈ T0, w.before ar s = true := fun w h => hts w (hT w h)
  have i10 := fun w h => hT w (inT10 w h)
  unfold f_SS_isPropped at hev
  refine lv_aload_n hx hb dX10_isPropped_0 rfl (lv_at hl 0 rfl) ?_
  refine lv_iload_n hx hb dX10_isPropped_1 rfl (lv_at hl 1 rfl) ?_
  obtain ⟨y1, hq, hev⟩ := x_bd hev
  refine roV X hKK hR (st1 := [.int y1]) (c_SS_termsSoNow l G aT aT_text aT_told aT_reader aT_rules aT_fromNow aT_whatIf aT_trials aT_undoable aT_keptStates aT_keptDeeds aT_row aT_princes aT_told_kinds aT_told_targets aT_told_wakes aT_told_terms aT_told_sorts aT_told_numbers vT_state vT_deeds vT_told_people vT_told_spells vT_told_day vT_told_broken fT_told_terms fT_told_sorts fT_told_numbers k p1 y1 hq) K_X10_termsSoNow u699 (x_Psub hP [0, 1, 2, 3, 4] rfl) rfl (q0 := 0) rfl (by decide) ⟨Nat.zero_le _, Nat.zero_le _⟩ rfl hl.1 rfl (Nat.le_of_ble_eq_true rfl) rfl dX10_isPropped_2 ?_
  refine lv_aload_n hx hb dX10_isPropped_5 rfl (lv_at hl 0 rfl) ?_
  refine va_get (D := G.1) (ci := 6) (v := .ref aT_told) (C := RX10) (T := TX10) (N := 14) hx hb hts i10 hown hK hP 0 rfl rfl 1 (by decide) (hw _ u417) (fun _ h9 => h9) rfl dX10_isPropped_6 ?_
  refine lv_iload_n hx hb dX10_isPropped_9 rfl (lv_at hl 1 rfl) ?_
  obtain ⟨y2, hq, hev⟩ := x_bd hev
  refine roV X hKK hR (st1 := [.int y2, .int y1]) (c_To_termsOf l G aT_told aT_told_kinds aT_told_targets aT_told_wakes aT_told_terms aT_told_sorts aT_told_numbers vT_told_people vT_told_spells vT_told_day vT_told_broken fT_told_terms p1 y2 hq) K_X8_termsOf u671 (x_Psub hP [1, 2] rfl) rfl (q0 := 0) rfl (by decide) ⟨Nat.zero_le _, Nat.zero_le _⟩ rfl hl.1 rfl (Nat.le_of_ble_eq_true rfl) rfl dX10_isPropped_10 ?_
  refine lv_iconst (v := (1 : Int32)) hx hb dX10_isPropped_13 (by decide) ?_
  refine lv_isub hx hb dX10_isPropped_14 ?_
  refine lv_icmp_eq (tgt := 20) hx hb dX10_isPropped_15 (by decide) (fun c3 => ?_) (fun c3 => ?_)
  · replace hev := x_t c3 hev
    refine lv_iload_n hx hb dX10_isPropped_20 rfl (lv_at hl 2 rfl) ?_
    refine lv_iconst (v := (1 : Int32)) hx hb dX10_isPropped_21 (by decide) ?_
    refine lv_iload_n hx hb dX10_isPropped_22 rfl (lv_at hl 1 rfl) ?_
    refine lv_ishl hx hb dX10_isPropped_23 ?_
    refine lv_iconst (v := (-1 : Int32)) hx hb dX10_isPropped_24 (by decide) ?_
    refine lv_ixor hx hb dX10_isPropped_25 ?_
    refine lv_iand hx hb dX10_isPropped_26 ?_
    refine lv_topi (fun y4 ey4 => ?_)
    replace hev := x_lt hev y4 ey4
    refine lv_istore_n (lv' := [(3, .int y4), (0, .ref aT), (1, .int p1), (2, .int p2)]) hx hb dX10_isPropped_27 rfl hl (by decide) rfl (fun ls hl => ?_)
    refine lv_iconst (v := (0 : Int32)) hx hb dX10_isPropped_28 (by decide) ?_
    refine lv_istore (lv' := [(4, .int (0 : Int32)), (3, .int y4), (0, .ref aT), (1, .int p1), (2, .int p2)]) hx hb dX10_isPropped_29 hl (by decide) rfl (fun ls hl => ?_)
    have L31 : ∀ (x1 : Int32) (x3 : Int32), ∀ (k : Nat) (x4 : Int32) (out : (Unit) ⊕ (Int32)), f_SS_isPropped_L31 vT_state vT_told_spells fT_told_numbers fT_told_sorts fT_told_terms x1 x3 k x4 = some out → (out = .inl () → ∀ (ls : Array Slot), lv_has ls 5 [] → W p l e R s m ar below meth c H [] 0 0 Q (F0 m 103 ls [])) → (∀ v, out = .inr v → v = rs) → ∀ (ls : Array Slot), lv_has ls 5 [(0, .ref aT), (1, .int x1), (3, .int x3), (4, .int x4)] → W p l e R s m ar below meth c H [] 0 0 Q (F0 m 31 ls []) := by
      intro x1 x3 k
      induction k with
      | zero => intro x4 out hev; rw [f_SS_isPropped_L31] at hev; cases hev
      | succ k ih =>
        intro x4 out hev hex hret ls hl
        rw [f_SS_isPropped_L31] at hev
        refine lv_iload hx hb dX10_isPropped_31 (lv_at hl 3 rfl) ?_
        refine lv_iconst (v := (3 : Int32)) hx hb dX10_isPropped_33 (by decide) ?_
        refine lv_icmp_ge (tgt := 103) hx hb dX10_isPropped_34 (by decide) (fun c5 => ?_) (fun c5 => ?_)
        · replace hev := x_t c5 hev
          exact hex  (Option.some.inj hev).symm ls (lv_sub hl [] rfl)
        · replace hev := x_f c5 hev
          refine lv_iload hx hb dX10_isPropped_37 (lv_at hl 3 rfl) ?_
          refine lv_aload_n hx hb dX10_isPropped_39 rfl (lv_at hl 0 rfl) ?_
          refine va_get (D := G.1) (ci := 6) (v := .ref aT_told) (C := RX10) (T := TX10) (N := 14) hx hb hts i10 hown hK hP 0 rfl rfl 1 (by decide) (hw _ u417) (fun _ h9 => h9) rfl dX10_isPropped_40 ?_
          refine lv_iload_n hx hb dX10_isPropped_43 rfl (lv_at hl 1 rfl) ?_
          obtain ⟨y6, hq, hev⟩ := x_bd hev
          refine roV X hKK hR (st1 := [.int y6, .int x4]) (c_To_termsOf l G aT_told aT_told_kinds aT_told_targets aT_told_wakes aT_told_terms aT_told_sorts aT_told_numbers vT_told_people vT_told_spells vT_told_day vT_told_broken fT_told_terms x1 y6 hq) K_X8_termsOf u671 (x_Psub hP [1, 2] rfl) rfl (q0 := 0) rfl (by decide) ⟨Nat.zero_le _, Nat.zero_le _⟩ rfl hl.1 rfl (Nat.le_of_ble_eq_true rfl) rfl dX10_isPropped_44 ?_
          refine lv_icmp_ge (tgt := 103) hx hb dX10_isPropped_47 (by decide) (fun c7 => ?_) (fun c7 => ?_)
          · replace hev := x_t c7 hev
            exact hex  (Option.some.inj hev).symm ls (lv_sub hl [] rfl)
          · replace hev := x_f c7 hev
            refine lv_aload_n hx hb dX10_isPropped_50 rfl (lv_at hl 0 rfl) ?_
            refine lv_iload_n hx hb dX10_isPropped_51 rfl (lv_at hl 1 rfl) ?_
            refine lv_iload hx hb dX10_isPropped_52 (lv_at hl 3 rfl) ?_
            obtain ⟨y8, hq, hev⟩ := x_bd hev
            refine roV X hKK hR (st1 := [.int y8]) (c_SS_isSoNow l G aT aT_text aT_told aT_reader aT_rules aT_fromNow aT_whatIf aT_trials aT_undoable aT_keptStates aT_keptDeeds aT_row aT_princes aT_told_kinds aT_told_targets aT_told_wakes aT_told_terms aT_told_sorts aT_told_numbers vT_state vT_deeds vT_told_people vT_told_spells vT_told_day vT_told_broken fT_told_terms fT_told_sorts fT_told_numbers x1 x4 y8 hq) K_X10_isSoNow u679 (x_Psub hP [0, 1, 2, 3, 4] rfl) rfl (q0 := 0) rfl (by decide) ⟨Nat.zero_le _, Nat.zero_le _⟩ rfl hl.1 rfl (Nat.le_of_ble_eq_true rfl) rfl dX10_isPropped_54 ?_
            refine lv_if_ne (tgt := 97) hx hb dX10_isPropped_57 (by decide) (fun c9 => ?_) (fun c9 => ?_)
            · replace hev := x_f c9 hev
              obtain ⟨y10, ey10⟩ : ∃ y : Int32, y = x4 + (1 : Int32) := ⟨_, rfl⟩
              refine lv_iinc (v := y10) (lv' := [(4, .int y10), (0, .ref aT), (1, .int x1), (3, .int x3)]) hx hb dX10_isPropped_97 hl (k := 3) rfl (by rw [ey10]; rfl) (by decide) rfl (fun ls hl => ?_)
              replace hev := x_lt hev y10 ey10
              refine lv_goto (tgt := 31) hx hb dX10_isPropped_100 (by decide) ?_
              exact ih y10 _ hev hex hret ls (lv_sub hl [1, 2, 3, 0] rfl)
            · replace hev := x_t c9 hev
              refine lv_aload_n hx hb dX10_isPropped_60 rfl (lv_at hl 0 rfl) ?_
              refine va_get (D := G.1) (ci := 6) (v := .ref aT_told) (C := RX10) (T := TX10) (N := 14) hx hb hts i10 hown hK hP 0 rfl rfl 1 (by decide) (hw _ u417) (fun _ h9 => h9) rfl dX10_isPropped_61 ?_
              refine lv_iload_n hx hb dX10_isPropped_64 rfl (lv_at hl 1 rfl) ?_
              refine lv_iload hx hb dX10_isPropped_65 (lv_at hl 3 rfl) ?_
              obtain ⟨y11, hq, hev⟩ := x_bd hev
              refine roV X hKK hR (st1 := [.int y11]) (c_To_sortOf l G aT_told aT_told_kinds aT_told_targets aT_told_wakes aT_told_terms aT_told_sorts aT_told_numbers vT_told_people vT_told_spells vT_told_day vT_told_broken fT_told_terms fT_told_sorts x1 x4 y11 hq) K_X8_sortOf u677 (x_Psub hP [1, 2, 3] rfl) rfl (q0 := 0) rfl (by decide) ⟨Nat.zero_le _, Nat.zero_le _⟩ rfl hl.1 rfl (Nat.le_of_ble_eq_true rfl) rfl dX10_isPropped_67 ?_
              refine lv_iconst (v := (4 : Int32)) hx hb dX10_isPropped_70 (by decide) ?_
              refine lv_icmp_ne (tgt := 95) hx hb dX10_isPropped_71 (by decide) (fun c12 => ?_) (fun c12 => ?_)
              · replace hev := x_f c12 hev
                refine lv_iconst (v := (0 : Int32)) hx hb dX10_isPropped_95 (by decide) ?_
                exact ret _ _ _ dX10_isPropped_96 ((show narrow _ (.int (0 : Int32)) = .int (0 : Int32) from nb0).trans (congrArg Value.int (hret _ (Option.some.inj hev).symm)))
              · replace hev := x_t c12 hev
                refine lv_iload_n hx hb dX10_isPropped_74 rfl (lv_at hl 2 rfl) ?_
                refine lv_aload_n hx hb dX10_isPropped_75 rfl (lv_at hl 0 rfl) ?_
                refine va_get (D := G.1) (ci := 6) (v := .ref aT_told) (C := RX10) (T := TX10) (N := 14) hx hb hts i10 hown hK hP 0 rfl rfl 1 (by decide) (hw _ u417) (fun _ h9 => h9) rfl dX10_isPropped_76 ?_
                refine lv_iload_n hx hb dX10_isPropped_79 rfl (lv_at hl 1 rfl) ?_
                refine lv_iload hx hb dX10_isPropped_80 (lv_at hl 3 rfl) ?_
                obtain ⟨y13, hq, hev⟩ := x_bd hev
                refine roV X hKK hR (st1 := [.int y13, .int x3]) (c_To_numberOf l G aT_told aT_told_kinds aT_told_targets aT_told_wakes aT_told_terms aT_told_sorts aT_told_numbers vT_told_people vT_told_spells vT_told_day vT_told_broken fT_told_terms fT_told_numbers x1 x4 y13 hq) K_X8_numberOf u678 (x_Psub hP [1, 2, 4] rfl) rfl (q0 := 0) rfl (by decide) ⟨Nat.zero_le _, Nat.zero_le _⟩ rfl hl.1 rfl (Nat.le_of_ble_eq_true rfl) rfl dX10_isPropped_82 ?_
                refine lv_ishr hx hb dX10_isPropped_85 ?_
                refine lv_iconst (v := (1 : Int32)) hx hb dX10_isPropped_86 (by decide) ?_
                refine lv_iand hx hb dX10_isPropped_87 ?_
                refine lv_if_eq (tgt := 95) hx hb dX10_isPropped_88 (by decide) (fun c14 => ?_) (fun c14 => ?_)
                · replace hev := x_t c14 hev
                  refine lv_iconst (v := (0 : Int32)) hx hb dX10_isPropped_95 (by decide) ?_
                  exact ret _ _ _ dX10_isPropped_96 ((show narrow _ (.int (0 : Int32)) = .int (0 : Int32) from nb0).trans (congrArg Value.int (hret _ (Option.some.inj hev).symm)))
                · replace hev := x_f c14 hev
                  refine lv_iconst (v := (1 : Int32)) hx hb dX10_isPropped_91 (by decide) ?_
                  refine lv_goto (tgt := 96) hx hb dX10_isPropped_92 (by decide) ?_
                  exact ret _ _ _ dX10_isPropped_96 ((show narrow _ (.int (1 : Int32)) = .int (1 : Int32) from nb1).trans (congrArg Value.int (hret _ (Option.some.inj hev).symm)))
    rcases x_sd hev with ⟨q9, hq, hev⟩ | ⟨q9, hq, hev⟩
    · refine L31 p1 y4 k (0 : Int32) (.inl q9) hq ?_ (fun v he => by cases he) ls (lv_sub hl [2, 3, 1, 0] rfl)
      intro  he ls hl
      refine lv_iconst (v := (0 : Int32)) hx hb dX10_isPropped_103 (by decide) ?_
      exact ret _ _ _ dX10_isPropped_104 ((show narrow _ (.int (0 : Int32)) = .int (0 : Int32) from nb0).trans (congrArg Value.int (Option.some.inj hev)))
    · refine L31 p1 y4 k (0 : Int32) (.inr q9) hq (fun he => by cases he) (fun v he => ?_) ls (lv_sub hl [2, 3, 1, 0] rfl)
      rw [← Sum.inr.inj he]
      exact Option.some.inj hev
  · replace hev := x_f c3 hev
    refine lv_iconst (v := (0 : Int32)) hx hb dX10_isPropped_18 (by decide) ?_
    exact ret _ _ _ dX10_isPropped_19 ((show narrow _ (.int (0 : Int32)) = .int (0 : Int32) from nb0).trans (congrArg Value.int (Option.some.inj hev)))
def f_SS_row (k : Nat) (nT_row_items : Nat) (vT_row_size : Int32) (vT_rules_deedCount : Int32) (vT_told_people : Int32) (fT_row_items : Nat → Int32) (fT_rules_doers : Nat → Int32) (fT_rules_sorts : Nat → Int32) (fT_rules_whichs : Nat → Int32) (p1 : Int32) (p2 : Int32) (p3 : Int32) : Option (Int32 × Int32 × (Nat → Int32)) := x_B (f_SS_refusal vT_told_people p1 p2 p3) (fun y1 => if y1 = 0 then (x_B (f_Ru_deedOf k vT_rules_deedCount fT_rules_doers fT_rules_sorts fT_rules_whichs p1 p2 p3) (fun y3 => x_B (f_Rw_add nT_row_items vT_row_size fT_row_items y3) (fun ⟨y4, w5, w6⟩ => if y4 = 0 then (some ((-5 : Int32), w5, w6)) else x_B (f_Rw_size w5) (fun y8 => some (y8, w5, w6))))) else some (y1, vT_row_size, fT_row_items))
set_option maxHeartbeats 8000000 in
set_option maxRecDepth 100000 in
theorem c_SS_row (l : Launch) (G : GG) (aT aT_text aT_told aT_reader aT_rules aT_fromNow aT_whatIf aT_trials aT_undoable aT_keptStates aT_keptDeeds aT_row aT_princes aT_told_kinds aT_told_targets aT_told_wakes aT_told_terms aT_told_sorts aT_told_numbers aT_rules_masks aT_rules_values aT_rules_askings aT_rules_kissesNeeded aT_rules_wakings aT_rules_binders aT_rules_curses aT_rules_doers aT_rules_sorts aT_rules_whichs aT_rules_bars aT_rules_bits aT_rules_kisses aT_row_items : Nat) (vT_state : Int32) (vT_deeds : Int32) (vT_told_people : Int32) (vT_told_spells : Int32) (vT_told_day : Int32) (vT_told_broken : Int32) (vT_rules_people : Int32) (vT_rules_spells : Int32) (vT_rules_deedCount : Int32) (vT_row_size : Int32) (fT_rules_doers : Nat → Int32) (fT_rules_whichs : Nat → Int32) (fT_rules_sorts : Nat → Int32) (fT_row_items : Nat → Int32) (nT_row_items : Nat) (k : Nat) (p1 : Int32) (p2 : Int32) (p3 : Int32) (r0 : Int32) (wvT_row_size : Int32) (wfT_row_items : Nat → Int32) (hev : f_SS_row k nT_row_items vT_row_size vT_rules_deedCount vT_told_people fT_row_items fT_rules_doers fT_rules_sorts fT_rules_whichs p1 p2 p3 = some (r0, wvT_row_size, wfT_row_items)) : RW l G yX10_row cX10_row 5 (some .int) 3 [.ref aT, .int p1, .int p2, .int p3] [(aT, .inr (6, [.ref aT_text, .ref aT_told, .ref aT_reader, .ref aT_rules, .ref aT_fromNow, .ref aT_whatIf, .ref aT_trials, .ref aT_undoable, .ref aT_keptStates, .ref aT_keptDeeds, .ref aT_row, .ref aT_princes, .int vT_state, .int vT_deeds])), (aT_told, .inr (4, [.int vT_told_people, .int vT_told_spells, .int vT_told_day, .int vT_told_broken, .ref aT_told_kinds, .ref aT_told_targets, .ref aT_told_wakes, .ref aT_told_terms, .ref aT_told_sorts, .ref aT_told_numbers])), (aT_rules, .inr (2, [.int vT_rules_people, .int vT_rules_spells, .int vT_rules_deedCount, .ref aT_rules_masks, .ref aT_rules_values, .ref aT_rules_askings, .ref aT_rules_kissesNeeded, .ref aT_rules_wakings, .ref aT_rules_binders, .ref aT_rules_curses, .ref aT_rules_doers, .ref aT_rules_sorts, .ref aT_rules_whichs, .ref aT_rules_bars, .ref aT_rules_bits, .ref aT_rules_kisses])), (aT_row, .inr (1, [.ref aT_row_items, .int vT_row_size])), (aT_rules_doers, .inl (G.2.1, 19, .inl fT_rules_doers)), (aT_rules_whichs, .inl (G.2.1, 19, .inl fT_rules_whichs)), (aT_rules_sorts, .inl (G.2.1, 19, .inl fT_rules_sorts)), (aT_row_items, .inl (G.2.1, nT_row_items, .inl fT_row_items))] (some (.int r0)) [(aT, .inr (6, [.ref aT_text, .ref aT_told, .ref aT_reader, .ref aT_rules, .ref aT_fromNow, .ref aT_whatIf, .ref aT_trials, .ref aT_undoable, .ref aT_keptStates, .ref aT_keptDeeds, .ref aT_row, .ref aT_princes, .int vT_state, .int vT_deeds])), (aT_told, .inr (4, [.int vT_told_people, .int vT_told_spells, .int vT_told_day, .int vT_told_broken, .ref aT_told_kinds, .ref aT_told_targets, .ref aT_told_wakes, .ref aT_told_terms, .ref aT_told_sorts, .ref aT_told_numbers])), (aT_rules, .inr (2, [.int vT_rules_people, .int vT_rules_spells, .int vT_rules_deedCount, .ref aT_rules_masks, .ref aT_rules_values, .ref aT_rules_askings, .ref aT_rules_kissesNeeded, .ref aT_rules_wakings, .ref aT_rules_binders, .ref aT_rules_curses, .ref aT_rules_doers, .ref aT_rules_sorts, .ref aT_rules_whichs, .ref aT_rules_bars, .ref aT_rules_bits, .ref aT_rules_kisses])), (aT_row, .inr (1, [.ref aT_row_items, .int wvT_row_size])), (aT_rules_doers, .inl (G.2.1, 19, .inl fT_rules_doers)), (aT_rules_whichs, .inl (G.2.1, 19, .inl fT_rules_whichs)), (aT_rules_sorts, .inl (G.2.1, 19, .inl fT_rules_sorts)), (aT_row_items, .inl (G.2.1, nT_row_items, .inl wfT_row_items))] 0 0 := by
  refine RW_of (by decide) (Nat.le_of_ble_eq_true rfl) ?_
  intro p e s m ar below meth c R Q A ls X hR hRc hin hP hKK hD hS hA hAb hl ret
  obtain ⟨rs, hrs⟩ : ∃ q, q = (r0, wvT_row_size, wfT_row_items) := ⟨_, rfl⟩
  rw [← hrs] at hev
  have ret2 : ∀ (pc : Nat) (ls : Array Slot) (H : Heap) (lo : List Loc) (v r1 : Int32) (zvT_row_size : Int32) (zfT_row_items : Nat → Int32), (r1, zvT_row_size, zfT_row_items) = rs → decode cX10_row pc = .ok (.ireturn, 1) → narrow .int (.int v) = .int r1 → va_P G.1 classes [(aT, .inr (6, [.ref aT_text, .ref aT_told, .ref aT_reader, .ref aT_rules, .ref aT_fromNow, .ref aT_whatIf, .ref aT_trials, .ref aT_undoable, .ref aT_keptStates, .ref aT_keptDeeds, .ref aT_row, .ref aT_princes, .int vT_state, .int vT_deeds])), (aT_told, .inr (4, [.int vT_told_people, .int vT_told_spells, .int vT_told_day, .int vT_told_broken, .ref aT_told_kinds, .ref aT_told_targets, .ref aT_told_wakes, .ref aT_told_terms, .ref aT_told_sorts, .ref aT_told_numbers])), (aT_rules, .inr (2, [.int vT_rules_people, .int vT_rules_spells, .int vT_rules_deedCount, .ref aT_rules_masks, .ref aT_rules_values, .ref aT_rules_askings, .ref aT_rules_kissesNeeded, .ref aT_rules_wakings, .ref aT_rules_binders, .ref aT_rules_curses, .ref aT_rules_doers, .ref aT_rules_sorts, .ref aT_rules_whichs, .ref aT_rules_bars, .ref aT_rules_bits, .ref aT_rules_kisses])), (aT_row, .inr (1, [.ref aT_row_items, .int zvT_row_size])), (aT_rules_doers, .inl (G.2.1, 19, .inl fT_rules_doers)), (aT_rules_whichs, .inl (G.2.1, 19, .inl fT_rules_whichs)), (aT_rules_sorts, .inl (G.2.1, 19, .inl fT_rules_sorts)), (aT_row_items, .inl (G.2.1, nT_row_items, .inl zfT_row_items))] H → va_D A [(aT, .inr (6, [.ref aT_text, .ref aT_told, .ref aT_reader, .ref aT_rules, .ref aT_fromNow, .ref aT_whatIf, .ref aT_trials, .ref aT_undoable, .ref aT_keptStates, .ref aT_keptDeeds, .ref aT_row, .ref aT_princes, .int vT_state, .int vT_deeds])), (aT_told, .inr (4, [.int vT_told_people, .int vT_told_spells, .int vT_told_day, .int vT_told_broken, .ref aT_told_kinds, .ref aT_told_targets, .ref aT_told_wakes, .ref aT_told_terms, .ref aT_told_sorts, .ref aT_told_numbers])), (aT_rules, .inr (2, [.int vT_rules_people, .int vT_rules_spells, .int vT_rules_deedCount, .ref aT_rules_masks, .ref aT_rules_values, .ref aT_rules_askings, .ref aT_rules_kissesNeeded, .ref aT_rules_wakings, .ref aT_rules_binders, .ref aT_rules_curses, .ref aT_rules_doers, .ref aT_rules_sorts, .ref aT_rules_whichs, .ref aT_rules_bars, .ref aT_rules_bits, .ref aT_rules_kisses])), (aT_row, .inr (1, [.ref aT_row_items, .int zvT_row_size])), (aT_rules_doers, .inl (G.2.1, 19, .inl fT_rules_doers)), (aT_rules_whichs, .inl (G.2.1, 19, .inl fT_rules_whichs)), (aT_rules_sorts, .inl (G.2.1, 19, .inl fT_rules_sorts)), (aT_row_items, .inl (G.2.1, nT_row_items, .inl zfT_row_items))] → va_S A s.heap H lo → W p l e R s m ar below meth c H lo 0 0 Q (F0 m pc ls [.int v]) := by
    intro pc ls H lo v r1 zvT_row_size zfT_row_items he hd hn h1 h2 h3
    have he := he.trans hrs
    cases he
    exact ret.1 _ _ _ _ _ _ _ rfl rfl hd hn h1 h2 h3
  clear ret hrs
  have hl : lv_has ls 5 [(0, .ref aT), (1, .int p1), (2, .int p2), (3, .int p3)] := hl
  obtain ⟨hx, hb, hml, hown, hts, hT⟩ := id X
  have hK := hKK.1
  have hw : ∀ w ∈ T0, w.before ar s = true := fun w h => hts w (hT w h)
  have i10 := fun w h => hT w (inT10 w h)
  unfold f_SS_row at hev
  refine lv_aload_n hx hb dX10_row_0 rfl (lv_at hl 0 rfl) ?_
  refine lv_iload_n hx hb dX10_row_1 rfl (lv_at hl 1 rfl) ?_
  refine lv_iload_n hx hb dX10_row_2 rfl (lv_at hl 2 rfl) ?_
  refine lv_iload_n hx hb dX10_row_3 rfl (lv_at hl 3 rfl) ?_
  obtain ⟨y1, hq, hev⟩ := x_bd hev
  refine roV X (KK_at hKK hS hAb) hR (st1 := [.int y1]) (c_SS_refusal l G aT aT_text aT_told aT_reader aT_rules aT_fromNow aT_whatIf aT_trials aT_undoable aT_keptStates aT_keptDeeds aT_row aT_princes aT_told_kinds aT_told_targets aT_told_wakes aT_told_terms aT_told_sorts aT_told_numbers vT_state vT_deeds vT_told_people vT_told_spells vT_told_day vT_told_broken p1 p2 p3 y1 hq) K_X10_refusal u718 (x_Psub hP [0, 1] rfl) rfl (q0 := 0) rfl (by decide) ⟨Nat.zero_le _, Nat.zero_le _⟩ rfl hl.1 rfl (Nat.le_of_ble_eq_true rfl) rfl dX10_row_4 ?_
  refine lv_istore (lv' := [(4, .int y1), (0, .ref aT), (1, .int p1), (2, .int p2), (3, .int p3)]) hx hb dX10_row_7 hl (by decide) rfl (fun ls hl => ?_)
  refine lv_iload hx hb dX10_row_9 (lv_at hl 0 rfl) ?_
  refine lv_if_eq (tgt := 17) hx hb dX10_row_11 (by decide) (fun c2 => ?_) (fun c2 => ?_)
  · replace hev := x_t c2 hev
    refine lv_aload_n hx hb dX10_row_17 rfl (lv_at hl 1 rfl) ?_
    refine va_get (D := G.1) (ci := 6) (v := .ref aT_row) (C := RX10) (T := TX10) (N := 14) hx hb hts i10 hown hK hP 0 rfl rfl 10 (by decide) (hw _ u426) (fun _ h9 => h9) rfl dX10_row_18 ?_
    refine lv_aload_n hx hb dX10_row_21 rfl (lv_at hl 1 rfl) ?_
    refine va_get (D := G.1) (ci := 6) (v := .ref aT_rules) (C := RX10) (T := TX10) (N := 14) hx hb hts i10 hown hK hP 0 rfl rfl 3 (by decide) (hw _ u419) (fun _ h9 => h9) rfl dX10_row_22 ?_
    refine lv_iload_n hx hb dX10_row_25 rfl (lv_at hl 2 rfl) ?_
    refine lv_iload_n hx hb dX10_row_26 rfl (lv_at hl 3 rfl) ?_
    refine lv_iload_n hx hb dX10_row_27 rfl (lv_at hl 4 rfl) ?_
    obtain ⟨y3, hq, hev⟩ := x_bd hev
    refine roV X (KK_at hKK hS hAb) hR (st1 := [.int y3, .ref aT_row]) (c_Ru_deedOf l G aT_rules aT_rules_masks aT_rules_values aT_rules_askings aT_rules_kissesNeeded aT_rules_wakings aT_rules_binders aT_rules_curses aT_rules_doers aT_rules_sorts aT_rules_whichs aT_rules_bars aT_rules_bits aT_rules_kisses vT_rules_people vT_rules_spells vT_rules_deedCount fT_rules_doers fT_rules_whichs fT_rules_sorts k p1 p2 p3 y3 hq) K_X4_deedOf u726 (x_Psub hP [2, 4, 5, 6] rfl) rfl (q0 := 0) rfl (by decide) ⟨Nat.zero_le _, Nat.zero_le _⟩ rfl hl.1 rfl (Nat.le_of_ble_eq_true rfl) rfl dX10_row_28 ?_
    obtain ⟨⟨y4, w5, w6⟩, hq, hev⟩ := x_bd hev
    refine rwV X (KK_at hKK hS hAb) hR (st1 := [.int y4]) (ws2 := [(aT, .inr (6, [.ref aT_text, .ref aT_told, .ref aT_reader, .ref aT_rules, .ref aT_fromNow, .ref aT_whatIf, .ref aT_trials, .ref aT_undoable, .ref aT_keptStates, .ref aT_keptDeeds, .ref aT_row, .ref aT_princes, .int vT_state, .int vT_deeds])), (aT_told, .inr (4, [.int vT_told_people, .int vT_told_spells, .int vT_told_day, .int vT_told_broken, .ref aT_told_kinds, .ref aT_told_targets, .ref aT_told_wakes, .ref aT_told_terms, .ref aT_told_sorts, .ref aT_told_numbers])), (aT_rules, .inr (2, [.int vT_rules_people, .int vT_rules_spells, .int vT_rules_deedCount, .ref aT_rules_masks, .ref aT_rules_values, .ref aT_rules_askings, .ref aT_rules_kissesNeeded, .ref aT_rules_wakings, .ref aT_rules_binders, .ref aT_rules_curses, .ref aT_rules_doers, .ref aT_rules_sorts, .ref aT_rules_whichs, .ref aT_rules_bars, .ref aT_rules_bits, .ref aT_rules_kisses])), (aT_row, .inr (1, [.ref aT_row_items, .int w5])), (aT_rules_doers, .inl (G.2.1, 19, .inl fT_rules_doers)), (aT_rules_whichs, .inl (G.2.1, 19, .inl fT_rules_whichs)), (aT_rules_sorts, .inl (G.2.1, 19, .inl fT_rules_sorts)), (aT_row_items, .inl (G.2.1, nT_row_items, .inl w6))]) (c_Rw_add l G aT_row aT_row_items vT_row_size fT_row_items nT_row_items y3 y4 w5 w6 hq) K_X3_add u463 hP hD hS hA hAb [3, 7] rfl rfl rfl rfl rfl (q0 := 0) rfl (by decide) ⟨Nat.zero_le _, Nat.zero_le _⟩ rfl hl.1 rfl (Nat.le_of_ble_eq_true rfl) rfl dX10_row_31 (fun H lo hP hD hS => ?_)
    refine lv_if_eq (tgt := 47) hx hb dX10_row_34 (by decide) (fun c7 => ?_) (fun c7 => ?_)
    · replace hev := x_t c7 hev
      refine lv_bipush (v := (-5 : Int32)) hx hb dX10_row_47 (by decide) ?_
      exact ret2 _ _ _ _ (-5 : Int32) (-5 : Int32) w5 w6 (Option.some.inj hev) dX10_row_49 (show narrow _ (.int (-5 : Int32)) = .int (-5 : Int32) from rfl) hP hD hS
    · replace hev := x_f c7 hev
      refine lv_aload_n hx hb dX10_row_37 rfl (lv_at hl 1 rfl) ?_
      refine va_get (D := G.1) (ci := 6) (v := .ref aT_row) (C := RX10) (T := TX10) (N := 14) hx hb hts i10 hown hK hP 0 rfl rfl 10 (by decide) (hw _ u426) (fun _ h9 => h9) rfl dX10_row_38 ?_
      obtain ⟨y8, hq, hev⟩ := x_bd hev
      refine roV X (KK_at hKK hS hAb) hR (st1 := [.int y8]) (c_Rw_size l G aT_row aT_row_items w5 y8 hq) K_X3_size u467 (x_Psub hP [3] rfl) rfl (q0 := 0) rfl (by decide) ⟨Nat.zero_le _, Nat.zero_le _⟩ rfl hl.1 rfl (Nat.le_of_ble_eq_true rfl) rfl dX10_row_41 ?_
      refine lv_goto (tgt := 49) hx hb dX10_row_44 (by decide) ?_
      exact ret2 _ _ _ _ y8 y8 w5 w6 (Option.some.inj hev) dX10_row_49 (show narrow _ (.int y8) = .int y8 from rfl) hP hD hS
  · replace hev := x_f c2 hev
    refine lv_iload hx hb dX10_row_14 (lv_at hl 0 rfl) ?_
    exact ret2 _ _ _ _ y1 y1 vT_row_size fT_row_items (Option.some.inj hev) dX10_row_16 (show narrow _ (.int y1) = .int y1 from rfl) hP hD hS
def f_SS_burn (vT_row_size : Int32) : Option (Int32 × Int32) := x_B (f_Rw_empty vT_row_size) (fun ⟨y1, w2⟩ => some (y1, w2))
set_option maxHeartbeats 8000000 in
set_option maxRecDepth 100000 in
theorem c_SS_burn (l : Launch) (G : GG) (aT aT_text aT_told aT_reader aT_rules aT_fromNow aT_whatIf aT_trials aT_undoable aT_keptStates aT_keptDeeds aT_row aT_princes aT_row_items : Nat) (vT_state : Int32) (vT_deeds : Int32) (vT_row_size : Int32) (r0 : Int32) (wvT_row_size : Int32) (hev : f_SS_burn vT_row_size = some (r0, wvT_row_size)) : RW l G yX10_burn cX10_burn 1 (some .int) 1 [.ref aT] [(aT, .inr (6, [.ref aT_text, .ref aT_told, .ref aT_reader, .ref aT_rules, .ref aT_fromNow, .ref aT_whatIf, .ref aT_trials, .ref aT_undoable, .ref aT_keptStates, .ref aT_keptDeeds, .ref aT_row, .ref aT_princes, .int vT_state, .int vT_deeds])), (aT_row, .inr (1, [.ref aT_row_items, .int vT_row_size]))] (some (.int r0)) [(aT, .inr (6, [.ref aT_text, .ref aT_told, .ref aT_reader, .ref aT_rules, .ref aT_fromNow, .ref aT_whatIf, .ref aT_trials, .ref aT_undoable, .ref aT_keptStates, .ref aT_keptDeeds, .ref aT_row, .ref aT_princes, .int vT_state, .int vT_deeds])), (aT_row, .inr (1, [.ref aT_row_items, .int wvT_row_size]))] 0 0 := by
  refine RW_of (by decide) (Nat.le_of_ble_eq_true rfl) ?_
  intro p e s m ar below meth c R Q A ls X hR hRc hin hP hKK hD hS hA hAb hl ret
  obtain ⟨rs, hrs⟩ : ∃ q, q = (r0, wvT_row_size) := ⟨_, rfl⟩
  rw [← hrs] at hev
  have ret2 : ∀ (pc : Nat) (ls : Array Slot) (H : Heap) (lo : List Loc) (v r1 : Int32) (zvT_row_size : Int32), (r1, zvT_row_size) = rs → decode cX10_burn pc = .ok (.ireturn, 1) → narrow .int (.int v) = .int r1 → va_P G.1 classes [(aT, .inr (6, [.ref aT_text, .ref aT_told, .ref aT_reader, .ref aT_rules, .ref aT_fromNow, .ref aT_whatIf, .ref aT_trials, .ref aT_undoable, .ref aT_keptStates, .ref aT_keptDeeds, .ref aT_row, .ref aT_princes, .int vT_state, .int vT_deeds])), (aT_row, .inr (1, [.ref aT_row_items, .int zvT_row_size]))] H → va_D A [(aT, .inr (6, [.ref aT_text, .ref aT_told, .ref aT_reader, .ref aT_rules, .ref aT_fromNow, .ref aT_whatIf, .ref aT_trials, .ref aT_undoable, .ref aT_keptStates, .ref aT_keptDeeds, .ref aT_row, .ref aT_princes, .int vT_state, .int vT_deeds])), (aT_row, .inr (1, [.ref aT_row_items, .int zvT_row_size]))] → va_S A s.heap H lo → W p l e R s m ar below meth c H lo 0 0 Q (F0 m pc ls [.int v]) := by
    intro pc ls H lo v r1 zvT_row_size he hd hn h1 h2 h3
    have he := he.trans hrs
    cases he
    exact ret.1 _ _ _ _ _ _ _ rfl rfl hd hn h1 h2 h3
  clear ret hrs
  have hl : lv_has ls 1 [(0, .ref aT)] := hl
  obtain ⟨hx, hb, hml, hown, hts, hT⟩ := id X
  have hK := hKK.1
  have hw : ∀ w ∈ T0, w.before ar s = true := fun w h => hts w (hT w h)
  have i10 := fun w h => hT w (inT10 w h)
  unfold f_SS_burn at hev
  refine lv_aload_n hx hb dX10_burn_0 rfl (lv_at hl 0 rfl) ?_
  refine va_get (D := G.1) (ci := 6) (v := .ref aT_row) (C := RX10) (T := TX10) (N := 14) hx hb hts i10 hown hK hP 0 rfl rfl 10 (by decide) (hw _ u426) (fun _ h9 => h9) rfl dX10_burn_1 ?_
  obtain ⟨⟨y1, w2⟩, hq, hev⟩ := x_bd hev
  refine rwV X (KK_at hKK hS hAb) hR (st1 := [.int y1]) (ws2 := [(aT, .inr (6, [.ref aT_text, .ref aT_told, .ref aT_reader, .ref aT_rules, .ref aT_fromNow, .ref aT_whatIf, .ref aT_trials, .ref aT_undoable, .ref aT_keptStates, .ref aT_keptDeeds, .ref aT_row, .ref aT_princes, .int vT_state, .int vT_deeds])), (aT_row, .inr (1, [.ref aT_row_items, .int w2]))]) (c_Rw_empty l G aT_row aT_row_items vT_row_size y1 w2 hq) K_X3_empty u406 hP hD hS hA hAb [1] rfl rfl rfl rfl rfl (q0 := 0) rfl (by decide) ⟨Nat.zero_le _, Nat.zero_le _⟩ rfl hl.1 rfl (Nat.le_of_ble_eq_true rfl) rfl dX10_burn_4 (fun H lo hP hD hS => ?_)
  exact ret2 _ _ _ _ y1 y1 w2 (Option.some.inj hev) dX10_burn_7 (show narrow _ (.int y1) = .int y1 from rfl) hP hD hS
