def f_To_people (vT_people : Int32) : Option (Int32) := some vT_people
set_option maxHeartbeats 8000000 in
set_option maxRecDepth 100000 in
theorem c_To_people (l : Launch) (G : GG) (aT aT_kinds aT_targets aT_wakes aT_terms aT_sorts aT_numbers : Nat) (vT_people : Int32) (vT_spells : Int32) (vT_day : Int32) (vT_broken : Int32) (r0 : Int32) (hev : f_To_people vT_people = some r0) : RO l G yX8_people cX8_people 1 (some .int) 0 [.ref aT] [(aT, .inr (4, [.int vT_people, .int vT_spells, .int vT_day, .int vT_broken, .ref aT_kinds, .ref aT_targets, .ref aT_wakes, .ref aT_terms, .ref aT_sorts, .ref aT_numbers]))] (some (.int r0)) := by
  refine RO_of (by decide) (Nat.le_of_ble_eq_true rfl) ?_
  intro p e s m ar below meth c R Q H ls X hR hP hKK hS0 hl ret
  generalize hrs : r0 = rs at hev ret
  have hl : lv_has ls 1 [(0, .ref aT)] := hl
  obtain ⟨hx, hb, hml, hown, hts, hT⟩ := id X
  have hK := hKK.1
  have hw : ∀ w ∈ T0, w.before ar s = true := fun w h => hts w (hT w h)
  have i8 := fun w h => hT w (inT8 w h)
  unfold f_To_people at hev
  refine lv_aload_n hx hb dX8_people_0 rfl (lv_at hl 0 rfl) ?_
  refine va_get (D := G.1) (ci := 4) (v := .int vT_people) (C := RX8) (T := TX8) (N := 10) hx hb hts i8 hown hK hP 0 rfl rfl 0 (by decide) (hw _ u131) (fun _ h9 => h9) rfl dX8_people_1 ?_
  exact ret _ _ _ dX8_people_4 ((show narrow _ (.int vT_people) = .int vT_people from rfl).trans (congrArg Value.int (Option.some.inj hev)))
def f_To_spells (vT_spells : Int32) : Option (Int32) := some vT_spells
set_option maxHeartbeats 8000000 in
set_option maxRecDepth 100000 in
theorem c_To_spells (l : Launch) (G : GG) (aT aT_kinds aT_targets aT_wakes aT_terms aT_sorts aT_numbers : Nat) (vT_people : Int32) (vT_spells : Int32) (vT_day : Int32) (vT_broken : Int32) (r0 : Int32) (hev : f_To_spells vT_spells = some r0) : RO l G yX8_spells cX8_spells 1 (some .int) 0 [.ref aT] [(aT, .inr (4, [.int vT_people, .int vT_spells, .int vT_day, .int vT_broken, .ref aT_kinds, .ref aT_targets, .ref aT_wakes, .ref aT_terms, .ref aT_sorts, .ref aT_numbers]))] (some (.int r0)) := by
  refine RO_of (by decide) (Nat.le_of_ble_eq_true rfl) ?_
  intro p e s m ar below meth c R Q H ls X hR hP hKK hS0 hl ret
  generalize hrs : r0 = rs at hev ret
  have hl : lv_has ls 1 [(0, .ref aT)] := hl
  obtain ⟨hx, hb, hml, hown, hts, hT⟩ := id X
  have hK := hKK.1
  have hw : ∀ w ∈ T0, w.before ar s = true := fun w h => hts w (hT w h)
  have i8 := fun w h => hT w (inT8 w h)
  unfold f_To_spells at hev
  refine lv_aload_n hx hb dX8_spells_0 rfl (lv_at hl 0 rfl) ?_
  refine va_get (D := G.1) (ci := 4) (v := .int vT_spells) (C := RX8) (T := TX8) (N := 10) hx hb hts i8 hown hK hP 0 rfl rfl 1 (by decide) (hw _ u132) (fun _ h9 => h9) rfl dX8_spells_1 ?_
  exact ret _ _ _ dX8_spells_4 ((show narrow _ (.int vT_spells) = .int vT_spells from rfl).trans (congrArg Value.int (Option.some.inj hev)))
def f_To_hasSpell (vT_spells : Int32) (p1 : Int32) : Option (Int32) := if p1 < 0 then (some (0 : Int32)) else if vT_spells ≤ p1 then (some (0 : Int32)) else if (5 : Int32) ≤ p1 then (some (0 : Int32)) else some (1 : Int32)
set_option maxHeartbeats 8000000 in
set_option maxRecDepth 100000 in
theorem c_To_hasSpell (l : Launch) (G : GG) (aT aT_kinds aT_targets aT_wakes aT_terms aT_sorts aT_numbers : Nat) (vT_people : Int32) (vT_spells : Int32) (vT_day : Int32) (vT_broken : Int32) (p1 : Int32) (r0 : Int32) (hev : f_To_hasSpell vT_spells p1 = some r0) : RO l G yX8_hasSpell cX8_hasSpell 2 (some .boolean) 0 [.ref aT, .int p1] [(aT, .inr (4, [.int vT_people, .int vT_spells, .int vT_day, .int vT_broken, .ref aT_kinds, .ref aT_targets, .ref aT_wakes, .ref aT_terms, .ref aT_sorts, .ref aT_numbers]))] (some (.int r0)) := by
  refine RO_of (by decide) (Nat.le_of_ble_eq_true rfl) ?_
  intro p e s m ar below meth c R Q H ls X hR hP hKK hS0 hl ret
  generalize hrs : r0 = rs at hev ret
  have hl : lv_has ls 2 [(0, .ref aT), (1, .int p1)] := hl
  obtain ⟨hx, hb, hml, hown, hts, hT⟩ := id X
  have hK := hKK.1
  have hw : ∀ w ∈ T0, w.before ar s = true := fun w h => hts w (hT w h)
  have i8 := fun w h => hT w (inT8 w h)
  unfold f_To_hasSpell at hev
  refine lv_iload_n hx hb dX8_hasSpell_0 rfl (lv_at hl 1 rfl) ?_
  refine lv_if_lt (tgt := 21) hx hb dX8_hasSpell_1 (by decide) (fun c1 => ?_) (fun c1 => ?_)
  · replace hev := x_t c1 hev
    refine lv_iconst (v := (0 : Int32)) hx hb dX8_hasSpell_21 (by decide) ?_
    exact ret _ _ _ dX8_hasSpell_22 ((show narrow _ (.int (0 : Int32)) = .int (0 : Int32) from nb0).trans (congrArg Value.int (Option.some.inj hev)))
  · replace hev := x_f c1 hev
    refine lv_iload_n hx hb dX8_hasSpell_4 rfl (lv_at hl 1 rfl) ?_
    refine lv_aload_n hx hb dX8_hasSpell_5 rfl (lv_at hl 0 rfl) ?_
    refine va_get (D := G.1) (ci := 4) (v := .int vT_spells) (C := RX8) (T := TX8) (N := 10) hx hb hts i8 hown hK hP 0 rfl rfl 1 (by decide) (hw _ u132) (fun _ h9 => h9) rfl dX8_hasSpell_6 ?_
    refine lv_icmp_ge (tgt := 21) hx hb dX8_hasSpell_9 (by decide) (fun c2 => ?_) (fun c2 => ?_)
    · replace hev := x_t c2 hev
      refine lv_iconst (v := (0 : Int32)) hx hb dX8_hasSpell_21 (by decide) ?_
      exact ret _ _ _ dX8_hasSpell_22 ((show narrow _ (.int (0 : Int32)) = .int (0 : Int32) from nb0).trans (congrArg Value.int (Option.some.inj hev)))
    · replace hev := x_f c2 hev
      refine lv_iload_n hx hb dX8_hasSpell_12 rfl (lv_at hl 1 rfl) ?_
      refine lv_iconst (v := (5 : Int32)) hx hb dX8_hasSpell_13 (by decide) ?_
      refine lv_icmp_ge (tgt := 21) hx hb dX8_hasSpell_14 (by decide) (fun c3 => ?_) (fun c3 => ?_)
      · replace hev := x_t c3 hev
        refine lv_iconst (v := (0 : Int32)) hx hb dX8_hasSpell_21 (by decide) ?_
        exact ret _ _ _ dX8_hasSpell_22 ((show narrow _ (.int (0 : Int32)) = .int (0 : Int32) from nb0).trans (congrArg Value.int (Option.some.inj hev)))
      · replace hev := x_f c3 hev
        refine lv_iconst (v := (1 : Int32)) hx hb dX8_hasSpell_17 (by decide) ?_
        refine lv_goto (tgt := 22) hx hb dX8_hasSpell_18 (by decide) ?_
        exact ret _ _ _ dX8_hasSpell_22 ((show narrow _ (.int (1 : Int32)) = .int (1 : Int32) from nb1).trans (congrArg Value.int (Option.some.inj hev)))
def f_To_kindOf (vT_spells : Int32) (fT_kinds : Nat → Int32) (p1 : Int32) : Option (Int32) := x_B (f_To_hasSpell vT_spells p1) (fun y1 => if y1 = 0 then (some (-1 : Int32)) else x_I 5 fT_kinds p1 (fun v4 => some v4))
set_option maxHeartbeats 8000000 in
set_option maxRecDepth 100000 in
theorem c_To_kindOf (l : Launch) (G : GG) (aT aT_kinds aT_targets aT_wakes aT_terms aT_sorts aT_numbers : Nat) (vT_people : Int32) (vT_spells : Int32) (vT_day : Int32) (vT_broken : Int32) (fT_kinds : Nat → Int32) (p1 : Int32) (r0 : Int32) (hev : f_To_kindOf vT_spells fT_kinds p1 = some r0) : RO l G yX8_kindOf cX8_kindOf 2 (some .int) 1 [.ref aT, .int p1] [(aT, .inr (4, [.int vT_people, .int vT_spells, .int vT_day, .int vT_broken, .ref aT_kinds, .ref aT_targets, .ref aT_wakes, .ref aT_terms, .ref aT_sorts, .ref aT_numbers])), (aT_kinds, .inl (G.2.1, 5, .inl fT_kinds))] (some (.int r0)) := by
  refine RO_of (by decide) (Nat.le_of_ble_eq_true rfl) ?_
  intro p e s m ar below meth c R Q H ls X hR hP hKK hS0 hl ret
  generalize hrs : r0 = rs at hev ret
  have hl : lv_has ls 2 [(0, .ref aT), (1, .int p1)] := hl
  obtain ⟨hx, hb, hml, hown, hts, hT⟩ := id X
  have hK := hKK.1
  have hw : ∀ w ∈ T0, w.before ar s = true := fun w h => hts w (hT w h)
  have i8 := fun w h => hT w (inT8 w h)
  unfold f_To_kindOf at hev
  refine lv_aload_n hx hb dX8_kindOf_0 rfl (lv_at hl 0 rfl) ?_
  refine lv_iload_n hx hb dX8_kindOf_1 rfl (lv_at hl 1 rfl) ?_
  obtain ⟨y1, hq, hev⟩ := x_bd hev
  refine roV X hKK hR (st1 := [.int y1]) (c_To_hasSpell l G aT aT_kinds aT_targets aT_wakes aT_terms aT_sorts aT_numbers vT_people vT_spells vT_day vT_broken p1 y1 hq) K_X8_hasSpell u332 (x_Psub hP [0] rfl) rfl (q0 := 0) rfl (by decide) ⟨Nat.zero_le _, Nat.zero_le _⟩ rfl hl.1 rfl (Nat.le_of_ble_eq_true rfl) rfl dX8_kindOf_2 ?_
  refine lv_if_eq (tgt := 17) hx hb dX8_kindOf_5 (by decide) (fun c2 => ?_) (fun c2 => ?_)
  · replace hev := x_t c2 hev
    refine lv_iconst (v := (-1 : Int32)) hx hb dX8_kindOf_17 (by decide) ?_
    exact ret _ _ _ dX8_kindOf_18 ((show narrow _ (.int (-1 : Int32)) = .int (-1 : Int32) from rfl).trans (congrArg Value.int (Option.some.inj hev)))
  · replace hev := x_f c2 hev
    refine lv_aload_n hx hb dX8_kindOf_8 rfl (lv_at hl 0 rfl) ?_
    refine va_get (D := G.1) (ci := 4) (v := .ref aT_kinds) (C := RX8) (T := TX8) (N := 10) hx hb hts i8 hown hK hP 0 rfl rfl 4 (by decide) (hw _ u135) (fun _ h9 => h9) rfl dX8_kindOf_9 ?_
    refine lv_iload_n hx hb dX8_kindOf_12 rfl (lv_at hl 1 rfl) ?_
    obtain ⟨h3, hev⟩ := x_ld hev
    refine va_iald hx hb hK hP 1 0 rfl rfl h3 dX8_kindOf_13 ?_
    refine lv_topi (fun v4 ev4 => ?_)
    replace hev := hev v4 ev4
    refine lv_goto (tgt := 18) hx hb dX8_kindOf_14 (by decide) ?_
    exact ret _ _ _ dX8_kindOf_18 ((show narrow _ (.int v4) = .int v4 from rfl).trans (congrArg Value.int (Option.some.inj hev)))
def f_To_targetOf (vT_spells : Int32) (fT_targets : Nat → Int32) (p1 : Int32) : Option (Int32) := x_B (f_To_hasSpell vT_spells p1) (fun y1 => if y1 = 0 then (some (-1 : Int32)) else x_I 5 fT_targets p1 (fun v4 => some v4))
set_option maxHeartbeats 8000000 in
set_option maxRecDepth 100000 in
theorem c_To_targetOf (l : Launch) (G : GG) (aT aT_kinds aT_targets aT_wakes aT_terms aT_sorts aT_numbers : Nat) (vT_people : Int32) (vT_spells : Int32) (vT_day : Int32) (vT_broken : Int32) (fT_targets : Nat → Int32) (p1 : Int32) (r0 : Int32) (hev : f_To_targetOf vT_spells fT_targets p1 = some r0) : RO l G yX8_targetOf cX8_targetOf 2 (some .int) 1 [.ref aT, .int p1] [(aT, .inr (4, [.int vT_people, .int vT_spells, .int vT_day, .int vT_broken, .ref aT_kinds, .ref aT_targets, .ref aT_wakes, .ref aT_terms, .ref aT_sorts, .ref aT_numbers])), (aT_targets, .inl (G.2.1, 5, .inl fT_targets))] (some (.int r0)) := by
  refine RO_of (by decide) (Nat.le_of_ble_eq_true rfl) ?_
  intro p e s m ar below meth c R Q H ls X hR hP hKK hS0 hl ret
  generalize hrs : r0 = rs at hev ret
  have hl : lv_has ls 2 [(0, .ref aT), (1, .int p1)] := hl
  obtain ⟨hx, hb, hml, hown, hts, hT⟩ := id X
  have hK := hKK.1
  have hw : ∀ w ∈ T0, w.before ar s = true := fun w h => hts w (hT w h)
  have i8 := fun w h => hT w (inT8 w h)
  unfold f_To_targetOf at hev
  refine lv_aload_n hx hb dX8_targetOf_0 rfl (lv_at hl 0 rfl) ?_
  refine lv_iload_n hx hb dX8_targetOf_1 rfl (lv_at hl 1 rfl) ?_
  obtain ⟨y1, hq, hev⟩ := x_bd hev
  refine roV X hKK hR (st1 := [.int y1]) (c_To_hasSpell l G aT aT_kinds aT_targets aT_wakes aT_terms aT_sorts aT_numbers vT_people vT_spells vT_day vT_broken p1 y1 hq) K_X8_hasSpell u332 (x_Psub hP [0] rfl) rfl (q0 := 0) rfl (by decide) ⟨Nat.zero_le _, Nat.zero_le _⟩ rfl hl.1 rfl (Nat.le_of_ble_eq_true rfl) rfl dX8_targetOf_2 ?_
  refine lv_if_eq (tgt := 17) hx hb dX8_targetOf_5 (by decide) (fun c2 => ?_) (fun c2 => ?_)
  · replace hev := x_t c2 hev
    refine lv_iconst (v := (-1 : Int32)) hx hb dX8_targetOf_17 (by decide) ?_
    exact ret _ _ _ dX8_targetOf_18 ((show narrow _ (.int (-1 : Int32)) = .int (-1 : Int32) from rfl).trans (congrArg Value.int (Option.some.inj hev)))
  · replace hev := x_f c2 hev
    refine lv_aload_n hx hb dX8_targetOf_8 rfl (lv_at hl 0 rfl) ?_
    refine va_get (D := G.1) (ci := 4) (v := .ref aT_targets) (C := RX8) (T := TX8) (N := 10) hx hb hts i8 hown hK hP 0 rfl rfl 5 (by decide) (hw _ u136) (fun _ h9 => h9) rfl dX8_targetOf_9 ?_
    refine lv_iload_n hx hb dX8_targetOf_12 rfl (lv_at hl 1 rfl) ?_
    obtain ⟨h3, hev⟩ := x_ld hev
    refine va_iald hx hb hK hP 1 0 rfl rfl h3 dX8_targetOf_13 ?_
    refine lv_topi (fun v4 ev4 => ?_)
    replace hev := hev v4 ev4
    refine lv_goto (tgt := 18) hx hb dX8_targetOf_14 (by decide) ?_
    exact ret _ _ _ dX8_targetOf_18 ((show narrow _ (.int v4) = .int v4 from rfl).trans (congrArg Value.int (Option.some.inj hev)))
def f_To_wakenedBy (vT_spells : Int32) (fT_wakes : Nat → Int32) (p1 : Int32) : Option (Int32) := x_B (f_To_hasSpell vT_spells p1) (fun y1 => if y1 = 0 then (some (-1 : Int32)) else x_I 5 fT_wakes p1 (fun v4 => some v4))
set_option maxHeartbeats 8000000 in
set_option maxRecDepth 100000 in
theorem c_To_wakenedBy (l : Launch) (G : GG) (aT aT_kinds aT_targets aT_wakes aT_terms aT_sorts aT_numbers : Nat) (vT_people : Int32) (vT_spells : Int32) (vT_day : Int32) (vT_broken : Int32) (fT_wakes : Nat → Int32) (p1 : Int32) (r0 : Int32) (hev : f_To_wakenedBy vT_spells fT_wakes p1 = some r0) : RO l G yX8_wakenedBy cX8_wakenedBy 2 (some .int) 1 [.ref aT, .int p1] [(aT, .inr (4, [.int vT_people, .int vT_spells, .int vT_day, .int vT_broken, .ref aT_kinds, .ref aT_targets, .ref aT_wakes, .ref aT_terms, .ref aT_sorts, .ref aT_numbers])), (aT_wakes, .inl (G.2.1, 5, .inl fT_wakes))] (some (.int r0)) := by
  refine RO_of (by decide) (Nat.le_of_ble_eq_true rfl) ?_
  intro p e s m ar below meth c R Q H ls X hR hP hKK hS0 hl ret
  generalize hrs : r0 = rs at hev ret
  have hl : lv_has ls 2 [(0, .ref aT), (1, .int p1)] := hl
  obtain ⟨hx, hb, hml, hown, hts, hT⟩ := id X
  have hK := hKK.1
  have hw : ∀ w ∈ T0, w.before ar s = true := fun w h => hts w (hT w h)
  have i8 := fun w h => hT w (inT8 w h)
  unfold f_To_wakenedBy at hev
  refine lv_aload_n hx hb dX8_wakenedBy_0 rfl (lv_at hl 0 rfl) ?_
  refine lv_iload_n hx hb dX8_wakenedBy_1 rfl (lv_at hl 1 rfl) ?_
  obtain ⟨y1, hq, hev⟩ := x_bd hev
  refine roV X hKK hR (st1 := [.int y1]) (c_To_hasSpell l G aT aT_kinds aT_targets aT_wakes aT_terms aT_sorts aT_numbers vT_people vT_spells vT_day vT_broken p1 y1 hq) K_X8_hasSpell u332 (x_Psub hP [0] rfl) rfl (q0 := 0) rfl (by decide) ⟨Nat.zero_le _, Nat.zero_le _⟩ rfl hl.1 rfl (Nat.le_of_ble_eq_true rfl) rfl dX8_wakenedBy_2 ?_
  refine lv_if_eq (tgt := 17) hx hb dX8_wakenedBy_5 (by decide) (fun c2 => ?_) (fun c2 => ?_)
  · replace hev := x_t c2 hev
    refine lv_iconst (v := (-1 : Int32)) hx hb dX8_wakenedBy_17 (by decide) ?_
    exact ret _ _ _ dX8_wakenedBy_18 ((show narrow _ (.int (-1 : Int32)) = .int (-1 : Int32) from rfl).trans (congrArg Value.int (Option.some.inj hev)))
  · replace hev := x_f c2 hev
    refine lv_aload_n hx hb dX8_wakenedBy_8 rfl (lv_at hl 0 rfl) ?_
    refine va_get (D := G.1) (ci := 4) (v := .ref aT_wakes) (C := RX8) (T := TX8) (N := 10) hx hb hts i8 hown hK hP 0 rfl rfl 6 (by decide) (hw _ u137) (fun _ h9 => h9) rfl dX8_wakenedBy_9 ?_
    refine lv_iload_n hx hb dX8_wakenedBy_12 rfl (lv_at hl 1 rfl) ?_
    obtain ⟨h3, hev⟩ := x_ld hev
    refine va_iald hx hb hK hP 1 0 rfl rfl h3 dX8_wakenedBy_13 ?_
    refine lv_topi (fun v4 ev4 => ?_)
    replace hev := hev v4 ev4
    refine lv_goto (tgt := 18) hx hb dX8_wakenedBy_14 (by decide) ?_
    exact ret _ _ _ dX8_wakenedBy_18 ((show narrow _ (.int v4) = .int v4 from rfl).trans (congrArg Value.int (Option.some.inj hev)))
def f_To_termsOf (vT_spells : Int32) (fT_terms : Nat → Int32) (p1 : Int32) : Option (Int32) := x_B (f_To_hasSpell vT_spells p1) (fun y1 => if y1 = 0 then (some (0 : Int32)) else x_I 5 fT_terms p1 (fun v4 => some v4))
set_option maxHeartbeats 8000000 in
set_option maxRecDepth 100000 in
theorem c_To_termsOf (l : Launch) (G : GG) (aT aT_kinds aT_targets aT_wakes aT_terms aT_sorts aT_numbers : Nat) (vT_people : Int32) (vT_spells : Int32) (vT_day : Int32) (vT_broken : Int32) (fT_terms : Nat → Int32) (p1 : Int32) (r0 : Int32) (hev : f_To_termsOf vT_spells fT_terms p1 = some r0) : RO l G yX8_termsOf cX8_termsOf 2 (some .int) 1 [.ref aT, .int p1] [(aT, .inr (4, [.int vT_people, .int vT_spells, .int vT_day, .int vT_broken, .ref aT_kinds, .ref aT_targets, .ref aT_wakes, .ref aT_terms, .ref aT_sorts, .ref aT_numbers])), (aT_terms, .inl (G.2.1, 5, .inl fT_terms))] (some (.int r0)) := by
  refine RO_of (by decide) (Nat.le_of_ble_eq_true rfl) ?_
  intro p e s m ar below meth c R Q H ls X hR hP hKK hS0 hl ret
  generalize hrs : r0 = rs at hev ret
  have hl : lv_has ls 2 [(0, .ref aT), (1, .int p1)] := hl
  obtain ⟨hx, hb, hml, hown, hts, hT⟩ := id X
  have hK := hKK.1
  have hw : ∀ w ∈ T0, w.before ar s = true := fun w h => hts w (hT w h)
  have i8 := fun w h => hT w (inT8 w h)
  unfold f_To_termsOf at hev
  refine lv_aload_n hx hb dX8_termsOf_0 rfl (lv_at hl 0 rfl) ?_
  refine lv_iload_n hx hb dX8_termsOf_1 rfl (lv_at hl 1 rfl) ?_
  obtain ⟨y1, hq, hev⟩ := x_bd hev
  refine roV X hKK hR (st1 := [.int y1]) (c_To_hasSpell l G aT aT_kinds aT_targets aT_wakes aT_terms aT_sorts aT_numbers vT_people vT_spells vT_day vT_broken p1 y1 hq) K_X8_hasSpell u332 (x_Psub hP [0] rfl) rfl (q0 := 0) rfl (by decide) ⟨Nat.zero_le _, Nat.zero_le _⟩ rfl hl.1 rfl (Nat.le_of_ble_eq_true rfl) rfl dX8_termsOf_2 ?_
  refine lv_if_eq (tgt := 17) hx hb dX8_termsOf_5 (by decide) (fun c2 => ?_) (fun c2 => ?_)
  · replace hev := x_t c2 hev
    refine lv_iconst (v := (0 : Int32)) hx hb dX8_termsOf_17 (by decide) ?_
    exact ret _ _ _ dX8_termsOf_18 ((show narrow _ (.int (0 : Int32)) = .int (0 : Int32) from rfl).trans (congrArg Value.int (Option.some.inj hev)))
  · replace hev := x_f c2 hev
    refine lv_aload_n hx hb dX8_termsOf_8 rfl (lv_at hl 0 rfl) ?_
    refine va_get (D := G.1) (ci := 4) (v := .ref aT_terms) (C := RX8) (T := TX8) (N := 10) hx hb hts i8 hown hK hP 0 rfl rfl 7 (by decide) (hw _ u138) (fun _ h9 => h9) rfl dX8_termsOf_9 ?_
    refine lv_iload_n hx hb dX8_termsOf_12 rfl (lv_at hl 1 rfl) ?_
    obtain ⟨h3, hev⟩ := x_ld hev
    refine va_iald hx hb hK hP 1 0 rfl rfl h3 dX8_termsOf_13 ?_
    refine lv_topi (fun v4 ev4 => ?_)
    replace hev := hev v4 ev4
    refine lv_goto (tgt := 18) hx hb dX8_termsOf_14 (by decide) ?_
    exact ret _ _ _ dX8_termsOf_18 ((show narrow _ (.int v4) = .int v4 from rfl).trans (congrArg Value.int (Option.some.inj hev)))
def f_To_hasTerm (vT_spells : Int32) (fT_terms : Nat → Int32) (p1 : Int32) (p2 : Int32) : Option (Int32) := x_B (f_To_hasSpell vT_spells p1) (fun y1 => if y1 = 0 then (some (0 : Int32)) else if p2 < 0 then (some (0 : Int32)) else if (3 : Int32) ≤ p2 then (some (0 : Int32)) else x_I 5 fT_terms p1 (fun v6 => if v6 ≤ p2 then (some (0 : Int32)) else some (1 : Int32)))
set_option maxHeartbeats 8000000 in
set_option maxRecDepth 100000 in
theorem c_To_hasTerm (l : Launch) (G : GG) (aT aT_kinds aT_targets aT_wakes aT_terms aT_sorts aT_numbers : Nat) (vT_people : Int32) (vT_spells : Int32) (vT_day : Int32) (vT_broken : Int32) (fT_terms : Nat → Int32) (p1 : Int32) (p2 : Int32) (r0 : Int32) (hev : f_To_hasTerm vT_spells fT_terms p1 p2 = some r0) : RO l G yX8_hasTerm cX8_hasTerm 3 (some .boolean) 1 [.ref aT, .int p1, .int p2] [(aT, .inr (4, [.int vT_people, .int vT_spells, .int vT_day, .int vT_broken, .ref aT_kinds, .ref aT_targets, .ref aT_wakes, .ref aT_terms, .ref aT_sorts, .ref aT_numbers])), (aT_terms, .inl (G.2.1, 5, .inl fT_terms))] (some (.int r0)) := by
  refine RO_of (by decide) (Nat.le_of_ble_eq_true rfl) ?_
  intro p e s m ar below meth c R Q H ls X hR hP hKK hS0 hl ret
  generalize hrs : r0 = rs at hev ret
  have hl : lv_has ls 3 [(0, .ref aT), (1, .int p1), (2, .int p2)] := hl
  obtain ⟨hx, hb, hml, hown, hts, hT⟩ := id X
  have hK := hKK.1
  have hw : ∀ w ∈ T0, w.before ar s = true := fun w h => hts w (hT w h)
  have i8 := fun w h => hT w (inT8 w h)
  unfold f_To_hasTerm at hev
  refine lv_aload_n hx hb dX8_hasTerm_0 rfl (lv_at hl 0 rfl) ?_
  refine lv_iload_n hx hb dX8_hasTerm_1 rfl (lv_at hl 1 rfl) ?_
  obtain ⟨y1, hq, hev⟩ := x_bd hev
  refine roV X hKK hR (st1 := [.int y1]) (c_To_hasSpell l G aT aT_kinds aT_targets aT_wakes aT_terms aT_sorts aT_numbers vT_people vT_spells vT_day vT_broken p1 y1 hq) K_X8_hasSpell u332 (x_Psub hP [0] rfl) rfl (q0 := 0) rfl (by decide) ⟨Nat.zero_le _, Nat.zero_le _⟩ rfl hl.1 rfl (Nat.le_of_ble_eq_true rfl) rfl dX8_hasTerm_2 ?_
  refine lv_if_eq (tgt := 31) hx hb dX8_hasTerm_5 (by decide) (fun c2 => ?_) (fun c2 => ?_)
  · replace hev := x_t c2 hev
    refine lv_iconst (v := (0 : Int32)) hx hb dX8_hasTerm_31 (by decide) ?_
    exact ret _ _ _ dX8_hasTerm_32 ((show narrow _ (.int (0 : Int32)) = .int (0 : Int32) from nb0).trans (congrArg Value.int (Option.some.inj hev)))
  · replace hev := x_f c2 hev
    refine lv_iload_n hx hb dX8_hasTerm_8 rfl (lv_at hl 2 rfl) ?_
    refine lv_if_lt (tgt := 31) hx hb dX8_hasTerm_9 (by decide) (fun c3 => ?_) (fun c3 => ?_)
    · replace hev := x_t c3 hev
      refine lv_iconst (v := (0 : Int32)) hx hb dX8_hasTerm_31 (by decide) ?_
      exact ret _ _ _ dX8_hasTerm_32 ((show narrow _ (.int (0 : Int32)) = .int (0 : Int32) from nb0).trans (congrArg Value.int (Option.some.inj hev)))
    · replace hev := x_f c3 hev
      refine lv_iload_n hx hb dX8_hasTerm_12 rfl (lv_at hl 2 rfl) ?_
      refine lv_iconst (v := (3 : Int32)) hx hb dX8_hasTerm_13 (by decide) ?_
      refine lv_icmp_ge (tgt := 31) hx hb dX8_hasTerm_14 (by decide) (fun c4 => ?_) (fun c4 => ?_)
      · replace hev := x_t c4 hev
        refine lv_iconst (v := (0 : Int32)) hx hb dX8_hasTerm_31 (by decide) ?_
        exact ret _ _ _ dX8_hasTerm_32 ((show narrow _ (.int (0 : Int32)) = .int (0 : Int32) from nb0).trans (congrArg Value.int (Option.some.inj hev)))
      · replace hev := x_f c4 hev
        refine lv_iload_n hx hb dX8_hasTerm_17 rfl (lv_at hl 2 rfl) ?_
        refine lv_aload_n hx hb dX8_hasTerm_18 rfl (lv_at hl 0 rfl) ?_
        refine va_get (D := G.1) (ci := 4) (v := .ref aT_terms) (C := RX8) (T := TX8) (N := 10) hx hb hts i8 hown hK hP 0 rfl rfl 7 (by decide) (hw _ u138) (fun _ h9 => h9) rfl dX8_hasTerm_19 ?_
        refine lv_iload_n hx hb dX8_hasTerm_22 rfl (lv_at hl 1 rfl) ?_
        obtain ⟨h5, hev⟩ := x_ld hev
        refine va_iald hx hb hK hP 1 0 rfl rfl h5 dX8_hasTerm_23 ?_
        refine lv_topi (fun v6 ev6 => ?_)
        replace hev := hev v6 ev6
        refine lv_icmp_ge (tgt := 31) hx hb dX8_hasTerm_24 (by decide) (fun c7 => ?_) (fun c7 => ?_)
        · replace hev := x_t c7 hev
          refine lv_iconst (v := (0 : Int32)) hx hb dX8_hasTerm_31 (by decide) ?_
          exact ret _ _ _ dX8_hasTerm_32 ((show narrow _ (.int (0 : Int32)) = .int (0 : Int32) from nb0).trans (congrArg Value.int (Option.some.inj hev)))
        · replace hev := x_f c7 hev
          refine lv_iconst (v := (1 : Int32)) hx hb dX8_hasTerm_27 (by decide) ?_
          refine lv_goto (tgt := 32) hx hb dX8_hasTerm_28 (by decide) ?_
          exact ret _ _ _ dX8_hasTerm_32 ((show narrow _ (.int (1 : Int32)) = .int (1 : Int32) from nb1).trans (congrArg Value.int (Option.some.inj hev)))
def f_To_sortOf (vT_spells : Int32) (fT_sorts : Nat → Int32) (fT_terms : Nat → Int32) (p1 : Int32) (p2 : Int32) : Option (Int32) := x_B (f_To_hasTerm vT_spells fT_terms p1 p2) (fun y1 => if y1 = 0 then (some (-1 : Int32)) else x_L (((p1 * (3 : Int32)) + p2)) (fun y3 => x_I 15 fT_sorts y3 (fun v5 => some v5)))
set_option maxHeartbeats 8000000 in
set_option maxRecDepth 100000 in
theorem c_To_sortOf (l : Launch) (G : GG) (aT aT_kinds aT_targets aT_wakes aT_terms aT_sorts aT_numbers : Nat) (vT_people : Int32) (vT_spells : Int32) (vT_day : Int32) (vT_broken : Int32) (fT_terms : Nat → Int32) (fT_sorts : Nat → Int32) (p1 : Int32) (p2 : Int32) (r0 : Int32) (hev : f_To_sortOf vT_spells fT_sorts fT_terms p1 p2 = some r0) : RO l G yX8_sortOf cX8_sortOf 3 (some .int) 2 [.ref aT, .int p1, .int p2] [(aT, .inr (4, [.int vT_people, .int vT_spells, .int vT_day, .int vT_broken, .ref aT_kinds, .ref aT_targets, .ref aT_wakes, .ref aT_terms, .ref aT_sorts, .ref aT_numbers])), (aT_terms, .inl (G.2.1, 5, .inl fT_terms)), (aT_sorts, .inl (G.2.1, 15, .inl fT_sorts))] (some (.int r0)) := by
  refine RO_of (by decide) (Nat.le_of_ble_eq_true rfl) ?_
  intro p e s m ar below meth c R Q H ls X hR hP hKK hS0 hl ret
  generalize hrs : r0 = rs at hev ret
  have hl : lv_has ls 3 [(0, .ref aT), (1, .int p1), (2, .int p2)] := hl
  obtain ⟨hx, hb, hml, hown, hts, hT⟩ := id X
  have hK := hKK.1
  have hw : ∀ w ∈ T0, w.before ar s = true := fun w h => hts w (hT w h)
  have i8 := fun w h => hT w (inT8 w h)
  unfold f_To_sortOf at hev
  refine lv_aload_n hx hb dX8_sortOf_0 rfl (lv_at hl 0 rfl) ?_
  refine lv_iload_n hx hb dX8_sortOf_1 rfl (lv_at hl 1 rfl) ?_
  refine lv_iload_n hx hb dX8_sortOf_2 rfl (lv_at hl 2 rfl) ?_
  obtain ⟨y1, hq, hev⟩ := x_bd hev
  refine roV X hKK hR (st1 := [.int y1]) (c_To_hasTerm l G aT aT_kinds aT_targets aT_wakes aT_terms aT_sorts aT_numbers vT_people vT_spells vT_day vT_broken fT_terms p1 p2 y1 hq) K_X8_hasTerm u359 (x_Psub hP [0, 1] rfl) rfl (q0 := 0) rfl (by decide) ⟨Nat.zero_le _, Nat.zero_le _⟩ rfl hl.1 rfl (Nat.le_of_ble_eq_true rfl) rfl dX8_sortOf_3 ?_
  refine lv_if_eq (tgt := 22) hx hb dX8_sortOf_6 (by decide) (fun c2 => ?_) (fun c2 => ?_)
  · replace hev := x_t c2 hev
    refine lv_iconst (v := (-1 : Int32)) hx hb dX8_sortOf_22 (by decide) ?_
    exact ret _ _ _ dX8_sortOf_23 ((show narrow _ (.int (-1 : Int32)) = .int (-1 : Int32) from rfl).trans (congrArg Value.int (Option.some.inj hev)))
  · replace hev := x_f c2 hev
    refine lv_aload_n hx hb dX8_sortOf_9 rfl (lv_at hl 0 rfl) ?_
    refine va_get (D := G.1) (ci := 4) (v := .ref aT_sorts) (C := RX8) (T := TX8) (N := 10) hx hb hts i8 hown hK hP 0 rfl rfl 8 (by decide) (hw _ u139) (fun _ h9 => h9) rfl dX8_sortOf_10 ?_
    refine lv_iload_n hx hb dX8_sortOf_13 rfl (lv_at hl 1 rfl) ?_
    refine lv_iconst (v := (3 : Int32)) hx hb dX8_sortOf_14 (by decide) ?_
    refine lv_imul hx hb dX8_sortOf_15 ?_
    refine lv_iload_n hx hb dX8_sortOf_16 rfl (lv_at hl 2 rfl) ?_
    refine lv_iadd hx hb dX8_sortOf_17 ?_
    refine lv_topi (fun y3 ey3 => ?_)
    replace hev := x_lt hev y3 ey3
    obtain ⟨h4, hev⟩ := x_ld hev
    refine va_iald hx hb hK hP 2 0 rfl rfl h4 dX8_sortOf_18 ?_
    refine lv_topi (fun v5 ev5 => ?_)
    replace hev := hev v5 ev5
    refine lv_goto (tgt := 23) hx hb dX8_sortOf_19 (by decide) ?_
    exact ret _ _ _ dX8_sortOf_23 ((show narrow _ (.int v5) = .int v5 from rfl).trans (congrArg Value.int (Option.some.inj hev)))
def f_To_numberOf (vT_spells : Int32) (fT_numbers : Nat → Int32) (fT_terms : Nat → Int32) (p1 : Int32) (p2 : Int32) : Option (Int32) := x_B (f_To_hasTerm vT_spells fT_terms p1 p2) (fun y1 => if y1 = 0 then (some (-1 : Int32)) else x_L (((p1 * (3 : Int32)) + p2)) (fun y3 => x_I 15 fT_numbers y3 (fun v5 => some v5)))
set_option maxHeartbeats 8000000 in
set_option maxRecDepth 100000 in
theorem c_To_numberOf (l : Launch) (G : GG) (aT aT_kinds aT_targets aT_wakes aT_terms aT_sorts aT_numbers : Nat) (vT_people : Int32) (vT_spells : Int32) (vT_day : Int32) (vT_broken : Int32) (fT_terms : Nat → Int32) (fT_numbers : Nat → Int32) (p1 : Int32) (p2 : Int32) (r0 : Int32) (hev : f_To_numberOf vT_spells fT_numbers fT_terms p1 p2 = some r0) : RO l G yX8_numberOf cX8_numberOf 3 (some .int) 2 [.ref aT, .int p1, .int p2] [(aT, .inr (4, [.int vT_people, .int vT_spells, .int vT_day, .int vT_broken, .ref aT_kinds, .ref aT_targets, .ref aT_wakes, .ref aT_terms, .ref aT_sorts, .ref aT_numbers])), (aT_terms, .inl (G.2.1, 5, .inl fT_terms)), (aT_numbers, .inl (G.2.1, 15, .inl fT_numbers))] (some (.int r0)) := by
  refine RO_of (by decide) (Nat.le_of_ble_eq_true rfl) ?_
  intro p e s m ar below meth c R Q H ls X hR hP hKK hS0 hl ret
  generalize hrs : r0 = rs at hev ret
  have hl : lv_has ls 3 [(0, .ref aT), (1, .int p1), (2, .int p2)] := hl
  obtain ⟨hx, hb, hml, hown, hts, hT⟩ := id X
  have hK := hKK.1
  have hw : ∀ w ∈ T0, w.before ar s = true := fun w h => hts w (hT w h)
  have i8 := fun w h => hT w (inT8 w h)
  unfold f_To_numberOf at hev
  refine lv_aload_n hx hb dX8_numberOf_0 rfl (lv_at hl 0 rfl) ?_
  refine lv_iload_n hx hb dX8_numberOf_1 rfl (lv_at hl 1 rfl) ?_
  refine lv_iload_n hx hb dX8_numberOf_2 rfl (lv_at hl 2 rfl) ?_
  obtain ⟨y1, hq, hev⟩ := x_bd hev
  refine roV X hKK hR (st1 := [.int y1]) (c_To_hasTerm l G aT aT_kinds aT_targets aT_wakes aT_terms aT_sorts aT_numbers vT_people vT_spells vT_day vT_broken fT_terms p1 p2 y1 hq) K_X8_hasTerm u359 (x_Psub hP [0, 1] rfl) rfl (q0 := 0) rfl (by decide) ⟨Nat.zero_le _, Nat.zero_le _⟩ rfl hl.1 rfl (Nat.le_of_ble_eq_true rfl) rfl dX8_numberOf_3 ?_
  refine lv_if_eq (tgt := 22) hx hb dX8_numberOf_6 (by decide) (fun c2 => ?_) (fun c2 => ?_)
  · replace hev := x_t c2 hev
    refine lv_iconst (v := (-1 : Int32)) hx hb dX8_numberOf_22 (by decide) ?_
    exact ret _ _ _ dX8_numberOf_23 ((show narrow _ (.int (-1 : Int32)) = .int (-1 : Int32) from rfl).trans (congrArg Value.int (Option.some.inj hev)))
  · replace hev := x_f c2 hev
    refine lv_aload_n hx hb dX8_numberOf_9 rfl (lv_at hl 0 rfl) ?_
    refine va_get (D := G.1) (ci := 4) (v := .ref aT_numbers) (C := RX8) (T := TX8) (N := 10) hx hb hts i8 hown hK hP 0 rfl rfl 9 (by decide) (hw _ u140) (fun _ h9 => h9) rfl dX8_numberOf_10 ?_
    refine lv_iload_n hx hb dX8_numberOf_13 rfl (lv_at hl 1 rfl) ?_
    refine lv_iconst (v := (3 : Int32)) hx hb dX8_numberOf_14 (by decide) ?_
    refine lv_imul hx hb dX8_numberOf_15 ?_
    refine lv_iload_n hx hb dX8_numberOf_16 rfl (lv_at hl 2 rfl) ?_
    refine lv_iadd hx hb dX8_numberOf_17 ?_
    refine lv_topi (fun y3 ey3 => ?_)
    replace hev := x_lt hev y3 ey3
    obtain ⟨h4, hev⟩ := x_ld hev
    refine va_iald hx hb hK hP 2 0 rfl rfl h4 dX8_numberOf_18 ?_
    refine lv_topi (fun v5 ev5 => ?_)
    replace hev := hev v5 ev5
    refine lv_goto (tgt := 23) hx hb dX8_numberOf_19 (by decide) ?_
    exact ret _ _ _ dX8_numberOf_23 ((show narrow _ (.int v5) = .int v5 from rfl).trans (congrArg Value.int (Option.some.inj hev)))
def f_To_firstState (vT_broken : Int32) (vT_day : Int32) (vT_spells : Int32) : Option (Int32) := some (((((1 : Int32) <<< (vT_spells &&& 31)) - (1 : Int32)) ||| (vT_broken <<< ((5 : Int32) &&& 31))) ||| (vT_day <<< ((13 : Int32) &&& 31)))
set_option maxHeartbeats 8000000 in
set_option maxRecDepth 100000 in
theorem c_To_firstState (l : Launch) (G : GG) (aT aT_kinds aT_targets aT_wakes aT_terms aT_sorts aT_numbers : Nat) (vT_people : Int32) (vT_spells : Int32) (vT_day : Int32) (vT_broken : Int32) (r0 : Int32) (hev : f_To_firstState vT_broken vT_day vT_spells = some r0) : RO l G yX8_firstState cX8_firstState 1 (some .int) 0 [.ref aT] [(aT, .inr (4, [.int vT_people, .int vT_spells, .int vT_day, .int vT_broken, .ref aT_kinds, .ref aT_targets, .ref aT_wakes, .ref aT_terms, .ref aT_sorts, .ref aT_numbers]))] (some (.int r0)) := by
  refine RO_of (by decide) (Nat.le_of_ble_eq_true rfl) ?_
  intro p e s m ar below meth c R Q H ls X hR hP hKK hS0 hl ret
  generalize hrs : r0 = rs at hev ret
  have hl : lv_has ls 1 [(0, .ref aT)] := hl
  obtain ⟨hx, hb, hml, hown, hts, hT⟩ := id X
  have hK := hKK.1
  have hw : ∀ w ∈ T0, w.before ar s = true := fun w h => hts w (hT w h)
  have i8 := fun w h => hT w (inT8 w h)
  unfold f_To_firstState at hev
  refine lv_iconst (v := (1 : Int32)) hx hb dX8_firstState_0 (by decide) ?_
  refine lv_aload_n hx hb dX8_firstState_1 rfl (lv_at hl 0 rfl) ?_
  refine va_get (D := G.1) (ci := 4) (v := .int vT_spells) (C := RX8) (T := TX8) (N := 10) hx hb hts i8 hown hK hP 0 rfl rfl 1 (by decide) (hw _ u132) (fun _ h9 => h9) rfl dX8_firstState_2 ?_
  refine lv_ishl hx hb dX8_firstState_5 ?_
  refine lv_iconst (v := (1 : Int32)) hx hb dX8_firstState_6 (by decide) ?_
  refine lv_isub hx hb dX8_firstState_7 ?_
  refine lv_aload_n hx hb dX8_firstState_8 rfl (lv_at hl 0 rfl) ?_
  refine va_get (D := G.1) (ci := 4) (v := .int vT_broken) (C := RX8) (T := TX8) (N := 10) hx hb hts i8 hown hK hP 0 rfl rfl 3 (by decide) (hw _ u134) (fun _ h9 => h9) rfl dX8_firstState_9 ?_
  refine lv_iconst (v := (5 : Int32)) hx hb dX8_firstState_12 (by decide) ?_
  refine lv_ishl hx hb dX8_firstState_13 ?_
  refine lv_ior hx hb dX8_firstState_14 ?_
  refine lv_aload_n hx hb dX8_firstState_15 rfl (lv_at hl 0 rfl) ?_
  refine va_get (D := G.1) (ci := 4) (v := .int vT_day) (C := RX8) (T := TX8) (N := 10) hx hb hts i8 hown hK hP 0 rfl rfl 2 (by decide) (hw _ u133) (fun _ h9 => h9) rfl dX8_firstState_16 ?_
  refine lv_bipush (v := (13 : Int32)) hx hb dX8_firstState_19 (by decide) ?_
  refine lv_ishl hx hb dX8_firstState_21 ?_
  refine lv_ior hx hb dX8_firstState_22 ?_
  exact ret _ _ _ dX8_firstState_23 ((show narrow _ (.int (((((1 : Int32) <<< (vT_spells &&& 31)) - (1 : Int32)) ||| (vT_broken <<< ((5 : Int32) &&& 31))) ||| (vT_day <<< ((13 : Int32) &&& 31)))) = .int (((((1 : Int32) <<< (vT_spells &&& 31)) - (1 : Int32)) ||| (vT_broken <<< ((5 : Int32) &&& 31))) ||| (vT_day <<< ((13 : Int32) &&& 31))) from rfl).trans (congrArg Value.int (Option.some.inj hev)))
def f_To_isFull_J15 (vT_spells : Int32) : Option (Int32) := some (1 : Int32)
def f_To_isFull (vT_spells : Int32) : Option (Int32) := if vT_spells < 0 then (f_To_isFull_J15 vT_spells) else if vT_spells < (5 : Int32) then (some (0 : Int32)) else f_To_isFull_J15 vT_spells
set_option maxHeartbeats 8000000 in
set_option maxRecDepth 100000 in
theorem c_To_isFull (l : Launch) (G : GG) (aT aT_kinds aT_targets aT_wakes aT_terms aT_sorts aT_numbers : Nat) (vT_people : Int32) (vT_spells : Int32) (vT_day : Int32) (vT_broken : Int32) (r0 : Int32) (hev : f_To_isFull vT_spells = some r0) : RO l G yX8_isFull cX8_isFull 1 (some .boolean) 0 [.ref aT] [(aT, .inr (4, [.int vT_people, .int vT_spells, .int vT_day, .int vT_broken, .ref aT_kinds, .ref aT_targets, .ref aT_wakes, .ref aT_terms, .ref aT_sorts, .ref aT_numbers]))] (some (.int r0)) := by
  refine RO_of (by decide) (Nat.le_of_ble_eq_true rfl) ?_
  intro p e s m ar below meth c R Q H ls X hR hP hKK hS0 hl ret
  generalize hrs : r0 = rs at hev ret
  have hl : lv_has ls 1 [(0, .ref aT)] := hl
  obtain ⟨hx, hb, hml, hown, hts, hT⟩ := id X
  have hK := hKK.1
  have hw : ∀ w ∈ T0, w.before ar s = true := fun w h => hts w (hT w h)
  have i8 := fun w h => hT w (inT8 w h)
  have J15 : ∀ (ls : Array Slot), f_To_isFull_J15 vT_spells = some rs → lv_has ls 1 [] → W p l e R s m ar below meth c H [] 0 0 Q (F0 m 15 ls []) := by
    intro  ls hev hl
    unfold f_To_isFull_J15 at hev
    refine lv_iconst (v := (1 : Int32)) hx hb dX8_isFull_15 (by decide) ?_
    refine lv_goto (tgt := 20) hx hb dX8_isFull_16 (by decide) ?_
    exact ret _ _ _ dX8_isFull_20 ((show narrow _ (.int (1 : Int32)) = .int (1 : Int32) from nb1).trans (congrArg Value.int (Option.some.inj hev)))
  unfold f_To_isFull at hev
  refine lv_aload_n hx hb dX8_isFull_0 rfl (lv_at hl 0 rfl) ?_
  refine va_get (D := G.1) (ci := 4) (v := .int vT_spells) (C := RX8) (T := TX8) (N := 10) hx hb hts i8 hown hK hP 0 rfl rfl 1 (by decide) (hw _ u132) (fun _ h9 => h9) rfl dX8_isFull_1 ?_
  refine lv_if_lt (tgt := 15) hx hb dX8_isFull_4 (by decide) (fun c1 => ?_) (fun c1 => ?_)
  · replace hev := x_t c1 hev
    exact J15  ls hev (lv_sub hl [] rfl)
  · replace hev := x_f c1 hev
    refine lv_aload_n hx hb dX8_isFull_7 rfl (lv_at hl 0 rfl) ?_
    refine va_get (D := G.1) (ci := 4) (v := .int vT_spells) (C := RX8) (T := TX8) (N := 10) hx hb hts i8 hown hK hP 0 rfl rfl 1 (by decide) (hw _ u132) (fun _ h9 => h9) rfl dX8_isFull_8 ?_
    refine lv_iconst (v := (5 : Int32)) hx hb dX8_isFull_11 (by decide) ?_
    refine lv_icmp_lt (tgt := 19) hx hb dX8_isFull_12 (by decide) (fun c2 => ?_) (fun c2 => ?_)
    · replace hev := x_t c2 hev
      refine lv_iconst (v := (0 : Int32)) hx hb dX8_isFull_19 (by decide) ?_
      exact ret _ _ _ dX8_isFull_20 ((show narrow _ (.int (0 : Int32)) = .int (0 : Int32) from nb0).trans (congrArg Value.int (Option.some.inj hev)))
    · replace hev := x_f c2 hev
      exact J15  ls hev (lv_sub hl [] rfl)
def f_To_beginSpell (vT_spells : Int32) (fT_kinds : Nat → Int32) (fT_targets : Nat → Int32) (fT_terms : Nat → Int32) (fT_wakes : Nat → Int32) (p1 : Int32) (p2 : Int32) : Option ((Nat → Int32) × (Nat → Int32) × (Nat → Int32) × (Nat → Int32)) := x_B (f_To_isFull vT_spells) (fun y1 => if y1 = 0 then (x_C 5 vT_spells (x_C 5 vT_spells (x_C 5 vT_spells (x_C 5 vT_spells (some ((upd fT_kinds (vT_spells).toNatClampNeg p1), (upd fT_targets (vT_spells).toNatClampNeg p2), (upd fT_terms (vT_spells).toNatClampNeg (0 : Int32)), (upd fT_wakes (vT_spells).toNatClampNeg (-1 : Int32)))))))) else some (fT_kinds, fT_targets, fT_terms, fT_wakes))
set_option maxHeartbeats 8000000 in
set_option maxRecDepth 100000 in
theorem c_To_beginSpell (l : Launch) (G : GG) (aT aT_kinds aT_targets aT_wakes aT_terms aT_sorts aT_numbers : Nat) (vT_people : Int32) (vT_spells : Int32) (vT_day : Int32) (vT_broken : Int32) (fT_kinds : Nat → Int32) (fT_targets : Nat → Int32) (fT_terms : Nat → Int32) (fT_wakes : Nat → Int32) (p1 : Int32) (p2 : Int32) (wfT_kinds : Nat → Int32) (wfT_targets : Nat → Int32) (wfT_terms : Nat → Int32) (wfT_wakes : Nat → Int32) (hev : f_To_beginSpell vT_spells fT_kinds fT_targets fT_terms fT_wakes p1 p2 = some (wfT_kinds, wfT_targets, wfT_terms, wfT_wakes)) : RW l G yX8_beginSpell cX8_beginSpell 3 none 1 [.ref aT, .int p1, .int p2] [(aT, .inr (4, [.int vT_people, .int vT_spells, .int vT_day, .int vT_broken, .ref aT_kinds, .ref aT_targets, .ref aT_wakes, .ref aT_terms, .ref aT_sorts, .ref aT_numbers])), (aT_kinds, .inl (G.2.1, 5, .inl fT_kinds)), (aT_targets, .inl (G.2.1, 5, .inl fT_targets)), (aT_terms, .inl (G.2.1, 5, .inl fT_terms)), (aT_wakes, .inl (G.2.1, 5, .inl fT_wakes))] none [(aT, .inr (4, [.int vT_people, .int vT_spells, .int vT_day, .int vT_broken, .ref aT_kinds, .ref aT_targets, .ref aT_wakes, .ref aT_terms, .ref aT_sorts, .ref aT_numbers])), (aT_kinds, .inl (G.2.1, 5, .inl wfT_kinds)), (aT_targets, .inl (G.2.1, 5, .inl wfT_targets)), (aT_terms, .inl (G.2.1, 5, .inl wfT_terms)), (aT_wakes, .inl (G.2.1, 5, .inl wfT_wakes))] 0 0 := by
  refine RW_of (by decide) (Nat.le_of_ble_eq_true rfl) ?_
  intro p e s m ar below meth c R Q A ls X hR hRc hin hP hKK hD hS hA hAb hl ret
  obtain ⟨rs, hrs⟩ : ∃ q, q = (wfT_kinds, wfT_targets, wfT_terms, wfT_wakes) := ⟨_, rfl⟩
  rw [← hrs] at hev
  have ret2 : ∀ (pc : Nat) (ls : Array Slot) (H : Heap) (lo : List Loc) (zfT_kinds : Nat → Int32) (zfT_targets : Nat → Int32) (zfT_terms : Nat → Int32) (zfT_wakes : Nat → Int32), (zfT_kinds, zfT_targets, zfT_terms, zfT_wakes) = rs → decode cX8_beginSpell pc = .ok (.return_, 1) → va_P G.1 classes [(aT, .inr (4, [.int vT_people, .int vT_spells, .int vT_day, .int vT_broken, .ref aT_kinds, .ref aT_targets, .ref aT_wakes, .ref aT_terms, .ref aT_sorts, .ref aT_numbers])), (aT_kinds, .inl (G.2.1, 5, .inl zfT_kinds)), (aT_targets, .inl (G.2.1, 5, .inl zfT_targets)), (aT_terms, .inl (G.2.1, 5, .inl zfT_terms)), (aT_wakes, .inl (G.2.1, 5, .inl zfT_wakes))] H → va_D A [(aT, .inr (4, [.int vT_people, .int vT_spells, .int vT_day, .int vT_broken, .ref aT_kinds, .ref aT_targets, .ref aT_wakes, .ref aT_terms, .ref aT_sorts, .ref aT_numbers])), (aT_kinds, .inl (G.2.1, 5, .inl zfT_kinds)), (aT_targets, .inl (G.2.1, 5, .inl zfT_targets)), (aT_terms, .inl (G.2.1, 5, .inl zfT_terms)), (aT_wakes, .inl (G.2.1, 5, .inl zfT_wakes))] → va_S A s.heap H lo → W p l e R s m ar below meth c H lo 0 0 Q (F0 m pc ls []) := by
    intro pc ls H lo zfT_kinds zfT_targets zfT_terms zfT_wakes he hd h1 h2 h3
    have he := he.trans hrs
    cases he
    exact ret.2.1 _ _ _ _ rfl rfl hd h1 h2 h3
  clear ret hrs
  have hl : lv_has ls 3 [(0, .ref aT), (1, .int p1), (2, .int p2)] := hl
  obtain ⟨hx, hb, hml, hown, hts, hT⟩ := id X
  have hK := hKK.1
  have hw : ∀ w ∈ T0, w.before ar s = true := fun w h => hts w (hT w h)
  have i8 := fun w h => hT w (inT8 w h)
  unfold f_To_beginSpell at hev
  refine lv_aload_n hx hb dX8_beginSpell_0 rfl (lv_at hl 0 rfl) ?_
  obtain ⟨y1, hq, hev⟩ := x_bd hev
  refine roV X (KK_at hKK hS hAb) hR (st1 := [.int y1]) (c_To_isFull l G aT aT_kinds aT_targets aT_wakes aT_terms aT_sorts aT_numbers vT_people vT_spells vT_day vT_broken y1 hq) K_X8_isFull u607 (x_Psub hP [0] rfl) rfl (q0 := 0) rfl (by decide) ⟨Nat.zero_le _, Nat.zero_le _⟩ rfl hl.1 rfl (Nat.le_of_ble_eq_true rfl) rfl dX8_beginSpell_1 ?_
  refine lv_if_ne (tgt := 47) hx hb dX8_beginSpell_4 (by decide) (fun c2 => ?_) (fun c2 => ?_)
  · replace hev := x_f c2 hev
    exact ret2 _ _ _ _ fT_kinds fT_targets fT_terms fT_wakes (Option.some.inj hev) dX8_beginSpell_47 hP hD hS
  · replace hev := x_t c2 hev
    refine lv_aload_n hx hb dX8_beginSpell_7 rfl (lv_at hl 0 rfl) ?_
    refine va_get (D := G.1) (ci := 4) (v := .ref aT_kinds) (C := RX8) (T := TX8) (N := 10) hx hb hts i8 hown hK hP 0 rfl rfl 4 (by decide) (hw _ u135) (fun _ h9 => h9) rfl dX8_beginSpell_8 ?_
    refine lv_aload_n hx hb dX8_beginSpell_11 rfl (lv_at hl 0 rfl) ?_
    refine va_get (D := G.1) (ci := 4) (v := .int vT_spells) (C := RX8) (T := TX8) (N := 10) hx hb hts i8 hown hK hP 0 rfl rfl 1 (by decide) (hw _ u132) (fun _ h9 => h9) rfl dX8_beginSpell_12 ?_
    refine lv_iload_n hx hb dX8_beginSpell_15 rfl (lv_at hl 1 rfl) ?_
    obtain ⟨h3, hev⟩ := x_ck hev
    refine va_iast hx hb hK hP hD hS 1 0 rfl rfl h3 dX8_beginSpell_16 (fun H lo hP hD hS => ?_)
    refine lv_aload_n hx hb dX8_beginSpell_17 rfl (lv_at hl 0 rfl) ?_
    refine va_get (D := G.1) (ci := 4) (v := .ref aT_targets) (C := RX8) (T := TX8) (N := 10) hx hb hts i8 hown hK hP 0 rfl rfl 5 (by decide) (hw _ u136) (fun _ h9 => h9) rfl dX8_beginSpell_18 ?_
    refine lv_aload_n hx hb dX8_beginSpell_21 rfl (lv_at hl 0 rfl) ?_
    refine va_get (D := G.1) (ci := 4) (v := .int vT_spells) (C := RX8) (T := TX8) (N := 10) hx hb hts i8 hown hK hP 0 rfl rfl 1 (by decide) (hw _ u132) (fun _ h9 => h9) rfl dX8_beginSpell_22 ?_
    refine lv_iload_n hx hb dX8_beginSpell_25 rfl (lv_at hl 2 rfl) ?_
    obtain ⟨h4, hev⟩ := x_ck hev
    refine va_iast hx hb hK hP hD hS 2 0 rfl rfl h4 dX8_beginSpell_26 (fun H lo hP hD hS => ?_)
    refine lv_aload_n hx hb dX8_beginSpell_27 rfl (lv_at hl 0 rfl) ?_
    refine va_get (D := G.1) (ci := 4) (v := .ref aT_terms) (C := RX8) (T := TX8) (N := 10) hx hb hts i8 hown hK hP 0 rfl rfl 7 (by decide) (hw _ u138) (fun _ h9 => h9) rfl dX8_beginSpell_28 ?_
    refine lv_aload_n hx hb dX8_beginSpell_31 rfl (lv_at hl 0 rfl) ?_
    refine va_get (D := G.1) (ci := 4) (v := .int vT_spells) (C := RX8) (T := TX8) (N := 10) hx hb hts i8 hown hK hP 0 rfl rfl 1 (by decide) (hw _ u132) (fun _ h9 => h9) rfl dX8_beginSpell_32 ?_
    refine lv_iconst (v := (0 : Int32)) hx hb dX8_beginSpell_35 (by decide) ?_
    obtain ⟨h5, hev⟩ := x_ck hev
    refine va_iast hx hb hK hP hD hS 3 0 rfl rfl h5 dX8_beginSpell_36 (fun H lo hP hD hS => ?_)
    refine lv_aload_n hx hb dX8_beginSpell_37 rfl (lv_at hl 0 rfl) ?_
    refine va_get (D := G.1) (ci := 4) (v := .ref aT_wakes) (C := RX8) (T := TX8) (N := 10) hx hb hts i8 hown hK hP 0 rfl rfl 6 (by decide) (hw _ u137) (fun _ h9 => h9) rfl dX8_beginSpell_38 ?_
    refine lv_aload_n hx hb dX8_beginSpell_41 rfl (lv_at hl 0 rfl) ?_
    refine va_get (D := G.1) (ci := 4) (v := .int vT_spells) (C := RX8) (T := TX8) (N := 10) hx hb hts i8 hown hK hP 0 rfl rfl 1 (by decide) (hw _ u132) (fun _ h9 => h9) rfl dX8_beginSpell_42 ?_
    refine lv_iconst (v := (-1 : Int32)) hx hb dX8_beginSpell_45 (by decide) ?_
    obtain ⟨h6, hev⟩ := x_ck hev
    refine va_iast hx hb hK hP hD hS 4 0 rfl rfl h6 dX8_beginSpell_46 (fun H lo hP hD hS => ?_)
    exact ret2 _ _ _ _ (upd fT_kinds (vT_spells).toNatClampNeg p1) (upd fT_targets (vT_spells).toNatClampNeg p2) (upd fT_terms (vT_spells).toNatClampNeg (0 : Int32)) (upd fT_wakes (vT_spells).toNatClampNeg (-1 : Int32)) (Option.some.inj hev) dX8_beginSpell_47 hP hD hS
def f_To_addTerm (vT_spells : Int32) (fT_numbers : Nat → Int32) (fT_sorts : Nat → Int32) (fT_terms : Nat → Int32) (p1 : Int32) (p2 : Int32) : Option ((Nat → Int32) × (Nat → Int32) × (Nat → Int32)) := x_B (f_To_isFull vT_spells) (fun y1 => if y1 = 0 then (x_I 5 fT_terms vT_spells (fun v4 => if v4 < 0 then (some (fT_numbers, fT_sorts, fT_terms)) else x_I 5 fT_terms vT_spells (fun v7 => if (3 : Int32) ≤ v7 then (some (fT_numbers, fT_sorts, fT_terms)) else x_I 5 fT_terms vT_spells (fun v10 => x_L (((vT_spells * (3 : Int32)) + v10)) (fun y11 => x_C 15 y11 (x_C 15 y11 (x_I 5 fT_terms vT_spells (fun v15 => x_L ((v15 + (1 : Int32))) (fun y16 => x_C 5 vT_spells (some ((upd fT_numbers (y11).toNatClampNeg p2), (upd fT_sorts (y11).toNatClampNeg p1), (upd fT_terms (vT_spells).toNatClampNeg y16)))))))))))) else some (fT_numbers, fT_sorts, fT_terms))
set_option maxHeartbeats 8000000 in
set_option maxRecDepth 100000 in
theorem c_To_addTerm (l : Launch) (G : GG) (aT aT_kinds aT_targets aT_wakes aT_terms aT_sorts aT_numbers : Nat) (vT_people : Int32) (vT_spells : Int32) (vT_day : Int32) (vT_broken : Int32) (fT_terms : Nat → Int32) (fT_sorts : Nat → Int32) (fT_numbers : Nat → Int32) (p1 : Int32) (p2 : Int32) (wfT_numbers : Nat → Int32) (wfT_sorts : Nat → Int32) (wfT_terms : Nat → Int32) (hev : f_To_addTerm vT_spells fT_numbers fT_sorts fT_terms p1 p2 = some (wfT_numbers, wfT_sorts, wfT_terms)) : RW l G yX8_addTerm cX8_addTerm 4 none 1 [.ref aT, .int p1, .int p2] [(aT, .inr (4, [.int vT_people, .int vT_spells, .int vT_day, .int vT_broken, .ref aT_kinds, .ref aT_targets, .ref aT_wakes, .ref aT_terms, .ref aT_sorts, .ref aT_numbers])), (aT_terms, .inl (G.2.1, 5, .inl fT_terms)), (aT_sorts, .inl (G.2.1, 15, .inl fT_sorts)), (aT_numbers, .inl (G.2.1, 15, .inl fT_numbers))] none [(aT, .inr (4, [.int vT_people, .int vT_spells, .int vT_day, .int vT_broken, .ref aT_kinds, .ref aT_targets, .ref aT_wakes, .ref aT_terms, .ref aT_sorts, .ref aT_numbers])), (aT_terms, .inl (G.2.1, 5, .inl wfT_terms)), (aT_sorts, .inl (G.2.1, 15, .inl wfT_sorts)), (aT_numbers, .inl (G.2.1, 15, .inl wfT_numbers))] 0 0 := by
  refine RW_of (by decide) (Nat.le_of_ble_eq_true rfl) ?_
  intro p e s m ar below meth c R Q A ls X hR hRc hin hP hKK hD hS hA hAb hl ret
  obtain ⟨rs, hrs⟩ : ∃ q, q = (wfT_numbers, wfT_sorts, wfT_terms) := ⟨_, rfl⟩
  rw [← hrs] at hev
  have ret2 : ∀ (pc : Nat) (ls : Array Slot) (H : Heap) (lo : List Loc) (zfT_numbers : Nat → Int32) (zfT_sorts : Nat → Int32) (zfT_terms : Nat → Int32), (zfT_numbers, zfT_sorts, zfT_terms) = rs → decode cX8_addTerm pc = .ok (.return_, 1) → va_P G.1 classes [(aT, .inr (4, [.int vT_people, .int vT_spells, .int vT_day, .int vT_broken, .ref aT_kinds, .ref aT_targets, .ref aT_wakes, .ref aT_terms, .ref aT_sorts, .ref aT_numbers])), (aT_terms, .inl (G.2.1, 5, .inl zfT_terms)), (aT_sorts, .inl (G.2.1, 15, .inl zfT_sorts)), (aT_numbers, .inl (G.2.1, 15, .inl zfT_numbers))] H → va_D A [(aT, .inr (4, [.int vT_people, .int vT_spells, .int vT_day, .int vT_broken, .ref aT_kinds, .ref aT_targets, .ref aT_wakes, .ref aT_terms, .ref aT_sorts, .ref aT_numbers])), (aT_terms, .inl (G.2.1, 5, .inl zfT_terms)), (aT_sorts, .inl (G.2.1, 15, .inl zfT_sorts)), (aT_numbers, .inl (G.2.1, 15, .inl zfT_numbers))] → va_S A s.heap H lo → W p l e R s m ar below meth c H lo 0 0 Q (F0 m pc ls []) := by
    intro pc ls H lo zfT_numbers zfT_sorts zfT_terms he hd h1 h2 h3
    have he := he.trans hrs
    cases he
    exact ret.2.1 _ _ _ _ rfl rfl hd h1 h2 h3
  clear ret hrs
  have hl : lv_has ls 4 [(0, .ref aT), (1, .int p1), (2, .int p2)] := hl
  obtain ⟨hx, hb, hml, hown, hts, hT⟩ := id X
  have hK := hKK.1
  have hw : ∀ w ∈ T0, w.before ar s = true := fun w h => hts w (hT w h)
  have i8 := fun w h => hT w (inT8 w h)
  unfold f_To_addTerm at hev
  refine lv_aload_n hx hb dX8_addTerm_0 rfl (lv_at hl 0 rfl) ?_
  obtain ⟨y1, hq, hev⟩ := x_bd hev
  refine roV X (KK_at hKK hS hAb) hR (st1 := [.int y1]) (c_To_isFull l G aT aT_kinds aT_targets aT_wakes aT_terms aT_sorts aT_numbers vT_people vT_spells vT_day vT_broken y1 hq) K_X8_isFull u607 (x_Psub hP [0] rfl) rfl (q0 := 0) rfl (by decide) ⟨Nat.zero_le _, Nat.zero_le _⟩ rfl hl.1 rfl (Nat.le_of_ble_eq_true rfl) rfl dX8_addTerm_1 ?_
  refine lv_if_ne (tgt := 76) hx hb dX8_addTerm_4 (by decide) (fun c2 => ?_) (fun c2 => ?_)
  · replace hev := x_f c2 hev
    exact ret2 _ _ _ _ fT_numbers fT_sorts fT_terms (Option.some.inj hev) dX8_addTerm_76 hP hD hS
  · replace hev := x_t c2 hev
    refine lv_aload_n hx hb dX8_addTerm_7 rfl (lv_at hl 0 rfl) ?_
    refine va_get (D := G.1) (ci := 4) (v := .ref aT_terms) (C := RX8) (T := TX8) (N := 10) hx hb hts i8 hown hK hP 0 rfl rfl 7 (by decide) (hw _ u138) (fun _ h9 => h9) rfl dX8_addTerm_8 ?_
    refine lv_aload_n hx hb dX8_addTerm_11 rfl (lv_at hl 0 rfl) ?_
    refine va_get (D := G.1) (ci := 4) (v := .int vT_spells) (C := RX8) (T := TX8) (N := 10) hx hb hts i8 hown hK hP 0 rfl rfl 1 (by decide) (hw _ u132) (fun _ h9 => h9) rfl dX8_addTerm_12 ?_
    obtain ⟨h3, hev⟩ := x_ld hev
    refine va_iald hx hb hK hP 1 0 rfl rfl h3 dX8_addTerm_15 ?_
    refine lv_topi (fun v4 ev4 => ?_)
    replace hev := hev v4 ev4
    refine lv_if_lt (tgt := 76) hx hb dX8_addTerm_16 (by decide) (fun c5 => ?_) (fun c5 => ?_)
    · replace hev := x_t c5 hev
      exact ret2 _ _ _ _ fT_numbers fT_sorts fT_terms (Option.some.inj hev) dX8_addTerm_76 hP hD hS
    · replace hev := x_f c5 hev
      refine lv_aload_n hx hb dX8_addTerm_19 rfl (lv_at hl 0 rfl) ?_
      refine va_get (D := G.1) (ci := 4) (v := .ref aT_terms) (C := RX8) (T := TX8) (N := 10) hx hb hts i8 hown hK hP 0 rfl rfl 7 (by decide) (hw _ u138) (fun _ h9 => h9) rfl dX8_addTerm_20 ?_
      refine lv_aload_n hx hb dX8_addTerm_23 rfl (lv_at hl 0 rfl) ?_
      refine va_get (D := G.1) (ci := 4) (v := .int vT_spells) (C := RX8) (T := TX8) (N := 10) hx hb hts i8 hown hK hP 0 rfl rfl 1 (by decide) (hw _ u132) (fun _ h9 => h9) rfl dX8_addTerm_24 ?_
      obtain ⟨h6, hev⟩ := x_ld hev
      refine va_iald hx hb hK hP 1 0 rfl rfl h6 dX8_addTerm_27 ?_
      refine lv_topi (fun v7 ev7 => ?_)
      replace hev := hev v7 ev7
      refine lv_iconst (v := (3 : Int32)) hx hb dX8_addTerm_28 (by decide) ?_
      refine lv_icmp_ge (tgt := 76) hx hb dX8_addTerm_29 (by decide) (fun c8 => ?_) (fun c8 => ?_)
      · replace hev := x_t c8 hev
        exact ret2 _ _ _ _ fT_numbers fT_sorts fT_terms (Option.some.inj hev) dX8_addTerm_76 hP hD hS
      · replace hev := x_f c8 hev
        refine lv_aload_n hx hb dX8_addTerm_32 rfl (lv_at hl 0 rfl) ?_
        refine va_get (D := G.1) (ci := 4) (v := .int vT_spells) (C := RX8) (T := TX8) (N := 10) hx hb hts i8 hown hK hP 0 rfl rfl 1 (by decide) (hw _ u132) (fun _ h9 => h9) rfl dX8_addTerm_33 ?_
        refine lv_iconst (v := (3 : Int32)) hx hb dX8_addTerm_36 (by decide) ?_
        refine lv_imul hx hb dX8_addTerm_37 ?_
        refine lv_aload_n hx hb dX8_addTerm_38 rfl (lv_at hl 0 rfl) ?_
        refine va_get (D := G.1) (ci := 4) (v := .ref aT_terms) (C := RX8) (T := TX8) (N := 10) hx hb hts i8 hown hK hP 0 rfl rfl 7 (by decide) (hw _ u138) (fun _ h9 => h9) rfl dX8_addTerm_39 ?_
        refine lv_aload_n hx hb dX8_addTerm_42 rfl (lv_at hl 0 rfl) ?_
        refine va_get (D := G.1) (ci := 4) (v := .int vT_spells) (C := RX8) (T := TX8) (N := 10) hx hb hts i8 hown hK hP 0 rfl rfl 1 (by decide) (hw _ u132) (fun _ h9 => h9) rfl dX8_addTerm_43 ?_
        obtain ⟨h9, hev⟩ := x_ld hev
        refine va_iald hx hb hK hP 1 0 rfl rfl h9 dX8_addTerm_46 ?_
        refine lv_topi (fun v10 ev10 => ?_)
        replace hev := hev v10 ev10
        refine lv_iadd hx hb dX8_addTerm_47 ?_
        refine lv_topi (fun y11 ey11 => ?_)
        replace hev := x_lt hev y11 ey11
        refine lv_istore_n (lv' := [(3, .int y11), (0, .ref aT), (1, .int p1), (2, .int p2)]) hx hb dX8_addTerm_48 rfl hl (by decide) rfl (fun ls hl => ?_)
        refine lv_aload_n hx hb dX8_addTerm_49 rfl (lv_at hl 1 rfl) ?_
        refine va_get (D := G.1) (ci := 4) (v := .ref aT_sorts) (C := RX8) (T := TX8) (N := 10) hx hb hts i8 hown hK hP 0 rfl rfl 8 (by decide) (hw _ u139) (fun _ h9 => h9) rfl dX8_addTerm_50 ?_
        refine lv_iload_n hx hb dX8_addTerm_53 rfl (lv_at hl 0 rfl) ?_
        refine lv_iload_n hx hb dX8_addTerm_54 rfl (lv_at hl 2 rfl) ?_
        obtain ⟨h12, hev⟩ := x_ck hev
        refine va_iast hx hb hK hP hD hS 2 0 rfl rfl h12 dX8_addTerm_55 (fun H lo hP hD hS => ?_)
        refine lv_aload_n hx hb dX8_addTerm_56 rfl (lv_at hl 1 rfl) ?_
        refine va_get (D := G.1) (ci := 4) (v := .ref aT_numbers) (C := RX8) (T := TX8) (N := 10) hx hb hts i8 hown hK hP 0 rfl rfl 9 (by decide) (hw _ u140) (fun _ h9 => h9) rfl dX8_addTerm_57 ?_
        refine lv_iload_n hx hb dX8_addTerm_60 rfl (lv_at hl 0 rfl) ?_
        refine lv_iload_n hx hb dX8_addTerm_61 rfl (lv_at hl 3 rfl) ?_
        obtain ⟨h13, hev⟩ := x_ck hev
        refine va_iast hx hb hK hP hD hS 3 0 rfl rfl h13 dX8_addTerm_62 (fun H lo hP hD hS => ?_)
        refine lv_aload_n hx hb dX8_addTerm_63 rfl (lv_at hl 1 rfl) ?_
        refine va_get (D := G.1) (ci := 4) (v := .ref aT_terms) (C := RX8) (T := TX8) (N := 10) hx hb hts i8 hown hK hP 0 rfl rfl 7 (by decide) (hw _ u138) (fun _ h9 => h9) rfl dX8_addTerm_64 ?_
        refine lv_aload_n hx hb dX8_addTerm_67 rfl (lv_at hl 1 rfl) ?_
        refine va_get (D := G.1) (ci := 4) (v := .int vT_spells) (C := RX8) (T := TX8) (N := 10) hx hb hts i8 hown hK hP 0 rfl rfl 1 (by decide) (hw _ u132) (fun _ h9 => h9) rfl dX8_addTerm_68 ?_
        refine lv_dup2_11 hx hb dX8_addTerm_71 rfl rfl ?_
        obtain ⟨h14, hev⟩ := x_ld hev
        refine va_iald hx hb hK hP 1 0 rfl rfl h14 dX8_addTerm_72 ?_
        refine lv_topi (fun v15 ev15 => ?_)
        replace hev := hev v15 ev15
        refine lv_iconst (v := (1 : Int32)) hx hb dX8_addTerm_73 (by decide) ?_
        refine lv_iadd hx hb dX8_addTerm_74 ?_
        refine lv_topi (fun y16 ey16 => ?_)
        replace hev := x_lt hev y16 ey16
        obtain ⟨h17, hev⟩ := x_ck hev
        refine va_iast hx hb hK hP hD hS 1 0 rfl rfl h17 dX8_addTerm_75 (fun H lo hP hD hS => ?_)
        exact ret2 _ _ _ _ (upd fT_numbers (y11).toNatClampNeg p2) (upd fT_sorts (y11).toNatClampNeg p1) (upd fT_terms (vT_spells).toNatClampNeg y16) (Option.some.inj hev) dX8_addTerm_76 hP hD hS
def f_To_endSpell (vT_spells : Int32) (fT_wakes : Nat → Int32) (p1 : Int32) : Option (Int32 × (Nat → Int32)) := x_B (f_To_isFull vT_spells) (fun y1 => if y1 = 0 then (x_C 5 vT_spells (x_L ((vT_spells + (1 : Int32))) (fun y4 => some (y4, (upd fT_wakes (vT_spells).toNatClampNeg p1))))) else some (vT_spells, fT_wakes))
set_option maxHeartbeats 8000000 in
set_option maxRecDepth 100000 in
theorem c_To_endSpell (l : Launch) (G : GG) (aT aT_kinds aT_targets aT_wakes aT_terms aT_sorts aT_numbers : Nat) (vT_people : Int32) (vT_spells : Int32) (vT_day : Int32) (vT_broken : Int32) (fT_wakes : Nat → Int32) (p1 : Int32) (wvT_spells : Int32) (wfT_wakes : Nat → Int32) (hev : f_To_endSpell vT_spells fT_wakes p1 = some (wvT_spells, wfT_wakes)) : RW l G yX8_endSpell cX8_endSpell 2 none 1 [.ref aT, .int p1] [(aT, .inr (4, [.int vT_people, .int vT_spells, .int vT_day, .int vT_broken, .ref aT_kinds, .ref aT_targets, .ref aT_wakes, .ref aT_terms, .ref aT_sorts, .ref aT_numbers])), (aT_wakes, .inl (G.2.1, 5, .inl fT_wakes))] none [(aT, .inr (4, [.int vT_people, .int wvT_spells, .int vT_day, .int vT_broken, .ref aT_kinds, .ref aT_targets, .ref aT_wakes, .ref aT_terms, .ref aT_sorts, .ref aT_numbers])), (aT_wakes, .inl (G.2.1, 5, .inl wfT_wakes))] 0 0 := by
  refine RW_of (by decide) (Nat.le_of_ble_eq_true rfl) ?_
  intro p e s m ar below meth c R Q A ls X hR hRc hin hP hKK hD hS hA hAb hl ret
  obtain ⟨rs, hrs⟩ : ∃ q, q = (wvT_spells, wfT_wakes) := ⟨_, rfl⟩
  rw [← hrs] at hev
  have ret2 : ∀ (pc : Nat) (ls : Array Slot) (H : Heap) (lo : List Loc) (zvT_spells : Int32) (zfT_wakes : Nat → Int32), (zvT_spells, zfT_wakes) = rs → decode cX8_endSpell pc = .ok (.return_, 1) → va_P G.1 classes [(aT, .inr (4, [.int vT_people, .int zvT_spells, .int vT_day, .int vT_broken, .ref aT_kinds, .ref aT_targets, .ref aT_wakes, .ref aT_terms, .ref aT_sorts, .ref aT_numbers])), (aT_wakes, .inl (G.2.1, 5, .inl zfT_wakes))] H → va_D A [(aT, .inr (4, [.int vT_people, .int zvT_spells, .int vT_day, .int vT_broken, .ref aT_kinds, .ref aT_targets, .ref aT_wakes, .ref aT_terms, .ref aT_sorts, .ref aT_numbers])), (aT_wakes, .inl (G.2.1, 5, .inl zfT_wakes))] → va_S A s.heap H lo → W p l e R s m ar below meth c H lo 0 0 Q (F0 m pc ls []) := by
    intro pc ls H lo zvT_spells zfT_wakes he hd h1 h2 h3
    have he := he.trans hrs
    cases he
    exact ret.2.1 _ _ _ _ rfl rfl hd h1 h2 h3
  clear ret hrs
  have hl : lv_has ls 2 [(0, .ref aT), (1, .int p1)] := hl
  obtain ⟨hx, hb, hml, hown, hts, hT⟩ := id X
  have hK := hKK.1
  have hw : ∀ w ∈ T0, w.before ar s = true := fun w h => hts w (hT w h)
  have i8 := fun w h => hT w (inT8 w h)
  unfold f_To_endSpell at hev
  refine lv_aload_n hx hb dX8_endSpell_0 rfl (lv_at hl 0 rfl) ?_
  obtain ⟨y1, hq, hev⟩ := x_bd hev
  refine roV X (KK_at hKK hS hAb) hR (st1 := [.int y1]) (c_To_isFull l G aT aT_kinds aT_targets aT_wakes aT_terms aT_sorts aT_numbers vT_people vT_spells vT_day vT_broken y1 hq) K_X8_isFull u607 (x_Psub hP [0] rfl) rfl (q0 := 0) rfl (by decide) ⟨Nat.zero_le _, Nat.zero_le _⟩ rfl hl.1 rfl (Nat.le_of_ble_eq_true rfl) rfl dX8_endSpell_1 ?_
  refine lv_if_ne (tgt := 27) hx hb dX8_endSpell_4 (by decide) (fun c2 => ?_) (fun c2 => ?_)
  · replace hev := x_f c2 hev
    exact ret2 _ _ _ _ vT_spells fT_wakes (Option.some.inj hev) dX8_endSpell_27 hP hD hS
  · replace hev := x_t c2 hev
    refine lv_aload_n hx hb dX8_endSpell_7 rfl (lv_at hl 0 rfl) ?_
    refine va_get (D := G.1) (ci := 4) (v := .ref aT_wakes) (C := RX8) (T := TX8) (N := 10) hx hb hts i8 hown hK hP 0 rfl rfl 6 (by decide) (hw _ u137) (fun _ h9 => h9) rfl dX8_endSpell_8 ?_
    refine lv_aload_n hx hb dX8_endSpell_11 rfl (lv_at hl 0 rfl) ?_
    refine va_get (D := G.1) (ci := 4) (v := .int vT_spells) (C := RX8) (T := TX8) (N := 10) hx hb hts i8 hown hK hP 0 rfl rfl 1 (by decide) (hw _ u132) (fun _ h9 => h9) rfl dX8_endSpell_12 ?_
    refine lv_iload_n hx hb dX8_endSpell_15 rfl (lv_at hl 1 rfl) ?_
    obtain ⟨h3, hev⟩ := x_ck hev
    refine va_iast hx hb hK hP hD hS 1 0 rfl rfl h3 dX8_endSpell_16 (fun H lo hP hD hS => ?_)
    refine lv_aload_n hx hb dX8_endSpell_17 rfl (lv_at hl 0 rfl) ?_
    refine lv_dup hx hb dX8_endSpell_18 rfl ?_
    refine va_get (D := G.1) (ci := 4) (v := .int vT_spells) (C := RX8) (T := TX8) (N := 10) hx hb hts i8 hown hK hP 0 rfl rfl 1 (by decide) (hw _ u132) (fun _ h9 => h9) rfl dX8_endSpell_19 ?_
    refine lv_iconst (v := (1 : Int32)) hx hb dX8_endSpell_22 (by decide) ?_
    refine lv_iadd hx hb dX8_endSpell_23 ?_
    refine lv_topi (fun y4 ey4 => ?_)
    replace hev := x_lt hev y4 ey4
    refine va_put (D := G.1) (ci := 4) (v := .int y4) (ty := .int) (C := RX8) (T := TX8) (N := 10) hx hb hts i8 tyX8 tyX8_ok nmX8 hown hK hP hD hS 0 rfl rfl 1 (by decide) (hw _ u132) (fun _ h9 => h9) rfl (by decide +kernel) rfl rfl (Nat.le_of_ble_eq_true rfl) dX8_endSpell_24 (fun H lo hP hD hS => ?_)
    exact ret2 _ _ _ _ y4 (upd fT_wakes (vT_spells).toNatClampNeg p1) (Option.some.inj hev) dX8_endSpell_27 hP hD hS
def f_To_tellBare (vT_spells : Int32) : Option (Int32) := some (0 : Int32)
set_option maxHeartbeats 8000000 in
set_option maxRecDepth 100000 in
theorem c_To_tellBare (l : Launch) (G : GG) (aT aT_kinds aT_targets aT_wakes aT_terms aT_sorts aT_numbers : Nat) (vT_people : Int32) (vT_spells : Int32) (vT_day : Int32) (vT_broken : Int32) (wvT_spells : Int32) (hev : f_To_tellBare vT_spells = some wvT_spells) : RW l G yX8_tellBare cX8_tellBare 1 none 0 [.ref aT] [(aT, .inr (4, [.int vT_people, .int vT_spells, .int vT_day, .int vT_broken, .ref aT_kinds, .ref aT_targets, .ref aT_wakes, .ref aT_terms, .ref aT_sorts, .ref aT_numbers]))] none [(aT, .inr (4, [.int vT_people, .int wvT_spells, .int vT_day, .int vT_broken, .ref aT_kinds, .ref aT_targets, .ref aT_wakes, .ref aT_terms, .ref aT_sorts, .ref aT_numbers]))] 0 0 := by
  refine RW_of (by decide) (Nat.le_of_ble_eq_true rfl) ?_
  intro p e s m ar below meth c R Q A ls X hR hRc hin hP hKK hD hS hA hAb hl ret
  obtain ⟨rs, hrs⟩ : ∃ q, q = wvT_spells := ⟨_, rfl⟩
  rw [← hrs] at hev
  have ret2 : ∀ (pc : Nat) (ls : Array Slot) (H : Heap) (lo : List Loc) (zvT_spells : Int32), zvT_spells = rs → decode cX8_tellBare pc = .ok (.return_, 1) → va_P G.1 classes [(aT, .inr (4, [.int vT_people, .int zvT_spells, .int vT_day, .int vT_broken, .ref aT_kinds, .ref aT_targets, .ref aT_wakes, .ref aT_terms, .ref aT_sorts, .ref aT_numbers]))] H → va_D A [(aT, .inr (4, [.int vT_people, .int zvT_spells, .int vT_day, .int vT_broken, .ref aT_kinds, .ref aT_targets, .ref aT_wakes, .ref aT_terms, .ref aT_sorts, .ref aT_numbers]))] → va_S A s.heap H lo → W p l e R s m ar below meth c H lo 0 0 Q (F0 m pc ls []) := by
    intro pc ls H lo zvT_spells he hd h1 h2 h3
    have he := he.trans hrs
    cases he
    exact ret.2.1 _ _ _ _ rfl rfl hd h1 h2 h3
  clear ret hrs
  have hl : lv_has ls 1 [(0, .ref aT)] := hl
  obtain ⟨hx, hb, hml, hown, hts, hT⟩ := id X
  have hK := hKK.1
  have hw : ∀ w ∈ T0, w.before ar s = true := fun w h => hts w (hT w h)
  have i8 := fun w h => hT w (inT8 w h)
  unfold f_To_tellBare at hev
  refine lv_aload_n hx hb dX8_tellBare_0 rfl (lv_at hl 0 rfl) ?_
  refine lv_iconst (v := (0 : Int32)) hx hb dX8_tellBare_1 (by decide) ?_
  refine va_put (D := G.1) (ci := 4) (v := .int (0 : Int32)) (ty := .int) (C := RX8) (T := TX8) (N := 10) hx hb hts i8 tyX8 tyX8_ok nmX8 hown hK hP hD hS 0 rfl rfl 1 (by decide) (hw _ u132) (fun _ h9 => h9) rfl (by decide +kernel) rfl rfl (Nat.le_of_ble_eq_true rfl) dX8_tellBare_2 (fun H lo hP hD hS => ?_)
  exact ret2 _ _ _ _ (0 : Int32) (Option.some.inj hev) dX8_tellBare_5 hP hD hS
def f_To_tellPeople (vT_broken : Int32) (vT_day : Int32) (vT_people : Int32) (vT_spells : Int32) (p1 : Int32) : Option (Int32 × Int32 × Int32 × Int32) := some ((0 : Int32), (0 : Int32), p1, (0 : Int32))
set_option maxHeartbeats 8000000 in
set_option maxRecDepth 100000 in
theorem c_To_tellPeople (l : Launch) (G : GG) (aT aT_kinds aT_targets aT_wakes aT_terms aT_sorts aT_numbers : Nat) (vT_people : Int32) (vT_spells : Int32) (vT_day : Int32) (vT_broken : Int32) (p1 : Int32) (wvT_broken : Int32) (wvT_day : Int32) (wvT_people : Int32) (wvT_spells : Int32) (hev : f_To_tellPeople vT_broken vT_day vT_people vT_spells p1 = some (wvT_broken, wvT_day, wvT_people, wvT_spells)) : RW l G yX8_tellPeople cX8_tellPeople 2 none 0 [.ref aT, .int p1] [(aT, .inr (4, [.int vT_people, .int vT_spells, .int vT_day, .int vT_broken, .ref aT_kinds, .ref aT_targets, .ref aT_wakes, .ref aT_terms, .ref aT_sorts, .ref aT_numbers]))] none [(aT, .inr (4, [.int wvT_people, .int wvT_spells, .int wvT_day, .int wvT_broken, .ref aT_kinds, .ref aT_targets, .ref aT_wakes, .ref aT_terms, .ref aT_sorts, .ref aT_numbers]))] 0 0 := by
  refine RW_of (by decide) (Nat.le_of_ble_eq_true rfl) ?_
  intro p e s m ar below meth c R Q A ls X hR hRc hin hP hKK hD hS hA hAb hl ret
  obtain ⟨rs, hrs⟩ : ∃ q, q = (wvT_broken, wvT_day, wvT_people, wvT_spells) := ⟨_, rfl⟩
  rw [← hrs] at hev
  have ret2 : ∀ (pc : Nat) (ls : Array Slot) (H : Heap) (lo : List Loc) (zvT_broken : Int32) (zvT_day : Int32) (zvT_people : Int32) (zvT_spells : Int32), (zvT_broken, zvT_day, zvT_people, zvT_spells) = rs → decode cX8_tellPeople pc = .ok (.return_, 1) → va_P G.1 classes [(aT, .inr (4, [.int zvT_people, .int zvT_spells, .int zvT_day, .int zvT_broken, .ref aT_kinds, .ref aT_targets, .ref aT_wakes, .ref aT_terms, .ref aT_sorts, .ref aT_numbers]))] H → va_D A [(aT, .inr (4, [.int zvT_people, .int zvT_spells, .int zvT_day, .int zvT_broken, .ref aT_kinds, .ref aT_targets, .ref aT_wakes, .ref aT_terms, .ref aT_sorts, .ref aT_numbers]))] → va_S A s.heap H lo → W p l e R s m ar below meth c H lo 0 0 Q (F0 m pc ls []) := by
    intro pc ls H lo zvT_broken zvT_day zvT_people zvT_spells he hd h1 h2 h3
    have he := he.trans hrs
    cases he
    exact ret.2.1 _ _ _ _ rfl rfl hd h1 h2 h3
  clear ret hrs
  have hl : lv_has ls 2 [(0, .ref aT), (1, .int p1)] := hl
  obtain ⟨hx, hb, hml, hown, hts, hT⟩ := id X
  have hK := hKK.1
  have hw : ∀ w ∈ T0, w.before ar s = true := fun w h => hts w (hT w h)
  have i8 := fun w h => hT w (inT8 w h)
  unfold f_To_tellPeople at hev
  refine lv_aload_n hx hb dX8_tellPeople_0 rfl (lv_at hl 0 rfl) ?_
  refine lv_iload_n hx hb dX8_tellPeople_1 rfl (lv_at hl 1 rfl) ?_
  refine va_put (D := G.1) (ci := 4) (v := .int p1) (ty := .int) (C := RX8) (T := TX8) (N := 10) hx hb hts i8 tyX8 tyX8_ok nmX8 hown hK hP hD hS 0 rfl rfl 0 (by decide) (hw _ u131) (fun _ h9 => h9) rfl (by decide +kernel) rfl rfl (Nat.le_of_ble_eq_true rfl) dX8_tellPeople_2 (fun H lo hP hD hS => ?_)
  refine lv_aload_n hx hb dX8_tellPeople_5 rfl (lv_at hl 0 rfl) ?_
  refine lv_iconst (v := (0 : Int32)) hx hb dX8_tellPeople_6 (by decide) ?_
  refine va_put (D := G.1) (ci := 4) (v := .int (0 : Int32)) (ty := .int) (C := RX8) (T := TX8) (N := 10) hx hb hts i8 tyX8 tyX8_ok nmX8 hown hK hP hD hS 0 rfl rfl 1 (by decide) (hw _ u132) (fun _ h9 => h9) rfl (by decide +kernel) rfl rfl (Nat.le_of_ble_eq_true rfl) dX8_tellPeople_7 (fun H lo hP hD hS => ?_)
  refine lv_aload_n hx hb dX8_tellPeople_10 rfl (lv_at hl 0 rfl) ?_
  refine lv_iconst (v := (0 : Int32)) hx hb dX8_tellPeople_11 (by decide) ?_
  refine va_put (D := G.1) (ci := 4) (v := .int (0 : Int32)) (ty := .int) (C := RX8) (T := TX8) (N := 10) hx hb hts i8 tyX8 tyX8_ok nmX8 hown hK hP hD hS 0 rfl rfl 3 (by decide) (hw _ u134) (fun _ h9 => h9) rfl (by decide +kernel) rfl rfl (Nat.le_of_ble_eq_true rfl) dX8_tellPeople_12 (fun H lo hP hD hS => ?_)
  refine lv_aload_n hx hb dX8_tellPeople_15 rfl (lv_at hl 0 rfl) ?_
  refine lv_iconst (v := (0 : Int32)) hx hb dX8_tellPeople_16 (by decide) ?_
  refine va_put (D := G.1) (ci := 4) (v := .int (0 : Int32)) (ty := .int) (C := RX8) (T := TX8) (N := 10) hx hb hts i8 tyX8 tyX8_ok nmX8 hown hK hP hD hS 0 rfl rfl 2 (by decide) (hw _ u133) (fun _ h9 => h9) rfl (by decide +kernel) rfl rfl (Nat.le_of_ble_eq_true rfl) dX8_tellPeople_17 (fun H lo hP hD hS => ?_)
  exact ret2 _ _ _ _ (0 : Int32) (0 : Int32) p1 (0 : Int32) (Option.some.inj hev) dX8_tellPeople_20 hP hD hS
def f_To_tellDay (vT_day : Int32) (p1 : Int32) : Option (Int32) := some p1
set_option maxHeartbeats 8000000 in
set_option maxRecDepth 100000 in
theorem c_To_tellDay (l : Launch) (G : GG) (aT aT_kinds aT_targets aT_wakes aT_terms aT_sorts aT_numbers : Nat) (vT_people : Int32) (vT_spells : Int32) (vT_day : Int32) (vT_broken : Int32) (p1 : Int32) (wvT_day : Int32) (hev : f_To_tellDay vT_day p1 = some wvT_day) : RW l G yX8_tellDay cX8_tellDay 2 none 0 [.ref aT, .int p1] [(aT, .inr (4, [.int vT_people, .int vT_spells, .int vT_day, .int vT_broken, .ref aT_kinds, .ref aT_targets, .ref aT_wakes, .ref aT_terms, .ref aT_sorts, .ref aT_numbers]))] none [(aT, .inr (4, [.int vT_people, .int vT_spells, .int wvT_day, .int vT_broken, .ref aT_kinds, .ref aT_targets, .ref aT_wakes, .ref aT_terms, .ref aT_sorts, .ref aT_numbers]))] 0 0 := by
  refine RW_of (by decide) (Nat.le_of_ble_eq_true rfl) ?_
  intro p e s m ar below meth c R Q A ls X hR hRc hin hP hKK hD hS hA hAb hl ret
  obtain ⟨rs, hrs⟩ : ∃ q, q = wvT_day := ⟨_, rfl⟩
  rw [← hrs] at hev
  have ret2 : ∀ (pc : Nat) (ls : Array Slot) (H : Heap) (lo : List Loc) (zvT_day : Int32), zvT_day = rs → decode cX8_tellDay pc = .ok (.return_, 1) → va_P G.1 classes [(aT, .inr (4, [.int vT_people, .int vT_spells, .int zvT_day, .int vT_broken, .ref aT_kinds, .ref aT_targets, .ref aT_wakes, .ref aT_terms, .ref aT_sorts, .ref aT_numbers]))] H → va_D A [(aT, .inr (4, [.int vT_people, .int vT_spells, .int zvT_day, .int vT_broken, .ref aT_kinds, .ref aT_targets, .ref aT_wakes, .ref aT_terms, .ref aT_sorts, .ref aT_numbers]))] → va_S A s.heap H lo → W p l e R s m ar below meth c H lo 0 0 Q (F0 m pc ls []) := by
    intro pc ls H lo zvT_day he hd h1 h2 h3
    have he := he.trans hrs
    cases he
    exact ret.2.1 _ _ _ _ rfl rfl hd h1 h2 h3
  clear ret hrs
  have hl : lv_has ls 2 [(0, .ref aT), (1, .int p1)] := hl
  obtain ⟨hx, hb, hml, hown, hts, hT⟩ := id X
  have hK := hKK.1
  have hw : ∀ w ∈ T0, w.before ar s = true := fun w h => hts w (hT w h)
  have i8 := fun w h => hT w (inT8 w h)
  unfold f_To_tellDay at hev
  refine lv_aload_n hx hb dX8_tellDay_0 rfl (lv_at hl 0 rfl) ?_
  refine lv_iload_n hx hb dX8_tellDay_1 rfl (lv_at hl 1 rfl) ?_
  refine va_put (D := G.1) (ci := 4) (v := .int p1) (ty := .int) (C := RX8) (T := TX8) (N := 10) hx hb hts i8 tyX8 tyX8_ok nmX8 hown hK hP hD hS 0 rfl rfl 2 (by decide) (hw _ u133) (fun _ h9 => h9) rfl (by decide +kernel) rfl rfl (Nat.le_of_ble_eq_true rfl) dX8_tellDay_2 (fun H lo hP hD hS => ?_)
  exact ret2 _ _ _ _ p1 (Option.some.inj hev) dX8_tellDay_5 hP hD hS
def f_To_tellBroken (vT_broken : Int32) (p1 : Int32) : Option (Int32) := x_L ((vT_broken ||| ((1 : Int32) <<< (p1 &&& 31)))) (fun y1 => some y1)
set_option maxHeartbeats 8000000 in
set_option maxRecDepth 100000 in
theorem c_To_tellBroken (l : Launch) (G : GG) (aT aT_kinds aT_targets aT_wakes aT_terms aT_sorts aT_numbers : Nat) (vT_people : Int32) (vT_spells : Int32) (vT_day : Int32) (vT_broken : Int32) (p1 : Int32) (wvT_broken : Int32) (hev : f_To_tellBroken vT_broken p1 = some wvT_broken) : RW l G yX8_tellBroken cX8_tellBroken 2 none 0 [.ref aT, .int p1] [(aT, .inr (4, [.int vT_people, .int vT_spells, .int vT_day, .int vT_broken, .ref aT_kinds, .ref aT_targets, .ref aT_wakes, .ref aT_terms, .ref aT_sorts, .ref aT_numbers]))] none [(aT, .inr (4, [.int vT_people, .int vT_spells, .int vT_day, .int wvT_broken, .ref aT_kinds, .ref aT_targets, .ref aT_wakes, .ref aT_terms, .ref aT_sorts, .ref aT_numbers]))] 0 0 := by
  refine RW_of (by decide) (Nat.le_of_ble_eq_true rfl) ?_
  intro p e s m ar below meth c R Q A ls X hR hRc hin hP hKK hD hS hA hAb hl ret
  obtain ⟨rs, hrs⟩ : ∃ q, q = wvT_broken := ⟨_, rfl⟩
  rw [← hrs] at hev
  have ret2 : ∀ (pc : Nat) (ls : Array Slot) (H : Heap) (lo : List Loc) (zvT_broken : Int32), zvT_broken = rs → decode cX8_tellBroken pc = .ok (.return_, 1) → va_P G.1 classes [(aT, .inr (4, [.int vT_people, .int vT_spells, .int vT_day, .int zvT_broken, .ref aT_kinds, .ref aT_targets, .ref aT_wakes, .ref aT_terms, .ref aT_sorts, .ref aT_numbers]))] H → va_D A [(aT, .inr (4, [.int vT_people, .int vT_spells, .int vT_day, .int zvT_broken, .ref aT_kinds, .ref aT_targets, .ref aT_wakes, .ref aT_terms, .ref aT_sorts, .ref aT_numbers]))] → va_S A s.heap H lo → W p l e R s m ar below meth c H lo 0 0 Q (F0 m pc ls []) := by
    intro pc ls H lo zvT_broken he hd h1 h2 h3
    have he := he.trans hrs
    cases he
    exact ret.2.1 _ _ _ _ rfl rfl hd h1 h2 h3
  clear ret hrs
  have hl : lv_has ls 2 [(0, .ref aT), (1, .int p1)] := hl
  obtain ⟨hx, hb, hml, hown, hts, hT⟩ := id X
  have hK := hKK.1
  have hw : ∀ w ∈ T0, w.before ar s = true := fun w h => hts w (hT w h)
  have i8 := fun w h => hT w (inT8 w h)
  unfold f_To_tellBroken at hev
  refine lv_aload_n hx hb dX8_tellBroken_0 rfl (lv_at hl 0 rfl) ?_
  refine lv_dup hx hb dX8_tellBroken_1 rfl ?_
  refine va_get (D := G.1) (ci := 4) (v := .int vT_broken) (C := RX8) (T := TX8) (N := 10) hx hb hts i8 hown hK hP 0 rfl rfl 3 (by decide) (hw _ u134) (fun _ h9 => h9) rfl dX8_tellBroken_2 ?_
  refine lv_iconst (v := (1 : Int32)) hx hb dX8_tellBroken_5 (by decide) ?_
  refine lv_iload_n hx hb dX8_tellBroken_6 rfl (lv_at hl 1 rfl) ?_
  refine lv_ishl hx hb dX8_tellBroken_7 ?_
  refine lv_ior hx hb dX8_tellBroken_8 ?_
  refine lv_topi (fun y1 ey1 => ?_)
  replace hev := x_lt hev y1 ey1
  refine va_put (D := G.1) (ci := 4) (v := .int y1) (ty := .int) (C := RX8) (T := TX8) (N := 10) hx hb hts i8 tyX8 tyX8_ok nmX8 hown hK hP hD hS 0 rfl rfl 3 (by decide) (hw _ u134) (fun _ h9 => h9) rfl (by decide +kernel) rfl rfl (Nat.le_of_ble_eq_true rfl) dX8_tellBroken_9 (fun H lo hP hD hS => ?_)
  exact ret2 _ _ _ _ y1 (Option.some.inj hev) dX8_tellBroken_12 hP hD hS
def f_To_hasPerson (vT_people : Int32) (p1 : Int32) : Option (Int32) := if p1 < 0 then (some (0 : Int32)) else if vT_people ≤ p1 then (some (0 : Int32)) else some (1 : Int32)
set_option maxHeartbeats 8000000 in
set_option maxRecDepth 100000 in
theorem c_To_hasPerson (l : Launch) (G : GG) (aT aT_kinds aT_targets aT_wakes aT_terms aT_sorts aT_numbers : Nat) (vT_people : Int32) (vT_spells : Int32) (vT_day : Int32) (vT_broken : Int32) (p1 : Int32) (r0 : Int32) (hev : f_To_hasPerson vT_people p1 = some r0) : RO l G yX8_hasPerson cX8_hasPerson 2 (some .boolean) 0 [.ref aT, .int p1] [(aT, .inr (4, [.int vT_people, .int vT_spells, .int vT_day, .int vT_broken, .ref aT_kinds, .ref aT_targets, .ref aT_wakes, .ref aT_terms, .ref aT_sorts, .ref aT_numbers]))] (some (.int r0)) := by
  refine RO_of (by decide) (Nat.le_of_ble_eq_true rfl) ?_
  intro p e s m ar below meth c R Q H ls X hR hP hKK hS0 hl ret
  generalize hrs : r0 = rs at hev ret
  have hl : lv_has ls 2 [(0, .ref aT), (1, .int p1)] := hl
  obtain ⟨hx, hb, hml, hown, hts, hT⟩ := id X
  have hK := hKK.1
  have hw : ∀ w ∈ T0, w.before ar s = true := fun w h => hts w (hT w h)
  have i8 := fun w h => hT w (inT8 w h)
  unfold f_To_hasPerson at hev
  refine lv_iload_n hx hb dX8_hasPerson_0 rfl (lv_at hl 1 rfl) ?_
  refine lv_if_lt (tgt := 16) hx hb dX8_hasPerson_1 (by decide) (fun c1 => ?_) (fun c1 => ?_)
  · replace hev := x_t c1 hev
    refine lv_iconst (v := (0 : Int32)) hx hb dX8_hasPerson_16 (by decide) ?_
    exact ret _ _ _ dX8_hasPerson_17 ((show narrow _ (.int (0 : Int32)) = .int (0 : Int32) from nb0).trans (congrArg Value.int (Option.some.inj hev)))
  · replace hev := x_f c1 hev
    refine lv_iload_n hx hb dX8_hasPerson_4 rfl (lv_at hl 1 rfl) ?_
    refine lv_aload_n hx hb dX8_hasPerson_5 rfl (lv_at hl 0 rfl) ?_
    refine va_get (D := G.1) (ci := 4) (v := .int vT_people) (C := RX8) (T := TX8) (N := 10) hx hb hts i8 hown hK hP 0 rfl rfl 0 (by decide) (hw _ u131) (fun _ h9 => h9) rfl dX8_hasPerson_6 ?_
    refine lv_icmp_ge (tgt := 16) hx hb dX8_hasPerson_9 (by decide) (fun c2 => ?_) (fun c2 => ?_)
    · replace hev := x_t c2 hev
      refine lv_iconst (v := (0 : Int32)) hx hb dX8_hasPerson_16 (by decide) ?_
      exact ret _ _ _ dX8_hasPerson_17 ((show narrow _ (.int (0 : Int32)) = .int (0 : Int32) from nb0).trans (congrArg Value.int (Option.some.inj hev)))
    · replace hev := x_f c2 hev
      refine lv_iconst (v := (1 : Int32)) hx hb dX8_hasPerson_12 (by decide) ?_
      refine lv_goto (tgt := 17) hx hb dX8_hasPerson_13 (by decide) ?_
      exact ret _ _ _ dX8_hasPerson_17 ((show narrow _ (.int (1 : Int32)) = .int (1 : Int32) from nb1).trans (congrArg Value.int (Option.some.inj hev)))
def f_To_hasAll (vT_spells : Int32) (p1 : Int32) : Option (Int32) := if p1 < 0 then (some (0 : Int32)) else if ((1 : Int32) <<< (vT_spells &&& 31)) ≤ p1 then (some (0 : Int32)) else some (1 : Int32)
set_option maxHeartbeats 8000000 in
set_option maxRecDepth 100000 in
theorem c_To_hasAll (l : Launch) (G : GG) (aT aT_kinds aT_targets aT_wakes aT_terms aT_sorts aT_numbers : Nat) (vT_people : Int32) (vT_spells : Int32) (vT_day : Int32) (vT_broken : Int32) (p1 : Int32) (r0 : Int32) (hev : f_To_hasAll vT_spells p1 = some r0) : RO l G yX8_hasAll cX8_hasAll 2 (some .boolean) 0 [.ref aT, .int p1] [(aT, .inr (4, [.int vT_people, .int vT_spells, .int vT_day, .int vT_broken, .ref aT_kinds, .ref aT_targets, .ref aT_wakes, .ref aT_terms, .ref aT_sorts, .ref aT_numbers]))] (some (.int r0)) := by
  refine RO_of (by decide) (Nat.le_of_ble_eq_true rfl) ?_
  intro p e s m ar below meth c R Q H ls X hR hP hKK hS0 hl ret
  generalize hrs : r0 = rs at hev ret
  have hl : lv_has ls 2 [(0, .ref aT), (1, .int p1)] := hl
  obtain ⟨hx, hb, hml, hown, hts, hT⟩ := id X
  have hK := hKK.1
  have hw : ∀ w ∈ T0, w.before ar s = true := fun w h => hts w (hT w h)
  have i8 := fun w h => hT w (inT8 w h)
  unfold f_To_hasAll at hev
  refine lv_iload_n hx hb dX8_hasAll_0 rfl (lv_at hl 1 rfl) ?_
  refine lv_if_lt (tgt := 18) hx hb dX8_hasAll_1 (by decide) (fun c1 => ?_) (fun c1 => ?_)
  · replace hev := x_t c1 hev
    refine lv_iconst (v := (0 : Int32)) hx hb dX8_hasAll_18 (by decide) ?_
    exact ret _ _ _ dX8_hasAll_19 ((show narrow _ (.int (0 : Int32)) = .int (0 : Int32) from nb0).trans (congrArg Value.int (Option.some.inj hev)))
  · replace hev := x_f c1 hev
    refine lv_iload_n hx hb dX8_hasAll_4 rfl (lv_at hl 1 rfl) ?_
    refine lv_iconst (v := (1 : Int32)) hx hb dX8_hasAll_5 (by decide) ?_
    refine lv_aload_n hx hb dX8_hasAll_6 rfl (lv_at hl 0 rfl) ?_
    refine va_get (D := G.1) (ci := 4) (v := .int vT_spells) (C := RX8) (T := TX8) (N := 10) hx hb hts i8 hown hK hP 0 rfl rfl 1 (by decide) (hw _ u132) (fun _ h9 => h9) rfl dX8_hasAll_7 ?_
    refine lv_ishl hx hb dX8_hasAll_10 ?_
    refine lv_icmp_ge (tgt := 18) hx hb dX8_hasAll_11 (by decide) (fun c2 => ?_) (fun c2 => ?_)
    · replace hev := x_t c2 hev
      refine lv_iconst (v := (0 : Int32)) hx hb dX8_hasAll_18 (by decide) ?_
      exact ret _ _ _ dX8_hasAll_19 ((show narrow _ (.int (0 : Int32)) = .int (0 : Int32) from nb0).trans (congrArg Value.int (Option.some.inj hev)))
    · replace hev := x_f c2 hev
      refine lv_iconst (v := (1 : Int32)) hx hb dX8_hasAll_14 (by decide) ?_
      refine lv_goto (tgt := 19) hx hb dX8_hasAll_15 (by decide) ?_
      exact ret _ _ _ dX8_hasAll_19 ((show narrow _ (.int (1 : Int32)) = .int (1 : Int32) from nb1).trans (congrArg Value.int (Option.some.inj hev)))
def f_To_everybody (vT_people : Int32) : Option (Int32) := some (((1 : Int32) <<< (vT_people &&& 31)) - (1 : Int32))
set_option maxHeartbeats 8000000 in
set_option maxRecDepth 100000 in
theorem c_To_everybody (l : Launch) (G : GG) (aT aT_kinds aT_targets aT_wakes aT_terms aT_sorts aT_numbers : Nat) (vT_people : Int32) (vT_spells : Int32) (vT_day : Int32) (vT_broken : Int32) (r0 : Int32) (hev : f_To_everybody vT_people = some r0) : RO l G yX8_everybody cX8_everybody 1 (some .int) 0 [.ref aT] [(aT, .inr (4, [.int vT_people, .int vT_spells, .int vT_day, .int vT_broken, .ref aT_kinds, .ref aT_targets, .ref aT_wakes, .ref aT_terms, .ref aT_sorts, .ref aT_numbers]))] (some (.int r0)) := by
  refine RO_of (by decide) (Nat.le_of_ble_eq_true rfl) ?_
  intro p e s m ar below meth c R Q H ls X hR hP hKK hS0 hl ret
  generalize hrs : r0 = rs at hev ret
  have hl : lv_has ls 1 [(0, .ref aT)] := hl
  obtain ⟨hx, hb, hml, hown, hts, hT⟩ := id X
  have hK := hKK.1
  have hw : ∀ w ∈ T0, w.before ar s = true := fun w h => hts w (hT w h)
  have i8 := fun w h => hT w (inT8 w h)
  unfold f_To_everybody at hev
  refine lv_iconst (v := (1 : Int32)) hx hb dX8_everybody_0 (by decide) ?_
  refine lv_aload_n hx hb dX8_everybody_1 rfl (lv_at hl 0 rfl) ?_
  refine va_get (D := G.1) (ci := 4) (v := .int vT_people) (C := RX8) (T := TX8) (N := 10) hx hb hts i8 hown hK hP 0 rfl rfl 0 (by decide) (hw _ u131) (fun _ h9 => h9) rfl dX8_everybody_2 ?_
  refine lv_ishl hx hb dX8_everybody_5 ?_
  refine lv_iconst (v := (1 : Int32)) hx hb dX8_everybody_6 (by decide) ?_
  refine lv_isub hx hb dX8_everybody_7 ?_
  exact ret _ _ _ dX8_everybody_8 ((show narrow _ (.int (((1 : Int32) <<< (vT_people &&& 31)) - (1 : Int32))) = .int (((1 : Int32) <<< (vT_people &&& 31)) - (1 : Int32)) from rfl).trans (congrArg Value.int (Option.some.inj hev)))
