def lw_S0 : zS := (2, 0, 0, 0, fun _ _ => 0)
theorem lw_ok0 : z_okL lw_S0 := ⟨⟨by decide, by decide, by decide, fun s hs => absurd hs (Nat.not_lt_zero s)⟩, by decide, by decide⟩
theorem lw_inv0 (wvT_deeds : Int32) (wvT_fromNow_start : Int32) (wvT_princes_size : Int32) (wvT_row_size : Int32) (wvT_rules_deedCount : Int32) (wvT_rules_people : Int32) (wvT_rules_spells : Int32) (wvT_state : Int32) (wvT_trials_lifted : Int32) (wvT_trials_trials_size : Int32) (wvT_undoable_size : Int32) (wvT_whatIf_start : Int32) (wfT_keptDeeds : Nat → Int32) (wfT_rules_askings : Nat → Int32) (wfT_rules_bars : Nat → Int32) (wfT_rules_binders : Nat → Int32) (wfT_rules_bits : Nat → Int32) (wfT_rules_curses : Nat → Int32) (wfT_rules_doers : Nat → Int32) (wfT_rules_kisses : Nat → Int32) (wfT_rules_kissesNeeded : Nat → Int32) (wfT_rules_masks : Nat → Int32) (wfT_rules_sorts : Nat → Int32) (wfT_rules_values : Nat → Int32) (wfT_rules_wakings : Nat → Int32) (wfT_rules_whichs : Nat → Int32) (h : z_bgQ lw_S0 (wvT_deeds, wvT_fromNow_start, wvT_princes_size, wvT_row_size, wvT_rules_deedCount, wvT_rules_people, wvT_rules_spells, wvT_state, wvT_trials_lifted, wvT_trials_trials_size, wvT_undoable_size, wvT_whatIf_start, wfT_keptDeeds, wfT_rules_askings, wfT_rules_bars, wfT_rules_binders, wfT_rules_bits, wfT_rules_curses, wfT_rules_doers, wfT_rules_kisses, wfT_rules_kissesNeeded, wfT_rules_masks, wfT_rules_sorts, wfT_rules_values, wfT_rules_wakings, wfT_rules_whichs)) : z_inv 0 (fun j => ([wvT_deeds, 0, 0, 0, 0, wvT_fromNow_start, 0, wvT_princes_size, 0, 0, 0, 0, (2 : Int32), 0, 0, 0, wvT_row_size, wvT_rules_deedCount, wvT_rules_people, wvT_rules_spells, wvT_state, 0, 0, 0, (2 : Int32), 0, wvT_trials_lifted, 0, wvT_trials_trials_size, wvT_undoable_size, 0, 0, 0, 0, wvT_whatIf_start, 0] : List Int32).getD j 0) (fun j => ([wfT_keptDeeds, (fun _ => 0), (fun _ => 0), (fun _ => 0), (fun _ => 0), (fun _ => 0), (fun _ => 0), (fun _ => 0), (fun _ => 0), (fun _ => 0), (fun _ => 0), (fun _ => 0), wfT_rules_askings, wfT_rules_bars, wfT_rules_binders, wfT_rules_bits, wfT_rules_curses, wfT_rules_doers, wfT_rules_kisses, wfT_rules_kissesNeeded, wfT_rules_masks, wfT_rules_sorts, wfT_rules_values, wfT_rules_wakings, wfT_rules_whichs, (fun _ => 0), (fun _ => 0), (fun _ => 0), (fun _ => 0), (fun _ => 0), (fun _ => 0), (fun _ => 0), (fun _ => 0), (fun _ => 0), (fun _ => 0)] : List (Nat → Int32)).getD j (fun _ => 0)) (fun _ _ => 0) (fun _ => 0) (fun j => ([0, 0, 0, 0, 0, 0, 0, 0, 0, (2 : Int32), 0, 0, 0, 0, 0, 0, 0, 0, 0, 0] : List Int32).getD j 0) (fun j => ([(fun _ => 0), (fun _ => 0), (fun _ => 0), (fun _ => 0), (fun _ => 0), (fun _ => 0), (fun _ => 0), (fun _ => 0), (fun _ => 0), (fun _ => 0), (fun _ => 0), (fun _ => 0), (fun _ => 0), (fun _ => 0)] : List (Nat → Int32)).getD j (fun _ => 0)) := by
  obtain ⟨h1, h2, h3, h4, h5, h6, h7, h8, h9, h10, h11⟩ := h
  have no : ∀ s, ¬ s < lw_S0.2.1 := fun s hs => absurd hs (Nat.not_lt_zero s)
  refine ⟨fun _ => 0, 0, lw_S0, 0, 0, ⟨z_tx_0 (n := 0), z_tx_0 (n := 0), rfl, rfl⟩, lw_ok0, ⟨rfl, rfl, rfl, rfl, fun s hs => absurd hs (no s)⟩, ⟨rfl, rfl, rfl, rfl, fun s hs => absurd hs (no s)⟩, h11, ⟨⟨by decide, by decide, by decide⟩, by decide, h5, h1, rfl, rfl⟩, ⟨0, by decide, by decide, h8, rfl, fun i hi => absurd hi (Nat.not_lt_zero i)⟩, fun i hi => Or.inl ⟨rfl, h10 i hi⟩, ⟨0, by decide, h4, rfl, fun i hi => absurd hi (Nat.not_lt_zero i)⟩, ⟨0, by decide, h3, rfl, fun i hi => absurd hi (Nat.not_lt_zero i)⟩, ?_, ⟨Nat.zero_le _, Or.inl h2⟩, ⟨Nat.zero_le _, Or.inl h9⟩, Or.inl rfl, Or.inl rfl, ⟨Nat.le_refl _, Or.inl rfl⟩⟩
  exact ⟨0, fun _ _ => 0, ⟨⟨by decide, fun i hi => absurd hi (Nat.not_lt_zero i)⟩, h6, fun i hi => absurd hi (Nat.not_lt_zero i)⟩, ⟨⟨by decide, fun i hi => absurd hi (Nat.not_lt_zero i)⟩, fun i hi => absurd hi (Nat.not_lt_zero i)⟩, h7, rfl⟩
theorem lw_over : ∀ j, j < 6 → Cond.eq (.elem (.static "SevenSpells$Kind" "OVER" "[I") (.int (Int32.ofNat j))) (.int (overR.getD j 0)) ∈ flatC (Jvm.Cond.and given_1 narrow_1) := by decide +kernel
theorem lw_wb : ∀ j, j < 88 → Cond.eq (.elem (.field (.string "SevenSpells$Reader" 87) "java/lang/String" "value" "[B") (.int (Int32.ofNat j))) (.int (wordsB.getD j 0)) ∈ flatC (Jvm.Cond.and given_1 narrow_1) := by decide +kernel
set_option maxHeartbeats 8000000 in
set_option maxRecDepth 100000 in
theorem lw_keep {p : Program} {s : State} {m : MethodId} {meth : Method} {c : Code} {b L : Nat} {xs : Nat → Int32} (C0 : lw_At p s m meth c b L xs) : ∃ G : GG, KK G s s.heap ∧ G.2.2.2.2.1 = s.heap.size := by
  obtain ⟨hx, hb, hr, hml, hown, hts, hX, hbl, hlocks, hgv⟩ := C0
  have hs := flat_of_before _ hgv
  have hA : ∀ a : Nat, a < s.heap.size → ¬ (fun q : Nat => s.heap.size ≤ q) a := fun a h h2 => Nat.not_lt.mpr h2 h
  have hw : ∀ w ∈ T0, w.before #[Value.ref b] s = true := fun w h => hts w (List.mem_filter.mp h).1
  obtain ⟨c0, d0, k0⟩ := u_known (C := RX2) (T := TX2) (N := 6) (n := 6) hts (fun w h => (List.mem_filter.mp (inT2 w h)).1) (hw _ u163)
  obtain ⟨c1, d1, k1⟩ := u_known (C := RX3) (T := TX3) (N := 2) (n := 2) hts (fun w h => (List.mem_filter.mp (inT3 w h)).1) (hw _ u109)
  obtain ⟨c2, d2, k2⟩ := u_known (C := RX4) (T := TX4) (N := 16) (n := 16) hts (fun w h => (List.mem_filter.mp (inT4 w h)).1) (hw _ u192)
  obtain ⟨c3, d3, k3⟩ := u_known (C := RX5) (T := TX5) (N := 9) (n := 9) hts (fun w h => (List.mem_filter.mp (inT5 w h)).1) (hw _ u247)
  obtain ⟨c4, d4, k4⟩ := u_known (C := RX8) (T := TX8) (N := 10) (n := 10) hts (fun w h => (List.mem_filter.mp (inT8 w h)).1) (hw _ u126)
  obtain ⟨c5, d5, k5⟩ := u_known (C := RX9) (T := TX9) (N := 4) (n := 4) hts (fun w h => (List.mem_filter.mp (inT9 w h)).1) (hw _ u282)
  obtain ⟨c6, d6, k6⟩ := u_known (C := RX10) (T := TX10) (N := 14) (n := 14) hts (fun w h => (List.mem_filter.mp (inT10 w h)).1) (hw _ u101)
  obtain ⟨c7, d7, k7⟩ := u_known (C := RX11) (T := TX11) (N := 34) (n := 34) hts (fun w h => (List.mem_filter.mp (inT11 w h)).1) (hw _ u1081)
  have hKc : ∀ (k : Nat) (q : vw_C), classes[k]? = some q → u_Kn s q.1 q.2.1 q.2.2 ((fun k => ([c0, c1, c2, c3, c4, c5, c6, c7] : List ClassId).getD k c0) k) ((fun k => ([d0, d1, d2, d3, d4, d5, d6, d7] : List (Nat → Nat)).getD k d0) k) := by
    intro k q hq
    match k, hq with
    | 0, hq => cases hq; exact k0
    | 1, hq => cases hq; exact k1
    | 2, hq => cases hq; exact k2
    | 3, hq => cases hq; exact k3
    | 4, hq => cases hq; exact k4
    | 5, hq => cases hq; exact k5
    | 6, hq => cases hq; exact k6
    | 7, hq => cases hq; exact k7
    | k + 8, hq => simp [classes] at hq
  obtain ⟨cI, kI, mI, fI, gI, hI⟩ := Cond.arrayClass_spec (hw (.arrayClass .int) u124)
  obtain ⟨cJ, kJ, mJ, fJ, gJ, hJ⟩ := Cond.arrayClass_spec (hw (.arrayClass .long) u280)
  obtain ⟨cZ, kZ, mZ, fZ, gZ, hZ⟩ := Cond.arrayClass_spec (hw (.arrayClass .boolean) u1190)
  obtain ⟨tO, hO1, hO2⟩ := va_Tof (args := #[Value.ref b]) (s := s) (tm := .static "SevenSpells$Kind" "OVER" "[I") (ty := .int) (N := 6) (f := fun j => .int (overR.getD j 0)) (A := fun q : Nat => s.heap.size ≤ q) (by decide) (hs _ (by decide +kernel)) (va_eqt (hs _ (by decide +kernel))) (fun j hj => va_eqt (hs _ (lw_over j hj))) hA
  obtain ⟨adK, adV, hW1, hW2⟩ := vk_Sof (args := #[Value.ref b]) (s := s) (N := 1) (tm := fun _ => .string "SevenSpells$Reader" 87) (len := [88]) (byt := [wordsB]) (A := fun q : Nat => s.heap.size ≤ q) (fun i hi => by rw [show i = 0 by omega]; decide) (fun _ _ => hs _ (by decide +kernel)) (fun _ _ => hs _ (by decide +kernel)) (fun _ _ => hs _ (by decide +kernel)) (fun i hi => by rw [show i = 0 by omega]; exact hs _ (by decide +kernel)) (fun i hi => by rw [show i = 0 by omega]; exact fun j hj => hs _ (lw_wb j hj)) (fun i j hi hj hij => absurd (show i = j by omega) hij) hA
  have hty : ∀ (k : Nat) (q : ClassId × FieldType), ([(cI, .int), (cJ, .long), (cZ, .boolean)] : List (ClassId × FieldType))[k]? = some q → ArrOfT s q.1 q.2 ∧ va_RA s q.1 q.2 := by
    intro k q hq
    match k, hq with
    | 0, hq => cases hq; exact ⟨fun n z => ⟨fun k h => (by cases h), kI, gI, mI, hI⟩, fI⟩
    | 1, hq => cases hq; exact ⟨fun n z => ⟨fun k h => (by cases h), kJ, gJ, mJ, hJ⟩, fJ⟩
    | 2, hq => cases hq; exact ⟨fun n z => ⟨fun k h => (by cases h), kZ, gZ, mZ, hZ⟩, fZ⟩
    | k + 3, hq => simp at hq
  have hZ1 : va_Z "SevenSpells$Kind" "OVER" "[I" (.ref tO) (fun q : Nat => s.heap.size ≤ q) s s.heap := va_Zof (hts _ (m3 (List.mem_of_getElem? (i := 143) rfl))) (hw _ u98) hO1 hA
  have hZ2 : va_Z "java/lang/String" "COMPACT_STRINGS" "Z" (.int 1) (fun q : Nat => s.heap.size ≤ q) s s.heap := va_Zof (hts _ (m2 (List.mem_of_getElem? (i := 213) rfl))) (hw _ u93) (va_eqi (hs _ (by decide +kernel))) hA
  have hZ3 : va_Zq "jdk/internal/util/Preconditions" "SIOOBE_FORMATTER" "Ljava/util/function/BiFunction;" (fun q : Nat => s.heap.size ≤ q) s s.heap := va_Zqof (hts _ (m2 (List.mem_of_getElem? (i := 229) rfl))) (hw _ u95) (hs _ (by decide +kernel)) hA
  refine ⟨((fun k => ([c0, c1, c2, c3, c4, c5, c6, c7] : List ClassId).getD k c0, fun k => ([d0, d1, d2, d3, d4, d5, d6, d7] : List (Nat → Nat)).getD k d0), cI, cJ, cZ, s.heap.size, tO, adK 0, adV 0), ⟨⟨hKc, hty⟩, ⟨(va_Nw.of rfl (hts _ (m4 (List.mem_of_getElem? (i := 233) rfl)))), (va_Nw.of rfl (hts _ (m1 (List.mem_of_getElem? (i := 47) rfl)))), (va_Nw.of rfl (hts _ (m1 (List.mem_of_getElem? (i := 91) rfl)))), (va_Nw.of rfl (hts _ (m1 (List.mem_of_getElem? (i := 113) rfl)))), (va_Nw.of rfl (hts _ (m1 (List.mem_of_getElem? (i := 203) rfl))))⟩, Nat.le_refl _, vk_R.of (hts _ (m2 (List.mem_of_getElem? (i := 203) rfl))) (hW2 0 (by decide)), hZ1, hO2, hZ2, hZ3, ⟨fun i hi => by rw [show i = 0 by omega]; exact hW1.1 0 (by decide), fun i j hi hj _ => by omega⟩⟩, rfl⟩
