def f_Rd_readLine_J68 (k : Nat) (nT_codes_items : Nat) (vT_at : Int32) (vT_codes_size : Int32) (vT_draft_broken : Int32) (vT_draft_day : Int32) (vT_draft_people : Int32) (vT_draft_spells : Int32) (fT_codes_items : Nat → Int32) (fT_draft_kinds : Nat → Int32) (fT_draft_numbers : Nat → Int32) (fT_draft_sorts : Nat → Int32) (fT_draft_targets : Nat → Int32) (fT_draft_terms : Nat → Int32) (fT_draft_wakes : Nat → Int32) (x1 : Int32) : Option (Int32 × Int32 × Int32 × Int32 × Int32 × Int32 × (Nat → Int32) × (Nat → Int32) × (Nat → Int32) × (Nat → Int32) × (Nat → Int32) × (Nat → Int32)) := x_L ((vT_at + (1 : Int32))) (fun y1 => x_B (f_Rd_takeNumberBehind nT_codes_items y1 vT_codes_size vT_draft_people vT_draft_spells fT_codes_items x1) (fun ⟨y2, w3⟩ => if y2 = (-1 : Int32) then (some ((0 : Int32), w3, vT_draft_broken, vT_draft_day, vT_draft_people, vT_draft_spells, fT_draft_kinds, fT_draft_numbers, fT_draft_sorts, fT_draft_targets, fT_draft_terms, fT_draft_wakes)) else if x1 = (12 : Int32) then (x_B (f_To_tellPeople vT_draft_broken vT_draft_day vT_draft_people vT_draft_spells y2) (fun ⟨w9, w10, w11, w12⟩ => some ((1 : Int32), w3, w9, w10, w11, w12, fT_draft_kinds, fT_draft_numbers, fT_draft_sorts, fT_draft_targets, fT_draft_terms, fT_draft_wakes))) else if x1 = (23 : Int32) then (x_B (f_To_tellDay vT_draft_day y2) (fun w8 => some ((1 : Int32), w3, vT_draft_broken, w8, vT_draft_people, vT_draft_spells, fT_draft_kinds, fT_draft_numbers, fT_draft_sorts, fT_draft_targets, fT_draft_terms, fT_draft_wakes))) else x_B (f_To_tellBroken vT_draft_broken y2) (fun w7 => some ((1 : Int32), w3, w7, vT_draft_day, vT_draft_people, vT_draft_spells, fT_draft_kinds, fT_draft_numbers, fT_draft_sorts, fT_draft_targets, fT_draft_terms, fT_draft_wakes))))
def f_Rd_readLine_J30 (k : Nat) (nT_codes_items : Nat) (vT_at : Int32) (vT_codes_size : Int32) (vT_draft_broken : Int32) (vT_draft_day : Int32) (vT_draft_people : Int32) (vT_draft_spells : Int32) (fT_codes_items : Nat → Int32) (fT_draft_kinds : Nat → Int32) (fT_draft_numbers : Nat → Int32) (fT_draft_sorts : Nat → Int32) (fT_draft_targets : Nat → Int32) (fT_draft_terms : Nat → Int32) (fT_draft_wakes : Nat → Int32) (x1 : Int32) : Option (Int32 × Int32 × Int32 × Int32 × Int32 × Int32 × (Nat → Int32) × (Nat → Int32) × (Nat → Int32) × (Nat → Int32) × (Nat → Int32) × (Nat → Int32)) := x_B (f_Rd_takes nT_codes_items vT_at vT_codes_size fT_codes_items (17 : Int32)) (fun ⟨y13, w14⟩ => if y13 = 0 then (if x1 = (12 : Int32) then (f_Rd_readLine_J68 k nT_codes_items w14 vT_codes_size vT_draft_broken vT_draft_day vT_draft_people vT_draft_spells fT_codes_items fT_draft_kinds fT_draft_numbers fT_draft_sorts fT_draft_targets fT_draft_terms fT_draft_wakes x1) else if x1 = (23 : Int32) then (f_Rd_readLine_J68 k nT_codes_items w14 vT_codes_size vT_draft_broken vT_draft_day vT_draft_people vT_draft_spells fT_codes_items fT_draft_kinds fT_draft_numbers fT_draft_sorts fT_draft_targets fT_draft_terms fT_draft_wakes x1) else if x1 = (26 : Int32) then (f_Rd_readLine_J68 k nT_codes_items w14 vT_codes_size vT_draft_broken vT_draft_day vT_draft_people vT_draft_spells fT_codes_items fT_draft_kinds fT_draft_numbers fT_draft_sorts fT_draft_targets fT_draft_terms fT_draft_wakes x1) else some ((0 : Int32), w14, vT_draft_broken, vT_draft_day, vT_draft_people, vT_draft_spells, fT_draft_kinds, fT_draft_numbers, fT_draft_sorts, fT_draft_targets, fT_draft_terms, fT_draft_wakes)) else x_B (f_To_tellBare vT_draft_spells) (fun w19 => some ((1 : Int32), w14, vT_draft_broken, vT_draft_day, vT_draft_people, w19, fT_draft_kinds, fT_draft_numbers, fT_draft_sorts, fT_draft_targets, fT_draft_terms, fT_draft_wakes)))
def f_Rd_readLine (k : Nat) (nT_codes_items : Nat) (vT_at : Int32) (vT_codes_size : Int32) (vT_draft_broken : Int32) (vT_draft_day : Int32) (vT_draft_people : Int32) (vT_draft_spells : Int32) (fT_codes_items : Nat → Int32) (fT_draft_kinds : Nat → Int32) (fT_draft_numbers : Nat → Int32) (fT_draft_sorts : Nat → Int32) (fT_draft_targets : Nat → Int32) (fT_draft_terms : Nat → Int32) (fT_draft_wakes : Nat → Int32) : Option (Int32 × Int32 × Int32 × Int32 × Int32 × Int32 × (Nat → Int32) × (Nat → Int32) × (Nat → Int32) × (Nat → Int32) × (Nat → Int32) × (Nat → Int32)) := x_B (f_Rw_at nT_codes_items vT_codes_size fT_codes_items vT_at) (fun y20 => if y20 < (13 : Int32) then (f_Rd_readLine_J30 k nT_codes_items vT_at vT_codes_size vT_draft_broken vT_draft_day vT_draft_people vT_draft_spells fT_codes_items fT_draft_kinds fT_draft_numbers fT_draft_sorts fT_draft_targets fT_draft_terms fT_draft_wakes y20) else if (16 : Int32) < y20 then (f_Rd_readLine_J30 k nT_codes_items vT_at vT_codes_size vT_draft_broken vT_draft_day vT_draft_people vT_draft_spells fT_codes_items fT_draft_kinds fT_draft_numbers fT_draft_sorts fT_draft_targets fT_draft_terms fT_draft_wakes y20) else x_B (f_Rd_readSpell k nT_codes_items vT_at vT_codes_size vT_draft_people vT_draft_spells fT_codes_items fT_draft_kinds fT_draft_numbers fT_draft_sorts fT_draft_targets fT_draft_terms fT_draft_wakes y20) (fun ⟨y23, w24, w25, w26, w27, w28, w29, w30, w31⟩ => some ((y23 &&& 1), w24, vT_draft_broken, vT_draft_day, vT_draft_people, w25, w26, w27, w28, w29, w30, w31)))
set_option maxHeartbeats 8000000 in
set_option maxRecDepth 100000 in
theorem c_Rd_readLine (l : Launch) (G : GG) (aT aT_text aT_codes aT_places aT_draft aT_codes_items aT_draft_kinds aT_draft_targets aT_draft_wakes aT_draft_terms aT_draft_sorts aT_draft_numbers : Nat) (vT_at : Int32) (vT_lines : Int32) (vT_codes_size : Int32) (vT_draft_people : Int32) (vT_draft_spells : Int32) (vT_draft_day : Int32) (vT_draft_broken : Int32) (fT_codes_items : Nat → Int32) (nT_codes_items : Nat) (fT_draft_kinds : Nat → Int32) (fT_draft_targets : Nat → Int32) (fT_draft_terms : Nat → Int32) (fT_draft_wakes : Nat → Int32) (fT_draft_sorts : Nat → Int32) (fT_draft_numbers : Nat → Int32) (k : Nat) (r0 : Int32) (wvT_at : Int32) (wvT_draft_broken : Int32) (wvT_draft_day : Int32) (wvT_draft_people : Int32) (wvT_draft_spells : Int32) (wfT_draft_kinds : Nat → Int32) (wfT_draft_numbers : Nat → Int32) (wfT_draft_sorts : Nat → Int32) (wfT_draft_targets : Nat → Int32) (wfT_draft_terms : Nat → Int32) (wfT_draft_wakes : Nat → Int32) (hev : f_Rd_readLine k nT_codes_items vT_at vT_codes_size vT_draft_broken vT_draft_day vT_draft_people vT_draft_spells fT_codes_items fT_draft_kinds fT_draft_numbers fT_draft_sorts fT_draft_targets fT_draft_terms fT_draft_wakes = some (r0, wvT_at, wvT_draft_broken, wvT_draft_day, wvT_draft_people, wvT_draft_spells, wfT_draft_kinds, wfT_draft_numbers, wfT_draft_sorts, wfT_draft_targets, wfT_draft_terms, wfT_draft_wakes)) : RW l G yX2_readLine cX2_readLine 3 (some .boolean) 5 [.ref aT] [(aT, .inr (0, [.ref aT_text, .ref aT_codes, .ref aT_places, .ref aT_draft, .int vT_at, .int vT_lines])), (aT_codes, .inr (1, [.ref aT_codes_items, .int vT_codes_size])), (aT_draft, .inr (4, [.int vT_draft_people, .int vT_draft_spells, .int vT_draft_day, .int vT_draft_broken, .ref aT_draft_kinds, .ref aT_draft_targets, .ref aT_draft_wakes, .ref aT_draft_terms, .ref aT_draft_sorts, .ref aT_draft_numbers])), (aT_codes_items, .inl (G.2.1, nT_codes_items, .inl fT_codes_items)), (aT_draft_kinds, .inl (G.2.1, 5, .inl fT_draft_kinds)), (aT_draft_targets, .inl (G.2.1, 5, .inl fT_draft_targets)), (aT_draft_terms, .inl (G.2.1, 5, .inl fT_draft_terms)), (aT_draft_wakes, .inl (G.2.1, 5, .inl fT_draft_wakes)), (aT_draft_sorts, .inl (G.2.1, 15, .inl fT_draft_sorts)), (aT_draft_numbers, .inl (G.2.1, 15, .inl fT_draft_numbers))] (some (.int r0)) [(aT, .inr (0, [.ref aT_text, .ref aT_codes, .ref aT_places, .ref aT_draft, .int wvT_at, .int vT_lines])), (aT_codes, .inr (1, [.ref aT_codes_items, .int vT_codes_size])), (aT_draft, .inr (4, [.int wvT_draft_people, .int wvT_draft_spells, .int wvT_draft_day, .int wvT_draft_broken, .ref aT_draft_kinds, .ref aT_draft_targets, .ref aT_draft_wakes, .ref aT_draft_terms, .ref aT_draft_sorts, .ref aT_draft_numbers])), (aT_codes_items, .inl (G.2.1, nT_codes_items, .inl fT_codes_items)), (aT_draft_kinds, .inl (G.2.1, 5, .inl wfT_draft_kinds)), (aT_draft_targets, .inl (G.2.1, 5, .inl wfT_draft_targets)), (aT_draft_terms, .inl (G.2.1, 5, .inl wfT_draft_terms)), (aT_draft_wakes, .inl (G.2.1, 5, .inl wfT_draft_wakes)), (aT_draft_sorts, .inl (G.2.1, 15, .inl wfT_draft_sorts)), (aT_draft_numbers, .inl (G.2.1, 15, .inl wfT_draft_numbers))] 0 0 := by
  refine RW_of (by decide) (Nat.le_of_ble_eq_true rfl) ?_
  intro p e s m ar below meth c R Q A ls X hR hRc hin hP hKK hD hS hA hAb hl ret
  obtain ⟨rs, hrs⟩ : ∃ q, q = (r0, wvT_at, wvT_draft_broken, wvT_draft_day, wvT_draft_people, wvT_draft_spells, wfT_draft_kinds, wfT_draft_numbers, wfT_draft_sorts, wfT_draft_targets, wfT_draft_terms, wfT_draft_wakes) := ⟨_, rfl⟩
  rw [← hrs] at hev
  have ret2 : ∀ (pc : Nat) (ls : Array Slot) (H : Heap) (lo : List Loc) (v r1 : Int32) (zvT_at : Int32) (zvT_draft_broken : Int32) (zvT_draft_day : Int32) (zvT_draft_people : Int32) (zvT_draft_spells : Int32) (zfT_draft_kinds : Nat → Int32) (zfT_draft_numbers : Nat → Int32) (zfT_draft_sorts : Nat → Int32) (zfT_draft_targets : Nat → Int32) (zfT_draft_terms : Nat → Int32) (zfT_draft_wakes : Nat → Int32), (r1, zvT_at, zvT_draft_broken, zvT_draft_day, zvT_draft_people, zvT_draft_spells, zfT_draft_kinds, zfT_draft_numbers, zfT_draft_sorts, zfT_draft_targets, zfT_draft_terms, zfT_draft_wakes) = rs → decode cX2_readLine pc = .ok (.ireturn, 1) → narrow .boolean (.int v) = .int r1 → va_P G.1 classes [(aT, .inr (0, [.ref aT_text, .ref aT_codes, .ref aT_places, .ref aT_draft, .int zvT_at, .int vT_lines])), (aT_codes, .inr (1, [.ref aT_codes_items, .int vT_codes_size])), (aT_draft, .inr (4, [.int zvT_draft_people, .int zvT_draft_spells, .int zvT_draft_day, .int zvT_draft_broken, .ref aT_draft_kinds, .ref aT_draft_targets, .ref aT_draft_wakes, .ref aT_draft_terms, .ref aT_draft_sorts, .ref aT_draft_numbers])), (aT_codes_items, .inl (G.2.1, nT_codes_items, .inl fT_codes_items)), (aT_draft_kinds, .inl (G.2.1, 5, .inl zfT_draft_kinds)), (aT_draft_targets, .inl (G.2.1, 5, .inl zfT_draft_targets)), (aT_draft_terms, .inl (G.2.1, 5, .inl zfT_draft_terms)), (aT_draft_wakes, .inl (G.2.1, 5, .inl zfT_draft_wakes)), (aT_draft_sorts, .inl (G.2.1, 15, .inl zfT_draft_sorts)), (aT_draft_numbers, .inl (G.2.1, 15, .inl zfT_draft_numbers))] H → va_D A [(aT, .inr (0, [.ref aT_text, .ref aT_codes, .ref aT_places, .ref aT_draft, .int zvT_at, .int vT_lines])), (aT_codes, .inr (1, [.ref aT_codes_items, .int vT_codes_size])), (aT_draft, .inr (4, [.int zvT_draft_people, .int zvT_draft_spells, .int zvT_draft_day, .int zvT_draft_broken, .ref aT_draft_kinds, .ref aT_draft_targets, .ref aT_draft_wakes, .ref aT_draft_terms, .ref aT_draft_sorts, .ref aT_draft_numbers])), (aT_codes_items, .inl (G.2.1, nT_codes_items, .inl fT_codes_items)), (aT_draft_kinds, .inl (G.2.1, 5, .inl zfT_draft_kinds)), (aT_draft_targets, .inl (G.2.1, 5, .inl zfT_draft_targets)), (aT_draft_terms, .inl (G.2.1, 5, .inl zfT_draft_terms)), (aT_draft_wakes, .inl (G.2.1, 5, .inl zfT_draft_wakes)), (aT_draft_sorts, .inl (G.2.1, 15, .inl zfT_draft_sorts)), (aT_draft_numbers, .inl (G.2.1, 15, .inl zfT_draft_numbers))] → va_S A s.heap H lo → W p l e R s m ar below meth c H lo 0 0 Q (F0 m pc ls [.int v]) := by
    intro pc ls H lo v r1 zvT_at zvT_draft_broken zvT_draft_day zvT_draft_people zvT_draft_spells zfT_draft_kinds zfT_draft_numbers zfT_draft_sorts zfT_draft_targets zfT_draft_terms zfT_draft_wakes he hd hn h1 h2 h3
    have he := he.trans hrs
    cases he
    exact ret.1 _ _ _ _ _ _ _ rfl rfl hd hn h1 h2 h3
  clear ret hrs
  have hl : lv_has ls 3 [(0, .ref aT)] := hl
  obtain ⟨hx, hb, hml, hown, hts, hT⟩ := id X
  have hK := hKK.1
  have hw : ∀ w ∈ T0, w.before ar s = true := fun w h => hts w (hT w h)
  have i2 := fun w h => hT w (inT2 w h)
  have J68 : ∀ (vT_at : Int32) (vT_draft_broken : Int32) (vT_draft_day : Int32) (vT_draft_people : Int32) (vT_draft_spells : Int32) (fT_draft_kinds : Nat → Int32) (fT_draft_numbers : Nat → Int32) (fT_draft_sorts : Nat → Int32) (fT_draft_targets : Nat → Int32) (fT_draft_terms : Nat → Int32) (fT_draft_wakes : Nat → Int32) (x1 : Int32), ∀ (H : Heap) (lo : List Loc), va_P G.1 classes [(aT, .inr (0, [.ref aT_text, .ref aT_codes, .ref aT_places, .ref aT_draft, .int vT_at, .int vT_lines])), (aT_codes, .inr (1, [.ref aT_codes_items, .int vT_codes_size])), (aT_draft, .inr (4, [.int vT_draft_people, .int vT_draft_spells, .int vT_draft_day, .int vT_draft_broken, .ref aT_draft_kinds, .ref aT_draft_targets, .ref aT_draft_wakes, .ref aT_draft_terms, .ref aT_draft_sorts, .ref aT_draft_numbers])), (aT_codes_items, .inl (G.2.1, nT_codes_items, .inl fT_codes_items)), (aT_draft_kinds, .inl (G.2.1, 5, .inl fT_draft_kinds)), (aT_draft_targets, .inl (G.2.1, 5, .inl fT_draft_targets)), (aT_draft_terms, .inl (G.2.1, 5, .inl fT_draft_terms)), (aT_draft_wakes, .inl (G.2.1, 5, .inl fT_draft_wakes)), (aT_draft_sorts, .inl (G.2.1, 15, .inl fT_draft_sorts)), (aT_draft_numbers, .inl (G.2.1, 15, .inl fT_draft_numbers))] H → va_D A [(aT, .inr (0, [.ref aT_text, .ref aT_codes, .ref aT_places, .ref aT_draft, .int vT_at, .int vT_lines])), (aT_codes, .inr (1, [.ref aT_codes_items, .int vT_codes_size])), (aT_draft, .inr (4, [.int vT_draft_people, .int vT_draft_spells, .int vT_draft_day, .int vT_draft_broken, .ref aT_draft_kinds, .ref aT_draft_targets, .ref aT_draft_wakes, .ref aT_draft_terms, .ref aT_draft_sorts, .ref aT_draft_numbers])), (aT_codes_items, .inl (G.2.1, nT_codes_items, .inl fT_codes_items)), (aT_draft_kinds, .inl (G.2.1, 5, .inl fT_draft_kinds)), (aT_draft_targets, .inl (G.2.1, 5, .inl fT_draft_targets)), (aT_draft_terms, .inl (G.2.1, 5, .inl fT_draft_terms)), (aT_draft_wakes, .inl (G.2.1, 5, .inl fT_draft_wakes)), (aT_draft_sorts, .inl (G.2.1, 15, .inl fT_draft_sorts)), (aT_draft_numbers, .inl (G.2.1, 15, .inl fT_draft_numbers))] → va_S A s.heap H lo → ∀ (ls : Array Slot), f_Rd_readLine_J68 k nT_codes_items vT_at vT_codes_size vT_draft_broken vT_draft_day vT_draft_people vT_draft_spells fT_codes_items fT_draft_kinds fT_draft_numbers fT_draft_sorts fT_draft_targets fT_draft_terms fT_draft_wakes x1 = some rs → lv_has ls 3 [(0, .ref aT), (1, .int x1)] → W p l e R s m ar below meth c H lo 0 0 Q (F0 m 68 ls []) := by
    intro vT_at vT_draft_broken vT_draft_day vT_draft_people vT_draft_spells fT_draft_kinds fT_draft_numbers fT_draft_sorts fT_draft_targets fT_draft_terms fT_draft_wakes x1 H lo hP hD hS ls hev hl
    unfold f_Rd_readLine_J68 at hev
    refine lv_aload_n hx hb dX2_readLine_68 rfl (lv_at hl 0 rfl) ?_
    refine lv_dup hx hb dX2_readLine_69 rfl ?_
    refine va_get (D := G.1) (ci := 0) (v := .int vT_at) (C := RX2) (T := TX2) (N := 6) hx hb hts i2 hown hK hP 0 rfl rfl 4 (by decide) (hw _ u176) (fun _ h9 => h9) rfl dX2_readLine_70 ?_
    refine lv_iconst (v := (1 : Int32)) hx hb dX2_readLine_73 (by decide) ?_
    refine lv_iadd hx hb dX2_readLine_74 ?_
    refine lv_topi (fun y1 ey1 => ?_)
    replace hev := x_lt hev y1 ey1
    refine va_put (D := G.1) (ci := 0) (v := .int y1) (ty := .int) (C := RX2) (T := TX2) (N := 6) hx hb hts i2 tyX2 tyX2_ok nmX2 hown hK hP hD hS 0 rfl rfl 4 (by decide) (hw _ u176) (fun _ h9 => h9) rfl (by decide +kernel) rfl rfl (Nat.le_of_ble_eq_true rfl) dX2_readLine_75 (fun H lo hP hD hS => ?_)
    refine lv_aload_n hx hb dX2_readLine_78 rfl (lv_at hl 0 rfl) ?_
    refine lv_iload_n hx hb dX2_readLine_79 rfl (lv_at hl 1 rfl) ?_
    obtain ⟨⟨y2, w3⟩, hq, hev⟩ := x_bd hev
    refine rgV X (KK_at hKK hS hAb) hR (st1 := [.int y2]) (ws2 := [(aT, .inr (0, [.ref aT_text, .ref aT_codes, .ref aT_places, .ref aT_draft, .int w3, .int vT_lines])), (aT_codes, .inr (1, [.ref aT_codes_items, .int vT_codes_size])), (aT_draft, .inr (4, [.int vT_draft_people, .int vT_draft_spells, .int vT_draft_day, .int vT_draft_broken, .ref aT_draft_kinds, .ref aT_draft_targets, .ref aT_draft_wakes, .ref aT_draft_terms, .ref aT_draft_sorts, .ref aT_draft_numbers])), (aT_codes_items, .inl (G.2.1, nT_codes_items, .inl fT_codes_items)), (aT_draft_kinds, .inl (G.2.1, 5, .inl fT_draft_kinds)), (aT_draft_targets, .inl (G.2.1, 5, .inl fT_draft_targets)), (aT_draft_terms, .inl (G.2.1, 5, .inl fT_draft_terms)), (aT_draft_wakes, .inl (G.2.1, 5, .inl fT_draft_wakes)), (aT_draft_sorts, .inl (G.2.1, 15, .inl fT_draft_sorts)), (aT_draft_numbers, .inl (G.2.1, 15, .inl fT_draft_numbers))]) (c_Rd_takeNumberBehind l G aT aT_text aT_codes aT_places aT_draft aT_codes_items aT_draft_kinds aT_draft_targets aT_draft_wakes aT_draft_terms aT_draft_sorts aT_draft_numbers y1 vT_lines vT_codes_size vT_draft_people vT_draft_spells vT_draft_day vT_draft_broken fT_codes_items nT_codes_items x1 y2 w3 hq) K_X2_takeNumberBehind u589 hP hD hS hA hAb [0, 1, 2, 3] rfl (sbC rfl (sbC rfl (sbC rfl (sbC rfl sb0)))) (mgN 0 rfl rfl (mgN 1 rfl rfl (mgN 2 rfl rfl (mgN 3 rfl rfl (mgK (by decide) (mgK (by decide) (mgK (by decide) (mgK (by decide) (mgK (by decide) (mgK (by decide) (mg0))))))))))) rfl (q0 := 0) rfl (by decide) ⟨Nat.zero_le _, Nat.zero_le _⟩ rfl hl.1 rfl (Nat.le_of_ble_eq_true rfl) rfl dX2_readLine_80 (fun H lo hP hD hS => ?_)
    refine lv_istore_n (lv' := [(2, .int y2), (0, .ref aT), (1, .int x1)]) hx hb dX2_readLine_83 rfl hl (by decide) rfl (fun ls hl => ?_)
    refine lv_iload_n hx hb dX2_readLine_84 rfl (lv_at hl 0 rfl) ?_
    refine lv_iconst (v := (-1 : Int32)) hx hb dX2_readLine_85 (by decide) ?_
    refine lv_icmp_ne (tgt := 91) hx hb dX2_readLine_86 (by decide) (fun c4 => ?_) (fun c4 => ?_)
    · replace hev := x_f c4 hev
      refine lv_iload_n hx hb dX2_readLine_91 rfl (lv_at hl 2 rfl) ?_
      refine lv_bipush (v := (12 : Int32)) hx hb dX2_readLine_92 (by decide) ?_
      refine lv_icmp_ne (tgt := 108) hx hb dX2_readLine_94 (by decide) (fun c5 => ?_) (fun c5 => ?_)
      · replace hev := x_f c5 hev
        refine lv_iload_n hx hb dX2_readLine_108 rfl (lv_at hl 2 rfl) ?_
        refine lv_bipush (v := (23 : Int32)) hx hb dX2_readLine_109 (by decide) ?_
        refine lv_icmp_ne (tgt := 125) hx hb dX2_readLine_111 (by decide) (fun c6 => ?_) (fun c6 => ?_)
        · replace hev := x_f c6 hev
          refine lv_aload_n hx hb dX2_readLine_125 rfl (lv_at hl 1 rfl) ?_
          refine va_get (D := G.1) (ci := 0) (v := .ref aT_draft) (C := RX2) (T := TX2) (N := 6) hx hb hts i2 hown hK hP 0 rfl rfl 3 (by decide) (hw _ u175) (fun _ h9 => h9) rfl dX2_readLine_126 ?_
          refine lv_iload_n hx hb dX2_readLine_129 rfl (lv_at hl 0 rfl) ?_
          obtain ⟨w7, hq, hev⟩ := x_bd hev
          refine rgV X (KK_at hKK hS hAb) hR (st1 := []) (ws2 := [(aT, .inr (0, [.ref aT_text, .ref aT_codes, .ref aT_places, .ref aT_draft, .int w3, .int vT_lines])), (aT_codes, .inr (1, [.ref aT_codes_items, .int vT_codes_size])), (aT_draft, .inr (4, [.int vT_draft_people, .int vT_draft_spells, .int vT_draft_day, .int w7, .ref aT_draft_kinds, .ref aT_draft_targets, .ref aT_draft_wakes, .ref aT_draft_terms, .ref aT_draft_sorts, .ref aT_draft_numbers])), (aT_codes_items, .inl (G.2.1, nT_codes_items, .inl fT_codes_items)), (aT_draft_kinds, .inl (G.2.1, 5, .inl fT_draft_kinds)), (aT_draft_targets, .inl (G.2.1, 5, .inl fT_draft_targets)), (aT_draft_terms, .inl (G.2.1, 5, .inl fT_draft_terms)), (aT_draft_wakes, .inl (G.2.1, 5, .inl fT_draft_wakes)), (aT_draft_sorts, .inl (G.2.1, 15, .inl fT_draft_sorts)), (aT_draft_numbers, .inl (G.2.1, 15, .inl fT_draft_numbers))]) (c_To_tellBroken l G aT_draft aT_draft_kinds aT_draft_targets aT_draft_wakes aT_draft_terms aT_draft_sorts aT_draft_numbers vT_draft_people vT_draft_spells vT_draft_day vT_draft_broken y2 w7 hq) K_X8_tellBroken u632 hP hD hS hA hAb [2] rfl (sbC rfl sb0) (mgK (by decide) (mgK (by decide) (mgN 0 rfl rfl (mgK (by decide) (mgK (by decide) (mgK (by decide) (mgK (by decide) (mgK (by decide) (mgK (by decide) (mgK (by decide) (mg0))))))))))) rfl (q0 := 0) rfl (by decide) ⟨Nat.zero_le _, Nat.zero_le _⟩ rfl hl.1 rfl (Nat.le_of_ble_eq_true rfl) rfl dX2_readLine_130 (fun H lo hP hD hS => ?_)
          refine lv_iconst (v := (1 : Int32)) hx hb dX2_readLine_133 (by decide) ?_
          exact ret2 _ _ _ _ (1 : Int32) (1 : Int32) w3 w7 vT_draft_day vT_draft_people vT_draft_spells fT_draft_kinds fT_draft_numbers fT_draft_sorts fT_draft_targets fT_draft_terms fT_draft_wakes (Option.some.inj hev) dX2_readLine_134 (show narrow _ (.int (1 : Int32)) = .int (1 : Int32) from nb1) hP hD hS
        · replace hev := x_t c6 hev
          refine lv_aload_n hx hb dX2_readLine_114 rfl (lv_at hl 1 rfl) ?_
          refine va_get (D := G.1) (ci := 0) (v := .ref aT_draft) (C := RX2) (T := TX2) (N := 6) hx hb hts i2 hown hK hP 0 rfl rfl 3 (by decide) (hw _ u175) (fun _ h9 => h9) rfl dX2_readLine_115 ?_
          refine lv_iload_n hx hb dX2_readLine_118 rfl (lv_at hl 0 rfl) ?_
          obtain ⟨w8, hq, hev⟩ := x_bd hev
          refine rgV X (KK_at hKK hS hAb) hR (st1 := []) (ws2 := [(aT, .inr (0, [.ref aT_text, .ref aT_codes, .ref aT_places, .ref aT_draft, .int w3, .int vT_lines])), (aT_codes, .inr (1, [.ref aT_codes_items, .int vT_codes_size])), (aT_draft, .inr (4, [.int vT_draft_people, .int vT_draft_spells, .int w8, .int vT_draft_broken, .ref aT_draft_kinds, .ref aT_draft_targets, .ref aT_draft_wakes, .ref aT_draft_terms, .ref aT_draft_sorts, .ref aT_draft_numbers])), (aT_codes_items, .inl (G.2.1, nT_codes_items, .inl fT_codes_items)), (aT_draft_kinds, .inl (G.2.1, 5, .inl fT_draft_kinds)), (aT_draft_targets, .inl (G.2.1, 5, .inl fT_draft_targets)), (aT_draft_terms, .inl (G.2.1, 5, .inl fT_draft_terms)), (aT_draft_wakes, .inl (G.2.1, 5, .inl fT_draft_wakes)), (aT_draft_sorts, .inl (G.2.1, 15, .inl fT_draft_sorts)), (aT_draft_numbers, .inl (G.2.1, 15, .inl fT_draft_numbers))]) (c_To_tellDay l G aT_draft aT_draft_kinds aT_draft_targets aT_draft_wakes aT_draft_terms aT_draft_sorts aT_draft_numbers vT_draft_people vT_draft_spells vT_draft_day vT_draft_broken y2 w8 hq) K_X8_tellDay u628 hP hD hS hA hAb [2] rfl (sbC rfl sb0) (mgK (by decide) (mgK (by decide) (mgN 0 rfl rfl (mgK (by decide) (mgK (by decide) (mgK (by decide) (mgK (by decide) (mgK (by decide) (mgK (by decide) (mgK (by decide) (mg0))))))))))) rfl (q0 := 0) rfl (by decide) ⟨Nat.zero_le _, Nat.zero_le _⟩ rfl hl.1 rfl (Nat.le_of_ble_eq_true rfl) rfl dX2_readLine_119 (fun H lo hP hD hS => ?_)
          refine lv_goto (tgt := 133) hx hb dX2_readLine_122 (by decide) ?_
          refine lv_iconst (v := (1 : Int32)) hx hb dX2_readLine_133 (by decide) ?_
          exact ret2 _ _ _ _ (1 : Int32) (1 : Int32) w3 vT_draft_broken w8 vT_draft_people vT_draft_spells fT_draft_kinds fT_draft_numbers fT_draft_sorts fT_draft_targets fT_draft_terms fT_draft_wakes (Option.some.inj hev) dX2_readLine_134 (show narrow _ (.int (1 : Int32)) = .int (1 : Int32) from nb1) hP hD hS
      · replace hev := x_t c5 hev
        refine lv_aload_n hx hb dX2_readLine_97 rfl (lv_at hl 1 rfl) ?_
        refine va_get (D := G.1) (ci := 0) (v := .ref aT_draft) (C := RX2) (T := TX2) (N := 6) hx hb hts i2 hown hK hP 0 rfl rfl 3 (by decide) (hw _ u175) (fun _ h9 => h9) rfl dX2_readLine_98 ?_
        refine lv_iload_n hx hb dX2_readLine_101 rfl (lv_at hl 0 rfl) ?_
        obtain ⟨⟨w9, w10, w11, w12⟩, hq, hev⟩ := x_bd hev
        refine rgV X (KK_at hKK hS hAb) hR (st1 := []) (ws2 := [(aT, .inr (0, [.ref aT_text, .ref aT_codes, .ref aT_places, .ref aT_draft, .int w3, .int vT_lines])), (aT_codes, .inr (1, [.ref aT_codes_items, .int vT_codes_size])), (aT_draft, .inr (4, [.int w11, .int w12, .int w10, .int w9, .ref aT_draft_kinds, .ref aT_draft_targets, .ref aT_draft_wakes, .ref aT_draft_terms, .ref aT_draft_sorts, .ref aT_draft_numbers])), (aT_codes_items, .inl (G.2.1, nT_codes_items, .inl fT_codes_items)), (aT_draft_kinds, .inl (G.2.1, 5, .inl fT_draft_kinds)), (aT_draft_targets, .inl (G.2.1, 5, .inl fT_draft_targets)), (aT_draft_terms, .inl (G.2.1, 5, .inl fT_draft_terms)), (aT_draft_wakes, .inl (G.2.1, 5, .inl fT_draft_wakes)), (aT_draft_sorts, .inl (G.2.1, 15, .inl fT_draft_sorts)), (aT_draft_numbers, .inl (G.2.1, 15, .inl fT_draft_numbers))]) (c_To_tellPeople l G aT_draft aT_draft_kinds aT_draft_targets aT_draft_wakes aT_draft_terms aT_draft_sorts aT_draft_numbers vT_draft_people vT_draft_spells vT_draft_day vT_draft_broken y2 w9 w10 w11 w12 hq) K_X8_tellPeople u624 hP hD hS hA hAb [2] rfl (sbC rfl sb0) (mgK (by decide) (mgK (by decide) (mgN 0 rfl rfl (mgK (by decide) (mgK (by decide) (mgK (by decide) (mgK (by decide) (mgK (by decide) (mgK (by decide) (mgK (by decide) (mg0))))))))))) rfl (q0 := 0) rfl (by decide) ⟨Nat.zero_le _, Nat.zero_le _⟩ rfl hl.1 rfl (Nat.le_of_ble_eq_true rfl) rfl dX2_readLine_102 (fun H lo hP hD hS => ?_)
        refine lv_goto (tgt := 133) hx hb dX2_readLine_105 (by decide) ?_
        refine lv_iconst (v := (1 : Int32)) hx hb dX2_readLine_133 (by decide) ?_
        exact ret2 _ _ _ _ (1 : Int32) (1 : Int32) w3 w9 w10 w11 w12 fT_draft_kinds fT_draft_numbers fT_draft_sorts fT_draft_targets fT_draft_terms fT_draft_wakes (Option.some.inj hev) dX2_readLine_134 (show narrow _ (.int (1 : Int32)) = .int (1 : Int32) from nb1) hP hD hS
    · replace hev := x_t c4 hev
      refine lv_iconst (v := (0 : Int32)) hx hb dX2_readLine_89 (by decide) ?_
      exact ret2 _ _ _ _ (0 : Int32) (0 : Int32) w3 vT_draft_broken vT_draft_day vT_draft_people vT_draft_spells fT_draft_kinds fT_draft_numbers fT_draft_sorts fT_draft_targets fT_draft_terms fT_draft_wakes (Option.some.inj hev) dX2_readLine_90 (show narrow _ (.int (0 : Int32)) = .int (0 : Int32) from nb0) hP hD hS
  have J30 : ∀ (vT_at : Int32) (vT_draft_broken : Int32) (vT_draft_day : Int32) (vT_draft_people : Int32) (vT_draft_spells : Int32) (fT_draft_kinds : Nat → Int32) (fT_draft_numbers : Nat → Int32) (fT_draft_sorts : Nat → Int32) (fT_draft_targets : Nat → Int32) (fT_draft_terms : Nat → Int32) (fT_draft_wakes : Nat → Int32) (x1 : Int32), ∀ (H : Heap) (lo : List Loc), va_P G.1 classes [(aT, .inr (0, [.ref aT_text, .ref aT_codes, .ref aT_places, .ref aT_draft, .int vT_at, .int vT_lines])), (aT_codes, .inr (1, [.ref aT_codes_items, .int vT_codes_size])), (aT_draft, .inr (4, [.int vT_draft_people, .int vT_draft_spells, .int vT_draft_day, .int vT_draft_broken, .ref aT_draft_kinds, .ref aT_draft_targets, .ref aT_draft_wakes, .ref aT_draft_terms, .ref aT_draft_sorts, .ref aT_draft_numbers])), (aT_codes_items, .inl (G.2.1, nT_codes_items, .inl fT_codes_items)), (aT_draft_kinds, .inl (G.2.1, 5, .inl fT_draft_kinds)), (aT_draft_targets, .inl (G.2.1, 5, .inl fT_draft_targets)), (aT_draft_terms, .inl (G.2.1, 5, .inl fT_draft_terms)), (aT_draft_wakes, .inl (G.2.1, 5, .inl fT_draft_wakes)), (aT_draft_sorts, .inl (G.2.1, 15, .inl fT_draft_sorts)), (aT_draft_numbers, .inl (G.2.1, 15, .inl fT_draft_numbers))] H → va_D A [(aT, .inr (0, [.ref aT_text, .ref aT_codes, .ref aT_places, .ref aT_draft, .int vT_at, .int vT_lines])), (aT_codes, .inr (1, [.ref aT_codes_items, .int vT_codes_size])), (aT_draft, .inr (4, [.int vT_draft_people, .int vT_draft_spells, .int vT_draft_day, .int vT_draft_broken, .ref aT_draft_kinds, .ref aT_draft_targets, .ref aT_draft_wakes, .ref aT_draft_terms, .ref aT_draft_sorts, .ref aT_draft_numbers])), (aT_codes_items, .inl (G.2.1, nT_codes_items, .inl fT_codes_items)), (aT_draft_kinds, .inl (G.2.1, 5, .inl fT_draft_kinds)), (aT_draft_targets, .inl (G.2.1, 5, .inl fT_draft_targets)), (aT_draft_terms, .inl (G.2.1, 5, .inl fT_draft_terms)), (aT_draft_wakes, .inl (G.2.1, 5, .inl fT_draft_wakes)), (aT_draft_sorts, .inl (G.2.1, 15, .inl fT_draft_sorts)), (aT_draft_numbers, .inl (G.2.1, 15, .inl fT_draft_numbers))] → va_S A s.heap H lo → ∀ (ls : Array Slot), f_Rd_readLine_J30 k nT_codes_items vT_at vT_codes_size vT_draft_broken vT_draft_day vT_draft_people vT_draft_spells fT_codes_items fT_draft_kinds fT_draft_numbers fT_draft_sorts fT_draft_targets fT_draft_terms fT_draft_wakes x1 = some rs → lv_has ls 3 [(0, .ref aT), (1, .int x1)] → W p l e R s m ar below meth c H lo 0 0 Q (F0 m 30 ls []) := by
    intro vT_at vT_draft_broken vT_draft_day vT_draft_people vT_draft_spells fT_draft_kinds fT_draft_numbers fT_draft_sorts fT_draft_targets fT_draft_terms fT_draft_wakes x1 H lo hP hD hS ls hev hl
    unfold f_Rd_readLine_J30 at hev
    refine lv_aload_n hx hb dX2_readLine_30 rfl (lv_at hl 0 rfl) ?_
    refine lv_bipush (v := (17 : Int32)) hx hb dX2_readLine_31 (by decide) ?_
    obtain ⟨⟨y13, w14⟩, hq, hev⟩ := x_bd hev
    refine rgV X (KK_at hKK hS hAb) hR (st1 := [.int y13]) (ws2 := [(aT, .inr (0, [.ref aT_text, .ref aT_codes, .ref aT_places, .ref aT_draft, .int w14, .int vT_lines])), (aT_codes, .inr (1, [.ref aT_codes_items, .int vT_codes_size])), (aT_draft, .inr (4, [.int vT_draft_people, .int vT_draft_spells, .int vT_draft_day, .int vT_draft_broken, .ref aT_draft_kinds, .ref aT_draft_targets, .ref aT_draft_wakes, .ref aT_draft_terms, .ref aT_draft_sorts, .ref aT_draft_numbers])), (aT_codes_items, .inl (G.2.1, nT_codes_items, .inl fT_codes_items)), (aT_draft_kinds, .inl (G.2.1, 5, .inl fT_draft_kinds)), (aT_draft_targets, .inl (G.2.1, 5, .inl fT_draft_targets)), (aT_draft_terms, .inl (G.2.1, 5, .inl fT_draft_terms)), (aT_draft_wakes, .inl (G.2.1, 5, .inl fT_draft_wakes)), (aT_draft_sorts, .inl (G.2.1, 15, .inl fT_draft_sorts)), (aT_draft_numbers, .inl (G.2.1, 15, .inl fT_draft_numbers))]) (c_Rd_takes l G aT aT_text aT_codes aT_places aT_draft aT_codes_items vT_at vT_lines vT_codes_size fT_codes_items nT_codes_items (17 : Int32) y13 w14 hq) K_X2_takes u599 hP hD hS hA hAb [0, 1, 3] rfl (sbC rfl (sbC rfl (sbC rfl sb0))) (mgN 0 rfl rfl (mgN 1 rfl rfl (mgK (by decide) (mgN 2 rfl rfl (mgK (by decide) (mgK (by decide) (mgK (by decide) (mgK (by decide) (mgK (by decide) (mgK (by decide) (mg0))))))))))) rfl (q0 := 0) rfl (by decide) ⟨Nat.zero_le _, Nat.zero_le _⟩ rfl hl.1 rfl (Nat.le_of_ble_eq_true rfl) rfl dX2_readLine_33 (fun H lo hP hD hS => ?_)
    refine lv_if_eq (tgt := 48) hx hb dX2_readLine_36 (by decide) (fun c15 => ?_) (fun c15 => ?_)
    · replace hev := x_t c15 hev
      refine lv_iload_n hx hb dX2_readLine_48 rfl (lv_at hl 1 rfl) ?_
      refine lv_bipush (v := (12 : Int32)) hx hb dX2_readLine_49 (by decide) ?_
      refine lv_icmp_eq (tgt := 68) hx hb dX2_readLine_51 (by decide) (fun c16 => ?_) (fun c16 => ?_)
      · replace hev := x_t c16 hev
        exact J68 w14 vT_draft_broken vT_draft_day vT_draft_people vT_draft_spells fT_draft_kinds fT_draft_numbers fT_draft_sorts fT_draft_targets fT_draft_terms fT_draft_wakes x1 _ _ hP hD hS ls hev (lv_sub hl [0, 1] rfl)
      · replace hev := x_f c16 hev
        refine lv_iload_n hx hb dX2_readLine_54 rfl (lv_at hl 1 rfl) ?_
        refine lv_bipush (v := (23 : Int32)) hx hb dX2_readLine_55 (by decide) ?_
        refine lv_icmp_eq (tgt := 68) hx hb dX2_readLine_57 (by decide) (fun c17 => ?_) (fun c17 => ?_)
        · replace hev := x_t c17 hev
          exact J68 w14 vT_draft_broken vT_draft_day vT_draft_people vT_draft_spells fT_draft_kinds fT_draft_numbers fT_draft_sorts fT_draft_targets fT_draft_terms fT_draft_wakes x1 _ _ hP hD hS ls hev (lv_sub hl [0, 1] rfl)
        · replace hev := x_f c17 hev
          refine lv_iload_n hx hb dX2_readLine_60 rfl (lv_at hl 1 rfl) ?_
          refine lv_bipush (v := (26 : Int32)) hx hb dX2_readLine_61 (by decide) ?_
          refine lv_icmp_eq (tgt := 68) hx hb dX2_readLine_63 (by decide) (fun c18 => ?_) (fun c18 => ?_)
          · replace hev := x_t c18 hev
            exact J68 w14 vT_draft_broken vT_draft_day vT_draft_people vT_draft_spells fT_draft_kinds fT_draft_numbers fT_draft_sorts fT_draft_targets fT_draft_terms fT_draft_wakes x1 _ _ hP hD hS ls hev (lv_sub hl [0, 1] rfl)
          · replace hev := x_f c18 hev
            refine lv_iconst (v := (0 : Int32)) hx hb dX2_readLine_66 (by decide) ?_
            exact ret2 _ _ _ _ (0 : Int32) (0 : Int32) w14 vT_draft_broken vT_draft_day vT_draft_people vT_draft_spells fT_draft_kinds fT_draft_numbers fT_draft_sorts fT_draft_targets fT_draft_terms fT_draft_wakes (Option.some.inj hev) dX2_readLine_67 (show narrow _ (.int (0 : Int32)) = .int (0 : Int32) from nb0) hP hD hS
    · replace hev := x_f c15 hev
      refine lv_aload_n hx hb dX2_readLine_39 rfl (lv_at hl 0 rfl) ?_
      refine va_get (D := G.1) (ci := 0) (v := .ref aT_draft) (C := RX2) (T := TX2) (N := 6) hx hb hts i2 hown hK hP 0 rfl rfl 3 (by decide) (hw _ u175) (fun _ h9 => h9) rfl dX2_readLine_40 ?_
      obtain ⟨w19, hq, hev⟩ := x_bd hev
      refine rgV X (KK_at hKK hS hAb) hR (st1 := []) (ws2 := [(aT, .inr (0, [.ref aT_text, .ref aT_codes, .ref aT_places, .ref aT_draft, .int w14, .int vT_lines])), (aT_codes, .inr (1, [.ref aT_codes_items, .int vT_codes_size])), (aT_draft, .inr (4, [.int vT_draft_people, .int w19, .int vT_draft_day, .int vT_draft_broken, .ref aT_draft_kinds, .ref aT_draft_targets, .ref aT_draft_wakes, .ref aT_draft_terms, .ref aT_draft_sorts, .ref aT_draft_numbers])), (aT_codes_items, .inl (G.2.1, nT_codes_items, .inl fT_codes_items)), (aT_draft_kinds, .inl (G.2.1, 5, .inl fT_draft_kinds)), (aT_draft_targets, .inl (G.2.1, 5, .inl fT_draft_targets)), (aT_draft_terms, .inl (G.2.1, 5, .inl fT_draft_terms)), (aT_draft_wakes, .inl (G.2.1, 5, .inl fT_draft_wakes)), (aT_draft_sorts, .inl (G.2.1, 15, .inl fT_draft_sorts)), (aT_draft_numbers, .inl (G.2.1, 15, .inl fT_draft_numbers))]) (c_To_tellBare l G aT_draft aT_draft_kinds aT_draft_targets aT_draft_wakes aT_draft_terms aT_draft_sorts aT_draft_numbers vT_draft_people vT_draft_spells vT_draft_day vT_draft_broken w19 hq) K_X8_tellBare u620 hP hD hS hA hAb [2] rfl (sbC rfl sb0) (mgK (by decide) (mgK (by decide) (mgN 0 rfl rfl (mgK (by decide) (mgK (by decide) (mgK (by decide) (mgK (by decide) (mgK (by decide) (mgK (by decide) (mgK (by decide) (mg0))))))))))) rfl (q0 := 0) rfl (by decide) ⟨Nat.zero_le _, Nat.zero_le _⟩ rfl hl.1 rfl (Nat.le_of_ble_eq_true rfl) rfl dX2_readLine_43 (fun H lo hP hD hS => ?_)
      refine lv_iconst (v := (1 : Int32)) hx hb dX2_readLine_46 (by decide) ?_
      exact ret2 _ _ _ _ (1 : Int32) (1 : Int32) w14 vT_draft_broken vT_draft_day vT_draft_people w19 fT_draft_kinds fT_draft_numbers fT_draft_sorts fT_draft_targets fT_draft_terms fT_draft_wakes (Option.some.inj hev) dX2_readLine_47 (show narrow _ (.int (1 : Int32)) = .int (1 : Int32) from nb1) hP hD hS
  unfold f_Rd_readLine at hev
  refine lv_aload_n hx hb dX2_readLine_0 rfl (lv_at hl 0 rfl) ?_
  refine va_get (D := G.1) (ci := 0) (v := .ref aT_codes) (C := RX2) (T := TX2) (N := 6) hx hb hts i2 hown hK hP 0 rfl rfl 1 (by decide) (hw _ u173) (fun _ h9 => h9) rfl dX2_readLine_1 ?_
  refine lv_aload_n hx hb dX2_readLine_4 rfl (lv_at hl 0 rfl) ?_
  refine va_get (D := G.1) (ci := 0) (v := .int vT_at) (C := RX2) (T := TX2) (N := 6) hx hb hts i2 hown hK hP 0 rfl rfl 4 (by decide) (hw _ u176) (fun _ h9 => h9) rfl dX2_readLine_5 ?_
  obtain ⟨y20, hq, hev⟩ := x_bd hev
  refine roV X (KK_at hKK hS hAb) hR (st1 := [.int y20]) (c_Rw_at l G aT_codes aT_codes_items vT_codes_size fT_codes_items nT_codes_items vT_at y20 hq) K_X3_at u501 (x_Psub hP [1, 3] rfl) rfl (q0 := 0) rfl (by decide) ⟨Nat.zero_le _, Nat.zero_le _⟩ rfl hl.1 rfl (Nat.le_of_ble_eq_true rfl) rfl dX2_readLine_8 ?_
  refine lv_istore_n (lv' := [(1, .int y20), (0, .ref aT)]) hx hb dX2_readLine_11 rfl hl (by decide) rfl (fun ls hl => ?_)
  refine lv_iload_n hx hb dX2_readLine_12 rfl (lv_at hl 0 rfl) ?_
  refine lv_bipush (v := (13 : Int32)) hx hb dX2_readLine_13 (by decide) ?_
  refine lv_icmp_lt (tgt := 30) hx hb dX2_readLine_15 (by decide) (fun c21 => ?_) (fun c21 => ?_)
  · replace hev := x_t c21 hev
    exact J30 vT_at vT_draft_broken vT_draft_day vT_draft_people vT_draft_spells fT_draft_kinds fT_draft_numbers fT_draft_sorts fT_draft_targets fT_draft_terms fT_draft_wakes y20 _ _ hP hD hS ls hev (lv_sub hl [1, 0] rfl)
  · replace hev := x_f c21 hev
    refine lv_iload_n hx hb dX2_readLine_18 rfl (lv_at hl 0 rfl) ?_
    refine lv_bipush (v := (16 : Int32)) hx hb dX2_readLine_19 (by decide) ?_
    refine lv_icmp_gt (tgt := 30) hx hb dX2_readLine_21 (by decide) (fun c22 => ?_) (fun c22 => ?_)
    · replace hev := x_t c22 hev
      exact J30 vT_at vT_draft_broken vT_draft_day vT_draft_people vT_draft_spells fT_draft_kinds fT_draft_numbers fT_draft_sorts fT_draft_targets fT_draft_terms fT_draft_wakes y20 _ _ hP hD hS ls hev (lv_sub hl [1, 0] rfl)
    · replace hev := x_f c22 hev
      refine lv_aload_n hx hb dX2_readLine_24 rfl (lv_at hl 1 rfl) ?_
      refine lv_iload_n hx hb dX2_readLine_25 rfl (lv_at hl 0 rfl) ?_
      obtain ⟨⟨y23, w24, w25, w26, w27, w28, w29, w30, w31⟩, hq, hev⟩ := x_bd hev
      refine rgV X (KK_at hKK hS hAb) hR (st1 := [.int y23]) (ws2 := [(aT, .inr (0, [.ref aT_text, .ref aT_codes, .ref aT_places, .ref aT_draft, .int w24, .int vT_lines])), (aT_codes, .inr (1, [.ref aT_codes_items, .int vT_codes_size])), (aT_draft, .inr (4, [.int vT_draft_people, .int w25, .int vT_draft_day, .int vT_draft_broken, .ref aT_draft_kinds, .ref aT_draft_targets, .ref aT_draft_wakes, .ref aT_draft_terms, .ref aT_draft_sorts, .ref aT_draft_numbers])), (aT_codes_items, .inl (G.2.1, nT_codes_items, .inl fT_codes_items)), (aT_draft_kinds, .inl (G.2.1, 5, .inl w26)), (aT_draft_targets, .inl (G.2.1, 5, .inl w29)), (aT_draft_terms, .inl (G.2.1, 5, .inl w30)), (aT_draft_wakes, .inl (G.2.1, 5, .inl w31)), (aT_draft_sorts, .inl (G.2.1, 15, .inl w28)), (aT_draft_numbers, .inl (G.2.1, 15, .inl w27))]) (c_Rd_readSpell l G aT aT_text aT_codes aT_places aT_draft aT_draft_kinds aT_draft_targets aT_draft_wakes aT_draft_terms aT_draft_sorts aT_draft_numbers aT_codes_items vT_at vT_lines vT_draft_people vT_draft_spells vT_draft_day vT_draft_broken vT_codes_size fT_codes_items nT_codes_items fT_draft_kinds fT_draft_targets fT_draft_terms fT_draft_wakes fT_draft_sorts fT_draft_numbers k y20 y23 w24 w25 w26 w27 w28 w29 w30 w31 hq) K_X2_readSpell u581 hP hD hS hA hAb [0, 2, 1, 3, 4, 5, 6, 7, 8, 9] rfl (sbC rfl (sbC rfl (sbC rfl (sbC rfl (sbC rfl (sbC rfl (sbC rfl (sbC rfl (sbC rfl (sbC rfl sb0)))))))))) (mgN 0 rfl rfl (mgN 2 rfl rfl (mgN 1 rfl rfl (mgN 3 rfl rfl (mgN 4 rfl rfl (mgN 5 rfl rfl (mgN 6 rfl rfl (mgN 7 rfl rfl (mgN 8 rfl rfl (mgN 9 rfl rfl (mg0))))))))))) rfl (q0 := 0) rfl (by decide) ⟨Nat.zero_le _, Nat.zero_le _⟩ rfl hl.1 rfl (Nat.le_of_ble_eq_true rfl) rfl dX2_readLine_26 (fun H lo hP hD hS => ?_)
      exact ret2 _ _ _ _ y23 (y23 &&& 1) w24 vT_draft_broken vT_draft_day vT_draft_people w25 w26 w27 w28 w29 w30 w31 (Option.some.inj hev) dX2_readLine_29 (show narrow _ (.int y23) = .int (y23 &&& 1) from rfl) hP hD hS
def f_Rd_draft  : Option (Unit) := some ()
set_option maxHeartbeats 8000000 in
set_option maxRecDepth 100000 in
theorem c_Rd_draft (l : Launch) (G : GG) (aT aT_text aT_codes aT_places aT_draft : Nat) (vT_at : Int32) (vT_lines : Int32) (hev : f_Rd_draft = some ()) : RW l G yX2_draft cX2_draft 1 (some (.object "SevenSpells$Told")) 0 [.ref aT] [(aT, .inr (0, [.ref aT_text, .ref aT_codes, .ref aT_places, .ref aT_draft, .int vT_at, .int vT_lines]))] (some (.ref aT_draft)) [(aT, .inr (0, [.ref aT_text, .ref aT_codes, .ref aT_places, .ref aT_draft, .int vT_at, .int vT_lines]))] 0 0 := by
  refine RW_of (by decide) (Nat.le_of_ble_eq_true rfl) ?_
  intro p e s m ar below meth c R Q A ls X hR hRc hin hP hKK hD hS hA hAb hl ret
  obtain ⟨rs, hrs⟩ : ∃ q, q = () := ⟨_, rfl⟩
  rw [← hrs] at hev
  have ret2 : ∀ (pc : Nat) (ls : Array Slot) (H : Heap) (lo : List Loc) , () = rs → decode cX2_draft pc = .ok (.areturn, 1) → va_P G.1 classes [(aT, .inr (0, [.ref aT_text, .ref aT_codes, .ref aT_places, .ref aT_draft, .int vT_at, .int vT_lines]))] H → va_D A [(aT, .inr (0, [.ref aT_text, .ref aT_codes, .ref aT_places, .ref aT_draft, .int vT_at, .int vT_lines]))] → va_S A s.heap H lo → W p l e R s m ar below meth c H lo 0 0 Q (F0 m pc ls [.ref aT_draft]) := by
    intro pc ls H lo  he hd h1 h2 h3
    have he := he.trans hrs
    exact ret.2.2 _ _ _ _ _ _ rfl rfl hd h1 h2 h3
  clear ret hrs
  have hl : lv_has ls 1 [(0, .ref aT)] := hl
  obtain ⟨hx, hb, hml, hown, hts, hT⟩ := id X
  have hK := hKK.1
  have hw : ∀ w ∈ T0, w.before ar s = true := fun w h => hts w (hT w h)
  have i2 := fun w h => hT w (inT2 w h)
  unfold f_Rd_draft at hev
  refine lv_aload_n hx hb dX2_draft_0 rfl (lv_at hl 0 rfl) ?_
  refine va_get (D := G.1) (ci := 0) (v := .ref aT_draft) (C := RX2) (T := TX2) (N := 6) hx hb hts i2 hown hK hP 0 rfl rfl 3 (by decide) (hw _ u175) (fun _ h9 => h9) rfl dX2_draft_1 ?_
  exact ret2 _ _ _ _  (Option.some.inj hev) dX2_draft_4 hP hD hS
def f_Rd_lines (vT_lines : Int32) : Option (Int32) := some vT_lines
set_option maxHeartbeats 8000000 in
set_option maxRecDepth 100000 in
theorem c_Rd_lines (l : Launch) (G : GG) (aT aT_text aT_codes aT_places aT_draft : Nat) (vT_at : Int32) (vT_lines : Int32) (r0 : Int32) (hev : f_Rd_lines vT_lines = some r0) : RO l G yX2_lines cX2_lines 1 (some .int) 0 [.ref aT] [(aT, .inr (0, [.ref aT_text, .ref aT_codes, .ref aT_places, .ref aT_draft, .int vT_at, .int vT_lines]))] (some (.int r0)) := by
  refine RO_of (by decide) (Nat.le_of_ble_eq_true rfl) ?_
  intro p e s m ar below meth c R Q H ls X hR hP hKK hS0 hl ret
  generalize hrs : r0 = rs at hev ret
  have hl : lv_has ls 1 [(0, .ref aT)] := hl
  obtain ⟨hx, hb, hml, hown, hts, hT⟩ := id X
  have hK := hKK.1
  have hw : ∀ w ∈ T0, w.before ar s = true := fun w h => hts w (hT w h)
  have i2 := fun w h => hT w (inT2 w h)
  unfold f_Rd_lines at hev
  refine lv_aload_n hx hb dX2_lines_0 rfl (lv_at hl 0 rfl) ?_
  refine va_get (D := G.1) (ci := 0) (v := .int vT_lines) (C := RX2) (T := TX2) (N := 6) hx hb hts i2 hown hK hP 0 rfl rfl 5 (by decide) (hw _ u177) (fun _ h9 => h9) rfl dX2_lines_1 ?_
  exact ret _ _ _ dX2_lines_4 ((show narrow _ (.int vT_lines) = .int vT_lines from rfl).trans (congrArg Value.int (Option.some.inj hev)))
def f_Rd_beginsToken_J53 (nT_text_items : Nat) (vT_text_size : Int32) (fT_text_items : Nat → Int32) (x2 : Int32) (s0 : Int32) : Option (Int32) := if x2 = (32 : Int32) then (some (0 : Int32)) else if s0 = 0 then (some (1 : Int32)) else some (0 : Int32)
def f_Rd_beginsToken_J52 (nT_text_items : Nat) (vT_text_size : Int32) (fT_text_items : Nat → Int32) (x2 : Int32) : Option (Int32) := f_Rd_beginsToken_J53 nT_text_items vT_text_size fT_text_items x2 (0 : Int32)
def f_Rd_beginsToken_J48 (nT_text_items : Nat) (vT_text_size : Int32) (fT_text_items : Nat → Int32) (x2 : Int32) : Option (Int32) := f_Rd_beginsToken_J53 nT_text_items vT_text_size fT_text_items x2 (1 : Int32)
def f_Rd_beginsToken_J34 (nT_text_items : Nat) (vT_text_size : Int32) (fT_text_items : Nat → Int32) (x2 : Int32) (x3 : Int32) : Option (Int32) := x_B (f_Rd_isDigit x2) (fun y3 => if y3 = 0 then (f_Rd_beginsToken_J52 nT_text_items vT_text_size fT_text_items x2) else x_B (f_Rd_isDigit x3) (fun y5 => if y5 = 0 then (f_Rd_beginsToken_J52 nT_text_items vT_text_size fT_text_items x2) else f_Rd_beginsToken_J48 nT_text_items vT_text_size fT_text_items x2))
def f_Rd_beginsToken (nT_text_items : Nat) (vT_text_size : Int32) (fT_text_items : Nat → Int32) (p1 : Int32) : Option (Int32) := x_B (f_Rw_at nT_text_items vT_text_size fT_text_items p1) (fun y7 => x_B (f_Rw_at nT_text_items vT_text_size fT_text_items (p1 - (1 : Int32))) (fun y8 => x_B (f_Rd_isSmall y7) (fun y9 => if y9 = 0 then (f_Rd_beginsToken_J34 nT_text_items vT_text_size fT_text_items y7 y8) else x_B (f_Rd_isSmall y8) (fun y11 => if y11 = 0 then (f_Rd_beginsToken_J34 nT_text_items vT_text_size fT_text_items y7 y8) else f_Rd_beginsToken_J48 nT_text_items vT_text_size fT_text_items y7))))
set_option maxHeartbeats 8000000 in
set_option maxRecDepth 100000 in
theorem c_Rd_beginsToken (l : Launch) (G : GG) (aT aT_text aT_codes aT_places aT_draft aT_text_items : Nat) (vT_at : Int32) (vT_lines : Int32) (vT_text_size : Int32) (fT_text_items : Nat → Int32) (nT_text_items : Nat) (p1 : Int32) (r0 : Int32) (hev : f_Rd_beginsToken nT_text_items vT_text_size fT_text_items p1 = some r0) : RO l G yX2_beginsToken cX2_beginsToken 5 (some .boolean) 1 [.ref aT, .int p1] [(aT, .inr (0, [.ref aT_text, .ref aT_codes, .ref aT_places, .ref aT_draft, .int vT_at, .int vT_lines])), (aT_text, .inr (1, [.ref aT_text_items, .int vT_text_size])), (aT_text_items, .inl (G.2.1, nT_text_items, .inl fT_text_items))] (some (.int r0)) := by
  refine RO_of (by decide) (Nat.le_of_ble_eq_true rfl) ?_
  intro p e s m ar below meth c R Q H ls X hR hP hKK hS0 hl ret
  generalize hrs : r0 = rs at hev ret
  have hl : lv_has ls 5 [(0, .ref aT), (1, .int p1)] := hl
  obtain ⟨hx, hb, hml, hown, hts, hT⟩ := id X
  have hK := hKK.1
  have hw : ∀ w ∈ T0, w.before ar s = true := fun w h => hts w (hT w h)
  have i2 := fun w h => hT w (inT2 w h)
  have J53 : ∀ (x2 : Int32) (s0 : Int32), ∀ (ls : Array Slot), f_Rd_beginsToken_J53 nT_text_items vT_text_size fT_text_items x2 s0 = some rs → lv_has ls 5 [(2, .int x2)] → W p l e R s m ar below meth c H [] 0 0 Q (F0 m 53 ls [.int s0]) := by
    intro x2 s0 ls hev hl
    unfold f_Rd_beginsToken_J53 at hev
    refine lv_istore (lv' := [(4, .int s0), (2, .int x2)]) hx hb dX2_beginsToken_53 hl (by decide) rfl (fun ls hl => ?_)
    refine lv_iload_n hx hb dX2_beginsToken_55 rfl (lv_at hl 1 rfl) ?_
    refine lv_bipush (v := (32 : Int32)) hx hb dX2_beginsToken_56 (by decide) ?_
    refine lv_icmp_eq (tgt := 70) hx hb dX2_beginsToken_58 (by decide) (fun c1 => ?_) (fun c1 => ?_)
    · replace hev := x_t c1 hev
      refine lv_iconst (v := (0 : Int32)) hx hb dX2_beginsToken_70 (by decide) ?_
      exact ret _ _ _ dX2_beginsToken_71 ((show narrow _ (.int (0 : Int32)) = .int (0 : Int32) from nb0).trans (congrArg Value.int (Option.some.inj hev)))
    · replace hev := x_f c1 hev
      refine lv_iload hx hb dX2_beginsToken_61 (lv_at hl 0 rfl) ?_
      refine lv_if_ne (tgt := 70) hx hb dX2_beginsToken_63 (by decide) (fun c2 => ?_) (fun c2 => ?_)
      · replace hev := x_f c2 hev
        refine lv_iconst (v := (0 : Int32)) hx hb dX2_beginsToken_70 (by decide) ?_
        exact ret _ _ _ dX2_beginsToken_71 ((show narrow _ (.int (0 : Int32)) = .int (0 : Int32) from nb0).trans (congrArg Value.int (Option.some.inj hev)))
      · replace hev := x_t c2 hev
        refine lv_iconst (v := (1 : Int32)) hx hb dX2_beginsToken_66 (by decide) ?_
        refine lv_goto (tgt := 71) hx hb dX2_beginsToken_67 (by decide) ?_
        exact ret _ _ _ dX2_beginsToken_71 ((show narrow _ (.int (1 : Int32)) = .int (1 : Int32) from nb1).trans (congrArg Value.int (Option.some.inj hev)))
  have J52 : ∀ (x2 : Int32), ∀ (ls : Array Slot), f_Rd_beginsToken_J52 nT_text_items vT_text_size fT_text_items x2 = some rs → lv_has ls 5 [(2, .int x2)] → W p l e R s m ar below meth c H [] 0 0 Q (F0 m 52 ls []) := by
    intro x2 ls hev hl
    unfold f_Rd_beginsToken_J52 at hev
    refine lv_iconst (v := (0 : Int32)) hx hb dX2_beginsToken_52 (by decide) ?_
    exact J53 x2 (0 : Int32) ls hev (lv_sub hl [0] rfl)
  have J48 : ∀ (x2 : Int32), ∀ (ls : Array Slot), f_Rd_beginsToken_J48 nT_text_items vT_text_size fT_text_items x2 = some rs → lv_has ls 5 [(2, .int x2)] → W p l e R s m ar below meth c H [] 0 0 Q (F0 m 48 ls []) := by
    intro x2 ls hev hl
    unfold f_Rd_beginsToken_J48 at hev
    refine lv_iconst (v := (1 : Int32)) hx hb dX2_beginsToken_48 (by decide) ?_
    refine lv_goto (tgt := 53) hx hb dX2_beginsToken_49 (by decide) ?_
    exact J53 x2 (1 : Int32) ls hev (lv_sub hl [0] rfl)
  have J34 : ∀ (x2 : Int32) (x3 : Int32), ∀ (ls : Array Slot), f_Rd_beginsToken_J34 nT_text_items vT_text_size fT_text_items x2 x3 = some rs → lv_has ls 5 [(2, .int x2), (3, .int x3)] → W p l e R s m ar below meth c H [] 0 0 Q (F0 m 34 ls []) := by
    intro x2 x3 ls hev hl
    unfold f_Rd_beginsToken_J34 at hev
    refine lv_iload_n hx hb dX2_beginsToken_34 rfl (lv_at hl 0 rfl) ?_
    obtain ⟨y3, hq, hev⟩ := x_bd hev
    refine roS X hKK hR (st1 := [.int y3]) (c_Rd_isDigit l G x2 y3 hq) K_X2_isDigit u508 (x_Psub hP [] rfl) (by decide) ⟨Nat.zero_le _, Nat.zero_le _⟩ rfl hl.1 rfl (Nat.le_of_ble_eq_true rfl) rfl dX2_beginsToken_35 ?_
    refine lv_if_eq (tgt := 52) hx hb dX2_beginsToken_38 (by decide) (fun c4 => ?_) (fun c4 => ?_)
    · replace hev := x_t c4 hev
      exact J52 x2 ls hev (lv_sub hl [0] rfl)
    · replace hev := x_f c4 hev
      refine lv_iload_n hx hb dX2_beginsToken_41 rfl (lv_at hl 1 rfl) ?_
      obtain ⟨y5, hq, hev⟩ := x_bd hev
      refine roS X hKK hR (st1 := [.int y5]) (c_Rd_isDigit l G x3 y5 hq) K_X2_isDigit u508 (x_Psub hP [] rfl) (by decide) ⟨Nat.zero_le _, Nat.zero_le _⟩ rfl hl.1 rfl (Nat.le_of_ble_eq_true rfl) rfl dX2_beginsToken_42 ?_
      refine lv_if_eq (tgt := 52) hx hb dX2_beginsToken_45 (by decide) (fun c6 => ?_) (fun c6 => ?_)
      · replace hev := x_t c6 hev
        exact J52 x2 ls hev (lv_sub hl [0] rfl)
      · replace hev := x_f c6 hev
        exact J48 x2 ls hev (lv_sub hl [0] rfl)
  unfold f_Rd_beginsToken at hev
  refine lv_aload_n hx hb dX2_beginsToken_0 rfl (lv_at hl 0 rfl) ?_
  refine va_get (D := G.1) (ci := 0) (v := .ref aT_text) (C := RX2) (T := TX2) (N := 6) hx hb hts i2 hown hK hP 0 rfl rfl 0 (by decide) (hw _ u172) (fun _ h9 => h9) rfl dX2_beginsToken_1 ?_
  refine lv_iload_n hx hb dX2_beginsToken_4 rfl (lv_at hl 1 rfl) ?_
  obtain ⟨y7, hq, hev⟩ := x_bd hev
  refine roV X hKK hR (st1 := [.int y7]) (c_Rw_at l G aT_text aT_text_items vT_text_size fT_text_items nT_text_items p1 y7 hq) K_X3_at u501 (x_Psub hP [1, 2] rfl) rfl (q0 := 0) rfl (by decide) ⟨Nat.zero_le _, Nat.zero_le _⟩ rfl hl.1 rfl (Nat.le_of_ble_eq_true rfl) rfl dX2_beginsToken_5 ?_
  refine lv_istore_n (lv' := [(2, .int y7), (0, .ref aT), (1, .int p1)]) hx hb dX2_beginsToken_8 rfl hl (by decide) rfl (fun ls hl => ?_)
  refine lv_aload_n hx hb dX2_beginsToken_9 rfl (lv_at hl 1 rfl) ?_
  refine va_get (D := G.1) (ci := 0) (v := .ref aT_text) (C := RX2) (T := TX2) (N := 6) hx hb hts i2 hown hK hP 0 rfl rfl 0 (by decide) (hw _ u172) (fun _ h9 => h9) rfl dX2_beginsToken_10 ?_
  refine lv_iload_n hx hb dX2_beginsToken_13 rfl (lv_at hl 2 rfl) ?_
  refine lv_iconst (v := (1 : Int32)) hx hb dX2_beginsToken_14 (by decide) ?_
  refine lv_isub hx hb dX2_beginsToken_15 ?_
  obtain ⟨y8, hq, hev⟩ := x_bd hev
  refine roV X hKK hR (st1 := [.int y8]) (c_Rw_at l G aT_text aT_text_items vT_text_size fT_text_items nT_text_items (p1 - (1 : Int32)) y8 hq) K_X3_at u501 (x_Psub hP [1, 2] rfl) rfl (q0 := 0) rfl (by decide) ⟨Nat.zero_le _, Nat.zero_le _⟩ rfl hl.1 rfl (Nat.le_of_ble_eq_true rfl) rfl dX2_beginsToken_16 ?_
  refine lv_istore_n (lv' := [(3, .int y8), (2, .int y7), (0, .ref aT), (1, .int p1)]) hx hb dX2_beginsToken_19 rfl hl (by decide) rfl (fun ls hl => ?_)
  refine lv_iload_n hx hb dX2_beginsToken_20 rfl (lv_at hl 1 rfl) ?_
  obtain ⟨y9, hq, hev⟩ := x_bd hev
  refine roS X hKK hR (st1 := [.int y9]) (c_Rd_isSmall l G y7 y9 hq) K_X2_isSmall u505 (x_Psub hP [] rfl) (by decide) ⟨Nat.zero_le _, Nat.zero_le _⟩ rfl hl.1 rfl (Nat.le_of_ble_eq_true rfl) rfl dX2_beginsToken_21 ?_
  refine lv_if_eq (tgt := 34) hx hb dX2_beginsToken_24 (by decide) (fun c10 => ?_) (fun c10 => ?_)
  · replace hev := x_t c10 hev
    exact J34 y7 y8 ls hev (lv_sub hl [1, 0] rfl)
  · replace hev := x_f c10 hev
    refine lv_iload_n hx hb dX2_beginsToken_27 rfl (lv_at hl 0 rfl) ?_
    obtain ⟨y11, hq, hev⟩ := x_bd hev
    refine roS X hKK hR (st1 := [.int y11]) (c_Rd_isSmall l G y8 y11 hq) K_X2_isSmall u505 (x_Psub hP [] rfl) (by decide) ⟨Nat.zero_le _, Nat.zero_le _⟩ rfl hl.1 rfl (Nat.le_of_ble_eq_true rfl) rfl dX2_beginsToken_28 ?_
    refine lv_if_ne (tgt := 48) hx hb dX2_beginsToken_31 (by decide) (fun c12 => ?_) (fun c12 => ?_)
    · replace hev := x_f c12 hev
      exact J48 y7 ls hev (lv_sub hl [1] rfl)
    · replace hev := x_t c12 hev
      exact J34 y7 y8 ls hev (lv_sub hl [1, 0] rfl)
