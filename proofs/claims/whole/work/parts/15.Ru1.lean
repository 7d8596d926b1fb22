def f_Ru_learnDeeds_J148 (k : Nat) (vT_deedCount : Int32) (vT_people : Int32) (fT_bars : Nat → Int32) (fT_bits : Nat → Int32) (fT_curses : Nat → Int32) (fT_doers : Nat → Int32) (fT_kisses : Nat → Int32) (fT_sorts : Nat → Int32) (fT_whichs : Nat → Int32) : Option (Int32 × (Nat → Int32) × (Nat → Int32) × (Nat → Int32) × (Nat → Int32) × (Nat → Int32) × (Nat → Int32)) := x_B (f_Ru_addDeed vT_deedCount fT_bars fT_bits fT_doers fT_kisses fT_sorts fT_whichs (-1 : Int32) (4 : Int32) (0 : Int32) (0 : Int32) (0 : Int32)) (fun ⟨w1, w2, w3, w4, w5, w6, w7⟩ => some (w1, w2, w3, w4, w5, w6, w7))
def f_Ru_learnDeeds_L83 (vT_people : Int32) (fT_curses : Nat → Int32) (x1 : Int32) (x2 : Int32) : Nat → Int32 → Int32 → (Nat → Int32) → (Nat → Int32) → (Nat → Int32) → (Nat → Int32) → (Nat → Int32) → (Nat → Int32) → Option (Int32 × (Nat → Int32) × (Nat → Int32) × (Nat → Int32) × (Nat → Int32) × (Nat → Int32) × (Nat → Int32))
  | 0, _, _, _, _, _, _, _, _ => none
  | k + 1, x4, vT_deedCount, fT_bars, fT_bits, fT_doers, fT_kisses, fT_sorts, fT_whichs => if (2 : Int32) ≤ x4 then (some (vT_deedCount, fT_bars, fT_bits, fT_doers, fT_kisses, fT_sorts, fT_whichs)) else x_L (((1 : Int32) <<< (((5 : Int32) + x4) &&& 31))) (fun y17 => x_B (f_Ru_cursesOn fT_curses x1 (1 : Int32)) (fun y18 => x_B (f_Ru_addDeed vT_deedCount fT_bars fT_bits fT_doers fT_kisses fT_sorts fT_whichs x1 (2 : Int32) x4 ((x2 ||| y18) ||| y17) y17) (fun ⟨w19, w20, w21, w22, w23, w24, w25⟩ => x_L (x4 + (1 : Int32)) (fun y26 => (f_Ru_learnDeeds_L83 vT_people fT_curses x1 x2 k) y26 w19 w20 w21 w22 w23 w24 w25))))
def f_Ru_learnDeeds_J62 (rec : Int32 → Int32 → (Nat → Int32) → (Nat → Int32) → (Nat → Int32) → (Nat → Int32) → (Nat → Int32) → (Nat → Int32) → Option (Int32 × (Nat → Int32) × (Nat → Int32) × (Nat → Int32) × (Nat → Int32) × (Nat → Int32) × (Nat → Int32))) (k : Nat) (vT_deedCount : Int32) (vT_people : Int32) (fT_bars : Nat → Int32) (fT_bits : Nat → Int32) (fT_curses : Nat → Int32) (fT_doers : Nat → Int32) (fT_kisses : Nat → Int32) (fT_sorts : Nat → Int32) (fT_whichs : Nat → Int32) (x1 : Int32) (x2 : Int32) : Option (Int32 × (Nat → Int32) × (Nat → Int32) × (Nat → Int32) × (Nat → Int32) × (Nat → Int32) × (Nat → Int32)) := x_L (((1 : Int32) <<< (((7 : Int32) + x1) &&& 31))) (fun y8 => x_B (f_Ru_addDeed vT_deedCount fT_bars fT_bits fT_doers fT_kisses fT_sorts fT_whichs x1 (1 : Int32) (0 : Int32) (x2 ||| y8) y8) (fun ⟨w9, w10, w11, w12, w13, w14, w15⟩ => x_B (f_Ru_learnDeeds_L83 vT_people fT_curses x1 x2 k (0 : Int32) w9 w10 w11 w12 w13 w14 w15) (fun ⟨w27, w28, w29, w30, w31, w32, w33⟩ => x_B (f_Ru_cursesOn fT_curses x1 (2 : Int32)) (fun y34 => x_B (f_Ru_addDeed w27 w28 w29 w30 w31 w32 w33 x1 (3 : Int32) (0 : Int32) (x2 ||| y34) (1024 : Int32)) (fun ⟨w35, w36, w37, w38, w39, w40, w41⟩ => x_L (x1 + (1 : Int32)) (fun y42 => rec y42 w35 w36 w37 w38 w39 w40 w41))))))
def f_Ru_learnDeeds_J56 (rec : Int32 → Int32 → (Nat → Int32) → (Nat → Int32) → (Nat → Int32) → (Nat → Int32) → (Nat → Int32) → (Nat → Int32) → Option (Int32 × (Nat → Int32) × (Nat → Int32) × (Nat → Int32) × (Nat → Int32) × (Nat → Int32) × (Nat → Int32))) (k : Nat) (vT_deedCount : Int32) (vT_people : Int32) (fT_bars : Nat → Int32) (fT_bits : Nat → Int32) (fT_curses : Nat → Int32) (fT_doers : Nat → Int32) (fT_kisses : Nat → Int32) (fT_sorts : Nat → Int32) (fT_whichs : Nat → Int32) (x1 : Int32) (x2 : Int32) (x3 : Int32) : Option (Int32 × (Nat → Int32) × (Nat → Int32) × (Nat → Int32) × (Nat → Int32) × (Nat → Int32) × (Nat → Int32)) := x_L (x3 + (1 : Int32)) (fun y46 => rec y46 vT_deedCount fT_bars fT_bits fT_doers fT_kisses fT_sorts fT_whichs)
def f_Ru_learnDeeds_L29 (vT_people : Int32) (fT_curses : Nat → Int32) (x1 : Int32) (x2 : Int32) : Nat → Int32 → Int32 → (Nat → Int32) → (Nat → Int32) → (Nat → Int32) → (Nat → Int32) → (Nat → Int32) → (Nat → Int32) → Option (Int32 × (Nat → Int32) × (Nat → Int32) × (Nat → Int32) × (Nat → Int32) × (Nat → Int32) × (Nat → Int32))
  | 0, _, _, _, _, _, _, _, _ => none
  | k + 1, x3, vT_deedCount, fT_bars, fT_bits, fT_doers, fT_kisses, fT_sorts, fT_whichs => if vT_people ≤ x3 then (some (vT_deedCount, fT_bars, fT_bits, fT_doers, fT_kisses, fT_sorts, fT_whichs)) else if (3 : Int32) ≤ x3 then (some (vT_deedCount, fT_bars, fT_bits, fT_doers, fT_kisses, fT_sorts, fT_whichs)) else if x3 = x1 then (f_Ru_learnDeeds_J56 (f_Ru_learnDeeds_L29 vT_people fT_curses x1 x2 k) k vT_deedCount vT_people fT_bars fT_bits fT_curses fT_doers fT_kisses fT_sorts fT_whichs x1 x2 x3) else x_B (f_Ru_addDeed vT_deedCount fT_bars fT_bits fT_doers fT_kisses fT_sorts fT_whichs x1 (0 : Int32) x3 x2 (0 : Int32)) (fun ⟨w50, w51, w52, w53, w54, w55, w56⟩ => f_Ru_learnDeeds_J56 (f_Ru_learnDeeds_L29 vT_people fT_curses x1 x2 k) k w50 vT_people w51 w52 fT_curses w53 w54 w55 w56 x1 x2 x3)
def f_Ru_learnDeeds_L7 (vT_people : Int32) (fT_curses : Nat → Int32) : Nat → Int32 → Int32 → (Nat → Int32) → (Nat → Int32) → (Nat → Int32) → (Nat → Int32) → (Nat → Int32) → (Nat → Int32) → Option (Int32 × (Nat → Int32) × (Nat → Int32) × (Nat → Int32) × (Nat → Int32) × (Nat → Int32) × (Nat → Int32))
  | 0, _, _, _, _, _, _, _, _ => none
  | k + 1, x1, vT_deedCount, fT_bars, fT_bits, fT_doers, fT_kisses, fT_sorts, fT_whichs => if vT_people ≤ x1 then (some (vT_deedCount, fT_bars, fT_bits, fT_doers, fT_kisses, fT_sorts, fT_whichs)) else if (3 : Int32) ≤ x1 then (some (vT_deedCount, fT_bars, fT_bits, fT_doers, fT_kisses, fT_sorts, fT_whichs)) else x_B (f_Ru_cursesOn fT_curses x1 (0 : Int32)) (fun y45 => x_B (f_Ru_learnDeeds_L29 vT_people fT_curses x1 y45 k (0 : Int32) vT_deedCount fT_bars fT_bits fT_doers fT_kisses fT_sorts fT_whichs) (fun ⟨w57, w58, w59, w60, w61, w62, w63⟩ => f_Ru_learnDeeds_J62 (f_Ru_learnDeeds_L7 vT_people fT_curses k) k w57 vT_people w58 w59 fT_curses w60 w61 w62 w63 x1 y45))
def f_Ru_learnDeeds (k : Nat) (vT_deedCount : Int32) (vT_people : Int32) (fT_bars : Nat → Int32) (fT_bits : Nat → Int32) (fT_curses : Nat → Int32) (fT_doers : Nat → Int32) (fT_kisses : Nat → Int32) (fT_sorts : Nat → Int32) (fT_whichs : Nat → Int32) : Option (Int32 × (Nat → Int32) × (Nat → Int32) × (Nat → Int32) × (Nat → Int32) × (Nat → Int32) × (Nat → Int32)) := x_B (f_Ru_learnDeeds_L7 vT_people fT_curses k (0 : Int32) (0 : Int32) fT_bars fT_bits fT_doers fT_kisses fT_sorts fT_whichs) (fun ⟨w64, w65, w66, w67, w68, w69, w70⟩ => f_Ru_learnDeeds_J148 k w64 vT_people w65 w66 fT_curses w67 w68 w69 w70)
set_option maxHeartbeats 8000000 in
set_option maxRecDepth 100000 in
theorem c_Ru_learnDeeds (l : Launch) (G : GG) (aT aT_masks aT_values aT_askings aT_kissesNeeded aT_wakings aT_binders aT_curses aT_doers aT_sorts aT_whichs aT_bars aT_bits aT_kisses : Nat) (vT_people : Int32) (vT_spells : Int32) (vT_deedCount : Int32) (fT_curses : Nat → Int32) (fT_doers : Nat → Int32) (fT_sorts : Nat → Int32) (fT_whichs : Nat → Int32) (fT_bars : Nat → Int32) (fT_bits : Nat → Int32) (fT_kisses : Nat → Int32) (k : Nat) (wvT_deedCount : Int32) (wfT_bars : Nat → Int32) (wfT_bits : Nat → Int32) (wfT_doers : Nat → Int32) (wfT_kisses : Nat → Int32) (wfT_sorts : Nat → Int32) (wfT_whichs : Nat → Int32) (hev : f_Ru_learnDeeds k vT_deedCount vT_people fT_bars fT_bits fT_curses fT_doers fT_kisses fT_sorts fT_whichs = some (wvT_deedCount, wfT_bars, wfT_bits, wfT_doers, wfT_kisses, wfT_sorts, wfT_whichs)) : RW l G yX4_learnDeeds cX4_learnDeeds 6 none 2 [.ref aT] [(aT, .inr (2, [.int vT_people, .int vT_spells, .int vT_deedCount, .ref aT_masks, .ref aT_values, .ref aT_askings, .ref aT_kissesNeeded, .ref aT_wakings, .ref aT_binders, .ref aT_curses, .ref aT_doers, .ref aT_sorts, .ref aT_whichs, .ref aT_bars, .ref aT_bits, .ref aT_kisses])), (aT_curses, .inl (G.2.1, 9, .inl fT_curses)), (aT_doers, .inl (G.2.1, 19, .inl fT_doers)), (aT_sorts, .inl (G.2.1, 19, .inl fT_sorts)), (aT_whichs, .inl (G.2.1, 19, .inl fT_whichs)), (aT_bars, .inl (G.2.1, 19, .inl fT_bars)), (aT_bits, .inl (G.2.1, 19, .inl fT_bits)), (aT_kisses, .inl (G.2.1, 19, .inl fT_kisses))] none [(aT, .inr (2, [.int vT_people, .int vT_spells, .int wvT_deedCount, .ref aT_masks, .ref aT_values, .ref aT_askings, .ref aT_kissesNeeded, .ref aT_wakings, .ref aT_binders, .ref aT_curses, .ref aT_doers, .ref aT_sorts, .ref aT_whichs, .ref aT_bars, .ref aT_bits, .ref aT_kisses])), (aT_curses, .inl (G.2.1, 9, .inl fT_curses)), (aT_doers, .inl (G.2.1, 19, .inl wfT_doers)), (aT_sorts, .inl (G.2.1, 19, .inl wfT_sorts)), (aT_whichs, .inl (G.2.1, 19, .inl wfT_whichs)), (aT_bars, .inl (G.2.1, 19, .inl wfT_bars)), (aT_bits, .inl (G.2.1, 19, .inl wfT_bits)), (aT_kisses, .inl (G.2.1, 19, .inl wfT_kisses))] 0 0 := by
  refine RW_of (by decide) (Nat.le_of_ble_eq_true rfl) ?_
  intro p e s m ar below meth c R Q A ls X hR hRc hin hP hKK hD hS hA hAb hl ret
  obtain ⟨rs, hrs⟩ : ∃ q, q = (wvT_deedCount, wfT_bars, wfT_bits, wfT_doers, wfT_kisses, wfT_sorts, wfT_whichs) := ⟨_, rfl⟩
  rw [← hrs] at hev
  have ret2 : ∀ (pc : Nat) (ls : Array Slot) (H : Heap) (lo : List Loc) (zvT_deedCount : Int32) (zfT_bars : Nat → Int32) (zfT_bits : Nat → Int32) (zfT_doers : Nat → Int32) (zfT_kisses : Nat → Int32) (zfT_sorts : Nat → Int32) (zfT_whichs : Nat → Int32), (zvT_deedCount, zfT_bars, zfT_bits, zfT_doers, zfT_kisses, zfT_sorts, zfT_whichs) = rs → decode cX4_learnDeeds pc = .ok (.return_, 1) → va_P G.1 classes [(aT, .inr (2, [.int vT_people, .int vT_spells, .int zvT_deedCount, .ref aT_masks, .ref aT_values, .ref aT_askings, .ref aT_kissesNeeded, .ref aT_wakings, .ref aT_binders, .ref aT_curses, .ref aT_doers, .ref aT_sorts, .ref aT_whichs, .ref aT_bars, .ref aT_bits, .ref aT_kisses])), (aT_curses, .inl (G.2.1, 9, .inl fT_curses)), (aT_doers, .inl (G.2.1, 19, .inl zfT_doers)), (aT_sorts, .inl (G.2.1, 19, .inl zfT_sorts)), (aT_whichs, .inl (G.2.1, 19, .inl zfT_whichs)), (aT_bars, .inl (G.2.1, 19, .inl zfT_bars)), (aT_bits, .inl (G.2.1, 19, .inl zfT_bits)), (aT_kisses, .inl (G.2.1, 19, .inl zfT_kisses))] H → va_D A [(aT, .inr (2, [.int vT_people, .int vT_spells, .int zvT_deedCount, .ref aT_masks, .ref aT_values, .ref aT_askings, .ref aT_kissesNeeded, .ref aT_wakings, .ref aT_binders, .ref aT_curses, .ref aT_doers, .ref aT_sorts, .ref aT_whichs, .ref aT_bars, .ref aT_bits, .ref aT_kisses])), (aT_curses, .inl (G.2.1, 9, .inl fT_curses)), (aT_doers, .inl (G.2.1, 19, .inl zfT_doers)), (aT_sorts, .inl (G.2.1, 19, .inl zfT_sorts)), (aT_whichs, .inl (G.2.1, 19, .inl zfT_whichs)), (aT_bars, .inl (G.2.1, 19, .inl zfT_bars)), (aT_bits, .inl (G.2.1, 19, .inl zfT_bits)), (aT_kisses, .inl (G.2.1, 19, .inl zfT_kisses))] → va_S A s.heap H lo → W p l e R s m ar below meth c H lo 0 0 Q (F0 m pc ls []) := by
    intro pc ls H lo zvT_deedCount zfT_bars zfT_bits zfT_doers zfT_kisses zfT_sorts zfT_whichs he hd h1 h2 h3
    have he := he.trans hrs
    cases he
    exact ret.2.1 _ _ _ _ rfl rfl hd h1 h2 h3
  clear ret hrs
  have hl : lv_has ls 6 [(0, .ref aT)] := hl
  obtain ⟨hx, hb, hml, hown, hts, hT⟩ := id X
  have hK := hKK.1
  have hw : ∀ w ∈ T0, w.before ar s = true := fun w h => hts w (hT w h)
  have i4 := fun w h => hT w (inT4 w h)
  have J148 : ∀ (vT_deedCount : Int32) (fT_bars : Nat → Int32) (fT_bits : Nat → Int32) (fT_doers : Nat → Int32) (fT_kisses : Nat → Int32) (fT_sorts : Nat → Int32) (fT_whichs : Nat → Int32), ∀ (H : Heap) (lo : List Loc), va_P G.1 classes [(aT, .inr (2, [.int vT_people, .int vT_spells, .int vT_deedCount, .ref aT_masks, .ref aT_values, .ref aT_askings, .ref aT_kissesNeeded, .ref aT_wakings, .ref aT_binders, .ref aT_curses, .ref aT_doers, .ref aT_sorts, .ref aT_whichs, .ref aT_bars, .ref aT_bits, .ref aT_kisses])), (aT_curses, .inl (G.2.1, 9, .inl fT_curses)), (aT_doers, .inl (G.2.1, 19, .inl fT_doers)), (aT_sorts, .inl (G.2.1, 19, .inl fT_sorts)), (aT_whichs, .inl (G.2.1, 19, .inl fT_whichs)), (aT_bars, .inl (G.2.1, 19, .inl fT_bars)), (aT_bits, .inl (G.2.1, 19, .inl fT_bits)), (aT_kisses, .inl (G.2.1, 19, .inl fT_kisses))] H → va_D A [(aT, .inr (2, [.int vT_people, .int vT_spells, .int vT_deedCount, .ref aT_masks, .ref aT_values, .ref aT_askings, .ref aT_kissesNeeded, .ref aT_wakings, .ref aT_binders, .ref aT_curses, .ref aT_doers, .ref aT_sorts, .ref aT_whichs, .ref aT_bars, .ref aT_bits, .ref aT_kisses])), (aT_curses, .inl (G.2.1, 9, .inl fT_curses)), (aT_doers, .inl (G.2.1, 19, .inl fT_doers)), (aT_sorts, .inl (G.2.1, 19, .inl fT_sorts)), (aT_whichs, .inl (G.2.1, 19, .inl fT_whichs)), (aT_bars, .inl (G.2.1, 19, .inl fT_bars)), (aT_bits, .inl (G.2.1, 19, .inl fT_bits)), (aT_kisses, .inl (G.2.1, 19, .inl fT_kisses))] → va_S A s.heap H lo → ∀ (ls : Array Slot), f_Ru_learnDeeds_J148 k vT_deedCount vT_people fT_bars fT_bits fT_curses fT_doers fT_kisses fT_sorts fT_whichs = some rs → lv_has ls 6 [(0, .ref aT)] → W p l e R s m ar below meth c H lo 0 0 Q (F0 m 148 ls []) := by
    intro vT_deedCount fT_bars fT_bits fT_doers fT_kisses fT_sorts fT_whichs H lo hP hD hS ls hev hl
    unfold f_Ru_learnDeeds_J148 at hev
    refine lv_aload_n hx hb dX4_learnDeeds_148 rfl (lv_at hl 0 rfl) ?_
    refine lv_iconst (v := (-1 : Int32)) hx hb dX4_learnDeeds_149 (by decide) ?_
    refine lv_iconst (v := (4 : Int32)) hx hb dX4_learnDeeds_150 (by decide) ?_
    refine lv_iconst (v := (0 : Int32)) hx hb dX4_learnDeeds_151 (by decide) ?_
    refine lv_iconst (v := (0 : Int32)) hx hb dX4_learnDeeds_152 (by decide) ?_
    refine lv_iconst (v := (0 : Int32)) hx hb dX4_learnDeeds_153 (by decide) ?_
    obtain ⟨⟨w1, w2, w3, w4, w5, w6, w7⟩, hq, hev⟩ := x_bd hev
    refine rgV X (KK_at hKK hS hAb) hR (st1 := []) (ws2 := [(aT, .inr (2, [.int vT_people, .int vT_spells, .int w1, .ref aT_masks, .ref aT_values, .ref aT_askings, .ref aT_kissesNeeded, .ref aT_wakings, .ref aT_binders, .ref aT_curses, .ref aT_doers, .ref aT_sorts, .ref aT_whichs, .ref aT_bars, .ref aT_bits, .ref aT_kisses])), (aT_curses, .inl (G.2.1, 9, .inl fT_curses)), (aT_doers, .inl (G.2.1, 19, .inl w4)), (aT_sorts, .inl (G.2.1, 19, .inl w6)), (aT_whichs, .inl (G.2.1, 19, .inl w7)), (aT_bars, .inl (G.2.1, 19, .inl w2)), (aT_bits, .inl (G.2.1, 19, .inl w3)), (aT_kisses, .inl (G.2.1, 19, .inl w5))]) (c_Ru_addDeed l G aT aT_masks aT_values aT_askings aT_kissesNeeded aT_wakings aT_binders aT_curses aT_doers aT_sorts aT_whichs aT_bars aT_bits aT_kisses vT_people vT_spells vT_deedCount fT_doers fT_sorts fT_whichs fT_bars fT_bits fT_kisses (-1 : Int32) (4 : Int32) (0 : Int32) (0 : Int32) (0 : Int32) w1 w2 w3 w4 w5 w6 w7 hq) K_X4_addDeed u395 hP hD hS hA hAb [0, 2, 3, 4, 5, 6, 7] rfl (sbC rfl (sbC rfl (sbC rfl (sbC rfl (sbC rfl (sbC rfl (sbC rfl sb0))))))) (mgN 0 rfl rfl (mgK (by decide) (mgN 1 rfl rfl (mgN 2 rfl rfl (mgN 3 rfl rfl (mgN 4 rfl rfl (mgN 5 rfl rfl (mgN 6 rfl rfl (mg0))))))))) rfl (q0 := 0) rfl (by decide) ⟨Nat.zero_le _, Nat.zero_le _⟩ rfl hl.1 rfl (Nat.le_of_ble_eq_true rfl) rfl dX4_learnDeeds_154 (fun H lo hP hD hS => ?_)
    exact ret2 _ _ _ _ w1 w2 w3 w4 w5 w6 w7 (Option.some.inj hev) dX4_learnDeeds_157 hP hD hS
  unfold f_Ru_learnDeeds at hev
  refine lv_aload_n hx hb dX4_learnDeeds_0 rfl (lv_at hl 0 rfl) ?_
  refine lv_iconst (v := (0 : Int32)) hx hb dX4_learnDeeds_1 (by decide) ?_
  refine va_put (D := G.1) (ci := 2) (v := .int (0 : Int32)) (ty := .int) (C := RX4) (T := TX4) (N := 16) hx hb hts i4 tyX4 tyX4_ok nmX4 hown hK hP hD hS 0 rfl rfl 2 (by decide) (hw _ u199) (fun _ h9 => h9) rfl (by decide +kernel) rfl rfl (Nat.le_of_ble_eq_true rfl) dX4_learnDeeds_2 (fun H lo hP hD hS => ?_)
  refine lv_iconst (v := (0 : Int32)) hx hb dX4_learnDeeds_5 (by decide) ?_
  refine lv_istore_n (lv' := [(1, .int (0 : Int32)), (0, .ref aT)]) hx hb dX4_learnDeeds_6 rfl hl (by decide) rfl (fun ls hl => ?_)
  have L7 : ∀ (k : Nat) (x1 : Int32) (vT_deedCount : Int32) (fT_bars : Nat → Int32) (fT_bits : Nat → Int32) (fT_doers : Nat → Int32) (fT_kisses : Nat → Int32) (fT_sorts : Nat → Int32) (fT_whichs : Nat → Int32) (ovT_deedCount : Int32) (ofT_bars : Nat → Int32) (ofT_bits : Nat → Int32) (ofT_doers : Nat → Int32) (ofT_kisses : Nat → Int32) (ofT_sorts : Nat → Int32) (ofT_whichs : Nat → Int32), f_Ru_learnDeeds_L7 vT_people fT_curses k x1 vT_deedCount fT_bars fT_bits fT_doers fT_kisses fT_sorts fT_whichs = some (ovT_deedCount, ofT_bars, ofT_bits, ofT_doers, ofT_kisses, ofT_sorts, ofT_whichs) → (∀ (H : Heap) (lo : List Loc), va_P G.1 classes [(aT, .inr (2, [.int vT_people, .int vT_spells, .int ovT_deedCount, .ref aT_masks, .ref aT_values, .ref aT_askings, .ref aT_kissesNeeded, .ref aT_wakings, .ref aT_binders, .ref aT_curses, .ref aT_doers, .ref aT_sorts, .ref aT_whichs, .ref aT_bars, .ref aT_bits, .ref aT_kisses])), (aT_curses, .inl (G.2.1, 9, .inl fT_curses)), (aT_doers, .inl (G.2.1, 19, .inl ofT_doers)), (aT_sorts, .inl (G.2.1, 19, .inl ofT_sorts)), (aT_whichs, .inl (G.2.1, 19, .inl ofT_whichs)), (aT_bars, .inl (G.2.1, 19, .inl ofT_bars)), (aT_bits, .inl (G.2.1, 19, .inl ofT_bits)), (aT_kisses, .inl (G.2.1, 19, .inl ofT_kisses))] H → va_D A [(aT, .inr (2, [.int vT_people, .int vT_spells, .int ovT_deedCount, .ref aT_masks, .ref aT_values, .ref aT_askings, .ref aT_kissesNeeded, .ref aT_wakings, .ref aT_binders, .ref aT_curses, .ref aT_doers, .ref aT_sorts, .ref aT_whichs, .ref aT_bars, .ref aT_bits, .ref aT_kisses])), (aT_curses, .inl (G.2.1, 9, .inl fT_curses)), (aT_doers, .inl (G.2.1, 19, .inl ofT_doers)), (aT_sorts, .inl (G.2.1, 19, .inl ofT_sorts)), (aT_whichs, .inl (G.2.1, 19, .inl ofT_whichs)), (aT_bars, .inl (G.2.1, 19, .inl ofT_bars)), (aT_bits, .inl (G.2.1, 19, .inl ofT_bits)), (aT_kisses, .inl (G.2.1, 19, .inl ofT_kisses))] → va_S A s.heap H lo → ∀ (ls : Array Slot), lv_has ls 6 [(0, .ref aT)] → W p l e R s m ar below meth c H lo 0 0 Q (F0 m 148 ls [])) → ∀ (H : Heap) (lo : List Loc), va_P G.1 classes [(aT, .inr (2, [.int vT_people, .int vT_spells, .int vT_deedCount, .ref aT_masks, .ref aT_values, .ref aT_askings, .ref aT_kissesNeeded, .ref aT_wakings, .ref aT_binders, .ref aT_curses, .ref aT_doers, .ref aT_sorts, .ref aT_whichs, .ref aT_bars, .ref aT_bits, .ref aT_kisses])), (aT_curses, .inl (G.2.1, 9, .inl fT_curses)), (aT_doers, .inl (G.2.1, 19, .inl fT_doers)), (aT_sorts, .inl (G.2.1, 19, .inl fT_sorts)), (aT_whichs, .inl (G.2.1, 19, .inl fT_whichs)), (aT_bars, .inl (G.2.1, 19, .inl fT_bars)), (aT_bits, .inl (G.2.1, 19, .inl fT_bits)), (aT_kisses, .inl (G.2.1, 19, .inl fT_kisses))] H → va_D A [(aT, .inr (2, [.int vT_people, .int vT_spells, .int vT_deedCount, .ref aT_masks, .ref aT_values, .ref aT_askings, .ref aT_kissesNeeded, .ref aT_wakings, .ref aT_binders, .ref aT_curses, .ref aT_doers, .ref aT_sorts, .ref aT_whichs, .ref aT_bars, .ref aT_bits, .ref aT_kisses])), (aT_curses, .inl (G.2.1, 9, .inl fT_curses)), (aT_doers, .inl (G.2.1, 19, .inl fT_doers)), (aT_sorts, .inl (G.2.1, 19, .inl fT_sorts)), (aT_whichs, .inl (G.2.1, 19, .inl fT_whichs)), (aT_bars, .inl (G.2.1, 19, .inl fT_bars)), (aT_bits, .inl (G.2.1, 19, .inl fT_bits)), (aT_kisses, .inl (G.2.1, 19, .inl fT_kisses))] → va_S A s.heap H lo → ∀ (ls : Array Slot), lv_has ls 6 [(0, .ref aT), (1, .int x1)] → W p l e R s m ar below meth c H lo 0 0 Q (F0 m 7 ls []) := by
    intro k
    induction k with
    | zero => intro x1 vT_deedCount fT_bars fT_bits fT_doers fT_kisses fT_sorts fT_whichs ovT_deedCount ofT_bars ofT_bits ofT_doers ofT_kisses ofT_sorts ofT_whichs hev; rw [f_Ru_learnDeeds_L7] at hev; cases hev
    | succ k ih =>
      intro x1 vT_deedCount fT_bars fT_bits fT_doers fT_kisses fT_sorts fT_whichs ovT_deedCount ofT_bars ofT_bits ofT_doers ofT_kisses ofT_sorts ofT_whichs hev hex H lo hP hD hS ls hl
      rw [f_Ru_learnDeeds_L7] at hev
      have J62 : ∀ (vT_deedCount : Int32) (fT_bars : Nat → Int32) (fT_bits : Nat → Int32) (fT_doers : Nat → Int32) (fT_kisses : Nat → Int32) (fT_sorts : Nat → Int32) (fT_whichs : Nat → Int32) (x1 : Int32) (x2 : Int32), ∀ (H : Heap) (lo : List Loc), va_P G.1 classes [(aT, .inr (2, [.int vT_people, .int vT_spells, .int vT_deedCount, .ref aT_masks, .ref aT_values, .ref aT_askings, .ref aT_kissesNeeded, .ref aT_wakings, .ref aT_binders, .ref aT_curses, .ref aT_doers, .ref aT_sorts, .ref aT_whichs, .ref aT_bars, .ref aT_bits, .ref aT_kisses])), (aT_curses, .inl (G.2.1, 9, .inl fT_curses)), (aT_doers, .inl (G.2.1, 19, .inl fT_doers)), (aT_sorts, .inl (G.2.1, 19, .inl fT_sorts)), (aT_whichs, .inl (G.2.1, 19, .inl fT_whichs)), (aT_bars, .inl (G.2.1, 19, .inl fT_bars)), (aT_bits, .inl (G.2.1, 19, .inl fT_bits)), (aT_kisses, .inl (G.2.1, 19, .inl fT_kisses))] H → va_D A [(aT, .inr (2, [.int vT_people, .int vT_spells, .int vT_deedCount, .ref aT_masks, .ref aT_values, .ref aT_askings, .ref aT_kissesNeeded, .ref aT_wakings, .ref aT_binders, .ref aT_curses, .ref aT_doers, .ref aT_sorts, .ref aT_whichs, .ref aT_bars, .ref aT_bits, .ref aT_kisses])), (aT_curses, .inl (G.2.1, 9, .inl fT_curses)), (aT_doers, .inl (G.2.1, 19, .inl fT_doers)), (aT_sorts, .inl (G.2.1, 19, .inl fT_sorts)), (aT_whichs, .inl (G.2.1, 19, .inl fT_whichs)), (aT_bars, .inl (G.2.1, 19, .inl fT_bars)), (aT_bits, .inl (G.2.1, 19, .inl fT_bits)), (aT_kisses, .inl (G.2.1, 19, .inl fT_kisses))] → va_S A s.heap H lo → ∀ (ls : Array Slot), f_Ru_learnDeeds_J62 (f_Ru_learnDeeds_L7 vT_people fT_curses k) k vT_deedCount vT_people fT_bars fT_bits fT_curses fT_doers fT_kisses fT_sorts fT_whichs x1 x2 = some (ovT_deedCount, ofT_bars, ofT_bits, ofT_doers, ofT_kisses, ofT_sorts, ofT_whichs) → lv_has ls 6 [(0, .ref aT), (1, .int x1), (2, .int x2)] → W p l e R s m ar below meth c H lo 0 0 Q (F0 m 62 ls []) := by
        intro vT_deedCount fT_bars fT_bits fT_doers fT_kisses fT_sorts fT_whichs x1 x2 H lo hP hD hS ls hev hl
        unfold f_Ru_learnDeeds_J62 at hev
        refine lv_iconst (v := (1 : Int32)) hx hb dX4_learnDeeds_62 (by decide) ?_
        refine lv_bipush (v := (7 : Int32)) hx hb dX4_learnDeeds_63 (by decide) ?_
        refine lv_iload_n hx hb dX4_learnDeeds_65 rfl (lv_at hl 1 rfl) ?_
        refine lv_iadd hx hb dX4_learnDeeds_66 ?_
        refine lv_ishl hx hb dX4_learnDeeds_67 ?_
        refine lv_topi (fun y8 ey8 => ?_)
        replace hev := x_lt hev y8 ey8
        refine lv_istore_n (lv' := [(3, .int y8), (0, .ref aT), (1, .int x1), (2, .int x2)]) hx hb dX4_learnDeeds_68 rfl hl (by decide) rfl (fun ls hl => ?_)
        refine lv_aload_n hx hb dX4_learnDeeds_69 rfl (lv_at hl 1 rfl) ?_
        refine lv_iload_n hx hb dX4_learnDeeds_70 rfl (lv_at hl 2 rfl) ?_
        refine lv_iconst (v := (1 : Int32)) hx hb dX4_learnDeeds_71 (by decide) ?_
        refine lv_iconst (v := (0 : Int32)) hx hb dX4_learnDeeds_72 (by decide) ?_
        refine lv_iload_n hx hb dX4_learnDeeds_73 rfl (lv_at hl 3 rfl) ?_
        refine lv_iload_n hx hb dX4_learnDeeds_74 rfl (lv_at hl 0 rfl) ?_
        refine lv_ior hx hb dX4_learnDeeds_75 ?_
        refine lv_iload_n hx hb dX4_learnDeeds_76 rfl (lv_at hl 0 rfl) ?_
        obtain ⟨⟨w9, w10, w11, w12, w13, w14, w15⟩, hq, hev⟩ := x_bd hev
        refine rgV X (KK_at hKK hS hAb) hR (st1 := []) (ws2 := [(aT, .inr (2, [.int vT_people, .int vT_spells, .int w9, .ref aT_masks, .ref aT_values, .ref aT_askings, .ref aT_kissesNeeded, .ref aT_wakings, .ref aT_binders, .ref aT_curses, .ref aT_doers, .ref aT_sorts, .ref aT_whichs, .ref aT_bars, .ref aT_bits, .ref aT_kisses])), (aT_curses, .inl (G.2.1, 9, .inl fT_curses)), (aT_doers, .inl (G.2.1, 19, .inl w12)), (aT_sorts, .inl (G.2.1, 19, .inl w14)), (aT_whichs, .inl (G.2.1, 19, .inl w15)), (aT_bars, .inl (G.2.1, 19, .inl w10)), (aT_bits, .inl (G.2.1, 19, .inl w11)), (aT_kisses, .inl (G.2.1, 19, .inl w13))]) (c_Ru_addDeed l G aT aT_masks aT_values aT_askings aT_kissesNeeded aT_wakings aT_binders aT_curses aT_doers aT_sorts aT_whichs aT_bars aT_bits aT_kisses vT_people vT_spells vT_deedCount fT_doers fT_sorts fT_whichs fT_bars fT_bits fT_kisses x1 (1 : Int32) (0 : Int32) (x2 ||| y8) y8 w9 w10 w11 w12 w13 w14 w15 hq) K_X4_addDeed u395 hP hD hS hA hAb [0, 2, 3, 4, 5, 6, 7] rfl (sbC rfl (sbC rfl (sbC rfl (sbC rfl (sbC rfl (sbC rfl (sbC rfl sb0))))))) (mgN 0 rfl rfl (mgK (by decide) (mgN 1 rfl rfl (mgN 2 rfl rfl (mgN 3 rfl rfl (mgN 4 rfl rfl (mgN 5 rfl rfl (mgN 6 rfl rfl (mg0))))))))) rfl (q0 := 0) rfl (by decide) ⟨Nat.zero_le _, Nat.zero_le _⟩ rfl hl.1 rfl (Nat.le_of_ble_eq_true rfl) rfl dX4_learnDeeds_77 (fun H lo hP hD hS => ?_)
        refine lv_iconst (v := (0 : Int32)) hx hb dX4_learnDeeds_80 (by decide) ?_
        refine lv_istore (lv' := [(4, .int (0 : Int32)), (3, .int y8), (0, .ref aT), (1, .int x1), (2, .int x2)]) hx hb dX4_learnDeeds_81 hl (by decide) rfl (fun ls hl => ?_)
        have L83 : ∀ (x1 : Int32) (x2 : Int32), ∀ (k : Nat) (x4 : Int32) (vT_deedCount : Int32) (fT_bars : Nat → Int32) (fT_bits : Nat → Int32) (fT_doers : Nat → Int32) (fT_kisses : Nat → Int32) (fT_sorts : Nat → Int32) (fT_whichs : Nat → Int32) (ovT_deedCount : Int32) (ofT_bars : Nat → Int32) (ofT_bits : Nat → Int32) (ofT_doers : Nat → Int32) (ofT_kisses : Nat → Int32) (ofT_sorts : Nat → Int32) (ofT_whichs : Nat → Int32), f_Ru_learnDeeds_L83 vT_people fT_curses x1 x2 k x4 vT_deedCount fT_bars fT_bits fT_doers fT_kisses fT_sorts fT_whichs = some (ovT_deedCount, ofT_bars, ofT_bits, ofT_doers, ofT_kisses, ofT_sorts, ofT_whichs) → (∀ (H : Heap) (lo : List Loc), va_P G.1 classes [(aT, .inr (2, [.int vT_people, .int vT_spells, .int ovT_deedCount, .ref aT_masks, .ref aT_values, .ref aT_askings, .ref aT_kissesNeeded, .ref aT_wakings, .ref aT_binders, .ref aT_curses, .ref aT_doers, .ref aT_sorts, .ref aT_whichs, .ref aT_bars, .ref aT_bits, .ref aT_kisses])), (aT_curses, .inl (G.2.1, 9, .inl fT_curses)), (aT_doers, .inl (G.2.1, 19, .inl ofT_doers)), (aT_sorts, .inl (G.2.1, 19, .inl ofT_sorts)), (aT_whichs, .inl (G.2.1, 19, .inl ofT_whichs)), (aT_bars, .inl (G.2.1, 19, .inl ofT_bars)), (aT_bits, .inl (G.2.1, 19, .inl ofT_bits)), (aT_kisses, .inl (G.2.1, 19, .inl ofT_kisses))] H → va_D A [(aT, .inr (2, [.int vT_people, .int vT_spells, .int ovT_deedCount, .ref aT_masks, .ref aT_values, .ref aT_askings, .ref aT_kissesNeeded, .ref aT_wakings, .ref aT_binders, .ref aT_curses, .ref aT_doers, .ref aT_sorts, .ref aT_whichs, .ref aT_bars, .ref aT_bits, .ref aT_kisses])), (aT_curses, .inl (G.2.1, 9, .inl fT_curses)), (aT_doers, .inl (G.2.1, 19, .inl ofT_doers)), (aT_sorts, .inl (G.2.1, 19, .inl ofT_sorts)), (aT_whichs, .inl (G.2.1, 19, .inl ofT_whichs)), (aT_bars, .inl (G.2.1, 19, .inl ofT_bars)), (aT_bits, .inl (G.2.1, 19, .inl ofT_bits)), (aT_kisses, .inl (G.2.1, 19, .inl ofT_kisses))] → va_S A s.heap H lo → ∀ (ls : Array Slot), lv_has ls 6 [(0, .ref aT), (1, .int x1), (2, .int x2)] → W p l e R s m ar below meth c H lo 0 0 Q (F0 m 124 ls [])) → ∀ (H : Heap) (lo : List Loc), va_P G.1 classes [(aT, .inr (2, [.int vT_people, .int vT_spells, .int vT_deedCount, .ref aT_masks, .ref aT_values, .ref aT_askings, .ref aT_kissesNeeded, .ref aT_wakings, .ref aT_binders, .ref aT_curses, .ref aT_doers, .ref aT_sorts, .ref aT_whichs, .ref aT_bars, .ref aT_bits, .ref aT_kisses])), (aT_curses, .inl (G.2.1, 9, .inl fT_curses)), (aT_doers, .inl (G.2.1, 19, .inl fT_doers)), (aT_sorts, .inl (G.2.1, 19, .inl fT_sorts)), (aT_whichs, .inl (G.2.1, 19, .inl fT_whichs)), (aT_bars, .inl (G.2.1, 19, .inl fT_bars)), (aT_bits, .inl (G.2.1, 19, .inl fT_bits)), (aT_kisses, .inl (G.2.1, 19, .inl fT_kisses))] H → va_D A [(aT, .inr (2, [.int vT_people, .int vT_spells, .int vT_deedCount, .ref aT_masks, .ref aT_values, .ref aT_askings, .ref aT_kissesNeeded, .ref aT_wakings, .ref aT_binders, .ref aT_curses, .ref aT_doers, .ref aT_sorts, .ref aT_whichs, .ref aT_bars, .ref aT_bits, .ref aT_kisses])), (aT_curses, .inl (G.2.1, 9, .inl fT_curses)), (aT_doers, .inl (G.2.1, 19, .inl fT_doers)), (aT_sorts, .inl (G.2.1, 19, .inl fT_sorts)), (aT_whichs, .inl (G.2.1, 19, .inl fT_whichs)), (aT_bars, .inl (G.2.1, 19, .inl fT_bars)), (aT_bits, .inl (G.2.1, 19, .inl fT_bits)), (aT_kisses, .inl (G.2.1, 19, .inl fT_kisses))] → va_S A s.heap H lo → ∀ (ls : Array Slot), lv_has ls 6 [(0, .ref aT), (1, .int x1), (2, .int x2), (4, .int x4)] → W p l e R s m ar below meth c H lo 0 0 Q (F0 m 83 ls []) := by
          intro x1 x2 k
          induction k with
          | zero => intro x4 vT_deedCount fT_bars fT_bits fT_doers fT_kisses fT_sorts fT_whichs ovT_deedCount ofT_bars ofT_bits ofT_doers ofT_kisses ofT_sorts ofT_whichs hev; rw [f_Ru_learnDeeds_L83] at hev; cases hev
          | succ k ih =>
            intro x4 vT_deedCount fT_bars fT_bits fT_doers fT_kisses fT_sorts fT_whichs ovT_deedCount ofT_bars ofT_bits ofT_doers ofT_kisses ofT_sorts ofT_whichs hev hex H lo hP hD hS ls hl
            rw [f_Ru_learnDeeds_L83] at hev
            refine lv_iload hx hb dX4_learnDeeds_83 (lv_at hl 3 rfl) ?_
            refine lv_iconst (v := (2 : Int32)) hx hb dX4_learnDeeds_85 (by decide) ?_
            refine lv_icmp_ge (tgt := 124) hx hb dX4_learnDeeds_86 (by decide) (fun c16 => ?_) (fun c16 => ?_)
            · replace hev := x_t c16 hev
              cases hev
              exact hex _ _ hP hD hS ls (lv_sub hl [0, 1, 2] rfl)
            · replace hev := x_f c16 hev
              refine lv_iconst (v := (1 : Int32)) hx hb dX4_learnDeeds_89 (by decide) ?_
              refine lv_iconst (v := (5 : Int32)) hx hb dX4_learnDeeds_90 (by decide) ?_
              refine lv_iload hx hb dX4_learnDeeds_91 (lv_at hl 3 rfl) ?_
              refine lv_iadd hx hb dX4_learnDeeds_93 ?_
              refine lv_ishl hx hb dX4_learnDeeds_94 ?_
              refine lv_topi (fun y17 ey17 => ?_)
              replace hev := x_lt hev y17 ey17
              refine lv_istore (lv' := [(5, .int y17), (0, .ref aT), (1, .int x1), (2, .int x2), (4, .int x4)]) hx hb dX4_learnDeeds_95 hl (by decide) rfl (fun ls hl => ?_)
              refine lv_aload_n hx hb dX4_learnDeeds_97 rfl (lv_at hl 1 rfl) ?_
              refine lv_iload_n hx hb dX4_learnDeeds_98 rfl (lv_at hl 2 rfl) ?_
              refine lv_iconst (v := (2 : Int32)) hx hb dX4_learnDeeds_99 (by decide) ?_
              refine lv_iload hx hb dX4_learnDeeds_100 (lv_at hl 4 rfl) ?_
              refine lv_iload_n hx hb dX4_learnDeeds_102 rfl (lv_at hl 3 rfl) ?_
              refine lv_aload_n hx hb dX4_learnDeeds_103 rfl (lv_at hl 1 rfl) ?_
              refine lv_iload_n hx hb dX4_learnDeeds_104 rfl (lv_at hl 2 rfl) ?_
              refine lv_iconst (v := (1 : Int32)) hx hb dX4_learnDeeds_105 (by decide) ?_
              obtain ⟨y18, hq, hev⟩ := x_bd hev
              refine roV X (KK_at hKK hS hAb) hR (st1 := [.int y18, .int x2, .int x4, .int (2 : Int32), .int x1, .ref aT]) (c_Ru_cursesOn l G aT aT_masks aT_values aT_askings aT_kissesNeeded aT_wakings aT_binders aT_curses aT_doers aT_sorts aT_whichs aT_bars aT_bits aT_kisses vT_people vT_spells vT_deedCount fT_curses x1 (1 : Int32) y18 hq) K_X4_cursesOn u391 (x_Psub hP [0, 1] rfl) rfl (q0 := 0) rfl (by decide) ⟨Nat.zero_le _, Nat.zero_le _⟩ rfl hl.1 rfl (Nat.le_of_ble_eq_true rfl) rfl dX4_learnDeeds_106 ?_
              refine lv_ior hx hb dX4_learnDeeds_109 ?_
              refine lv_iload hx hb dX4_learnDeeds_110 (lv_at hl 0 rfl) ?_
              refine lv_ior hx hb dX4_learnDeeds_112 ?_
              refine lv_iload hx hb dX4_learnDeeds_113 (lv_at hl 0 rfl) ?_
              obtain ⟨⟨w19, w20, w21, w22, w23, w24, w25⟩, hq, hev⟩ := x_bd hev
              refine rgV X (KK_at hKK hS hAb) hR (st1 := []) (ws2 := [(aT, .inr (2, [.int vT_people, .int vT_spells, .int w19, .ref aT_masks, .ref aT_values, .ref aT_askings, .ref aT_kissesNeeded, .ref aT_wakings, .ref aT_binders, .ref aT_curses, .ref aT_doers, .ref aT_sorts, .ref aT_whichs, .ref aT_bars, .ref aT_bits, .ref aT_kisses])), (aT_curses, .inl (G.2.1, 9, .inl fT_curses)), (aT_doers, .inl (G.2.1, 19, .inl w22)), (aT_sorts, .inl (G.2.1, 19, .inl w24)), (aT_whichs, .inl (G.2.1, 19, .inl w25)), (aT_bars, .inl (G.2.1, 19, .inl w20)), (aT_bits, .inl (G.2.1, 19, .inl w21)), (aT_kisses, .inl (G.2.1, 19, .inl w23))]) (c_Ru_addDeed l G aT aT_masks aT_values aT_askings aT_kissesNeeded aT_wakings aT_binders aT_curses aT_doers aT_sorts aT_whichs aT_bars aT_bits aT_kisses vT_people vT_spells vT_deedCount fT_doers fT_sorts fT_whichs fT_bars fT_bits fT_kisses x1 (2 : Int32) x4 ((x2 ||| y18) ||| y17) y17 w19 w20 w21 w22 w23 w24 w25 hq) K_X4_addDeed u395 hP hD hS hA hAb [0, 2, 3, 4, 5, 6, 7] rfl (sbC rfl (sbC rfl (sbC rfl (sbC rfl (sbC rfl (sbC rfl (sbC rfl sb0))))))) (mgN 0 rfl rfl (mgK (by decide) (mgN 1 rfl rfl (mgN 2 rfl rfl (mgN 3 rfl rfl (mgN 4 rfl rfl (mgN 5 rfl rfl (mgN 6 rfl rfl (mg0))))))))) rfl (q0 := 0) rfl (by decide) ⟨Nat.zero_le _, Nat.zero_le _⟩ rfl hl.1 rfl (Nat.le_of_ble_eq_true rfl) rfl dX4_learnDeeds_115 (fun H lo hP hD hS => ?_)
              obtain ⟨y26, ey26⟩ : ∃ y : Int32, y = x4 + (1 : Int32) := ⟨_, rfl⟩
              refine lv_iinc (v := y26) (lv' := [(4, .int y26), (5, .int y17), (0, .ref aT), (1, .int x1), (2, .int x2)]) hx hb dX4_learnDeeds_118 hl (k := 4) rfl (by rw [ey26]; rfl) (by decide) rfl (fun ls hl => ?_)
              replace hev := x_lt hev y26 ey26
              refine lv_goto (tgt := 83) hx hb dX4_learnDeeds_121 (by decide) ?_
              exact ih y26 w19 w20 w21 w22 w23 w24 w25 _ _ _ _ _ _ _ hev hex _ _ hP hD hS ls (lv_sub hl [2, 3, 4, 0] rfl)
        obtain ⟨⟨w27, w28, w29, w30, w31, w32, w33⟩, hq, hev⟩ := x_bd hev
        refine L83 x1 x2 k (0 : Int32) w9 w10 w11 w12 w13 w14 w15 w27 w28 w29 w30 w31 w32 w33 hq (fun H lo hP hD hS ls hl => ?_) _ _ hP hD hS ls (lv_sub hl [2, 3, 4, 0] rfl)
        refine lv_aload_n hx hb dX4_learnDeeds_124 rfl (lv_at hl 0 rfl) ?_
        refine lv_iload_n hx hb dX4_learnDeeds_125 rfl (lv_at hl 1 rfl) ?_
        refine lv_iconst (v := (3 : Int32)) hx hb dX4_learnDeeds_126 (by decide) ?_
        refine lv_iconst (v := (0 : Int32)) hx hb dX4_learnDeeds_127 (by decide) ?_
        refine lv_iload_n hx hb dX4_learnDeeds_128 rfl (lv_at hl 2 rfl) ?_
        refine lv_aload_n hx hb dX4_learnDeeds_129 rfl (lv_at hl 0 rfl) ?_
        refine lv_iload_n hx hb dX4_learnDeeds_130 rfl (lv_at hl 1 rfl) ?_
        refine lv_iconst (v := (2 : Int32)) hx hb dX4_learnDeeds_131 (by decide) ?_
        obtain ⟨y34, hq, hev⟩ := x_bd hev
        refine roV X (KK_at hKK hS hAb) hR (st1 := [.int y34, .int x2, .int (0 : Int32), .int (3 : Int32), .int x1, .ref aT]) (c_Ru_cursesOn l G aT aT_masks aT_values aT_askings aT_kissesNeeded aT_wakings aT_binders aT_curses aT_doers aT_sorts aT_whichs aT_bars aT_bits aT_kisses vT_people vT_spells w27 fT_curses x1 (2 : Int32) y34 hq) K_X4_cursesOn u391 (x_Psub hP [0, 1] rfl) rfl (q0 := 0) rfl (by decide) ⟨Nat.zero_le _, Nat.zero_le _⟩ rfl hl.1 rfl (Nat.le_of_ble_eq_true rfl) rfl dX4_learnDeeds_132 ?_
        refine lv_ior hx hb dX4_learnDeeds_135 ?_
        refine lv_sipush (v := (1024 : Int32)) hx hb dX4_learnDeeds_136 (by decide) ?_
        obtain ⟨⟨w35, w36, w37, w38, w39, w40, w41⟩, hq, hev⟩ := x_bd hev
        refine rgV X (KK_at hKK hS hAb) hR (st1 := []) (ws2 := [(aT, .inr (2, [.int vT_people, .int vT_spells, .int w35, .ref aT_masks, .ref aT_values, .ref aT_askings, .ref aT_kissesNeeded, .ref aT_wakings, .ref aT_binders, .ref aT_curses, .ref aT_doers, .ref aT_sorts, .ref aT_whichs, .ref aT_bars, .ref aT_bits, .ref aT_kisses])), (aT_curses, .inl (G.2.1, 9, .inl fT_curses)), (aT_doers, .inl (G.2.1, 19, .inl w38)), (aT_sorts, .inl (G.2.1, 19, .inl w40)), (aT_whichs, .inl (G.2.1, 19, .inl w41)), (aT_bars, .inl (G.2.1, 19, .inl w36)), (aT_bits, .inl (G.2.1, 19, .inl w37)), (aT_kisses, .inl (G.2.1, 19, .inl w39))]) (c_Ru_addDeed l G aT aT_masks aT_values aT_askings aT_kissesNeeded aT_wakings aT_binders aT_curses aT_doers aT_sorts aT_whichs aT_bars aT_bits aT_kisses vT_people vT_spells w27 w30 w32 w33 w28 w29 w31 x1 (3 : Int32) (0 : Int32) (x2 ||| y34) (1024 : Int32) w35 w36 w37 w38 w39 w40 w41 hq) K_X4_addDeed u395 hP hD hS hA hAb [0, 2, 3, 4, 5, 6, 7] rfl (sbC rfl (sbC rfl (sbC rfl (sbC rfl (sbC rfl (sbC rfl (sbC rfl sb0))))))) (mgN 0 rfl rfl (mgK (by decide) (mgN 1 rfl rfl (mgN 2 rfl rfl (mgN 3 rfl rfl (mgN 4 rfl rfl (mgN 5 rfl rfl (mgN 6 rfl rfl (mg0))))))))) rfl (q0 := 0) rfl (by decide) ⟨Nat.zero_le _, Nat.zero_le _⟩ rfl hl.1 rfl (Nat.le_of_ble_eq_true rfl) rfl dX4_learnDeeds_139 (fun H lo hP hD hS => ?_)
        obtain ⟨y42, ey42⟩ : ∃ y : Int32, y = x1 + (1 : Int32) := ⟨_, rfl⟩
        refine lv_iinc (v := y42) (lv' := [(1, .int y42), (0, .ref aT), (2, .int x2)]) hx hb dX4_learnDeeds_142 hl (k := 1) rfl (by rw [ey42]; rfl) (by decide) rfl (fun ls hl => ?_)
        replace hev := x_lt hev y42 ey42
        refine lv_goto (tgt := 7) hx hb dX4_learnDeeds_145 (by decide) ?_
        exact ih y42 w35 w36 w37 w38 w39 w40 w41 _ _ _ _ _ _ _ hev hex _ _ hP hD hS ls (lv_sub hl [1, 0] rfl)
      refine lv_iload_n hx hb dX4_learnDeeds_7 rfl (lv_at hl 1 rfl) ?_
      refine lv_aload_n hx hb dX4_learnDeeds_8 rfl (lv_at hl 0 rfl) ?_
      refine va_get (D := G.1) (ci := 2) (v := .int vT_people) (C := RX4) (T := TX4) (N := 16) hx hb hts i4 hown hK hP 0 rfl rfl 0 (by decide) (hw _ u197) (fun _ h9 => h9) rfl dX4_learnDeeds_9 ?_
      refine lv_icmp_ge (tgt := 148) hx hb dX4_learnDeeds_12 (by decide) (fun c43 => ?_) (fun c43 => ?_)
      · replace hev := x_t c43 hev
        cases hev
        exact hex _ _ hP hD hS ls (lv_sub hl [0] rfl)
      · replace hev := x_f c43 hev
        refine lv_iload_n hx hb dX4_learnDeeds_15 rfl (lv_at hl 1 rfl) ?_
        refine lv_iconst (v := (3 : Int32)) hx hb dX4_learnDeeds_16 (by decide) ?_
        refine lv_icmp_ge (tgt := 148) hx hb dX4_learnDeeds_17 (by decide) (fun c44 => ?_) (fun c44 => ?_)
        · replace hev := x_t c44 hev
          cases hev
          exact hex _ _ hP hD hS ls (lv_sub hl [0] rfl)
        · replace hev := x_f c44 hev
          refine lv_aload_n hx hb dX4_learnDeeds_20 rfl (lv_at hl 0 rfl) ?_
          refine lv_iload_n hx hb dX4_learnDeeds_21 rfl (lv_at hl 1 rfl) ?_
          refine lv_iconst (v := (0 : Int32)) hx hb dX4_learnDeeds_22 (by decide) ?_
          obtain ⟨y45, hq, hev⟩ := x_bd hev
          refine roV X (KK_at hKK hS hAb) hR (st1 := [.int y45]) (c_Ru_cursesOn l G aT aT_masks aT_values aT_askings aT_kissesNeeded aT_wakings aT_binders aT_curses aT_doers aT_sorts aT_whichs aT_bars aT_bits aT_kisses vT_people vT_spells vT_deedCount fT_curses x1 (0 : Int32) y45 hq) K_X4_cursesOn u391 (x_Psub hP [0, 1] rfl) rfl (q0 := 0) rfl (by decide) ⟨Nat.zero_le _, Nat.zero_le _⟩ rfl hl.1 rfl (Nat.le_of_ble_eq_true rfl) rfl dX4_learnDeeds_23 ?_
          refine lv_istore_n (lv' := [(2, .int y45), (0, .ref aT), (1, .int x1)]) hx hb dX4_learnDeeds_26 rfl hl (by decide) rfl (fun ls hl => ?_)
          refine lv_iconst (v := (0 : Int32)) hx hb dX4_learnDeeds_27 (by decide) ?_
          refine lv_istore_n (lv' := [(3, .int (0 : Int32)), (2, .int y45), (0, .ref aT), (1, .int x1)]) hx hb dX4_learnDeeds_28 rfl hl (by decide) rfl (fun ls hl => ?_)
          have L29 : ∀ (x1 : Int32) (x2 : Int32), ∀ (k : Nat) (x3 : Int32) (vT_deedCount : Int32) (fT_bars : Nat → Int32) (fT_bits : Nat → Int32) (fT_doers : Nat → Int32) (fT_kisses : Nat → Int32) (fT_sorts : Nat → Int32) (fT_whichs : Nat → Int32) (ovT_deedCount : Int32) (ofT_bars : Nat → Int32) (ofT_bits : Nat → Int32) (ofT_doers : Nat → Int32) (ofT_kisses : Nat → Int32) (ofT_sorts : Nat → Int32) (ofT_whichs : Nat → Int32), f_Ru_learnDeeds_L29 vT_people fT_curses x1 x2 k x3 vT_deedCount fT_bars fT_bits fT_doers fT_kisses fT_sorts fT_whichs = some (ovT_deedCount, ofT_bars, ofT_bits, ofT_doers, ofT_kisses, ofT_sorts, ofT_whichs) → (∀ (H : Heap) (lo : List Loc), va_P G.1 classes [(aT, .inr (2, [.int vT_people, .int vT_spells, .int ovT_deedCount, .ref aT_masks, .ref aT_values, .ref aT_askings, .ref aT_kissesNeeded, .ref aT_wakings, .ref aT_binders, .ref aT_curses, .ref aT_doers, .ref aT_sorts, .ref aT_whichs, .ref aT_bars, .ref aT_bits, .ref aT_kisses])), (aT_curses, .inl (G.2.1, 9, .inl fT_curses)), (aT_doers, .inl (G.2.1, 19, .inl ofT_doers)), (aT_sorts, .inl (G.2.1, 19, .inl ofT_sorts)), (aT_whichs, .inl (G.2.1, 19, .inl ofT_whichs)), (aT_bars, .inl (G.2.1, 19, .inl ofT_bars)), (aT_bits, .inl (G.2.1, 19, .inl ofT_bits)), (aT_kisses, .inl (G.2.1, 19, .inl ofT_kisses))] H → va_D A [(aT, .inr (2, [.int vT_people, .int vT_spells, .int ovT_deedCount, .ref aT_masks, .ref aT_values, .ref aT_askings, .ref aT_kissesNeeded, .ref aT_wakings, .ref aT_binders, .ref aT_curses, .ref aT_doers, .ref aT_sorts, .ref aT_whichs, .ref aT_bars, .ref aT_bits, .ref aT_kisses])), (aT_curses, .inl (G.2.1, 9, .inl fT_curses)), (aT_doers, .inl (G.2.1, 19, .inl ofT_doers)), (aT_sorts, .inl (G.2.1, 19, .inl ofT_sorts)), (aT_whichs, .inl (G.2.1, 19, .inl ofT_whichs)), (aT_bars, .inl (G.2.1, 19, .inl ofT_bars)), (aT_bits, .inl (G.2.1, 19, .inl ofT_bits)), (aT_kisses, .inl (G.2.1, 19, .inl ofT_kisses))] → va_S A s.heap H lo → ∀ (ls : Array Slot), lv_has ls 6 [(0, .ref aT), (1, .int x1), (2, .int x2)] → W p l e R s m ar below meth c H lo 0 0 Q (F0 m 62 ls [])) → ∀ (H : Heap) (lo : List Loc), va_P G.1 classes [(aT, .inr (2, [.int vT_people, .int vT_spells, .int vT_deedCount, .ref aT_masks, .ref aT_values, .ref aT_askings, .ref aT_kissesNeeded, .ref aT_wakings, .ref aT_binders, .ref aT_curses, .ref aT_doers, .ref aT_sorts, .ref aT_whichs, .ref aT_bars, .ref aT_bits, .ref aT_kisses])), (aT_curses, .inl (G.2.1, 9, .inl fT_curses)), (aT_doers, .inl (G.2.1, 19, .inl fT_doers)), (aT_sorts, .inl (G.2.1, 19, .inl fT_sorts)), (aT_whichs, .inl (G.2.1, 19, .inl fT_whichs)), (aT_bars, .inl (G.2.1, 19, .inl fT_bars)), (aT_bits, .inl (G.2.1, 19, .inl fT_bits)), (aT_kisses, .inl (G.2.1, 19, .inl fT_kisses))] H → va_D A [(aT, .inr (2, [.int vT_people, .int vT_spells, .int vT_deedCount, .ref aT_masks, .ref aT_values, .ref aT_askings, .ref aT_kissesNeeded, .ref aT_wakings, .ref aT_binders, .ref aT_curses, .ref aT_doers, .ref aT_sorts, .ref aT_whichs, .ref aT_bars, .ref aT_bits, .ref aT_kisses])), (aT_curses, .inl (G.2.1, 9, .inl fT_curses)), (aT_doers, .inl (G.2.1, 19, .inl fT_doers)), (aT_sorts, .inl (G.2.1, 19, .inl fT_sorts)), (aT_whichs, .inl (G.2.1, 19, .inl fT_whichs)), (aT_bars, .inl (G.2.1, 19, .inl fT_bars)), (aT_bits, .inl (G.2.1, 19, .inl fT_bits)), (aT_kisses, .inl (G.2.1, 19, .inl fT_kisses))] → va_S A s.heap H lo → ∀ (ls : Array Slot), lv_has ls 6 [(0, .ref aT), (1, .int x1), (2, .int x2), (3, .int x3)] → W p l e R s m ar below meth c H lo 0 0 Q (F0 m 29 ls []) := by
            intro x1 x2 k
            induction k with
            | zero => intro x3 vT_deedCount fT_bars fT_bits fT_doers fT_kisses fT_sorts fT_whichs ovT_deedCount ofT_bars ofT_bits ofT_doers ofT_kisses ofT_sorts ofT_whichs hev; rw [f_Ru_learnDeeds_L29] at hev; cases hev
            | succ k ih =>
              intro x3 vT_deedCount fT_bars fT_bits fT_doers fT_kisses fT_sorts fT_whichs ovT_deedCount ofT_bars ofT_bits ofT_doers ofT_kisses ofT_sorts ofT_whichs hev hex H lo hP hD hS ls hl
              rw [f_Ru_learnDeeds_L29] at hev
              have J56 : ∀ (vT_deedCount : Int32) (fT_bars : Nat → Int32) (fT_bits : Nat → Int32) (fT_doers : Nat → Int32) (fT_kisses : Nat → Int32) (fT_sorts : Nat → Int32) (fT_whichs : Nat → Int32) (x3 : Int32), ∀ (H : Heap) (lo : List Loc), va_P G.1 classes [(aT, .inr (2, [.int vT_people, .int vT_spells, .int vT_deedCount, .ref aT_masks, .ref aT_values, .ref aT_askings, .ref aT_kissesNeeded, .ref aT_wakings, .ref aT_binders, .ref aT_curses, .ref aT_doers, .ref aT_sorts, .ref aT_whichs, .ref aT_bars, .ref aT_bits, .ref aT_kisses])), (aT_curses, .inl (G.2.1, 9, .inl fT_curses)), (aT_doers, .inl (G.2.1, 19, .inl fT_doers)), (aT_sorts, .inl (G.2.1, 19, .inl fT_sorts)), (aT_whichs, .inl (G.2.1, 19, .inl fT_whichs)), (aT_bars, .inl (G.2.1, 19, .inl fT_bars)), (aT_bits, .inl (G.2.1, 19, .inl fT_bits)), (aT_kisses, .inl (G.2.1, 19, .inl fT_kisses))] H → va_D A [(aT, .inr (2, [.int vT_people, .int vT_spells, .int vT_deedCount, .ref aT_masks, .ref aT_values, .ref aT_askings, .ref aT_kissesNeeded, .ref aT_wakings, .ref aT_binders, .ref aT_curses, .ref aT_doers, .ref aT_sorts, .ref aT_whichs, .ref aT_bars, .ref aT_bits, .ref aT_kisses])), (aT_curses, .inl (G.2.1, 9, .inl fT_curses)), (aT_doers, .inl (G.2.1, 19, .inl fT_doers)), (aT_sorts, .inl (G.2.1, 19, .inl fT_sorts)), (aT_whichs, .inl (G.2.1, 19, .inl fT_whichs)), (aT_bars, .inl (G.2.1, 19, .inl fT_bars)), (aT_bits, .inl (G.2.1, 19, .inl fT_bits)), (aT_kisses, .inl (G.2.1, 19, .inl fT_kisses))] → va_S A s.heap H lo → ∀ (ls : Array Slot), f_Ru_learnDeeds_J56 (f_Ru_learnDeeds_L29 vT_people fT_curses x1 x2 k) k vT_deedCount vT_people fT_bars fT_bits fT_curses fT_doers fT_kisses fT_sorts fT_whichs x1 x2 x3 = some (ovT_deedCount, ofT_bars, ofT_bits, ofT_doers, ofT_kisses, ofT_sorts, ofT_whichs) → lv_has ls 6 [(0, .ref aT), (1, .int x1), (2, .int x2), (3, .int x3)] → W p l e R s m ar below meth c H lo 0 0 Q (F0 m 56 ls []) := by
                intro vT_deedCount fT_bars fT_bits fT_doers fT_kisses fT_sorts fT_whichs x3 H lo hP hD hS ls hev hl
                unfold f_Ru_learnDeeds_J56 at hev
                obtain ⟨y46, ey46⟩ : ∃ y : Int32, y = x3 + (1 : Int32) := ⟨_, rfl⟩
                refine lv_iinc (v := y46) (lv' := [(3, .int y46), (0, .ref aT), (1, .int x1), (2, .int x2)]) hx hb dX4_learnDeeds_56 hl (k := 3) rfl (by rw [ey46]; rfl) (by decide) rfl (fun ls hl => ?_)
                replace hev := x_lt hev y46 ey46
                refine lv_goto (tgt := 29) hx hb dX4_learnDeeds_59 (by decide) ?_
                exact ih y46 vT_deedCount fT_bars fT_bits fT_doers fT_kisses fT_sorts fT_whichs _ _ _ _ _ _ _ hev hex _ _ hP hD hS ls (lv_sub hl [1, 2, 3, 0] rfl)
              refine lv_iload_n hx hb dX4_learnDeeds_29 rfl (lv_at hl 3 rfl) ?_
              refine lv_aload_n hx hb dX4_learnDeeds_30 rfl (lv_at hl 0 rfl) ?_
              refine va_get (D := G.1) (ci := 2) (v := .int vT_people) (C := RX4) (T := TX4) (N := 16) hx hb hts i4 hown hK hP 0 rfl rfl 0 (by decide) (hw _ u197) (fun _ h9 => h9) rfl dX4_learnDeeds_31 ?_
              refine lv_icmp_ge (tgt := 62) hx hb dX4_learnDeeds_34 (by decide) (fun c47 => ?_) (fun c47 => ?_)
              · replace hev := x_t c47 hev
                cases hev
                exact hex _ _ hP hD hS ls (lv_sub hl [0, 1, 2] rfl)
              · replace hev := x_f c47 hev
                refine lv_iload_n hx hb dX4_learnDeeds_37 rfl (lv_at hl 3 rfl) ?_
                refine lv_iconst (v := (3 : Int32)) hx hb dX4_learnDeeds_38 (by decide) ?_
                refine lv_icmp_ge (tgt := 62) hx hb dX4_learnDeeds_39 (by decide) (fun c48 => ?_) (fun c48 => ?_)
                · replace hev := x_t c48 hev
                  cases hev
                  exact hex _ _ hP hD hS ls (lv_sub hl [0, 1, 2] rfl)
                · replace hev := x_f c48 hev
                  refine lv_iload_n hx hb dX4_learnDeeds_42 rfl (lv_at hl 3 rfl) ?_
                  refine lv_iload_n hx hb dX4_learnDeeds_43 rfl (lv_at hl 1 rfl) ?_
                  refine lv_icmp_eq (tgt := 56) hx hb dX4_learnDeeds_44 (by decide) (fun c49 => ?_) (fun c49 => ?_)
                  · replace hev := x_t c49 hev
                    exact J56 vT_deedCount fT_bars fT_bits fT_doers fT_kisses fT_sorts fT_whichs x3 _ _ hP hD hS ls hev (lv_sub hl [0, 1, 2, 3] rfl)
                  · replace hev := x_f c49 hev
                    refine lv_aload_n hx hb dX4_learnDeeds_47 rfl (lv_at hl 0 rfl) ?_
                    refine lv_iload_n hx hb dX4_learnDeeds_48 rfl (lv_at hl 1 rfl) ?_
                    refine lv_iconst (v := (0 : Int32)) hx hb dX4_learnDeeds_49 (by decide) ?_
                    refine lv_iload_n hx hb dX4_learnDeeds_50 rfl (lv_at hl 3 rfl) ?_
                    refine lv_iload_n hx hb dX4_learnDeeds_51 rfl (lv_at hl 2 rfl) ?_
                    refine lv_iconst (v := (0 : Int32)) hx hb dX4_learnDeeds_52 (by decide) ?_
                    obtain ⟨⟨w50, w51, w52, w53, w54, w55, w56⟩, hq, hev⟩ := x_bd hev
                    refine rgV X (KK_at hKK hS hAb) hR (st1 := []) (ws2 := [(aT, .inr (2, [.int vT_people, .int vT_spells, .int w50, .ref aT_masks, .ref aT_values, .ref aT_askings, .ref aT_kissesNeeded, .ref aT_wakings, .ref aT_binders, .ref aT_curses, .ref aT_doers, .ref aT_sorts, .ref aT_whichs, .ref aT_bars, .ref aT_bits, .ref aT_kisses])), (aT_curses, .inl (G.2.1, 9, .inl fT_curses)), (aT_doers, .inl (G.2.1, 19, .inl w53)), (aT_sorts, .inl (G.2.1, 19, .inl w55)), (aT_whichs, .inl (G.2.1, 19, .inl w56)), (aT_bars, .inl (G.2.1, 19, .inl w51)), (aT_bits, .inl (G.2.1, 19, .inl w52)), (aT_kisses, .inl (G.2.1, 19, .inl w54))]) (c_Ru_addDeed l G aT aT_masks aT_values aT_askings aT_kissesNeeded aT_wakings aT_binders aT_curses aT_doers aT_sorts aT_whichs aT_bars aT_bits aT_kisses vT_people vT_spells vT_deedCount fT_doers fT_sorts fT_whichs fT_bars fT_bits fT_kisses x1 (0 : Int32) x3 x2 (0 : Int32) w50 w51 w52 w53 w54 w55 w56 hq) K_X4_addDeed u395 hP hD hS hA hAb [0, 2, 3, 4, 5, 6, 7] rfl (sbC rfl (sbC rfl (sbC rfl (sbC rfl (sbC rfl (sbC rfl (sbC rfl sb0))))))) (mgN 0 rfl rfl (mgK (by decide) (mgN 1 rfl rfl (mgN 2 rfl rfl (mgN 3 rfl rfl (mgN 4 rfl rfl (mgN 5 rfl rfl (mgN 6 rfl rfl (mg0))))))))) rfl (q0 := 0) rfl (by decide) ⟨Nat.zero_le _, Nat.zero_le _⟩ rfl hl.1 rfl (Nat.le_of_ble_eq_true rfl) rfl dX4_learnDeeds_53 (fun H lo hP hD hS => ?_)
                    exact J56 w50 w51 w52 w53 w54 w55 w56 x3 _ _ hP hD hS ls hev (lv_sub hl [0, 1, 2, 3] rfl)
          obtain ⟨⟨w57, w58, w59, w60, w61, w62, w63⟩, hq, hev⟩ := x_bd hev
          refine L29 x1 y45 k (0 : Int32) vT_deedCount fT_bars fT_bits fT_doers fT_kisses fT_sorts fT_whichs w57 w58 w59 w60 w61 w62 w63 hq (fun H lo hP hD hS ls hl => ?_) _ _ hP hD hS ls (lv_sub hl [2, 3, 1, 0] rfl)
          exact J62 w57 w58 w59 w60 w61 w62 w63 x1 y45 _ _ hP hD hS ls hev (lv_sub hl [0, 1, 2] rfl)
  obtain ⟨⟨w64, w65, w66, w67, w68, w69, w70⟩, hq, hev⟩ := x_bd hev
  refine L7 k (0 : Int32) (0 : Int32) fT_bars fT_bits fT_doers fT_kisses fT_sorts fT_whichs w64 w65 w66 w67 w68 w69 w70 hq (fun H lo hP hD hS ls hl => ?_) _ _ hP hD hS ls (lv_sub hl [1, 0] rfl)
  exact J148 w64 w65 w66 w67 w68 w69 w70 _ _ hP hD hS ls hev (lv_sub hl [0] rfl)
def f_Ru_bindersOf_J9 (fT_binders : Nat → Int32) : Option (Int32) := some (0 : Int32)
def f_Ru_bindersOf (fT_binders : Nat → Int32) (p1 : Int32) : Option (Int32) := if p1 < 0 then (f_Ru_bindersOf_J9 fT_binders) else if p1 < (5 : Int32) then (x_I 5 fT_binders p1 (fun v4 => some v4)) else f_Ru_bindersOf_J9 fT_binders
set_option maxHeartbeats 8000000 in
set_option maxRecDepth 100000 in
theorem c_Ru_bindersOf (l : Launch) (G : GG) (aT aT_masks aT_values aT_askings aT_kissesNeeded aT_wakings aT_binders aT_curses aT_doers aT_sorts aT_whichs aT_bars aT_bits aT_kisses : Nat) (vT_people : Int32) (vT_spells : Int32) (vT_deedCount : Int32) (fT_binders : Nat → Int32) (p1 : Int32) (r0 : Int32) (hev : f_Ru_bindersOf fT_binders p1 = some r0) : RO l G yX4_bindersOf cX4_bindersOf 2 (some .int) 0 [.ref aT, .int p1] [(aT, .inr (2, [.int vT_people, .int vT_spells, .int vT_deedCount, .ref aT_masks, .ref aT_values, .ref aT_askings, .ref aT_kissesNeeded, .ref aT_wakings, .ref aT_binders, .ref aT_curses, .ref aT_doers, .ref aT_sorts, .ref aT_whichs, .ref aT_bars, .ref aT_bits, .ref aT_kisses])), (aT_binders, .inl (G.2.1, 5, .inl fT_binders))] (some (.int r0)) := by
  refine RO_of (by decide) (Nat.le_of_ble_eq_true rfl) ?_
  intro p e s m ar below meth c R Q H ls X hR hP hKK hS0 hl ret
  generalize hrs : r0 = rs at hev ret
  have hl : lv_has ls 2 [(0, .ref aT), (1, .int p1)] := hl
  obtain ⟨hx, hb, hml, hown, hts, hT⟩ := id X
  have hK := hKK.1
  have hw : ∀ w ∈ T0, w.before ar s = true := fun w h => hts w (hT w h)
  have i4 := fun w h => hT w (inT4 w h)
  have J9 : ∀ (ls : Array Slot), f_Ru_bindersOf_J9 fT_binders = some rs → lv_has ls 2 [] → W p l e R s m ar below meth c H [] 0 0 Q (F0 m 9 ls []) := by
    intro  ls hev hl
    unfold f_Ru_bindersOf_J9 at hev
    refine lv_iconst (v := (0 : Int32)) hx hb dX4_bindersOf_9 (by decide) ?_
    refine lv_goto (tgt := 19) hx hb dX4_bindersOf_10 (by decide) ?_
    exact ret _ _ _ dX4_bindersOf_19 ((show narrow _ (.int (0 : Int32)) = .int (0 : Int32) from rfl).trans (congrArg Value.int (Option.some.inj hev)))
  unfold f_Ru_bindersOf at hev
  refine lv_iload_n hx hb dX4_bindersOf_0 rfl (lv_at hl 1 rfl) ?_
  refine lv_if_lt (tgt := 9) hx hb dX4_bindersOf_1 (by decide) (fun c1 => ?_) (fun c1 => ?_)
  · replace hev := x_t c1 hev
    exact J9  ls hev (lv_sub hl [] rfl)
  · replace hev := x_f c1 hev
    refine lv_iload_n hx hb dX4_bindersOf_4 rfl (lv_at hl 1 rfl) ?_
    refine lv_iconst (v := (5 : Int32)) hx hb dX4_bindersOf_5 (by decide) ?_
    refine lv_icmp_lt (tgt := 13) hx hb dX4_bindersOf_6 (by decide) (fun c2 => ?_) (fun c2 => ?_)
    · replace hev := x_t c2 hev
      refine lv_aload_n hx hb dX4_bindersOf_13 rfl (lv_at hl 0 rfl) ?_
      refine va_get (D := G.1) (ci := 2) (v := .ref aT_binders) (C := RX4) (T := TX4) (N := 16) hx hb hts i4 hown hK hP 0 rfl rfl 8 (by decide) (hw _ u205) (fun _ h9 => h9) rfl dX4_bindersOf_14 ?_
      refine lv_iload_n hx hb dX4_bindersOf_17 rfl (lv_at hl 1 rfl) ?_
      obtain ⟨h3, hev⟩ := x_ld hev
      refine va_iald hx hb hK hP 1 0 rfl rfl h3 dX4_bindersOf_18 ?_
      refine lv_topi (fun v4 ev4 => ?_)
      replace hev := hev v4 ev4
      exact ret _ _ _ dX4_bindersOf_19 ((show narrow _ (.int v4) = .int v4 from rfl).trans (congrArg Value.int (Option.some.inj hev)))
    · replace hev := x_f c2 hev
      exact J9  ls hev (lv_sub hl [] rfl)
def f_Ru_deedOf_J93 (rec : Int32 → Option ((Unit) ⊕ (Int32))) (k : Nat) (vT_deedCount : Int32) (fT_doers : Nat → Int32) (fT_sorts : Nat → Int32) (fT_whichs : Nat → Int32) (x1 : Int32) (x2 : Int32) (x3 : Int32) (x4 : Int32) : Option ((Unit) ⊕ (Int32)) := x_L (x4 + (1 : Int32)) (fun y1 => rec y1)
def f_Ru_deedOf_J67 (rec : Int32 → Option ((Unit) ⊕ (Int32))) (k : Nat) (vT_deedCount : Int32) (fT_doers : Nat → Int32) (fT_sorts : Nat → Int32) (fT_whichs : Nat → Int32) (x1 : Int32) (x2 : Int32) (x3 : Int32) (x4 : Int32) (x5 : Int32) (s0 : Int32) : Option ((Unit) ⊕ (Int32)) := x_I 19 fT_sorts x4 (fun v3 => if v3 = x2 then (if x5 = 0 then (f_Ru_deedOf_J93 rec k vT_deedCount fT_doers fT_sorts fT_whichs x1 x2 x3 x4) else if s0 = 0 then (f_Ru_deedOf_J93 rec k vT_deedCount fT_doers fT_sorts fT_whichs x1 x2 x3 x4) else some (.inr x4)) else f_Ru_deedOf_J93 rec k vT_deedCount fT_doers fT_sorts fT_whichs x1 x2 x3 x4)
def f_Ru_deedOf_J62 (rec : Int32 → Option ((Unit) ⊕ (Int32))) (k : Nat) (vT_deedCount : Int32) (fT_doers : Nat → Int32) (fT_sorts : Nat → Int32) (fT_whichs : Nat → Int32) (x1 : Int32) (x2 : Int32) (x3 : Int32) (x4 : Int32) (x5 : Int32) : Option ((Unit) ⊕ (Int32)) := f_Ru_deedOf_J67 rec k vT_deedCount fT_doers fT_sorts fT_whichs x1 x2 x3 x4 x5 (1 : Int32)
def f_Ru_deedOf_J51 (rec : Int32 → Option ((Unit) ⊕ (Int32))) (k : Nat) (vT_deedCount : Int32) (fT_doers : Nat → Int32) (fT_sorts : Nat → Int32) (fT_whichs : Nat → Int32) (x1 : Int32) (x2 : Int32) (x3 : Int32) (x4 : Int32) (x5 : Int32) : Option ((Unit) ⊕ (Int32)) := x_I 19 fT_whichs x4 (fun v8 => if v8 = x3 then (f_Ru_deedOf_J62 rec k vT_deedCount fT_doers fT_sorts fT_whichs x1 x2 x3 x4 x5) else f_Ru_deedOf_J67 rec k vT_deedCount fT_doers fT_sorts fT_whichs x1 x2 x3 x4 x5 (0 : Int32))
def f_Ru_deedOf_J40 (rec : Int32 → Option ((Unit) ⊕ (Int32))) (k : Nat) (vT_deedCount : Int32) (fT_doers : Nat → Int32) (fT_sorts : Nat → Int32) (fT_whichs : Nat → Int32) (x1 : Int32) (x2 : Int32) (x3 : Int32) (x4 : Int32) (s0 : Int32) : Option ((Unit) ⊕ (Int32)) := if x2 = 0 then (f_Ru_deedOf_J51 rec k vT_deedCount fT_doers fT_sorts fT_whichs x1 x2 x3 x4 s0) else if x2 = (2 : Int32) then (f_Ru_deedOf_J51 rec k vT_deedCount fT_doers fT_sorts fT_whichs x1 x2 x3 x4 s0) else f_Ru_deedOf_J62 rec k vT_deedCount fT_doers fT_sorts fT_whichs x1 x2 x3 x4 s0
def f_Ru_deedOf_J35 (rec : Int32 → Option ((Unit) ⊕ (Int32))) (k : Nat) (vT_deedCount : Int32) (fT_doers : Nat → Int32) (fT_sorts : Nat → Int32) (fT_whichs : Nat → Int32) (x1 : Int32) (x2 : Int32) (x3 : Int32) (x4 : Int32) : Option ((Unit) ⊕ (Int32)) := f_Ru_deedOf_J40 rec k vT_deedCount fT_doers fT_sorts fT_whichs x1 x2 x3 x4 (1 : Int32)
def f_Ru_deedOf_L3 (vT_deedCount : Int32) (fT_doers : Nat → Int32) (fT_sorts : Nat → Int32) (fT_whichs : Nat → Int32) (x1 : Int32) (x2 : Int32) (x3 : Int32) : Nat → Int32 → Option ((Unit) ⊕ (Int32))
  | 0, _ => none
  | k + 1, x4 => if vT_deedCount ≤ x4 then (some (.inl ())) else if (19 : Int32) ≤ x4 then (some (.inl ())) else if x2 = (4 : Int32) then (f_Ru_deedOf_J35 (f_Ru_deedOf_L3 vT_deedCount fT_doers fT_sorts fT_whichs x1 x2 x3 k) k vT_deedCount fT_doers fT_sorts fT_whichs x1 x2 x3 x4) else x_I 19 fT_doers x4 (fun v16 => if v16 = x1 then (f_Ru_deedOf_J35 (f_Ru_deedOf_L3 vT_deedCount fT_doers fT_sorts fT_whichs x1 x2 x3 k) k vT_deedCount fT_doers fT_sorts fT_whichs x1 x2 x3 x4) else f_Ru_deedOf_J40 (f_Ru_deedOf_L3 vT_deedCount fT_doers fT_sorts fT_whichs x1 x2 x3 k) k vT_deedCount fT_doers fT_sorts fT_whichs x1 x2 x3 x4 (0 : Int32))
def f_Ru_deedOf (k : Nat) (vT_deedCount : Int32) (fT_doers : Nat → Int32) (fT_sorts : Nat → Int32) (fT_whichs : Nat → Int32) (p1 : Int32) (p2 : Int32) (p3 : Int32) : Option (Int32) := x_S (f_Ru_deedOf_L3 vT_deedCount fT_doers fT_sorts fT_whichs p1 p2 p3 k (0 : Int32)) (fun _ => some (-1 : Int32)) (fun r9 => some r9)
set_option maxHeartbeats 8000000 in
set_option maxRecDepth 100000 in
theorem c_Ru_deedOf (l : Launch) (G : GG) (aT aT_masks aT_values aT_askings aT_kissesNeeded aT_wakings aT_binders aT_curses aT_doers aT_sorts aT_whichs aT_bars aT_bits aT_kisses : Nat) (vT_people : Int32) (vT_spells : Int32) (vT_deedCount : Int32) (fT_doers : Nat → Int32) (fT_whichs : Nat → Int32) (fT_sorts : Nat → Int32) (k : Nat) (p1 : Int32) (p2 : Int32) (p3 : Int32) (r0 : Int32) (hev : f_Ru_deedOf k vT_deedCount fT_doers fT_sorts fT_whichs p1 p2 p3 = some r0) : RO l G yX4_deedOf cX4_deedOf 7 (some .int) 0 [.ref aT, .int p1, .int p2, .int p3] [(aT, .inr (2, [.int vT_people, .int vT_spells, .int vT_deedCount, .ref aT_masks, .ref aT_values, .ref aT_askings, .ref aT_kissesNeeded, .ref aT_wakings, .ref aT_binders, .ref aT_curses, .ref aT_doers, .ref aT_sorts, .ref aT_whichs, .ref aT_bars, .ref aT_bits, .ref aT_kisses])), (aT_doers, .inl (G.2.1, 19, .inl fT_doers)), (aT_whichs, .inl (G.2.1, 19, .inl fT_whichs)), (aT_sorts, .inl (G.2.1, 19, .inl fT_sorts))] (some (.int r0)) := by
  refine RO_of (by decide) (Nat.le_of_ble_eq_true rfl) ?_
  intro p e s m ar below meth c R Q H ls X hR hP hKK hS0 hl ret
  generalize hrs : r0 = rs at hev ret
  have hl : lv_has ls 7 [(0, .ref aT), (1, .int p1), (2, .int p2), (3, .int p3)] := hl
  obtain ⟨hx, hb, hml, hown, hts, hT⟩ := id X
  have hK := hKK.1
  have hw : ∀ w ∈ T0, w.before ar s = true := fun w h => hts w (hT w h)
  have i4 := fun w h => hT w (inT4 w h)
  unfold f_Ru_deedOf at hev
  refine lv_iconst (v := (0 : Int32)) hx hb dX4_deedOf_0 (by decide) ?_
  refine lv_istore (lv' := [(4, .int (0 : Int32)), (0, .ref aT), (1, .int p1), (2, .int p2), (3, .int p3)]) hx hb dX4_deedOf_1 hl (by decide) rfl (fun ls hl => ?_)
  have L3 : ∀ (x1 : Int32) (x2 : Int32) (x3 : Int32), ∀ (k : Nat) (x4 : Int32) (out : (Unit) ⊕ (Int32)), f_Ru_deedOf_L3 vT_deedCount fT_doers fT_sorts fT_whichs x1 x2 x3 k x4 = some out → (out = .inl () → ∀ (ls : Array Slot), lv_has ls 7 [] → W p l e R s m ar below meth c H [] 0 0 Q (F0 m 99 ls [])) → (∀ v, out = .inr v → v = rs) → ∀ (ls : Array Slot), lv_has ls 7 [(0, .ref aT), (1, .int x1), (2, .int x2), (3, .int x3), (4, .int x4)] → W p l e R s m ar below meth c H [] 0 0 Q (F0 m 3 ls []) := by
    intro x1 x2 x3 k
    induction k with
    | zero => intro x4 out hev; rw [f_Ru_deedOf_L3] at hev; cases hev
    | succ k ih =>
      intro x4 out hev hex hret ls hl
      rw [f_Ru_deedOf_L3] at hev
      have J93 : ∀ (x4 : Int32), ∀ (ls : Array Slot), f_Ru_deedOf_J93 (f_Ru_deedOf_L3 vT_deedCount fT_doers fT_sorts fT_whichs x1 x2 x3 k) k vT_deedCount fT_doers fT_sorts fT_whichs x1 x2 x3 x4 = some out → lv_has ls 7 [(0, .ref aT), (1, .int x1), (2, .int x2), (3, .int x3), (4, .int x4)] → W p l e R s m ar below meth c H [] 0 0 Q (F0 m 93 ls []) := by
        intro x4 ls hev hl
        unfold f_Ru_deedOf_J93 at hev
        obtain ⟨y1, ey1⟩ : ∃ y : Int32, y = x4 + (1 : Int32) := ⟨_, rfl⟩
        refine lv_iinc (v := y1) (lv' := [(4, .int y1), (0, .ref aT), (1, .int x1), (2, .int x2), (3, .int x3)]) hx hb dX4_deedOf_93 hl (k := 4) rfl (by rw [ey1]; rfl) (by decide) rfl (fun ls hl => ?_)
        replace hev := x_lt hev y1 ey1
        refine lv_goto (tgt := 3) hx hb dX4_deedOf_96 (by decide) ?_
        exact ih y1 _ hev hex hret ls (lv_sub hl [1, 2, 3, 4, 0] rfl)
      have J67 : ∀ (x4 : Int32) (x5 : Int32) (s0 : Int32), ∀ (ls : Array Slot), f_Ru_deedOf_J67 (f_Ru_deedOf_L3 vT_deedCount fT_doers fT_sorts fT_whichs x1 x2 x3 k) k vT_deedCount fT_doers fT_sorts fT_whichs x1 x2 x3 x4 x5 s0 = some out → lv_has ls 7 [(0, .ref aT), (1, .int x1), (2, .int x2), (3, .int x3), (4, .int x4), (5, .int x5)] → W p l e R s m ar below meth c H [] 0 0 Q (F0 m 67 ls [.int s0]) := by
        intro x4 x5 s0 ls hev hl
        unfold f_Ru_deedOf_J67 at hev
        refine lv_istore (lv' := [(6, .int s0), (0, .ref aT), (1, .int x1), (2, .int x2), (3, .int x3), (4, .int x4), (5, .int x5)]) hx hb dX4_deedOf_67 hl (by decide) rfl (fun ls hl => ?_)
        refine lv_aload_n hx hb dX4_deedOf_69 rfl (lv_at hl 1 rfl) ?_
        refine va_get (D := G.1) (ci := 2) (v := .ref aT_sorts) (C := RX4) (T := TX4) (N := 16) hx hb hts i4 hown hK hP 0 rfl rfl 11 (by decide) (hw _ u208) (fun _ h9 => h9) rfl dX4_deedOf_70 ?_
        refine lv_iload hx hb dX4_deedOf_73 (lv_at hl 5 rfl) ?_
        obtain ⟨h2, hev⟩ := x_ld hev
        refine va_iald hx hb hK hP 3 0 rfl rfl h2 dX4_deedOf_75 ?_
        refine lv_topi (fun v3 ev3 => ?_)
        replace hev := hev v3 ev3
        refine lv_iload_n hx hb dX4_deedOf_76 rfl (lv_at hl 3 rfl) ?_
        refine lv_icmp_ne (tgt := 93) hx hb dX4_deedOf_77 (by decide) (fun c4 => ?_) (fun c4 => ?_)
        · replace hev := x_f c4 hev
          exact J93 x4 ls hev (lv_sub hl [1, 2, 3, 4, 5] rfl)
        · replace hev := x_t c4 hev
          refine lv_iload hx hb dX4_deedOf_80 (lv_at hl 6 rfl) ?_
          refine lv_if_eq (tgt := 93) hx hb dX4_deedOf_82 (by decide) (fun c5 => ?_) (fun c5 => ?_)
          · replace hev := x_t c5 hev
            exact J93 x4 ls hev (lv_sub hl [1, 2, 3, 4, 5] rfl)
          · replace hev := x_f c5 hev
            refine lv_iload hx hb dX4_deedOf_85 (lv_at hl 0 rfl) ?_
            refine lv_if_eq (tgt := 93) hx hb dX4_deedOf_87 (by decide) (fun c6 => ?_) (fun c6 => ?_)
            · replace hev := x_t c6 hev
              exact J93 x4 ls hev (lv_sub hl [1, 2, 3, 4, 5] rfl)
            · replace hev := x_f c6 hev
              refine lv_iload hx hb dX4_deedOf_90 (lv_at hl 5 rfl) ?_
              exact ret _ _ _ dX4_deedOf_92 ((show narrow _ (.int x4) = .int x4 from rfl).trans (congrArg Value.int (hret _ (Option.some.inj hev).symm)))
      have J62 : ∀ (x4 : Int32) (x5 : Int32), ∀ (ls : Array Slot), f_Ru_deedOf_J62 (f_Ru_deedOf_L3 vT_deedCount fT_doers fT_sorts fT_whichs x1 x2 x3 k) k vT_deedCount fT_doers fT_sorts fT_whichs x1 x2 x3 x4 x5 = some out → lv_has ls 7 [(0, .ref aT), (1, .int x1), (2, .int x2), (3, .int x3), (4, .int x4), (5, .int x5)] → W p l e R s m ar below meth c H [] 0 0 Q (F0 m 62 ls []) := by
        intro x4 x5 ls hev hl
        unfold f_Ru_deedOf_J62 at hev
        refine lv_iconst (v := (1 : Int32)) hx hb dX4_deedOf_62 (by decide) ?_
        refine lv_goto (tgt := 67) hx hb dX4_deedOf_63 (by decide) ?_
        exact J67 x4 x5 (1 : Int32) ls hev (lv_sub hl [0, 1, 2, 3, 4, 5] rfl)
      have J51 : ∀ (x4 : Int32) (x5 : Int32), ∀ (ls : Array Slot), f_Ru_deedOf_J51 (f_Ru_deedOf_L3 vT_deedCount fT_doers fT_sorts fT_whichs x1 x2 x3 k) k vT_deedCount fT_doers fT_sorts fT_whichs x1 x2 x3 x4 x5 = some out → lv_has ls 7 [(0, .ref aT), (1, .int x1), (2, .int x2), (3, .int x3), (4, .int x4), (5, .int x5)] → W p l e R s m ar below meth c H [] 0 0 Q (F0 m 51 ls []) := by
        intro x4 x5 ls hev hl
        unfold f_Ru_deedOf_J51 at hev
        refine lv_aload_n hx hb dX4_deedOf_51 rfl (lv_at hl 0 rfl) ?_
        refine va_get (D := G.1) (ci := 2) (v := .ref aT_whichs) (C := RX4) (T := TX4) (N := 16) hx hb hts i4 hown hK hP 0 rfl rfl 12 (by decide) (hw _ u209) (fun _ h9 => h9) rfl dX4_deedOf_52 ?_
        refine lv_iload hx hb dX4_deedOf_55 (lv_at hl 4 rfl) ?_
        obtain ⟨h7, hev⟩ := x_ld hev
        refine va_iald hx hb hK hP 2 0 rfl rfl h7 dX4_deedOf_57 ?_
        refine lv_topi (fun v8 ev8 => ?_)
        replace hev := hev v8 ev8
        refine lv_iload_n hx hb dX4_deedOf_58 rfl (lv_at hl 3 rfl) ?_
        refine lv_icmp_ne (tgt := 66) hx hb dX4_deedOf_59 (by decide) (fun c9 => ?_) (fun c9 => ?_)
        · replace hev := x_f c9 hev
          refine lv_iconst (v := (0 : Int32)) hx hb dX4_deedOf_66 (by decide) ?_
          exact J67 x4 x5 (0 : Int32) ls hev (lv_sub hl [0, 1, 2, 3, 4, 5] rfl)
        · replace hev := x_t c9 hev
          exact J62 x4 x5 ls hev (lv_sub hl [0, 1, 2, 3, 4, 5] rfl)
      have J40 : ∀ (x4 : Int32) (s0 : Int32), ∀ (ls : Array Slot), f_Ru_deedOf_J40 (f_Ru_deedOf_L3 vT_deedCount fT_doers fT_sorts fT_whichs x1 x2 x3 k) k vT_deedCount fT_doers fT_sorts fT_whichs x1 x2 x3 x4 s0 = some out → lv_has ls 7 [(0, .ref aT), (1, .int x1), (2, .int x2), (3, .int x3), (4, .int x4)] → W p l e R s m ar below meth c H [] 0 0 Q (F0 m 40 ls [.int s0]) := by
        intro x4 s0 ls hev hl
        unfold f_Ru_deedOf_J40 at hev
        refine lv_istore (lv' := [(5, .int s0), (0, .ref aT), (1, .int x1), (2, .int x2), (3, .int x3), (4, .int x4)]) hx hb dX4_deedOf_40 hl (by decide) rfl (fun ls hl => ?_)
        refine lv_iload_n hx hb dX4_deedOf_42 rfl (lv_at hl 3 rfl) ?_
        refine lv_if_eq (tgt := 51) hx hb dX4_deedOf_43 (by decide) (fun c10 => ?_) (fun c10 => ?_)
        · replace hev := x_t c10 hev
          exact J51 x4 s0 ls hev (lv_sub hl [1, 2, 3, 4, 5, 0] rfl)
        · replace hev := x_f c10 hev
          refine lv_iload_n hx hb dX4_deedOf_46 rfl (lv_at hl 3 rfl) ?_
          refine lv_iconst (v := (2 : Int32)) hx hb dX4_deedOf_47 (by decide) ?_
          refine lv_icmp_ne (tgt := 62) hx hb dX4_deedOf_48 (by decide) (fun c11 => ?_) (fun c11 => ?_)
          · replace hev := x_f c11 hev
            exact J62 x4 s0 ls hev (lv_sub hl [1, 2, 3, 4, 5, 0] rfl)
          · replace hev := x_t c11 hev
            exact J51 x4 s0 ls hev (lv_sub hl [1, 2, 3, 4, 5, 0] rfl)
      have J35 : ∀ (x4 : Int32), ∀ (ls : Array Slot), f_Ru_deedOf_J35 (f_Ru_deedOf_L3 vT_deedCount fT_doers fT_sorts fT_whichs x1 x2 x3 k) k vT_deedCount fT_doers fT_sorts fT_whichs x1 x2 x3 x4 = some out → lv_has ls 7 [(0, .ref aT), (1, .int x1), (2, .int x2), (3, .int x3), (4, .int x4)] → W p l e R s m ar below meth c H [] 0 0 Q (F0 m 35 ls []) := by
        intro x4 ls hev hl
        unfold f_Ru_deedOf_J35 at hev
        refine lv_iconst (v := (1 : Int32)) hx hb dX4_deedOf_35 (by decide) ?_
        refine lv_goto (tgt := 40) hx hb dX4_deedOf_36 (by decide) ?_
        exact J40 x4 (1 : Int32) ls hev (lv_sub hl [0, 1, 2, 3, 4] rfl)
      refine lv_iload hx hb dX4_deedOf_3 (lv_at hl 4 rfl) ?_
      refine lv_aload_n hx hb dX4_deedOf_5 rfl (lv_at hl 0 rfl) ?_
      refine va_get (D := G.1) (ci := 2) (v := .int vT_deedCount) (C := RX4) (T := TX4) (N := 16) hx hb hts i4 hown hK hP 0 rfl rfl 2 (by decide) (hw _ u199) (fun _ h9 => h9) rfl dX4_deedOf_6 ?_
      refine lv_icmp_ge (tgt := 99) hx hb dX4_deedOf_9 (by decide) (fun c12 => ?_) (fun c12 => ?_)
      · replace hev := x_t c12 hev
        exact hex  (Option.some.inj hev).symm ls (lv_sub hl [] rfl)
      · replace hev := x_f c12 hev
        refine lv_iload hx hb dX4_deedOf_12 (lv_at hl 4 rfl) ?_
        refine lv_bipush (v := (19 : Int32)) hx hb dX4_deedOf_14 (by decide) ?_
        refine lv_icmp_ge (tgt := 99) hx hb dX4_deedOf_16 (by decide) (fun c13 => ?_) (fun c13 => ?_)
        · replace hev := x_t c13 hev
          exact hex  (Option.some.inj hev).symm ls (lv_sub hl [] rfl)
        · replace hev := x_f c13 hev
          refine lv_iload_n hx hb dX4_deedOf_19 rfl (lv_at hl 2 rfl) ?_
          refine lv_iconst (v := (4 : Int32)) hx hb dX4_deedOf_20 (by decide) ?_
          refine lv_icmp_eq (tgt := 35) hx hb dX4_deedOf_21 (by decide) (fun c14 => ?_) (fun c14 => ?_)
          · replace hev := x_t c14 hev
            exact J35 x4 ls hev (lv_sub hl [0, 1, 2, 3, 4] rfl)
          · replace hev := x_f c14 hev
            refine lv_aload_n hx hb dX4_deedOf_24 rfl (lv_at hl 0 rfl) ?_
            refine va_get (D := G.1) (ci := 2) (v := .ref aT_doers) (C := RX4) (T := TX4) (N := 16) hx hb hts i4 hown hK hP 0 rfl rfl 10 (by decide) (hw _ u207) (fun _ h9 => h9) rfl dX4_deedOf_25 ?_
            refine lv_iload hx hb dX4_deedOf_28 (lv_at hl 4 rfl) ?_
            obtain ⟨h15, hev⟩ := x_ld hev
            refine va_iald hx hb hK hP 1 0 rfl rfl h15 dX4_deedOf_30 ?_
            refine lv_topi (fun v16 ev16 => ?_)
            replace hev := hev v16 ev16
            refine lv_iload_n hx hb dX4_deedOf_31 rfl (lv_at hl 1 rfl) ?_
            refine lv_icmp_ne (tgt := 39) hx hb dX4_deedOf_32 (by decide) (fun c17 => ?_) (fun c17 => ?_)
            · replace hev := x_f c17 hev
              refine lv_iconst (v := (0 : Int32)) hx hb dX4_deedOf_39 (by decide) ?_
              exact J40 x4 (0 : Int32) ls hev (lv_sub hl [0, 1, 2, 3, 4] rfl)
            · replace hev := x_t c17 hev
              exact J35 x4 ls hev (lv_sub hl [0, 1, 2, 3, 4] rfl)
  rcases x_sd hev with ⟨q9, hq, hev⟩ | ⟨q9, hq, hev⟩
  · refine L3 p1 p2 p3 k (0 : Int32) (.inl q9) hq ?_ (fun v he => by cases he) ls (lv_sub hl [1, 2, 3, 4, 0] rfl)
    intro  he ls hl
    refine lv_iconst (v := (-1 : Int32)) hx hb dX4_deedOf_99 (by decide) ?_
    exact ret _ _ _ dX4_deedOf_100 ((show narrow _ (.int (-1 : Int32)) = .int (-1 : Int32) from rfl).trans (congrArg Value.int (Option.some.inj hev)))
  · refine L3 p1 p2 p3 k (0 : Int32) (.inr q9) hq (fun he => by cases he) (fun v he => ?_) ls (lv_sub hl [1, 2, 3, 4, 0] rfl)
    rw [← Sum.inr.inj he]
    exact Option.some.inj hev
def f_Ru_after_J198 (k : Nat) (vT_deedCount : Int32) (vT_spells : Int32) (fT_askings : Nat → Int32) (fT_bars : Nat → Int32) (fT_bits : Nat → Int32) (fT_kisses : Nat → Int32) (fT_kissesNeeded : Nat → Int32) (fT_masks : Nat → Int32) (fT_sorts : Nat → Int32) (fT_values : Nat → Int32) (fT_wakings : Nat → Int32) (x3 : Int32) (x6 : Int32) : Option (Int32) := some (x3 ||| (x6 <<< ((16 : Int32) &&& 31)))
def f_Ru_after_J192 (rec : Int32 → Int32 → Int32 → Option (Int32 × Int32)) (k : Nat) (vT_deedCount : Int32) (vT_spells : Int32) (fT_askings : Nat → Int32) (fT_bars : Nat → Int32) (fT_bits : Nat → Int32) (fT_kisses : Nat → Int32) (fT_kissesNeeded : Nat → Int32) (fT_masks : Nat → Int32) (fT_sorts : Nat → Int32) (fT_values : Nat → Int32) (fT_wakings : Nat → Int32) (x3 : Int32) (x4 : Int32) (x5 : Int32) (x6 : Int32) (x7 : Int32) : Option (Int32 × Int32) := x_L (x7 + (1 : Int32)) (fun y4 => rec x3 x6 y4)
def f_Ru_after_J166 (rec : Int32 → Int32 → Int32 → Option (Int32 × Int32)) (k : Nat) (vT_deedCount : Int32) (vT_spells : Int32) (fT_askings : Nat → Int32) (fT_bars : Nat → Int32) (fT_bits : Nat → Int32) (fT_kisses : Nat → Int32) (fT_kissesNeeded : Nat → Int32) (fT_masks : Nat → Int32) (fT_sorts : Nat → Int32) (fT_values : Nat → Int32) (fT_wakings : Nat → Int32) (x3 : Int32) (x4 : Int32) (x5 : Int32) (x6 : Int32) (x7 : Int32) : Option (Int32 × Int32) := x_I 5 fT_wakings x7 (fun v6 => x_L (((x3 &&& (((1 : Int32) <<< (x7 &&& 31)) ^^^ (-1 : Int32))) ||| v6)) (fun y7 => x_L ((x6 ||| ((1 : Int32) <<< (x7 &&& 31)))) (fun y8 => f_Ru_after_J192 rec k vT_deedCount vT_spells fT_askings fT_bars fT_bits fT_kisses fT_kissesNeeded fT_masks fT_sorts fT_values fT_wakings y7 x4 x5 y8 x7)))
def f_Ru_after_L98 (vT_deedCount : Int32) (vT_spells : Int32) (fT_askings : Nat → Int32) (fT_bars : Nat → Int32) (fT_bits : Nat → Int32) (fT_kisses : Nat → Int32) (fT_kissesNeeded : Nat → Int32) (fT_masks : Nat → Int32) (fT_sorts : Nat → Int32) (fT_values : Nat → Int32) (fT_wakings : Nat → Int32) (x4 : Int32) (x5 : Int32) : Nat → Int32 → Int32 → Int32 → Option (Int32 × Int32)
  | 0, _, _, _ => none
  | k + 1, x3, x6, x7 => if vT_spells ≤ x7 then (some (x3, x6)) else if (5 : Int32) ≤ x7 then (some (x3, x6)) else x_I 5 fT_masks x7 (fun v12 => x_I 5 fT_values x7 (fun v14 => if (x3 &&& v12) = v14 then (x_I 5 fT_askings x7 (fun v17 => if x5 < v17 then (f_Ru_after_J192 (f_Ru_after_L98 vT_deedCount vT_spells fT_askings fT_bars fT_bits fT_kisses fT_kissesNeeded fT_masks fT_sorts fT_values fT_wakings x4 x5 k) k vT_deedCount vT_spells fT_askings fT_bars fT_bits fT_kisses fT_kissesNeeded fT_masks fT_sorts fT_values fT_wakings x3 x4 x5 x6 x7) else x_I 5 fT_kissesNeeded x7 (fun v20 => if v20 = 0 then (f_Ru_after_J166 (f_Ru_after_L98 vT_deedCount vT_spells fT_askings fT_bars fT_bits fT_kisses fT_kissesNeeded fT_masks fT_sorts fT_values fT_wakings x4 x5 k) k vT_deedCount vT_spells fT_askings fT_bars fT_bits fT_kisses fT_kissesNeeded fT_masks fT_sorts fT_values fT_wakings x3 x4 x5 x6 x7) else x_I 5 fT_kissesNeeded x7 (fun v23 => if v23 = x4 then (f_Ru_after_J166 (f_Ru_after_L98 vT_deedCount vT_spells fT_askings fT_bars fT_bits fT_kisses fT_kissesNeeded fT_masks fT_sorts fT_values fT_wakings x4 x5 k) k vT_deedCount vT_spells fT_askings fT_bars fT_bits fT_kisses fT_kissesNeeded fT_masks fT_sorts fT_values fT_wakings x3 x4 x5 x6 x7) else f_Ru_after_J192 (f_Ru_after_L98 vT_deedCount vT_spells fT_askings fT_bars fT_bits fT_kisses fT_kissesNeeded fT_masks fT_sorts fT_values fT_wakings x4 x5 k) k vT_deedCount vT_spells fT_askings fT_bars fT_bits fT_kisses fT_kissesNeeded fT_masks fT_sorts fT_values fT_wakings x3 x4 x5 x6 x7)))) else f_Ru_after_J192 (f_Ru_after_L98 vT_deedCount vT_spells fT_askings fT_bars fT_bits fT_kisses fT_kissesNeeded fT_masks fT_sorts fT_values fT_wakings x4 x5 k) k vT_deedCount vT_spells fT_askings fT_bars fT_bits fT_kisses fT_kissesNeeded fT_masks fT_sorts fT_values fT_wakings x3 x4 x5 x6 x7))
def f_Ru_after_J77 (k : Nat) (vT_deedCount : Int32) (vT_spells : Int32) (fT_askings : Nat → Int32) (fT_bars : Nat → Int32) (fT_bits : Nat → Int32) (fT_kisses : Nat → Int32) (fT_kissesNeeded : Nat → Int32) (fT_masks : Nat → Int32) (fT_sorts : Nat → Int32) (fT_values : Nat → Int32) (fT_wakings : Nat → Int32) (x2 : Int32) (s0 : Int32) : Option (Int32) := x_I 19 fT_kisses x2 (fun v2 => x_B (f_St_asked s0) (fun y3 => x_B (f_Ru_after_L98 vT_deedCount vT_spells fT_askings fT_bars fT_bits fT_kisses fT_kissesNeeded fT_masks fT_sorts fT_values fT_wakings v2 y3 k s0 (0 : Int32) (0 : Int32)) (fun ⟨y25, y26⟩ => f_Ru_after_J198 k vT_deedCount vT_spells fT_askings fT_bars fT_bits fT_kisses fT_kissesNeeded fT_masks fT_sorts fT_values fT_wakings y25 y26)))
def f_Ru_after_J52 (k : Nat) (vT_deedCount : Int32) (vT_spells : Int32) (fT_askings : Nat → Int32) (fT_bars : Nat → Int32) (fT_bits : Nat → Int32) (fT_kisses : Nat → Int32) (fT_kissesNeeded : Nat → Int32) (fT_masks : Nat → Int32) (fT_sorts : Nat → Int32) (fT_values : Nat → Int32) (fT_wakings : Nat → Int32) (x1 : Int32) (x2 : Int32) : Option (Int32) := x_I 19 fT_sorts x2 (fun v28 => if v28 = (4 : Int32) then (x_B (f_St_nextDay x1) (fun y32 => f_Ru_after_J77 k vT_deedCount vT_spells fT_askings fT_bars fT_bits fT_kisses fT_kissesNeeded fT_masks fT_sorts fT_values fT_wakings x2 y32)) else x_I 19 fT_bits x2 (fun v31 => f_Ru_after_J77 k vT_deedCount vT_spells fT_askings fT_bars fT_bits fT_kisses fT_kissesNeeded fT_masks fT_sorts fT_values fT_wakings x2 (x1 + v31)))
def f_Ru_after (k : Nat) (vT_deedCount : Int32) (vT_spells : Int32) (fT_askings : Nat → Int32) (fT_bars : Nat → Int32) (fT_bits : Nat → Int32) (fT_kisses : Nat → Int32) (fT_kissesNeeded : Nat → Int32) (fT_masks : Nat → Int32) (fT_sorts : Nat → Int32) (fT_values : Nat → Int32) (fT_wakings : Nat → Int32) (p1 : Int32) (p2 : Int32) : Option (Int32) := if p2 < 0 then (some (-1 : Int32)) else if vT_deedCount ≤ p2 then (some (-1 : Int32)) else if (19 : Int32) ≤ p2 then (some (-1 : Int32)) else x_I 19 fT_bars p2 (fun v37 => if (p1 &&& v37) = 0 then (x_I 19 fT_sorts p2 (fun v40 => if v40 = (3 : Int32) then (x_B (f_St_asked p1) (fun y42 => if y42 < (7 : Int32) then (f_Ru_after_J52 k vT_deedCount vT_spells fT_askings fT_bars fT_bits fT_kisses fT_kissesNeeded fT_masks fT_sorts fT_values fT_wakings p1 p2) else some (-1 : Int32))) else f_Ru_after_J52 k vT_deedCount vT_spells fT_askings fT_bars fT_bits fT_kisses fT_kissesNeeded fT_masks fT_sorts fT_values fT_wakings p1 p2)) else some (-1 : Int32))
set_option maxHeartbeats 8000000 in
set_option maxRecDepth 100000 in
theorem c_Ru_after (l : Launch) (G : GG) (aT aT_masks aT_values aT_askings aT_kissesNeeded aT_wakings aT_binders aT_curses aT_doers aT_sorts aT_whichs aT_bars aT_bits aT_kisses : Nat) (vT_people : Int32) (vT_spells : Int32) (vT_deedCount : Int32) (fT_bars : Nat → Int32) (fT_sorts : Nat → Int32) (fT_kisses : Nat → Int32) (fT_masks : Nat → Int32) (fT_values : Nat → Int32) (fT_askings : Nat → Int32) (fT_kissesNeeded : Nat → Int32) (fT_wakings : Nat → Int32) (fT_bits : Nat → Int32) (k : Nat) (p1 : Int32) (p2 : Int32) (r0 : Int32) (hev : f_Ru_after k vT_deedCount vT_spells fT_askings fT_bars fT_bits fT_kisses fT_kissesNeeded fT_masks fT_sorts fT_values fT_wakings p1 p2 = some r0) : RO l G yX4_after cX4_after 8 (some .int) 1 [.ref aT, .int p1, .int p2] [(aT, .inr (2, [.int vT_people, .int vT_spells, .int vT_deedCount, .ref aT_masks, .ref aT_values, .ref aT_askings, .ref aT_kissesNeeded, .ref aT_wakings, .ref aT_binders, .ref aT_curses, .ref aT_doers, .ref aT_sorts, .ref aT_whichs, .ref aT_bars, .ref aT_bits, .ref aT_kisses])), (aT_bars, .inl (G.2.1, 19, .inl fT_bars)), (aT_sorts, .inl (G.2.1, 19, .inl fT_sorts)), (aT_kisses, .inl (G.2.1, 19, .inl fT_kisses)), (aT_masks, .inl (G.2.1, 5, .inl fT_masks)), (aT_values, .inl (G.2.1, 5, .inl fT_values)), (aT_askings, .inl (G.2.1, 5, .inl fT_askings)), (aT_kissesNeeded, .inl (G.2.1, 5, .inl fT_kissesNeeded)), (aT_wakings, .inl (G.2.1, 5, .inl fT_wakings)), (aT_bits, .inl (G.2.1, 19, .inl fT_bits))] (some (.int r0)) := by
  refine RO_of (by decide) (Nat.le_of_ble_eq_true rfl) ?_
  intro p e s m ar below meth c R Q H ls X hR hP hKK hS0 hl ret
  generalize hrs : r0 = rs at hev ret
  have hl : lv_has ls 8 [(0, .ref aT), (1, .int p1), (2, .int p2)] := hl
  obtain ⟨hx, hb, hml, hown, hts, hT⟩ := id X
  have hK := hKK.1
  have hw : ∀ w ∈ T0, w.before ar s = true := fun w h => hts w (hT w h)
  have i4 := fun w h => hT w (inT4 w h)
  have J198 : ∀ (x3 : Int32) (x6 : Int32), ∀ (ls : Array Slot), f_Ru_after_J198 k vT_deedCount vT_spells fT_askings fT_bars fT_bits fT_kisses fT_kissesNeeded fT_masks fT_sorts fT_values fT_wakings x3 x6 = some rs → lv_has ls 8 [(3, .int x3), (6, .int x6)] → W p l e R s m ar below meth c H [] 0 0 Q (F0 m 198 ls []) := by
    intro x3 x6 ls hev hl
    unfold f_Ru_after_J198 at hev
    refine lv_iload_n hx hb dX4_after_198 rfl (lv_at hl 0 rfl) ?_
    refine lv_iload hx hb dX4_after_199 (lv_at hl 1 rfl) ?_
    refine lv_bipush (v := (16 : Int32)) hx hb dX4_after_201 (by decide) ?_
    refine lv_ishl hx hb dX4_after_203 ?_
    refine lv_ior hx hb dX4_after_204 ?_
    exact ret _ _ _ dX4_after_205 ((show narrow _ (.int (x3 ||| (x6 <<< ((16 : Int32) &&& 31)))) = .int (x3 ||| (x6 <<< ((16 : Int32) &&& 31))) from rfl).trans (congrArg Value.int (Option.some.inj hev)))
  have J77 : ∀ (x2 : Int32) (s0 : Int32), ∀ (ls : Array Slot), f_Ru_after_J77 k vT_deedCount vT_spells fT_askings fT_bars fT_bits fT_kisses fT_kissesNeeded fT_masks fT_sorts fT_values fT_wakings x2 s0 = some rs → lv_has ls 8 [(0, .ref aT), (2, .int x2)] → W p l e R s m ar below meth c H [] 0 0 Q (F0 m 77 ls [.int s0]) := by
    intro x2 s0 ls hev hl
    unfold f_Ru_after_J77 at hev
    refine lv_istore_n (lv' := [(3, .int s0), (0, .ref aT), (2, .int x2)]) hx hb dX4_after_77 rfl hl (by decide) rfl (fun ls hl => ?_)
    refine lv_aload_n hx hb dX4_after_78 rfl (lv_at hl 1 rfl) ?_
    refine va_get (D := G.1) (ci := 2) (v := .ref aT_kisses) (C := RX4) (T := TX4) (N := 16) hx hb hts i4 hown hK hP 0 rfl rfl 15 (by decide) (hw _ u212) (fun _ h9 => h9) rfl dX4_after_79 ?_
    refine lv_iload_n hx hb dX4_after_82 rfl (lv_at hl 2 rfl) ?_
    obtain ⟨h1, hev⟩ := x_ld hev
    refine va_iald hx hb hK hP 3 0 rfl rfl h1 dX4_after_83 ?_
    refine lv_topi (fun v2 ev2 => ?_)
    replace hev := hev v2 ev2
    refine lv_istore (lv' := [(4, .int v2), (3, .int s0), (0, .ref aT), (2, .int x2)]) hx hb dX4_after_84 hl (by decide) rfl (fun ls hl => ?_)
    refine lv_iload_n hx hb dX4_after_86 rfl (lv_at hl 1 rfl) ?_
    obtain ⟨y3, hq, hev⟩ := x_bd hev
    refine roS X hKK hR (st1 := [.int y3]) (c_St_asked l G s0 y3 hq) K_X6_asked u739 (x_Psub hP [] rfl) (by decide) ⟨Nat.zero_le _, Nat.zero_le _⟩ rfl hl.1 rfl (Nat.le_of_ble_eq_true rfl) rfl dX4_after_87 ?_
    refine lv_istore (lv' := [(5, .int y3), (4, .int v2), (3, .int s0), (0, .ref aT), (2, .int x2)]) hx hb dX4_after_90 hl (by decide) rfl (fun ls hl => ?_)
    refine lv_iconst (v := (0 : Int32)) hx hb dX4_after_92 (by decide) ?_
    refine lv_istore (lv' := [(6, .int (0 : Int32)), (5, .int y3), (4, .int v2), (3, .int s0), (0, .ref aT), (2, .int x2)]) hx hb dX4_after_93 hl (by decide) rfl (fun ls hl => ?_)
    refine lv_iconst (v := (0 : Int32)) hx hb dX4_after_95 (by decide) ?_
    refine lv_istore (lv' := [(7, .int (0 : Int32)), (6, .int (0 : Int32)), (5, .int y3), (4, .int v2), (3, .int s0), (0, .ref aT), (2, .int x2)]) hx hb dX4_after_96 hl (by decide) rfl (fun ls hl => ?_)
    have L98 : ∀ (x4 : Int32) (x5 : Int32), ∀ (k : Nat) (x3 : Int32) (x6 : Int32) (x7 : Int32) (o3 : Int32) (o6 : Int32), f_Ru_after_L98 vT_deedCount vT_spells fT_askings fT_bars fT_bits fT_kisses fT_kissesNeeded fT_masks fT_sorts fT_values fT_wakings x4 x5 k x3 x6 x7 = some (o3, o6) → (∀ (ls : Array Slot), lv_has ls 8 [(3, .int o3), (6, .int o6)] → W p l e R s m ar below meth c H [] 0 0 Q (F0 m 198 ls [])) → ∀ (ls : Array Slot), lv_has ls 8 [(0, .ref aT), (3, .int x3), (4, .int x4), (5, .int x5), (6, .int x6), (7, .int x7)] → W p l e R s m ar below meth c H [] 0 0 Q (F0 m 98 ls []) := by
      intro x4 x5 k
      induction k with
      | zero => intro x3 x6 x7 o3 o6 hev; rw [f_Ru_after_L98] at hev; cases hev
      | succ k ih =>
        intro x3 x6 x7 o3 o6 hev hex ls hl
        rw [f_Ru_after_L98] at hev
        have J192 : ∀ (x3 : Int32) (x6 : Int32) (x7 : Int32), ∀ (ls : Array Slot), f_Ru_after_J192 (f_Ru_after_L98 vT_deedCount vT_spells fT_askings fT_bars fT_bits fT_kisses fT_kissesNeeded fT_masks fT_sorts fT_values fT_wakings x4 x5 k) k vT_deedCount vT_spells fT_askings fT_bars fT_bits fT_kisses fT_kissesNeeded fT_masks fT_sorts fT_values fT_wakings x3 x4 x5 x6 x7 = some (o3, o6) → lv_has ls 8 [(0, .ref aT), (3, .int x3), (4, .int x4), (5, .int x5), (6, .int x6), (7, .int x7)] → W p l e R s m ar below meth c H [] 0 0 Q (F0 m 192 ls []) := by
          intro x3 x6 x7 ls hev hl
          unfold f_Ru_after_J192 at hev
          obtain ⟨y4, ey4⟩ : ∃ y : Int32, y = x7 + (1 : Int32) := ⟨_, rfl⟩
          refine lv_iinc (v := y4) (lv' := [(7, .int y4), (0, .ref aT), (3, .int x3), (4, .int x4), (5, .int x5), (6, .int x6)]) hx hb dX4_after_192 hl (k := 5) rfl (by rw [ey4]; rfl) (by decide) rfl (fun ls hl => ?_)
          replace hev := x_lt hev y4 ey4
          refine lv_goto (tgt := 98) hx hb dX4_after_195 (by decide) ?_
          exact ih x3 x6 y4 _ _ hev hex ls (lv_sub hl [1, 2, 3, 4, 5, 0] rfl)
        have J166 : ∀ (x3 : Int32) (x6 : Int32) (x7 : Int32), ∀ (ls : Array Slot), f_Ru_after_J166 (f_Ru_after_L98 vT_deedCount vT_spells fT_askings fT_bars fT_bits fT_kisses fT_kissesNeeded fT_masks fT_sorts fT_values fT_wakings x4 x5 k) k vT_deedCount vT_spells fT_askings fT_bars fT_bits fT_kisses fT_kissesNeeded fT_masks fT_sorts fT_values fT_wakings x3 x4 x5 x6 x7 = some (o3, o6) → lv_has ls 8 [(0, .ref aT), (3, .int x3), (4, .int x4), (5, .int x5), (6, .int x6), (7, .int x7)] → W p l e R s m ar below meth c H [] 0 0 Q (F0 m 166 ls []) := by
          intro x3 x6 x7 ls hev hl
          unfold f_Ru_after_J166 at hev
          refine lv_iload_n hx hb dX4_after_166 rfl (lv_at hl 1 rfl) ?_
          refine lv_iconst (v := (1 : Int32)) hx hb dX4_after_167 (by decide) ?_
          refine lv_iload hx hb dX4_after_168 (lv_at hl 5 rfl) ?_
          refine lv_ishl hx hb dX4_after_170 ?_
          refine lv_iconst (v := (-1 : Int32)) hx hb dX4_after_171 (by decide) ?_
          refine lv_ixor hx hb dX4_after_172 ?_
          refine lv_iand hx hb dX4_after_173 ?_
          refine lv_aload_n hx hb dX4_after_174 rfl (lv_at hl 0 rfl) ?_
          refine va_get (D := G.1) (ci := 2) (v := .ref aT_wakings) (C := RX4) (T := TX4) (N := 16) hx hb hts i4 hown hK hP 0 rfl rfl 7 (by decide) (hw _ u204) (fun _ h9 => h9) rfl dX4_after_175 ?_
          refine lv_iload hx hb dX4_after_178 (lv_at hl 5 rfl) ?_
          obtain ⟨h5, hev⟩ := x_ld hev
          refine va_iald hx hb hK hP 8 0 rfl rfl h5 dX4_after_180 ?_
          refine lv_topi (fun v6 ev6 => ?_)
          replace hev := hev v6 ev6
          refine lv_ior hx hb dX4_after_181 ?_
          refine lv_topi (fun y7 ey7 => ?_)
          replace hev := x_lt hev y7 ey7
          refine lv_istore_n (lv' := [(3, .int y7), (0, .ref aT), (4, .int x4), (5, .int x5), (6, .int x6), (7, .int x7)]) hx hb dX4_after_182 rfl hl (by decide) rfl (fun ls hl => ?_)
          refine lv_iload hx hb dX4_after_183 (lv_at hl 4 rfl) ?_
          refine lv_iconst (v := (1 : Int32)) hx hb dX4_after_185 (by decide) ?_
          refine lv_iload hx hb dX4_after_186 (lv_at hl 5 rfl) ?_
          refine lv_ishl hx hb dX4_after_188 ?_
          refine lv_ior hx hb dX4_after_189 ?_
          refine lv_topi (fun y8 ey8 => ?_)
          replace hev := x_lt hev y8 ey8
          refine lv_istore (lv' := [(6, .int y8), (3, .int y7), (0, .ref aT), (4, .int x4), (5, .int x5), (7, .int x7)]) hx hb dX4_after_190 hl (by decide) rfl (fun ls hl => ?_)
          exact J192 y7 y8 x7 ls hev (lv_sub hl [2, 1, 3, 4, 0, 5] rfl)
        refine lv_iload hx hb dX4_after_98 (lv_at hl 5 rfl) ?_
        refine lv_aload_n hx hb dX4_after_100 rfl (lv_at hl 0 rfl) ?_
        refine va_get (D := G.1) (ci := 2) (v := .int vT_spells) (C := RX4) (T := TX4) (N := 16) hx hb hts i4 hown hK hP 0 rfl rfl 1 (by decide) (hw _ u198) (fun _ h9 => h9) rfl dX4_after_101 ?_
        refine lv_icmp_ge (tgt := 198) hx hb dX4_after_104 (by decide) (fun c9 => ?_) (fun c9 => ?_)
        · replace hev := x_t c9 hev
          cases hev
          exact hex ls (lv_sub hl [1, 4] rfl)
        · replace hev := x_f c9 hev
          refine lv_iload hx hb dX4_after_107 (lv_at hl 5 rfl) ?_
          refine lv_iconst (v := (5 : Int32)) hx hb dX4_after_109 (by decide) ?_
          refine lv_icmp_ge (tgt := 198) hx hb dX4_after_110 (by decide) (fun c10 => ?_) (fun c10 => ?_)
          · replace hev := x_t c10 hev
            cases hev
            exact hex ls (lv_sub hl [1, 4] rfl)
          · replace hev := x_f c10 hev
            refine lv_iload_n hx hb dX4_after_113 rfl (lv_at hl 1 rfl) ?_
            refine lv_aload_n hx hb dX4_after_114 rfl (lv_at hl 0 rfl) ?_
            refine va_get (D := G.1) (ci := 2) (v := .ref aT_masks) (C := RX4) (T := TX4) (N := 16) hx hb hts i4 hown hK hP 0 rfl rfl 3 (by decide) (hw _ u200) (fun _ h9 => h9) rfl dX4_after_115 ?_
            refine lv_iload hx hb dX4_after_118 (lv_at hl 5 rfl) ?_
            obtain ⟨h11, hev⟩ := x_ld hev
            refine va_iald hx hb hK hP 4 0 rfl rfl h11 dX4_after_120 ?_
            refine lv_topi (fun v12 ev12 => ?_)
            replace hev := hev v12 ev12
            refine lv_iand hx hb dX4_after_121 ?_
            refine lv_aload_n hx hb dX4_after_122 rfl (lv_at hl 0 rfl) ?_
            refine va_get (D := G.1) (ci := 2) (v := .ref aT_values) (C := RX4) (T := TX4) (N := 16) hx hb hts i4 hown hK hP 0 rfl rfl 4 (by decide) (hw _ u201) (fun _ h9 => h9) rfl dX4_after_123 ?_
            refine lv_iload hx hb dX4_after_126 (lv_at hl 5 rfl) ?_
            obtain ⟨h13, hev⟩ := x_ld hev
            refine va_iald hx hb hK hP 5 0 rfl rfl h13 dX4_after_128 ?_
            refine lv_topi (fun v14 ev14 => ?_)
            replace hev := hev v14 ev14
            refine lv_icmp_ne (tgt := 192) hx hb dX4_after_129 (by decide) (fun c15 => ?_) (fun c15 => ?_)
            · replace hev := x_f c15 hev
              exact J192 x3 x6 x7 ls hev (lv_sub hl [0, 1, 2, 3, 4, 5] rfl)
            · replace hev := x_t c15 hev
              refine lv_iload hx hb dX4_after_132 (lv_at hl 3 rfl) ?_
              refine lv_aload_n hx hb dX4_after_134 rfl (lv_at hl 0 rfl) ?_
              refine va_get (D := G.1) (ci := 2) (v := .ref aT_askings) (C := RX4) (T := TX4) (N := 16) hx hb hts i4 hown hK hP 0 rfl rfl 5 (by decide) (hw _ u202) (fun _ h9 => h9) rfl dX4_after_135 ?_
              refine lv_iload hx hb dX4_after_138 (lv_at hl 5 rfl) ?_
              obtain ⟨h16, hev⟩ := x_ld hev
              refine va_iald hx hb hK hP 6 0 rfl rfl h16 dX4_after_140 ?_
              refine lv_topi (fun v17 ev17 => ?_)
              replace hev := hev v17 ev17
              refine lv_icmp_lt (tgt := 192) hx hb dX4_after_141 (by decide) (fun c18 => ?_) (fun c18 => ?_)
              · replace hev := x_t c18 hev
                exact J192 x3 x6 x7 ls hev (lv_sub hl [0, 1, 2, 3, 4, 5] rfl)
              · replace hev := x_f c18 hev
                refine lv_aload_n hx hb dX4_after_144 rfl (lv_at hl 0 rfl) ?_
                refine va_get (D := G.1) (ci := 2) (v := .ref aT_kissesNeeded) (C := RX4) (T := TX4) (N := 16) hx hb hts i4 hown hK hP 0 rfl rfl 6 (by decide) (hw _ u203) (fun _ h9 => h9) rfl dX4_after_145 ?_
                refine lv_iload hx hb dX4_after_148 (lv_at hl 5 rfl) ?_
                obtain ⟨h19, hev⟩ := x_ld hev
                refine va_iald hx hb hK hP 7 0 rfl rfl h19 dX4_after_150 ?_
                refine lv_topi (fun v20 ev20 => ?_)
                replace hev := hev v20 ev20
                refine lv_if_eq (tgt := 166) hx hb dX4_after_151 (by decide) (fun c21 => ?_) (fun c21 => ?_)
                · replace hev := x_t c21 hev
                  exact J166 x3 x6 x7 ls hev (lv_sub hl [0, 1, 2, 3, 4, 5] rfl)
                · replace hev := x_f c21 hev
                  refine lv_aload_n hx hb dX4_after_154 rfl (lv_at hl 0 rfl) ?_
                  refine va_get (D := G.1) (ci := 2) (v := .ref aT_kissesNeeded) (C := RX4) (T := TX4) (N := 16) hx hb hts i4 hown hK hP 0 rfl rfl 6 (by decide) (hw _ u203) (fun _ h9 => h9) rfl dX4_after_155 ?_
                  refine lv_iload hx hb dX4_after_158 (lv_at hl 5 rfl) ?_
                  obtain ⟨h22, hev⟩ := x_ld hev
                  refine va_iald hx hb hK hP 7 0 rfl rfl h22 dX4_after_160 ?_
                  refine lv_topi (fun v23 ev23 => ?_)
                  replace hev := hev v23 ev23
                  refine lv_iload hx hb dX4_after_161 (lv_at hl 2 rfl) ?_
                  refine lv_icmp_ne (tgt := 192) hx hb dX4_after_163 (by decide) (fun c24 => ?_) (fun c24 => ?_)
                  · replace hev := x_f c24 hev
                    exact J192 x3 x6 x7 ls hev (lv_sub hl [0, 1, 2, 3, 4, 5] rfl)
                  · replace hev := x_t c24 hev
                    exact J166 x3 x6 x7 ls hev (lv_sub hl [0, 1, 2, 3, 4, 5] rfl)
    obtain ⟨⟨y25, y26⟩, hq, hev⟩ := x_bd hev
    refine L98 v2 y3 k s0 (0 : Int32) (0 : Int32) y25 y26 hq (fun ls hl => ?_) ls (lv_sub hl [5, 4, 3, 2, 1, 0] rfl)
    exact J198 y25 y26 ls hev (lv_sub hl [0, 1] rfl)
  have J52 : ∀ (x1 : Int32) (x2 : Int32), ∀ (ls : Array Slot), f_Ru_after_J52 k vT_deedCount vT_spells fT_askings fT_bars fT_bits fT_kisses fT_kissesNeeded fT_masks fT_sorts fT_values fT_wakings x1 x2 = some rs → lv_has ls 8 [(0, .ref aT), (1, .int x1), (2, .int x2)] → W p l e R s m ar below meth c H [] 0 0 Q (F0 m 52 ls []) := by
    intro x1 x2 ls hev hl
    unfold f_Ru_after_J52 at hev
    refine lv_aload_n hx hb dX4_after_52 rfl (lv_at hl 0 rfl) ?_
    refine va_get (D := G.1) (ci := 2) (v := .ref aT_sorts) (C := RX4) (T := TX4) (N := 16) hx hb hts i4 hown hK hP 0 rfl rfl 11 (by decide) (hw _ u208) (fun _ h9 => h9) rfl dX4_after_53 ?_
    refine lv_iload_n hx hb dX4_after_56 rfl (lv_at hl 2 rfl) ?_
    obtain ⟨h27, hev⟩ := x_ld hev
    refine va_iald hx hb hK hP 2 0 rfl rfl h27 dX4_after_57 ?_
    refine lv_topi (fun v28 ev28 => ?_)
    replace hev := hev v28 ev28
    refine lv_iconst (v := (4 : Int32)) hx hb dX4_after_58 (by decide) ?_
    refine lv_icmp_ne (tgt := 69) hx hb dX4_after_59 (by decide) (fun c29 => ?_) (fun c29 => ?_)
    · replace hev := x_f c29 hev
      refine lv_iload_n hx hb dX4_after_69 rfl (lv_at hl 1 rfl) ?_
      refine lv_aload_n hx hb dX4_after_70 rfl (lv_at hl 0 rfl) ?_
      refine va_get (D := G.1) (ci := 2) (v := .ref aT_bits) (C := RX4) (T := TX4) (N := 16) hx hb hts i4 hown hK hP 0 rfl rfl 14 (by decide) (hw _ u211) (fun _ h9 => h9) rfl dX4_after_71 ?_
      refine lv_iload_n hx hb dX4_after_74 rfl (lv_at hl 2 rfl) ?_
      obtain ⟨h30, hev⟩ := x_ld hev
      refine va_iald hx hb hK hP 9 0 rfl rfl h30 dX4_after_75 ?_
      refine lv_topi (fun v31 ev31 => ?_)
      replace hev := hev v31 ev31
      refine lv_iadd hx hb dX4_after_76 ?_
      exact J77 x2 (x1 + v31) ls hev (lv_sub hl [0, 2] rfl)
    · replace hev := x_t c29 hev
      refine lv_iload_n hx hb dX4_after_62 rfl (lv_at hl 1 rfl) ?_
      obtain ⟨y32, hq, hev⟩ := x_bd hev
      refine roS X hKK hR (st1 := [.int y32]) (c_St_nextDay l G x1 y32 hq) K_X6_nextDay u740 (x_Psub hP [] rfl) (by decide) ⟨Nat.zero_le _, Nat.zero_le _⟩ rfl hl.1 rfl (Nat.le_of_ble_eq_true rfl) rfl dX4_after_63 ?_
      refine lv_goto (tgt := 77) hx hb dX4_after_66 (by decide) ?_
      exact J77 x2 y32 ls hev (lv_sub hl [0, 2] rfl)
  unfold f_Ru_after at hev
  refine lv_iload_n hx hb dX4_after_0 rfl (lv_at hl 2 rfl) ?_
  refine lv_if_lt (tgt := 29) hx hb dX4_after_1 (by decide) (fun c33 => ?_) (fun c33 => ?_)
  · replace hev := x_t c33 hev
    refine lv_iconst (v := (-1 : Int32)) hx hb dX4_after_29 (by decide) ?_
    exact ret _ _ _ dX4_after_30 ((show narrow _ (.int (-1 : Int32)) = .int (-1 : Int32) from rfl).trans (congrArg Value.int (Option.some.inj hev)))
  · replace hev := x_f c33 hev
    refine lv_iload_n hx hb dX4_after_4 rfl (lv_at hl 2 rfl) ?_
    refine lv_aload_n hx hb dX4_after_5 rfl (lv_at hl 0 rfl) ?_
    refine va_get (D := G.1) (ci := 2) (v := .int vT_deedCount) (C := RX4) (T := TX4) (N := 16) hx hb hts i4 hown hK hP 0 rfl rfl 2 (by decide) (hw _ u199) (fun _ h9 => h9) rfl dX4_after_6 ?_
    refine lv_icmp_ge (tgt := 29) hx hb dX4_after_9 (by decide) (fun c34 => ?_) (fun c34 => ?_)
    · replace hev := x_t c34 hev
      refine lv_iconst (v := (-1 : Int32)) hx hb dX4_after_29 (by decide) ?_
      exact ret _ _ _ dX4_after_30 ((show narrow _ (.int (-1 : Int32)) = .int (-1 : Int32) from rfl).trans (congrArg Value.int (Option.some.inj hev)))
    · replace hev := x_f c34 hev
      refine lv_iload_n hx hb dX4_after_12 rfl (lv_at hl 2 rfl) ?_
      refine lv_bipush (v := (19 : Int32)) hx hb dX4_after_13 (by decide) ?_
      refine lv_icmp_ge (tgt := 29) hx hb dX4_after_15 (by decide) (fun c35 => ?_) (fun c35 => ?_)
      · replace hev := x_t c35 hev
        refine lv_iconst (v := (-1 : Int32)) hx hb dX4_after_29 (by decide) ?_
        exact ret _ _ _ dX4_after_30 ((show narrow _ (.int (-1 : Int32)) = .int (-1 : Int32) from rfl).trans (congrArg Value.int (Option.some.inj hev)))
      · replace hev := x_f c35 hev
        refine lv_iload_n hx hb dX4_after_18 rfl (lv_at hl 1 rfl) ?_
        refine lv_aload_n hx hb dX4_after_19 rfl (lv_at hl 0 rfl) ?_
        refine va_get (D := G.1) (ci := 2) (v := .ref aT_bars) (C := RX4) (T := TX4) (N := 16) hx hb hts i4 hown hK hP 0 rfl rfl 13 (by decide) (hw _ u210) (fun _ h9 => h9) rfl dX4_after_20 ?_
        refine lv_iload_n hx hb dX4_after_23 rfl (lv_at hl 2 rfl) ?_
        obtain ⟨h36, hev⟩ := x_ld hev
        refine va_iald hx hb hK hP 1 0 rfl rfl h36 dX4_after_24 ?_
        refine lv_topi (fun v37 ev37 => ?_)
        replace hev := hev v37 ev37
        refine lv_iand hx hb dX4_after_25 ?_
        refine lv_if_eq (tgt := 31) hx hb dX4_after_26 (by decide) (fun c38 => ?_) (fun c38 => ?_)
        · replace hev := x_t c38 hev
          refine lv_aload_n hx hb dX4_after_31 rfl (lv_at hl 0 rfl) ?_
          refine va_get (D := G.1) (ci := 2) (v := .ref aT_sorts) (C := RX4) (T := TX4) (N := 16) hx hb hts i4 hown hK hP 0 rfl rfl 11 (by decide) (hw _ u208) (fun _ h9 => h9) rfl dX4_after_32 ?_
          refine lv_iload_n hx hb dX4_after_35 rfl (lv_at hl 2 rfl) ?_
          obtain ⟨h39, hev⟩ := x_ld hev
          refine va_iald hx hb hK hP 2 0 rfl rfl h39 dX4_after_36 ?_
          refine lv_topi (fun v40 ev40 => ?_)
          replace hev := hev v40 ev40
          refine lv_iconst (v := (3 : Int32)) hx hb dX4_after_37 (by decide) ?_
          refine lv_icmp_ne (tgt := 52) hx hb dX4_after_38 (by decide) (fun c41 => ?_) (fun c41 => ?_)
          · replace hev := x_f c41 hev
            exact J52 p1 p2 ls hev (lv_sub hl [0, 1, 2] rfl)
          · replace hev := x_t c41 hev
            refine lv_iload_n hx hb dX4_after_41 rfl (lv_at hl 1 rfl) ?_
            obtain ⟨y42, hq, hev⟩ := x_bd hev
            refine roS X hKK hR (st1 := [.int y42]) (c_St_asked l G p1 y42 hq) K_X6_asked u739 (x_Psub hP [] rfl) (by decide) ⟨Nat.zero_le _, Nat.zero_le _⟩ rfl hl.1 rfl (Nat.le_of_ble_eq_true rfl) rfl dX4_after_42 ?_
            refine lv_bipush (v := (7 : Int32)) hx hb dX4_after_45 (by decide) ?_
            refine lv_icmp_lt (tgt := 52) hx hb dX4_after_47 (by decide) (fun c43 => ?_) (fun c43 => ?_)
            · replace hev := x_t c43 hev
              exact J52 p1 p2 ls hev (lv_sub hl [0, 1, 2] rfl)
            · replace hev := x_f c43 hev
              refine lv_iconst (v := (-1 : Int32)) hx hb dX4_after_50 (by decide) ?_
              exact ret _ _ _ dX4_after_51 ((show narrow _ (.int (-1 : Int32)) = .int (-1 : Int32) from rfl).trans (congrArg Value.int (Option.some.inj hev)))
        · replace hev := x_f c38 hev
          refine lv_iconst (v := (-1 : Int32)) hx hb dX4_after_29 (by decide) ?_
          exact ret _ _ _ dX4_after_30 ((show narrow _ (.int (-1 : Int32)) = .int (-1 : Int32) from rfl).trans (congrArg Value.int (Option.some.inj hev)))
def f_Ru_mostStates_J25 (vT_people : Int32) (vT_spells : Int32) : Option (Int32) := some (57344 : Int32)
def f_Ru_mostStates (vT_people : Int32) (vT_spells : Int32) : Option (Int32) := x_L (((224 : Int32) <<< ((vT_people + vT_spells) &&& 31))) (fun y1 => if y1 < (1 : Int32) then (f_Ru_mostStates_J25 vT_people vT_spells) else if y1 ≤ (57344 : Int32) then (some y1) else f_Ru_mostStates_J25 vT_people vT_spells)
set_option maxHeartbeats 8000000 in
set_option maxRecDepth 100000 in
theorem c_Ru_mostStates (l : Launch) (G : GG) (aT aT_masks aT_values aT_askings aT_kissesNeeded aT_wakings aT_binders aT_curses aT_doers aT_sorts aT_whichs aT_bars aT_bits aT_kisses : Nat) (vT_people : Int32) (vT_spells : Int32) (vT_deedCount : Int32) (r0 : Int32) (hev : f_Ru_mostStates vT_people vT_spells = some r0) : RO l G yX4_mostStates cX4_mostStates 2 (some .int) 0 [.ref aT] [(aT, .inr (2, [.int vT_people, .int vT_spells, .int vT_deedCount, .ref aT_masks, .ref aT_values, .ref aT_askings, .ref aT_kissesNeeded, .ref aT_wakings, .ref aT_binders, .ref aT_curses, .ref aT_doers, .ref aT_sorts, .ref aT_whichs, .ref aT_bars, .ref aT_bits, .ref aT_kisses]))] (some (.int r0)) := by
  refine RO_of (by decide) (Nat.le_of_ble_eq_true rfl) ?_
  intro p e s m ar below meth c R Q H ls X hR hP hKK hS0 hl ret
  generalize hrs : r0 = rs at hev ret
  have hl : lv_has ls 2 [(0, .ref aT)] := hl
  obtain ⟨hx, hb, hml, hown, hts, hT⟩ := id X
  have hK := hKK.1
  have hw : ∀ w ∈ T0, w.before ar s = true := fun w h => hts w (hT w h)
  have i4 := fun w h => hT w (inT4 w h)
  have J25 : ∀ (ls : Array Slot), f_Ru_mostStates_J25 vT_people vT_spells = some rs → lv_has ls 2 [] → W p l e R s m ar below meth c H [] 0 0 Q (F0 m 25 ls []) := by
    intro  ls hev hl
    unfold f_Ru_mostStates_J25 at hev
    refine lv_ldc (v := (57344 : Int32)) hx hb hown (hw _ u809) dX4_mostStates_25 ?_
    refine lv_goto (tgt := 31) hx hb dX4_mostStates_27 (by decide) ?_
    exact ret _ _ _ dX4_mostStates_31 ((show narrow _ (.int (57344 : Int32)) = .int (57344 : Int32) from rfl).trans (congrArg Value.int (Option.some.inj hev)))
  unfold f_Ru_mostStates at hev
  refine lv_sipush (v := (224 : Int32)) hx hb dX4_mostStates_0 (by decide) ?_
  refine lv_aload_n hx hb dX4_mostStates_3 rfl (lv_at hl 0 rfl) ?_
  refine va_get (D := G.1) (ci := 2) (v := .int vT_people) (C := RX4) (T := TX4) (N := 16) hx hb hts i4 hown hK hP 0 rfl rfl 0 (by decide) (hw _ u197) (fun _ h9 => h9) rfl dX4_mostStates_4 ?_
  refine lv_aload_n hx hb dX4_mostStates_7 rfl (lv_at hl 0 rfl) ?_
  refine va_get (D := G.1) (ci := 2) (v := .int vT_spells) (C := RX4) (T := TX4) (N := 16) hx hb hts i4 hown hK hP 0 rfl rfl 1 (by decide) (hw _ u198) (fun _ h9 => h9) rfl dX4_mostStates_8 ?_
  refine lv_iadd hx hb dX4_mostStates_11 ?_
  refine lv_ishl hx hb dX4_mostStates_12 ?_
  refine lv_topi (fun y1 ey1 => ?_)
  replace hev := x_lt hev y1 ey1
  refine lv_istore_n (lv' := [(1, .int y1), (0, .ref aT)]) hx hb dX4_mostStates_13 rfl hl (by decide) rfl (fun ls hl => ?_)
  refine lv_iload_n hx hb dX4_mostStates_14 rfl (lv_at hl 0 rfl) ?_
  refine lv_iconst (v := (1 : Int32)) hx hb dX4_mostStates_15 (by decide) ?_
  refine lv_icmp_lt (tgt := 25) hx hb dX4_mostStates_16 (by decide) (fun c2 => ?_) (fun c2 => ?_)
  · replace hev := x_t c2 hev
    exact J25  ls hev (lv_sub hl [] rfl)
  · replace hev := x_f c2 hev
    refine lv_iload_n hx hb dX4_mostStates_19 rfl (lv_at hl 0 rfl) ?_
    refine lv_ldc (v := (57344 : Int32)) hx hb hown (hw _ u809) dX4_mostStates_20 ?_
    refine lv_icmp_le (tgt := 30) hx hb dX4_mostStates_22 (by decide) (fun c3 => ?_) (fun c3 => ?_)
    · replace hev := x_t c3 hev
      refine lv_iload_n hx hb dX4_mostStates_30 rfl (lv_at hl 0 rfl) ?_
      exact ret _ _ _ dX4_mostStates_31 ((show narrow _ (.int y1) = .int y1 from rfl).trans (congrArg Value.int (Option.some.inj hev)))
    · replace hev := x_f c3 hev
      exact J25  ls hev (lv_sub hl [] rfl)
def f_Ru_deedsBy_J47 (rec : Int32 → Int32 → Option (Int32)) (k : Nat) (vT_deedCount : Int32) (fT_doers : Nat → Int32) (x1 : Int32) (x2 : Int32) (x3 : Int32) : Option (Int32) := x_L (x3 + (1 : Int32)) (fun y1 => rec x2 y1)
def f_Ru_deedsBy_J41 (rec : Int32 → Int32 → Option (Int32)) (k : Nat) (vT_deedCount : Int32) (fT_doers : Nat → Int32) (x1 : Int32) (x2 : Int32) (x3 : Int32) : Option (Int32) := x_L ((x2 ||| ((1 : Int32) <<< (x3 &&& 31)))) (fun y2 => f_Ru_deedsBy_J47 rec k vT_deedCount fT_doers x1 y2 x3)
def f_Ru_deedsBy_L4 (vT_deedCount : Int32) (fT_doers : Nat → Int32) (x1 : Int32) : Nat → Int32 → Int32 → Option (Int32)
  | 0, _, _ => none
  | k + 1, x2, x3 => if vT_deedCount ≤ x3 then (some x2) else if (19 : Int32) ≤ x3 then (some x2) else x_I 19 fT_doers x3 (fun v6 => if v6 = (-1 : Int32) then (f_Ru_deedsBy_J41 (f_Ru_deedsBy_L4 vT_deedCount fT_doers x1 k) k vT_deedCount fT_doers x1 x2 x3) else x_I 19 fT_doers x3 (fun v9 => if ((x1 >>> (v9 &&& 31)) &&& (1 : Int32)) = 0 then (f_Ru_deedsBy_J47 (f_Ru_deedsBy_L4 vT_deedCount fT_doers x1 k) k vT_deedCount fT_doers x1 x2 x3) else f_Ru_deedsBy_J41 (f_Ru_deedsBy_L4 vT_deedCount fT_doers x1 k) k vT_deedCount fT_doers x1 x2 x3))
def f_Ru_deedsBy (k : Nat) (vT_deedCount : Int32) (fT_doers : Nat → Int32) (p1 : Int32) : Option (Int32) := x_B (f_Ru_deedsBy_L4 vT_deedCount fT_doers p1 k (0 : Int32) (0 : Int32)) (fun y11 => some y11)
set_option maxHeartbeats 8000000 in
set_option maxRecDepth 100000 in
theorem c_Ru_deedsBy (l : Launch) (G : GG) (aT aT_masks aT_values aT_askings aT_kissesNeeded aT_wakings aT_binders aT_curses aT_doers aT_sorts aT_whichs aT_bars aT_bits aT_kisses : Nat) (vT_people : Int32) (vT_spells : Int32) (vT_deedCount : Int32) (fT_doers : Nat → Int32) (k : Nat) (p1 : Int32) (r0 : Int32) (hev : f_Ru_deedsBy k vT_deedCount fT_doers p1 = some r0) : RO l G yX4_deedsBy cX4_deedsBy 4 (some .int) 0 [.ref aT, .int p1] [(aT, .inr (2, [.int vT_people, .int vT_spells, .int vT_deedCount, .ref aT_masks, .ref aT_values, .ref aT_askings, .ref aT_kissesNeeded, .ref aT_wakings, .ref aT_binders, .ref aT_curses, .ref aT_doers, .ref aT_sorts, .ref aT_whichs, .ref aT_bars, .ref aT_bits, .ref aT_kisses])), (aT_doers, .inl (G.2.1, 19, .inl fT_doers))] (some (.int r0)) := by
  refine RO_of (by decide) (Nat.le_of_ble_eq_true rfl) ?_
  intro p e s m ar below meth c R Q H ls X hR hP hKK hS0 hl ret
  generalize hrs : r0 = rs at hev ret
  have hl : lv_has ls 4 [(0, .ref aT), (1, .int p1)] := hl
  obtain ⟨hx, hb, hml, hown, hts, hT⟩ := id X
  have hK := hKK.1
  have hw : ∀ w ∈ T0, w.before ar s = true := fun w h => hts w (hT w h)
  have i4 := fun w h => hT w (inT4 w h)
  unfold f_Ru_deedsBy at hev
  refine lv_iconst (v := (0 : Int32)) hx hb dX4_deedsBy_0 (by decide) ?_
  refine lv_istore_n (lv' := [(2, .int (0 : Int32)), (0, .ref aT), (1, .int p1)]) hx hb dX4_deedsBy_1 rfl hl (by decide) rfl (fun ls hl => ?_)
  refine lv_iconst (v := (0 : Int32)) hx hb dX4_deedsBy_2 (by decide) ?_
  refine lv_istore_n (lv' := [(3, .int (0 : Int32)), (2, .int (0 : Int32)), (0, .ref aT), (1, .int p1)]) hx hb dX4_deedsBy_3 rfl hl (by decide) rfl (fun ls hl => ?_)
  have L4 : ∀ (x1 : Int32), ∀ (k : Nat) (x2 : Int32) (x3 : Int32) (o2 : Int32), f_Ru_deedsBy_L4 vT_deedCount fT_doers x1 k x2 x3 = some o2 → (∀ (ls : Array Slot), lv_has ls 4 [(2, .int o2)] → W p l e R s m ar below meth c H [] 0 0 Q (F0 m 53 ls [])) → ∀ (ls : Array Slot), lv_has ls 4 [(0, .ref aT), (1, .int x1), (2, .int x2), (3, .int x3)] → W p l e R s m ar below meth c H [] 0 0 Q (F0 m 4 ls []) := by
    intro x1 k
    induction k with
    | zero => intro x2 x3 o2 hev; rw [f_Ru_deedsBy_L4] at hev; cases hev
    | succ k ih =>
      intro x2 x3 o2 hev hex ls hl
      rw [f_Ru_deedsBy_L4] at hev
      have J47 : ∀ (x2 : Int32) (x3 : Int32), ∀ (ls : Array Slot), f_Ru_deedsBy_J47 (f_Ru_deedsBy_L4 vT_deedCount fT_doers x1 k) k vT_deedCount fT_doers x1 x2 x3 = some o2 → lv_has ls 4 [(0, .ref aT), (1, .int x1), (2, .int x2), (3, .int x3)] → W p l e R s m ar below meth c H [] 0 0 Q (F0 m 47 ls []) := by
        intro x2 x3 ls hev hl
        unfold f_Ru_deedsBy_J47 at hev
        obtain ⟨y1, ey1⟩ : ∃ y : Int32, y = x3 + (1 : Int32) := ⟨_, rfl⟩
        refine lv_iinc (v := y1) (lv' := [(3, .int y1), (0, .ref aT), (1, .int x1), (2, .int x2)]) hx hb dX4_deedsBy_47 hl (k := 3) rfl (by rw [ey1]; rfl) (by decide) rfl (fun ls hl => ?_)
        replace hev := x_lt hev y1 ey1
        refine lv_goto (tgt := 4) hx hb dX4_deedsBy_50 (by decide) ?_
        exact ih x2 y1 _ hev hex ls (lv_sub hl [1, 2, 3, 0] rfl)
      have J41 : ∀ (x2 : Int32) (x3 : Int32), ∀ (ls : Array Slot), f_Ru_deedsBy_J41 (f_Ru_deedsBy_L4 vT_deedCount fT_doers x1 k) k vT_deedCount fT_doers x1 x2 x3 = some o2 → lv_has ls 4 [(0, .ref aT), (1, .int x1), (2, .int x2), (3, .int x3)] → W p l e R s m ar below meth c H [] 0 0 Q (F0 m 41 ls []) := by
        intro x2 x3 ls hev hl
        unfold f_Ru_deedsBy_J41 at hev
        refine lv_iload_n hx hb dX4_deedsBy_41 rfl (lv_at hl 2 rfl) ?_
        refine lv_iconst (v := (1 : Int32)) hx hb dX4_deedsBy_42 (by decide) ?_
        refine lv_iload_n hx hb dX4_deedsBy_43 rfl (lv_at hl 3 rfl) ?_
        refine lv_ishl hx hb dX4_deedsBy_44 ?_
        refine lv_ior hx hb dX4_deedsBy_45 ?_
        refine lv_topi (fun y2 ey2 => ?_)
        replace hev := x_lt hev y2 ey2
        refine lv_istore_n (lv' := [(2, .int y2), (0, .ref aT), (1, .int x1), (3, .int x3)]) hx hb dX4_deedsBy_46 rfl hl (by decide) rfl (fun ls hl => ?_)
        exact J47 y2 x3 ls hev (lv_sub hl [1, 2, 0, 3] rfl)
      refine lv_iload_n hx hb dX4_deedsBy_4 rfl (lv_at hl 3 rfl) ?_
      refine lv_aload_n hx hb dX4_deedsBy_5 rfl (lv_at hl 0 rfl) ?_
      refine va_get (D := G.1) (ci := 2) (v := .int vT_deedCount) (C := RX4) (T := TX4) (N := 16) hx hb hts i4 hown hK hP 0 rfl rfl 2 (by decide) (hw _ u199) (fun _ h9 => h9) rfl dX4_deedsBy_6 ?_
      refine lv_icmp_ge (tgt := 53) hx hb dX4_deedsBy_9 (by decide) (fun c3 => ?_) (fun c3 => ?_)
      · replace hev := x_t c3 hev
        cases hev
        exact hex ls (lv_sub hl [2] rfl)
      · replace hev := x_f c3 hev
        refine lv_iload_n hx hb dX4_deedsBy_12 rfl (lv_at hl 3 rfl) ?_
        refine lv_bipush (v := (19 : Int32)) hx hb dX4_deedsBy_13 (by decide) ?_
        refine lv_icmp_ge (tgt := 53) hx hb dX4_deedsBy_15 (by decide) (fun c4 => ?_) (fun c4 => ?_)
        · replace hev := x_t c4 hev
          cases hev
          exact hex ls (lv_sub hl [2] rfl)
        · replace hev := x_f c4 hev
          refine lv_aload_n hx hb dX4_deedsBy_18 rfl (lv_at hl 0 rfl) ?_
          refine va_get (D := G.1) (ci := 2) (v := .ref aT_doers) (C := RX4) (T := TX4) (N := 16) hx hb hts i4 hown hK hP 0 rfl rfl 10 (by decide) (hw _ u207) (fun _ h9 => h9) rfl dX4_deedsBy_19 ?_
          refine lv_iload_n hx hb dX4_deedsBy_22 rfl (lv_at hl 3 rfl) ?_
          obtain ⟨h5, hev⟩ := x_ld hev
          refine va_iald hx hb hK hP 1 0 rfl rfl h5 dX4_deedsBy_23 ?_
          refine lv_topi (fun v6 ev6 => ?_)
          replace hev := hev v6 ev6
          refine lv_iconst (v := (-1 : Int32)) hx hb dX4_deedsBy_24 (by decide) ?_
          refine lv_icmp_eq (tgt := 41) hx hb dX4_deedsBy_25 (by decide) (fun c7 => ?_) (fun c7 => ?_)
          · replace hev := x_t c7 hev
            exact J41 x2 x3 ls hev (lv_sub hl [0, 1, 2, 3] rfl)
          · replace hev := x_f c7 hev
            refine lv_iload_n hx hb dX4_deedsBy_28 rfl (lv_at hl 1 rfl) ?_
            refine lv_aload_n hx hb dX4_deedsBy_29 rfl (lv_at hl 0 rfl) ?_
            refine va_get (D := G.1) (ci := 2) (v := .ref aT_doers) (C := RX4) (T := TX4) (N := 16) hx hb hts i4 hown hK hP 0 rfl rfl 10 (by decide) (hw _ u207) (fun _ h9 => h9) rfl dX4_deedsBy_30 ?_
            refine lv_iload_n hx hb dX4_deedsBy_33 rfl (lv_at hl 3 rfl) ?_
            obtain ⟨h8, hev⟩ := x_ld hev
            refine va_iald hx hb hK hP 1 0 rfl rfl h8 dX4_deedsBy_34 ?_
            refine lv_topi (fun v9 ev9 => ?_)
            replace hev := hev v9 ev9
            refine lv_ishr hx hb dX4_deedsBy_35 ?_
            refine lv_iconst (v := (1 : Int32)) hx hb dX4_deedsBy_36 (by decide) ?_
            refine lv_iand hx hb dX4_deedsBy_37 ?_
            refine lv_if_eq (tgt := 47) hx hb dX4_deedsBy_38 (by decide) (fun c10 => ?_) (fun c10 => ?_)
            · replace hev := x_t c10 hev
              exact J47 x2 x3 ls hev (lv_sub hl [0, 1, 2, 3] rfl)
            · replace hev := x_f c10 hev
              exact J41 x2 x3 ls hev (lv_sub hl [0, 1, 2, 3] rfl)
  obtain ⟨y11, hq, hev⟩ := x_bd hev
  refine L4 p1 k (0 : Int32) (0 : Int32) y11 hq (fun ls hl => ?_) ls (lv_sub hl [2, 3, 1, 0] rfl)
  refine lv_iload_n hx hb dX4_deedsBy_53 rfl (lv_at hl 0 rfl) ?_
  exact ret _ _ _ dX4_deedsBy_54 ((show narrow _ (.int y11) = .int y11 from rfl).trans (congrArg Value.int (Option.some.inj hev)))
def f_Ru_nightDeed (vT_deedCount : Int32) : Option (Int32) := some (vT_deedCount - (1 : Int32))
set_option maxHeartbeats 8000000 in
set_option maxRecDepth 100000 in
theorem c_Ru_nightDeed (l : Launch) (G : GG) (aT aT_masks aT_values aT_askings aT_kissesNeeded aT_wakings aT_binders aT_curses aT_doers aT_sorts aT_whichs aT_bars aT_bits aT_kisses : Nat) (vT_people : Int32) (vT_spells : Int32) (vT_deedCount : Int32) (r0 : Int32) (hev : f_Ru_nightDeed vT_deedCount = some r0) : RO l G yX4_nightDeed cX4_nightDeed 1 (some .int) 0 [.ref aT] [(aT, .inr (2, [.int vT_people, .int vT_spells, .int vT_deedCount, .ref aT_masks, .ref aT_values, .ref aT_askings, .ref aT_kissesNeeded, .ref aT_wakings, .ref aT_binders, .ref aT_curses, .ref aT_doers, .ref aT_sorts, .ref aT_whichs, .ref aT_bars, .ref aT_bits, .ref aT_kisses]))] (some (.int r0)) := by
  refine RO_of (by decide) (Nat.le_of_ble_eq_true rfl) ?_
  intro p e s m ar below meth c R Q H ls X hR hP hKK hS0 hl ret
  generalize hrs : r0 = rs at hev ret
  have hl : lv_has ls 1 [(0, .ref aT)] := hl
  obtain ⟨hx, hb, hml, hown, hts, hT⟩ := id X
  have hK := hKK.1
  have hw : ∀ w ∈ T0, w.before ar s = true := fun w h => hts w (hT w h)
  have i4 := fun w h => hT w (inT4 w h)
  unfold f_Ru_nightDeed at hev
  refine lv_aload_n hx hb dX4_nightDeed_0 rfl (lv_at hl 0 rfl) ?_
  refine va_get (D := G.1) (ci := 2) (v := .int vT_deedCount) (C := RX4) (T := TX4) (N := 16) hx hb hts i4 hown hK hP 0 rfl rfl 2 (by decide) (hw _ u199) (fun _ h9 => h9) rfl dX4_nightDeed_1 ?_
  refine lv_iconst (v := (1 : Int32)) hx hb dX4_nightDeed_4 (by decide) ?_
  refine lv_isub hx hb dX4_nightDeed_5 ?_
  exact ret _ _ _ dX4_nightDeed_6 ((show narrow _ (.int (vT_deedCount - (1 : Int32))) = .int (vT_deedCount - (1 : Int32)) from rfl).trans (congrArg Value.int (Option.some.inj hev)))
def f_Ru_isDeed (vT_deedCount : Int32) (p1 : Int32) : Option (Int32) := if p1 < 0 then (some (0 : Int32)) else if vT_deedCount ≤ p1 then (some (0 : Int32)) else if (19 : Int32) ≤ p1 then (some (0 : Int32)) else some (1 : Int32)
set_option maxHeartbeats 8000000 in
set_option maxRecDepth 100000 in
theorem c_Ru_isDeed (l : Launch) (G : GG) (aT aT_masks aT_values aT_askings aT_kissesNeeded aT_wakings aT_binders aT_curses aT_doers aT_sorts aT_whichs aT_bars aT_bits aT_kisses : Nat) (vT_people : Int32) (vT_spells : Int32) (vT_deedCount : Int32) (p1 : Int32) (r0 : Int32) (hev : f_Ru_isDeed vT_deedCount p1 = some r0) : RO l G yX4_isDeed cX4_isDeed 2 (some .boolean) 0 [.ref aT, .int p1] [(aT, .inr (2, [.int vT_people, .int vT_spells, .int vT_deedCount, .ref aT_masks, .ref aT_values, .ref aT_askings, .ref aT_kissesNeeded, .ref aT_wakings, .ref aT_binders, .ref aT_curses, .ref aT_doers, .ref aT_sorts, .ref aT_whichs, .ref aT_bars, .ref aT_bits, .ref aT_kisses]))] (some (.int r0)) := by
  refine RO_of (by decide) (Nat.le_of_ble_eq_true rfl) ?_
  intro p e s m ar below meth c R Q H ls X hR hP hKK hS0 hl ret
  generalize hrs : r0 = rs at hev ret
  have hl : lv_has ls 2 [(0, .ref aT), (1, .int p1)] := hl
  obtain ⟨hx, hb, hml, hown, hts, hT⟩ := id X
  have hK := hKK.1
  have hw : ∀ w ∈ T0, w.before ar s = true := fun w h => hts w (hT w h)
  have i4 := fun w h => hT w (inT4 w h)
  unfold f_Ru_isDeed at hev
  refine lv_iload_n hx hb dX4_isDeed_0 rfl (lv_at hl 1 rfl) ?_
  refine lv_if_lt (tgt := 22) hx hb dX4_isDeed_1 (by decide) (fun c1 => ?_) (fun c1 => ?_)
  · replace hev := x_t c1 hev
    refine lv_iconst (v := (0 : Int32)) hx hb dX4_isDeed_22 (by decide) ?_
    exact ret _ _ _ dX4_isDeed_23 ((show narrow _ (.int (0 : Int32)) = .int (0 : Int32) from nb0).trans (congrArg Value.int (Option.some.inj hev)))
  · replace hev := x_f c1 hev
    refine lv_iload_n hx hb dX4_isDeed_4 rfl (lv_at hl 1 rfl) ?_
    refine lv_aload_n hx hb dX4_isDeed_5 rfl (lv_at hl 0 rfl) ?_
    refine va_get (D := G.1) (ci := 2) (v := .int vT_deedCount) (C := RX4) (T := TX4) (N := 16) hx hb hts i4 hown hK hP 0 rfl rfl 2 (by decide) (hw _ u199) (fun _ h9 => h9) rfl dX4_isDeed_6 ?_
    refine lv_icmp_ge (tgt := 22) hx hb dX4_isDeed_9 (by decide) (fun c2 => ?_) (fun c2 => ?_)
    · replace hev := x_t c2 hev
      refine lv_iconst (v := (0 : Int32)) hx hb dX4_isDeed_22 (by decide) ?_
      exact ret _ _ _ dX4_isDeed_23 ((show narrow _ (.int (0 : Int32)) = .int (0 : Int32) from nb0).trans (congrArg Value.int (Option.some.inj hev)))
    · replace hev := x_f c2 hev
      refine lv_iload_n hx hb dX4_isDeed_12 rfl (lv_at hl 1 rfl) ?_
      refine lv_bipush (v := (19 : Int32)) hx hb dX4_isDeed_13 (by decide) ?_
      refine lv_icmp_ge (tgt := 22) hx hb dX4_isDeed_15 (by decide) (fun c3 => ?_) (fun c3 => ?_)
      · replace hev := x_t c3 hev
        refine lv_iconst (v := (0 : Int32)) hx hb dX4_isDeed_22 (by decide) ?_
        exact ret _ _ _ dX4_isDeed_23 ((show narrow _ (.int (0 : Int32)) = .int (0 : Int32) from nb0).trans (congrArg Value.int (Option.some.inj hev)))
      · replace hev := x_f c3 hev
        refine lv_iconst (v := (1 : Int32)) hx hb dX4_isDeed_18 (by decide) ?_
        refine lv_goto (tgt := 23) hx hb dX4_isDeed_19 (by decide) ?_
        exact ret _ _ _ dX4_isDeed_23 ((show narrow _ (.int (1 : Int32)) = .int (1 : Int32) from nb1).trans (congrArg Value.int (Option.some.inj hev)))
def f_Ru_doerOf (vT_deedCount : Int32) (fT_doers : Nat → Int32) (p1 : Int32) : Option (Int32) := x_B (f_Ru_isDeed vT_deedCount p1) (fun y1 => if y1 = 0 then (some (-1 : Int32)) else x_I 19 fT_doers p1 (fun v4 => some v4))
set_option maxHeartbeats 8000000 in
set_option maxRecDepth 100000 in
theorem c_Ru_doerOf (l : Launch) (G : GG) (aT aT_masks aT_values aT_askings aT_kissesNeeded aT_wakings aT_binders aT_curses aT_doers aT_sorts aT_whichs aT_bars aT_bits aT_kisses : Nat) (vT_people : Int32) (vT_spells : Int32) (vT_deedCount : Int32) (fT_doers : Nat → Int32) (p1 : Int32) (r0 : Int32) (hev : f_Ru_doerOf vT_deedCount fT_doers p1 = some r0) : RO l G yX4_doerOf cX4_doerOf 2 (some .int) 1 [.ref aT, .int p1] [(aT, .inr (2, [.int vT_people, .int vT_spells, .int vT_deedCount, .ref aT_masks, .ref aT_values, .ref aT_askings, .ref aT_kissesNeeded, .ref aT_wakings, .ref aT_binders, .ref aT_curses, .ref aT_doers, .ref aT_sorts, .ref aT_whichs, .ref aT_bars, .ref aT_bits, .ref aT_kisses])), (aT_doers, .inl (G.2.1, 19, .inl fT_doers))] (some (.int r0)) := by
  refine RO_of (by decide) (Nat.le_of_ble_eq_true rfl) ?_
  intro p e s m ar below meth c R Q H ls X hR hP hKK hS0 hl ret
  generalize hrs : r0 = rs at hev ret
  have hl : lv_has ls 2 [(0, .ref aT), (1, .int p1)] := hl
  obtain ⟨hx, hb, hml, hown, hts, hT⟩ := id X
  have hK := hKK.1
  have hw : ∀ w ∈ T0, w.before ar s = true := fun w h => hts w (hT w h)
  have i4 := fun w h => hT w (inT4 w h)
  unfold f_Ru_doerOf at hev
  refine lv_aload_n hx hb dX4_doerOf_0 rfl (lv_at hl 0 rfl) ?_
  refine lv_iload_n hx hb dX4_doerOf_1 rfl (lv_at hl 1 rfl) ?_
  obtain ⟨y1, hq, hev⟩ := x_bd hev
  refine roV X hKK hR (st1 := [.int y1]) (c_Ru_isDeed l G aT aT_masks aT_values aT_askings aT_kissesNeeded aT_wakings aT_binders aT_curses aT_doers aT_sorts aT_whichs aT_bars aT_bits aT_kisses vT_people vT_spells vT_deedCount p1 y1 hq) K_X4_isDeed u870 (x_Psub hP [0] rfl) rfl (q0 := 0) rfl (by decide) ⟨Nat.zero_le _, Nat.zero_le _⟩ rfl hl.1 rfl (Nat.le_of_ble_eq_true rfl) rfl dX4_doerOf_2 ?_
  refine lv_if_eq (tgt := 17) hx hb dX4_doerOf_5 (by decide) (fun c2 => ?_) (fun c2 => ?_)
  · replace hev := x_t c2 hev
    refine lv_iconst (v := (-1 : Int32)) hx hb dX4_doerOf_17 (by decide) ?_
    exact ret _ _ _ dX4_doerOf_18 ((show narrow _ (.int (-1 : Int32)) = .int (-1 : Int32) from rfl).trans (congrArg Value.int (Option.some.inj hev)))
  · replace hev := x_f c2 hev
    refine lv_aload_n hx hb dX4_doerOf_8 rfl (lv_at hl 0 rfl) ?_
    refine va_get (D := G.1) (ci := 2) (v := .ref aT_doers) (C := RX4) (T := TX4) (N := 16) hx hb hts i4 hown hK hP 0 rfl rfl 10 (by decide) (hw _ u207) (fun _ h9 => h9) rfl dX4_doerOf_9 ?_
    refine lv_iload_n hx hb dX4_doerOf_12 rfl (lv_at hl 1 rfl) ?_
    obtain ⟨h3, hev⟩ := x_ld hev
    refine va_iald hx hb hK hP 1 0 rfl rfl h3 dX4_doerOf_13 ?_
    refine lv_topi (fun v4 ev4 => ?_)
    replace hev := hev v4 ev4
    refine lv_goto (tgt := 18) hx hb dX4_doerOf_14 (by decide) ?_
    exact ret _ _ _ dX4_doerOf_18 ((show narrow _ (.int v4) = .int v4 from rfl).trans (congrArg Value.int (Option.some.inj hev)))
def f_Ru_sortOf (vT_deedCount : Int32) (fT_sorts : Nat → Int32) (p1 : Int32) : Option (Int32) := x_B (f_Ru_isDeed vT_deedCount p1) (fun y1 => if y1 = 0 then (some (-1 : Int32)) else x_I 19 fT_sorts p1 (fun v4 => some v4))
set_option maxHeartbeats 8000000 in
set_option maxRecDepth 100000 in
theorem c_Ru_sortOf (l : Launch) (G : GG) (aT aT_masks aT_values aT_askings aT_kissesNeeded aT_wakings aT_binders aT_curses aT_doers aT_sorts aT_whichs aT_bars aT_bits aT_kisses : Nat) (vT_people : Int32) (vT_spells : Int32) (vT_deedCount : Int32) (fT_sorts : Nat → Int32) (p1 : Int32) (r0 : Int32) (hev : f_Ru_sortOf vT_deedCount fT_sorts p1 = some r0) : RO l G yX4_sortOf cX4_sortOf 2 (some .int) 1 [.ref aT, .int p1] [(aT, .inr (2, [.int vT_people, .int vT_spells, .int vT_deedCount, .ref aT_masks, .ref aT_values, .ref aT_askings, .ref aT_kissesNeeded, .ref aT_wakings, .ref aT_binders, .ref aT_curses, .ref aT_doers, .ref aT_sorts, .ref aT_whichs, .ref aT_bars, .ref aT_bits, .ref aT_kisses])), (aT_sorts, .inl (G.2.1, 19, .inl fT_sorts))] (some (.int r0)) := by
  refine RO_of (by decide) (Nat.le_of_ble_eq_true rfl) ?_
  intro p e s m ar below meth c R Q H ls X hR hP hKK hS0 hl ret
  generalize hrs : r0 = rs at hev ret
  have hl : lv_has ls 2 [(0, .ref aT), (1, .int p1)] := hl
  obtain ⟨hx, hb, hml, hown, hts, hT⟩ := id X
  have hK := hKK.1
  have hw : ∀ w ∈ T0, w.before ar s = true := fun w h => hts w (hT w h)
  have i4 := fun w h => hT w (inT4 w h)
  unfold f_Ru_sortOf at hev
  refine lv_aload_n hx hb dX4_sortOf_0 rfl (lv_at hl 0 rfl) ?_
  refine lv_iload_n hx hb dX4_sortOf_1 rfl (lv_at hl 1 rfl) ?_
  obtain ⟨y1, hq, hev⟩ := x_bd hev
  refine roV X hKK hR (st1 := [.int y1]) (c_Ru_isDeed l G aT aT_masks aT_values aT_askings aT_kissesNeeded aT_wakings aT_binders aT_curses aT_doers aT_sorts aT_whichs aT_bars aT_bits aT_kisses vT_people vT_spells vT_deedCount p1 y1 hq) K_X4_isDeed u870 (x_Psub hP [0] rfl) rfl (q0 := 0) rfl (by decide) ⟨Nat.zero_le _, Nat.zero_le _⟩ rfl hl.1 rfl (Nat.le_of_ble_eq_true rfl) rfl dX4_sortOf_2 ?_
  refine lv_if_eq (tgt := 17) hx hb dX4_sortOf_5 (by decide) (fun c2 => ?_) (fun c2 => ?_)
  · replace hev := x_t c2 hev
    refine lv_iconst (v := (-1 : Int32)) hx hb dX4_sortOf_17 (by decide) ?_
    exact ret _ _ _ dX4_sortOf_18 ((show narrow _ (.int (-1 : Int32)) = .int (-1 : Int32) from rfl).trans (congrArg Value.int (Option.some.inj hev)))
  · replace hev := x_f c2 hev
    refine lv_aload_n hx hb dX4_sortOf_8 rfl (lv_at hl 0 rfl) ?_
    refine va_get (D := G.1) (ci := 2) (v := .ref aT_sorts) (C := RX4) (T := TX4) (N := 16) hx hb hts i4 hown hK hP 0 rfl rfl 11 (by decide) (hw _ u208) (fun _ h9 => h9) rfl dX4_sortOf_9 ?_
    refine lv_iload_n hx hb dX4_sortOf_12 rfl (lv_at hl 1 rfl) ?_
    obtain ⟨h3, hev⟩ := x_ld hev
    refine va_iald hx hb hK hP 1 0 rfl rfl h3 dX4_sortOf_13 ?_
    refine lv_topi (fun v4 ev4 => ?_)
    replace hev := hev v4 ev4
    refine lv_goto (tgt := 18) hx hb dX4_sortOf_14 (by decide) ?_
    exact ret _ _ _ dX4_sortOf_18 ((show narrow _ (.int v4) = .int v4 from rfl).trans (congrArg Value.int (Option.some.inj hev)))
def f_Ru_whichOf (vT_deedCount : Int32) (fT_whichs : Nat → Int32) (p1 : Int32) : Option (Int32) := x_B (f_Ru_isDeed vT_deedCount p1) (fun y1 => if y1 = 0 then (some (-1 : Int32)) else x_I 19 fT_whichs p1 (fun v4 => some v4))
set_option maxHeartbeats 8000000 in
set_option maxRecDepth 100000 in
theorem c_Ru_whichOf (l : Launch) (G : GG) (aT aT_masks aT_values aT_askings aT_kissesNeeded aT_wakings aT_binders aT_curses aT_doers aT_sorts aT_whichs aT_bars aT_bits aT_kisses : Nat) (vT_people : Int32) (vT_spells : Int32) (vT_deedCount : Int32) (fT_whichs : Nat → Int32) (p1 : Int32) (r0 : Int32) (hev : f_Ru_whichOf vT_deedCount fT_whichs p1 = some r0) : RO l G yX4_whichOf cX4_whichOf 2 (some .int) 1 [.ref aT, .int p1] [(aT, .inr (2, [.int vT_people, .int vT_spells, .int vT_deedCount, .ref aT_masks, .ref aT_values, .ref aT_askings, .ref aT_kissesNeeded, .ref aT_wakings, .ref aT_binders, .ref aT_curses, .ref aT_doers, .ref aT_sorts, .ref aT_whichs, .ref aT_bars, .ref aT_bits, .ref aT_kisses])), (aT_whichs, .inl (G.2.1, 19, .inl fT_whichs))] (some (.int r0)) := by
  refine RO_of (by decide) (Nat.le_of_ble_eq_true rfl) ?_
  intro p e s m ar below meth c R Q H ls X hR hP hKK hS0 hl ret
  generalize hrs : r0 = rs at hev ret
  have hl : lv_has ls 2 [(0, .ref aT), (1, .int p1)] := hl
  obtain ⟨hx, hb, hml, hown, hts, hT⟩ := id X
  have hK := hKK.1
  have hw : ∀ w ∈ T0, w.before ar s = true := fun w h => hts w (hT w h)
  have i4 := fun w h => hT w (inT4 w h)
  unfold f_Ru_whichOf at hev
  refine lv_aload_n hx hb dX4_whichOf_0 rfl (lv_at hl 0 rfl) ?_
  refine lv_iload_n hx hb dX4_whichOf_1 rfl (lv_at hl 1 rfl) ?_
  obtain ⟨y1, hq, hev⟩ := x_bd hev
  refine roV X hKK hR (st1 := [.int y1]) (c_Ru_isDeed l G aT aT_masks aT_values aT_askings aT_kissesNeeded aT_wakings aT_binders aT_curses aT_doers aT_sorts aT_whichs aT_bars aT_bits aT_kisses vT_people vT_spells vT_deedCount p1 y1 hq) K_X4_isDeed u870 (x_Psub hP [0] rfl) rfl (q0 := 0) rfl (by decide) ⟨Nat.zero_le _, Nat.zero_le _⟩ rfl hl.1 rfl (Nat.le_of_ble_eq_true rfl) rfl dX4_whichOf_2 ?_
  refine lv_if_eq (tgt := 17) hx hb dX4_whichOf_5 (by decide) (fun c2 => ?_) (fun c2 => ?_)
  · replace hev := x_t c2 hev
    refine lv_iconst (v := (-1 : Int32)) hx hb dX4_whichOf_17 (by decide) ?_
    exact ret _ _ _ dX4_whichOf_18 ((show narrow _ (.int (-1 : Int32)) = .int (-1 : Int32) from rfl).trans (congrArg Value.int (Option.some.inj hev)))
  · replace hev := x_f c2 hev
    refine lv_aload_n hx hb dX4_whichOf_8 rfl (lv_at hl 0 rfl) ?_
    refine va_get (D := G.1) (ci := 2) (v := .ref aT_whichs) (C := RX4) (T := TX4) (N := 16) hx hb hts i4 hown hK hP 0 rfl rfl 12 (by decide) (hw _ u209) (fun _ h9 => h9) rfl dX4_whichOf_9 ?_
    refine lv_iload_n hx hb dX4_whichOf_12 rfl (lv_at hl 1 rfl) ?_
    obtain ⟨h3, hev⟩ := x_ld hev
    refine va_iald hx hb hK hP 1 0 rfl rfl h3 dX4_whichOf_13 ?_
    refine lv_topi (fun v4 ev4 => ?_)
    replace hev := hev v4 ev4
    refine lv_goto (tgt := 18) hx hb dX4_whichOf_14 (by decide) ?_
    exact ret _ _ _ dX4_whichOf_18 ((show narrow _ (.int v4) = .int v4 from rfl).trans (congrArg Value.int (Option.some.inj hev)))
