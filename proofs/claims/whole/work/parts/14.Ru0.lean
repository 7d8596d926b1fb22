def f_Ru_isCurse (p0 : Int32) (p1 : Int32) : Option (Int32) := if p0 < 0 then (some (0 : Int32)) else if (3 : Int32) ≤ p0 then (some (0 : Int32)) else if p1 < 0 then (some (0 : Int32)) else if (3 : Int32) ≤ p1 then (some (0 : Int32)) else some (1 : Int32)
set_option maxHeartbeats 8000000 in
set_option maxRecDepth 100000 in
theorem c_Ru_isCurse (l : Launch) (G : GG) (p0 : Int32) (p1 : Int32) (r0 : Int32) (hev : f_Ru_isCurse p0 p1 = some r0) : RO l G yX4_isCurse cX4_isCurse 2 (some .boolean) 0 [.int p0, .int p1] [] (some (.int r0)) := by
  refine RO_of (by decide) (Nat.le_of_ble_eq_true rfl) ?_
  intro p e s m ar below meth c R Q H ls X hR hP hKK hS0 hl ret
  generalize hrs : r0 = rs at hev ret
  have hl : lv_has ls 2 [(0, .int p0), (1, .int p1)] := hl
  obtain ⟨hx, hb, hml, hown, hts, hT⟩ := id X
  have hK := hKK.1
  have hw : ∀ w ∈ T0, w.before ar s = true := fun w h => hts w (hT w h)
  unfold f_Ru_isCurse at hev
  refine lv_iload_n hx hb dX4_isCurse_0 rfl (lv_at hl 0 rfl) ?_
  refine lv_if_lt (tgt := 22) hx hb dX4_isCurse_1 (by decide) (fun c1 => ?_) (fun c1 => ?_)
  · replace hev := x_t c1 hev
    refine lv_iconst (v := (0 : Int32)) hx hb dX4_isCurse_22 (by decide) ?_
    exact ret _ _ _ dX4_isCurse_23 ((show narrow _ (.int (0 : Int32)) = .int (0 : Int32) from nb0).trans (congrArg Value.int (Option.some.inj hev)))
  · replace hev := x_f c1 hev
    refine lv_iload_n hx hb dX4_isCurse_4 rfl (lv_at hl 0 rfl) ?_
    refine lv_iconst (v := (3 : Int32)) hx hb dX4_isCurse_5 (by decide) ?_
    refine lv_icmp_ge (tgt := 22) hx hb dX4_isCurse_6 (by decide) (fun c2 => ?_) (fun c2 => ?_)
    · replace hev := x_t c2 hev
      refine lv_iconst (v := (0 : Int32)) hx hb dX4_isCurse_22 (by decide) ?_
      exact ret _ _ _ dX4_isCurse_23 ((show narrow _ (.int (0 : Int32)) = .int (0 : Int32) from nb0).trans (congrArg Value.int (Option.some.inj hev)))
    · replace hev := x_f c2 hev
      refine lv_iload_n hx hb dX4_isCurse_9 rfl (lv_at hl 1 rfl) ?_
      refine lv_if_lt (tgt := 22) hx hb dX4_isCurse_10 (by decide) (fun c3 => ?_) (fun c3 => ?_)
      · replace hev := x_t c3 hev
        refine lv_iconst (v := (0 : Int32)) hx hb dX4_isCurse_22 (by decide) ?_
        exact ret _ _ _ dX4_isCurse_23 ((show narrow _ (.int (0 : Int32)) = .int (0 : Int32) from nb0).trans (congrArg Value.int (Option.some.inj hev)))
      · replace hev := x_f c3 hev
        refine lv_iload_n hx hb dX4_isCurse_13 rfl (lv_at hl 1 rfl) ?_
        refine lv_iconst (v := (3 : Int32)) hx hb dX4_isCurse_14 (by decide) ?_
        refine lv_icmp_ge (tgt := 22) hx hb dX4_isCurse_15 (by decide) (fun c4 => ?_) (fun c4 => ?_)
        · replace hev := x_t c4 hev
          refine lv_iconst (v := (0 : Int32)) hx hb dX4_isCurse_22 (by decide) ?_
          exact ret _ _ _ dX4_isCurse_23 ((show narrow _ (.int (0 : Int32)) = .int (0 : Int32) from nb0).trans (congrArg Value.int (Option.some.inj hev)))
        · replace hev := x_f c4 hev
          refine lv_iconst (v := (1 : Int32)) hx hb dX4_isCurse_18 (by decide) ?_
          refine lv_goto (tgt := 23) hx hb dX4_isCurse_19 (by decide) ?_
          exact ret _ _ _ dX4_isCurse_23 ((show narrow _ (.int (1 : Int32)) = .int (1 : Int32) from nb1).trans (congrArg Value.int (Option.some.inj hev)))
def f_Ru_kissOf (p0 : Int32) (p1 : Int32) : Option (Int32) := some (((1 : Int32) + (p0 * (3 : Int32))) + p1)
set_option maxHeartbeats 8000000 in
set_option maxRecDepth 100000 in
theorem c_Ru_kissOf (l : Launch) (G : GG) (p0 : Int32) (p1 : Int32) (r0 : Int32) (hev : f_Ru_kissOf p0 p1 = some r0) : RO l G yX4_kissOf cX4_kissOf 2 (some .int) 0 [.int p0, .int p1] [] (some (.int r0)) := by
  refine RO_of (by decide) (Nat.le_of_ble_eq_true rfl) ?_
  intro p e s m ar below meth c R Q H ls X hR hP hKK hS0 hl ret
  generalize hrs : r0 = rs at hev ret
  have hl : lv_has ls 2 [(0, .int p0), (1, .int p1)] := hl
  obtain ⟨hx, hb, hml, hown, hts, hT⟩ := id X
  have hK := hKK.1
  have hw : ∀ w ∈ T0, w.before ar s = true := fun w h => hts w (hT w h)
  unfold f_Ru_kissOf at hev
  refine lv_iconst (v := (1 : Int32)) hx hb dX4_kissOf_0 (by decide) ?_
  refine lv_iload_n hx hb dX4_kissOf_1 rfl (lv_at hl 0 rfl) ?_
  refine lv_iconst (v := (3 : Int32)) hx hb dX4_kissOf_2 (by decide) ?_
  refine lv_imul hx hb dX4_kissOf_3 ?_
  refine lv_iadd hx hb dX4_kissOf_4 ?_
  refine lv_iload_n hx hb dX4_kissOf_5 rfl (lv_at hl 1 rfl) ?_
  refine lv_iadd hx hb dX4_kissOf_6 ?_
  exact ret _ _ _ dX4_kissOf_7 ((show narrow _ (.int (((1 : Int32) + (p0 * (3 : Int32))) + p1)) = .int (((1 : Int32) + (p0 * (3 : Int32))) + p1) from rfl).trans (congrArg Value.int (Option.some.inj hev)))
def f_Ru_needKiss_J48 (fT_kissesNeeded : Nat → Int32) (s0 : Int32) (s1 : Int32) : Option ((Nat → Int32)) := x_C 5 s1 (some (upd fT_kissesNeeded (s1).toNatClampNeg s0))
def f_Ru_needKiss_J33 (fT_kissesNeeded : Nat → Int32) (x1 : Int32) (x2 : Int32) (s0 : Int32) : Option ((Nat → Int32)) := if s0 = 0 then (f_Ru_needKiss_J48 fT_kissesNeeded (-1 : Int32) x1) else f_Ru_needKiss_J48 fT_kissesNeeded x2 x1
def f_Ru_needKiss_J28 (fT_kissesNeeded : Nat → Int32) (x1 : Int32) (x2 : Int32) : Option ((Nat → Int32)) := f_Ru_needKiss_J33 fT_kissesNeeded x1 x2 (1 : Int32)
def f_Ru_needKiss (fT_kissesNeeded : Nat → Int32) (p1 : Int32) (p2 : Int32) : Option ((Nat → Int32)) := if p1 < 0 then (some fT_kissesNeeded) else if (5 : Int32) ≤ p1 then (some fT_kissesNeeded) else x_I 5 fT_kissesNeeded p1 (fun v6 => if v6 = 0 then (f_Ru_needKiss_J28 fT_kissesNeeded p1 p2) else x_I 5 fT_kissesNeeded p1 (fun v9 => if v9 = p2 then (f_Ru_needKiss_J28 fT_kissesNeeded p1 p2) else f_Ru_needKiss_J33 fT_kissesNeeded p1 p2 (0 : Int32)))
set_option maxHeartbeats 8000000 in
set_option maxRecDepth 100000 in
theorem c_Ru_needKiss (l : Launch) (G : GG) (aT aT_masks aT_values aT_askings aT_kissesNeeded aT_wakings aT_binders aT_curses aT_doers aT_sorts aT_whichs aT_bars aT_bits aT_kisses : Nat) (vT_people : Int32) (vT_spells : Int32) (vT_deedCount : Int32) (fT_kissesNeeded : Nat → Int32) (p1 : Int32) (p2 : Int32) (wfT_kissesNeeded : Nat → Int32) (hev : f_Ru_needKiss fT_kissesNeeded p1 p2 = some wfT_kissesNeeded) : RW l G yX4_needKiss cX4_needKiss 4 none 0 [.ref aT, .int p1, .int p2] [(aT, .inr (2, [.int vT_people, .int vT_spells, .int vT_deedCount, .ref aT_masks, .ref aT_values, .ref aT_askings, .ref aT_kissesNeeded, .ref aT_wakings, .ref aT_binders, .ref aT_curses, .ref aT_doers, .ref aT_sorts, .ref aT_whichs, .ref aT_bars, .ref aT_bits, .ref aT_kisses])), (aT_kissesNeeded, .inl (G.2.1, 5, .inl fT_kissesNeeded))] none [(aT, .inr (2, [.int vT_people, .int vT_spells, .int vT_deedCount, .ref aT_masks, .ref aT_values, .ref aT_askings, .ref aT_kissesNeeded, .ref aT_wakings, .ref aT_binders, .ref aT_curses, .ref aT_doers, .ref aT_sorts, .ref aT_whichs, .ref aT_bars, .ref aT_bits, .ref aT_kisses])), (aT_kissesNeeded, .inl (G.2.1, 5, .inl wfT_kissesNeeded))] 0 0 := by
  refine RW_of (by decide) (Nat.le_of_ble_eq_true rfl) ?_
  intro p e s m ar below meth c R Q A ls X hR hRc hin hP hKK hD hS hA hAb hl ret
  obtain ⟨rs, hrs⟩ : ∃ q, q = wfT_kissesNeeded := ⟨_, rfl⟩
  rw [← hrs] at hev
  have ret2 : ∀ (pc : Nat) (ls : Array Slot) (H : Heap) (lo : List Loc) (zfT_kissesNeeded : Nat → Int32), zfT_kissesNeeded = rs → decode cX4_needKiss pc = .ok (.return_, 1) → va_P G.1 classes [(aT, .inr (2, [.int vT_people, .int vT_spells, .int vT_deedCount, .ref aT_masks, .ref aT_values, .ref aT_askings, .ref aT_kissesNeeded, .ref aT_wakings, .ref aT_binders, .ref aT_curses, .ref aT_doers, .ref aT_sorts, .ref aT_whichs, .ref aT_bars, .ref aT_bits, .ref aT_kisses])), (aT_kissesNeeded, .inl (G.2.1, 5, .inl zfT_kissesNeeded))] H → va_D A [(aT, .inr (2, [.int vT_people, .int vT_spells, .int vT_deedCount, .ref aT_masks, .ref aT_values, .ref aT_askings, .ref aT_kissesNeeded, .ref aT_wakings, .ref aT_binders, .ref aT_curses, .ref aT_doers, .ref aT_sorts, .ref aT_whichs, .ref aT_bars, .ref aT_bits, .ref aT_kisses])), (aT_kissesNeeded, .inl (G.2.1, 5, .inl zfT_kissesNeeded))] → va_S A s.heap H lo → W p l e R s m ar below meth c H lo 0 0 Q (F0 m pc ls []) := by
    intro pc ls H lo zfT_kissesNeeded he hd h1 h2 h3
    have he := he.trans hrs
    cases he
    exact ret.2.1 _ _ _ _ rfl rfl hd h1 h2 h3
  clear ret hrs
  have hl : lv_has ls 4 [(0, .ref aT), (1, .int p1), (2, .int p2)] := hl
  obtain ⟨hx, hb, hml, hown, hts, hT⟩ := id X
  have hK := hKK.1
  have hw : ∀ w ∈ T0, w.before ar s = true := fun w h => hts w (hT w h)
  have i4 := fun w h => hT w (inT4 w h)
  have J48 : ∀ (fT_kissesNeeded : Nat → Int32) (s0 : Int32) (s1 : Int32), ∀ (H : Heap) (lo : List Loc), va_P G.1 classes [(aT, .inr (2, [.int vT_people, .int vT_spells, .int vT_deedCount, .ref aT_masks, .ref aT_values, .ref aT_askings, .ref aT_kissesNeeded, .ref aT_wakings, .ref aT_binders, .ref aT_curses, .ref aT_doers, .ref aT_sorts, .ref aT_whichs, .ref aT_bars, .ref aT_bits, .ref aT_kisses])), (aT_kissesNeeded, .inl (G.2.1, 5, .inl fT_kissesNeeded))] H → va_D A [(aT, .inr (2, [.int vT_people, .int vT_spells, .int vT_deedCount, .ref aT_masks, .ref aT_values, .ref aT_askings, .ref aT_kissesNeeded, .ref aT_wakings, .ref aT_binders, .ref aT_curses, .ref aT_doers, .ref aT_sorts, .ref aT_whichs, .ref aT_bars, .ref aT_bits, .ref aT_kisses])), (aT_kissesNeeded, .inl (G.2.1, 5, .inl fT_kissesNeeded))] → va_S A s.heap H lo → ∀ (ls : Array Slot), f_Ru_needKiss_J48 fT_kissesNeeded s0 s1 = some rs → lv_has ls 4 [] → W p l e R s m ar below meth c H lo 0 0 Q (F0 m 48 ls [.int s0, .int s1, .ref aT_kissesNeeded]) := by
    intro fT_kissesNeeded s0 s1 H lo hP hD hS ls hev hl
    unfold f_Ru_needKiss_J48 at hev
    obtain ⟨h1, hev⟩ := x_ck hev
    refine va_iast hx hb hK hP hD hS 1 0 rfl rfl h1 dX4_needKiss_48 (fun H lo hP hD hS => ?_)
    exact ret2 _ _ _ _ (upd fT_kissesNeeded (s1).toNatClampNeg s0) (Option.some.inj hev) dX4_needKiss_49 hP hD hS
  have J33 : ∀ (fT_kissesNeeded : Nat → Int32) (x1 : Int32) (x2 : Int32) (s0 : Int32), ∀ (H : Heap) (lo : List Loc), va_P G.1 classes [(aT, .inr (2, [.int vT_people, .int vT_spells, .int vT_deedCount, .ref aT_masks, .ref aT_values, .ref aT_askings, .ref aT_kissesNeeded, .ref aT_wakings, .ref aT_binders, .ref aT_curses, .ref aT_doers, .ref aT_sorts, .ref aT_whichs, .ref aT_bars, .ref aT_bits, .ref aT_kisses])), (aT_kissesNeeded, .inl (G.2.1, 5, .inl fT_kissesNeeded))] H → va_D A [(aT, .inr (2, [.int vT_people, .int vT_spells, .int vT_deedCount, .ref aT_masks, .ref aT_values, .ref aT_askings, .ref aT_kissesNeeded, .ref aT_wakings, .ref aT_binders, .ref aT_curses, .ref aT_doers, .ref aT_sorts, .ref aT_whichs, .ref aT_bars, .ref aT_bits, .ref aT_kisses])), (aT_kissesNeeded, .inl (G.2.1, 5, .inl fT_kissesNeeded))] → va_S A s.heap H lo → ∀ (ls : Array Slot), f_Ru_needKiss_J33 fT_kissesNeeded x1 x2 s0 = some rs → lv_has ls 4 [(0, .ref aT), (1, .int x1), (2, .int x2)] → W p l e R s m ar below meth c H lo 0 0 Q (F0 m 33 ls [.int s0]) := by
    intro fT_kissesNeeded x1 x2 s0 H lo hP hD hS ls hev hl
    unfold f_Ru_needKiss_J33 at hev
    refine lv_istore_n (lv' := [(3, .int s0), (0, .ref aT), (1, .int x1), (2, .int x2)]) hx hb dX4_needKiss_33 rfl hl (by decide) rfl (fun ls hl => ?_)
    refine lv_aload_n hx hb dX4_needKiss_34 rfl (lv_at hl 1 rfl) ?_
    refine va_get (D := G.1) (ci := 2) (v := .ref aT_kissesNeeded) (C := RX4) (T := TX4) (N := 16) hx hb hts i4 hown hK hP 0 rfl rfl 6 (by decide) (hw _ u203) (fun _ h9 => h9) rfl dX4_needKiss_35 ?_
    refine lv_iload_n hx hb dX4_needKiss_38 rfl (lv_at hl 2 rfl) ?_
    refine lv_iload_n hx hb dX4_needKiss_39 rfl (lv_at hl 0 rfl) ?_
    refine lv_if_eq (tgt := 47) hx hb dX4_needKiss_40 (by decide) (fun c2 => ?_) (fun c2 => ?_)
    · replace hev := x_t c2 hev
      refine lv_iconst (v := (-1 : Int32)) hx hb dX4_needKiss_47 (by decide) ?_
      exact J48 fT_kissesNeeded (-1 : Int32) x1 _ _ hP hD hS ls hev (lv_sub hl [] rfl)
    · replace hev := x_f c2 hev
      refine lv_iload_n hx hb dX4_needKiss_43 rfl (lv_at hl 3 rfl) ?_
      refine lv_goto (tgt := 48) hx hb dX4_needKiss_44 (by decide) ?_
      exact J48 fT_kissesNeeded x2 x1 _ _ hP hD hS ls hev (lv_sub hl [] rfl)
  have J28 : ∀ (fT_kissesNeeded : Nat → Int32) (x1 : Int32) (x2 : Int32), ∀ (H : Heap) (lo : List Loc), va_P G.1 classes [(aT, .inr (2, [.int vT_people, .int vT_spells, .int vT_deedCount, .ref aT_masks, .ref aT_values, .ref aT_askings, .ref aT_kissesNeeded, .ref aT_wakings, .ref aT_binders, .ref aT_curses, .ref aT_doers, .ref aT_sorts, .ref aT_whichs, .ref aT_bars, .ref aT_bits, .ref aT_kisses])), (aT_kissesNeeded, .inl (G.2.1, 5, .inl fT_kissesNeeded))] H → va_D A [(aT, .inr (2, [.int vT_people, .int vT_spells, .int vT_deedCount, .ref aT_masks, .ref aT_values, .ref aT_askings, .ref aT_kissesNeeded, .ref aT_wakings, .ref aT_binders, .ref aT_curses, .ref aT_doers, .ref aT_sorts, .ref aT_whichs, .ref aT_bars, .ref aT_bits, .ref aT_kisses])), (aT_kissesNeeded, .inl (G.2.1, 5, .inl fT_kissesNeeded))] → va_S A s.heap H lo → ∀ (ls : Array Slot), f_Ru_needKiss_J28 fT_kissesNeeded x1 x2 = some rs → lv_has ls 4 [(0, .ref aT), (1, .int x1), (2, .int x2)] → W p l e R s m ar below meth c H lo 0 0 Q (F0 m 28 ls []) := by
    intro fT_kissesNeeded x1 x2 H lo hP hD hS ls hev hl
    unfold f_Ru_needKiss_J28 at hev
    refine lv_iconst (v := (1 : Int32)) hx hb dX4_needKiss_28 (by decide) ?_
    refine lv_goto (tgt := 33) hx hb dX4_needKiss_29 (by decide) ?_
    exact J33 fT_kissesNeeded x1 x2 (1 : Int32) _ _ hP hD hS ls hev (lv_sub hl [0, 1, 2] rfl)
  unfold f_Ru_needKiss at hev
  refine lv_iload_n hx hb dX4_needKiss_0 rfl (lv_at hl 1 rfl) ?_
  refine lv_if_lt (tgt := 49) hx hb dX4_needKiss_1 (by decide) (fun c3 => ?_) (fun c3 => ?_)
  · replace hev := x_t c3 hev
    exact ret2 _ _ _ _ fT_kissesNeeded (Option.some.inj hev) dX4_needKiss_49 hP hD hS
  · replace hev := x_f c3 hev
    refine lv_iload_n hx hb dX4_needKiss_4 rfl (lv_at hl 1 rfl) ?_
    refine lv_iconst (v := (5 : Int32)) hx hb dX4_needKiss_5 (by decide) ?_
    refine lv_icmp_ge (tgt := 49) hx hb dX4_needKiss_6 (by decide) (fun c4 => ?_) (fun c4 => ?_)
    · replace hev := x_t c4 hev
      exact ret2 _ _ _ _ fT_kissesNeeded (Option.some.inj hev) dX4_needKiss_49 hP hD hS
    · replace hev := x_f c4 hev
      refine lv_aload_n hx hb dX4_needKiss_9 rfl (lv_at hl 0 rfl) ?_
      refine va_get (D := G.1) (ci := 2) (v := .ref aT_kissesNeeded) (C := RX4) (T := TX4) (N := 16) hx hb hts i4 hown hK hP 0 rfl rfl 6 (by decide) (hw _ u203) (fun _ h9 => h9) rfl dX4_needKiss_10 ?_
      refine lv_iload_n hx hb dX4_needKiss_13 rfl (lv_at hl 1 rfl) ?_
      obtain ⟨h5, hev⟩ := x_ld hev
      refine va_iald hx hb hK hP 1 0 rfl rfl h5 dX4_needKiss_14 ?_
      refine lv_topi (fun v6 ev6 => ?_)
      replace hev := hev v6 ev6
      refine lv_if_eq (tgt := 28) hx hb dX4_needKiss_15 (by decide) (fun c7 => ?_) (fun c7 => ?_)
      · replace hev := x_t c7 hev
        exact J28 fT_kissesNeeded p1 p2 _ _ hP hD hS ls hev (lv_sub hl [0, 1, 2] rfl)
      · replace hev := x_f c7 hev
        refine lv_aload_n hx hb dX4_needKiss_18 rfl (lv_at hl 0 rfl) ?_
        refine va_get (D := G.1) (ci := 2) (v := .ref aT_kissesNeeded) (C := RX4) (T := TX4) (N := 16) hx hb hts i4 hown hK hP 0 rfl rfl 6 (by decide) (hw _ u203) (fun _ h9 => h9) rfl dX4_needKiss_19 ?_
        refine lv_iload_n hx hb dX4_needKiss_22 rfl (lv_at hl 1 rfl) ?_
        obtain ⟨h8, hev⟩ := x_ld hev
        refine va_iald hx hb hK hP 1 0 rfl rfl h8 dX4_needKiss_23 ?_
        refine lv_topi (fun v9 ev9 => ?_)
        replace hev := hev v9 ev9
        refine lv_iload_n hx hb dX4_needKiss_24 rfl (lv_at hl 2 rfl) ?_
        refine lv_icmp_ne (tgt := 32) hx hb dX4_needKiss_25 (by decide) (fun c10 => ?_) (fun c10 => ?_)
        · replace hev := x_f c10 hev
          refine lv_iconst (v := (0 : Int32)) hx hb dX4_needKiss_32 (by decide) ?_
          exact J33 fT_kissesNeeded p1 p2 (0 : Int32) _ _ hP hD hS ls hev (lv_sub hl [0, 1, 2] rfl)
        · replace hev := x_t c10 hev
          exact J28 fT_kissesNeeded p1 p2 _ _ hP hD hS ls hev (lv_sub hl [0, 1, 2] rfl)
def f_Ru_needBits_J37 (fT_kissesNeeded : Nat → Int32) (fT_masks : Nat → Int32) (fT_values : Nat → Int32) (x1 : Int32) (x2 : Int32) (x3 : Int32) : Option ((Nat → Int32) × (Nat → Int32) × (Nat → Int32)) := x_I 5 fT_masks x1 (fun v2 => x_L ((v2 ||| x2)) (fun y3 => x_C 5 x1 (x_I 5 fT_values x1 (fun v6 => x_L ((v6 ||| x3)) (fun y7 => x_C 5 x1 (some (fT_kissesNeeded, (upd fT_masks (x1).toNatClampNeg y3), (upd fT_values (x1).toNatClampNeg y7))))))))
def f_Ru_needBits (fT_kissesNeeded : Nat → Int32) (fT_masks : Nat → Int32) (fT_values : Nat → Int32) (p1 : Int32) (p2 : Int32) (p3 : Int32) : Option ((Nat → Int32) × (Nat → Int32) × (Nat → Int32)) := if p1 < 0 then (some (fT_kissesNeeded, fT_masks, fT_values)) else if p1 < (5 : Int32) then (x_I 5 fT_masks p1 (fun v12 => x_I 5 fT_values p1 (fun v14 => if ((v12 &&& p2) &&& (v14 ^^^ p3)) = 0 then (f_Ru_needBits_J37 fT_kissesNeeded fT_masks fT_values p1 p2 p3) else x_C 5 p1 (f_Ru_needBits_J37 (upd fT_kissesNeeded (p1).toNatClampNeg (-1 : Int32)) fT_masks fT_values p1 p2 p3)))) else some (fT_kissesNeeded, fT_masks, fT_values)
set_option maxHeartbeats 8000000 in
set_option maxRecDepth 100000 in
theorem c_Ru_needBits (l : Launch) (G : GG) (aT aT_masks aT_values aT_askings aT_kissesNeeded aT_wakings aT_binders aT_curses aT_doers aT_sorts aT_whichs aT_bars aT_bits aT_kisses : Nat) (vT_people : Int32) (vT_spells : Int32) (vT_deedCount : Int32) (fT_masks : Nat → Int32) (fT_values : Nat → Int32) (fT_kissesNeeded : Nat → Int32) (p1 : Int32) (p2 : Int32) (p3 : Int32) (wfT_kissesNeeded : Nat → Int32) (wfT_masks : Nat → Int32) (wfT_values : Nat → Int32) (hev : f_Ru_needBits fT_kissesNeeded fT_masks fT_values p1 p2 p3 = some (wfT_kissesNeeded, wfT_masks, wfT_values)) : RW l G yX4_needBits cX4_needBits 4 none 0 [.ref aT, .int p1, .int p2, .int p3] [(aT, .inr (2, [.int vT_people, .int vT_spells, .int vT_deedCount, .ref aT_masks, .ref aT_values, .ref aT_askings, .ref aT_kissesNeeded, .ref aT_wakings, .ref aT_binders, .ref aT_curses, .ref aT_doers, .ref aT_sorts, .ref aT_whichs, .ref aT_bars, .ref aT_bits, .ref aT_kisses])), (aT_masks, .inl (G.2.1, 5, .inl fT_masks)), (aT_values, .inl (G.2.1, 5, .inl fT_values)), (aT_kissesNeeded, .inl (G.2.1, 5, .inl fT_kissesNeeded))] none [(aT, .inr (2, [.int vT_people, .int vT_spells, .int vT_deedCount, .ref aT_masks, .ref aT_values, .ref aT_askings, .ref aT_kissesNeeded, .ref aT_wakings, .ref aT_binders, .ref aT_curses, .ref aT_doers, .ref aT_sorts, .ref aT_whichs, .ref aT_bars, .ref aT_bits, .ref aT_kisses])), (aT_masks, .inl (G.2.1, 5, .inl wfT_masks)), (aT_values, .inl (G.2.1, 5, .inl wfT_values)), (aT_kissesNeeded, .inl (G.2.1, 5, .inl wfT_kissesNeeded))] 0 0 := by
  refine RW_of (by decide) (Nat.le_of_ble_eq_true rfl) ?_
  intro p e s m ar below meth c R Q A ls X hR hRc hin hP hKK hD hS hA hAb hl ret
  obtain ⟨rs, hrs⟩ : ∃ q, q = (wfT_kissesNeeded, wfT_masks, wfT_values) := ⟨_, rfl⟩
  rw [← hrs] at hev
  have ret2 : ∀ (pc : Nat) (ls : Array Slot) (H : Heap) (lo : List Loc) (zfT_kissesNeeded : Nat → Int32) (zfT_masks : Nat → Int32) (zfT_values : Nat → Int32), (zfT_kissesNeeded, zfT_masks, zfT_values) = rs → decode cX4_needBits pc = .ok (.return_, 1) → va_P G.1 classes [(aT, .inr (2, [.int vT_people, .int vT_spells, .int vT_deedCount, .ref aT_masks, .ref aT_values, .ref aT_askings, .ref aT_kissesNeeded, .ref aT_wakings, .ref aT_binders, .ref aT_curses, .ref aT_doers, .ref aT_sorts, .ref aT_whichs, .ref aT_bars, .ref aT_bits, .ref aT_kisses])), (aT_masks, .inl (G.2.1, 5, .inl zfT_masks)), (aT_values, .inl (G.2.1, 5, .inl zfT_values)), (aT_kissesNeeded, .inl (G.2.1, 5, .inl zfT_kissesNeeded))] H → va_D A [(aT, .inr (2, [.int vT_people, .int vT_spells, .int vT_deedCount, .ref aT_masks, .ref aT_values, .ref aT_askings, .ref aT_kissesNeeded, .ref aT_wakings, .ref aT_binders, .ref aT_curses, .ref aT_doers, .ref aT_sorts, .ref aT_whichs, .ref aT_bars, .ref aT_bits, .ref aT_kisses])), (aT_masks, .inl (G.2.1, 5, .inl zfT_masks)), (aT_values, .inl (G.2.1, 5, .inl zfT_values)), (aT_kissesNeeded, .inl (G.2.1, 5, .inl zfT_kissesNeeded))] → va_S A s.heap H lo → W p l e R s m ar below meth c H lo 0 0 Q (F0 m pc ls []) := by
    intro pc ls H lo zfT_kissesNeeded zfT_masks zfT_values he hd h1 h2 h3
    have he := he.trans hrs
    cases he
    exact ret.2.1 _ _ _ _ rfl rfl hd h1 h2 h3
  clear ret hrs
  have hl : lv_has ls 4 [(0, .ref aT), (1, .int p1), (2, .int p2), (3, .int p3)] := hl
  obtain ⟨hx, hb, hml, hown, hts, hT⟩ := id X
  have hK := hKK.1
  have hw : ∀ w ∈ T0, w.before ar s = true := fun w h => hts w (hT w h)
  have i4 := fun w h => hT w (inT4 w h)
  have J37 : ∀ (fT_kissesNeeded : Nat → Int32) (fT_masks : Nat → Int32) (fT_values : Nat → Int32) (x1 : Int32) (x2 : Int32) (x3 : Int32), ∀ (H : Heap) (lo : List Loc), va_P G.1 classes [(aT, .inr (2, [.int vT_people, .int vT_spells, .int vT_deedCount, .ref aT_masks, .ref aT_values, .ref aT_askings, .ref aT_kissesNeeded, .ref aT_wakings, .ref aT_binders, .ref aT_curses, .ref aT_doers, .ref aT_sorts, .ref aT_whichs, .ref aT_bars, .ref aT_bits, .ref aT_kisses])), (aT_masks, .inl (G.2.1, 5, .inl fT_masks)), (aT_values, .inl (G.2.1, 5, .inl fT_values)), (aT_kissesNeeded, .inl (G.2.1, 5, .inl fT_kissesNeeded))] H → va_D A [(aT, .inr (2, [.int vT_people, .int vT_spells, .int vT_deedCount, .ref aT_masks, .ref aT_values, .ref aT_askings, .ref aT_kissesNeeded, .ref aT_wakings, .ref aT_binders, .ref aT_curses, .ref aT_doers, .ref aT_sorts, .ref aT_whichs, .ref aT_bars, .ref aT_bits, .ref aT_kisses])), (aT_masks, .inl (G.2.1, 5, .inl fT_masks)), (aT_values, .inl (G.2.1, 5, .inl fT_values)), (aT_kissesNeeded, .inl (G.2.1, 5, .inl fT_kissesNeeded))] → va_S A s.heap H lo → ∀ (ls : Array Slot), f_Ru_needBits_J37 fT_kissesNeeded fT_masks fT_values x1 x2 x3 = some rs → lv_has ls 4 [(0, .ref aT), (1, .int x1), (2, .int x2), (3, .int x3)] → W p l e R s m ar below meth c H lo 0 0 Q (F0 m 37 ls []) := by
    intro fT_kissesNeeded fT_masks fT_values x1 x2 x3 H lo hP hD hS ls hev hl
    unfold f_Ru_needBits_J37 at hev
    refine lv_aload_n hx hb dX4_needBits_37 rfl (lv_at hl 0 rfl) ?_
    refine va_get (D := G.1) (ci := 2) (v := .ref aT_masks) (C := RX4) (T := TX4) (N := 16) hx hb hts i4 hown hK hP 0 rfl rfl 3 (by decide) (hw _ u200) (fun _ h9 => h9) rfl dX4_needBits_38 ?_
    refine lv_iload_n hx hb dX4_needBits_41 rfl (lv_at hl 1 rfl) ?_
    refine lv_dup2_11 hx hb dX4_needBits_42 rfl rfl ?_
    obtain ⟨h1, hev⟩ := x_ld hev
    refine va_iald hx hb hK hP 1 0 rfl rfl h1 dX4_needBits_43 ?_
    refine lv_topi (fun v2 ev2 => ?_)
    replace hev := hev v2 ev2
    refine lv_iload_n hx hb dX4_needBits_44 rfl (lv_at hl 2 rfl) ?_
    refine lv_ior hx hb dX4_needBits_45 ?_
    refine lv_topi (fun y3 ey3 => ?_)
    replace hev := x_lt hev y3 ey3
    obtain ⟨h4, hev⟩ := x_ck hev
    refine va_iast hx hb hK hP hD hS 1 0 rfl rfl h4 dX4_needBits_46 (fun H lo hP hD hS => ?_)
    refine lv_aload_n hx hb dX4_needBits_47 rfl (lv_at hl 0 rfl) ?_
    refine va_get (D := G.1) (ci := 2) (v := .ref aT_values) (C := RX4) (T := TX4) (N := 16) hx hb hts i4 hown hK hP 0 rfl rfl 4 (by decide) (hw _ u201) (fun _ h9 => h9) rfl dX4_needBits_48 ?_
    refine lv_iload_n hx hb dX4_needBits_51 rfl (lv_at hl 1 rfl) ?_
    refine lv_dup2_11 hx hb dX4_needBits_52 rfl rfl ?_
    obtain ⟨h5, hev⟩ := x_ld hev
    refine va_iald hx hb hK hP 2 0 rfl rfl h5 dX4_needBits_53 ?_
    refine lv_topi (fun v6 ev6 => ?_)
    replace hev := hev v6 ev6
    refine lv_iload_n hx hb dX4_needBits_54 rfl (lv_at hl 3 rfl) ?_
    refine lv_ior hx hb dX4_needBits_55 ?_
    refine lv_topi (fun y7 ey7 => ?_)
    replace hev := x_lt hev y7 ey7
    obtain ⟨h8, hev⟩ := x_ck hev
    refine va_iast hx hb hK hP hD hS 2 0 rfl rfl h8 dX4_needBits_56 (fun H lo hP hD hS => ?_)
    exact ret2 _ _ _ _ fT_kissesNeeded (upd fT_masks (x1).toNatClampNeg y3) (upd fT_values (x1).toNatClampNeg y7) (Option.some.inj hev) dX4_needBits_57 hP hD hS
  unfold f_Ru_needBits at hev
  refine lv_iload_n hx hb dX4_needBits_0 rfl (lv_at hl 1 rfl) ?_
  refine lv_if_lt (tgt := 9) hx hb dX4_needBits_1 (by decide) (fun c9 => ?_) (fun c9 => ?_)
  · replace hev := x_t c9 hev
    exact ret2 _ _ _ _ fT_kissesNeeded fT_masks fT_values (Option.some.inj hev) dX4_needBits_9 hP hD hS
  · replace hev := x_f c9 hev
    refine lv_iload_n hx hb dX4_needBits_4 rfl (lv_at hl 1 rfl) ?_
    refine lv_iconst (v := (5 : Int32)) hx hb dX4_needBits_5 (by decide) ?_
    refine lv_icmp_lt (tgt := 10) hx hb dX4_needBits_6 (by decide) (fun c10 => ?_) (fun c10 => ?_)
    · replace hev := x_t c10 hev
      refine lv_aload_n hx hb dX4_needBits_10 rfl (lv_at hl 0 rfl) ?_
      refine va_get (D := G.1) (ci := 2) (v := .ref aT_masks) (C := RX4) (T := TX4) (N := 16) hx hb hts i4 hown hK hP 0 rfl rfl 3 (by decide) (hw _ u200) (fun _ h9 => h9) rfl dX4_needBits_11 ?_
      refine lv_iload_n hx hb dX4_needBits_14 rfl (lv_at hl 1 rfl) ?_
      obtain ⟨h11, hev⟩ := x_ld hev
      refine va_iald hx hb hK hP 1 0 rfl rfl h11 dX4_needBits_15 ?_
      refine lv_topi (fun v12 ev12 => ?_)
      replace hev := hev v12 ev12
      refine lv_iload_n hx hb dX4_needBits_16 rfl (lv_at hl 2 rfl) ?_
      refine lv_iand hx hb dX4_needBits_17 ?_
      refine lv_aload_n hx hb dX4_needBits_18 rfl (lv_at hl 0 rfl) ?_
      refine va_get (D := G.1) (ci := 2) (v := .ref aT_values) (C := RX4) (T := TX4) (N := 16) hx hb hts i4 hown hK hP 0 rfl rfl 4 (by decide) (hw _ u201) (fun _ h9 => h9) rfl dX4_needBits_19 ?_
      refine lv_iload_n hx hb dX4_needBits_22 rfl (lv_at hl 1 rfl) ?_
      obtain ⟨h13, hev⟩ := x_ld hev
      refine va_iald hx hb hK hP 2 0 rfl rfl h13 dX4_needBits_23 ?_
      refine lv_topi (fun v14 ev14 => ?_)
      replace hev := hev v14 ev14
      refine lv_iload_n hx hb dX4_needBits_24 rfl (lv_at hl 3 rfl) ?_
      refine lv_ixor hx hb dX4_needBits_25 ?_
      refine lv_iand hx hb dX4_needBits_26 ?_
      refine lv_if_eq (tgt := 37) hx hb dX4_needBits_27 (by decide) (fun c15 => ?_) (fun c15 => ?_)
      · replace hev := x_t c15 hev
        exact J37 fT_kissesNeeded fT_masks fT_values p1 p2 p3 _ _ hP hD hS ls hev (lv_sub hl [0, 1, 2, 3] rfl)
      · replace hev := x_f c15 hev
        refine lv_aload_n hx hb dX4_needBits_30 rfl (lv_at hl 0 rfl) ?_
        refine va_get (D := G.1) (ci := 2) (v := .ref aT_kissesNeeded) (C := RX4) (T := TX4) (N := 16) hx hb hts i4 hown hK hP 0 rfl rfl 6 (by decide) (hw _ u203) (fun _ h9 => h9) rfl dX4_needBits_31 ?_
        refine lv_iload_n hx hb dX4_needBits_34 rfl (lv_at hl 1 rfl) ?_
        refine lv_iconst (v := (-1 : Int32)) hx hb dX4_needBits_35 (by decide) ?_
        obtain ⟨h16, hev⟩ := x_ck hev
        refine va_iast hx hb hK hP hD hS 3 0 rfl rfl h16 dX4_needBits_36 (fun H lo hP hD hS => ?_)
        exact J37 (upd fT_kissesNeeded (p1).toNatClampNeg (-1 : Int32)) fT_masks fT_values p1 p2 p3 _ _ hP hD hS ls hev (lv_sub hl [0, 1, 2, 3] rfl)
    · replace hev := x_f c10 hev
      exact ret2 _ _ _ _ fT_kissesNeeded fT_masks fT_values (Option.some.inj hev) dX4_needBits_9 hP hD hS
def f_Ru_learnSpell_J192 (rec : Int32 → (Nat → Int32) → (Nat → Int32) → (Nat → Int32) → (Nat → Int32) → Option ((Nat → Int32) × (Nat → Int32) × (Nat → Int32) × (Nat → Int32))) (k : Nat) (vP1_spells : Int32) (fP1_kinds : Nat → Int32) (fP1_numbers : Nat → Int32) (fP1_sorts : Nat → Int32) (fP1_targets : Nat → Int32) (fP1_terms : Nat → Int32) (fP1_wakes : Nat → Int32) (fT_askings : Nat → Int32) (fT_binders : Nat → Int32) (fT_kissesNeeded : Nat → Int32) (fT_masks : Nat → Int32) (fT_values : Nat → Int32) (fT_wakings : Nat → Int32) (x2 : Int32) (x4 : Int32) : Option ((Nat → Int32) × (Nat → Int32) × (Nat → Int32) × (Nat → Int32)) := x_L (x4 + (1 : Int32)) (fun y2 => rec y2 fT_askings fT_kissesNeeded fT_masks fT_values)
def f_Ru_learnSpell_J140 (rec : Int32 → (Nat → Int32) → (Nat → Int32) → (Nat → Int32) → (Nat → Int32) → Option ((Nat → Int32) × (Nat → Int32) × (Nat → Int32) × (Nat → Int32))) (k : Nat) (vP1_spells : Int32) (fP1_kinds : Nat → Int32) (fP1_numbers : Nat → Int32) (fP1_sorts : Nat → Int32) (fP1_targets : Nat → Int32) (fP1_terms : Nat → Int32) (fP1_wakes : Nat → Int32) (fT_askings : Nat → Int32) (fT_binders : Nat → Int32) (fT_kissesNeeded : Nat → Int32) (fT_masks : Nat → Int32) (fT_values : Nat → Int32) (fT_wakings : Nat → Int32) (x2 : Int32) (x4 : Int32) (s0 : Int32) (s1 : Int32) : Option ((Nat → Int32) × (Nat → Int32) × (Nat → Int32) × (Nat → Int32)) := x_B (f_Ru_needKiss fT_kissesNeeded s1 s0) (fun w3 => f_Ru_learnSpell_J192 rec k vP1_spells fP1_kinds fP1_numbers fP1_sorts fP1_targets fP1_terms fP1_wakes fT_askings fT_binders w3 fT_masks fT_values fT_wakings x2 x4)
def f_Ru_learnSpell_L76 (vP1_spells : Int32) (fP1_kinds : Nat → Int32) (fP1_numbers : Nat → Int32) (fP1_sorts : Nat → Int32) (fP1_targets : Nat → Int32) (fP1_terms : Nat → Int32) (fP1_wakes : Nat → Int32) (fT_binders : Nat → Int32) (fT_wakings : Nat → Int32) (x2 : Int32) : Nat → Int32 → (Nat → Int32) → (Nat → Int32) → (Nat → Int32) → (Nat → Int32) → Option ((Nat → Int32) × (Nat → Int32) × (Nat → Int32) × (Nat → Int32))
  | 0, _, _, _, _, _ => none
  | k + 1, x4, fT_askings, fT_kissesNeeded, fT_masks, fT_values => if (3 : Int32) ≤ x4 then (some (fT_askings, fT_kissesNeeded, fT_masks, fT_values)) else x_B (f_To_termsOf vP1_spells fP1_terms x2) (fun y5 => if y5 ≤ x4 then (some (fT_askings, fT_kissesNeeded, fT_masks, fT_values)) else x_B (f_To_sortOf vP1_spells fP1_sorts fP1_terms x2 x4) (fun y7 => x_B (f_To_numberOf vP1_spells fP1_numbers fP1_terms x2 x4) (fun y8 => if y7 = 0 then (x_B (f_To_kindOf vP1_spells fP1_kinds x2) (fun y20 => if y20 = (3 : Int32) then (f_Ru_learnSpell_J140 (f_Ru_learnSpell_L76 vP1_spells fP1_kinds fP1_numbers fP1_sorts fP1_targets fP1_terms fP1_wakes fT_binders fT_wakings x2 k) k vP1_spells fP1_kinds fP1_numbers fP1_sorts fP1_targets fP1_terms fP1_wakes fT_askings fT_binders fT_kissesNeeded fT_masks fT_values fT_wakings x2 x4 (-1 : Int32) x2) else x_B (f_To_targetOf vP1_spells fP1_targets x2) (fun y22 => x_B (f_Ru_kissOf y8 y22) (fun y23 => f_Ru_learnSpell_J140 (f_Ru_learnSpell_L76 vP1_spells fP1_kinds fP1_numbers fP1_sorts fP1_targets fP1_terms fP1_wakes fT_binders fT_wakings x2 k) k vP1_spells fP1_kinds fP1_numbers fP1_sorts fP1_targets fP1_terms fP1_wakes fT_askings fT_binders fT_kissesNeeded fT_masks fT_values fT_wakings x2 x4 y23 x2)))) else if y7 = (7 : Int32) then (x_I 5 fT_askings x2 (fun v17 => x_L ((if v17 < y8 then y8 else v17)) (fun y18 => x_C 5 x2 (f_Ru_learnSpell_J192 (f_Ru_learnSpell_L76 vP1_spells fP1_kinds fP1_numbers fP1_sorts fP1_targets fP1_terms fP1_wakes fT_binders fT_wakings x2 k) k vP1_spells fP1_kinds fP1_numbers fP1_sorts fP1_targets fP1_terms fP1_wakes (upd fT_askings (x2).toNatClampNeg y18) fT_binders fT_kissesNeeded fT_masks fT_values fT_wakings x2 x4)))) else x_B (f_Tm_maskOf y7 y8) (fun y11 => x_B (f_Tm_valueOf y7 y8) (fun y12 => x_B (f_Ru_needBits fT_kissesNeeded fT_masks fT_values x2 y11 y12) (fun ⟨w13, w14, w15⟩ => f_Ru_learnSpell_J192 (f_Ru_learnSpell_L76 vP1_spells fP1_kinds fP1_numbers fP1_sorts fP1_targets fP1_terms fP1_wakes fT_binders fT_wakings x2 k) k vP1_spells fP1_kinds fP1_numbers fP1_sorts fP1_targets fP1_terms fP1_wakes fT_askings fT_binders w13 w14 w15 fT_wakings x2 x4))))))
def f_Ru_learnSpell_J72 (k : Nat) (vP1_spells : Int32) (fP1_kinds : Nat → Int32) (fP1_numbers : Nat → Int32) (fP1_sorts : Nat → Int32) (fP1_targets : Nat → Int32) (fP1_terms : Nat → Int32) (fP1_wakes : Nat → Int32) (fT_askings : Nat → Int32) (fT_binders : Nat → Int32) (fT_kissesNeeded : Nat → Int32) (fT_masks : Nat → Int32) (fT_values : Nat → Int32) (fT_wakings : Nat → Int32) (x2 : Int32) (s0 : Int32) (s1 : Int32) : Option ((Nat → Int32) × (Nat → Int32) × (Nat → Int32) × (Nat → Int32) × (Nat → Int32)) := x_C 5 s1 (x_B (f_Ru_learnSpell_L76 vP1_spells fP1_kinds fP1_numbers fP1_sorts fP1_targets fP1_terms fP1_wakes fT_binders (upd fT_wakings (s1).toNatClampNeg s0) x2 k (0 : Int32) fT_askings fT_kissesNeeded fT_masks fT_values) (fun ⟨w24, w25, w26, w27⟩ => some (w24, w25, w26, w27, (upd fT_wakings (s1).toNatClampNeg s0))))
def f_Ru_learnSpell (k : Nat) (vP1_spells : Int32) (fP1_kinds : Nat → Int32) (fP1_numbers : Nat → Int32) (fP1_sorts : Nat → Int32) (fP1_targets : Nat → Int32) (fP1_terms : Nat → Int32) (fP1_wakes : Nat → Int32) (fT_askings : Nat → Int32) (fT_binders : Nat → Int32) (fT_kissesNeeded : Nat → Int32) (fT_masks : Nat → Int32) (fT_values : Nat → Int32) (fT_wakings : Nat → Int32) (p2 : Int32) : Option ((Nat → Int32) × (Nat → Int32) × (Nat → Int32) × (Nat → Int32) × (Nat → Int32)) := if p2 < 0 then (some (fT_askings, fT_kissesNeeded, fT_masks, fT_values, fT_wakings)) else if p2 < (5 : Int32) then (x_I 5 fT_binders p2 (fun v31 => x_L ((((1 : Int32) <<< (p2 &&& 31)) ||| v31)) (fun y32 => x_C 5 p2 (x_L (((1 : Int32) <<< (p2 &&& 31))) (fun y34 => x_C 5 p2 (x_C 5 p2 (x_C 5 p2 (x_B (f_To_wakenedBy vP1_spells fP1_wakes p2) (fun y38 => if y38 = (-1 : Int32) then (f_Ru_learnSpell_J72 k vP1_spells fP1_kinds fP1_numbers fP1_sorts fP1_targets fP1_terms fP1_wakes (upd fT_askings (p2).toNatClampNeg (0 : Int32)) fT_binders (upd fT_kissesNeeded (p2).toNatClampNeg (0 : Int32)) (upd fT_masks (p2).toNatClampNeg y32) (upd fT_values (p2).toNatClampNeg y34) fT_wakings p2 (0 : Int32) p2) else f_Ru_learnSpell_J72 k vP1_spells fP1_kinds fP1_numbers fP1_sorts fP1_targets fP1_terms fP1_wakes (upd fT_askings (p2).toNatClampNeg (0 : Int32)) fT_binders (upd fT_kissesNeeded (p2).toNatClampNeg (0 : Int32)) (upd fT_masks (p2).toNatClampNeg y32) (upd fT_values (p2).toNatClampNeg y34) fT_wakings p2 ((1 : Int32) <<< (y38 &&& 31)) p2))))))))) else some (fT_askings, fT_kissesNeeded, fT_masks, fT_values, fT_wakings)
set_option maxHeartbeats 8000000 in
set_option maxRecDepth 100000 in
theorem c_Ru_learnSpell (l : Launch) (G : GG) (aT aT_masks aT_values aT_askings aT_kissesNeeded aT_wakings aT_binders aT_curses aT_doers aT_sorts aT_whichs aT_bars aT_bits aT_kisses aP1 aP1_kinds aP1_targets aP1_wakes aP1_terms aP1_sorts aP1_numbers : Nat) (vT_people : Int32) (vT_spells : Int32) (vT_deedCount : Int32) (vP1_people : Int32) (vP1_spells : Int32) (vP1_day : Int32) (vP1_broken : Int32) (fT_binders : Nat → Int32) (fT_masks : Nat → Int32) (fT_values : Nat → Int32) (fT_askings : Nat → Int32) (fT_kissesNeeded : Nat → Int32) (fP1_wakes : Nat → Int32) (fT_wakings : Nat → Int32) (fP1_terms : Nat → Int32) (fP1_sorts : Nat → Int32) (fP1_numbers : Nat → Int32) (fP1_kinds : Nat → Int32) (fP1_targets : Nat → Int32) (k : Nat) (p2 : Int32) (wfT_askings : Nat → Int32) (wfT_kissesNeeded : Nat → Int32) (wfT_masks : Nat → Int32) (wfT_values : Nat → Int32) (wfT_wakings : Nat → Int32) (hev : f_Ru_learnSpell k vP1_spells fP1_kinds fP1_numbers fP1_sorts fP1_targets fP1_terms fP1_wakes fT_askings fT_binders fT_kissesNeeded fT_masks fT_values fT_wakings p2 = some (wfT_askings, wfT_kissesNeeded, wfT_masks, wfT_values, wfT_wakings)) : RW l G yX4_learnSpell cX4_learnSpell 7 none 3 [.ref aT, .ref aP1, .int p2] [(aT, .inr (2, [.int vT_people, .int vT_spells, .int vT_deedCount, .ref aT_masks, .ref aT_values, .ref aT_askings, .ref aT_kissesNeeded, .ref aT_wakings, .ref aT_binders, .ref aT_curses, .ref aT_doers, .ref aT_sorts, .ref aT_whichs, .ref aT_bars, .ref aT_bits, .ref aT_kisses])), (aP1, .inr (4, [.int vP1_people, .int vP1_spells, .int vP1_day, .int vP1_broken, .ref aP1_kinds, .ref aP1_targets, .ref aP1_wakes, .ref aP1_terms, .ref aP1_sorts, .ref aP1_numbers])), (aT_binders, .inl (G.2.1, 5, .inl fT_binders)), (aT_masks, .inl (G.2.1, 5, .inl fT_masks)), (aT_values, .inl (G.2.1, 5, .inl fT_values)), (aT_askings, .inl (G.2.1, 5, .inl fT_askings)), (aT_kissesNeeded, .inl (G.2.1, 5, .inl fT_kissesNeeded)), (aP1_wakes, .inl (G.2.1, 5, .inl fP1_wakes)), (aT_wakings, .inl (G.2.1, 5, .inl fT_wakings)), (aP1_terms, .inl (G.2.1, 5, .inl fP1_terms)), (aP1_sorts, .inl (G.2.1, 15, .inl fP1_sorts)), (aP1_numbers, .inl (G.2.1, 15, .inl fP1_numbers)), (aP1_kinds, .inl (G.2.1, 5, .inl fP1_kinds)), (aP1_targets, .inl (G.2.1, 5, .inl fP1_targets))] none [(aT, .inr (2, [.int vT_people, .int vT_spells, .int vT_deedCount, .ref aT_masks, .ref aT_values, .ref aT_askings, .ref aT_kissesNeeded, .ref aT_wakings, .ref aT_binders, .ref aT_curses, .ref aT_doers, .ref aT_sorts, .ref aT_whichs, .ref aT_bars, .ref aT_bits, .ref aT_kisses])), (aP1, .inr (4, [.int vP1_people, .int vP1_spells, .int vP1_day, .int vP1_broken, .ref aP1_kinds, .ref aP1_targets, .ref aP1_wakes, .ref aP1_terms, .ref aP1_sorts, .ref aP1_numbers])), (aT_binders, .inl (G.2.1, 5, .inl fT_binders)), (aT_masks, .inl (G.2.1, 5, .inl wfT_masks)), (aT_values, .inl (G.2.1, 5, .inl wfT_values)), (aT_askings, .inl (G.2.1, 5, .inl wfT_askings)), (aT_kissesNeeded, .inl (G.2.1, 5, .inl wfT_kissesNeeded)), (aP1_wakes, .inl (G.2.1, 5, .inl fP1_wakes)), (aT_wakings, .inl (G.2.1, 5, .inl wfT_wakings)), (aP1_terms, .inl (G.2.1, 5, .inl fP1_terms)), (aP1_sorts, .inl (G.2.1, 15, .inl fP1_sorts)), (aP1_numbers, .inl (G.2.1, 15, .inl fP1_numbers)), (aP1_kinds, .inl (G.2.1, 5, .inl fP1_kinds)), (aP1_targets, .inl (G.2.1, 5, .inl fP1_targets))] 0 0 := by
  refine RW_of (by decide) (Nat.le_of_ble_eq_true rfl) ?_
  intro p e s m ar below meth c R Q A ls X hR hRc hin hP hKK hD hS hA hAb hl ret
  obtain ⟨rs, hrs⟩ : ∃ q, q = (wfT_askings, wfT_kissesNeeded, wfT_masks, wfT_values, wfT_wakings) := ⟨_, rfl⟩
  rw [← hrs] at hev
  have ret2 : ∀ (pc : Nat) (ls : Array Slot) (H : Heap) (lo : List Loc) (zfT_askings : Nat → Int32) (zfT_kissesNeeded : Nat → Int32) (zfT_masks : Nat → Int32) (zfT_values : Nat → Int32) (zfT_wakings : Nat → Int32), (zfT_askings, zfT_kissesNeeded, zfT_masks, zfT_values, zfT_wakings) = rs → decode cX4_learnSpell pc = .ok (.return_, 1) → va_P G.1 classes [(aT, .inr (2, [.int vT_people, .int vT_spells, .int vT_deedCount, .ref aT_masks, .ref aT_values, .ref aT_askings, .ref aT_kissesNeeded, .ref aT_wakings, .ref aT_binders, .ref aT_curses, .ref aT_doers, .ref aT_sorts, .ref aT_whichs, .ref aT_bars, .ref aT_bits, .ref aT_kisses])), (aP1, .inr (4, [.int vP1_people, .int vP1_spells, .int vP1_day, .int vP1_broken, .ref aP1_kinds, .ref aP1_targets, .ref aP1_wakes, .ref aP1_terms, .ref aP1_sorts, .ref aP1_numbers])), (aT_binders, .inl (G.2.1, 5, .inl fT_binders)), (aT_masks, .inl (G.2.1, 5, .inl zfT_masks)), (aT_values, .inl (G.2.1, 5, .inl zfT_values)), (aT_askings, .inl (G.2.1, 5, .inl zfT_askings)), (aT_kissesNeeded, .inl (G.2.1, 5, .inl zfT_kissesNeeded)), (aP1_wakes, .inl (G.2.1, 5, .inl fP1_wakes)), (aT_wakings, .inl (G.2.1, 5, .inl zfT_wakings)), (aP1_terms, .inl (G.2.1, 5, .inl fP1_terms)), (aP1_sorts, .inl (G.2.1, 15, .inl fP1_sorts)), (aP1_numbers, .inl (G.2.1, 15, .inl fP1_numbers)), (aP1_kinds, .inl (G.2.1, 5, .inl fP1_kinds)), (aP1_targets, .inl (G.2.1, 5, .inl fP1_targets))] H → va_D A [(aT, .inr (2, [.int vT_people, .int vT_spells, .int vT_deedCount, .ref aT_masks, .ref aT_values, .ref aT_askings, .ref aT_kissesNeeded, .ref aT_wakings, .ref aT_binders, .ref aT_curses, .ref aT_doers, .ref aT_sorts, .ref aT_whichs, .ref aT_bars, .ref aT_bits, .ref aT_kisses])), (aP1, .inr (4, [.int vP1_people, .int vP1_spells, .int vP1_day, .int vP1_broken, .ref aP1_kinds, .ref aP1_targets, .ref aP1_wakes, .ref aP1_terms, .ref aP1_sorts, .ref aP1_numbers])), (aT_binders, .inl (G.2.1, 5, .inl fT_binders)), (aT_masks, .inl (G.2.1, 5, .inl zfT_masks)), (aT_values, .inl (G.2.1, 5, .inl zfT_values)), (aT_askings, .inl (G.2.1, 5, .inl zfT_askings)), (aT_kissesNeeded, .inl (G.2.1, 5, .inl zfT_kissesNeeded)), (aP1_wakes, .inl (G.2.1, 5, .inl fP1_wakes)), (aT_wakings, .inl (G.2.1, 5, .inl zfT_wakings)), (aP1_terms, .inl (G.2.1, 5, .inl fP1_terms)), (aP1_sorts, .inl (G.2.1, 15, .inl fP1_sorts)), (aP1_numbers, .inl (G.2.1, 15, .inl fP1_numbers)), (aP1_kinds, .inl (G.2.1, 5, .inl fP1_kinds)), (aP1_targets, .inl (G.2.1, 5, .inl fP1_targets))] → va_S A s.heap H lo → W p l e R s m ar below meth c H lo 0 0 Q (F0 m pc ls []) := by
    intro pc ls H lo zfT_askings zfT_kissesNeeded zfT_masks zfT_values zfT_wakings he hd h1 h2 h3
    have he := he.trans hrs
    cases he
    exact ret.2.1 _ _ _ _ rfl rfl hd h1 h2 h3
  clear ret hrs
  have hl : lv_has ls 7 [(0, .ref aT), (1, .ref aP1), (2, .int p2)] := hl
  obtain ⟨hx, hb, hml, hown, hts, hT⟩ := id X
  have hK := hKK.1
  have hw : ∀ w ∈ T0, w.before ar s = true := fun w h => hts w (hT w h)
  have i4 := fun w h => hT w (inT4 w h)
  have J72 : ∀ (fT_askings : Nat → Int32) (fT_kissesNeeded : Nat → Int32) (fT_masks : Nat → Int32) (fT_values : Nat → Int32) (fT_wakings : Nat → Int32) (x2 : Int32) (s0 : Int32) (s1 : Int32), ∀ (H : Heap) (lo : List Loc), va_P G.1 classes [(aT, .inr (2, [.int vT_people, .int vT_spells, .int vT_deedCount, .ref aT_masks, .ref aT_values, .ref aT_askings, .ref aT_kissesNeeded, .ref aT_wakings, .ref aT_binders, .ref aT_curses, .ref aT_doers, .ref aT_sorts, .ref aT_whichs, .ref aT_bars, .ref aT_bits, .ref aT_kisses])), (aP1, .inr (4, [.int vP1_people, .int vP1_spells, .int vP1_day, .int vP1_broken, .ref aP1_kinds, .ref aP1_targets, .ref aP1_wakes, .ref aP1_terms, .ref aP1_sorts, .ref aP1_numbers])), (aT_binders, .inl (G.2.1, 5, .inl fT_binders)), (aT_masks, .inl (G.2.1, 5, .inl fT_masks)), (aT_values, .inl (G.2.1, 5, .inl fT_values)), (aT_askings, .inl (G.2.1, 5, .inl fT_askings)), (aT_kissesNeeded, .inl (G.2.1, 5, .inl fT_kissesNeeded)), (aP1_wakes, .inl (G.2.1, 5, .inl fP1_wakes)), (aT_wakings, .inl (G.2.1, 5, .inl fT_wakings)), (aP1_terms, .inl (G.2.1, 5, .inl fP1_terms)), (aP1_sorts, .inl (G.2.1, 15, .inl fP1_sorts)), (aP1_numbers, .inl (G.2.1, 15, .inl fP1_numbers)), (aP1_kinds, .inl (G.2.1, 5, .inl fP1_kinds)), (aP1_targets, .inl (G.2.1, 5, .inl fP1_targets))] H → va_D A [(aT, .inr (2, [.int vT_people, .int vT_spells, .int vT_deedCount, .ref aT_masks, .ref aT_values, .ref aT_askings, .ref aT_kissesNeeded, .ref aT_wakings, .ref aT_binders, .ref aT_curses, .ref aT_doers, .ref aT_sorts, .ref aT_whichs, .ref aT_bars, .ref aT_bits, .ref aT_kisses])), (aP1, .inr (4, [.int vP1_people, .int vP1_spells, .int vP1_day, .int vP1_broken, .ref aP1_kinds, .ref aP1_targets, .ref aP1_wakes, .ref aP1_terms, .ref aP1_sorts, .ref aP1_numbers])), (aT_binders, .inl (G.2.1, 5, .inl fT_binders)), (aT_masks, .inl (G.2.1, 5, .inl fT_masks)), (aT_values, .inl (G.2.1, 5, .inl fT_values)), (aT_askings, .inl (G.2.1, 5, .inl fT_askings)), (aT_kissesNeeded, .inl (G.2.1, 5, .inl fT_kissesNeeded)), (aP1_wakes, .inl (G.2.1, 5, .inl fP1_wakes)), (aT_wakings, .inl (G.2.1, 5, .inl fT_wakings)), (aP1_terms, .inl (G.2.1, 5, .inl fP1_terms)), (aP1_sorts, .inl (G.2.1, 15, .inl fP1_sorts)), (aP1_numbers, .inl (G.2.1, 15, .inl fP1_numbers)), (aP1_kinds, .inl (G.2.1, 5, .inl fP1_kinds)), (aP1_targets, .inl (G.2.1, 5, .inl fP1_targets))] → va_S A s.heap H lo → ∀ (ls : Array Slot), f_Ru_learnSpell_J72 k vP1_spells fP1_kinds fP1_numbers fP1_sorts fP1_targets fP1_terms fP1_wakes fT_askings fT_binders fT_kissesNeeded fT_masks fT_values fT_wakings x2 s0 s1 = some rs → lv_has ls 7 [(0, .ref aT), (1, .ref aP1), (2, .int x2)] → W p l e R s m ar below meth c H lo 0 0 Q (F0 m 72 ls [.int s0, .int s1, .ref aT_wakings]) := by
    intro fT_askings fT_kissesNeeded fT_masks fT_values fT_wakings x2 s0 s1 H lo hP hD hS ls hev hl
    unfold f_Ru_learnSpell_J72 at hev
    obtain ⟨h1, hev⟩ := x_ck hev
    refine va_iast hx hb hK hP hD hS 8 0 rfl rfl h1 dX4_learnSpell_72 (fun H lo hP hD hS => ?_)
    refine lv_iconst (v := (0 : Int32)) hx hb dX4_learnSpell_73 (by decide) ?_
    refine lv_istore (lv' := [(4, .int (0 : Int32)), (0, .ref aT), (1, .ref aP1), (2, .int x2)]) hx hb dX4_learnSpell_74 hl (by decide) rfl (fun ls hl => ?_)
    have L76 : ∀ (fT_wakings : Nat → Int32) (x2 : Int32), ∀ (k : Nat) (x4 : Int32) (fT_askings : Nat → Int32) (fT_kissesNeeded : Nat → Int32) (fT_masks : Nat → Int32) (fT_values : Nat → Int32) (ofT_askings : Nat → Int32) (ofT_kissesNeeded : Nat → Int32) (ofT_masks : Nat → Int32) (ofT_values : Nat → Int32), f_Ru_learnSpell_L76 vP1_spells fP1_kinds fP1_numbers fP1_sorts fP1_targets fP1_terms fP1_wakes fT_binders fT_wakings x2 k x4 fT_askings fT_kissesNeeded fT_masks fT_values = some (ofT_askings, ofT_kissesNeeded, ofT_masks, ofT_values) → (∀ (H : Heap) (lo : List Loc), va_P G.1 classes [(aT, .inr (2, [.int vT_people, .int vT_spells, .int vT_deedCount, .ref aT_masks, .ref aT_values, .ref aT_askings, .ref aT_kissesNeeded, .ref aT_wakings, .ref aT_binders, .ref aT_curses, .ref aT_doers, .ref aT_sorts, .ref aT_whichs, .ref aT_bars, .ref aT_bits, .ref aT_kisses])), (aP1, .inr (4, [.int vP1_people, .int vP1_spells, .int vP1_day, .int vP1_broken, .ref aP1_kinds, .ref aP1_targets, .ref aP1_wakes, .ref aP1_terms, .ref aP1_sorts, .ref aP1_numbers])), (aT_binders, .inl (G.2.1, 5, .inl fT_binders)), (aT_masks, .inl (G.2.1, 5, .inl ofT_masks)), (aT_values, .inl (G.2.1, 5, .inl ofT_values)), (aT_askings, .inl (G.2.1, 5, .inl ofT_askings)), (aT_kissesNeeded, .inl (G.2.1, 5, .inl ofT_kissesNeeded)), (aP1_wakes, .inl (G.2.1, 5, .inl fP1_wakes)), (aT_wakings, .inl (G.2.1, 5, .inl fT_wakings)), (aP1_terms, .inl (G.2.1, 5, .inl fP1_terms)), (aP1_sorts, .inl (G.2.1, 15, .inl fP1_sorts)), (aP1_numbers, .inl (G.2.1, 15, .inl fP1_numbers)), (aP1_kinds, .inl (G.2.1, 5, .inl fP1_kinds)), (aP1_targets, .inl (G.2.1, 5, .inl fP1_targets))] H → va_D A [(aT, .inr (2, [.int vT_people, .int vT_spells, .int vT_deedCount, .ref aT_masks, .ref aT_values, .ref aT_askings, .ref aT_kissesNeeded, .ref aT_wakings, .ref aT_binders, .ref aT_curses, .ref aT_doers, .ref aT_sorts, .ref aT_whichs, .ref aT_bars, .ref aT_bits, .ref aT_kisses])), (aP1, .inr (4, [.int vP1_people, .int vP1_spells, .int vP1_day, .int vP1_broken, .ref aP1_kinds, .ref aP1_targets, .ref aP1_wakes, .ref aP1_terms, .ref aP1_sorts, .ref aP1_numbers])), (aT_binders, .inl (G.2.1, 5, .inl fT_binders)), (aT_masks, .inl (G.2.1, 5, .inl ofT_masks)), (aT_values, .inl (G.2.1, 5, .inl ofT_values)), (aT_askings, .inl (G.2.1, 5, .inl ofT_askings)), (aT_kissesNeeded, .inl (G.2.1, 5, .inl ofT_kissesNeeded)), (aP1_wakes, .inl (G.2.1, 5, .inl fP1_wakes)), (aT_wakings, .inl (G.2.1, 5, .inl fT_wakings)), (aP1_terms, .inl (G.2.1, 5, .inl fP1_terms)), (aP1_sorts, .inl (G.2.1, 15, .inl fP1_sorts)), (aP1_numbers, .inl (G.2.1, 15, .inl fP1_numbers)), (aP1_kinds, .inl (G.2.1, 5, .inl fP1_kinds)), (aP1_targets, .inl (G.2.1, 5, .inl fP1_targets))] → va_S A s.heap H lo → ∀ (ls : Array Slot), lv_has ls 7 [] → W p l e R s m ar below meth c H lo 0 0 Q (F0 m 198 ls [])) → ∀ (H : Heap) (lo : List Loc), va_P G.1 classes [(aT, .inr (2, [.int vT_people, .int vT_spells, .int vT_deedCount, .ref aT_masks, .ref aT_values, .ref aT_askings, .ref aT_kissesNeeded, .ref aT_wakings, .ref aT_binders, .ref aT_curses, .ref aT_doers, .ref aT_sorts, .ref aT_whichs, .ref aT_bars, .ref aT_bits, .ref aT_kisses])), (aP1, .inr (4, [.int vP1_people, .int vP1_spells, .int vP1_day, .int vP1_broken, .ref aP1_kinds, .ref aP1_targets, .ref aP1_wakes, .ref aP1_terms, .ref aP1_sorts, .ref aP1_numbers])), (aT_binders, .inl (G.2.1, 5, .inl fT_binders)), (aT_masks, .inl (G.2.1, 5, .inl fT_masks)), (aT_values, .inl (G.2.1, 5, .inl fT_values)), (aT_askings, .inl (G.2.1, 5, .inl fT_askings)), (aT_kissesNeeded, .inl (G.2.1, 5, .inl fT_kissesNeeded)), (aP1_wakes, .inl (G.2.1, 5, .inl fP1_wakes)), (aT_wakings, .inl (G.2.1, 5, .inl fT_wakings)), (aP1_terms, .inl (G.2.1, 5, .inl fP1_terms)), (aP1_sorts, .inl (G.2.1, 15, .inl fP1_sorts)), (aP1_numbers, .inl (G.2.1, 15, .inl fP1_numbers)), (aP1_kinds, .inl (G.2.1, 5, .inl fP1_kinds)), (aP1_targets, .inl (G.2.1, 5, .inl fP1_targets))] H → va_D A [(aT, .inr (2, [.int vT_people, .int vT_spells, .int vT_deedCount, .ref aT_masks, .ref aT_values, .ref aT_askings, .ref aT_kissesNeeded, .ref aT_wakings, .ref aT_binders, .ref aT_curses, .ref aT_doers, .ref aT_sorts, .ref aT_whichs, .ref aT_bars, .ref aT_bits, .ref aT_kisses])), (aP1, .inr (4, [.int vP1_people, .int vP1_spells, .int vP1_day, .int vP1_broken, .ref aP1_kinds, .ref aP1_targets, .ref aP1_wakes, .ref aP1_terms, .ref aP1_sorts, .ref aP1_numbers])), (aT_binders, .inl (G.2.1, 5, .inl fT_binders)), (aT_masks, .inl (G.2.1, 5, .inl fT_masks)), (aT_values, .inl (G.2.1, 5, .inl fT_values)), (aT_askings, .inl (G.2.1, 5, .inl fT_askings)), (aT_kissesNeeded, .inl (G.2.1, 5, .inl fT_kissesNeeded)), (aP1_wakes, .inl (G.2.1, 5, .inl fP1_wakes)), (aT_wakings, .inl (G.2.1, 5, .inl fT_wakings)), (aP1_terms, .inl (G.2.1, 5, .inl fP1_terms)), (aP1_sorts, .inl (G.2.1, 15, .inl fP1_sorts)), (aP1_numbers, .inl (G.2.1, 15, .inl fP1_numbers)), (aP1_kinds, .inl (G.2.1, 5, .inl fP1_kinds)), (aP1_targets, .inl (G.2.1, 5, .inl fP1_targets))] → va_S A s.heap H lo → ∀ (ls : Array Slot), lv_has ls 7 [(0, .ref aT), (1, .ref aP1), (2, .int x2), (4, .int x4)] → W p l e R s m ar below meth c H lo 0 0 Q (F0 m 76 ls []) := by
      intro fT_wakings x2 k
      induction k with
      | zero => intro x4 fT_askings fT_kissesNeeded fT_masks fT_values ofT_askings ofT_kissesNeeded ofT_masks ofT_values hev; rw [f_Ru_learnSpell_L76] at hev; cases hev
      | succ k ih =>
        intro x4 fT_askings fT_kissesNeeded fT_masks fT_values ofT_askings ofT_kissesNeeded ofT_masks ofT_values hev hex H lo hP hD hS ls hl
        rw [f_Ru_learnSpell_L76] at hev
        have J192 : ∀ (fT_askings : Nat → Int32) (fT_kissesNeeded : Nat → Int32) (fT_masks : Nat → Int32) (fT_values : Nat → Int32) (x4 : Int32), ∀ (H : Heap) (lo : List Loc), va_P G.1 classes [(aT, .inr (2, [.int vT_people, .int vT_spells, .int vT_deedCount, .ref aT_masks, .ref aT_values, .ref aT_askings, .ref aT_kissesNeeded, .ref aT_wakings, .ref aT_binders, .ref aT_curses, .ref aT_doers, .ref aT_sorts, .ref aT_whichs, .ref aT_bars, .ref aT_bits, .ref aT_kisses])), (aP1, .inr (4, [.int vP1_people, .int vP1_spells, .int vP1_day, .int vP1_broken, .ref aP1_kinds, .ref aP1_targets, .ref aP1_wakes, .ref aP1_terms, .ref aP1_sorts, .ref aP1_numbers])), (aT_binders, .inl (G.2.1, 5, .inl fT_binders)), (aT_masks, .inl (G.2.1, 5, .inl fT_masks)), (aT_values, .inl (G.2.1, 5, .inl fT_values)), (aT_askings, .inl (G.2.1, 5, .inl fT_askings)), (aT_kissesNeeded, .inl (G.2.1, 5, .inl fT_kissesNeeded)), (aP1_wakes, .inl (G.2.1, 5, .inl fP1_wakes)), (aT_wakings, .inl (G.2.1, 5, .inl fT_wakings)), (aP1_terms, .inl (G.2.1, 5, .inl fP1_terms)), (aP1_sorts, .inl (G.2.1, 15, .inl fP1_sorts)), (aP1_numbers, .inl (G.2.1, 15, .inl fP1_numbers)), (aP1_kinds, .inl (G.2.1, 5, .inl fP1_kinds)), (aP1_targets, .inl (G.2.1, 5, .inl fP1_targets))] H → va_D A [(aT, .inr (2, [.int vT_people, .int vT_spells, .int vT_deedCount, .ref aT_masks, .ref aT_values, .ref aT_askings, .ref aT_kissesNeeded, .ref aT_wakings, .ref aT_binders, .ref aT_curses, .ref aT_doers, .ref aT_sorts, .ref aT_whichs, .ref aT_bars, .ref aT_bits, .ref aT_kisses])), (aP1, .inr (4, [.int vP1_people, .int vP1_spells, .int vP1_day, .int vP1_broken, .ref aP1_kinds, .ref aP1_targets, .ref aP1_wakes, .ref aP1_terms, .ref aP1_sorts, .ref aP1_numbers])), (aT_binders, .inl (G.2.1, 5, .inl fT_binders)), (aT_masks, .inl (G.2.1, 5, .inl fT_masks)), (aT_values, .inl (G.2.1, 5, .inl fT_values)), (aT_askings, .inl (G.2.1, 5, .inl fT_askings)), (aT_kissesNeeded, .inl (G.2.1, 5, .inl fT_kissesNeeded)), (aP1_wakes, .inl (G.2.1, 5, .inl fP1_wakes)), (aT_wakings, .inl (G.2.1, 5, .inl fT_wakings)), (aP1_terms, .inl (G.2.1, 5, .inl fP1_terms)), (aP1_sorts, .inl (G.2.1, 15, .inl fP1_sorts)), (aP1_numbers, .inl (G.2.1, 15, .inl fP1_numbers)), (aP1_kinds, .inl (G.2.1, 5, .inl fP1_kinds)), (aP1_targets, .inl (G.2.1, 5, .inl fP1_targets))] → va_S A s.heap H lo → ∀ (ls : Array Slot), f_Ru_learnSpell_J192 (f_Ru_learnSpell_L76 vP1_spells fP1_kinds fP1_numbers fP1_sorts fP1_targets fP1_terms fP1_wakes fT_binders fT_wakings x2 k) k vP1_spells fP1_kinds fP1_numbers fP1_sorts fP1_targets fP1_terms fP1_wakes fT_askings fT_binders fT_kissesNeeded fT_masks fT_values fT_wakings x2 x4 = some (ofT_askings, ofT_kissesNeeded, ofT_masks, ofT_values) → lv_has ls 7 [(0, .ref aT), (1, .ref aP1), (2, .int x2), (4, .int x4)] → W p l e R s m ar below meth c H lo 0 0 Q (F0 m 192 ls []) := by
          intro fT_askings fT_kissesNeeded fT_masks fT_values x4 H lo hP hD hS ls hev hl
          unfold f_Ru_learnSpell_J192 at hev
          obtain ⟨y2, ey2⟩ : ∃ y : Int32, y = x4 + (1 : Int32) := ⟨_, rfl⟩
          refine lv_iinc (v := y2) (lv' := [(4, .int y2), (0, .ref aT), (1, .ref aP1), (2, .int x2)]) hx hb dX4_learnSpell_192 hl (k := 3) rfl (by rw [ey2]; rfl) (by decide) rfl (fun ls hl => ?_)
          replace hev := x_lt hev y2 ey2
          refine lv_goto (tgt := 76) hx hb dX4_learnSpell_195 (by decide) ?_
          exact ih y2 fT_askings fT_kissesNeeded fT_masks fT_values _ _ _ _ hev hex _ _ hP hD hS ls (lv_sub hl [1, 2, 3, 0] rfl)
        have J140 : ∀ (fT_askings : Nat → Int32) (fT_kissesNeeded : Nat → Int32) (fT_masks : Nat → Int32) (fT_values : Nat → Int32) (x4 : Int32) (s0 : Int32) (s1 : Int32), ∀ (H : Heap) (lo : List Loc), va_P G.1 classes [(aT, .inr (2, [.int vT_people, .int vT_spells, .int vT_deedCount, .ref aT_masks, .ref aT_values, .ref aT_askings, .ref aT_kissesNeeded, .ref aT_wakings, .ref aT_binders, .ref aT_curses, .ref aT_doers, .ref aT_sorts, .ref aT_whichs, .ref aT_bars, .ref aT_bits, .ref aT_kisses])), (aP1, .inr (4, [.int vP1_people, .int vP1_spells, .int vP1_day, .int vP1_broken, .ref aP1_kinds, .ref aP1_targets, .ref aP1_wakes, .ref aP1_terms, .ref aP1_sorts, .ref aP1_numbers])), (aT_binders, .inl (G.2.1, 5, .inl fT_binders)), (aT_masks, .inl (G.2.1, 5, .inl fT_masks)), (aT_values, .inl (G.2.1, 5, .inl fT_values)), (aT_askings, .inl (G.2.1, 5, .inl fT_askings)), (aT_kissesNeeded, .inl (G.2.1, 5, .inl fT_kissesNeeded)), (aP1_wakes, .inl (G.2.1, 5, .inl fP1_wakes)), (aT_wakings, .inl (G.2.1, 5, .inl fT_wakings)), (aP1_terms, .inl (G.2.1, 5, .inl fP1_terms)), (aP1_sorts, .inl (G.2.1, 15, .inl fP1_sorts)), (aP1_numbers, .inl (G.2.1, 15, .inl fP1_numbers)), (aP1_kinds, .inl (G.2.1, 5, .inl fP1_kinds)), (aP1_targets, .inl (G.2.1, 5, .inl fP1_targets))] H → va_D A [(aT, .inr (2, [.int vT_people, .int vT_spells, .int vT_deedCount, .ref aT_masks, .ref aT_values, .ref aT_askings, .ref aT_kissesNeeded, .ref aT_wakings, .ref aT_binders, .ref aT_curses, .ref aT_doers, .ref aT_sorts, .ref aT_whichs, .ref aT_bars, .ref aT_bits, .ref aT_kisses])), (aP1, .inr (4, [.int vP1_people, .int vP1_spells, .int vP1_day, .int vP1_broken, .ref aP1_kinds, .ref aP1_targets, .ref aP1_wakes, .ref aP1_terms, .ref aP1_sorts, .ref aP1_numbers])), (aT_binders, .inl (G.2.1, 5, .inl fT_binders)), (aT_masks, .inl (G.2.1, 5, .inl fT_masks)), (aT_values, .inl (G.2.1, 5, .inl fT_values)), (aT_askings, .inl (G.2.1, 5, .inl fT_askings)), (aT_kissesNeeded, .inl (G.2.1, 5, .inl fT_kissesNeeded)), (aP1_wakes, .inl (G.2.1, 5, .inl fP1_wakes)), (aT_wakings, .inl (G.2.1, 5, .inl fT_wakings)), (aP1_terms, .inl (G.2.1, 5, .inl fP1_terms)), (aP1_sorts, .inl (G.2.1, 15, .inl fP1_sorts)), (aP1_numbers, .inl (G.2.1, 15, .inl fP1_numbers)), (aP1_kinds, .inl (G.2.1, 5, .inl fP1_kinds)), (aP1_targets, .inl (G.2.1, 5, .inl fP1_targets))] → va_S A s.heap H lo → ∀ (ls : Array Slot), f_Ru_learnSpell_J140 (f_Ru_learnSpell_L76 vP1_spells fP1_kinds fP1_numbers fP1_sorts fP1_targets fP1_terms fP1_wakes fT_binders fT_wakings x2 k) k vP1_spells fP1_kinds fP1_numbers fP1_sorts fP1_targets fP1_terms fP1_wakes fT_askings fT_binders fT_kissesNeeded fT_masks fT_values fT_wakings x2 x4 s0 s1 = some (ofT_askings, ofT_kissesNeeded, ofT_masks, ofT_values) → lv_has ls 7 [(0, .ref aT), (1, .ref aP1), (2, .int x2), (4, .int x4)] → W p l e R s m ar below meth c H lo 0 0 Q (F0 m 140 ls [.int s0, .int s1, .ref aT]) := by
          intro fT_askings fT_kissesNeeded fT_masks fT_values x4 s0 s1 H lo hP hD hS ls hev hl
          unfold f_Ru_learnSpell_J140 at hev
          obtain ⟨w3, hq, hev⟩ := x_bd hev
          refine rgV X (KK_at hKK hS hAb) hR (st1 := []) (ws2 := [(aT, .inr (2, [.int vT_people, .int vT_spells, .int vT_deedCount, .ref aT_masks, .ref aT_values, .ref aT_askings, .ref aT_kissesNeeded, .ref aT_wakings, .ref aT_binders, .ref aT_curses, .ref aT_doers, .ref aT_sorts, .ref aT_whichs, .ref aT_bars, .ref aT_bits, .ref aT_kisses])), (aP1, .inr (4, [.int vP1_people, .int vP1_spells, .int vP1_day, .int vP1_broken, .ref aP1_kinds, .ref aP1_targets, .ref aP1_wakes, .ref aP1_terms, .ref aP1_sorts, .ref aP1_numbers])), (aT_binders, .inl (G.2.1, 5, .inl fT_binders)), (aT_masks, .inl (G.2.1, 5, .inl fT_masks)), (aT_values, .inl (G.2.1, 5, .inl fT_values)), (aT_askings, .inl (G.2.1, 5, .inl fT_askings)), (aT_kissesNeeded, .inl (G.2.1, 5, .inl w3)), (aP1_wakes, .inl (G.2.1, 5, .inl fP1_wakes)), (aT_wakings, .inl (G.2.1, 5, .inl fT_wakings)), (aP1_terms, .inl (G.2.1, 5, .inl fP1_terms)), (aP1_sorts, .inl (G.2.1, 15, .inl fP1_sorts)), (aP1_numbers, .inl (G.2.1, 15, .inl fP1_numbers)), (aP1_kinds, .inl (G.2.1, 5, .inl fP1_kinds)), (aP1_targets, .inl (G.2.1, 5, .inl fP1_targets))]) (c_Ru_needKiss l G aT aT_masks aT_values aT_askings aT_kissesNeeded aT_wakings aT_binders aT_curses aT_doers aT_sorts aT_whichs aT_bars aT_bits aT_kisses vT_people vT_spells vT_deedCount fT_kissesNeeded s1 s0 w3 hq) K_X4_needKiss u370 hP hD hS hA hAb [0, 6] rfl (sbC rfl (sbC rfl sb0)) (mgN 0 rfl rfl (mgK (by decide) (mgK (by decide) (mgK (by decide) (mgK (by decide) (mgK (by decide) (mgN 1 rfl rfl (mgK (by decide) (mgK (by decide) (mgK (by decide) (mgK (by decide) (mgK (by decide) (mgK (by decide) (mgK (by decide) (mg0))))))))))))))) rfl (q0 := 0) rfl (by decide) ⟨Nat.zero_le _, Nat.zero_le _⟩ rfl hl.1 rfl (Nat.le_of_ble_eq_true rfl) rfl dX4_learnSpell_140 (fun H lo hP hD hS => ?_)
          refine lv_goto (tgt := 192) hx hb dX4_learnSpell_143 (by decide) ?_
          exact J192 fT_askings w3 fT_masks fT_values x4 _ _ hP hD hS ls hev (lv_sub hl [0, 1, 2, 3] rfl)
        refine lv_iload hx hb dX4_learnSpell_76 (lv_at hl 3 rfl) ?_
        refine lv_iconst (v := (3 : Int32)) hx hb dX4_learnSpell_78 (by decide) ?_
        refine lv_icmp_ge (tgt := 198) hx hb dX4_learnSpell_79 (by decide) (fun c4 => ?_) (fun c4 => ?_)
        · replace hev := x_t c4 hev
          cases hev
          exact hex _ _ hP hD hS ls (lv_sub hl [] rfl)
        · replace hev := x_f c4 hev
          refine lv_iload hx hb dX4_learnSpell_82 (lv_at hl 3 rfl) ?_
          refine lv_aload_n hx hb dX4_learnSpell_84 rfl (lv_at hl 1 rfl) ?_
          refine lv_iload_n hx hb dX4_learnSpell_85 rfl (lv_at hl 2 rfl) ?_
          obtain ⟨y5, hq, hev⟩ := x_bd hev
          refine roV X (KK_at hKK hS hAb) hR (st1 := [.int y5, .int x4]) (c_To_termsOf l G aP1 aP1_kinds aP1_targets aP1_wakes aP1_terms aP1_sorts aP1_numbers vP1_people vP1_spells vP1_day vP1_broken fP1_terms x2 y5 hq) K_X8_termsOf u351 (x_Psub hP [1, 9] rfl) rfl (q0 := 0) rfl (by decide) ⟨Nat.zero_le _, Nat.zero_le _⟩ rfl hl.1 rfl (Nat.le_of_ble_eq_true rfl) rfl dX4_learnSpell_86 ?_
          refine lv_icmp_ge (tgt := 198) hx hb dX4_learnSpell_89 (by decide) (fun c6 => ?_) (fun c6 => ?_)
          · replace hev := x_t c6 hev
            cases hev
            exact hex _ _ hP hD hS ls (lv_sub hl [] rfl)
          · replace hev := x_f c6 hev
            refine lv_aload_n hx hb dX4_learnSpell_92 rfl (lv_at hl 1 rfl) ?_
            refine lv_iload_n hx hb dX4_learnSpell_93 rfl (lv_at hl 2 rfl) ?_
            refine lv_iload hx hb dX4_learnSpell_94 (lv_at hl 3 rfl) ?_
            obtain ⟨y7, hq, hev⟩ := x_bd hev
            refine roV X (KK_at hKK hS hAb) hR (st1 := [.int y7]) (c_To_sortOf l G aP1 aP1_kinds aP1_targets aP1_wakes aP1_terms aP1_sorts aP1_numbers vP1_people vP1_spells vP1_day vP1_broken fP1_terms fP1_sorts x2 x4 y7 hq) K_X8_sortOf u355 (x_Psub hP [1, 9, 10] rfl) rfl (q0 := 0) rfl (by decide) ⟨Nat.zero_le _, Nat.zero_le _⟩ rfl hl.1 rfl (Nat.le_of_ble_eq_true rfl) rfl dX4_learnSpell_96 ?_
            refine lv_istore (lv' := [(5, .int y7), (0, .ref aT), (1, .ref aP1), (2, .int x2), (4, .int x4)]) hx hb dX4_learnSpell_99 hl (by decide) rfl (fun ls hl => ?_)
            refine lv_aload_n hx hb dX4_learnSpell_101 rfl (lv_at hl 2 rfl) ?_
            refine lv_iload_n hx hb dX4_learnSpell_102 rfl (lv_at hl 3 rfl) ?_
            refine lv_iload hx hb dX4_learnSpell_103 (lv_at hl 4 rfl) ?_
            obtain ⟨y8, hq, hev⟩ := x_bd hev
            refine roV X (KK_at hKK hS hAb) hR (st1 := [.int y8]) (c_To_numberOf l G aP1 aP1_kinds aP1_targets aP1_wakes aP1_terms aP1_sorts aP1_numbers vP1_people vP1_spells vP1_day vP1_broken fP1_terms fP1_numbers x2 x4 y8 hq) K_X8_numberOf u363 (x_Psub hP [1, 9, 11] rfl) rfl (q0 := 0) rfl (by decide) ⟨Nat.zero_le _, Nat.zero_le _⟩ rfl hl.1 rfl (Nat.le_of_ble_eq_true rfl) rfl dX4_learnSpell_105 ?_
            refine lv_istore (lv' := [(6, .int y8), (5, .int y7), (0, .ref aT), (1, .ref aP1), (2, .int x2), (4, .int x4)]) hx hb dX4_learnSpell_108 hl (by decide) rfl (fun ls hl => ?_)
            refine lv_iload hx hb dX4_learnSpell_110 (lv_at hl 1 rfl) ?_
            refine lv_if_ne (tgt := 146) hx hb dX4_learnSpell_112 (by decide) (fun c9 => ?_) (fun c9 => ?_)
            · replace hev := x_f c9 hev
              refine lv_iload hx hb dX4_learnSpell_146 (lv_at hl 1 rfl) ?_
              refine lv_bipush (v := (7 : Int32)) hx hb dX4_learnSpell_148 (by decide) ?_
              refine lv_icmp_ne (tgt := 173) hx hb dX4_learnSpell_150 (by decide) (fun c10 => ?_) (fun c10 => ?_)
              · replace hev := x_f c10 hev
                refine lv_aload_n hx hb dX4_learnSpell_173 rfl (lv_at hl 2 rfl) ?_
                refine lv_iload_n hx hb dX4_learnSpell_174 rfl (lv_at hl 4 rfl) ?_
                refine lv_iload hx hb dX4_learnSpell_175 (lv_at hl 1 rfl) ?_
                refine lv_iload hx hb dX4_learnSpell_177 (lv_at hl 0 rfl) ?_
                obtain ⟨y11, hq, hev⟩ := x_bd hev
                refine roS X (KK_at hKK hS hAb) hR (st1 := [.int y11, .int x2, .ref aT]) (c_Tm_maskOf l G y7 y8 y11 hq) K_X7_maskOf u375 (x_Psub hP [] rfl) (by decide) ⟨Nat.zero_le _, Nat.zero_le _⟩ rfl hl.1 rfl (Nat.le_of_ble_eq_true rfl) rfl dX4_learnSpell_179 ?_
                refine lv_iload hx hb dX4_learnSpell_182 (lv_at hl 1 rfl) ?_
                refine lv_iload hx hb dX4_learnSpell_184 (lv_at hl 0 rfl) ?_
                obtain ⟨y12, hq, hev⟩ := x_bd hev
                refine roS X (KK_at hKK hS hAb) hR (st1 := [.int y12, .int y11, .int x2, .ref aT]) (c_Tm_valueOf l G y7 y8 y12 hq) K_X7_valueOf u379 (x_Psub hP [] rfl) (by decide) ⟨Nat.zero_le _, Nat.zero_le _⟩ rfl hl.1 rfl (Nat.le_of_ble_eq_true rfl) rfl dX4_learnSpell_186 ?_
                obtain ⟨⟨w13, w14, w15⟩, hq, hev⟩ := x_bd hev
                refine rgV X (KK_at hKK hS hAb) hR (st1 := []) (ws2 := [(aT, .inr (2, [.int vT_people, .int vT_spells, .int vT_deedCount, .ref aT_masks, .ref aT_values, .ref aT_askings, .ref aT_kissesNeeded, .ref aT_wakings, .ref aT_binders, .ref aT_curses, .ref aT_doers, .ref aT_sorts, .ref aT_whichs, .ref aT_bars, .ref aT_bits, .ref aT_kisses])), (aP1, .inr (4, [.int vP1_people, .int vP1_spells, .int vP1_day, .int vP1_broken, .ref aP1_kinds, .ref aP1_targets, .ref aP1_wakes, .ref aP1_terms, .ref aP1_sorts, .ref aP1_numbers])), (aT_binders, .inl (G.2.1, 5, .inl fT_binders)), (aT_masks, .inl (G.2.1, 5, .inl w14)), (aT_values, .inl (G.2.1, 5, .inl w15)), (aT_askings, .inl (G.2.1, 5, .inl fT_askings)), (aT_kissesNeeded, .inl (G.2.1, 5, .inl w13)), (aP1_wakes, .inl (G.2.1, 5, .inl fP1_wakes)), (aT_wakings, .inl (G.2.1, 5, .inl fT_wakings)), (aP1_terms, .inl (G.2.1, 5, .inl fP1_terms)), (aP1_sorts, .inl (G.2.1, 15, .inl fP1_sorts)), (aP1_numbers, .inl (G.2.1, 15, .inl fP1_numbers)), (aP1_kinds, .inl (G.2.1, 5, .inl fP1_kinds)), (aP1_targets, .inl (G.2.1, 5, .inl fP1_targets))]) (c_Ru_needBits l G aT aT_masks aT_values aT_askings aT_kissesNeeded aT_wakings aT_binders aT_curses aT_doers aT_sorts aT_whichs aT_bars aT_bits aT_kisses vT_people vT_spells vT_deedCount fT_masks fT_values fT_kissesNeeded x2 y11 y12 w13 w14 w15 hq) K_X4_needBits u383 hP hD hS hA hAb [0, 3, 4, 6] rfl (sbC rfl (sbC rfl (sbC rfl (sbC rfl sb0)))) (mgN 0 rfl rfl (mgK (by decide) (mgK (by decide) (mgN 1 rfl rfl (mgN 2 rfl rfl (mgK (by decide) (mgN 3 rfl rfl (mgK (by decide) (mgK (by decide) (mgK (by decide) (mgK (by decide) (mgK (by decide) (mgK (by decide) (mgK (by decide) (mg0))))))))))))))) rfl (q0 := 0) rfl (by decide) ⟨Nat.zero_le _, Nat.zero_le _⟩ rfl hl.1 rfl (Nat.le_of_ble_eq_true rfl) rfl dX4_learnSpell_189 (fun H lo hP hD hS => ?_)
                exact J192 fT_askings w13 w14 w15 x4 _ _ hP hD hS ls hev (lv_sub hl [2, 3, 4, 5] rfl)
              · replace hev := x_t c10 hev
                refine lv_aload_n hx hb dX4_learnSpell_153 rfl (lv_at hl 2 rfl) ?_
                refine va_get (D := G.1) (ci := 2) (v := .ref aT_askings) (C := RX4) (T := TX4) (N := 16) hx hb hts i4 hown hK hP 0 rfl rfl 5 (by decide) (hw _ u202) (fun _ h9 => h9) rfl dX4_learnSpell_154 ?_
                refine lv_iload_n hx hb dX4_learnSpell_157 rfl (lv_at hl 4 rfl) ?_
                refine lv_aload_n hx hb dX4_learnSpell_158 rfl (lv_at hl 2 rfl) ?_
                refine va_get (D := G.1) (ci := 2) (v := .ref aT_askings) (C := RX4) (T := TX4) (N := 16) hx hb hts i4 hown hK hP 0 rfl rfl 5 (by decide) (hw _ u202) (fun _ h9 => h9) rfl dX4_learnSpell_159 ?_
                refine lv_iload_n hx hb dX4_learnSpell_162 rfl (lv_at hl 4 rfl) ?_
                obtain ⟨h16, hev⟩ := x_ld hev
                refine va_iald hx hb hK hP 5 0 rfl rfl h16 dX4_learnSpell_163 ?_
                refine lv_topi (fun v17 ev17 => ?_)
                replace hev := hev v17 ev17
                refine lv_iload hx hb dX4_learnSpell_164 (lv_at hl 0 rfl) ?_
                refine va_mmax hx hb (hml.trans hl.1.symm) hown (hw _ u374) (hw _ u115) (hw _ u83) (hw _ u116) (Nat.le_trans (by decide) hR.1) (Nat.le_trans (Nat.le_of_ble_eq_true rfl) hR.2) (Nat.zero_le _) (Nat.zero_le _) dX4_learnSpell_166 ?_
                refine lv_topi (fun y18 ey18 => ?_)
                replace hev := x_lt hev y18 ey18
                obtain ⟨h19, hev⟩ := x_ck hev
                refine va_iast hx hb hK hP hD hS 5 0 rfl rfl h19 dX4_learnSpell_169 (fun H lo hP hD hS => ?_)
                refine lv_goto (tgt := 192) hx hb dX4_learnSpell_170 (by decide) ?_
                exact J192 (upd fT_askings (x2).toNatClampNeg y18) fT_kissesNeeded fT_masks fT_values x4 _ _ hP hD hS ls hev (lv_sub hl [2, 3, 4, 5] rfl)
            · replace hev := x_t c9 hev
              refine lv_aload_n hx hb dX4_learnSpell_115 rfl (lv_at hl 2 rfl) ?_
              refine lv_iload_n hx hb dX4_learnSpell_116 rfl (lv_at hl 4 rfl) ?_
              refine lv_aload_n hx hb dX4_learnSpell_117 rfl (lv_at hl 3 rfl) ?_
              refine lv_iload_n hx hb dX4_learnSpell_118 rfl (lv_at hl 4 rfl) ?_
              obtain ⟨y20, hq, hev⟩ := x_bd hev
              refine roV X (KK_at hKK hS hAb) hR (st1 := [.int y20, .int x2, .ref aT]) (c_To_kindOf l G aP1 aP1_kinds aP1_targets aP1_wakes aP1_terms aP1_sorts aP1_numbers vP1_people vP1_spells vP1_day vP1_broken fP1_kinds x2 y20 hq) K_X8_kindOf u328 (x_Psub hP [1, 12] rfl) rfl (q0 := 0) rfl (by decide) ⟨Nat.zero_le _, Nat.zero_le _⟩ rfl hl.1 rfl (Nat.le_of_ble_eq_true rfl) rfl dX4_learnSpell_119 ?_
              refine lv_iconst (v := (3 : Int32)) hx hb dX4_learnSpell_122 (by decide) ?_
              refine lv_icmp_ne (tgt := 130) hx hb dX4_learnSpell_123 (by decide) (fun c21 => ?_) (fun c21 => ?_)
              · replace hev := x_f c21 hev
                refine lv_iload hx hb dX4_learnSpell_130 (lv_at hl 0 rfl) ?_
                refine lv_aload_n hx hb dX4_learnSpell_132 rfl (lv_at hl 3 rfl) ?_
                refine lv_iload_n hx hb dX4_learnSpell_133 rfl (lv_at hl 4 rfl) ?_
                obtain ⟨y22, hq, hev⟩ := x_bd hev
                refine roV X (KK_at hKK hS hAb) hR (st1 := [.int y22, .int y8, .int x2, .ref aT]) (c_To_targetOf l G aP1 aP1_kinds aP1_targets aP1_wakes aP1_terms aP1_sorts aP1_numbers vP1_people vP1_spells vP1_day vP1_broken fP1_targets x2 y22 hq) K_X8_targetOf u336 (x_Psub hP [1, 13] rfl) rfl (q0 := 0) rfl (by decide) ⟨Nat.zero_le _, Nat.zero_le _⟩ rfl hl.1 rfl (Nat.le_of_ble_eq_true rfl) rfl dX4_learnSpell_134 ?_
                obtain ⟨y23, hq, hev⟩ := x_bd hev
                refine roS X (KK_at hKK hS hAb) hR (st1 := [.int y23, .int x2, .ref aT]) (c_Ru_kissOf l G y8 y22 y23 hq) K_X4_kissOf u367 (x_Psub hP [] rfl) (by decide) ⟨Nat.zero_le _, Nat.zero_le _⟩ rfl hl.1 rfl (Nat.le_of_ble_eq_true rfl) rfl dX4_learnSpell_137 ?_
                exact J140 fT_askings fT_kissesNeeded fT_masks fT_values x4 y23 x2 _ _ hP hD hS ls hev (lv_sub hl [2, 3, 4, 5] rfl)
              · replace hev := x_t c21 hev
                refine lv_iconst (v := (-1 : Int32)) hx hb dX4_learnSpell_126 (by decide) ?_
                refine lv_goto (tgt := 140) hx hb dX4_learnSpell_127 (by decide) ?_
                exact J140 fT_askings fT_kissesNeeded fT_masks fT_values x4 (-1 : Int32) x2 _ _ hP hD hS ls hev (lv_sub hl [2, 3, 4, 5] rfl)
    obtain ⟨⟨w24, w25, w26, w27⟩, hq, hev⟩ := x_bd hev
    refine L76 (upd fT_wakings (s1).toNatClampNeg s0) x2 k (0 : Int32) fT_askings fT_kissesNeeded fT_masks fT_values w24 w25 w26 w27 hq (fun H lo hP hD hS ls hl => ?_) _ _ hP hD hS ls (lv_sub hl [1, 2, 3, 0] rfl)
    exact ret2 _ _ _ _ w24 w25 w26 w27 (upd fT_wakings (s1).toNatClampNeg s0) (Option.some.inj hev) dX4_learnSpell_198 hP hD hS
  unfold f_Ru_learnSpell at hev
  refine lv_iload_n hx hb dX4_learnSpell_0 rfl (lv_at hl 2 rfl) ?_
  refine lv_if_lt (tgt := 9) hx hb dX4_learnSpell_1 (by decide) (fun c28 => ?_) (fun c28 => ?_)
  · replace hev := x_t c28 hev
    exact ret2 _ _ _ _ fT_askings fT_kissesNeeded fT_masks fT_values fT_wakings (Option.some.inj hev) dX4_learnSpell_9 hP hD hS
  · replace hev := x_f c28 hev
    refine lv_iload_n hx hb dX4_learnSpell_4 rfl (lv_at hl 2 rfl) ?_
    refine lv_iconst (v := (5 : Int32)) hx hb dX4_learnSpell_5 (by decide) ?_
    refine lv_icmp_lt (tgt := 10) hx hb dX4_learnSpell_6 (by decide) (fun c29 => ?_) (fun c29 => ?_)
    · replace hev := x_t c29 hev
      refine lv_aload_n hx hb dX4_learnSpell_10 rfl (lv_at hl 0 rfl) ?_
      refine va_get (D := G.1) (ci := 2) (v := .ref aT_masks) (C := RX4) (T := TX4) (N := 16) hx hb hts i4 hown hK hP 0 rfl rfl 3 (by decide) (hw _ u200) (fun _ h9 => h9) rfl dX4_learnSpell_11 ?_
      refine lv_iload_n hx hb dX4_learnSpell_14 rfl (lv_at hl 2 rfl) ?_
      refine lv_iconst (v := (1 : Int32)) hx hb dX4_learnSpell_15 (by decide) ?_
      refine lv_iload_n hx hb dX4_learnSpell_16 rfl (lv_at hl 2 rfl) ?_
      refine lv_ishl hx hb dX4_learnSpell_17 ?_
      refine lv_aload_n hx hb dX4_learnSpell_18 rfl (lv_at hl 0 rfl) ?_
      refine va_get (D := G.1) (ci := 2) (v := .ref aT_binders) (C := RX4) (T := TX4) (N := 16) hx hb hts i4 hown hK hP 0 rfl rfl 8 (by decide) (hw _ u205) (fun _ h9 => h9) rfl dX4_learnSpell_19 ?_
      refine lv_iload_n hx hb dX4_learnSpell_22 rfl (lv_at hl 2 rfl) ?_
      obtain ⟨h30, hev⟩ := x_ld hev
      refine va_iald hx hb hK hP 2 0 rfl rfl h30 dX4_learnSpell_23 ?_
      refine lv_topi (fun v31 ev31 => ?_)
      replace hev := hev v31 ev31
      refine lv_ior hx hb dX4_learnSpell_24 ?_
      refine lv_topi (fun y32 ey32 => ?_)
      replace hev := x_lt hev y32 ey32
      obtain ⟨h33, hev⟩ := x_ck hev
      refine va_iast hx hb hK hP hD hS 3 0 rfl rfl h33 dX4_learnSpell_25 (fun H lo hP hD hS => ?_)
      refine lv_aload_n hx hb dX4_learnSpell_26 rfl (lv_at hl 0 rfl) ?_
      refine va_get (D := G.1) (ci := 2) (v := .ref aT_values) (C := RX4) (T := TX4) (N := 16) hx hb hts i4 hown hK hP 0 rfl rfl 4 (by decide) (hw _ u201) (fun _ h9 => h9) rfl dX4_learnSpell_27 ?_
      refine lv_iload_n hx hb dX4_learnSpell_30 rfl (lv_at hl 2 rfl) ?_
      refine lv_iconst (v := (1 : Int32)) hx hb dX4_learnSpell_31 (by decide) ?_
      refine lv_iload_n hx hb dX4_learnSpell_32 rfl (lv_at hl 2 rfl) ?_
      refine lv_ishl hx hb dX4_learnSpell_33 ?_
      refine lv_topi (fun y34 ey34 => ?_)
      replace hev := x_lt hev y34 ey34
      obtain ⟨h35, hev⟩ := x_ck hev
      refine va_iast hx hb hK hP hD hS 4 0 rfl rfl h35 dX4_learnSpell_34 (fun H lo hP hD hS => ?_)
      refine lv_aload_n hx hb dX4_learnSpell_35 rfl (lv_at hl 0 rfl) ?_
      refine va_get (D := G.1) (ci := 2) (v := .ref aT_askings) (C := RX4) (T := TX4) (N := 16) hx hb hts i4 hown hK hP 0 rfl rfl 5 (by decide) (hw _ u202) (fun _ h9 => h9) rfl dX4_learnSpell_36 ?_
      refine lv_iload_n hx hb dX4_learnSpell_39 rfl (lv_at hl 2 rfl) ?_
      refine lv_iconst (v := (0 : Int32)) hx hb dX4_learnSpell_40 (by decide) ?_
      obtain ⟨h36, hev⟩ := x_ck hev
      refine va_iast hx hb hK hP hD hS 5 0 rfl rfl h36 dX4_learnSpell_41 (fun H lo hP hD hS => ?_)
      refine lv_aload_n hx hb dX4_learnSpell_42 rfl (lv_at hl 0 rfl) ?_
      refine va_get (D := G.1) (ci := 2) (v := .ref aT_kissesNeeded) (C := RX4) (T := TX4) (N := 16) hx hb hts i4 hown hK hP 0 rfl rfl 6 (by decide) (hw _ u203) (fun _ h9 => h9) rfl dX4_learnSpell_43 ?_
      refine lv_iload_n hx hb dX4_learnSpell_46 rfl (lv_at hl 2 rfl) ?_
      refine lv_iconst (v := (0 : Int32)) hx hb dX4_learnSpell_47 (by decide) ?_
      obtain ⟨h37, hev⟩ := x_ck hev
      refine va_iast hx hb hK hP hD hS 6 0 rfl rfl h37 dX4_learnSpell_48 (fun H lo hP hD hS => ?_)
      refine lv_aload_n hx hb dX4_learnSpell_49 rfl (lv_at hl 1 rfl) ?_
      refine lv_iload_n hx hb dX4_learnSpell_50 rfl (lv_at hl 2 rfl) ?_
      obtain ⟨y38, hq, hev⟩ := x_bd hev
      refine roV X (KK_at hKK hS hAb) hR (st1 := [.int y38]) (c_To_wakenedBy l G aP1 aP1_kinds aP1_targets aP1_wakes aP1_terms aP1_sorts aP1_numbers vP1_people vP1_spells vP1_day vP1_broken fP1_wakes p2 y38 hq) K_X8_wakenedBy u347 (x_Psub hP [1, 7] rfl) rfl (q0 := 0) rfl (by decide) ⟨Nat.zero_le _, Nat.zero_le _⟩ rfl hl.1 rfl (Nat.le_of_ble_eq_true rfl) rfl dX4_learnSpell_51 ?_
      refine lv_istore_n (lv' := [(3, .int y38), (0, .ref aT), (1, .ref aP1), (2, .int p2)]) hx hb dX4_learnSpell_54 rfl hl (by decide) rfl (fun ls hl => ?_)
      refine lv_aload_n hx hb dX4_learnSpell_55 rfl (lv_at hl 1 rfl) ?_
      refine va_get (D := G.1) (ci := 2) (v := .ref aT_wakings) (C := RX4) (T := TX4) (N := 16) hx hb hts i4 hown hK hP 0 rfl rfl 7 (by decide) (hw _ u204) (fun _ h9 => h9) rfl dX4_learnSpell_56 ?_
      refine lv_iload_n hx hb dX4_learnSpell_59 rfl (lv_at hl 3 rfl) ?_
      refine lv_iload_n hx hb dX4_learnSpell_60 rfl (lv_at hl 0 rfl) ?_
      refine lv_iconst (v := (-1 : Int32)) hx hb dX4_learnSpell_61 (by decide) ?_
      refine lv_icmp_ne (tgt := 69) hx hb dX4_learnSpell_62 (by decide) (fun c39 => ?_) (fun c39 => ?_)
      · replace hev := x_f c39 hev
        refine lv_iconst (v := (1 : Int32)) hx hb dX4_learnSpell_69 (by decide) ?_
        refine lv_iload_n hx hb dX4_learnSpell_70 rfl (lv_at hl 0 rfl) ?_
        refine lv_ishl hx hb dX4_learnSpell_71 ?_
        exact J72 (upd fT_askings (p2).toNatClampNeg (0 : Int32)) (upd fT_kissesNeeded (p2).toNatClampNeg (0 : Int32)) (upd fT_masks (p2).toNatClampNeg y32) (upd fT_values (p2).toNatClampNeg y34) fT_wakings p2 ((1 : Int32) <<< (y38 &&& 31)) p2 _ _ hP hD hS ls hev (lv_sub hl [1, 2, 3] rfl)
      · replace hev := x_t c39 hev
        refine lv_iconst (v := (0 : Int32)) hx hb dX4_learnSpell_65 (by decide) ?_
        refine lv_goto (tgt := 72) hx hb dX4_learnSpell_66 (by decide) ?_
        exact J72 (upd fT_askings (p2).toNatClampNeg (0 : Int32)) (upd fT_kissesNeeded (p2).toNatClampNeg (0 : Int32)) (upd fT_masks (p2).toNatClampNeg y32) (upd fT_values (p2).toNatClampNeg y34) fT_wakings p2 (0 : Int32) p2 _ _ hP hD hS ls hev (lv_sub hl [1, 2, 3] rfl)
    · replace hev := x_f c29 hev
      exact ret2 _ _ _ _ fT_askings fT_kissesNeeded fT_masks fT_values fT_wakings (Option.some.inj hev) dX4_learnSpell_9 hP hD hS
def f_Ru_cursesOn (fT_curses : Nat → Int32) (p1 : Int32) (p2 : Int32) : Option (Int32) := x_B (f_Ru_isCurse p1 p2) (fun y1 => if y1 = 0 then (some (0 : Int32)) else x_L (((p2 * (3 : Int32)) + p1)) (fun y3 => x_I 9 fT_curses y3 (fun v5 => some v5)))
set_option maxHeartbeats 8000000 in
set_option maxRecDepth 100000 in
theorem c_Ru_cursesOn (l : Launch) (G : GG) (aT aT_masks aT_values aT_askings aT_kissesNeeded aT_wakings aT_binders aT_curses aT_doers aT_sorts aT_whichs aT_bars aT_bits aT_kisses : Nat) (vT_people : Int32) (vT_spells : Int32) (vT_deedCount : Int32) (fT_curses : Nat → Int32) (p1 : Int32) (p2 : Int32) (r0 : Int32) (hev : f_Ru_cursesOn fT_curses p1 p2 = some r0) : RO l G yX4_cursesOn cX4_cursesOn 3 (some .int) 1 [.ref aT, .int p1, .int p2] [(aT, .inr (2, [.int vT_people, .int vT_spells, .int vT_deedCount, .ref aT_masks, .ref aT_values, .ref aT_askings, .ref aT_kissesNeeded, .ref aT_wakings, .ref aT_binders, .ref aT_curses, .ref aT_doers, .ref aT_sorts, .ref aT_whichs, .ref aT_bars, .ref aT_bits, .ref aT_kisses])), (aT_curses, .inl (G.2.1, 9, .inl fT_curses))] (some (.int r0)) := by
  refine RO_of (by decide) (Nat.le_of_ble_eq_true rfl) ?_
  intro p e s m ar below meth c R Q H ls X hR hP hKK hS0 hl ret
  generalize hrs : r0 = rs at hev ret
  have hl : lv_has ls 3 [(0, .ref aT), (1, .int p1), (2, .int p2)] := hl
  obtain ⟨hx, hb, hml, hown, hts, hT⟩ := id X
  have hK := hKK.1
  have hw : ∀ w ∈ T0, w.before ar s = true := fun w h => hts w (hT w h)
  have i4 := fun w h => hT w (inT4 w h)
  unfold f_Ru_cursesOn at hev
  refine lv_iload_n hx hb dX4_cursesOn_0 rfl (lv_at hl 1 rfl) ?_
  refine lv_iload_n hx hb dX4_cursesOn_1 rfl (lv_at hl 2 rfl) ?_
  obtain ⟨y1, hq, hev⟩ := x_bd hev
  refine roS X hKK hR (st1 := [.int y1]) (c_Ru_isCurse l G p1 p2 y1 hq) K_X4_isCurse u340 (x_Psub hP [] rfl) (by decide) ⟨Nat.zero_le _, Nat.zero_le _⟩ rfl hl.1 rfl (Nat.le_of_ble_eq_true rfl) rfl dX4_cursesOn_2 ?_
  refine lv_if_eq (tgt := 21) hx hb dX4_cursesOn_5 (by decide) (fun c2 => ?_) (fun c2 => ?_)
  · replace hev := x_t c2 hev
    refine lv_iconst (v := (0 : Int32)) hx hb dX4_cursesOn_21 (by decide) ?_
    exact ret _ _ _ dX4_cursesOn_22 ((show narrow _ (.int (0 : Int32)) = .int (0 : Int32) from rfl).trans (congrArg Value.int (Option.some.inj hev)))
  · replace hev := x_f c2 hev
    refine lv_aload_n hx hb dX4_cursesOn_8 rfl (lv_at hl 0 rfl) ?_
    refine va_get (D := G.1) (ci := 2) (v := .ref aT_curses) (C := RX4) (T := TX4) (N := 16) hx hb hts i4 hown hK hP 0 rfl rfl 9 (by decide) (hw _ u206) (fun _ h9 => h9) rfl dX4_cursesOn_9 ?_
    refine lv_iload_n hx hb dX4_cursesOn_12 rfl (lv_at hl 2 rfl) ?_
    refine lv_iconst (v := (3 : Int32)) hx hb dX4_cursesOn_13 (by decide) ?_
    refine lv_imul hx hb dX4_cursesOn_14 ?_
    refine lv_iload_n hx hb dX4_cursesOn_15 rfl (lv_at hl 1 rfl) ?_
    refine lv_iadd hx hb dX4_cursesOn_16 ?_
    refine lv_topi (fun y3 ey3 => ?_)
    replace hev := x_lt hev y3 ey3
    obtain ⟨h4, hev⟩ := x_ld hev
    refine va_iald hx hb hK hP 1 0 rfl rfl h4 dX4_cursesOn_17 ?_
    refine lv_topi (fun v5 ev5 => ?_)
    replace hev := hev v5 ev5
    refine lv_goto (tgt := 22) hx hb dX4_cursesOn_18 (by decide) ?_
    exact ret _ _ _ dX4_cursesOn_22 ((show narrow _ (.int v5) = .int v5 from rfl).trans (congrArg Value.int (Option.some.inj hev)))
def f_Ru_addDeed_J90 (vT_deedCount : Int32) (fT_bars : Nat → Int32) (fT_bits : Nat → Int32) (fT_doers : Nat → Int32) (fT_kisses : Nat → Int32) (fT_sorts : Nat → Int32) (fT_whichs : Nat → Int32) (s0 : Int32) (s1 : Int32) : Option (Int32 × (Nat → Int32) × (Nat → Int32) × (Nat → Int32) × (Nat → Int32) × (Nat → Int32) × (Nat → Int32)) := x_C 19 s1 (x_L ((vT_deedCount + (1 : Int32))) (fun y2 => some (y2, fT_bars, fT_bits, fT_doers, (upd fT_kisses (s1).toNatClampNeg s0), fT_sorts, fT_whichs)))
def f_Ru_addDeed (vT_deedCount : Int32) (fT_bars : Nat → Int32) (fT_bits : Nat → Int32) (fT_doers : Nat → Int32) (fT_kisses : Nat → Int32) (fT_sorts : Nat → Int32) (fT_whichs : Nat → Int32) (p1 : Int32) (p2 : Int32) (p3 : Int32) (p4 : Int32) (p5 : Int32) : Option (Int32 × (Nat → Int32) × (Nat → Int32) × (Nat → Int32) × (Nat → Int32) × (Nat → Int32) × (Nat → Int32)) := if vT_deedCount < 0 then (some (vT_deedCount, fT_bars, fT_bits, fT_doers, fT_kisses, fT_sorts, fT_whichs)) else if vT_deedCount < (19 : Int32) then (x_C 19 vT_deedCount (x_C 19 vT_deedCount (x_C 19 vT_deedCount (x_C 19 vT_deedCount (x_C 19 vT_deedCount (if p2 = 0 then (x_B (f_Ru_kissOf p1 p3) (fun y11 => f_Ru_addDeed_J90 vT_deedCount (upd fT_bars (vT_deedCount).toNatClampNeg p4) (upd fT_bits (vT_deedCount).toNatClampNeg p5) (upd fT_doers (vT_deedCount).toNatClampNeg p1) fT_kisses (upd fT_sorts (vT_deedCount).toNatClampNeg p2) (upd fT_whichs (vT_deedCount).toNatClampNeg p3) y11 vT_deedCount)) else f_Ru_addDeed_J90 vT_deedCount (upd fT_bars (vT_deedCount).toNatClampNeg p4) (upd fT_bits (vT_deedCount).toNatClampNeg p5) (upd fT_doers (vT_deedCount).toNatClampNeg p1) fT_kisses (upd fT_sorts (vT_deedCount).toNatClampNeg p2) (upd fT_whichs (vT_deedCount).toNatClampNeg p3) (0 : Int32) vT_deedCount)))))) else some (vT_deedCount, fT_bars, fT_bits, fT_doers, fT_kisses, fT_sorts, fT_whichs)
set_option maxHeartbeats 8000000 in
set_option maxRecDepth 100000 in
theorem c_Ru_addDeed (l : Launch) (G : GG) (aT aT_masks aT_values aT_askings aT_kissesNeeded aT_wakings aT_binders aT_curses aT_doers aT_sorts aT_whichs aT_bars aT_bits aT_kisses : Nat) (vT_people : Int32) (vT_spells : Int32) (vT_deedCount : Int32) (fT_doers : Nat → Int32) (fT_sorts : Nat → Int32) (fT_whichs : Nat → Int32) (fT_bars : Nat → Int32) (fT_bits : Nat → Int32) (fT_kisses : Nat → Int32) (p1 : Int32) (p2 : Int32) (p3 : Int32) (p4 : Int32) (p5 : Int32) (wvT_deedCount : Int32) (wfT_bars : Nat → Int32) (wfT_bits : Nat → Int32) (wfT_doers : Nat → Int32) (wfT_kisses : Nat → Int32) (wfT_sorts : Nat → Int32) (wfT_whichs : Nat → Int32) (hev : f_Ru_addDeed vT_deedCount fT_bars fT_bits fT_doers fT_kisses fT_sorts fT_whichs p1 p2 p3 p4 p5 = some (wvT_deedCount, wfT_bars, wfT_bits, wfT_doers, wfT_kisses, wfT_sorts, wfT_whichs)) : RW l G yX4_addDeed cX4_addDeed 6 none 1 [.ref aT, .int p1, .int p2, .int p3, .int p4, .int p5] [(aT, .inr (2, [.int vT_people, .int vT_spells, .int vT_deedCount, .ref aT_masks, .ref aT_values, .ref aT_askings, .ref aT_kissesNeeded, .ref aT_wakings, .ref aT_binders, .ref aT_curses, .ref aT_doers, .ref aT_sorts, .ref aT_whichs, .ref aT_bars, .ref aT_bits, .ref aT_kisses])), (aT_doers, .inl (G.2.1, 19, .inl fT_doers)), (aT_sorts, .inl (G.2.1, 19, .inl fT_sorts)), (aT_whichs, .inl (G.2.1, 19, .inl fT_whichs)), (aT_bars, .inl (G.2.1, 19, .inl fT_bars)), (aT_bits, .inl (G.2.1, 19, .inl fT_bits)), (aT_kisses, .inl (G.2.1, 19, .inl fT_kisses))] none [(aT, .inr (2, [.int vT_people, .int vT_spells, .int wvT_deedCount, .ref aT_masks, .ref aT_values, .ref aT_askings, .ref aT_kissesNeeded, .ref aT_wakings, .ref aT_binders, .ref aT_curses, .ref aT_doers, .ref aT_sorts, .ref aT_whichs, .ref aT_bars, .ref aT_bits, .ref aT_kisses])), (aT_doers, .inl (G.2.1, 19, .inl wfT_doers)), (aT_sorts, .inl (G.2.1, 19, .inl wfT_sorts)), (aT_whichs, .inl (G.2.1, 19, .inl wfT_whichs)), (aT_bars, .inl (G.2.1, 19, .inl wfT_bars)), (aT_bits, .inl (G.2.1, 19, .inl wfT_bits)), (aT_kisses, .inl (G.2.1, 19, .inl wfT_kisses))] 0 0 := by
  refine RW_of (by decide) (Nat.le_of_ble_eq_true rfl) ?_
  intro p e s m ar below meth c R Q A ls X hR hRc hin hP hKK hD hS hA hAb hl ret
  obtain ⟨rs, hrs⟩ : ∃ q, q = (wvT_deedCount, wfT_bars, wfT_bits, wfT_doers, wfT_kisses, wfT_sorts, wfT_whichs) := ⟨_, rfl⟩
  rw [← hrs] at hev
  have ret2 : ∀ (pc : Nat) (ls : Array Slot) (H : Heap) (lo : List Loc) (zvT_deedCount : Int32) (zfT_bars : Nat → Int32) (zfT_bits : Nat → Int32) (zfT_doers : Nat → Int32) (zfT_kisses : Nat → Int32) (zfT_sorts : Nat → Int32) (zfT_whichs : Nat → Int32), (zvT_deedCount, zfT_bars, zfT_bits, zfT_doers, zfT_kisses, zfT_sorts, zfT_whichs) = rs → decode cX4_addDeed pc = .ok (.return_, 1) → va_P G.1 classes [(aT, .inr (2, [.int vT_people, .int vT_spells, .int zvT_deedCount, .ref aT_masks, .ref aT_values, .ref aT_askings, .ref aT_kissesNeeded, .ref aT_wakings, .ref aT_binders, .ref aT_curses, .ref aT_doers, .ref aT_sorts, .ref aT_whichs, .ref aT_bars, .ref aT_bits, .ref aT_kisses])), (aT_doers, .inl (G.2.1, 19, .inl zfT_doers)), (aT_sorts, .inl (G.2.1, 19, .inl zfT_sorts)), (aT_whichs, .inl (G.2.1, 19, .inl zfT_whichs)), (aT_bars, .inl (G.2.1, 19, .inl zfT_bars)), (aT_bits, .inl (G.2.1, 19, .inl zfT_bits)), (aT_kisses, .inl (G.2.1, 19, .inl zfT_kisses))] H → va_D A [(aT, .inr (2, [.int vT_people, .int vT_spells, .int zvT_deedCount, .ref aT_masks, .ref aT_values, .ref aT_askings, .ref aT_kissesNeeded, .ref aT_wakings, .ref aT_binders, .ref aT_curses, .ref aT_doers, .ref aT_sorts, .ref aT_whichs, .ref aT_bars, .ref aT_bits, .ref aT_kisses])), (aT_doers, .inl (G.2.1, 19, .inl zfT_doers)), (aT_sorts, .inl (G.2.1, 19, .inl zfT_sorts)), (aT_whichs, .inl (G.2.1, 19, .inl zfT_whichs)), (aT_bars, .inl (G.2.1, 19, .inl zfT_bars)), (aT_bits, .inl (G.2.1, 19, .inl zfT_bits)), (aT_kisses, .inl (G.2.1, 19, .inl zfT_kisses))] → va_S A s.heap H lo → W p l e R s m ar below meth c H lo 0 0 Q (F0 m pc ls []) := by
    intro pc ls H lo zvT_deedCount zfT_bars zfT_bits zfT_doers zfT_kisses zfT_sorts zfT_whichs he hd h1 h2 h3
    have he := he.trans hrs
    cases he
    exact ret.2.1 _ _ _ _ rfl rfl hd h1 h2 h3
  clear ret hrs
  have hl : lv_has ls 6 [(0, .ref aT), (1, .int p1), (2, .int p2), (3, .int p3), (4, .int p4), (5, .int p5)] := hl
  obtain ⟨hx, hb, hml, hown, hts, hT⟩ := id X
  have hK := hKK.1
  have hw : ∀ w ∈ T0, w.before ar s = true := fun w h => hts w (hT w h)
  have i4 := fun w h => hT w (inT4 w h)
  have J90 : ∀ (vT_deedCount : Int32) (fT_bars : Nat → Int32) (fT_bits : Nat → Int32) (fT_doers : Nat → Int32) (fT_kisses : Nat → Int32) (fT_sorts : Nat → Int32) (fT_whichs : Nat → Int32) (s0 : Int32) (s1 : Int32), ∀ (H : Heap) (lo : List Loc), va_P G.1 classes [(aT, .inr (2, [.int vT_people, .int vT_spells, .int vT_deedCount, .ref aT_masks, .ref aT_values, .ref aT_askings, .ref aT_kissesNeeded, .ref aT_wakings, .ref aT_binders, .ref aT_curses, .ref aT_doers, .ref aT_sorts, .ref aT_whichs, .ref aT_bars, .ref aT_bits, .ref aT_kisses])), (aT_doers, .inl (G.2.1, 19, .inl fT_doers)), (aT_sorts, .inl (G.2.1, 19, .inl fT_sorts)), (aT_whichs, .inl (G.2.1, 19, .inl fT_whichs)), (aT_bars, .inl (G.2.1, 19, .inl fT_bars)), (aT_bits, .inl (G.2.1, 19, .inl fT_bits)), (aT_kisses, .inl (G.2.1, 19, .inl fT_kisses))] H → va_D A [(aT, .inr (2, [.int vT_people, .int vT_spells, .int vT_deedCount, .ref aT_masks, .ref aT_values, .ref aT_askings, .ref aT_kissesNeeded, .ref aT_wakings, .ref aT_binders, .ref aT_curses, .ref aT_doers, .ref aT_sorts, .ref aT_whichs, .ref aT_bars, .ref aT_bits, .ref aT_kisses])), (aT_doers, .inl (G.2.1, 19, .inl fT_doers)), (aT_sorts, .inl (G.2.1, 19, .inl fT_sorts)), (aT_whichs, .inl (G.2.1, 19, .inl fT_whichs)), (aT_bars, .inl (G.2.1, 19, .inl fT_bars)), (aT_bits, .inl (G.2.1, 19, .inl fT_bits)), (aT_kisses, .inl (G.2.1, 19, .inl fT_kisses))] → va_S A s.heap H lo → ∀ (ls : Array Slot), f_Ru_addDeed_J90 vT_deedCount fT_bars fT_bits fT_doers fT_kisses fT_sorts fT_whichs s0 s1 = some rs → lv_has ls 6 [(0, .ref aT)] → W p l e R s m ar below meth c H lo 0 0 Q (F0 m 90 ls [.int s0, .int s1, .ref aT_kisses]) := by
    intro vT_deedCount fT_bars fT_bits fT_doers fT_kisses fT_sorts fT_whichs s0 s1 H lo hP hD hS ls hev hl
    unfold f_Ru_addDeed_J90 at hev
    obtain ⟨h1, hev⟩ := x_ck hev
    refine va_iast hx hb hK hP hD hS 6 0 rfl rfl h1 dX4_addDeed_90 (fun H lo hP hD hS => ?_)
    refine lv_aload_n hx hb dX4_addDeed_91 rfl (lv_at hl 0 rfl) ?_
    refine lv_dup hx hb dX4_addDeed_92 rfl ?_
    refine va_get (D := G.1) (ci := 2) (v := .int vT_deedCount) (C := RX4) (T := TX4) (N := 16) hx hb hts i4 hown hK hP 0 rfl rfl 2 (by decide) (hw _ u199) (fun _ h9 => h9) rfl dX4_addDeed_93 ?_
    refine lv_iconst (v := (1 : Int32)) hx hb dX4_addDeed_96 (by decide) ?_
    refine lv_iadd hx hb dX4_addDeed_97 ?_
    refine lv_topi (fun y2 ey2 => ?_)
    replace hev := x_lt hev y2 ey2
    refine va_put (D := G.1) (ci := 2) (v := .int y2) (ty := .int) (C := RX4) (T := TX4) (N := 16) hx hb hts i4 tyX4 tyX4_ok nmX4 hown hK hP hD hS 0 rfl rfl 2 (by decide) (hw _ u199) (fun _ h9 => h9) rfl (by decide +kernel) rfl rfl (Nat.le_of_ble_eq_true rfl) dX4_addDeed_98 (fun H lo hP hD hS => ?_)
    exact ret2 _ _ _ _ y2 fT_bars fT_bits fT_doers (upd fT_kisses (s1).toNatClampNeg s0) fT_sorts fT_whichs (Option.some.inj hev) dX4_addDeed_101 hP hD hS
  unfold f_Ru_addDeed at hev
  refine lv_aload_n hx hb dX4_addDeed_0 rfl (lv_at hl 0 rfl) ?_
  refine va_get (D := G.1) (ci := 2) (v := .int vT_deedCount) (C := RX4) (T := TX4) (N := 16) hx hb hts i4 hown hK hP 0 rfl rfl 2 (by decide) (hw _ u199) (fun _ h9 => h9) rfl dX4_addDeed_1 ?_
  refine lv_if_lt (tgt := 16) hx hb dX4_addDeed_4 (by decide) (fun c3 => ?_) (fun c3 => ?_)
  · replace hev := x_t c3 hev
    exact ret2 _ _ _ _ vT_deedCount fT_bars fT_bits fT_doers fT_kisses fT_sorts fT_whichs (Option.some.inj hev) dX4_addDeed_16 hP hD hS
  · replace hev := x_f c3 hev
    refine lv_aload_n hx hb dX4_addDeed_7 rfl (lv_at hl 0 rfl) ?_
    refine va_get (D := G.1) (ci := 2) (v := .int vT_deedCount) (C := RX4) (T := TX4) (N := 16) hx hb hts i4 hown hK hP 0 rfl rfl 2 (by decide) (hw _ u199) (fun _ h9 => h9) rfl dX4_addDeed_8 ?_
    refine lv_bipush (v := (19 : Int32)) hx hb dX4_addDeed_11 (by decide) ?_
    refine lv_icmp_lt (tgt := 17) hx hb dX4_addDeed_13 (by decide) (fun c4 => ?_) (fun c4 => ?_)
    · replace hev := x_t c4 hev
      refine lv_aload_n hx hb dX4_addDeed_17 rfl (lv_at hl 0 rfl) ?_
      refine va_get (D := G.1) (ci := 2) (v := .ref aT_doers) (C := RX4) (T := TX4) (N := 16) hx hb hts i4 hown hK hP 0 rfl rfl 10 (by decide) (hw _ u207) (fun _ h9 => h9) rfl dX4_addDeed_18 ?_
      refine lv_aload_n hx hb dX4_addDeed_21 rfl (lv_at hl 0 rfl) ?_
      refine va_get (D := G.1) (ci := 2) (v := .int vT_deedCount) (C := RX4) (T := TX4) (N := 16) hx hb hts i4 hown hK hP 0 rfl rfl 2 (by decide) (hw _ u199) (fun _ h9 => h9) rfl dX4_addDeed_22 ?_
      refine lv_iload_n hx hb dX4_addDeed_25 rfl (lv_at hl 1 rfl) ?_
      obtain ⟨h5, hev⟩ := x_ck hev
      refine va_iast hx hb hK hP hD hS 1 0 rfl rfl h5 dX4_addDeed_26 (fun H lo hP hD hS => ?_)
      refine lv_aload_n hx hb dX4_addDeed_27 rfl (lv_at hl 0 rfl) ?_
      refine va_get (D := G.1) (ci := 2) (v := .ref aT_sorts) (C := RX4) (T := TX4) (N := 16) hx hb hts i4 hown hK hP 0 rfl rfl 11 (by decide) (hw _ u208) (fun _ h9 => h9) rfl dX4_addDeed_28 ?_
      refine lv_aload_n hx hb dX4_addDeed_31 rfl (lv_at hl 0 rfl) ?_
      refine va_get (D := G.1) (ci := 2) (v := .int vT_deedCount) (C := RX4) (T := TX4) (N := 16) hx hb hts i4 hown hK hP 0 rfl rfl 2 (by decide) (hw _ u199) (fun _ h9 => h9) rfl dX4_addDeed_32 ?_
      refine lv_iload_n hx hb dX4_addDeed_35 rfl (lv_at hl 2 rfl) ?_
      obtain ⟨h6, hev⟩ := x_ck hev
      refine va_iast hx hb hK hP hD hS 2 0 rfl rfl h6 dX4_addDeed_36 (fun H lo hP hD hS => ?_)
      refine lv_aload_n hx hb dX4_addDeed_37 rfl (lv_at hl 0 rfl) ?_
      refine va_get (D := G.1) (ci := 2) (v := .ref aT_whichs) (C := RX4) (T := TX4) (N := 16) hx hb hts i4 hown hK hP 0 rfl rfl 12 (by decide) (hw _ u209) (fun _ h9 => h9) rfl dX4_addDeed_38 ?_
      refine lv_aload_n hx hb dX4_addDeed_41 rfl (lv_at hl 0 rfl) ?_
      refine va_get (D := G.1) (ci := 2) (v := .int vT_deedCount) (C := RX4) (T := TX4) (N := 16) hx hb hts i4 hown hK hP 0 rfl rfl 2 (by decide) (hw _ u199) (fun _ h9 => h9) rfl dX4_addDeed_42 ?_
      refine lv_iload_n hx hb dX4_addDeed_45 rfl (lv_at hl 3 rfl) ?_
      obtain ⟨h7, hev⟩ := x_ck hev
      refine va_iast hx hb hK hP hD hS 3 0 rfl rfl h7 dX4_addDeed_46 (fun H lo hP hD hS => ?_)
      refine lv_aload_n hx hb dX4_addDeed_47 rfl (lv_at hl 0 rfl) ?_
      refine va_get (D := G.1) (ci := 2) (v := .ref aT_bars) (C := RX4) (T := TX4) (N := 16) hx hb hts i4 hown hK hP 0 rfl rfl 13 (by decide) (hw _ u210) (fun _ h9 => h9) rfl dX4_addDeed_48 ?_
      refine lv_aload_n hx hb dX4_addDeed_51 rfl (lv_at hl 0 rfl) ?_
      refine va_get (D := G.1) (ci := 2) (v := .int vT_deedCount) (C := RX4) (T := TX4) (N := 16) hx hb hts i4 hown hK hP 0 rfl rfl 2 (by decide) (hw _ u199) (fun _ h9 => h9) rfl dX4_addDeed_52 ?_
      refine lv_iload hx hb dX4_addDeed_55 (lv_at hl 4 rfl) ?_
      obtain ⟨h8, hev⟩ := x_ck hev
      refine va_iast hx hb hK hP hD hS 4 0 rfl rfl h8 dX4_addDeed_57 (fun H lo hP hD hS => ?_)
      refine lv_aload_n hx hb dX4_addDeed_58 rfl (lv_at hl 0 rfl) ?_
      refine va_get (D := G.1) (ci := 2) (v := .ref aT_bits) (C := RX4) (T := TX4) (N := 16) hx hb hts i4 hown hK hP 0 rfl rfl 14 (by decide) (hw _ u211) (fun _ h9 => h9) rfl dX4_addDeed_59 ?_
      refine lv_aload_n hx hb dX4_addDeed_62 rfl (lv_at hl 0 rfl) ?_
      refine va_get (D := G.1) (ci := 2) (v := .int vT_deedCount) (C := RX4) (T := TX4) (N := 16) hx hb hts i4 hown hK hP 0 rfl rfl 2 (by decide) (hw _ u199) (fun _ h9 => h9) rfl dX4_addDeed_63 ?_
      refine lv_iload hx hb dX4_addDeed_66 (lv_at hl 5 rfl) ?_
      obtain ⟨h9, hev⟩ := x_ck hev
      refine va_iast hx hb hK hP hD hS 5 0 rfl rfl h9 dX4_addDeed_68 (fun H lo hP hD hS => ?_)
      refine lv_aload_n hx hb dX4_addDeed_69 rfl (lv_at hl 0 rfl) ?_
      refine va_get (D := G.1) (ci := 2) (v := .ref aT_kisses) (C := RX4) (T := TX4) (N := 16) hx hb hts i4 hown hK hP 0 rfl rfl 15 (by decide) (hw _ u212) (fun _ h9 => h9) rfl dX4_addDeed_70 ?_
      refine lv_aload_n hx hb dX4_addDeed_73 rfl (lv_at hl 0 rfl) ?_
      refine va_get (D := G.1) (ci := 2) (v := .int vT_deedCount) (C := RX4) (T := TX4) (N := 16) hx hb hts i4 hown hK hP 0 rfl rfl 2 (by decide) (hw _ u199) (fun _ h9 => h9) rfl dX4_addDeed_74 ?_
      refine lv_iload_n hx hb dX4_addDeed_77 rfl (lv_at hl 2 rfl) ?_
      refine lv_if_ne (tgt := 89) hx hb dX4_addDeed_78 (by decide) (fun c10 => ?_) (fun c10 => ?_)
      · replace hev := x_f c10 hev
        refine lv_iconst (v := (0 : Int32)) hx hb dX4_addDeed_89 (by decide) ?_
        exact J90 vT_deedCount (upd fT_bars (vT_deedCount).toNatClampNeg p4) (upd fT_bits (vT_deedCount).toNatClampNeg p5) (upd fT_doers (vT_deedCount).toNatClampNeg p1) fT_kisses (upd fT_sorts (vT_deedCount).toNatClampNeg p2) (upd fT_whichs (vT_deedCount).toNatClampNeg p3) (0 : Int32) vT_deedCount _ _ hP hD hS ls hev (lv_sub hl [0] rfl)
      · replace hev := x_t c10 hev
        refine lv_iload_n hx hb dX4_addDeed_81 rfl (lv_at hl 1 rfl) ?_
        refine lv_iload_n hx hb dX4_addDeed_82 rfl (lv_at hl 3 rfl) ?_
        obtain ⟨y11, hq, hev⟩ := x_bd hev
        refine roS X (KK_at hKK hS hAb) hR (st1 := [.int y11, .int vT_deedCount, .ref aT_kisses]) (c_Ru_kissOf l G p1 p3 y11 hq) K_X4_kissOf u367 (x_Psub hP [] rfl) (by decide) ⟨Nat.zero_le _, Nat.zero_le _⟩ rfl hl.1 rfl (Nat.le_of_ble_eq_true rfl) rfl dX4_addDeed_83 ?_
        refine lv_goto (tgt := 90) hx hb dX4_addDeed_86 (by decide) ?_
        exact J90 vT_deedCount (upd fT_bars (vT_deedCount).toNatClampNeg p4) (upd fT_bits (vT_deedCount).toNatClampNeg p5) (upd fT_doers (vT_deedCount).toNatClampNeg p1) fT_kisses (upd fT_sorts (vT_deedCount).toNatClampNeg p2) (upd fT_whichs (vT_deedCount).toNatClampNeg p3) y11 vT_deedCount _ _ hP hD hS ls hev (lv_sub hl [0] rfl)
    · replace hev := x_f c4 hev
      exact ret2 _ _ _ _ vT_deedCount fT_bars fT_bits fT_doers fT_kisses fT_sorts fT_whichs (Option.some.inj hev) dX4_addDeed_16 hP hD hS
