def f_Rw_empty (vT_size : Int32) : Option (Int32 × Int32) := some (vT_size, (0 : Int32))
set_option maxHeartbeats 8000000 in
set_option maxRecDepth 100000 in
theorem c_Rw_empty (l : Launch) (G : GG) (aT aT_items : Nat) (vT_size : Int32) (r0 : Int32) (wvT_size : Int32) (hev : f_Rw_empty vT_size = some (r0, wvT_size)) : RW l G yX3_empty cX3_empty 2 (some .int) 0 [.ref aT] [(aT, .inr (1, [.ref aT_items, .int vT_size]))] (some (.int r0)) [(aT, .inr (1, [.ref aT_items, .int wvT_size]))] 0 0 := by
  refine RW_of (by decide) (Nat.le_of_ble_eq_true rfl) ?_
  intro p e s m ar below meth c R Q A ls X hR hRc hin hP hKK hD hS hA hAb hl ret
  obtain ⟨rs, hrs⟩ : ∃ q, q = (r0, wvT_size) := ⟨_, rfl⟩
  rw [← hrs] at hev
  have ret2 : ∀ (pc : Nat) (ls : Array Slot) (H : Heap) (lo : List Loc) (v r1 : Int32) (zvT_size : Int32), (r1, zvT_size) = rs → decode cX3_empty pc = .ok (.ireturn, 1) → narrow .int (.int v) = .int r1 → va_P G.1 classes [(aT, .inr (1, [.ref aT_items, .int zvT_size]))] H → va_D A [(aT, .inr (1, [.ref aT_items, .int zvT_size]))] → va_S A s.heap H lo → W p l e R s m ar below meth c H lo 0 0 Q (F0 m pc ls [.int v]) := by
    intro pc ls H lo v r1 zvT_size he hd hn h1 h2 h3
    have he := he.trans hrs
    cases he
    exact ret.1 _ _ _ _ _ _ _ rfl rfl hd hn h1 h2 h3
  clear ret hrs
  have hl : lv_has ls 2 [(0, .ref aT)] := hl
  obtain ⟨hx, hb, hml, hown, hts, hT⟩ := id X
  have hK := hKK.1
  have hw : ∀ w ∈ T0, w.before ar s = true := fun w h => hts w (hT w h)
  have i3 := fun w h => hT w (inT3 w h)
  unfold f_Rw_empty at hev
  refine lv_aload_n hx hb dX3_empty_0 rfl (lv_at hl 0 rfl) ?_
  refine va_get (D := G.1) (ci := 1) (v := .int vT_size) (C := RX3) (T := TX3) (N := 2) hx hb hts i3 hown hK hP 0 rfl rfl 1 (by decide) (hw _ u118) (fun _ h9 => h9) rfl dX3_empty_1 ?_
  refine lv_istore_n (lv' := [(1, .int vT_size), (0, .ref aT)]) hx hb dX3_empty_4 rfl hl (by decide) rfl (fun ls hl => ?_)
  refine lv_aload_n hx hb dX3_empty_5 rfl (lv_at hl 1 rfl) ?_
  refine lv_iconst (v := (0 : Int32)) hx hb dX3_empty_6 (by decide) ?_
  refine va_put (D := G.1) (ci := 1) (v := .int (0 : Int32)) (ty := .int) (C := RX3) (T := TX3) (N := 2) hx hb hts i3 tyX3 tyX3_ok nmX3 hown hK hP hD hS 0 rfl rfl 1 (by decide) (hw _ u118) (fun _ h9 => h9) rfl (by decide +kernel) rfl rfl (Nat.le_of_ble_eq_true rfl) dX3_empty_7 (fun H lo hP hD hS => ?_)
  refine lv_iload_n hx hb dX3_empty_10 rfl (lv_at hl 0 rfl) ?_
  exact ret2 _ _ _ _ vT_size vT_size (0 : Int32) (Option.some.inj hev) dX3_empty_11 (show narrow _ (.int vT_size) = .int vT_size from rfl) hP hD hS
def f_Rw_add (nT_items : Nat) (vT_size : Int32) (fT_items : Nat → Int32) (p1 : Int32) : Option (Int32 × Int32 × (Nat → Int32)) := if vT_size < 0 then (some ((0 : Int32), vT_size, fT_items)) else if vT_size < (Int32.ofNat nT_items) then (x_C nT_items vT_size (x_L ((vT_size + (1 : Int32))) (fun y4 => some ((1 : Int32), y4, (upd fT_items (vT_size).toNatClampNeg p1))))) else some ((0 : Int32), vT_size, fT_items)
set_option maxHeartbeats 8000000 in
set_option maxRecDepth 100000 in
theorem c_Rw_add (l : Launch) (G : GG) (aT aT_items : Nat) (vT_size : Int32) (fT_items : Nat → Int32) (nT_items : Nat) (p1 : Int32) (r0 : Int32) (wvT_size : Int32) (wfT_items : Nat → Int32) (hev : f_Rw_add nT_items vT_size fT_items p1 = some (r0, wvT_size, wfT_items)) : RW l G yX3_add cX3_add 2 (some .boolean) 0 [.ref aT, .int p1] [(aT, .inr (1, [.ref aT_items, .int vT_size])), (aT_items, .inl (G.2.1, nT_items, .inl fT_items))] (some (.int r0)) [(aT, .inr (1, [.ref aT_items, .int wvT_size])), (aT_items, .inl (G.2.1, nT_items, .inl wfT_items))] 0 0 := by
  refine RW_of (by decide) (Nat.le_of_ble_eq_true rfl) ?_
  intro p e s m ar below meth c R Q A ls X hR hRc hin hP hKK hD hS hA hAb hl ret
  obtain ⟨rs, hrs⟩ : ∃ q, q = (r0, wvT_size, wfT_items) := ⟨_, rfl⟩
  rw [← hrs] at hev
  have ret2 : ∀ (pc : Nat) (ls : Array Slot) (H : Heap) (lo : List Loc) (v r1 : Int32) (zvT_size : Int32) (zfT_items : Nat → Int32), (r1, zvT_size, zfT_items) = rs → decode cX3_add pc = .ok (.ireturn, 1) → narrow .boolean (.int v) = .int r1 → va_P G.1 classes [(aT, .inr (1, [.ref aT_items, .int zvT_size])), (aT_items, .inl (G.2.1, nT_items, .inl zfT_items))] H → va_D A [(aT, .inr (1, [.ref aT_items, .int zvT_size])), (aT_items, .inl (G.2.1, nT_items, .inl zfT_items))] → va_S A s.heap H lo → W p l e R s m ar below meth c H lo 0 0 Q (F0 m pc ls [.int v]) := by
    intro pc ls H lo v r1 zvT_size zfT_items he hd hn h1 h2 h3
    have he := he.trans hrs
    cases he
    exact ret.1 _ _ _ _ _ _ _ rfl rfl hd hn h1 h2 h3
  clear ret hrs
  have hl : lv_has ls 2 [(0, .ref aT), (1, .int p1)] := hl
  obtain ⟨hx, hb, hml, hown, hts, hT⟩ := id X
  have hK := hKK.1
  have hw : ∀ w ∈ T0, w.before ar s = true := fun w h => hts w (hT w h)
  have i3 := fun w h => hT w (inT3 w h)
  unfold f_Rw_add at hev
  refine lv_aload_n hx hb dX3_add_0 rfl (lv_at hl 0 rfl) ?_
  refine va_get (D := G.1) (ci := 1) (v := .int vT_size) (C := RX3) (T := TX3) (N := 2) hx hb hts i3 hown hK hP 0 rfl rfl 1 (by decide) (hw _ u118) (fun _ h9 => h9) rfl dX3_add_1 ?_
  refine lv_if_lt (tgt := 19) hx hb dX3_add_4 (by decide) (fun c1 => ?_) (fun c1 => ?_)
  · replace hev := x_t c1 hev
    refine lv_iconst (v := (0 : Int32)) hx hb dX3_add_19 (by decide) ?_
    exact ret2 _ _ _ _ (0 : Int32) (0 : Int32) vT_size fT_items (Option.some.inj hev) dX3_add_20 (show narrow _ (.int (0 : Int32)) = .int (0 : Int32) from nb0) hP hD hS
  · replace hev := x_f c1 hev
    refine lv_aload_n hx hb dX3_add_7 rfl (lv_at hl 0 rfl) ?_
    refine va_get (D := G.1) (ci := 1) (v := .int vT_size) (C := RX3) (T := TX3) (N := 2) hx hb hts i3 hown hK hP 0 rfl rfl 1 (by decide) (hw _ u118) (fun _ h9 => h9) rfl dX3_add_8 ?_
    refine lv_aload_n hx hb dX3_add_11 rfl (lv_at hl 0 rfl) ?_
    refine va_get (D := G.1) (ci := 1) (v := .ref aT_items) (C := RX3) (T := TX3) (N := 2) hx hb hts i3 hown hK hP 0 rfl rfl 0 (by decide) (hw _ u117) (fun _ h9 => h9) rfl dX3_add_12 ?_
    refine va_alen hx hb hK hP 1 0 (v := (Int32.ofNat nT_items)) rfl rfl rfl dX3_add_15 ?_
    refine lv_icmp_lt (tgt := 21) hx hb dX3_add_16 (by decide) (fun c2 => ?_) (fun c2 => ?_)
    · replace hev := x_t c2 hev
      refine lv_aload_n hx hb dX3_add_21 rfl (lv_at hl 0 rfl) ?_
      refine va_get (D := G.1) (ci := 1) (v := .ref aT_items) (C := RX3) (T := TX3) (N := 2) hx hb hts i3 hown hK hP 0 rfl rfl 0 (by decide) (hw _ u117) (fun _ h9 => h9) rfl dX3_add_22 ?_
      refine lv_aload_n hx hb dX3_add_25 rfl (lv_at hl 0 rfl) ?_
      refine va_get (D := G.1) (ci := 1) (v := .int vT_size) (C := RX3) (T := TX3) (N := 2) hx hb hts i3 hown hK hP 0 rfl rfl 1 (by decide) (hw _ u118) (fun _ h9 => h9) rfl dX3_add_26 ?_
      refine lv_iload_n hx hb dX3_add_29 rfl (lv_at hl 1 rfl) ?_
      obtain ⟨h3, hev⟩ := x_ck hev
      refine va_iast hx hb hK hP hD hS 1 0 rfl rfl h3 dX3_add_30 (fun H lo hP hD hS => ?_)
      refine lv_aload_n hx hb dX3_add_31 rfl (lv_at hl 0 rfl) ?_
      refine lv_dup hx hb dX3_add_32 rfl ?_
      refine va_get (D := G.1) (ci := 1) (v := .int vT_size) (C := RX3) (T := TX3) (N := 2) hx hb hts i3 hown hK hP 0 rfl rfl 1 (by decide) (hw _ u118) (fun _ h9 => h9) rfl dX3_add_33 ?_
      refine lv_iconst (v := (1 : Int32)) hx hb dX3_add_36 (by decide) ?_
      refine lv_iadd hx hb dX3_add_37 ?_
      refine lv_topi (fun y4 ey4 => ?_)
      replace hev := x_lt hev y4 ey4
      refine va_put (D := G.1) (ci := 1) (v := .int y4) (ty := .int) (C := RX3) (T := TX3) (N := 2) hx hb hts i3 tyX3 tyX3_ok nmX3 hown hK hP hD hS 0 rfl rfl 1 (by decide) (hw _ u118) (fun _ h9 => h9) rfl (by decide +kernel) rfl rfl (Nat.le_of_ble_eq_true rfl) dX3_add_38 (fun H lo hP hD hS => ?_)
      refine lv_iconst (v := (1 : Int32)) hx hb dX3_add_41 (by decide) ?_
      exact ret2 _ _ _ _ (1 : Int32) (1 : Int32) y4 (upd fT_items (vT_size).toNatClampNeg p1) (Option.some.inj hev) dX3_add_42 (show narrow _ (.int (1 : Int32)) = .int (1 : Int32) from nb1) hP hD hS
    · replace hev := x_f c2 hev
      refine lv_iconst (v := (0 : Int32)) hx hb dX3_add_19 (by decide) ?_
      exact ret2 _ _ _ _ (0 : Int32) (0 : Int32) vT_size fT_items (Option.some.inj hev) dX3_add_20 (show narrow _ (.int (0 : Int32)) = .int (0 : Int32) from nb0) hP hD hS
def f_Rw_size (vT_size : Int32) : Option (Int32) := some vT_size
set_option maxHeartbeats 8000000 in
set_option maxRecDepth 100000 in
theorem c_Rw_size (l : Launch) (G : GG) (aT aT_items : Nat) (vT_size : Int32) (r0 : Int32) (hev : f_Rw_size vT_size = some r0) : RO l G yX3_size cX3_size 1 (some .int) 0 [.ref aT] [(aT, .inr (1, [.ref aT_items, .int vT_size]))] (some (.int r0)) := by
  refine RO_of (by decide) (Nat.le_of_ble_eq_true rfl) ?_
  intro p e s m ar below meth c R Q H ls X hR hP hKK hS0 hl ret
  generalize hrs : r0 = rs at hev ret
  have hl : lv_has ls 1 [(0, .ref aT)] := hl
  obtain ⟨hx, hb, hml, hown, hts, hT⟩ := id X
  have hK := hKK.1
  have hw : ∀ w ∈ T0, w.before ar s = true := fun w h => hts w (hT w h)
  have i3 := fun w h => hT w (inT3 w h)
  unfold f_Rw_size at hev
  refine lv_aload_n hx hb dX3_size_0 rfl (lv_at hl 0 rfl) ?_
  refine va_get (D := G.1) (ci := 1) (v := .int vT_size) (C := RX3) (T := TX3) (N := 2) hx hb hts i3 hown hK hP 0 rfl rfl 1 (by decide) (hw _ u118) (fun _ h9 => h9) rfl dX3_size_1 ?_
  exact ret _ _ _ dX3_size_4 ((show narrow _ (.int vT_size) = .int vT_size from rfl).trans (congrArg Value.int (Option.some.inj hev)))
def f_Rw_at_J21 (nT_items : Nat) (vT_size : Int32) (fT_items : Nat → Int32) : Option (Int32) := some (-1 : Int32)
def f_Rw_at (nT_items : Nat) (vT_size : Int32) (fT_items : Nat → Int32) (p1 : Int32) : Option (Int32) := if p1 < 0 then (f_Rw_at_J21 nT_items vT_size fT_items) else if vT_size ≤ p1 then (f_Rw_at_J21 nT_items vT_size fT_items) else if p1 < (Int32.ofNat nT_items) then (x_I nT_items fT_items p1 (fun v5 => some v5)) else f_Rw_at_J21 nT_items vT_size fT_items
set_option maxHeartbeats 8000000 in
set_option maxRecDepth 100000 in
theorem c_Rw_at (l : Launch) (G : GG) (aT aT_items : Nat) (vT_size : Int32) (fT_items : Nat → Int32) (nT_items : Nat) (p1 : Int32) (r0 : Int32) (hev : f_Rw_at nT_items vT_size fT_items p1 = some r0) : RO l G yX3_at cX3_at 2 (some .int) 0 [.ref aT, .int p1] [(aT, .inr (1, [.ref aT_items, .int vT_size])), (aT_items, .inl (G.2.1, nT_items, .inl fT_items))] (some (.int r0)) := by
  refine RO_of (by decide) (Nat.le_of_ble_eq_true rfl) ?_
  intro p e s m ar below meth c R Q H ls X hR hP hKK hS0 hl ret
  generalize hrs : r0 = rs at hev ret
  have hl : lv_has ls 2 [(0, .ref aT), (1, .int p1)] := hl
  obtain ⟨hx, hb, hml, hown, hts, hT⟩ := id X
  have hK := hKK.1
  have hw : ∀ w ∈ T0, w.before ar s = true := fun w h => hts w (hT w h)
  have i3 := fun w h => hT w (inT3 w h)
  have J21 : ∀ (ls : Array Slot), f_Rw_at_J21 nT_items vT_size fT_items = some rs → lv_has ls 2 [] → W p l e R s m ar below meth c H [] 0 0 Q (F0 m 21 ls []) := by
    intro  ls hev hl
    unfold f_Rw_at_J21 at hev
    refine lv_iconst (v := (-1 : Int32)) hx hb dX3_at_21 (by decide) ?_
    refine lv_goto (tgt := 31) hx hb dX3_at_22 (by decide) ?_
    exact ret _ _ _ dX3_at_31 ((show narrow _ (.int (-1 : Int32)) = .int (-1 : Int32) from rfl).trans (congrArg Value.int (Option.some.inj hev)))
  unfold f_Rw_at at hev
  refine lv_iload_n hx hb dX3_at_0 rfl (lv_at hl 1 rfl) ?_
  refine lv_if_lt (tgt := 21) hx hb dX3_at_1 (by decide) (fun c1 => ?_) (fun c1 => ?_)
  · replace hev := x_t c1 hev
    exact J21  ls hev (lv_sub hl [] rfl)
  · replace hev := x_f c1 hev
    refine lv_iload_n hx hb dX3_at_4 rfl (lv_at hl 1 rfl) ?_
    refine lv_aload_n hx hb dX3_at_5 rfl (lv_at hl 0 rfl) ?_
    refine va_get (D := G.1) (ci := 1) (v := .int vT_size) (C := RX3) (T := TX3) (N := 2) hx hb hts i3 hown hK hP 0 rfl rfl 1 (by decide) (hw _ u118) (fun _ h9 => h9) rfl dX3_at_6 ?_
    refine lv_icmp_ge (tgt := 21) hx hb dX3_at_9 (by decide) (fun c2 => ?_) (fun c2 => ?_)
    · replace hev := x_t c2 hev
      exact J21  ls hev (lv_sub hl [] rfl)
    · replace hev := x_f c2 hev
      refine lv_iload_n hx hb dX3_at_12 rfl (lv_at hl 1 rfl) ?_
      refine lv_aload_n hx hb dX3_at_13 rfl (lv_at hl 0 rfl) ?_
      refine va_get (D := G.1) (ci := 1) (v := .ref aT_items) (C := RX3) (T := TX3) (N := 2) hx hb hts i3 hown hK hP 0 rfl rfl 0 (by decide) (hw _ u117) (fun _ h9 => h9) rfl dX3_at_14 ?_
      refine va_alen hx hb hK hP 1 0 (v := (Int32.ofNat nT_items)) rfl rfl rfl dX3_at_17 ?_
      refine lv_icmp_lt (tgt := 25) hx hb dX3_at_18 (by decide) (fun c3 => ?_) (fun c3 => ?_)
      · replace hev := x_t c3 hev
        refine lv_aload_n hx hb dX3_at_25 rfl (lv_at hl 0 rfl) ?_
        refine va_get (D := G.1) (ci := 1) (v := .ref aT_items) (C := RX3) (T := TX3) (N := 2) hx hb hts i3 hown hK hP 0 rfl rfl 0 (by decide) (hw _ u117) (fun _ h9 => h9) rfl dX3_at_26 ?_
        refine lv_iload_n hx hb dX3_at_29 rfl (lv_at hl 1 rfl) ?_
        obtain ⟨h4, hev⟩ := x_ld hev
        refine va_iald hx hb hK hP 1 0 rfl rfl h4 dX3_at_30 ?_
        refine lv_topi (fun v5 ev5 => ?_)
        replace hev := hev v5 ev5
        exact ret _ _ _ dX3_at_31 ((show narrow _ (.int v5) = .int v5 from rfl).trans (congrArg Value.int (Option.some.inj hev)))
      · replace hev := x_f c3 hev
        exact J21  ls hev (lv_sub hl [] rfl)
def f_Rw_isFull (nT_items : Nat) (vT_size : Int32) : Option (Int32) := if vT_size < (Int32.ofNat nT_items) then (some (0 : Int32)) else some (1 : Int32)
set_option maxHeartbeats 8000000 in
set_option maxRecDepth 100000 in
theorem c_Rw_isFull (l : Launch) (G : GG) (aT aT_items : Nat) (vT_size : Int32) (fT_items : Nat → Int32) (nT_items : Nat) (r0 : Int32) (hev : f_Rw_isFull nT_items vT_size = some r0) : RO l G yX3_isFull cX3_isFull 1 (some .boolean) 0 [.ref aT] [(aT, .inr (1, [.ref aT_items, .int vT_size])), (aT_items, .inl (G.2.1, nT_items, .inl fT_items))] (some (.int r0)) := by
  refine RO_of (by decide) (Nat.le_of_ble_eq_true rfl) ?_
  intro p e s m ar below meth c R Q H ls X hR hP hKK hS0 hl ret
  generalize hrs : r0 = rs at hev ret
  have hl : lv_has ls 1 [(0, .ref aT)] := hl
  obtain ⟨hx, hb, hml, hown, hts, hT⟩ := id X
  have hK := hKK.1
  have hw : ∀ w ∈ T0, w.before ar s = true := fun w h => hts w (hT w h)
  have i3 := fun w h => hT w (inT3 w h)
  unfold f_Rw_isFull at hev
  refine lv_aload_n hx hb dX3_isFull_0 rfl (lv_at hl 0 rfl) ?_
  refine va_get (D := G.1) (ci := 1) (v := .int vT_size) (C := RX3) (T := TX3) (N := 2) hx hb hts i3 hown hK hP 0 rfl rfl 1 (by decide) (hw _ u118) (fun _ h9 => h9) rfl dX3_isFull_1 ?_
  refine lv_aload_n hx hb dX3_isFull_4 rfl (lv_at hl 0 rfl) ?_
  refine va_get (D := G.1) (ci := 1) (v := .ref aT_items) (C := RX3) (T := TX3) (N := 2) hx hb hts i3 hown hK hP 0 rfl rfl 0 (by decide) (hw _ u117) (fun _ h9 => h9) rfl dX3_isFull_5 ?_
  refine va_alen hx hb hK hP 1 0 (v := (Int32.ofNat nT_items)) rfl rfl rfl dX3_isFull_8 ?_
  refine lv_icmp_lt (tgt := 16) hx hb dX3_isFull_9 (by decide) (fun c1 => ?_) (fun c1 => ?_)
  · replace hev := x_t c1 hev
    refine lv_iconst (v := (0 : Int32)) hx hb dX3_isFull_16 (by decide) ?_
    exact ret _ _ _ dX3_isFull_17 ((show narrow _ (.int (0 : Int32)) = .int (0 : Int32) from nb0).trans (congrArg Value.int (Option.some.inj hev)))
  · replace hev := x_f c1 hev
    refine lv_iconst (v := (1 : Int32)) hx hb dX3_isFull_12 (by decide) ?_
    refine lv_goto (tgt := 17) hx hb dX3_isFull_13 (by decide) ?_
    exact ret _ _ _ dX3_isFull_17 ((show narrow _ (.int (1 : Int32)) = .int (1 : Int32) from nb1).trans (congrArg Value.int (Option.some.inj hev)))
def f_Rw_dropLast (vT_size : Int32) : Option (Int32) := x_L ((if (vT_size - (1 : Int32)) < (0 : Int32) then (0 : Int32) else (vT_size - (1 : Int32)))) (fun y1 => some y1)
set_option maxHeartbeats 8000000 in
set_option maxRecDepth 100000 in
theorem c_Rw_dropLast (l : Launch) (G : GG) (aT aT_items : Nat) (vT_size : Int32) (wvT_size : Int32) (hev : f_Rw_dropLast vT_size = some wvT_size) : RW l G yX3_dropLast cX3_dropLast 1 none 1 [.ref aT] [(aT, .inr (1, [.ref aT_items, .int vT_size]))] none [(aT, .inr (1, [.ref aT_items, .int wvT_size]))] 0 0 := by
  refine RW_of (by decide) (Nat.le_of_ble_eq_true rfl) ?_
  intro p e s m ar below meth c R Q A ls X hR hRc hin hP hKK hD hS hA hAb hl ret
  obtain ⟨rs, hrs⟩ : ∃ q, q = wvT_size := ⟨_, rfl⟩
  rw [← hrs] at hev
  have ret2 : ∀ (pc : Nat) (ls : Array Slot) (H : Heap) (lo : List Loc) (zvT_size : Int32), zvT_size = rs → decode cX3_dropLast pc = .ok (.return_, 1) → va_P G.1 classes [(aT, .inr (1, [.ref aT_items, .int zvT_size]))] H → va_D A [(aT, .inr (1, [.ref aT_items, .int zvT_size]))] → va_S A s.heap H lo → W p l e R s m ar below meth c H lo 0 0 Q (F0 m pc ls []) := by
    intro pc ls H lo zvT_size he hd h1 h2 h3
    have he := he.trans hrs
    cases he
    exact ret.2.1 _ _ _ _ rfl rfl hd h1 h2 h3
  clear ret hrs
  have hl : lv_has ls 1 [(0, .ref aT)] := hl
  obtain ⟨hx, hb, hml, hown, hts, hT⟩ := id X
  have hK := hKK.1
  have hw : ∀ w ∈ T0, w.before ar s = true := fun w h => hts w (hT w h)
  have i3 := fun w h => hT w (inT3 w h)
  unfold f_Rw_dropLast at hev
  refine lv_aload_n hx hb dX3_dropLast_0 rfl (lv_at hl 0 rfl) ?_
  refine lv_aload_n hx hb dX3_dropLast_1 rfl (lv_at hl 0 rfl) ?_
  refine va_get (D := G.1) (ci := 1) (v := .int vT_size) (C := RX3) (T := TX3) (N := 2) hx hb hts i3 hown hK hP 0 rfl rfl 1 (by decide) (hw _ u118) (fun _ h9 => h9) rfl dX3_dropLast_2 ?_
  refine lv_iconst (v := (1 : Int32)) hx hb dX3_dropLast_5 (by decide) ?_
  refine lv_isub hx hb dX3_dropLast_6 ?_
  refine lv_iconst (v := (0 : Int32)) hx hb dX3_dropLast_7 (by decide) ?_
  refine va_mmax hx hb (hml.trans hl.1.symm) hown (hw _ u114) (hw _ u115) (hw _ u83) (hw _ u116) (Nat.le_trans (by decide) hR.1) (Nat.le_trans (Nat.le_of_ble_eq_true rfl) hR.2) (Nat.zero_le _) (Nat.zero_le _) dX3_dropLast_8 ?_
  refine lv_topi (fun y1 ey1 => ?_)
  replace hev := x_lt hev y1 ey1
  refine va_put (D := G.1) (ci := 1) (v := .int y1) (ty := .int) (C := RX3) (T := TX3) (N := 2) hx hb hts i3 tyX3 tyX3_ok nmX3 hown hK hP hD hS 0 rfl rfl 1 (by decide) (hw _ u118) (fun _ h9 => h9) rfl (by decide +kernel) rfl rfl (Nat.le_of_ble_eq_true rfl) dX3_dropLast_11 (fun H lo hP hD hS => ?_)
  exact ret2 _ _ _ _ y1 (Option.some.inj hev) dX3_dropLast_14 hP hD hS
def f_Rw_dropFirst_J39 (k : Nat) (nT_items : Nat) (vT_size : Int32) (fT_items : Nat → Int32) : Option (Int32 × (Nat → Int32)) := x_B (f_Rw_dropLast vT_size) (fun w1 => some (w1, fT_items))
def f_Rw_dropFirst_L2 (nT_items : Nat) (vT_size : Int32) : Nat → Int32 → (Nat → Int32) → Option ((Nat → Int32))
  | 0, _, _ => none
  | k + 1, x1, fT_items => if vT_size ≤ x1 then (some fT_items) else if (Int32.ofNat nT_items) ≤ x1 then (some fT_items) else x_I nT_items fT_items x1 (fun v5 => x_C nT_items (x1 - (1 : Int32)) (x_L (x1 + (1 : Int32)) (fun y7 => (f_Rw_dropFirst_L2 nT_items vT_size k) y7 (upd fT_items ((x1 - (1 : Int32))).toNatClampNeg v5))))
def f_Rw_dropFirst (k : Nat) (nT_items : Nat) (vT_size : Int32) (fT_items : Nat → Int32) : Option (Int32 × (Nat → Int32)) := x_B (f_Rw_dropFirst_L2 nT_items vT_size k (1 : Int32) fT_items) (fun w8 => f_Rw_dropFirst_J39 k nT_items vT_size w8)
set_option maxHeartbeats 8000000 in
set_option maxRecDepth 100000 in
theorem c_Rw_dropFirst (l : Launch) (G : GG) (aT aT_items : Nat) (vT_size : Int32) (fT_items : Nat → Int32) (nT_items : Nat) (k : Nat) (wvT_size : Int32) (wfT_items : Nat → Int32) (hev : f_Rw_dropFirst k nT_items vT_size fT_items = some (wvT_size, wfT_items)) : RW l G yX3_dropFirst cX3_dropFirst 2 none 2 [.ref aT] [(aT, .inr (1, [.ref aT_items, .int vT_size])), (aT_items, .inl (G.2.1, nT_items, .inl fT_items))] none [(aT, .inr (1, [.ref aT_items, .int wvT_size])), (aT_items, .inl (G.2.1, nT_items, .inl wfT_items))] 0 0 := by
  refine RW_of (by decide) (Nat.le_of_ble_eq_true rfl) ?_
  intro p e s m ar below meth c R Q A ls X hR hRc hin hP hKK hD hS hA hAb hl ret
  obtain ⟨rs, hrs⟩ : ∃ q, q = (wvT_size, wfT_items) := ⟨_, rfl⟩
  rw [← hrs] at hev
  have ret2 : ∀ (pc : Nat) (ls : Array Slot) (H : Heap) (lo : List Loc) (zvT_size : Int32) (zfT_items : Nat → Int32), (zvT_size, zfT_items) = rs → decode cX3_dropFirst pc = .ok (.return_, 1) → va_P G.1 classes [(aT, .inr (1, [.ref aT_items, .int zvT_size])), (aT_items, .inl (G.2.1, nT_items, .inl zfT_items))] H → va_D A [(aT, .inr (1, [.ref aT_items, .int zvT_size])), (aT_items, .inl (G.2.1, nT_items, .inl zfT_items))] → va_S A s.heap H lo → W p l e R s m ar below meth c H lo 0 0 Q (F0 m pc ls []) := by
    intro pc ls H lo zvT_size zfT_items he hd h1 h2 h3
    have he := he.trans hrs
    cases he
    exact ret.2.1 _ _ _ _ rfl rfl hd h1 h2 h3
  clear ret hrs
  have hl : lv_has ls 2 [(0, .ref aT)] := hl
  obtain ⟨hx, hb, hml, hown, hts, hT⟩ := id X
  have hK := hKK.1
  have hw : ∀ w ∈ T0, w.before ar s = true := fun w h => hts w (hT w h)
  have i3 := fun w h => hT w (inT3 w h)
  have J39 : ∀ (vT_size : Int32) (fT_items : Nat → Int32), ∀ (H : Heap) (lo : List Loc), va_P G.1 classes [(aT, .inr (1, [.ref aT_items, .int vT_size])), (aT_items, .inl (G.2.1, nT_items, .inl fT_items))] H → va_D A [(aT, .inr (1, [.ref aT_items, .int vT_size])), (aT_items, .inl (G.2.1, nT_items, .inl fT_items))] → va_S A s.heap H lo → ∀ (ls : Array Slot), f_Rw_dropFirst_J39 k nT_items vT_size fT_items = some rs → lv_has ls 2 [(0, .ref aT)] → W p l e R s m ar below meth c H lo 0 0 Q (F0 m 39 ls []) := by
    intro vT_size fT_items H lo hP hD hS ls hev hl
    unfold f_Rw_dropFirst_J39 at hev
    refine lv_aload_n hx hb dX3_dropFirst_39 rfl (lv_at hl 0 rfl) ?_
    obtain ⟨w1, hq, hev⟩ := x_bd hev
    refine rgV X (KK_at hKK hS hAb) hR (st1 := []) (ws2 := [(aT, .inr (1, [.ref aT_items, .int w1])), (aT_items, .inl (G.2.1, nT_items, .inl fT_items))]) (c_Rw_dropLast l G aT aT_items vT_size w1 hq) K_X3_dropLast u756 hP hD hS hA hAb [0] rfl (sbC rfl sb0) (mgN 0 rfl rfl (mgK (by decide) (mg0))) rfl (q0 := 0) rfl (by decide) ⟨Nat.zero_le _, Nat.zero_le _⟩ rfl hl.1 rfl (Nat.le_of_ble_eq_true rfl) rfl dX3_dropFirst_40 (fun H lo hP hD hS => ?_)
    exact ret2 _ _ _ _ w1 fT_items (Option.some.inj hev) dX3_dropFirst_43 hP hD hS
  unfold f_Rw_dropFirst at hev
  refine lv_iconst (v := (1 : Int32)) hx hb dX3_dropFirst_0 (by decide) ?_
  refine lv_istore_n (lv' := [(1, .int (1 : Int32)), (0, .ref aT)]) hx hb dX3_dropFirst_1 rfl hl (by decide) rfl (fun ls hl => ?_)
  have L2 : ∀ (vT_size : Int32), ∀ (k : Nat) (x1 : Int32) (fT_items : Nat → Int32) (ofT_items : Nat → Int32), f_Rw_dropFirst_L2 nT_items vT_size k x1 fT_items = some ofT_items → (∀ (H : Heap) (lo : List Loc), va_P G.1 classes [(aT, .inr (1, [.ref aT_items, .int vT_size])), (aT_items, .inl (G.2.1, nT_items, .inl ofT_items))] H → va_D A [(aT, .inr (1, [.ref aT_items, .int vT_size])), (aT_items, .inl (G.2.1, nT_items, .inl ofT_items))] → va_S A s.heap H lo → ∀ (ls : Array Slot), lv_has ls 2 [(0, .ref aT)] → W p l e R s m ar below meth c H lo 0 0 Q (F0 m 39 ls [])) → ∀ (H : Heap) (lo : List Loc), va_P G.1 classes [(aT, .inr (1, [.ref aT_items, .int vT_size])), (aT_items, .inl (G.2.1, nT_items, .inl fT_items))] H → va_D A [(aT, .inr (1, [.ref aT_items, .int vT_size])), (aT_items, .inl (G.2.1, nT_items, .inl fT_items))] → va_S A s.heap H lo → ∀ (ls : Array Slot), lv_has ls 2 [(0, .ref aT), (1, .int x1)] → W p l e R s m ar below meth c H lo 0 0 Q (F0 m 2 ls []) := by
    intro vT_size k
    induction k with
    | zero => intro x1 fT_items ofT_items hev; rw [f_Rw_dropFirst_L2] at hev; cases hev
    | succ k ih =>
      intro x1 fT_items ofT_items hev hex H lo hP hD hS ls hl
      rw [f_Rw_dropFirst_L2] at hev
      refine lv_iload_n hx hb dX3_dropFirst_2 rfl (lv_at hl 1 rfl) ?_
      refine lv_aload_n hx hb dX3_dropFirst_3 rfl (lv_at hl 0 rfl) ?_
      refine va_get (D := G.1) (ci := 1) (v := .int vT_size) (C := RX3) (T := TX3) (N := 2) hx hb hts i3 hown hK hP 0 rfl rfl 1 (by decide) (hw _ u118) (fun _ h9 => h9) rfl dX3_dropFirst_4 ?_
      refine lv_icmp_ge (tgt := 39) hx hb dX3_dropFirst_7 (by decide) (fun c2 => ?_) (fun c2 => ?_)
      · replace hev := x_t c2 hev
        cases hev
        exact hex _ _ hP hD hS ls (lv_sub hl [0] rfl)
      · replace hev := x_f c2 hev
        refine lv_iload_n hx hb dX3_dropFirst_10 rfl (lv_at hl 1 rfl) ?_
        refine lv_aload_n hx hb dX3_dropFirst_11 rfl (lv_at hl 0 rfl) ?_
        refine va_get (D := G.1) (ci := 1) (v := .ref aT_items) (C := RX3) (T := TX3) (N := 2) hx hb hts i3 hown hK hP 0 rfl rfl 0 (by decide) (hw _ u117) (fun _ h9 => h9) rfl dX3_dropFirst_12 ?_
        refine va_alen hx hb hK hP 1 0 (v := (Int32.ofNat nT_items)) rfl rfl rfl dX3_dropFirst_15 ?_
        refine lv_icmp_ge (tgt := 39) hx hb dX3_dropFirst_16 (by decide) (fun c3 => ?_) (fun c3 => ?_)
        · replace hev := x_t c3 hev
          cases hev
          exact hex _ _ hP hD hS ls (lv_sub hl [0] rfl)
        · replace hev := x_f c3 hev
          refine lv_aload_n hx hb dX3_dropFirst_19 rfl (lv_at hl 0 rfl) ?_
          refine va_get (D := G.1) (ci := 1) (v := .ref aT_items) (C := RX3) (T := TX3) (N := 2) hx hb hts i3 hown hK hP 0 rfl rfl 0 (by decide) (hw _ u117) (fun _ h9 => h9) rfl dX3_dropFirst_20 ?_
          refine lv_iload_n hx hb dX3_dropFirst_23 rfl (lv_at hl 1 rfl) ?_
          refine lv_iconst (v := (1 : Int32)) hx hb dX3_dropFirst_24 (by decide) ?_
          refine lv_isub hx hb dX3_dropFirst_25 ?_
          refine lv_aload_n hx hb dX3_dropFirst_26 rfl (lv_at hl 0 rfl) ?_
          refine va_get (D := G.1) (ci := 1) (v := .ref aT_items) (C := RX3) (T := TX3) (N := 2) hx hb hts i3 hown hK hP 0 rfl rfl 0 (by decide) (hw _ u117) (fun _ h9 => h9) rfl dX3_dropFirst_27 ?_
          refine lv_iload_n hx hb dX3_dropFirst_30 rfl (lv_at hl 1 rfl) ?_
          obtain ⟨h4, hev⟩ := x_ld hev
          refine va_iald hx hb hK hP 1 0 rfl rfl h4 dX3_dropFirst_31 ?_
          refine lv_topi (fun v5 ev5 => ?_)
          replace hev := hev v5 ev5
          obtain ⟨h6, hev⟩ := x_ck hev
          refine va_iast hx hb hK hP hD hS 1 0 rfl rfl h6 dX3_dropFirst_32 (fun H lo hP hD hS => ?_)
          obtain ⟨y7, ey7⟩ : ∃ y : Int32, y = x1 + (1 : Int32) := ⟨_, rfl⟩
          refine lv_iinc (v := y7) (lv' := [(1, .int y7), (0, .ref aT)]) hx hb dX3_dropFirst_33 hl (k := 1) rfl (by rw [ey7]; rfl) (by decide) rfl (fun ls hl => ?_)
          replace hev := x_lt hev y7 ey7
          refine lv_goto (tgt := 2) hx hb dX3_dropFirst_36 (by decide) ?_
          exact ih y7 (upd fT_items ((x1 - (1 : Int32))).toNatClampNeg v5) _ hev hex _ _ hP hD hS ls (lv_sub hl [1, 0] rfl)
  obtain ⟨w8, hq, hev⟩ := x_bd hev
  refine L2 vT_size k (1 : Int32) fT_items w8 hq (fun H lo hP hD hS ls hl => ?_) _ _ hP hD hS ls (lv_sub hl [1, 0] rfl)
  exact J39 vT_size w8 _ _ hP hD hS ls hev (lv_sub hl [0] rfl)
