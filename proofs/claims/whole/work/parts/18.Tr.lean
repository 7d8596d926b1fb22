def f_Tr_empty (vT_lifted : Int32) (vT_trials_size : Int32) : Option (Int32 × Int32 × Int32) := x_B (f_Rw_empty vT_trials_size) (fun ⟨y1, w2⟩ => some (y1, (0 : Int32), w2))
set_option maxHeartbeats 8000000 in
set_option maxRecDepth 100000 in
theorem c_Tr_empty (l : Launch) (G : GG) (aT aT_trials aT_so aT_trials_items : Nat) (vT_lifted : Int32) (vT_people : Int32) (vT_trials_size : Int32) (r0 : Int32) (wvT_lifted : Int32) (wvT_trials_size : Int32) (hev : f_Tr_empty vT_lifted vT_trials_size = some (r0, wvT_lifted, wvT_trials_size)) : RW l G yX9_empty cX9_empty 1 (some .int) 1 [.ref aT] [(aT, .inr (5, [.ref aT_trials, .int vT_lifted, .ref aT_so, .int vT_people])), (aT_trials, .inr (1, [.ref aT_trials_items, .int vT_trials_size]))] (some (.int r0)) [(aT, .inr (5, [.ref aT_trials, .int wvT_lifted, .ref aT_so, .int vT_people])), (aT_trials, .inr (1, [.ref aT_trials_items, .int wvT_trials_size]))] 0 0 := by
  refine RW_of (by decide) (Nat.le_of_ble_eq_true rfl) ?_
  intro p e s m ar below meth c R Q A ls X hR hRc hin hP hKK hD hS hA hAb hl ret
  obtain ⟨rs, hrs⟩ : ∃ q, q = (r0, wvT_lifted, wvT_trials_size) := ⟨_, rfl⟩
  rw [← hrs] at hev
  have ret2 : ∀ (pc : Nat) (ls : Array Slot) (H : Heap) (lo : List Loc) (v r1 : Int32) (zvT_lifted : Int32) (zvT_trials_size : Int32), (r1, zvT_lifted, zvT_trials_size) = rs → decode cX9_empty pc = .ok (.ireturn, 1) → narrow .int (.int v) = .int r1 → va_P G.1 classes [(aT, .inr (5, [.ref aT_trials, .int zvT_lifted, .ref aT_so, .int vT_people])), (aT_trials, .inr (1, [.ref aT_trials_items, .int zvT_trials_size]))] H → va_D A [(aT, .inr (5, [.ref aT_trials, .int zvT_lifted, .ref aT_so, .int vT_people])), (aT_trials, .inr (1, [.ref aT_trials_items, .int zvT_trials_size]))] → va_S A s.heap H lo → W p l e R s m ar below meth c H lo 0 0 Q (F0 m pc ls [.int v]) := by
    intro pc ls H lo v r1 zvT_lifted zvT_trials_size he hd hn h1 h2 h3
    have he := he.trans hrs
    cases he
    exact ret.1 _ _ _ _ _ _ _ rfl rfl hd hn h1 h2 h3
  clear ret hrs
  have hl : lv_has ls 1 [(0, .ref aT)] := hl
  obtain ⟨hx, hb, hml, hown, hts, hT⟩ := id X
  have hK := hKK.1
  have hw : ∀ w ∈ T0, w.before ar s = true := fun w h => hts w (hT w h)
  have i9 := fun w h => hT w (inT9 w h)
  unfold f_Tr_empty at hev
  refine lv_aload_n hx hb dX9_empty_0 rfl (lv_at hl 0 rfl) ?_
  refine lv_iconst (v := (0 : Int32)) hx hb dX9_empty_1 (by decide) ?_
  refine va_put (D := G.1) (ci := 5) (v := .int (0 : Int32)) (ty := .int) (C := RX9) (T := TX9) (N := 4) hx hb hts i9 tyX9 tyX9_ok nmX9 hown hK hP hD hS 0 rfl rfl 1 (by decide) (hw _ u290) (fun _ h9 => h9) rfl (by decide +kernel) rfl rfl (Nat.le_of_ble_eq_true rfl) dX9_empty_2 (fun H lo hP hD hS => ?_)
  refine lv_aload_n hx hb dX9_empty_5 rfl (lv_at hl 0 rfl) ?_
  refine va_get (D := G.1) (ci := 5) (v := .ref aT_trials) (C := RX9) (T := TX9) (N := 4) hx hb hts i9 hown hK hP 0 rfl rfl 0 (by decide) (hw _ u289) (fun _ h9 => h9) rfl dX9_empty_6 ?_
  obtain ⟨⟨y1, w2⟩, hq, hev⟩ := x_bd hev
  refine rgV X (KK_at hKK hS hAb) hR (st1 := [.int y1]) (ws2 := [(aT, .inr (5, [.ref aT_trials, .int (0 : Int32), .ref aT_so, .int vT_people])), (aT_trials, .inr (1, [.ref aT_trials_items, .int w2]))]) (c_Rw_empty l G aT_trials aT_trials_items vT_trials_size y1 w2 hq) K_X3_empty u416 hP hD hS hA hAb [1] rfl (sbC rfl sb0) (mgK (by decide) (mgN 0 rfl rfl (mg0))) rfl (q0 := 0) rfl (by decide) ⟨Nat.zero_le _, Nat.zero_le _⟩ rfl hl.1 rfl (Nat.le_of_ble_eq_true rfl) rfl dX9_empty_9 (fun H lo hP hD hS => ?_)
  exact ret2 _ _ _ _ y1 y1 (0 : Int32) w2 (Option.some.inj hev) dX9_empty_12 (show narrow _ (.int y1) = .int y1 from rfl) hP hD hS
def f_Tr_packed (p0 : Int32) (p1 : Int32) (p2 : Int32) (p3 : Int32) : Option (Int32) := some ((((p0 + (1 : Int32)) ||| (p1 <<< ((3 : Int32) &&& 31))) ||| (p2 <<< ((6 : Int32) &&& 31))) ||| (p3 <<< ((9 : Int32) &&& 31)))
set_option maxHeartbeats 8000000 in
set_option maxRecDepth 100000 in
theorem c_Tr_packed (l : Launch) (G : GG) (p0 : Int32) (p1 : Int32) (p2 : Int32) (p3 : Int32) (r0 : Int32) (hev : f_Tr_packed p0 p1 p2 p3 = some r0) : RO l G yX9_packed cX9_packed 4 (some .int) 0 [.int p0, .int p1, .int p2, .int p3] [] (some (.int r0)) := by
  refine RO_of (by decide) (Nat.le_of_ble_eq_true rfl) ?_
  intro p e s m ar below meth c R Q H ls X hR hP hKK hS0 hl ret
  generalize hrs : r0 = rs at hev ret
  have hl : lv_has ls 4 [(0, .int p0), (1, .int p1), (2, .int p2), (3, .int p3)] := hl
  obtain ⟨hx, hb, hml, hown, hts, hT⟩ := id X
  have hK := hKK.1
  have hw : ∀ w ∈ T0, w.before ar s = true := fun w h => hts w (hT w h)
  unfold f_Tr_packed at hev
  refine lv_iload_n hx hb dX9_packed_0 rfl (lv_at hl 0 rfl) ?_
  refine lv_iconst (v := (1 : Int32)) hx hb dX9_packed_1 (by decide) ?_
  refine lv_iadd hx hb dX9_packed_2 ?_
  refine lv_iload_n hx hb dX9_packed_3 rfl (lv_at hl 1 rfl) ?_
  refine lv_iconst (v := (3 : Int32)) hx hb dX9_packed_4 (by decide) ?_
  refine lv_ishl hx hb dX9_packed_5 ?_
  refine lv_ior hx hb dX9_packed_6 ?_
  refine lv_iload_n hx hb dX9_packed_7 rfl (lv_at hl 2 rfl) ?_
  refine lv_bipush (v := (6 : Int32)) hx hb dX9_packed_8 (by decide) ?_
  refine lv_ishl hx hb dX9_packed_10 ?_
  refine lv_ior hx hb dX9_packed_11 ?_
  refine lv_iload_n hx hb dX9_packed_12 rfl (lv_at hl 3 rfl) ?_
  refine lv_bipush (v := (9 : Int32)) hx hb dX9_packed_13 (by decide) ?_
  refine lv_ishl hx hb dX9_packed_15 ?_
  refine lv_ior hx hb dX9_packed_16 ?_
  exact ret _ _ _ dX9_packed_17 ((show narrow _ (.int ((((p0 + (1 : Int32)) ||| (p1 <<< ((3 : Int32) &&& 31))) ||| (p2 <<< ((6 : Int32) &&& 31))) ||| (p3 <<< ((9 : Int32) &&& 31)))) = .int ((((p0 + (1 : Int32)) ||| (p1 <<< ((3 : Int32) &&& 31))) ||| (p2 <<< ((6 : Int32) &&& 31))) ||| (p3 <<< ((9 : Int32) &&& 31))) from rfl).trans (congrArg Value.int (Option.some.inj hev)))
def f_Tr_add (nT_trials_items : Nat) (vT_lifted : Int32) (vT_trials_size : Int32) (fT_trials_items : Nat → Int32) (p1 : Int32) (p2 : Int32) : Option (Int32 × Int32 × Int32 × (Nat → Int32)) := x_B (f_Rw_add nT_trials_items vT_trials_size fT_trials_items p1) (fun ⟨y1, w2, w3⟩ => if y1 = 0 then (some ((0 : Int32), vT_lifted, w2, w3)) else x_B (f_Rw_size w2) (fun y5 => x_L ((vT_lifted ||| (p2 <<< ((y5 - (1 : Int32)) &&& 31)))) (fun y6 => some ((1 : Int32), y6, w2, w3))))
set_option maxHeartbeats 8000000 in
set_option maxRecDepth 100000 in
theorem c_Tr_add (l : Launch) (G : GG) (aT aT_trials aT_so aT_trials_items : Nat) (vT_lifted : Int32) (vT_people : Int32) (vT_trials_size : Int32) (fT_trials_items : Nat → Int32) (nT_trials_items : Nat) (p1 : Int32) (p2 : Int32) (r0 : Int32) (wvT_lifted : Int32) (wvT_trials_size : Int32) (wfT_trials_items : Nat → Int32) (hev : f_Tr_add nT_trials_items vT_lifted vT_trials_size fT_trials_items p1 p2 = some (r0, wvT_lifted, wvT_trials_size, wfT_trials_items)) : RW l G yX9_add cX9_add 3 (some .boolean) 1 [.ref aT, .int p1, .int p2] [(aT, .inr (5, [.ref aT_trials, .int vT_lifted, .ref aT_so, .int vT_people])), (aT_trials, .inr (1, [.ref aT_trials_items, .int vT_trials_size])), (aT_trials_items, .inl (G.2.1, nT_trials_items, .inl fT_trials_items))] (some (.int r0)) [(aT, .inr (5, [.ref aT_trials, .int wvT_lifted, .ref aT_so, .int vT_people])), (aT_trials, .inr (1, [.ref aT_trials_items, .int wvT_trials_size])), (aT_trials_items, .inl (G.2.1, nT_trials_items, .inl wfT_trials_items))] 0 0 := by
  refine RW_of (by decide) (Nat.le_of_ble_eq_true rfl) ?_
  intro p e s m ar below meth c R Q A ls X hR hRc hin hP hKK hD hS hA hAb hl ret
  obtain ⟨rs, hrs⟩ : ∃ q, q = (r0, wvT_lifted, wvT_trials_size, wfT_trials_items) := ⟨_, rfl⟩
  rw [← hrs] at hev
  have ret2 : ∀ (pc : Nat) (ls : Array Slot) (H : Heap) (lo : List Loc) (v r1 : Int32) (zvT_lifted : Int32) (zvT_trials_size : Int32) (zfT_trials_items : Nat → Int32), (r1, zvT_lifted, zvT_trials_size, zfT_trials_items) = rs → decode cX9_add pc = .ok (.ireturn, 1) → narrow .boolean (.int v) = .int r1 → va_P G.1 classes [(aT, .inr (5, [.ref aT_trials, .int zvT_lifted, .ref aT_so, .int vT_people])), (aT_trials, .inr (1, [.ref aT_trials_items, .int zvT_trials_size])), (aT_trials_items, .inl (G.2.1, nT_trials_items, .inl zfT_trials_items))] H → va_D A [(aT, .inr (5, [.ref aT_trials, .int zvT_lifted, .ref aT_so, .int vT_people])), (aT_trials, .inr (1, [.ref aT_trials_items, .int zvT_trials_size])), (aT_trials_items, .inl (G.2.1, nT_trials_items, .inl zfT_trials_items))] → va_S A s.heap H lo → W p l e R s m ar below meth c H lo 0 0 Q (F0 m pc ls [.int v]) := by
    intro pc ls H lo v r1 zvT_lifted zvT_trials_size zfT_trials_items he hd hn h1 h2 h3
    have he := he.trans hrs
    cases he
    exact ret.1 _ _ _ _ _ _ _ rfl rfl hd hn h1 h2 h3
  clear ret hrs
  have hl : lv_has ls 3 [(0, .ref aT), (1, .int p1), (2, .int p2)] := hl
  obtain ⟨hx, hb, hml, hown, hts, hT⟩ := id X
  have hK := hKK.1
  have hw : ∀ w ∈ T0, w.before ar s = true := fun w h => hts w (hT w h)
  have i9 := fun w h => hT w (inT9 w h)
  unfold f_Tr_add at hev
  refine lv_aload_n hx hb dX9_add_0 rfl (lv_at hl 0 rfl) ?_
  refine va_get (D := G.1) (ci := 5) (v := .ref aT_trials) (C := RX9) (T := TX9) (N := 4) hx hb hts i9 hown hK hP 0 rfl rfl 0 (by decide) (hw _ u289) (fun _ h9 => h9) rfl dX9_add_1 ?_
  refine lv_iload_n hx hb dX9_add_4 rfl (lv_at hl 1 rfl) ?_
  obtain ⟨⟨y1, w2, w3⟩, hq, hev⟩ := x_bd hev
  refine rgV X (KK_at hKK hS hAb) hR (st1 := [.int y1]) (ws2 := [(aT, .inr (5, [.ref aT_trials, .int vT_lifted, .ref aT_so, .int vT_people])), (aT_trials, .inr (1, [.ref aT_trials_items, .int w2])), (aT_trials_items, .inl (G.2.1, nT_trials_items, .inl w3))]) (c_Rw_add l G aT_trials aT_trials_items vT_trials_size fT_trials_items nT_trials_items p1 y1 w2 w3 hq) K_X3_add u996 hP hD hS hA hAb [1, 2] rfl (sbC rfl (sbC rfl sb0)) (mgK (by decide) (mgN 0 rfl rfl (mgN 1 rfl rfl (mg0)))) rfl (q0 := 0) rfl (by decide) ⟨Nat.zero_le _, Nat.zero_le _⟩ rfl hl.1 rfl (Nat.le_of_ble_eq_true rfl) rfl dX9_add_5 (fun H lo hP hD hS => ?_)
  refine lv_if_ne (tgt := 13) hx hb dX9_add_8 (by decide) (fun c4 => ?_) (fun c4 => ?_)
  · replace hev := x_f c4 hev
    refine lv_aload_n hx hb dX9_add_13 rfl (lv_at hl 0 rfl) ?_
    refine lv_dup hx hb dX9_add_14 rfl ?_
    refine va_get (D := G.1) (ci := 5) (v := .int vT_lifted) (C := RX9) (T := TX9) (N := 4) hx hb hts i9 hown hK hP 0 rfl rfl 1 (by decide) (hw _ u290) (fun _ h9 => h9) rfl dX9_add_15 ?_
    refine lv_iload_n hx hb dX9_add_18 rfl (lv_at hl 2 rfl) ?_
    refine lv_aload_n hx hb dX9_add_19 rfl (lv_at hl 0 rfl) ?_
    refine va_get (D := G.1) (ci := 5) (v := .ref aT_trials) (C := RX9) (T := TX9) (N := 4) hx hb hts i9 hown hK hP 0 rfl rfl 0 (by decide) (hw _ u289) (fun _ h9 => h9) rfl dX9_add_20 ?_
    obtain ⟨y5, hq, hev⟩ := x_bd hev
    refine roV X (KK_at hKK hS hAb) hR (st1 := [.int y5, .int p2, .int vT_lifted, .ref aT]) (c_Rw_size l G aT_trials aT_trials_items w2 y5 hq) K_X3_size u997 (x_Psub hP [1] rfl) rfl (q0 := 0) rfl (by decide) ⟨Nat.zero_le _, Nat.zero_le _⟩ rfl hl.1 rfl (Nat.le_of_ble_eq_true rfl) rfl dX9_add_23 ?_
    refine lv_iconst (v := (1 : Int32)) hx hb dX9_add_26 (by decide) ?_
    refine lv_isub hx hb dX9_add_27 ?_
    refine lv_ishl hx hb dX9_add_28 ?_
    refine lv_ior hx hb dX9_add_29 ?_
    refine lv_topi (fun y6 ey6 => ?_)
    replace hev := x_lt hev y6 ey6
    refine va_put (D := G.1) (ci := 5) (v := .int y6) (ty := .int) (C := RX9) (T := TX9) (N := 4) hx hb hts i9 tyX9 tyX9_ok nmX9 hown hK hP hD hS 0 rfl rfl 1 (by decide) (hw _ u290) (fun _ h9 => h9) rfl (by decide +kernel) rfl rfl (Nat.le_of_ble_eq_true rfl) dX9_add_30 (fun H lo hP hD hS => ?_)
    refine lv_iconst (v := (1 : Int32)) hx hb dX9_add_33 (by decide) ?_
    exact ret2 _ _ _ _ (1 : Int32) (1 : Int32) y6 w2 w3 (Option.some.inj hev) dX9_add_34 (show narrow _ (.int (1 : Int32)) = .int (1 : Int32) from nb1) hP hD hS
  · replace hev := x_t c4 hev
    refine lv_iconst (v := (0 : Int32)) hx hb dX9_add_11 (by decide) ?_
    exact ret2 _ _ _ _ (0 : Int32) (0 : Int32) vT_lifted w2 w3 (Option.some.inj hev) dX9_add_12 (show narrow _ (.int (0 : Int32)) = .int (0 : Int32) from nb0) hP hD hS
def f_Tr_size (vT_trials_size : Int32) : Option (Int32) := x_B (f_Rw_size vT_trials_size) (fun y1 => some y1)
set_option maxHeartbeats 8000000 in
set_option maxRecDepth 100000 in
theorem c_Tr_size (l : Launch) (G : GG) (aT aT_trials aT_so aT_trials_items : Nat) (vT_lifted : Int32) (vT_people : Int32) (vT_trials_size : Int32) (r0 : Int32) (hev : f_Tr_size vT_trials_size = some r0) : RO l G yX9_size cX9_size 1 (some .int) 1 [.ref aT] [(aT, .inr (5, [.ref aT_trials, .int vT_lifted, .ref aT_so, .int vT_people])), (aT_trials, .inr (1, [.ref aT_trials_items, .int vT_trials_size]))] (some (.int r0)) := by
  refine RO_of (by decide) (Nat.le_of_ble_eq_true rfl) ?_
  intro p e s m ar below meth c R Q H ls X hR hP hKK hS0 hl ret
  generalize hrs : r0 = rs at hev ret
  have hl : lv_has ls 1 [(0, .ref aT)] := hl
  obtain ⟨hx, hb, hml, hown, hts, hT⟩ := id X
  have hK := hKK.1
  have hw : ∀ w ∈ T0, w.before ar s = true := fun w h => hts w (hT w h)
  have i9 := fun w h => hT w (inT9 w h)
  unfold f_Tr_size at hev
  refine lv_aload_n hx hb dX9_size_0 rfl (lv_at hl 0 rfl) ?_
  refine va_get (D := G.1) (ci := 5) (v := .ref aT_trials) (C := RX9) (T := TX9) (N := 4) hx hb hts i9 hown hK hP 0 rfl rfl 0 (by decide) (hw _ u289) (fun _ h9 => h9) rfl dX9_size_1 ?_
  obtain ⟨y1, hq, hev⟩ := x_bd hev
  refine roV X hKK hR (st1 := [.int y1]) (c_Rw_size l G aT_trials aT_trials_items vT_trials_size y1 hq) K_X3_size u997 (x_Psub hP [1] rfl) rfl (q0 := 0) rfl (by decide) ⟨Nat.zero_le _, Nat.zero_le _⟩ rfl hl.1 rfl (Nat.le_of_ble_eq_true rfl) rfl dX9_size_4 ?_
  exact ret _ _ _ dX9_size_7 ((show narrow _ (.int y1) = .int y1 from rfl).trans (congrArg Value.int (Option.some.inj hev)))
def f_Tr_candidates (vT_people : Int32) : Option (Int32) := x_L ((if (17 : Int32) < ((((2 : Int32) * vT_people) + (7 : Int32)) + (4 : Int32)) then (17 : Int32) else ((((2 : Int32) * vT_people) + (7 : Int32)) + (4 : Int32)))) (fun y1 => some y1)
set_option maxHeartbeats 8000000 in
set_option maxRecDepth 100000 in
theorem c_Tr_candidates (l : Launch) (G : GG) (aT aT_trials aT_so : Nat) (vT_lifted : Int32) (vT_people : Int32) (r0 : Int32) (hev : f_Tr_candidates vT_people = some r0) : RO l G yX9_candidates cX9_candidates 1 (some .int) 1 [.ref aT] [(aT, .inr (5, [.ref aT_trials, .int vT_lifted, .ref aT_so, .int vT_people]))] (some (.int r0)) := by
  refine RO_of (by decide) (Nat.le_of_ble_eq_true rfl) ?_
  intro p e s m ar below meth c R Q H ls X hR hP hKK hS0 hl ret
  generalize hrs : r0 = rs at hev ret
  have hl : lv_has ls 1 [(0, .ref aT)] := hl
  obtain ⟨hx, hb, hml, hown, hts, hT⟩ := id X
  have hK := hKK.1
  have hw : ∀ w ∈ T0, w.before ar s = true := fun w h => hts w (hT w h)
  have i9 := fun w h => hT w (inT9 w h)
  unfold f_Tr_candidates at hev
  refine lv_iconst (v := (2 : Int32)) hx hb dX9_candidates_0 (by decide) ?_
  refine lv_aload_n hx hb dX9_candidates_1 rfl (lv_at hl 0 rfl) ?_
  refine va_get (D := G.1) (ci := 5) (v := .int vT_people) (C := RX9) (T := TX9) (N := 4) hx hb hts i9 hown hK hP 0 rfl rfl 3 (by decide) (hw _ u292) (fun _ h9 => h9) rfl dX9_candidates_2 ?_
  refine lv_imul hx hb dX9_candidates_5 ?_
  refine lv_bipush (v := (7 : Int32)) hx hb dX9_candidates_6 (by decide) ?_
  refine lv_iadd hx hb dX9_candidates_8 ?_
  refine lv_iconst (v := (4 : Int32)) hx hb dX9_candidates_9 (by decide) ?_
  refine lv_iadd hx hb dX9_candidates_10 ?_
  refine lv_bipush (v := (17 : Int32)) hx hb dX9_candidates_11 (by decide) ?_
  refine va_mmin hx hb (hml.trans hl.1.symm) hown (hw _ u1019) (hw _ u319) (hw _ u83) (hw _ u320) (Nat.le_trans (by decide) hR.1) (Nat.le_trans (Nat.le_of_ble_eq_true rfl) hR.2) (Nat.zero_le _) (Nat.zero_le _) dX9_candidates_13 ?_
  refine lv_topi (fun y1 ey1 => ?_)
  replace hev := x_lt hev y1 ey1
  exact ret _ _ _ dX9_candidates_16 ((show narrow _ (.int y1) = .int y1 from rfl).trans (congrArg Value.int (Option.some.inj hev)))
def f_Tr_sortOf (vT_people : Int32) (p1 : Int32) : Option (Int32) := if vT_people ≤ p1 then (if ((2 : Int32) * vT_people) ≤ p1 then (if (((2 : Int32) * vT_people) + (7 : Int32)) ≤ p1 then (if ((((2 : Int32) * vT_people) + (7 : Int32)) + (2 : Int32)) ≤ p1 then (some (6 : Int32)) else some (5 : Int32)) else some (2 : Int32)) else some (1 : Int32)) else some (0 : Int32)
set_option maxHeartbeats 8000000 in
set_option maxRecDepth 100000 in
theorem c_Tr_sortOf (l : Launch) (G : GG) (aT aT_trials aT_so : Nat) (vT_lifted : Int32) (vT_people : Int32) (p1 : Int32) (r0 : Int32) (hev : f_Tr_sortOf vT_people p1 = some r0) : RO l G yX9_sortOf cX9_sortOf 2 (some .int) 0 [.ref aT, .int p1] [(aT, .inr (5, [.ref aT_trials, .int vT_lifted, .ref aT_so, .int vT_people]))] (some (.int r0)) := by
  refine RO_of (by decide) (Nat.le_of_ble_eq_true rfl) ?_
  intro p e s m ar below meth c R Q H ls X hR hP hKK hS0 hl ret
  generalize hrs : r0 = rs at hev ret
  have hl : lv_has ls 2 [(0, .ref aT), (1, .int p1)] := hl
  obtain ⟨hx, hb, hml, hown, hts, hT⟩ := id X
  have hK := hKK.1
  have hw : ∀ w ∈ T0, w.before ar s = true := fun w h => hts w (hT w h)
  have i9 := fun w h => hT w (inT9 w h)
  unfold f_Tr_sortOf at hev
  refine lv_iload_n hx hb dX9_sortOf_0 rfl (lv_at hl 1 rfl) ?_
  refine lv_aload_n hx hb dX9_sortOf_1 rfl (lv_at hl 0 rfl) ?_
  refine va_get (D := G.1) (ci := 5) (v := .int vT_people) (C := RX9) (T := TX9) (N := 4) hx hb hts i9 hown hK hP 0 rfl rfl 3 (by decide) (hw _ u292) (fun _ h9 => h9) rfl dX9_sortOf_2 ?_
  refine lv_icmp_ge (tgt := 10) hx hb dX9_sortOf_5 (by decide) (fun c1 => ?_) (fun c1 => ?_)
  · replace hev := x_t c1 hev
    refine lv_iload_n hx hb dX9_sortOf_10 rfl (lv_at hl 1 rfl) ?_
    refine lv_iconst (v := (2 : Int32)) hx hb dX9_sortOf_11 (by decide) ?_
    refine lv_aload_n hx hb dX9_sortOf_12 rfl (lv_at hl 0 rfl) ?_
    refine va_get (D := G.1) (ci := 5) (v := .int vT_people) (C := RX9) (T := TX9) (N := 4) hx hb hts i9 hown hK hP 0 rfl rfl 3 (by decide) (hw _ u292) (fun _ h9 => h9) rfl dX9_sortOf_13 ?_
    refine lv_imul hx hb dX9_sortOf_16 ?_
    refine lv_icmp_ge (tgt := 22) hx hb dX9_sortOf_17 (by decide) (fun c2 => ?_) (fun c2 => ?_)
    · replace hev := x_t c2 hev
      refine lv_iload_n hx hb dX9_sortOf_22 rfl (lv_at hl 1 rfl) ?_
      refine lv_iconst (v := (2 : Int32)) hx hb dX9_sortOf_23 (by decide) ?_
      refine lv_aload_n hx hb dX9_sortOf_24 rfl (lv_at hl 0 rfl) ?_
      refine va_get (D := G.1) (ci := 5) (v := .int vT_people) (C := RX9) (T := TX9) (N := 4) hx hb hts i9 hown hK hP 0 rfl rfl 3 (by decide) (hw _ u292) (fun _ h9 => h9) rfl dX9_sortOf_25 ?_
      refine lv_imul hx hb dX9_sortOf_28 ?_
      refine lv_bipush (v := (7 : Int32)) hx hb dX9_sortOf_29 (by decide) ?_
      refine lv_iadd hx hb dX9_sortOf_31 ?_
      refine lv_icmp_ge (tgt := 37) hx hb dX9_sortOf_32 (by decide) (fun c3 => ?_) (fun c3 => ?_)
      · replace hev := x_t c3 hev
        refine lv_iload_n hx hb dX9_sortOf_37 rfl (lv_at hl 1 rfl) ?_
        refine lv_iconst (v := (2 : Int32)) hx hb dX9_sortOf_38 (by decide) ?_
        refine lv_aload_n hx hb dX9_sortOf_39 rfl (lv_at hl 0 rfl) ?_
        refine va_get (D := G.1) (ci := 5) (v := .int vT_people) (C := RX9) (T := TX9) (N := 4) hx hb hts i9 hown hK hP 0 rfl rfl 3 (by decide) (hw _ u292) (fun _ h9 => h9) rfl dX9_sortOf_40 ?_
        refine lv_imul hx hb dX9_sortOf_43 ?_
        refine lv_bipush (v := (7 : Int32)) hx hb dX9_sortOf_44 (by decide) ?_
        refine lv_iadd hx hb dX9_sortOf_46 ?_
        refine lv_iconst (v := (2 : Int32)) hx hb dX9_sortOf_47 (by decide) ?_
        refine lv_iadd hx hb dX9_sortOf_48 ?_
        refine lv_icmp_ge (tgt := 56) hx hb dX9_sortOf_49 (by decide) (fun c4 => ?_) (fun c4 => ?_)
        · replace hev := x_t c4 hev
          refine lv_bipush (v := (6 : Int32)) hx hb dX9_sortOf_56 (by decide) ?_
          exact ret _ _ _ dX9_sortOf_58 ((show narrow _ (.int (6 : Int32)) = .int (6 : Int32) from rfl).trans (congrArg Value.int (Option.some.inj hev)))
        · replace hev := x_f c4 hev
          refine lv_iconst (v := (5 : Int32)) hx hb dX9_sortOf_52 (by decide) ?_
          refine lv_goto (tgt := 58) hx hb dX9_sortOf_53 (by decide) ?_
          exact ret _ _ _ dX9_sortOf_58 ((show narrow _ (.int (5 : Int32)) = .int (5 : Int32) from rfl).trans (congrArg Value.int (Option.some.inj hev)))
      · replace hev := x_f c3 hev
        refine lv_iconst (v := (2 : Int32)) hx hb dX9_sortOf_35 (by decide) ?_
        exact ret _ _ _ dX9_sortOf_36 ((show narrow _ (.int (2 : Int32)) = .int (2 : Int32) from rfl).trans (congrArg Value.int (Option.some.inj hev)))
    · replace hev := x_f c2 hev
      refine lv_iconst (v := (1 : Int32)) hx hb dX9_sortOf_20 (by decide) ?_
      exact ret _ _ _ dX9_sortOf_21 ((show narrow _ (.int (1 : Int32)) = .int (1 : Int32) from rfl).trans (congrArg Value.int (Option.some.inj hev)))
  · replace hev := x_f c1 hev
    refine lv_iconst (v := (0 : Int32)) hx hb dX9_sortOf_8 (by decide) ?_
    exact ret _ _ _ dX9_sortOf_9 ((show narrow _ (.int (0 : Int32)) = .int (0 : Int32) from rfl).trans (congrArg Value.int (Option.some.inj hev)))
def f_Tr_numberOf_J74 (vT_people : Int32) (x1 : Int32) : Option (Int32) := some (((x1 - ((2 : Int32) * vT_people)) - (7 : Int32)) - (2 : Int32))
def f_Tr_numberOf (vT_people : Int32) (p1 : Int32) : Option (Int32) := x_B (f_Tr_sortOf vT_people p1) (fun y1 => if y1 = (0 : Int32) then (some p1) else if y1 = (1 : Int32) then (some (p1 - vT_people)) else if y1 = (2 : Int32) then (some (p1 - ((2 : Int32) * vT_people))) else if y1 = (3 : Int32) then (f_Tr_numberOf_J74 vT_people p1) else if y1 = (4 : Int32) then (f_Tr_numberOf_J74 vT_people p1) else if y1 = (5 : Int32) then (some ((p1 - ((2 : Int32) * vT_people)) - (7 : Int32))) else f_Tr_numberOf_J74 vT_people p1)
set_option maxHeartbeats 8000000 in
set_option maxRecDepth 100000 in
theorem c_Tr_numberOf (l : Launch) (G : GG) (aT aT_trials aT_so : Nat) (vT_lifted : Int32) (vT_people : Int32) (p1 : Int32) (r0 : Int32) (hev : f_Tr_numberOf vT_people p1 = some r0) : RO l G yX9_numberOf cX9_numberOf 2 (some .int) 1 [.ref aT, .int p1] [(aT, .inr (5, [.ref aT_trials, .int vT_lifted, .ref aT_so, .int vT_people]))] (some (.int r0)) := by
  refine RO_of (by decide) (Nat.le_of_ble_eq_true rfl) ?_
  intro p e s m ar below meth c R Q H ls X hR hP hKK hS0 hl ret
  generalize hrs : r0 = rs at hev ret
  have hl : lv_has ls 2 [(0, .ref aT), (1, .int p1)] := hl
  obtain ⟨hx, hb, hml, hown, hts, hT⟩ := id X
  have hK := hKK.1
  have hw : ∀ w ∈ T0, w.before ar s = true := fun w h => hts w (hT w h)
  have i9 := fun w h => hT w (inT9 w h)
  have J74 : ∀ (x1 : Int32), ∀ (ls : Array Slot), f_Tr_numberOf_J74 vT_people x1 = some rs → lv_has ls 2 [(0, .ref aT), (1, .int x1)] → W p l e R s m ar below meth c H [] 0 0 Q (F0 m 74 ls []) := by
    intro x1 ls hev hl
    unfold f_Tr_numberOf_J74 at hev
    refine lv_iload_n hx hb dX9_numberOf_74 rfl (lv_at hl 1 rfl) ?_
    refine lv_iconst (v := (2 : Int32)) hx hb dX9_numberOf_75 (by decide) ?_
    refine lv_aload_n hx hb dX9_numberOf_76 rfl (lv_at hl 0 rfl) ?_
    refine va_get (D := G.1) (ci := 5) (v := .int vT_people) (C := RX9) (T := TX9) (N := 4) hx hb hts i9 hown hK hP 0 rfl rfl 3 (by decide) (hw _ u292) (fun _ h9 => h9) rfl dX9_numberOf_77 ?_
    refine lv_imul hx hb dX9_numberOf_80 ?_
    refine lv_isub hx hb dX9_numberOf_81 ?_
    refine lv_bipush (v := (7 : Int32)) hx hb dX9_numberOf_82 (by decide) ?_
    refine lv_isub hx hb dX9_numberOf_84 ?_
    refine lv_iconst (v := (2 : Int32)) hx hb dX9_numberOf_85 (by decide) ?_
    refine lv_isub hx hb dX9_numberOf_86 ?_
    exact ret _ _ _ dX9_numberOf_87 ((show narrow _ (.int (((x1 - ((2 : Int32) * vT_people)) - (7 : Int32)) - (2 : Int32))) = .int (((x1 - ((2 : Int32) * vT_people)) - (7 : Int32)) - (2 : Int32)) from rfl).trans (congrArg Value.int (Option.some.inj hev)))
  unfold f_Tr_numberOf at hev
  refine lv_aload_n hx hb dX9_numberOf_0 rfl (lv_at hl 0 rfl) ?_
  refine lv_iload_n hx hb dX9_numberOf_1 rfl (lv_at hl 1 rfl) ?_
  obtain ⟨y1, hq, hev⟩ := x_bd hev
  refine roV X hKK hR (st1 := [.int y1]) (c_Tr_sortOf l G aT aT_trials aT_so vT_lifted vT_people p1 y1 hq) K_X9_sortOf u1029 (x_Psub hP [0] rfl) rfl (q0 := 0) rfl (by decide) ⟨Nat.zero_le _, Nat.zero_le _⟩ rfl hl.1 rfl (Nat.le_of_ble_eq_true rfl) rfl dX9_numberOf_2 ?_
  by_cases c2 : y1 = (0 : Int32)
  · replace hev := x_t c2 hev
    refine lv_tableIn (tgt := 44) hx hb dX9_numberOf_5 (by rw [c2]; decide) (by rw [c2]; decide) (by rw [c2]; rfl) (by decide) ?_
    refine lv_iload_n hx hb dX9_numberOf_44 rfl (lv_at hl 1 rfl) ?_
    exact ret _ _ _ dX9_numberOf_45 ((show narrow _ (.int p1) = .int p1 from rfl).trans (congrArg Value.int (Option.some.inj hev)))
  replace hev := x_f c2 hev
  by_cases c3 : y1 = (1 : Int32)
  · replace hev := x_t c3 hev
    refine lv_tableIn (tgt := 46) hx hb dX9_numberOf_5 (by rw [c3]; decide) (by rw [c3]; decide) (by rw [c3]; rfl) (by decide) ?_
    refine lv_iload_n hx hb dX9_numberOf_46 rfl (lv_at hl 1 rfl) ?_
    refine lv_aload_n hx hb dX9_numberOf_47 rfl (lv_at hl 0 rfl) ?_
    refine va_get (D := G.1) (ci := 5) (v := .int vT_people) (C := RX9) (T := TX9) (N := 4) hx hb hts i9 hown hK hP 0 rfl rfl 3 (by decide) (hw _ u292) (fun _ h9 => h9) rfl dX9_numberOf_48 ?_
    refine lv_isub hx hb dX9_numberOf_51 ?_
    exact ret _ _ _ dX9_numberOf_52 ((show narrow _ (.int (p1 - vT_people)) = .int (p1 - vT_people) from rfl).trans (congrArg Value.int (Option.some.inj hev)))
  replace hev := x_f c3 hev
  by_cases c4 : y1 = (2 : Int32)
  · replace hev := x_t c4 hev
    refine lv_tableIn (tgt := 53) hx hb dX9_numberOf_5 (by rw [c4]; decide) (by rw [c4]; decide) (by rw [c4]; rfl) (by decide) ?_
    refine lv_iload_n hx hb dX9_numberOf_53 rfl (lv_at hl 1 rfl) ?_
    refine lv_iconst (v := (2 : Int32)) hx hb dX9_numberOf_54 (by decide) ?_
    refine lv_aload_n hx hb dX9_numberOf_55 rfl (lv_at hl 0 rfl) ?_
    refine va_get (D := G.1) (ci := 5) (v := .int vT_people) (C := RX9) (T := TX9) (N := 4) hx hb hts i9 hown hK hP 0 rfl rfl 3 (by decide) (hw _ u292) (fun _ h9 => h9) rfl dX9_numberOf_56 ?_
    refine lv_imul hx hb dX9_numberOf_59 ?_
    refine lv_isub hx hb dX9_numberOf_60 ?_
    exact ret _ _ _ dX9_numberOf_61 ((show narrow _ (.int (p1 - ((2 : Int32) * vT_people))) = .int (p1 - ((2 : Int32) * vT_people)) from rfl).trans (congrArg Value.int (Option.some.inj hev)))
  replace hev := x_f c4 hev
  by_cases c5 : y1 = (3 : Int32)
  · replace hev := x_t c5 hev
    refine lv_tableIn (tgt := 74) hx hb dX9_numberOf_5 (by rw [c5]; decide) (by rw [c5]; decide) (by rw [c5]; rfl) (by decide) ?_
    exact J74 p1 ls hev (lv_sub hl [0, 1] rfl)
  replace hev := x_f c5 hev
  by_cases c6 : y1 = (4 : Int32)
  · replace hev := x_t c6 hev
    refine lv_tableIn (tgt := 74) hx hb dX9_numberOf_5 (by rw [c6]; decide) (by rw [c6]; decide) (by rw [c6]; rfl) (by decide) ?_
    exact J74 p1 ls hev (lv_sub hl [0, 1] rfl)
  replace hev := x_f c6 hev
  by_cases c7 : y1 = (5 : Int32)
  · replace hev := x_t c7 hev
    refine lv_tableIn (tgt := 62) hx hb dX9_numberOf_5 (by rw [c7]; decide) (by rw [c7]; decide) (by rw [c7]; rfl) (by decide) ?_
    refine lv_iload_n hx hb dX9_numberOf_62 rfl (lv_at hl 1 rfl) ?_
    refine lv_iconst (v := (2 : Int32)) hx hb dX9_numberOf_63 (by decide) ?_
    refine lv_aload_n hx hb dX9_numberOf_64 rfl (lv_at hl 0 rfl) ?_
    refine va_get (D := G.1) (ci := 5) (v := .int vT_people) (C := RX9) (T := TX9) (N := 4) hx hb hts i9 hown hK hP 0 rfl rfl 3 (by decide) (hw _ u292) (fun _ h9 => h9) rfl dX9_numberOf_65 ?_
    refine lv_imul hx hb dX9_numberOf_68 ?_
    refine lv_isub hx hb dX9_numberOf_69 ?_
    refine lv_bipush (v := (7 : Int32)) hx hb dX9_numberOf_70 (by decide) ?_
    refine lv_isub hx hb dX9_numberOf_72 ?_
    exact ret _ _ _ dX9_numberOf_73 ((show narrow _ (.int ((p1 - ((2 : Int32) * vT_people)) - (7 : Int32))) = .int ((p1 - ((2 : Int32) * vT_people)) - (7 : Int32)) from rfl).trans (congrArg Value.int (Option.some.inj hev)))
  replace hev := x_f c7 hev
  refine lv_tableOut (tgt := 74) hx hb dX9_numberOf_5 (by have q0 : y1.toInt ≠ 0 := x_ne c2; have q1 : y1.toInt ≠ 1 := x_ne c3; have q2 : y1.toInt ≠ 2 := x_ne c4; have q3 : y1.toInt ≠ 3 := x_ne c5; have q4 : y1.toInt ≠ 4 := x_ne c6; have q5 : y1.toInt ≠ 5 := x_ne c7; omega) (by decide) ?_
  exact J74 p1 ls hev (lv_sub hl [0, 1] rfl)
def f_Tr_isSoIn_J114 (vT_people : Int32) (x2 : Int32) (x3 : Int32) : Option (Int32) := if ((x2 >>> (((9 : Int32) + x3) &&& 31)) &&& (1 : Int32)) = 0 then (some (1 : Int32)) else some (0 : Int32)
def f_Tr_isSoIn (vT_people : Int32) (p1 : Int32) (p2 : Int32) : Option (Int32) := x_B (f_Tr_numberOf vT_people p1) (fun y2 => x_B (f_Tr_sortOf vT_people p1) (fun y3 => if y3 = (0 : Int32) then (if (p2 &&& (7 : Int32)) = (y2 + (1 : Int32)) then (some (1 : Int32)) else some (0 : Int32)) else if y3 = (1 : Int32) then (if ((p2 >>> (((3 : Int32) + y2) &&& 31)) &&& (1 : Int32)) = 0 then (some (0 : Int32)) else some (1 : Int32)) else if y3 = (2 : Int32) then (if ((p2 >>> ((6 : Int32) &&& 31)) &&& (7 : Int32)) = y2 then (some (1 : Int32)) else some (0 : Int32)) else if y3 = (3 : Int32) then (f_Tr_isSoIn_J114 vT_people p2 y2) else if y3 = (4 : Int32) then (f_Tr_isSoIn_J114 vT_people p2 y2) else if y3 = (5 : Int32) then (if ((p2 >>> (((9 : Int32) + y2) &&& 31)) &&& (1 : Int32)) = 0 then (some (0 : Int32)) else some (1 : Int32)) else f_Tr_isSoIn_J114 vT_people p2 y2))
set_option maxHeartbeats 8000000 in
set_option maxRecDepth 100000 in
theorem c_Tr_isSoIn (l : Launch) (G : GG) (aT aT_trials aT_so : Nat) (vT_lifted : Int32) (vT_people : Int32) (p1 : Int32) (p2 : Int32) (r0 : Int32) (hev : f_Tr_isSoIn vT_people p1 p2 = some r0) : RO l G yX9_isSoIn cX9_isSoIn 4 (some .boolean) 2 [.ref aT, .int p1, .int p2] [(aT, .inr (5, [.ref aT_trials, .int vT_lifted, .ref aT_so, .int vT_people]))] (some (.int r0)) := by
  refine RO_of (by decide) (Nat.le_of_ble_eq_true rfl) ?_
  intro p e s m ar below meth c R Q H ls X hR hP hKK hS0 hl ret
  generalize hrs : r0 = rs at hev ret
  have hl : lv_has ls 4 [(0, .ref aT), (1, .int p1), (2, .int p2)] := hl
  obtain ⟨hx, hb, hml, hown, hts, hT⟩ := id X
  have hK := hKK.1
  have hw : ∀ w ∈ T0, w.before ar s = true := fun w h => hts w (hT w h)
  have J114 : ∀ (x2 : Int32) (x3 : Int32), ∀ (ls : Array Slot), f_Tr_isSoIn_J114 vT_people x2 x3 = some rs → lv_has ls 4 [(2, .int x2), (3, .int x3)] → W p l e R s m ar below meth c H [] 0 0 Q (F0 m 114 ls []) := by
    intro x2 x3 ls hev hl
    unfold f_Tr_isSoIn_J114 at hev
    refine lv_iload_n hx hb dX9_isSoIn_114 rfl (lv_at hl 0 rfl) ?_
    refine lv_bipush (v := (9 : Int32)) hx hb dX9_isSoIn_115 (by decide) ?_
    refine lv_iload_n hx hb dX9_isSoIn_117 rfl (lv_at hl 1 rfl) ?_
    refine lv_iadd hx hb dX9_isSoIn_118 ?_
    refine lv_ishr hx hb dX9_isSoIn_119 ?_
    refine lv_iconst (v := (1 : Int32)) hx hb dX9_isSoIn_120 (by decide) ?_
    refine lv_iand hx hb dX9_isSoIn_121 ?_
    refine lv_if_ne (tgt := 129) hx hb dX9_isSoIn_122 (by decide) (fun c1 => ?_) (fun c1 => ?_)
    · replace hev := x_f c1 hev
      refine lv_iconst (v := (0 : Int32)) hx hb dX9_isSoIn_129 (by decide) ?_
      exact ret _ _ _ dX9_isSoIn_130 ((show narrow _ (.int (0 : Int32)) = .int (0 : Int32) from nb0).trans (congrArg Value.int (Option.some.inj hev)))
    · replace hev := x_t c1 hev
      refine lv_iconst (v := (1 : Int32)) hx hb dX9_isSoIn_125 (by decide) ?_
      refine lv_goto (tgt := 130) hx hb dX9_isSoIn_126 (by decide) ?_
      exact ret _ _ _ dX9_isSoIn_130 ((show narrow _ (.int (1 : Int32)) = .int (1 : Int32) from nb1).trans (congrArg Value.int (Option.some.inj hev)))
  unfold f_Tr_isSoIn at hev
  refine lv_aload_n hx hb dX9_isSoIn_0 rfl (lv_at hl 0 rfl) ?_
  refine lv_iload_n hx hb dX9_isSoIn_1 rfl (lv_at hl 1 rfl) ?_
  obtain ⟨y2, hq, hev⟩ := x_bd hev
  refine roV X hKK hR (st1 := [.int y2]) (c_Tr_numberOf l G aT aT_trials aT_so vT_lifted vT_people p1 y2 hq) K_X9_numberOf u1025 (x_Psub hP [0] rfl) rfl (q0 := 0) rfl (by decide) ⟨Nat.zero_le _, Nat.zero_le _⟩ rfl hl.1 rfl (Nat.le_of_ble_eq_true rfl) rfl dX9_isSoIn_2 ?_
  refine lv_istore_n (lv' := [(3, .int y2), (0, .ref aT), (1, .int p1), (2, .int p2)]) hx hb dX9_isSoIn_5 rfl hl (by decide) rfl (fun ls hl => ?_)
  refine lv_aload_n hx hb dX9_isSoIn_6 rfl (lv_at hl 1 rfl) ?_
  refine lv_iload_n hx hb dX9_isSoIn_7 rfl (lv_at hl 2 rfl) ?_
  obtain ⟨y3, hq, hev⟩ := x_bd hev
  refine roV X hKK hR (st1 := [.int y3]) (c_Tr_sortOf l G aT aT_trials aT_so vT_lifted vT_people p1 y3 hq) K_X9_sortOf u1029 (x_Psub hP [0] rfl) rfl (q0 := 0) rfl (by decide) ⟨Nat.zero_le _, Nat.zero_le _⟩ rfl hl.1 rfl (Nat.le_of_ble_eq_true rfl) rfl dX9_isSoIn_8 ?_
  by_cases c4 : y3 = (0 : Int32)
  · replace hev := x_t c4 hev
    refine lv_tableIn (tgt := 48) hx hb dX9_isSoIn_11 (by rw [c4]; decide) (by rw [c4]; decide) (by rw [c4]; rfl) (by decide) ?_
    refine lv_iload_n hx hb dX9_isSoIn_48 rfl (lv_at hl 3 rfl) ?_
    refine lv_bipush (v := (7 : Int32)) hx hb dX9_isSoIn_49 (by decide) ?_
    refine lv_iand hx hb dX9_isSoIn_51 ?_
    refine lv_iload_n hx hb dX9_isSoIn_52 rfl (lv_at hl 0 rfl) ?_
    refine lv_iconst (v := (1 : Int32)) hx hb dX9_isSoIn_53 (by decide) ?_
    refine lv_iadd hx hb dX9_isSoIn_54 ?_
    refine lv_icmp_ne (tgt := 62) hx hb dX9_isSoIn_55 (by decide) (fun c5 => ?_) (fun c5 => ?_)
    · replace hev := x_f c5 hev
      refine lv_iconst (v := (0 : Int32)) hx hb dX9_isSoIn_62 (by decide) ?_
      exact ret _ _ _ dX9_isSoIn_63 ((show narrow _ (.int (0 : Int32)) = .int (0 : Int32) from nb0).trans (congrArg Value.int (Option.some.inj hev)))
    · replace hev := x_t c5 hev
      refine lv_iconst (v := (1 : Int32)) hx hb dX9_isSoIn_58 (by decide) ?_
      refine lv_goto (tgt := 63) hx hb dX9_isSoIn_59 (by decide) ?_
      exact ret _ _ _ dX9_isSoIn_63 ((show narrow _ (.int (1 : Int32)) = .int (1 : Int32) from nb1).trans (congrArg Value.int (Option.some.inj hev)))
  replace hev := x_f c4 hev
  by_cases c6 : y3 = (1 : Int32)
  · replace hev := x_t c6 hev
    refine lv_tableIn (tgt := 64) hx hb dX9_isSoIn_11 (by rw [c6]; decide) (by rw [c6]; decide) (by rw [c6]; rfl) (by decide) ?_
    refine lv_iload_n hx hb dX9_isSoIn_64 rfl (lv_at hl 3 rfl) ?_
    refine lv_iconst (v := (3 : Int32)) hx hb dX9_isSoIn_65 (by decide) ?_
    refine lv_iload_n hx hb dX9_isSoIn_66 rfl (lv_at hl 0 rfl) ?_
    refine lv_iadd hx hb dX9_isSoIn_67 ?_
    refine lv_ishr hx hb dX9_isSoIn_68 ?_
    refine lv_iconst (v := (1 : Int32)) hx hb dX9_isSoIn_69 (by decide) ?_
    refine lv_iand hx hb dX9_isSoIn_70 ?_
    refine lv_if_eq (tgt := 78) hx hb dX9_isSoIn_71 (by decide) (fun c7 => ?_) (fun c7 => ?_)
    · replace hev := x_t c7 hev
      refine lv_iconst (v := (0 : Int32)) hx hb dX9_isSoIn_78 (by decide) ?_
      exact ret _ _ _ dX9_isSoIn_79 ((show narrow _ (.int (0 : Int32)) = .int (0 : Int32) from nb0).trans (congrArg Value.int (Option.some.inj hev)))
    · replace hev := x_f c7 hev
      refine lv_iconst (v := (1 : Int32)) hx hb dX9_isSoIn_74 (by decide) ?_
      refine lv_goto (tgt := 79) hx hb dX9_isSoIn_75 (by decide) ?_
      exact ret _ _ _ dX9_isSoIn_79 ((show narrow _ (.int (1 : Int32)) = .int (1 : Int32) from nb1).trans (congrArg Value.int (Option.some.inj hev)))
  replace hev := x_f c6 hev
  by_cases c8 : y3 = (2 : Int32)
  · replace hev := x_t c8 hev
    refine lv_tableIn (tgt := 80) hx hb dX9_isSoIn_11 (by rw [c8]; decide) (by rw [c8]; decide) (by rw [c8]; rfl) (by decide) ?_
    refine lv_iload_n hx hb dX9_isSoIn_80 rfl (lv_at hl 3 rfl) ?_
    refine lv_bipush (v := (6 : Int32)) hx hb dX9_isSoIn_81 (by decide) ?_
    refine lv_ishr hx hb dX9_isSoIn_83 ?_
    refine lv_bipush (v := (7 : Int32)) hx hb dX9_isSoIn_84 (by decide) ?_
    refine lv_iand hx hb dX9_isSoIn_86 ?_
    refine lv_iload_n hx hb dX9_isSoIn_87 rfl (lv_at hl 0 rfl) ?_
    refine lv_icmp_ne (tgt := 95) hx hb dX9_isSoIn_88 (by decide) (fun c9 => ?_) (fun c9 => ?_)
    · replace hev := x_f c9 hev
      refine lv_iconst (v := (0 : Int32)) hx hb dX9_isSoIn_95 (by decide) ?_
      exact ret _ _ _ dX9_isSoIn_96 ((show narrow _ (.int (0 : Int32)) = .int (0 : Int32) from nb0).trans (congrArg Value.int (Option.some.inj hev)))
    · replace hev := x_t c9 hev
      refine lv_iconst (v := (1 : Int32)) hx hb dX9_isSoIn_91 (by decide) ?_
      refine lv_goto (tgt := 96) hx hb dX9_isSoIn_92 (by decide) ?_
      exact ret _ _ _ dX9_isSoIn_96 ((show narrow _ (.int (1 : Int32)) = .int (1 : Int32) from nb1).trans (congrArg Value.int (Option.some.inj hev)))
  replace hev := x_f c8 hev
  by_cases c10 : y3 = (3 : Int32)
  · replace hev := x_t c10 hev
    refine lv_tableIn (tgt := 114) hx hb dX9_isSoIn_11 (by rw [c10]; decide) (by rw [c10]; decide) (by rw [c10]; rfl) (by decide) ?_
    exact J114 p2 y2 ls hev (lv_sub hl [3, 0] rfl)
  replace hev := x_f c10 hev
  by_cases c11 : y3 = (4 : Int32)
  · replace hev := x_t c11 hev
    refine lv_tableIn (tgt := 114) hx hb dX9_isSoIn_11 (by rw [c11]; decide) (by rw [c11]; decide) (by rw [c11]; rfl) (by decide) ?_
    exact J114 p2 y2 ls hev (lv_sub hl [3, 0] rfl)
  replace hev := x_f c11 hev
  by_cases c12 : y3 = (5 : Int32)
  · replace hev := x_t c12 hev
    refine lv_tableIn (tgt := 97) hx hb dX9_isSoIn_11 (by rw [c12]; decide) (by rw [c12]; decide) (by rw [c12]; rfl) (by decide) ?_
    refine lv_iload_n hx hb dX9_isSoIn_97 rfl (lv_at hl 3 rfl) ?_
    refine lv_bipush (v := (9 : Int32)) hx hb dX9_isSoIn_98 (by decide) ?_
    refine lv_iload_n hx hb dX9_isSoIn_100 rfl (lv_at hl 0 rfl) ?_
    refine lv_iadd hx hb dX9_isSoIn_101 ?_
    refine lv_ishr hx hb dX9_isSoIn_102 ?_
    refine lv_iconst (v := (1 : Int32)) hx hb dX9_isSoIn_103 (by decide) ?_
    refine lv_iand hx hb dX9_isSoIn_104 ?_
    refine lv_if_eq (tgt := 112) hx hb dX9_isSoIn_105 (by decide) (fun c13 => ?_) (fun c13 => ?_)
    · replace hev := x_t c13 hev
      refine lv_iconst (v := (0 : Int32)) hx hb dX9_isSoIn_112 (by decide) ?_
      exact ret _ _ _ dX9_isSoIn_113 ((show narrow _ (.int (0 : Int32)) = .int (0 : Int32) from nb0).trans (congrArg Value.int (Option.some.inj hev)))
    · replace hev := x_f c13 hev
      refine lv_iconst (v := (1 : Int32)) hx hb dX9_isSoIn_108 (by decide) ?_
      refine lv_goto (tgt := 113) hx hb dX9_isSoIn_109 (by decide) ?_
      exact ret _ _ _ dX9_isSoIn_113 ((show narrow _ (.int (1 : Int32)) = .int (1 : Int32) from nb1).trans (congrArg Value.int (Option.some.inj hev)))
  replace hev := x_f c12 hev
  refine lv_tableOut (tgt := 114) hx hb dX9_isSoIn_11 (by have q0 : y3.toInt ≠ 0 := x_ne c4; have q1 : y3.toInt ≠ 1 := x_ne c6; have q2 : y3.toInt ≠ 2 := x_ne c8; have q3 : y3.toInt ≠ 3 := x_ne c10; have q4 : y3.toInt ≠ 4 := x_ne c11; have q5 : y3.toInt ≠ 5 := x_ne c12; omega) (by decide) ?_
  exact J114 p2 y2 ls hev (lv_sub hl [3, 0] rfl)
def f_Tr_weigh_J80 (rec : Int32 → (Nat → Int32) → Option ((Nat → Int32))) (k : Nat) (nT_trials_items : Nat) (vT_people : Int32) (vT_trials_size : Int32) (fT_so : Nat → Int32) (fT_trials_items : Nat → Int32) (x2 : Int32) : Option ((Nat → Int32)) := x_L (x2 + (1 : Int32)) (fun y1 => rec y1 fT_so)
def f_Tr_weigh_L30 (nT_trials_items : Nat) (vT_people : Int32) (vT_trials_size : Int32) (fT_trials_items : Nat → Int32) (x2 : Int32) : Nat → Int32 → (Nat → Int32) → Option ((Nat → Int32))
  | 0, _, _ => none
  | k + 1, x3, fT_so => if (8 : Int32) ≤ x3 then (some fT_so) else x_B (f_Rw_size vT_trials_size) (fun y7 => if y7 ≤ x3 then (some fT_so) else x_I 17 fT_so x2 (fun v10 => x_B (f_Rw_at nT_trials_items vT_trials_size fT_trials_items x3) (fun y11 => x_B (f_Tr_isSoIn vT_people x2 y11) (fun y12 => x_B (f_SS_oneIf y12) (fun y13 => x_L ((v10 ||| (y13 <<< (x3 &&& 31)))) (fun y14 => x_C 17 x2 (x_L (x3 + (1 : Int32)) (fun y16 => (f_Tr_weigh_L30 nT_trials_items vT_people vT_trials_size fT_trials_items x2 k) y16 (upd fT_so (x2).toNatClampNeg y14)))))))))
def f_Tr_weigh_L7 (nT_trials_items : Nat) (vT_people : Int32) (vT_trials_size : Int32) (fT_trials_items : Nat → Int32) : Nat → Int32 → (Nat → Int32) → Option ((Nat → Int32))
  | 0, _, _ => none
  | k + 1, x2, fT_so => x_B (f_Tr_candidates vT_people) (fun y2 => if y2 ≤ x2 then (some fT_so) else if (17 : Int32) ≤ x2 then (some fT_so) else x_C 17 x2 (x_B (f_Tr_weigh_L30 nT_trials_items vT_people vT_trials_size fT_trials_items x2 k (0 : Int32) (upd fT_so (x2).toNatClampNeg (0 : Int32))) (fun w17 => f_Tr_weigh_J80 (f_Tr_weigh_L7 nT_trials_items vT_people vT_trials_size fT_trials_items k) k nT_trials_items vT_people vT_trials_size w17 fT_trials_items x2)))
def f_Tr_weigh (k : Nat) (nT_trials_items : Nat) (vT_people : Int32) (vT_trials_size : Int32) (fT_so : Nat → Int32) (fT_trials_items : Nat → Int32) (p1 : Int32) : Option (Int32 × (Nat → Int32)) := x_B (f_Tr_weigh_L7 nT_trials_items p1 vT_trials_size fT_trials_items k (0 : Int32) fT_so) (fun w18 => some (p1, w18))
set_option maxHeartbeats 8000000 in
set_option maxRecDepth 100000 in
theorem c_Tr_weigh (l : Launch) (G : GG) (aT aT_trials aT_so aT_trials_items : Nat) (vT_lifted : Int32) (vT_people : Int32) (vT_trials_size : Int32) (fT_so : Nat → Int32) (fT_trials_items : Nat → Int32) (nT_trials_items : Nat) (k : Nat) (p1 : Int32) (wvT_people : Int32) (wfT_so : Nat → Int32) (hev : f_Tr_weigh k nT_trials_items vT_people vT_trials_size fT_so fT_trials_items p1 = some (wvT_people, wfT_so)) : RW l G yX9_weigh cX9_weigh 4 none 3 [.ref aT, .int p1] [(aT, .inr (5, [.ref aT_trials, .int vT_lifted, .ref aT_so, .int vT_people])), (aT_trials, .inr (1, [.ref aT_trials_items, .int vT_trials_size])), (aT_so, .inl (G.2.1, 17, .inl fT_so)), (aT_trials_items, .inl (G.2.1, nT_trials_items, .inl fT_trials_items))] none [(aT, .inr (5, [.ref aT_trials, .int vT_lifted, .ref aT_so, .int wvT_people])), (aT_trials, .inr (1, [.ref aT_trials_items, .int vT_trials_size])), (aT_so, .inl (G.2.1, 17, .inl wfT_so)), (aT_trials_items, .inl (G.2.1, nT_trials_items, .inl fT_trials_items))] 0 0 := by
  refine RW_of (by decide) (Nat.le_of_ble_eq_true rfl) ?_
  intro p e s m ar below meth c R Q A ls X hR hRc hin hP hKK hD hS hA hAb hl ret
  obtain ⟨rs, hrs⟩ : ∃ q, q = (wvT_people, wfT_so) := ⟨_, rfl⟩
  rw [← hrs] at hev
  have ret2 : ∀ (pc : Nat) (ls : Array Slot) (H : Heap) (lo : List Loc) (zvT_people : Int32) (zfT_so : Nat → Int32), (zvT_people, zfT_so) = rs → decode cX9_weigh pc = .ok (.return_, 1) → va_P G.1 classes [(aT, .inr (5, [.ref aT_trials, .int vT_lifted, .ref aT_so, .int zvT_people])), (aT_trials, .inr (1, [.ref aT_trials_items, .int vT_trials_size])), (aT_so, .inl (G.2.1, 17, .inl zfT_so)), (aT_trials_items, .inl (G.2.1, nT_trials_items, .inl fT_trials_items))] H → va_D A [(aT, .inr (5, [.ref aT_trials, .int vT_lifted, .ref aT_so, .int zvT_people])), (aT_trials, .inr (1, [.ref aT_trials_items, .int vT_trials_size])), (aT_so, .inl (G.2.1, 17, .inl zfT_so)), (aT_trials_items, .inl (G.2.1, nT_trials_items, .inl fT_trials_items))] → va_S A s.heap H lo → W p l e R s m ar below meth c H lo 0 0 Q (F0 m pc ls []) := by
    intro pc ls H lo zvT_people zfT_so he hd h1 h2 h3
    have he := he.trans hrs
    cases he
    exact ret.2.1 _ _ _ _ rfl rfl hd h1 h2 h3
  clear ret hrs
  have hl : lv_has ls 4 [(0, .ref aT), (1, .int p1)] := hl
  obtain ⟨hx, hb, hml, hown, hts, hT⟩ := id X
  have hK := hKK.1
  have hw : ∀ w ∈ T0, w.before ar s = true := fun w h => hts w (hT w h)
  have i9 := fun w h => hT w (inT9 w h)
  unfold f_Tr_weigh at hev
  refine lv_aload_n hx hb dX9_weigh_0 rfl (lv_at hl 0 rfl) ?_
  refine lv_iload_n hx hb dX9_weigh_1 rfl (lv_at hl 1 rfl) ?_
  refine va_put (D := G.1) (ci := 5) (v := .int p1) (ty := .int) (C := RX9) (T := TX9) (N := 4) hx hb hts i9 tyX9 tyX9_ok nmX9 hown hK hP hD hS 0 rfl rfl 3 (by decide) (hw _ u292) (fun _ h9 => h9) rfl (by decide +kernel) rfl rfl (Nat.le_of_ble_eq_true rfl) dX9_weigh_2 (fun H lo hP hD hS => ?_)
  refine lv_iconst (v := (0 : Int32)) hx hb dX9_weigh_5 (by decide) ?_
  refine lv_istore_n (lv' := [(2, .int (0 : Int32)), (0, .ref aT), (1, .int p1)]) hx hb dX9_weigh_6 rfl hl (by decide) rfl (fun ls hl => ?_)
  have L7 : ∀ (vT_people : Int32), ∀ (k : Nat) (x2 : Int32) (fT_so : Nat → Int32) (ofT_so : Nat → Int32), f_Tr_weigh_L7 nT_trials_items vT_people vT_trials_size fT_trials_items k x2 fT_so = some ofT_so → (∀ (H : Heap) (lo : List Loc), va_P G.1 classes [(aT, .inr (5, [.ref aT_trials, .int vT_lifted, .ref aT_so, .int vT_people])), (aT_trials, .inr (1, [.ref aT_trials_items, .int vT_trials_size])), (aT_so, .inl (G.2.1, 17, .inl ofT_so)), (aT_trials_items, .inl (G.2.1, nT_trials_items, .inl fT_trials_items))] H → va_D A [(aT, .inr (5, [.ref aT_trials, .int vT_lifted, .ref aT_so, .int vT_people])), (aT_trials, .inr (1, [.ref aT_trials_items, .int vT_trials_size])), (aT_so, .inl (G.2.1, 17, .inl ofT_so)), (aT_trials_items, .inl (G.2.1, nT_trials_items, .inl fT_trials_items))] → va_S A s.heap H lo → ∀ (ls : Array Slot), lv_has ls 4 [] → W p l e R s m ar below meth c H lo 0 0 Q (F0 m 86 ls [])) → ∀ (H : Heap) (lo : List Loc), va_P G.1 classes [(aT, .inr (5, [.ref aT_trials, .int vT_lifted, .ref aT_so, .int vT_people])), (aT_trials, .inr (1, [.ref aT_trials_items, .int vT_trials_size])), (aT_so, .inl (G.2.1, 17, .inl fT_so)), (aT_trials_items, .inl (G.2.1, nT_trials_items, .inl fT_trials_items))] H → va_D A [(aT, .inr (5, [.ref aT_trials, .int vT_lifted, .ref aT_so, .int vT_people])), (aT_trials, .inr (1, [.ref aT_trials_items, .int vT_trials_size])), (aT_so, .inl (G.2.1, 17, .inl fT_so)), (aT_trials_items, .inl (G.2.1, nT_trials_items, .inl fT_trials_items))] → va_S A s.heap H lo → ∀ (ls : Array Slot), lv_has ls 4 [(0, .ref aT), (2, .int x2)] → W p l e R s m ar below meth c H lo 0 0 Q (F0 m 7 ls []) := by
    intro vT_people k
    induction k with
    | zero => intro x2 fT_so ofT_so hev; rw [f_Tr_weigh_L7] at hev; cases hev
    | succ k ih =>
      intro x2 fT_so ofT_so hev hex H lo hP hD hS ls hl
      rw [f_Tr_weigh_L7] at hev
      have J80 : ∀ (fT_so : Nat → Int32) (x2 : Int32), ∀ (H : Heap) (lo : List Loc), va_P G.1 classes [(aT, .inr (5, [.ref aT_trials, .int vT_lifted, .ref aT_so, .int vT_people])), (aT_trials, .inr (1, [.ref aT_trials_items, .int vT_trials_size])), (aT_so, .inl (G.2.1, 17, .inl fT_so)), (aT_trials_items, .inl (G.2.1, nT_trials_items, .inl fT_trials_items))] H → va_D A [(aT, .inr (5, [.ref aT_trials, .int vT_lifted, .ref aT_so, .int vT_people])), (aT_trials, .inr (1, [.ref aT_trials_items, .int vT_trials_size])), (aT_so, .inl (G.2.1, 17, .inl fT_so)), (aT_trials_items, .inl (G.2.1, nT_trials_items, .inl fT_trials_items))] → va_S A s.heap H lo → ∀ (ls : Array Slot), f_Tr_weigh_J80 (f_Tr_weigh_L7 nT_trials_items vT_people vT_trials_size fT_trials_items k) k nT_trials_items vT_people vT_trials_size fT_so fT_trials_items x2 = some ofT_so → lv_has ls 4 [(0, .ref aT), (2, .int x2)] → W p l e R s m ar below meth c H lo 0 0 Q (F0 m 80 ls []) := by
        intro fT_so x2 H lo hP hD hS ls hev hl
        unfold f_Tr_weigh_J80 at hev
        obtain ⟨y1, ey1⟩ : ∃ y : Int32, y = x2 + (1 : Int32) := ⟨_, rfl⟩
        refine lv_iinc (v := y1) (lv' := [(2, .int y1), (0, .ref aT)]) hx hb dX9_weigh_80 hl (k := 1) rfl (by rw [ey1]; rfl) (by decide) rfl (fun ls hl => ?_)
        replace hev := x_lt hev y1 ey1
        refine lv_goto (tgt := 7) hx hb dX9_weigh_83 (by decide) ?_
        exact ih y1 fT_so _ hev hex _ _ hP hD hS ls (lv_sub hl [1, 0] rfl)
      refine lv_iload_n hx hb dX9_weigh_7 rfl (lv_at hl 1 rfl) ?_
      refine lv_aload_n hx hb dX9_weigh_8 rfl (lv_at hl 0 rfl) ?_
      obtain ⟨y2, hq, hev⟩ := x_bd hev
      refine roV X (KK_at hKK hS hAb) hR (st1 := [.int y2, .int x2]) (c_Tr_candidates l G aT aT_trials aT_so vT_lifted vT_people y2 hq) K_X9_candidates u1015 (x_Psub hP [0] rfl) rfl (q0 := 0) rfl (by decide) ⟨Nat.zero_le _, Nat.zero_le _⟩ rfl hl.1 rfl (Nat.le_of_ble_eq_true rfl) rfl dX9_weigh_9 ?_
      refine lv_icmp_ge (tgt := 86) hx hb dX9_weigh_12 (by decide) (fun c3 => ?_) (fun c3 => ?_)
      · replace hev := x_t c3 hev
        cases hev
        exact hex _ _ hP hD hS ls (lv_sub hl [] rfl)
      · replace hev := x_f c3 hev
        refine lv_iload_n hx hb dX9_weigh_15 rfl (lv_at hl 1 rfl) ?_
        refine lv_bipush (v := (17 : Int32)) hx hb dX9_weigh_16 (by decide) ?_
        refine lv_icmp_ge (tgt := 86) hx hb dX9_weigh_18 (by decide) (fun c4 => ?_) (fun c4 => ?_)
        · replace hev := x_t c4 hev
          cases hev
          exact hex _ _ hP hD hS ls (lv_sub hl [] rfl)
        · replace hev := x_f c4 hev
          refine lv_aload_n hx hb dX9_weigh_21 rfl (lv_at hl 0 rfl) ?_
          refine va_get (D := G.1) (ci := 5) (v := .ref aT_so) (C := RX9) (T := TX9) (N := 4) hx hb hts i9 hown hK hP 0 rfl rfl 2 (by decide) (hw _ u291) (fun _ h9 => h9) rfl dX9_weigh_22 ?_
          refine lv_iload_n hx hb dX9_weigh_25 rfl (lv_at hl 1 rfl) ?_
          refine lv_iconst (v := (0 : Int32)) hx hb dX9_weigh_26 (by decide) ?_
          obtain ⟨h5, hev⟩ := x_ck hev
          refine va_iast hx hb hK hP hD hS 2 0 rfl rfl h5 dX9_weigh_27 (fun H lo hP hD hS => ?_)
          refine lv_iconst (v := (0 : Int32)) hx hb dX9_weigh_28 (by decide) ?_
          refine lv_istore_n (lv' := [(3, .int (0 : Int32)), (0, .ref aT), (2, .int x2)]) hx hb dX9_weigh_29 rfl hl (by decide) rfl (fun ls hl => ?_)
          have L30 : ∀ (vT_people : Int32) (x2 : Int32), ∀ (k : Nat) (x3 : Int32) (fT_so : Nat → Int32) (ofT_so : Nat → Int32), f_Tr_weigh_L30 nT_trials_items vT_people vT_trials_size fT_trials_items x2 k x3 fT_so = some ofT_so → (∀ (H : Heap) (lo : List Loc), va_P G.1 classes [(aT, .inr (5, [.ref aT_trials, .int vT_lifted, .ref aT_so, .int vT_people])), (aT_trials, .inr (1, [.ref aT_trials_items, .int vT_trials_size])), (aT_so, .inl (G.2.1, 17, .inl ofT_so)), (aT_trials_items, .inl (G.2.1, nT_trials_items, .inl fT_trials_items))] H → va_D A [(aT, .inr (5, [.ref aT_trials, .int vT_lifted, .ref aT_so, .int vT_people])), (aT_trials, .inr (1, [.ref aT_trials_items, .int vT_trials_size])), (aT_so, .inl (G.2.1, 17, .inl ofT_so)), (aT_trials_items, .inl (G.2.1, nT_trials_items, .inl fT_trials_items))] → va_S A s.heap H lo → ∀ (ls : Array Slot), lv_has ls 4 [(0, .ref aT), (2, .int x2)] → W p l e R s m ar below meth c H lo 0 0 Q (F0 m 80 ls [])) → ∀ (H : Heap) (lo : List Loc), va_P G.1 classes [(aT, .inr (5, [.ref aT_trials, .int vT_lifted, .ref aT_so, .int vT_people])), (aT_trials, .inr (1, [.ref aT_trials_items, .int vT_trials_size])), (aT_so, .inl (G.2.1, 17, .inl fT_so)), (aT_trials_items, .inl (G.2.1, nT_trials_items, .inl fT_trials_items))] H → va_D A [(aT, .inr (5, [.ref aT_trials, .int vT_lifted, .ref aT_so, .int vT_people])), (aT_trials, .inr (1, [.ref aT_trials_items, .int vT_trials_size])), (aT_so, .inl (G.2.1, 17, .inl fT_so)), (aT_trials_items, .inl (G.2.1, nT_trials_items, .inl fT_trials_items))] → va_S A s.heap H lo → ∀ (ls : Array Slot), lv_has ls 4 [(0, .ref aT), (2, .int x2), (3, .int x3)] → W p l e R s m ar below meth c H lo 0 0 Q (F0 m 30 ls []) := by
            intro vT_people x2 k
            induction k with
            | zero => intro x3 fT_so ofT_so hev; rw [f_Tr_weigh_L30] at hev; cases hev
            | succ k ih =>
              intro x3 fT_so ofT_so hev hex H lo hP hD hS ls hl
              rw [f_Tr_weigh_L30] at hev
              refine lv_iload_n hx hb dX9_weigh_30 rfl (lv_at hl 2 rfl) ?_
              refine lv_bipush (v := (8 : Int32)) hx hb dX9_weigh_31 (by decide) ?_
              refine lv_icmp_ge (tgt := 80) hx hb dX9_weigh_33 (by decide) (fun c6 => ?_) (fun c6 => ?_)
              · replace hev := x_t c6 hev
                cases hev
                exact hex _ _ hP hD hS ls (lv_sub hl [0, 1] rfl)
              · replace hev := x_f c6 hev
                refine lv_iload_n hx hb dX9_weigh_36 rfl (lv_at hl 2 rfl) ?_
                refine lv_aload_n hx hb dX9_weigh_37 rfl (lv_at hl 0 rfl) ?_
                refine va_get (D := G.1) (ci := 5) (v := .ref aT_trials) (C := RX9) (T := TX9) (N := 4) hx hb hts i9 hown hK hP 0 rfl rfl 0 (by decide) (hw _ u289) (fun _ h9 => h9) rfl dX9_weigh_38 ?_
                obtain ⟨y7, hq, hev⟩ := x_bd hev
                refine roV X (KK_at hKK hS hAb) hR (st1 := [.int y7, .int x3]) (c_Rw_size l G aT_trials aT_trials_items vT_trials_size y7 hq) K_X3_size u997 (x_Psub hP [1] rfl) rfl (q0 := 0) rfl (by decide) ⟨Nat.zero_le _, Nat.zero_le _⟩ rfl hl.1 rfl (Nat.le_of_ble_eq_true rfl) rfl dX9_weigh_41 ?_
                refine lv_icmp_ge (tgt := 80) hx hb dX9_weigh_44 (by decide) (fun c8 => ?_) (fun c8 => ?_)
                · replace hev := x_t c8 hev
                  cases hev
                  exact hex _ _ hP hD hS ls (lv_sub hl [0, 1] rfl)
                · replace hev := x_f c8 hev
                  refine lv_aload_n hx hb dX9_weigh_47 rfl (lv_at hl 0 rfl) ?_
                  refine va_get (D := G.1) (ci := 5) (v := .ref aT_so) (C := RX9) (T := TX9) (N := 4) hx hb hts i9 hown hK hP 0 rfl rfl 2 (by decide) (hw _ u291) (fun _ h9 => h9) rfl dX9_weigh_48 ?_
                  refine lv_iload_n hx hb dX9_weigh_51 rfl (lv_at hl 1 rfl) ?_
                  refine lv_dup2_11 hx hb dX9_weigh_52 rfl rfl ?_
                  obtain ⟨h9, hev⟩ := x_ld hev
                  refine va_iald hx hb hK hP 2 0 rfl rfl h9 dX9_weigh_53 ?_
                  refine lv_topi (fun v10 ev10 => ?_)
                  replace hev := hev v10 ev10
                  refine lv_aload_n hx hb dX9_weigh_54 rfl (lv_at hl 0 rfl) ?_
                  refine lv_iload_n hx hb dX9_weigh_55 rfl (lv_at hl 1 rfl) ?_
                  refine lv_aload_n hx hb dX9_weigh_56 rfl (lv_at hl 0 rfl) ?_
                  refine va_get (D := G.1) (ci := 5) (v := .ref aT_trials) (C := RX9) (T := TX9) (N := 4) hx hb hts i9 hown hK hP 0 rfl rfl 0 (by decide) (hw _ u289) (fun _ h9 => h9) rfl dX9_weigh_57 ?_
                  refine lv_iload_n hx hb dX9_weigh_60 rfl (lv_at hl 2 rfl) ?_
                  obtain ⟨y11, hq, hev⟩ := x_bd hev
                  refine roV X (KK_at hKK hS hAb) hR (st1 := [.int y11, .int x2, .ref aT, .int v10, .int x2, .ref aT_so]) (c_Rw_at l G aT_trials aT_trials_items vT_trials_size fT_trials_items nT_trials_items x3 y11 hq) K_X3_at u1020 (x_Psub hP [1, 3] rfl) rfl (q0 := 0) rfl (by decide) ⟨Nat.zero_le _, Nat.zero_le _⟩ rfl hl.1 rfl (Nat.le_of_ble_eq_true rfl) rfl dX9_weigh_61 ?_
                  obtain ⟨y12, hq, hev⟩ := x_bd hev
                  refine roV X (KK_at hKK hS hAb) hR (st1 := [.int y12, .int v10, .int x2, .ref aT_so]) (c_Tr_isSoIn l G aT aT_trials aT_so vT_lifted vT_people x2 y11 y12 hq) K_X9_isSoIn u1021 (x_Psub hP [0] rfl) rfl (q0 := 0) rfl (by decide) ⟨Nat.zero_le _, Nat.zero_le _⟩ rfl hl.1 rfl (Nat.le_of_ble_eq_true rfl) rfl dX9_weigh_64 ?_
                  obtain ⟨y13, hq, hev⟩ := x_bd hev
                  refine roSN X (KK_at hKK hS hAb) hR (st1 := [.int y13, .int v10, .int x2, .ref aT_so]) (c_SS_oneIf l G y12 y13 hq) K_X10_oneIf hKK.2.1.1 (x_Psub hP [] rfl) (by decide) ⟨Nat.zero_le _, Nat.zero_le _⟩ rfl hl.1 rfl (Nat.le_of_ble_eq_true rfl) rfl dX9_weigh_67 ?_
                  refine lv_iload_n hx hb dX9_weigh_70 rfl (lv_at hl 2 rfl) ?_
                  refine lv_ishl hx hb dX9_weigh_71 ?_
                  refine lv_ior hx hb dX9_weigh_72 ?_
                  refine lv_topi (fun y14 ey14 => ?_)
                  replace hev := x_lt hev y14 ey14
                  obtain ⟨h15, hev⟩ := x_ck hev
                  refine va_iast hx hb hK hP hD hS 2 0 rfl rfl h15 dX9_weigh_73 (fun H lo hP hD hS => ?_)
                  obtain ⟨y16, ey16⟩ : ∃ y : Int32, y = x3 + (1 : Int32) := ⟨_, rfl⟩
                  refine lv_iinc (v := y16) (lv' := [(3, .int y16), (0, .ref aT), (2, .int x2)]) hx hb dX9_weigh_74 hl (k := 2) rfl (by rw [ey16]; rfl) (by decide) rfl (fun ls hl => ?_)
                  replace hev := x_lt hev y16 ey16
                  refine lv_goto (tgt := 30) hx hb dX9_weigh_77 (by decide) ?_
                  exact ih y16 (upd fT_so (x2).toNatClampNeg y14) _ hev hex _ _ hP hD hS ls (lv_sub hl [1, 2, 0] rfl)
          obtain ⟨w17, hq, hev⟩ := x_bd hev
          refine L30 vT_people x2 k (0 : Int32) (upd fT_so (x2).toNatClampNeg (0 : Int32)) w17 hq (fun H lo hP hD hS ls hl => ?_) _ _ hP hD hS ls (lv_sub hl [1, 2, 0] rfl)
          exact J80 w17 x2 _ _ hP hD hS ls hev (lv_sub hl [0, 1] rfl)
  obtain ⟨w18, hq, hev⟩ := x_bd hev
  refine L7 p1 k (0 : Int32) fT_so w18 hq (fun H lo hP hD hS ls hl => ?_) _ _ hP hD hS ls (lv_sub hl [1, 0] rfl)
  exact ret2 _ _ _ _ p1 w18 (Option.some.inj hev) dX9_weigh_86 hP hD hS
def f_Tr_fits (vT_lifted : Int32) (fT_so : Nat → Int32) (p1 : Int32) (p2 : Int32) : Option (Int32) := if p1 < 0 then (some (0 : Int32)) else if (17 : Int32) ≤ p1 then (some (0 : Int32)) else if p2 < 0 then (some (0 : Int32)) else if p2 < (17 : Int32) then (x_I 17 fT_so p1 (fun v6 => x_I 17 fT_so p2 (fun v8 => if (v6 &&& v8) = vT_lifted then (some (1 : Int32)) else some (0 : Int32)))) else some (0 : Int32)
set_option maxHeartbeats 8000000 in
set_option maxRecDepth 100000 in
theorem c_Tr_fits (l : Launch) (G : GG) (aT aT_trials aT_so : Nat) (vT_lifted : Int32) (vT_people : Int32) (fT_so : Nat → Int32) (p1 : Int32) (p2 : Int32) (r0 : Int32) (hev : f_Tr_fits vT_lifted fT_so p1 p2 = some r0) : RO l G yX9_fits cX9_fits 3 (some .boolean) 0 [.ref aT, .int p1, .int p2] [(aT, .inr (5, [.ref aT_trials, .int vT_lifted, .ref aT_so, .int vT_people])), (aT_so, .inl (G.2.1, 17, .inl fT_so))] (some (.int r0)) := by
  refine RO_of (by decide) (Nat.le_of_ble_eq_true rfl) ?_
  intro p e s m ar below meth c R Q H ls X hR hP hKK hS0 hl ret
  generalize hrs : r0 = rs at hev ret
  have hl : lv_has ls 3 [(0, .ref aT), (1, .int p1), (2, .int p2)] := hl
  obtain ⟨hx, hb, hml, hown, hts, hT⟩ := id X
  have hK := hKK.1
  have hw : ∀ w ∈ T0, w.before ar s = true := fun w h => hts w (hT w h)
  have i9 := fun w h => hT w (inT9 w h)
  unfold f_Tr_fits at hev
  refine lv_iload_n hx hb dX9_fits_0 rfl (lv_at hl 1 rfl) ?_
  refine lv_if_lt (tgt := 20) hx hb dX9_fits_1 (by decide) (fun c1 => ?_) (fun c1 => ?_)
  · replace hev := x_t c1 hev
    refine lv_iconst (v := (0 : Int32)) hx hb dX9_fits_20 (by decide) ?_
    exact ret _ _ _ dX9_fits_21 ((show narrow _ (.int (0 : Int32)) = .int (0 : Int32) from nb0).trans (congrArg Value.int (Option.some.inj hev)))
  · replace hev := x_f c1 hev
    refine lv_iload_n hx hb dX9_fits_4 rfl (lv_at hl 1 rfl) ?_
    refine lv_bipush (v := (17 : Int32)) hx hb dX9_fits_5 (by decide) ?_
    refine lv_icmp_ge (tgt := 20) hx hb dX9_fits_7 (by decide) (fun c2 => ?_) (fun c2 => ?_)
    · replace hev := x_t c2 hev
      refine lv_iconst (v := (0 : Int32)) hx hb dX9_fits_20 (by decide) ?_
      exact ret _ _ _ dX9_fits_21 ((show narrow _ (.int (0 : Int32)) = .int (0 : Int32) from nb0).trans (congrArg Value.int (Option.some.inj hev)))
    · replace hev := x_f c2 hev
      refine lv_iload_n hx hb dX9_fits_10 rfl (lv_at hl 2 rfl) ?_
      refine lv_if_lt (tgt := 20) hx hb dX9_fits_11 (by decide) (fun c3 => ?_) (fun c3 => ?_)
      · replace hev := x_t c3 hev
        refine lv_iconst (v := (0 : Int32)) hx hb dX9_fits_20 (by decide) ?_
        exact ret _ _ _ dX9_fits_21 ((show narrow _ (.int (0 : Int32)) = .int (0 : Int32) from nb0).trans (congrArg Value.int (Option.some.inj hev)))
      · replace hev := x_f c3 hev
        refine lv_iload_n hx hb dX9_fits_14 rfl (lv_at hl 2 rfl) ?_
        refine lv_bipush (v := (17 : Int32)) hx hb dX9_fits_15 (by decide) ?_
        refine lv_icmp_lt (tgt := 22) hx hb dX9_fits_17 (by decide) (fun c4 => ?_) (fun c4 => ?_)
        · replace hev := x_t c4 hev
          refine lv_aload_n hx hb dX9_fits_22 rfl (lv_at hl 0 rfl) ?_
          refine va_get (D := G.1) (ci := 5) (v := .ref aT_so) (C := RX9) (T := TX9) (N := 4) hx hb hts i9 hown hK hP 0 rfl rfl 2 (by decide) (hw _ u291) (fun _ h9 => h9) rfl dX9_fits_23 ?_
          refine lv_iload_n hx hb dX9_fits_26 rfl (lv_at hl 1 rfl) ?_
          obtain ⟨h5, hev⟩ := x_ld hev
          refine va_iald hx hb hK hP 1 0 rfl rfl h5 dX9_fits_27 ?_
          refine lv_topi (fun v6 ev6 => ?_)
          replace hev := hev v6 ev6
          refine lv_aload_n hx hb dX9_fits_28 rfl (lv_at hl 0 rfl) ?_
          refine va_get (D := G.1) (ci := 5) (v := .ref aT_so) (C := RX9) (T := TX9) (N := 4) hx hb hts i9 hown hK hP 0 rfl rfl 2 (by decide) (hw _ u291) (fun _ h9 => h9) rfl dX9_fits_29 ?_
          refine lv_iload_n hx hb dX9_fits_32 rfl (lv_at hl 2 rfl) ?_
          obtain ⟨h7, hev⟩ := x_ld hev
          refine va_iald hx hb hK hP 1 0 rfl rfl h7 dX9_fits_33 ?_
          refine lv_topi (fun v8 ev8 => ?_)
          replace hev := hev v8 ev8
          refine lv_iand hx hb dX9_fits_34 ?_
          refine lv_aload_n hx hb dX9_fits_35 rfl (lv_at hl 0 rfl) ?_
          refine va_get (D := G.1) (ci := 5) (v := .int vT_lifted) (C := RX9) (T := TX9) (N := 4) hx hb hts i9 hown hK hP 0 rfl rfl 1 (by decide) (hw _ u290) (fun _ h9 => h9) rfl dX9_fits_36 ?_
          refine lv_icmp_ne (tgt := 46) hx hb dX9_fits_39 (by decide) (fun c9 => ?_) (fun c9 => ?_)
          · replace hev := x_f c9 hev
            refine lv_iconst (v := (0 : Int32)) hx hb dX9_fits_46 (by decide) ?_
            exact ret _ _ _ dX9_fits_47 ((show narrow _ (.int (0 : Int32)) = .int (0 : Int32) from nb0).trans (congrArg Value.int (Option.some.inj hev)))
          · replace hev := x_t c9 hev
            refine lv_iconst (v := (1 : Int32)) hx hb dX9_fits_42 (by decide) ?_
            refine lv_goto (tgt := 47) hx hb dX9_fits_43 (by decide) ?_
            exact ret _ _ _ dX9_fits_47 ((show narrow _ (.int (1 : Int32)) = .int (1 : Int32) from nb1).trans (congrArg Value.int (Option.some.inj hev)))
        · replace hev := x_f c4 hev
          refine lv_iconst (v := (0 : Int32)) hx hb dX9_fits_20 (by decide) ?_
          exact ret _ _ _ dX9_fits_21 ((show narrow _ (.int (0 : Int32)) = .int (0 : Int32) from nb0).trans (congrArg Value.int (Option.some.inj hev)))
def f_Tr_howMany_L14 (vT_lifted : Int32) (vT_people : Int32) (fT_so : Nat → Int32) (x2 : Int32) : Nat → Int32 → Int32 → Option (Int32)
  | 0, _, _ => none
  | k + 1, x1, x3 => x_B (f_Tr_candidates vT_people) (fun y3 => if y3 ≤ x3 then (some x1) else x_B (f_Tr_fits vT_lifted fT_so x2 x3) (fun y5 => x_B (f_SS_oneIf y5) (fun y6 => x_L ((x1 + y6)) (fun y7 => x_L (x3 + (1 : Int32)) (fun y8 => (f_Tr_howMany_L14 vT_lifted vT_people fT_so x2 k) y7 y8)))))
def f_Tr_howMany_L4 (vT_lifted : Int32) (vT_people : Int32) (fT_so : Nat → Int32) : Nat → Int32 → Int32 → Option (Int32)
  | 0, _, _ => none
  | k + 1, x1, x2 => x_B (f_Tr_candidates vT_people) (fun y1 => if y1 ≤ x2 then (some x1) else x_B (f_Tr_howMany_L14 vT_lifted vT_people fT_so x2 k x1 x2) (fun y9 => x_L (x2 + (1 : Int32)) (fun y10 => (f_Tr_howMany_L4 vT_lifted vT_people fT_so k) y9 y10)))
def f_Tr_howMany (k : Nat) (vT_lifted : Int32) (vT_people : Int32) (fT_so : Nat → Int32) : Option (Int32) := x_B (f_Tr_howMany_L4 vT_lifted vT_people fT_so k (0 : Int32) (0 : Int32)) (fun y11 => some y11)
set_option maxHeartbeats 8000000 in
set_option maxRecDepth 100000 in
theorem c_Tr_howMany (l : Launch) (G : GG) (aT aT_trials aT_so : Nat) (vT_lifted : Int32) (vT_people : Int32) (fT_so : Nat → Int32) (k : Nat) (r0 : Int32) (hev : f_Tr_howMany k vT_lifted vT_people fT_so = some r0) : RO l G yX9_howMany cX9_howMany 4 (some .int) 2 [.ref aT] [(aT, .inr (5, [.ref aT_trials, .int vT_lifted, .ref aT_so, .int vT_people])), (aT_so, .inl (G.2.1, 17, .inl fT_so))] (some (.int r0)) := by
  refine RO_of (by decide) (Nat.le_of_ble_eq_true rfl) ?_
  intro p e s m ar below meth c R Q H ls X hR hP hKK hS0 hl ret
  generalize hrs : r0 = rs at hev ret
  have hl : lv_has ls 4 [(0, .ref aT)] := hl
  obtain ⟨hx, hb, hml, hown, hts, hT⟩ := id X
  have hK := hKK.1
  have hw : ∀ w ∈ T0, w.before ar s = true := fun w h => hts w (hT w h)
  unfold f_Tr_howMany at hev
  refine lv_iconst (v := (0 : Int32)) hx hb dX9_howMany_0 (by decide) ?_
  refine lv_istore_n (lv' := [(1, .int (0 : Int32)), (0, .ref aT)]) hx hb dX9_howMany_1 rfl hl (by decide) rfl (fun ls hl => ?_)
  refine lv_iconst (v := (0 : Int32)) hx hb dX9_howMany_2 (by decide) ?_
  refine lv_istore_n (lv' := [(2, .int (0 : Int32)), (1, .int (0 : Int32)), (0, .ref aT)]) hx hb dX9_howMany_3 rfl hl (by decide) rfl (fun ls hl => ?_)
  have L4 : ∀ (k : Nat) (x1 : Int32) (x2 : Int32) (o1 : Int32), f_Tr_howMany_L4 vT_lifted vT_people fT_so k x1 x2 = some o1 → (∀ (ls : Array Slot), lv_has ls 4 [(1, .int o1)] → W p l e R s m ar below meth c H [] 0 0 Q (F0 m 46 ls [])) → ∀ (ls : Array Slot), lv_has ls 4 [(0, .ref aT), (1, .int x1), (2, .int x2)] → W p l e R s m ar below meth c H [] 0 0 Q (F0 m 4 ls []) := by
    intro k
    induction k with
    | zero => intro x1 x2 o1 hev; rw [f_Tr_howMany_L4] at hev; cases hev
    | succ k ih =>
      intro x1 x2 o1 hev hex ls hl
      rw [f_Tr_howMany_L4] at hev
      refine lv_iload_n hx hb dX9_howMany_4 rfl (lv_at hl 2 rfl) ?_
      refine lv_aload_n hx hb dX9_howMany_5 rfl (lv_at hl 0 rfl) ?_
      obtain ⟨y1, hq, hev⟩ := x_bd hev
      refine roV X hKK hR (st1 := [.int y1, .int x2]) (c_Tr_candidates l G aT aT_trials aT_so vT_lifted vT_people y1 hq) K_X9_candidates u1015 (x_Psub hP [0] rfl) rfl (q0 := 0) rfl (by decide) ⟨Nat.zero_le _, Nat.zero_le _⟩ rfl hl.1 rfl (Nat.le_of_ble_eq_true rfl) rfl dX9_howMany_6 ?_
      refine lv_icmp_ge (tgt := 46) hx hb dX9_howMany_9 (by decide) (fun c2 => ?_) (fun c2 => ?_)
      · replace hev := x_t c2 hev
        cases hev
        exact hex ls (lv_sub hl [1] rfl)
      · replace hev := x_f c2 hev
        refine lv_iload_n hx hb dX9_howMany_12 rfl (lv_at hl 2 rfl) ?_
        refine lv_istore_n (lv' := [(3, .int x2), (0, .ref aT), (1, .int x1), (2, .int x2)]) hx hb dX9_howMany_13 rfl hl (by decide) rfl (fun ls hl => ?_)
        have L14 : ∀ (x2 : Int32), ∀ (k : Nat) (x1 : Int32) (x3 : Int32) (o1 : Int32), f_Tr_howMany_L14 vT_lifted vT_people fT_so x2 k x1 x3 = some o1 → (∀ (ls : Array Slot), lv_has ls 4 [(0, .ref aT), (1, .int o1), (2, .int x2)] → W p l e R s m ar below meth c H [] 0 0 Q (F0 m 40 ls [])) → ∀ (ls : Array Slot), lv_has ls 4 [(0, .ref aT), (1, .int x1), (2, .int x2), (3, .int x3)] → W p l e R s m ar below meth c H [] 0 0 Q (F0 m 14 ls []) := by
          intro x2 k
          induction k with
          | zero => intro x1 x3 o1 hev; rw [f_Tr_howMany_L14] at hev; cases hev
          | succ k ih =>
            intro x1 x3 o1 hev hex ls hl
            rw [f_Tr_howMany_L14] at hev
            refine lv_iload_n hx hb dX9_howMany_14 rfl (lv_at hl 3 rfl) ?_
            refine lv_aload_n hx hb dX9_howMany_15 rfl (lv_at hl 0 rfl) ?_
            obtain ⟨y3, hq, hev⟩ := x_bd hev
            refine roV X hKK hR (st1 := [.int y3, .int x3]) (c_Tr_candidates l G aT aT_trials aT_so vT_lifted vT_people y3 hq) K_X9_candidates u1015 (x_Psub hP [0] rfl) rfl (q0 := 0) rfl (by decide) ⟨Nat.zero_le _, Nat.zero_le _⟩ rfl hl.1 rfl (Nat.le_of_ble_eq_true rfl) rfl dX9_howMany_16 ?_
            refine lv_icmp_ge (tgt := 40) hx hb dX9_howMany_19 (by decide) (fun c4 => ?_) (fun c4 => ?_)
            · replace hev := x_t c4 hev
              cases hev
              exact hex ls (lv_sub hl [0, 1, 2] rfl)
            · replace hev := x_f c4 hev
              refine lv_iload_n hx hb dX9_howMany_22 rfl (lv_at hl 1 rfl) ?_
              refine lv_aload_n hx hb dX9_howMany_23 rfl (lv_at hl 0 rfl) ?_
              refine lv_iload_n hx hb dX9_howMany_24 rfl (lv_at hl 2 rfl) ?_
              refine lv_iload_n hx hb dX9_howMany_25 rfl (lv_at hl 3 rfl) ?_
              obtain ⟨y5, hq, hev⟩ := x_bd hev
              refine roV X hKK hR (st1 := [.int y5, .int x1]) (c_Tr_fits l G aT aT_trials aT_so vT_lifted vT_people fT_so x2 x3 y5 hq) K_X9_fits u1038 (x_Psub hP [0, 1] rfl) rfl (q0 := 0) rfl (by decide) ⟨Nat.zero_le _, Nat.zero_le _⟩ rfl hl.1 rfl (Nat.le_of_ble_eq_true rfl) rfl dX9_howMany_26 ?_
              obtain ⟨y6, hq, hev⟩ := x_bd hev
              refine roSN X hKK hR (st1 := [.int y6, .int x1]) (c_SS_oneIf l G y5 y6 hq) K_X10_oneIf hKK.2.1.1 (x_Psub hP [] rfl) (by decide) ⟨Nat.zero_le _, Nat.zero_le _⟩ rfl hl.1 rfl (Nat.le_of_ble_eq_true rfl) rfl dX9_howMany_29 ?_
              refine lv_iadd hx hb dX9_howMany_32 ?_
              refine lv_topi (fun y7 ey7 => ?_)
              replace hev := x_lt hev y7 ey7
              refine lv_istore_n (lv' := [(1, .int y7), (0, .ref aT), (2, .int x2), (3, .int x3)]) hx hb dX9_howMany_33 rfl hl (by decide) rfl (fun ls hl => ?_)
              obtain ⟨y8, ey8⟩ : ∃ y : Int32, y = x3 + (1 : Int32) := ⟨_, rfl⟩
              refine lv_iinc (v := y8) (lv' := [(3, .int y8), (1, .int y7), (0, .ref aT), (2, .int x2)]) hx hb dX9_howMany_34 hl (k := 3) rfl (by rw [ey8]; rfl) (by decide) rfl (fun ls hl => ?_)
              replace hev := x_lt hev y8 ey8
              refine lv_goto (tgt := 14) hx hb dX9_howMany_37 (by decide) ?_
              exact ih y7 y8 _ hev hex ls (lv_sub hl [2, 1, 3, 0] rfl)
        obtain ⟨y9, hq, hev⟩ := x_bd hev
        refine L14 x2 k x1 x2 y9 hq (fun ls hl => ?_) ls (lv_sub hl [1, 2, 3, 0] rfl)
        obtain ⟨y10, ey10⟩ : ∃ y : Int32, y = x2 + (1 : Int32) := ⟨_, rfl⟩
        refine lv_iinc (v := y10) (lv' := [(2, .int y10), (0, .ref aT), (1, .int y9)]) hx hb dX9_howMany_40 hl (k := 2) rfl (by rw [ey10]; rfl) (by decide) rfl (fun ls hl => ?_)
        replace hev := x_lt hev y10 ey10
        refine lv_goto (tgt := 4) hx hb dX9_howMany_43 (by decide) ?_
        exact ih y9 y10 _ hev hex ls (lv_sub hl [1, 2, 0] rfl)
  obtain ⟨y11, hq, hev⟩ := x_bd hev
  refine L4 k (0 : Int32) (0 : Int32) y11 hq (fun ls hl => ?_) ls (lv_sub hl [2, 1, 0] rfl)
  refine lv_iload_n hx hb dX9_howMany_46 rfl (lv_at hl 0 rfl) ?_
  exact ret _ _ _ dX9_howMany_47 ((show narrow _ (.int y11) = .int y11 from rfl).trans (congrArg Value.int (Option.some.inj hev)))
def f_Tr_partnerOf_L4 (vT_lifted : Int32) (vT_people : Int32) (fT_so : Nat → Int32) (x1 : Int32) : Nat → Int32 → Option ((Unit) ⊕ (Int32))
  | 0, _ => none
  | k + 1, x2 => x_B (f_Tr_candidates vT_people) (fun y2 => if y2 ≤ x2 then (some (.inl ())) else x_B (f_Tr_fits vT_lifted fT_so x1 x2) (fun y4 => if y4 = 0 then (x_L (x2 + (1 : Int32)) (fun y6 => (f_Tr_partnerOf_L4 vT_lifted vT_people fT_so x1 k) y6)) else some (.inr x2)))
def f_Tr_partnerOf (k : Nat) (vT_lifted : Int32) (vT_people : Int32) (fT_so : Nat → Int32) (p1 : Int32) : Option (Int32) := x_L ((p1 + (1 : Int32))) (fun y1 => x_S (f_Tr_partnerOf_L4 vT_lifted vT_people fT_so p1 k y1) (fun _ => some (-1 : Int32)) (fun r9 => some r9))
set_option maxHeartbeats 8000000 in
set_option maxRecDepth 100000 in
theorem c_Tr_partnerOf (l : Launch) (G : GG) (aT aT_trials aT_so : Nat) (vT_lifted : Int32) (vT_people : Int32) (fT_so : Nat → Int32) (k : Nat) (p1 : Int32) (r0 : Int32) (hev : f_Tr_partnerOf k vT_lifted vT_people fT_so p1 = some r0) : RO l G yX9_partnerOf cX9_partnerOf 3 (some .int) 2 [.ref aT, .int p1] [(aT, .inr (5, [.ref aT_trials, .int vT_lifted, .ref aT_so, .int vT_people])), (aT_so, .inl (G.2.1, 17, .inl fT_so))] (some (.int r0)) := by
  refine RO_of (by decide) (Nat.le_of_ble_eq_true rfl) ?_
  intro p e s m ar below meth c R Q H ls X hR hP hKK hS0 hl ret
  generalize hrs : r0 = rs at hev ret
  have hl : lv_has ls 3 [(0, .ref aT), (1, .int p1)] := hl
  obtain ⟨hx, hb, hml, hown, hts, hT⟩ := id X
  have hK := hKK.1
  have hw : ∀ w ∈ T0, w.before ar s = true := fun w h => hts w (hT w h)
  unfold f_Tr_partnerOf at hev
  refine lv_iload_n hx hb dX9_partnerOf_0 rfl (lv_at hl 1 rfl) ?_
  refine lv_iconst (v := (1 : Int32)) hx hb dX9_partnerOf_1 (by decide) ?_
  refine lv_iadd hx hb dX9_partnerOf_2 ?_
  refine lv_topi (fun y1 ey1 => ?_)
  replace hev := x_lt hev y1 ey1
  refine lv_istore_n (lv' := [(2, .int y1), (0, .ref aT), (1, .int p1)]) hx hb dX9_partnerOf_3 rfl hl (by decide) rfl (fun ls hl => ?_)
  have L4 : ∀ (x1 : Int32), ∀ (k : Nat) (x2 : Int32) (out : (Unit) ⊕ (Int32)), f_Tr_partnerOf_L4 vT_lifted vT_people fT_so x1 k x2 = some out → (out = .inl () → ∀ (ls : Array Slot), lv_has ls 3 [] → W p l e R s m ar below meth c H [] 0 0 Q (F0 m 29 ls [])) → (∀ v, out = .inr v → v = rs) → ∀ (ls : Array Slot), lv_has ls 3 [(0, .ref aT), (1, .int x1), (2, .int x2)] → W p l e R s m ar below meth c H [] 0 0 Q (F0 m 4 ls []) := by
    intro x1 k
    induction k with
    | zero => intro x2 out hev; rw [f_Tr_partnerOf_L4] at hev; cases hev
    | succ k ih =>
      intro x2 out hev hex hret ls hl
      rw [f_Tr_partnerOf_L4] at hev
      refine lv_iload_n hx hb dX9_partnerOf_4 rfl (lv_at hl 2 rfl) ?_
      refine lv_aload_n hx hb dX9_partnerOf_5 rfl (lv_at hl 0 rfl) ?_
      obtain ⟨y2, hq, hev⟩ := x_bd hev
      refine roV X hKK hR (st1 := [.int y2, .int x2]) (c_Tr_candidates l G aT aT_trials aT_so vT_lifted vT_people y2 hq) K_X9_candidates u1015 (x_Psub hP [0] rfl) rfl (q0 := 0) rfl (by decide) ⟨Nat.zero_le _, Nat.zero_le _⟩ rfl hl.1 rfl (Nat.le_of_ble_eq_true rfl) rfl dX9_partnerOf_6 ?_
      refine lv_icmp_ge (tgt := 29) hx hb dX9_partnerOf_9 (by decide) (fun c3 => ?_) (fun c3 => ?_)
      · replace hev := x_t c3 hev
        exact hex  (Option.some.inj hev).symm ls (lv_sub hl [] rfl)
      · replace hev := x_f c3 hev
        refine lv_aload_n hx hb dX9_partnerOf_12 rfl (lv_at hl 0 rfl) ?_
        refine lv_iload_n hx hb dX9_partnerOf_13 rfl (lv_at hl 1 rfl) ?_
        refine lv_iload_n hx hb dX9_partnerOf_14 rfl (lv_at hl 2 rfl) ?_
        obtain ⟨y4, hq, hev⟩ := x_bd hev
        refine roV X hKK hR (st1 := [.int y4]) (c_Tr_fits l G aT aT_trials aT_so vT_lifted vT_people fT_so x1 x2 y4 hq) K_X9_fits u1038 (x_Psub hP [0, 1] rfl) rfl (q0 := 0) rfl (by decide) ⟨Nat.zero_le _, Nat.zero_le _⟩ rfl hl.1 rfl (Nat.le_of_ble_eq_true rfl) rfl dX9_partnerOf_15 ?_
        refine lv_if_eq (tgt := 23) hx hb dX9_partnerOf_18 (by decide) (fun c5 => ?_) (fun c5 => ?_)
        · replace hev := x_t c5 hev
          obtain ⟨y6, ey6⟩ : ∃ y : Int32, y = x2 + (1 : Int32) := ⟨_, rfl⟩
          refine lv_iinc (v := y6) (lv' := [(2, .int y6), (0, .ref aT), (1, .int x1)]) hx hb dX9_partnerOf_23 hl (k := 2) rfl (by rw [ey6]; rfl) (by decide) rfl (fun ls hl => ?_)
          replace hev := x_lt hev y6 ey6
          refine lv_goto (tgt := 4) hx hb dX9_partnerOf_26 (by decide) ?_
          exact ih y6 _ hev hex hret ls (lv_sub hl [1, 2, 0] rfl)
        · replace hev := x_f c5 hev
          refine lv_iload_n hx hb dX9_partnerOf_21 rfl (lv_at hl 2 rfl) ?_
          exact ret _ _ _ dX9_partnerOf_22 ((show narrow _ (.int x2) = .int x2 from rfl).trans (congrArg Value.int (hret _ (Option.some.inj hev).symm)))
  rcases x_sd hev with ⟨q9, hq, hev⟩ | ⟨q9, hq, hev⟩
  · refine L4 p1 k y1 (.inl q9) hq ?_ (fun v he => by cases he) ls (lv_sub hl [1, 2, 0] rfl)
    intro  he ls hl
    refine lv_iconst (v := (-1 : Int32)) hx hb dX9_partnerOf_29 (by decide) ?_
    exact ret _ _ _ dX9_partnerOf_30 ((show narrow _ (.int (-1 : Int32)) = .int (-1 : Int32) from rfl).trans (congrArg Value.int (Option.some.inj hev)))
  · refine L4 p1 k y1 (.inr q9) hq (fun he => by cases he) (fun v he => ?_) ls (lv_sub hl [1, 2, 0] rfl)
    rw [← Sum.inr.inj he]
    exact Option.some.inj hev
def f_Tr_firstTerm_L2 (vT_lifted : Int32) (vT_people : Int32) (fT_so : Nat → Int32) : Nat → Int32 → Option ((Unit) ⊕ (Int32))
  | 0, _ => none
  | k + 1, x1 => x_B (f_Tr_candidates vT_people) (fun y1 => if y1 ≤ x1 then (some (.inl ())) else x_B (f_Tr_fits vT_lifted fT_so x1 x1) (fun y3 => if y3 = 0 then (x_L (x1 + (1 : Int32)) (fun y5 => (f_Tr_firstTerm_L2 vT_lifted vT_people fT_so k) y5)) else some (.inr x1)))
def f_Tr_firstTerm_L29 (vT_lifted : Int32) (vT_people : Int32) (fT_so : Nat → Int32) : Nat → Int32 → Option ((Unit) ⊕ (Int32))
  | 0, _ => none
  | k + 1, x1 => x_B (f_Tr_candidates vT_people) (fun y6 => if y6 ≤ x1 then (some (.inl ())) else x_B (f_Tr_partnerOf k vT_lifted vT_people fT_so x1) (fun y8 => if y8 = (-1 : Int32) then (x_L (x1 + (1 : Int32)) (fun y10 => (f_Tr_firstTerm_L29 vT_lifted vT_people fT_so k) y10)) else some (.inr x1)))
def f_Tr_firstTerm (k : Nat) (vT_lifted : Int32) (vT_people : Int32) (fT_so : Nat → Int32) : Option (Int32) := x_S (f_Tr_firstTerm_L2 vT_lifted vT_people fT_so k (0 : Int32)) (fun _ => x_S (f_Tr_firstTerm_L29 vT_lifted vT_people fT_so k (0 : Int32)) (fun _ => some (-1 : Int32)) (fun r9 => some r9)) (fun r9 => some r9)
set_option maxHeartbeats 8000000 in
set_option maxRecDepth 100000 in
theorem c_Tr_firstTerm (l : Launch) (G : GG) (aT aT_trials aT_so : Nat) (vT_lifted : Int32) (vT_people : Int32) (fT_so : Nat → Int32) (k : Nat) (r0 : Int32) (hev : f_Tr_firstTerm k vT_lifted vT_people fT_so = some r0) : RO l G yX9_firstTerm cX9_firstTerm 2 (some .int) 3 [.ref aT] [(aT, .inr (5, [.ref aT_trials, .int vT_lifted, .ref aT_so, .int vT_people])), (aT_so, .inl (G.2.1, 17, .inl fT_so))] (some (.int r0)) := by
  refine RO_of (by decide) (Nat.le_of_ble_eq_true rfl) ?_
  intro p e s m ar below meth c R Q H ls X hR hP hKK hS0 hl ret
  generalize hrs : r0 = rs at hev ret
  have hl : lv_has ls 2 [(0, .ref aT)] := hl
  obtain ⟨hx, hb, hml, hown, hts, hT⟩ := id X
  have hK := hKK.1
  have hw : ∀ w ∈ T0, w.before ar s = true := fun w h => hts w (hT w h)
  unfold f_Tr_firstTerm at hev
  refine lv_iconst (v := (0 : Int32)) hx hb dX9_firstTerm_0 (by decide) ?_
  refine lv_istore_n (lv' := [(1, .int (0 : Int32)), (0, .ref aT)]) hx hb dX9_firstTerm_1 rfl hl (by decide) rfl (fun ls hl => ?_)
  have L2 : ∀ (k : Nat) (x1 : Int32) (out : (Unit) ⊕ (Int32)), f_Tr_firstTerm_L2 vT_lifted vT_people fT_so k x1 = some out → (out = .inl () → ∀ (ls : Array Slot), lv_has ls 2 [(0, .ref aT)] → W p l e R s m ar below meth c H [] 0 0 Q (F0 m 27 ls [])) → (∀ v, out = .inr v → v = rs) → ∀ (ls : Array Slot), lv_has ls 2 [(0, .ref aT), (1, .int x1)] → W p l e R s m ar below meth c H [] 0 0 Q (F0 m 2 ls []) := by
    intro k
    induction k with
    | zero => intro x1 out hev; rw [f_Tr_firstTerm_L2] at hev; cases hev
    | succ k ih =>
      intro x1 out hev hex hret ls hl
      rw [f_Tr_firstTerm_L2] at hev
      refine lv_iload_n hx hb dX9_firstTerm_2 rfl (lv_at hl 1 rfl) ?_
      refine lv_aload_n hx hb dX9_firstTerm_3 rfl (lv_at hl 0 rfl) ?_
      obtain ⟨y1, hq, hev⟩ := x_bd hev
      refine roV X hKK hR (st1 := [.int y1, .int x1]) (c_Tr_candidates l G aT aT_trials aT_so vT_lifted vT_people y1 hq) K_X9_candidates u1015 (x_Psub hP [0] rfl) rfl (q0 := 0) rfl (by decide) ⟨Nat.zero_le _, Nat.zero_le _⟩ rfl hl.1 rfl (Nat.le_of_ble_eq_true rfl) rfl dX9_firstTerm_4 ?_
      refine lv_icmp_ge (tgt := 27) hx hb dX9_firstTerm_7 (by decide) (fun c2 => ?_) (fun c2 => ?_)
      · replace hev := x_t c2 hev
        exact hex  (Option.some.inj hev).symm ls (lv_sub hl [0] rfl)
      · replace hev := x_f c2 hev
        refine lv_aload_n hx hb dX9_firstTerm_10 rfl (lv_at hl 0 rfl) ?_
        refine lv_iload_n hx hb dX9_firstTerm_11 rfl (lv_at hl 1 rfl) ?_
        refine lv_iload_n hx hb dX9_firstTerm_12 rfl (lv_at hl 1 rfl) ?_
        obtain ⟨y3, hq, hev⟩ := x_bd hev
        refine roV X hKK hR (st1 := [.int y3]) (c_Tr_fits l G aT aT_trials aT_so vT_lifted vT_people fT_so x1 x1 y3 hq) K_X9_fits u1038 (x_Psub hP [0, 1] rfl) rfl (q0 := 0) rfl (by decide) ⟨Nat.zero_le _, Nat.zero_le _⟩ rfl hl.1 rfl (Nat.le_of_ble_eq_true rfl) rfl dX9_firstTerm_13 ?_
        refine lv_if_eq (tgt := 21) hx hb dX9_firstTerm_16 (by decide) (fun c4 => ?_) (fun c4 => ?_)
        · replace hev := x_t c4 hev
          obtain ⟨y5, ey5⟩ : ∃ y : Int32, y = x1 + (1 : Int32) := ⟨_, rfl⟩
          refine lv_iinc (v := y5) (lv' := [(1, .int y5), (0, .ref aT)]) hx hb dX9_firstTerm_21 hl (k := 1) rfl (by rw [ey5]; rfl) (by decide) rfl (fun ls hl => ?_)
          replace hev := x_lt hev y5 ey5
          refine lv_goto (tgt := 2) hx hb dX9_firstTerm_24 (by decide) ?_
          exact ih y5 _ hev hex hret ls (lv_sub hl [1, 0] rfl)
        · replace hev := x_f c4 hev
          refine lv_iload_n hx hb dX9_firstTerm_19 rfl (lv_at hl 1 rfl) ?_
          exact ret _ _ _ dX9_firstTerm_20 ((show narrow _ (.int x1) = .int x1 from rfl).trans (congrArg Value.int (hret _ (Option.some.inj hev).symm)))
  rcases x_sd hev with ⟨q9, hq, hev⟩ | ⟨q9, hq, hev⟩
  · refine L2 k (0 : Int32) (.inl q9) hq ?_ (fun v he => by cases he) ls (lv_sub hl [1, 0] rfl)
    intro  he ls hl
    refine lv_iconst (v := (0 : Int32)) hx hb dX9_firstTerm_27 (by decide) ?_
    refine lv_istore_n (lv' := [(1, .int (0 : Int32)), (0, .ref aT)]) hx hb dX9_firstTerm_28 rfl hl (by decide) rfl (fun ls hl => ?_)
    have L29 : ∀ (k : Nat) (x1 : Int32) (out : (Unit) ⊕ (Int32)), f_Tr_firstTerm_L29 vT_lifted vT_people fT_so k x1 = some out → (out = .inl () → ∀ (ls : Array Slot), lv_has ls 2 [] → W p l e R s m ar below meth c H [] 0 0 Q (F0 m 54 ls [])) → (∀ v, out = .inr v → v = rs) → ∀ (ls : Array Slot), lv_has ls 2 [(0, .ref aT), (1, .int x1)] → W p l e R s m ar below meth c H [] 0 0 Q (F0 m 29 ls []) := by
      intro k
      induction k with
      | zero => intro x1 out hev; rw [f_Tr_firstTerm_L29] at hev; cases hev
      | succ k ih =>
        intro x1 out hev hex hret ls hl
        rw [f_Tr_firstTerm_L29] at hev
        refine lv_iload_n hx hb dX9_firstTerm_29 rfl (lv_at hl 1 rfl) ?_
        refine lv_aload_n hx hb dX9_firstTerm_30 rfl (lv_at hl 0 rfl) ?_
        obtain ⟨y6, hq, hev⟩ := x_bd hev
        refine roV X hKK hR (st1 := [.int y6, .int x1]) (c_Tr_candidates l G aT aT_trials aT_so vT_lifted vT_people y6 hq) K_X9_candidates u1015 (x_Psub hP [0] rfl) rfl (q0 := 0) rfl (by decide) ⟨Nat.zero_le _, Nat.zero_le _⟩ rfl hl.1 rfl (Nat.le_of_ble_eq_true rfl) rfl dX9_firstTerm_31 ?_
        refine lv_icmp_ge (tgt := 54) hx hb dX9_firstTerm_34 (by decide) (fun c7 => ?_) (fun c7 => ?_)
        · replace hev := x_t c7 hev
          exact hex  (Option.some.inj hev).symm ls (lv_sub hl [] rfl)
        · replace hev := x_f c7 hev
          refine lv_aload_n hx hb dX9_firstTerm_37 rfl (lv_at hl 0 rfl) ?_
          refine lv_iload_n hx hb dX9_firstTerm_38 rfl (lv_at hl 1 rfl) ?_
          obtain ⟨y8, hq, hev⟩ := x_bd hev
          refine roV X hKK hR (st1 := [.int y8]) (c_Tr_partnerOf l G aT aT_trials aT_so vT_lifted vT_people fT_so k x1 y8 hq) K_X9_partnerOf u1046 (x_Psub hP [0, 1] rfl) rfl (q0 := 0) rfl (by decide) ⟨Nat.zero_le _, Nat.zero_le _⟩ rfl hl.1 rfl (Nat.le_of_ble_eq_true rfl) rfl dX9_firstTerm_39 ?_
          refine lv_iconst (v := (-1 : Int32)) hx hb dX9_firstTerm_42 (by decide) ?_
          refine lv_icmp_eq (tgt := 48) hx hb dX9_firstTerm_43 (by decide) (fun c9 => ?_) (fun c9 => ?_)
          · replace hev := x_t c9 hev
            obtain ⟨y10, ey10⟩ : ∃ y : Int32, y = x1 + (1 : Int32) := ⟨_, rfl⟩
            refine lv_iinc (v := y10) (lv' := [(1, .int y10), (0, .ref aT)]) hx hb dX9_firstTerm_48 hl (k := 1) rfl (by rw [ey10]; rfl) (by decide) rfl (fun ls hl => ?_)
            replace hev := x_lt hev y10 ey10
            refine lv_goto (tgt := 29) hx hb dX9_firstTerm_51 (by decide) ?_
            exact ih y10 _ hev hex hret ls (lv_sub hl [1, 0] rfl)
          · replace hev := x_f c9 hev
            refine lv_iload_n hx hb dX9_firstTerm_46 rfl (lv_at hl 1 rfl) ?_
            exact ret _ _ _ dX9_firstTerm_47 ((show narrow _ (.int x1) = .int x1 from rfl).trans (congrArg Value.int (hret _ (Option.some.inj hev).symm)))
    rcases x_sd hev with ⟨q9, hq, hev⟩ | ⟨q9, hq, hev⟩
    · refine L29 k (0 : Int32) (.inl q9) hq ?_ (fun v he => by cases he) ls (lv_sub hl [1, 0] rfl)
      intro  he ls hl
      refine lv_iconst (v := (-1 : Int32)) hx hb dX9_firstTerm_54 (by decide) ?_
      exact ret _ _ _ dX9_firstTerm_55 ((show narrow _ (.int (-1 : Int32)) = .int (-1 : Int32) from rfl).trans (congrArg Value.int (Option.some.inj hev)))
    · refine L29 k (0 : Int32) (.inr q9) hq (fun he => by cases he) (fun v he => ?_) ls (lv_sub hl [1, 0] rfl)
      rw [← Sum.inr.inj he]
      exact Option.some.inj hev
  · refine L2 k (0 : Int32) (.inr q9) hq (fun he => by cases he) (fun v he => ?_) ls (lv_sub hl [1, 0] rfl)
    rw [← Sum.inr.inj he]
    exact Option.some.inj hev
def f_Tr_secondTerm (k : Nat) (vT_lifted : Int32) (vT_people : Int32) (fT_so : Nat → Int32) (p1 : Int32) : Option (Int32) := x_B (f_Tr_fits vT_lifted fT_so p1 p1) (fun y1 => if y1 = 0 then (x_B (f_Tr_partnerOf k vT_lifted vT_people fT_so p1) (fun y3 => some y3)) else some (-1 : Int32))
set_option maxHeartbeats 8000000 in
set_option maxRecDepth 100000 in
theorem c_Tr_secondTerm (l : Launch) (G : GG) (aT aT_trials aT_so : Nat) (vT_lifted : Int32) (vT_people : Int32) (fT_so : Nat → Int32) (k : Nat) (p1 : Int32) (r0 : Int32) (hev : f_Tr_secondTerm k vT_lifted vT_people fT_so p1 = some r0) : RO l G yX9_secondTerm cX9_secondTerm 2 (some .int) 3 [.ref aT, .int p1] [(aT, .inr (5, [.ref aT_trials, .int vT_lifted, .ref aT_so, .int vT_people])), (aT_so, .inl (G.2.1, 17, .inl fT_so))] (some (.int r0)) := by
  refine RO_of (by decide) (Nat.le_of_ble_eq_true rfl) ?_
  intro p e s m ar below meth c R Q H ls X hR hP hKK hS0 hl ret
  generalize hrs : r0 = rs at hev ret
  have hl : lv_has ls 2 [(0, .ref aT), (1, .int p1)] := hl
  obtain ⟨hx, hb, hml, hown, hts, hT⟩ := id X
  have hK := hKK.1
  have hw : ∀ w ∈ T0, w.before ar s = true := fun w h => hts w (hT w h)
  unfold f_Tr_secondTerm at hev
  refine lv_aload_n hx hb dX9_secondTerm_0 rfl (lv_at hl 0 rfl) ?_
  refine lv_iload_n hx hb dX9_secondTerm_1 rfl (lv_at hl 1 rfl) ?_
  refine lv_iload_n hx hb dX9_secondTerm_2 rfl (lv_at hl 1 rfl) ?_
  obtain ⟨y1, hq, hev⟩ := x_bd hev
  refine roV X hKK hR (st1 := [.int y1]) (c_Tr_fits l G aT aT_trials aT_so vT_lifted vT_people fT_so p1 p1 y1 hq) K_X9_fits u1038 (x_Psub hP [0, 1] rfl) rfl (q0 := 0) rfl (by decide) ⟨Nat.zero_le _, Nat.zero_le _⟩ rfl hl.1 rfl (Nat.le_of_ble_eq_true rfl) rfl dX9_secondTerm_3 ?_
  refine lv_if_eq (tgt := 13) hx hb dX9_secondTerm_6 (by decide) (fun c2 => ?_) (fun c2 => ?_)
  · replace hev := x_t c2 hev
    refine lv_aload_n hx hb dX9_secondTerm_13 rfl (lv_at hl 0 rfl) ?_
    refine lv_iload_n hx hb dX9_secondTerm_14 rfl (lv_at hl 1 rfl) ?_
    obtain ⟨y3, hq, hev⟩ := x_bd hev
    refine roV X hKK hR (st1 := [.int y3]) (c_Tr_partnerOf l G aT aT_trials aT_so vT_lifted vT_people fT_so k p1 y3 hq) K_X9_partnerOf u1046 (x_Psub hP [0, 1] rfl) rfl (q0 := 0) rfl (by decide) ⟨Nat.zero_le _, Nat.zero_le _⟩ rfl hl.1 rfl (Nat.le_of_ble_eq_true rfl) rfl dX9_secondTerm_15 ?_
    exact ret _ _ _ dX9_secondTerm_18 ((show narrow _ (.int y3) = .int y3 from rfl).trans (congrArg Value.int (Option.some.inj hev)))
  · replace hev := x_f c2 hev
    refine lv_iconst (v := (-1 : Int32)) hx hb dX9_secondTerm_9 (by decide) ?_
    refine lv_goto (tgt := 18) hx hb dX9_secondTerm_10 (by decide) ?_
    exact ret _ _ _ dX9_secondTerm_18 ((show narrow _ (.int (-1 : Int32)) = .int (-1 : Int32) from rfl).trans (congrArg Value.int (Option.some.inj hev)))
def f_Tr_liftedBy_J70 (rec : Int32 → Int32 → Option (Int32)) (k : Nat) (vT_lifted : Int32) (vT_people : Int32) (fT_so : Nat → Int32) (x1 : Int32) (x2 : Int32) (x3 : Int32) : Option (Int32) := x_L (x3 + (1 : Int32)) (fun y1 => rec x2 y1)
def f_Tr_liftedBy_J59 (rec : Int32 → Int32 → Option (Int32)) (k : Nat) (vT_lifted : Int32) (vT_people : Int32) (fT_so : Nat → Int32) (x1 : Int32) (x3 : Int32) (x4 : Int32) (s0 : Int32) (s1 : Int32) : Option (Int32) := x_B (f_SS_oneIf s0) (fun y4 => x_L ((s1 + y4)) (fun y5 => x_L (x4 + (1 : Int32)) (fun y6 => rec y5 y6)))
def f_Tr_liftedBy_J58 (rec : Int32 → Int32 → Option (Int32)) (k : Nat) (vT_lifted : Int32) (vT_people : Int32) (fT_so : Nat → Int32) (x1 : Int32) (x3 : Int32) (x4 : Int32) (s0 : Int32) : Option (Int32) := f_Tr_liftedBy_J59 rec k vT_lifted vT_people fT_so x1 x3 x4 (0 : Int32) s0
def f_Tr_liftedBy_L15 (vT_lifted : Int32) (vT_people : Int32) (fT_so : Nat → Int32) (x1 : Int32) (x3 : Int32) : Nat → Int32 → Int32 → Option (Int32)
  | 0, _, _ => none
  | k + 1, x2, x4 => x_B (f_Tr_candidates vT_people) (fun y7 => if y7 ≤ x4 then (some x2) else x_B (f_Tr_isSoIn vT_people x3 x1) (fun y9 => if y9 = 0 then (some x2) else x_B (f_Tr_fits vT_lifted fT_so x3 x4) (fun y11 => if y11 = 0 then (f_Tr_liftedBy_J58 (f_Tr_liftedBy_L15 vT_lifted vT_people fT_so x1 x3 k) k vT_lifted vT_people fT_so x1 x3 x4 x2) else x_B (f_Tr_isSoIn vT_people x4 x1) (fun y13 => if y13 = 0 then (f_Tr_liftedBy_J58 (f_Tr_liftedBy_L15 vT_lifted vT_people fT_so x1 x3 k) k vT_lifted vT_people fT_so x1 x3 x4 x2) else f_Tr_liftedBy_J59 (f_Tr_liftedBy_L15 vT_lifted vT_people fT_so x1 x3 k) k vT_lifted vT_people fT_so x1 x3 x4 (1 : Int32) x2))))
def f_Tr_liftedBy_L4 (vT_lifted : Int32) (vT_people : Int32) (fT_so : Nat → Int32) (x1 : Int32) : Nat → Int32 → Int32 → Option (Int32)
  | 0, _, _ => none
  | k + 1, x2, x3 => x_B (f_Tr_candidates vT_people) (fun y2 => if y2 ≤ x3 then (some x2) else x_B (f_Tr_liftedBy_L15 vT_lifted vT_people fT_so x1 x3 k x2 x3) (fun y15 => f_Tr_liftedBy_J70 (f_Tr_liftedBy_L4 vT_lifted vT_people fT_so x1 k) k vT_lifted vT_people fT_so x1 y15 x3))
def f_Tr_liftedBy (k : Nat) (vT_lifted : Int32) (vT_people : Int32) (fT_so : Nat → Int32) (p1 : Int32) : Option (Int32) := x_B (f_Tr_liftedBy_L4 vT_lifted vT_people fT_so p1 k (0 : Int32) (0 : Int32)) (fun y16 => some y16)
set_option maxHeartbeats 8000000 in
set_option maxRecDepth 100000 in
theorem c_Tr_liftedBy (l : Launch) (G : GG) (aT aT_trials aT_so : Nat) (vT_lifted : Int32) (vT_people : Int32) (fT_so : Nat → Int32) (k : Nat) (p1 : Int32) (r0 : Int32) (hev : f_Tr_liftedBy k vT_lifted vT_people fT_so p1 = some r0) : RO l G yX9_liftedBy cX9_liftedBy 5 (some .int) 3 [.ref aT, .int p1] [(aT, .inr (5, [.ref aT_trials, .int vT_lifted, .ref aT_so, .int vT_people])), (aT_so, .inl (G.2.1, 17, .inl fT_so))] (some (.int r0)) := by
  refine RO_of (by decide) (Nat.le_of_ble_eq_true rfl) ?_
  intro p e s m ar below meth c R Q H ls X hR hP hKK hS0 hl ret
  generalize hrs : r0 = rs at hev ret
  have hl : lv_has ls 5 [(0, .ref aT), (1, .int p1)] := hl
  obtain ⟨hx, hb, hml, hown, hts, hT⟩ := id X
  have hK := hKK.1
  have hw : ∀ w ∈ T0, w.before ar s = true := fun w h => hts w (hT w h)
  unfold f_Tr_liftedBy at hev
  refine lv_iconst (v := (0 : Int32)) hx hb dX9_liftedBy_0 (by decide) ?_
  refine lv_istore_n (lv' := [(2, .int (0 : Int32)), (0, .ref aT), (1, .int p1)]) hx hb dX9_liftedBy_1 rfl hl (by decide) rfl (fun ls hl => ?_)
  refine lv_iconst (v := (0 : Int32)) hx hb dX9_liftedBy_2 (by decide) ?_
  refine lv_istore_n (lv' := [(3, .int (0 : Int32)), (2, .int (0 : Int32)), (0, .ref aT), (1, .int p1)]) hx hb dX9_liftedBy_3 rfl hl (by decide) rfl (fun ls hl => ?_)
  have L4 : ∀ (x1 : Int32), ∀ (k : Nat) (x2 : Int32) (x3 : Int32) (o2 : Int32), f_Tr_liftedBy_L4 vT_lifted vT_people fT_so x1 k x2 x3 = some o2 → (∀ (ls : Array Slot), lv_has ls 5 [(2, .int o2)] → W p l e R s m ar below meth c H [] 0 0 Q (F0 m 76 ls [])) → ∀ (ls : Array Slot), lv_has ls 5 [(0, .ref aT), (1, .int x1), (2, .int x2), (3, .int x3)] → W p l e R s m ar below meth c H [] 0 0 Q (F0 m 4 ls []) := by
    intro x1 k
    induction k with
    | zero => intro x2 x3 o2 hev; rw [f_Tr_liftedBy_L4] at hev; cases hev
    | succ k ih =>
      intro x2 x3 o2 hev hex ls hl
      rw [f_Tr_liftedBy_L4] at hev
      have J70 : ∀ (x2 : Int32) (x3 : Int32), ∀ (ls : Array Slot), f_Tr_liftedBy_J70 (f_Tr_liftedBy_L4 vT_lifted vT_people fT_so x1 k) k vT_lifted vT_people fT_so x1 x2 x3 = some o2 → lv_has ls 5 [(0, .ref aT), (1, .int x1), (2, .int x2), (3, .int x3)] → W p l e R s m ar below meth c H [] 0 0 Q (F0 m 70 ls []) := by
        intro x2 x3 ls hev hl
        unfold f_Tr_liftedBy_J70 at hev
        obtain ⟨y1, ey1⟩ : ∃ y : Int32, y = x3 + (1 : Int32) := ⟨_, rfl⟩
        refine lv_iinc (v := y1) (lv' := [(3, .int y1), (0, .ref aT), (1, .int x1), (2, .int x2)]) hx hb dX9_liftedBy_70 hl (k := 3) rfl (by rw [ey1]; rfl) (by decide) rfl (fun ls hl => ?_)
        replace hev := x_lt hev y1 ey1
        refine lv_goto (tgt := 4) hx hb dX9_liftedBy_73 (by decide) ?_
        exact ih x2 y1 _ hev hex ls (lv_sub hl [1, 2, 3, 0] rfl)
      refine lv_iload_n hx hb dX9_liftedBy_4 rfl (lv_at hl 3 rfl) ?_
      refine lv_aload_n hx hb dX9_liftedBy_5 rfl (lv_at hl 0 rfl) ?_
      obtain ⟨y2, hq, hev⟩ := x_bd hev
      refine roV X hKK hR (st1 := [.int y2, .int x3]) (c_Tr_candidates l G aT aT_trials aT_so vT_lifted vT_people y2 hq) K_X9_candidates u1015 (x_Psub hP [0] rfl) rfl (q0 := 0) rfl (by decide) ⟨Nat.zero_le _, Nat.zero_le _⟩ rfl hl.1 rfl (Nat.le_of_ble_eq_true rfl) rfl dX9_liftedBy_6 ?_
      refine lv_icmp_ge (tgt := 76) hx hb dX9_liftedBy_9 (by decide) (fun c3 => ?_) (fun c3 => ?_)
      · replace hev := x_t c3 hev
        cases hev
        exact hex ls (lv_sub hl [2] rfl)
      · replace hev := x_f c3 hev
        refine lv_iload_n hx hb dX9_liftedBy_12 rfl (lv_at hl 3 rfl) ?_
        refine lv_istore (lv' := [(4, .int x3), (0, .ref aT), (1, .int x1), (2, .int x2), (3, .int x3)]) hx hb dX9_liftedBy_13 hl (by decide) rfl (fun ls hl => ?_)
        have L15 : ∀ (x1 : Int32) (x3 : Int32), ∀ (k : Nat) (x2 : Int32) (x4 : Int32) (o2 : Int32), f_Tr_liftedBy_L15 vT_lifted vT_people fT_so x1 x3 k x2 x4 = some o2 → (∀ (ls : Array Slot), lv_has ls 5 [(0, .ref aT), (1, .int x1), (2, .int o2), (3, .int x3)] → W p l e R s m ar below meth c H [] 0 0 Q (F0 m 70 ls [])) → ∀ (ls : Array Slot), lv_has ls 5 [(0, .ref aT), (1, .int x1), (2, .int x2), (3, .int x3), (4, .int x4)] → W p l e R s m ar below meth c H [] 0 0 Q (F0 m 15 ls []) := by
          intro x1 x3 k
          induction k with
          | zero => intro x2 x4 o2 hev; rw [f_Tr_liftedBy_L15] at hev; cases hev
          | succ k ih =>
            intro x2 x4 o2 hev hex ls hl
            rw [f_Tr_liftedBy_L15] at hev
            have J59 : ∀ (x4 : Int32) (s0 : Int32) (s1 : Int32), ∀ (ls : Array Slot), f_Tr_liftedBy_J59 (f_Tr_liftedBy_L15 vT_lifted vT_people fT_so x1 x3 k) k vT_lifted vT_people fT_so x1 x3 x4 s0 s1 = some o2 → lv_has ls 5 [(0, .ref aT), (1, .int x1), (3, .int x3), (4, .int x4)] → W p l e R s m ar below meth c H [] 0 0 Q (F0 m 59 ls [.int s0, .int s1]) := by
              intro x4 s0 s1 ls hev hl
              unfold f_Tr_liftedBy_J59 at hev
              obtain ⟨y4, hq, hev⟩ := x_bd hev
              refine roSN X hKK hR (st1 := [.int y4, .int s1]) (c_SS_oneIf l G s0 y4 hq) K_X10_oneIf hKK.2.1.1 (x_Psub hP [] rfl) (by decide) ⟨Nat.zero_le _, Nat.zero_le _⟩ rfl hl.1 rfl (Nat.le_of_ble_eq_true rfl) rfl dX9_liftedBy_59 ?_
              refine lv_iadd hx hb dX9_liftedBy_62 ?_
              refine lv_topi (fun y5 ey5 => ?_)
              replace hev := x_lt hev y5 ey5
              refine lv_istore_n (lv' := [(2, .int y5), (0, .ref aT), (1, .int x1), (3, .int x3), (4, .int x4)]) hx hb dX9_liftedBy_63 rfl hl (by decide) rfl (fun ls hl => ?_)
              obtain ⟨y6, ey6⟩ : ∃ y : Int32, y = x4 + (1 : Int32) := ⟨_, rfl⟩
              refine lv_iinc (v := y6) (lv' := [(4, .int y6), (2, .int y5), (0, .ref aT), (1, .int x1), (3, .int x3)]) hx hb dX9_liftedBy_64 hl (k := 4) rfl (by rw [ey6]; rfl) (by decide) rfl (fun ls hl => ?_)
              replace hev := x_lt hev y6 ey6
              refine lv_goto (tgt := 15) hx hb dX9_liftedBy_67 (by decide) ?_
              exact ih y5 y6 _ hev hex ls (lv_sub hl [2, 3, 1, 4, 0] rfl)
            have J58 : ∀ (x4 : Int32) (s0 : Int32), ∀ (ls : Array Slot), f_Tr_liftedBy_J58 (f_Tr_liftedBy_L15 vT_lifted vT_people fT_so x1 x3 k) k vT_lifted vT_people fT_so x1 x3 x4 s0 = some o2 → lv_has ls 5 [(0, .ref aT), (1, .int x1), (3, .int x3), (4, .int x4)] → W p l e R s m ar below meth c H [] 0 0 Q (F0 m 58 ls [.int s0]) := by
              intro x4 s0 ls hev hl
              unfold f_Tr_liftedBy_J58 at hev
              refine lv_iconst (v := (0 : Int32)) hx hb dX9_liftedBy_58 (by decide) ?_
              exact J59 x4 (0 : Int32) s0 ls hev (lv_sub hl [0, 1, 2, 3] rfl)
            refine lv_iload hx hb dX9_liftedBy_15 (lv_at hl 4 rfl) ?_
            refine lv_aload_n hx hb dX9_liftedBy_17 rfl (lv_at hl 0 rfl) ?_
            obtain ⟨y7, hq, hev⟩ := x_bd hev
            refine roV X hKK hR (st1 := [.int y7, .int x4]) (c_Tr_candidates l G aT aT_trials aT_so vT_lifted vT_people y7 hq) K_X9_candidates u1015 (x_Psub hP [0] rfl) rfl (q0 := 0) rfl (by decide) ⟨Nat.zero_le _, Nat.zero_le _⟩ rfl hl.1 rfl (Nat.le_of_ble_eq_true rfl) rfl dX9_liftedBy_18 ?_
            refine lv_icmp_ge (tgt := 70) hx hb dX9_liftedBy_21 (by decide) (fun c8 => ?_) (fun c8 => ?_)
            · replace hev := x_t c8 hev
              cases hev
              exact hex ls (lv_sub hl [0, 1, 2, 3] rfl)
            · replace hev := x_f c8 hev
              refine lv_aload_n hx hb dX9_liftedBy_24 rfl (lv_at hl 0 rfl) ?_
              refine lv_iload_n hx hb dX9_liftedBy_25 rfl (lv_at hl 3 rfl) ?_
              refine lv_iload_n hx hb dX9_liftedBy_26 rfl (lv_at hl 1 rfl) ?_
              obtain ⟨y9, hq, hev⟩ := x_bd hev
              refine roV X hKK hR (st1 := [.int y9]) (c_Tr_isSoIn l G aT aT_trials aT_so vT_lifted vT_people x3 x1 y9 hq) K_X9_isSoIn u1021 (x_Psub hP [0] rfl) rfl (q0 := 0) rfl (by decide) ⟨Nat.zero_le _, Nat.zero_le _⟩ rfl hl.1 rfl (Nat.le_of_ble_eq_true rfl) rfl dX9_liftedBy_27 ?_
              refine lv_if_eq (tgt := 70) hx hb dX9_liftedBy_30 (by decide) (fun c10 => ?_) (fun c10 => ?_)
              · replace hev := x_t c10 hev
                cases hev
                exact hex ls (lv_sub hl [0, 1, 2, 3] rfl)
              · replace hev := x_f c10 hev
                refine lv_iload_n hx hb dX9_liftedBy_33 rfl (lv_at hl 2 rfl) ?_
                refine lv_aload_n hx hb dX9_liftedBy_34 rfl (lv_at hl 0 rfl) ?_
                refine lv_iload_n hx hb dX9_liftedBy_35 rfl (lv_at hl 3 rfl) ?_
                refine lv_iload hx hb dX9_liftedBy_36 (lv_at hl 4 rfl) ?_
                obtain ⟨y11, hq, hev⟩ := x_bd hev
                refine roV X hKK hR (st1 := [.int y11, .int x2]) (c_Tr_fits l G aT aT_trials aT_so vT_lifted vT_people fT_so x3 x4 y11 hq) K_X9_fits u1038 (x_Psub hP [0, 1] rfl) rfl (q0 := 0) rfl (by decide) ⟨Nat.zero_le _, Nat.zero_le _⟩ rfl hl.1 rfl (Nat.le_of_ble_eq_true rfl) rfl dX9_liftedBy_38 ?_
                refine lv_if_eq (tgt := 58) hx hb dX9_liftedBy_41 (by decide) (fun c12 => ?_) (fun c12 => ?_)
                · replace hev := x_t c12 hev
                  exact J58 x4 x2 ls hev (lv_sub hl [0, 1, 3, 4] rfl)
                · replace hev := x_f c12 hev
                  refine lv_aload_n hx hb dX9_liftedBy_44 rfl (lv_at hl 0 rfl) ?_
                  refine lv_iload hx hb dX9_liftedBy_45 (lv_at hl 4 rfl) ?_
                  refine lv_iload_n hx hb dX9_liftedBy_47 rfl (lv_at hl 1 rfl) ?_
                  obtain ⟨y13, hq, hev⟩ := x_bd hev
                  refine roV X hKK hR (st1 := [.int y13, .int x2]) (c_Tr_isSoIn l G aT aT_trials aT_so vT_lifted vT_people x4 x1 y13 hq) K_X9_isSoIn u1021 (x_Psub hP [0] rfl) rfl (q0 := 0) rfl (by decide) ⟨Nat.zero_le _, Nat.zero_le _⟩ rfl hl.1 rfl (Nat.le_of_ble_eq_true rfl) rfl dX9_liftedBy_48 ?_
                  refine lv_if_eq (tgt := 58) hx hb dX9_liftedBy_51 (by decide) (fun c14 => ?_) (fun c14 => ?_)
                  · replace hev := x_t c14 hev
                    exact J58 x4 x2 ls hev (lv_sub hl [0, 1, 3, 4] rfl)
                  · replace hev := x_f c14 hev
                    refine lv_iconst (v := (1 : Int32)) hx hb dX9_liftedBy_54 (by decide) ?_
                    refine lv_goto (tgt := 59) hx hb dX9_liftedBy_55 (by decide) ?_
                    exact J59 x4 (1 : Int32) x2 ls hev (lv_sub hl [0, 1, 3, 4] rfl)
        obtain ⟨y15, hq, hev⟩ := x_bd hev
        refine L15 x1 x3 k x2 x3 y15 hq (fun ls hl => ?_) ls (lv_sub hl [1, 2, 3, 4, 0] rfl)
        exact J70 y15 x3 ls hev (lv_sub hl [0, 1, 2, 3] rfl)
  obtain ⟨y16, hq, hev⟩ := x_bd hev
  refine L4 p1 k (0 : Int32) (0 : Int32) y16 hq (fun ls hl => ?_) ls (lv_sub hl [2, 3, 1, 0] rfl)
  refine lv_iload_n hx hb dX9_liftedBy_76 rfl (lv_at hl 0 rfl) ?_
  exact ret _ _ _ dX9_liftedBy_77 ((show narrow _ (.int y16) = .int y16 from rfl).trans (congrArg Value.int (Option.some.inj hev)))
def f_Tr_bestDay_J62 (rec : Int32 → Int32 → Int32 → Option (Int32)) (k : Nat) (vT_lifted : Int32) (vT_people : Int32) (fT_so : Nat → Int32) (x1 : Int32) (x2 : Int32) (x3 : Int32) (x4 : Int32) : Option (Int32) := x_L (x4 + (1 : Int32)) (fun y3 => rec x2 x3 y3)
def f_Tr_bestDay_L14 (vT_lifted : Int32) (vT_people : Int32) (fT_so : Nat → Int32) (x1 : Int32) : Nat → Int32 → Int32 → Int32 → Option (Int32)
  | 0, _, _, _ => none
  | k + 1, x2, x3, x4 => if (7 : Int32) ≤ x4 then (some x2) else if x1 ≤ 0 then (some x2) else x_B (f_Tr_packed (-1 : Int32) (0 : Int32) x4 (0 : Int32)) (fun y6 => x_B (f_Tr_liftedBy k vT_lifted vT_people fT_so y6) (fun y7 => x_L ((if y7 < (x1 - y7) then (x1 - y7) else y7)) (fun y8 => if x3 ≤ y8 then (f_Tr_bestDay_J62 (f_Tr_bestDay_L14 vT_lifted vT_people fT_so x1 k) k vT_lifted vT_people fT_so x1 x2 x3 x4) else f_Tr_bestDay_J62 (f_Tr_bestDay_L14 vT_lifted vT_people fT_so x1 k) k vT_lifted vT_people fT_so x1 x4 y8 x4)))
def f_Tr_bestDay (k : Nat) (vT_lifted : Int32) (vT_people : Int32) (fT_so : Nat → Int32) : Option (Int32) := x_B (f_Tr_howMany k vT_lifted vT_people fT_so) (fun y1 => x_L ((y1 + (1 : Int32))) (fun y2 => x_B (f_Tr_bestDay_L14 vT_lifted vT_people fT_so y1 k (-1 : Int32) y2 (0 : Int32)) (fun y10 => some y10)))
set_option maxHeartbeats 8000000 in
set_option maxRecDepth 100000 in
theorem c_Tr_bestDay (l : Launch) (G : GG) (aT aT_trials aT_so : Nat) (vT_lifted : Int32) (vT_people : Int32) (fT_so : Nat → Int32) (k : Nat) (r0 : Int32) (hev : f_Tr_bestDay k vT_lifted vT_people fT_so = some r0) : RO l G yX9_bestDay cX9_bestDay 7 (some .int) 4 [.ref aT] [(aT, .inr (5, [.ref aT_trials, .int vT_lifted, .ref aT_so, .int vT_people])), (aT_so, .inl (G.2.1, 17, .inl fT_so))] (some (.int r0)) := by
  refine RO_of (by decide) (Nat.le_of_ble_eq_true rfl) ?_
  intro p e s m ar below meth c R Q H ls X hR hP hKK hS0 hl ret
  generalize hrs : r0 = rs at hev ret
  have hl : lv_has ls 7 [(0, .ref aT)] := hl
  obtain ⟨hx, hb, hml, hown, hts, hT⟩ := id X
  have hK := hKK.1
  have hw : ∀ w ∈ T0, w.before ar s = true := fun w h => hts w (hT w h)
  unfold f_Tr_bestDay at hev
  refine lv_aload_n hx hb dX9_bestDay_0 rfl (lv_at hl 0 rfl) ?_
  obtain ⟨y1, hq, hev⟩ := x_bd hev
  refine roV X hKK hR (st1 := [.int y1]) (c_Tr_howMany l G aT aT_trials aT_so vT_lifted vT_people fT_so k y1 hq) K_X9_howMany u1064 (x_Psub hP [0, 1] rfl) rfl (q0 := 0) rfl (by decide) ⟨Nat.zero_le _, Nat.zero_le _⟩ rfl hl.1 rfl (Nat.le_of_ble_eq_true rfl) rfl dX9_bestDay_1 ?_
  refine lv_istore_n (lv' := [(1, .int y1), (0, .ref aT)]) hx hb dX9_bestDay_4 rfl hl (by decide) rfl (fun ls hl => ?_)
  refine lv_iconst (v := (-1 : Int32)) hx hb dX9_bestDay_5 (by decide) ?_
  refine lv_istore_n (lv' := [(2, .int (-1 : Int32)), (1, .int y1), (0, .ref aT)]) hx hb dX9_bestDay_6 rfl hl (by decide) rfl (fun ls hl => ?_)
  refine lv_iload_n hx hb dX9_bestDay_7 rfl (lv_at hl 1 rfl) ?_
  refine lv_iconst (v := (1 : Int32)) hx hb dX9_bestDay_8 (by decide) ?_
  refine lv_iadd hx hb dX9_bestDay_9 ?_
  refine lv_topi (fun y2 ey2 => ?_)
  replace hev := x_lt hev y2 ey2
  refine lv_istore_n (lv' := [(3, .int y2), (2, .int (-1 : Int32)), (1, .int y1), (0, .ref aT)]) hx hb dX9_bestDay_10 rfl hl (by decide) rfl (fun ls hl => ?_)
  refine lv_iconst (v := (0 : Int32)) hx hb dX9_bestDay_11 (by decide) ?_
  refine lv_istore (lv' := [(4, .int (0 : Int32)), (3, .int y2), (2, .int (-1 : Int32)), (1, .int y1), (0, .ref aT)]) hx hb dX9_bestDay_12 hl (by decide) rfl (fun ls hl => ?_)
  have L14 : ∀ (x1 : Int32), ∀ (k : Nat) (x2 : Int32) (x3 : Int32) (x4 : Int32) (o2 : Int32), f_Tr_bestDay_L14 vT_lifted vT_people fT_so x1 k x2 x3 x4 = some o2 → (∀ (ls : Array Slot), lv_has ls 7 [(2, .int o2)] → W p l e R s m ar below meth c H [] 0 0 Q (F0 m 68 ls [])) → ∀ (ls : Array Slot), lv_has ls 7 [(0, .ref aT), (1, .int x1), (2, .int x2), (3, .int x3), (4, .int x4)] → W p l e R s m ar below meth c H [] 0 0 Q (F0 m 14 ls []) := by
    intro x1 k
    induction k with
    | zero => intro x2 x3 x4 o2 hev; rw [f_Tr_bestDay_L14] at hev; cases hev
    | succ k ih =>
      intro x2 x3 x4 o2 hev hex ls hl
      rw [f_Tr_bestDay_L14] at hev
      have J62 : ∀ (x2 : Int32) (x3 : Int32) (x4 : Int32), ∀ (ls : Array Slot), f_Tr_bestDay_J62 (f_Tr_bestDay_L14 vT_lifted vT_people fT_so x1 k) k vT_lifted vT_people fT_so x1 x2 x3 x4 = some o2 → lv_has ls 7 [(0, .ref aT), (1, .int x1), (2, .int x2), (3, .int x3), (4, .int x4)] → W p l e R s m ar below meth c H [] 0 0 Q (F0 m 62 ls []) := by
        intro x2 x3 x4 ls hev hl
        unfold f_Tr_bestDay_J62 at hev
        obtain ⟨y3, ey3⟩ : ∃ y : Int32, y = x4 + (1 : Int32) := ⟨_, rfl⟩
        refine lv_iinc (v := y3) (lv' := [(4, .int y3), (0, .ref aT), (1, .int x1), (2, .int x2), (3, .int x3)]) hx hb dX9_bestDay_62 hl (k := 4) rfl (by rw [ey3]; rfl) (by decide) rfl (fun ls hl => ?_)
        replace hev := x_lt hev y3 ey3
        refine lv_goto (tgt := 14) hx hb dX9_bestDay_65 (by decide) ?_
        exact ih x2 x3 y3 _ hev hex ls (lv_sub hl [1, 2, 3, 4, 0] rfl)
      refine lv_iload hx hb dX9_bestDay_14 (lv_at hl 4 rfl) ?_
      refine lv_bipush (v := (7 : Int32)) hx hb dX9_bestDay_16 (by decide) ?_
      refine lv_icmp_ge (tgt := 68) hx hb dX9_bestDay_18 (by decide) (fun c4 => ?_) (fun c4 => ?_)
      · replace hev := x_t c4 hev
        cases hev
        exact hex ls (lv_sub hl [2] rfl)
      · replace hev := x_f c4 hev
        refine lv_iload_n hx hb dX9_bestDay_21 rfl (lv_at hl 1 rfl) ?_
        refine lv_if_le (tgt := 68) hx hb dX9_bestDay_22 (by decide) (fun c5 => ?_) (fun c5 => ?_)
        · replace hev := x_t c5 hev
          cases hev
          exact hex ls (lv_sub hl [2] rfl)
        · replace hev := x_f c5 hev
          refine lv_aload_n hx hb dX9_bestDay_25 rfl (lv_at hl 0 rfl) ?_
          refine lv_iconst (v := (-1 : Int32)) hx hb dX9_bestDay_26 (by decide) ?_
          refine lv_iconst (v := (0 : Int32)) hx hb dX9_bestDay_27 (by decide) ?_
          refine lv_iload hx hb dX9_bestDay_28 (lv_at hl 4 rfl) ?_
          refine lv_iconst (v := (0 : Int32)) hx hb dX9_bestDay_30 (by decide) ?_
          obtain ⟨y6, hq, hev⟩ := x_bd hev
          refine roS X hKK hR (st1 := [.int y6, .ref aT]) (c_Tr_packed l G (-1 : Int32) (0 : Int32) x4 (0 : Int32) y6 hq) K_X9_packed u1065 (x_Psub hP [] rfl) (by decide) ⟨Nat.zero_le _, Nat.zero_le _⟩ rfl hl.1 rfl (Nat.le_of_ble_eq_true rfl) rfl dX9_bestDay_31 ?_
          obtain ⟨y7, hq, hev⟩ := x_bd hev
          refine roV X hKK hR (st1 := [.int y7]) (c_Tr_liftedBy l G aT aT_trials aT_so vT_lifted vT_people fT_so k y6 y7 hq) K_X9_liftedBy u1066 (x_Psub hP [0, 1] rfl) rfl (q0 := 0) rfl (by decide) ⟨Nat.zero_le _, Nat.zero_le _⟩ rfl hl.1 rfl (Nat.le_of_ble_eq_true rfl) rfl dX9_bestDay_34 ?_
          refine lv_istore (lv' := [(5, .int y7), (0, .ref aT), (1, .int x1), (2, .int x2), (3, .int x3), (4, .int x4)]) hx hb dX9_bestDay_37 hl (by decide) rfl (fun ls hl => ?_)
          refine lv_iload hx hb dX9_bestDay_39 (lv_at hl 0 rfl) ?_
          refine lv_iload_n hx hb dX9_bestDay_41 rfl (lv_at hl 2 rfl) ?_
          refine lv_iload hx hb dX9_bestDay_42 (lv_at hl 0 rfl) ?_
          refine lv_isub hx hb dX9_bestDay_44 ?_
          refine va_mmax hx hb (hml.trans hl.1.symm) hown (hw _ u1070) (hw _ u115) (hw _ u83) (hw _ u116) (Nat.le_trans (by decide) hR.1) (Nat.le_trans (Nat.le_of_ble_eq_true rfl) hR.2) (Nat.zero_le _) (Nat.zero_le _) dX9_bestDay_45 ?_
          refine lv_topi (fun y8 ey8 => ?_)
          replace hev := x_lt hev y8 ey8
          refine lv_istore (lv' := [(6, .int y8), (5, .int y7), (0, .ref aT), (1, .int x1), (2, .int x2), (3, .int x3), (4, .int x4)]) hx hb dX9_bestDay_48 hl (by decide) rfl (fun ls hl => ?_)
          refine lv_iload hx hb dX9_bestDay_50 (lv_at hl 0 rfl) ?_
          refine lv_iload_n hx hb dX9_bestDay_52 rfl (lv_at hl 5 rfl) ?_
          refine lv_icmp_ge (tgt := 62) hx hb dX9_bestDay_53 (by decide) (fun c9 => ?_) (fun c9 => ?_)
          · replace hev := x_t c9 hev
            exact J62 x2 x3 x4 ls hev (lv_sub hl [2, 3, 4, 5, 6] rfl)
          · replace hev := x_f c9 hev
            refine lv_iload hx hb dX9_bestDay_56 (lv_at hl 0 rfl) ?_
            refine lv_istore_n (lv' := [(3, .int y8), (6, .int y8), (5, .int y7), (0, .ref aT), (1, .int x1), (2, .int x2), (4, .int x4)]) hx hb dX9_bestDay_58 rfl hl (by decide) rfl (fun ls hl => ?_)
            refine lv_iload hx hb dX9_bestDay_59 (lv_at hl 6 rfl) ?_
            refine lv_istore_n (lv' := [(2, .int x4), (3, .int y8), (6, .int y8), (5, .int y7), (0, .ref aT), (1, .int x1), (4, .int x4)]) hx hb dX9_bestDay_61 rfl hl (by decide) rfl (fun ls hl => ?_)
            exact J62 x4 y8 x4 ls hev (lv_sub hl [4, 5, 0, 1, 6] rfl)
  obtain ⟨y10, hq, hev⟩ := x_bd hev
  refine L14 y1 k (-1 : Int32) y2 (0 : Int32) y10 hq (fun ls hl => ?_) ls (lv_sub hl [4, 3, 2, 1, 0] rfl)
  refine lv_iload_n hx hb dX9_bestDay_68 rfl (lv_at hl 0 rfl) ?_
  exact ret _ _ _ dX9_bestDay_69 ((show narrow _ (.int y10) = .int y10 from rfl).trans (congrArg Value.int (Option.some.inj hev)))
