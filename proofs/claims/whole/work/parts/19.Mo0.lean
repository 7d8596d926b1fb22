def f_Mo_in (p0 : Int64) (p2 : Int64) (p4 : Int64) : Option (Int32) := if (lg_cmp p0 p2) < 0 then (some (0 : Int32)) else if 0 < (lg_cmp p0 p4) then (some (0 : Int32)) else some (1 : Int32)
set_option maxHeartbeats 8000000 in
set_option maxRecDepth 100000 in
theorem c_Mo_in (l : Launch) (G : GG) (p0 : Int64) (p2 : Int64) (p4 : Int64) (r0 : Int32) (hev : f_Mo_in p0 p2 p4 = some r0) : RO l G yX11_in cX11_in 6 (some .boolean) 0 [.long p0, .long p2, .long p4] [] (some (.int r0)) := by
  refine RO_of (by decide) (Nat.le_of_ble_eq_true rfl) ?_
  intro p e s m ar below meth c R Q H ls X hR hP hKK hS0 hl ret
  generalize hrs : r0 = rs at hev ret
  have hl : lv_has ls 6 [(0, .long p0), (2, .long p2), (4, .long p4)] := hl
  obtain ⟨hx, hb, hml, hown, hts, hT⟩ := id X
  have hK := hKK.1
  have hw : ∀ w ∈ T0, w.before ar s = true := fun w h => hts w (hT w h)
  unfold f_Mo_in at hev
  refine lv_lload_n hx hb dX11_in_0 rfl (lv_at hl 0 rfl) ?_
  refine lv_lload_n hx hb dX11_in_1 rfl (lv_at hl 1 rfl) ?_
  refine W.lcmp hx hb dX11_in_2 ?_
  refine lv_if_lt (tgt := 17) hx hb dX11_in_3 (by decide) (fun c1 => ?_) (fun c1 => ?_)
  · replace hev := x_t c1 hev
    refine lv_iconst (v := (0 : Int32)) hx hb dX11_in_17 (by decide) ?_
    exact ret _ _ _ dX11_in_18 ((show narrow _ (.int (0 : Int32)) = .int (0 : Int32) from nb0).trans (congrArg Value.int (Option.some.inj hev)))
  · replace hev := x_f c1 hev
    refine lv_lload_n hx hb dX11_in_6 rfl (lv_at hl 0 rfl) ?_
    refine lv_lload hx hb dX11_in_7 (lv_at hl 2 rfl) ?_
    refine W.lcmp hx hb dX11_in_9 ?_
    refine lv_if_gt (tgt := 17) hx hb dX11_in_10 (by decide) (fun c2 => ?_) (fun c2 => ?_)
    · replace hev := x_t c2 hev
      refine lv_iconst (v := (0 : Int32)) hx hb dX11_in_17 (by decide) ?_
      exact ret _ _ _ dX11_in_18 ((show narrow _ (.int (0 : Int32)) = .int (0 : Int32) from nb0).trans (congrArg Value.int (Option.some.inj hev)))
    · replace hev := x_f c2 hev
      refine lv_iconst (v := (1 : Int32)) hx hb dX11_in_13 (by decide) ?_
      refine lv_goto (tgt := 18) hx hb dX11_in_14 (by decide) ?_
      exact ret _ _ _ dX11_in_18 ((show narrow _ (.int (1 : Int32)) = .int (1 : Int32) from nb1).trans (congrArg Value.int (Option.some.inj hev)))
def f_Mo_has (p0 : Int32) (p1 : Int32) : Option (Int32) := if ((p0 >>> (p1 &&& 31)) &&& (1 : Int32)) = (1 : Int32) then (some (1 : Int32)) else some (0 : Int32)
set_option maxHeartbeats 8000000 in
set_option maxRecDepth 100000 in
theorem c_Mo_has (l : Launch) (G : GG) (p0 : Int32) (p1 : Int32) (r0 : Int32) (hev : f_Mo_has p0 p1 = some r0) : RO l G yX11_has cX11_has 2 (some .boolean) 0 [.int p0, .int p1] [] (some (.int r0)) := by
  refine RO_of (by decide) (Nat.le_of_ble_eq_true rfl) ?_
  intro p e s m ar below meth c R Q H ls X hR hP hKK hS0 hl ret
  generalize hrs : r0 = rs at hev ret
  have hl : lv_has ls 2 [(0, .int p0), (1, .int p1)] := hl
  obtain ⟨hx, hb, hml, hown, hts, hT⟩ := id X
  have hK := hKK.1
  have hw : ∀ w ∈ T0, w.before ar s = true := fun w h => hts w (hT w h)
  unfold f_Mo_has at hev
  refine lv_iload_n hx hb dX11_has_0 rfl (lv_at hl 0 rfl) ?_
  refine lv_iload_n hx hb dX11_has_1 rfl (lv_at hl 1 rfl) ?_
  refine lv_ishr hx hb dX11_has_2 ?_
  refine lv_iconst (v := (1 : Int32)) hx hb dX11_has_3 (by decide) ?_
  refine lv_iand hx hb dX11_has_4 ?_
  refine lv_iconst (v := (1 : Int32)) hx hb dX11_has_5 (by decide) ?_
  refine lv_icmp_ne (tgt := 13) hx hb dX11_has_6 (by decide) (fun c1 => ?_) (fun c1 => ?_)
  · replace hev := x_f c1 hev
    refine lv_iconst (v := (0 : Int32)) hx hb dX11_has_13 (by decide) ?_
    exact ret _ _ _ dX11_has_14 ((show narrow _ (.int (0 : Int32)) = .int (0 : Int32) from nb0).trans (congrArg Value.int (Option.some.inj hev)))
  · replace hev := x_t c1 hev
    refine lv_iconst (v := (1 : Int32)) hx hb dX11_has_9 (by decide) ?_
    refine lv_goto (tgt := 14) hx hb dX11_has_10 (by decide) ?_
    exact ret _ _ _ dX11_has_14 ((show narrow _ (.int (1 : Int32)) = .int (1 : Int32) from nb1).trans (congrArg Value.int (Option.some.inj hev)))
def f_Mo_bits_L4 (x0 : Int32) : Nat → Int32 → Int32 → Option (Int32)
  | 0, _, _ => none
  | k + 1, x1, x2 => if (5 : Int32) ≤ x2 then (some x1) else x_L ((x1 + ((x0 >>> (x2 &&& 31)) &&& (1 : Int32)))) (fun y2 => x_L (x2 + (1 : Int32)) (fun y3 => (f_Mo_bits_L4 x0 k) y2 y3))
def f_Mo_bits (k : Nat) (p0 : Int32) : Option (Int32) := x_B (f_Mo_bits_L4 p0 k (0 : Int32) (0 : Int32)) (fun y4 => some y4)
set_option maxHeartbeats 8000000 in
set_option maxRecDepth 100000 in
theorem c_Mo_bits (l : Launch) (G : GG) (k : Nat) (p0 : Int32) (r0 : Int32) (hev : f_Mo_bits k p0 = some r0) : RO l G yX11_bits cX11_bits 3 (some .int) 0 [.int p0] [] (some (.int r0)) := by
  refine RO_of (by decide) (Nat.le_of_ble_eq_true rfl) ?_
  intro p e s m ar below meth c R Q H ls X hR hP hKK hS0 hl ret
  generalize hrs : r0 = rs at hev ret
  have hl : lv_has ls 3 [(0, .int p0)] := hl
  obtain ⟨hx, hb, hml, hown, hts, hT⟩ := id X
  have hK := hKK.1
  have hw : ∀ w ∈ T0, w.before ar s = true := fun w h => hts w (hT w h)
  unfold f_Mo_bits at hev
  refine lv_iconst (v := (0 : Int32)) hx hb dX11_bits_0 (by decide) ?_
  refine lv_istore_n (lv' := [(1, .int (0 : Int32)), (0, .int p0)]) hx hb dX11_bits_1 rfl hl (by decide) rfl (fun ls hl => ?_)
  refine lv_iconst (v := (0 : Int32)) hx hb dX11_bits_2 (by decide) ?_
  refine lv_istore_n (lv' := [(2, .int (0 : Int32)), (1, .int (0 : Int32)), (0, .int p0)]) hx hb dX11_bits_3 rfl hl (by decide) rfl (fun ls hl => ?_)
  have L4 : ∀ (x0 : Int32), ∀ (k : Nat) (x1 : Int32) (x2 : Int32) (o1 : Int32), f_Mo_bits_L4 x0 k x1 x2 = some o1 → (∀ (ls : Array Slot), lv_has ls 3 [(1, .int o1)] → W p l e R s m ar below meth c H [] 0 0 Q (F0 m 23 ls [])) → ∀ (ls : Array Slot), lv_has ls 3 [(0, .int x0), (1, .int x1), (2, .int x2)] → W p l e R s m ar below meth c H [] 0 0 Q (F0 m 4 ls []) := by
    intro x0 k
    induction k with
    | zero => intro x1 x2 o1 hev; rw [f_Mo_bits_L4] at hev; cases hev
    | succ k ih =>
      intro x1 x2 o1 hev hex ls hl
      rw [f_Mo_bits_L4] at hev
      refine lv_iload_n hx hb dX11_bits_4 rfl (lv_at hl 2 rfl) ?_
      refine lv_iconst (v := (5 : Int32)) hx hb dX11_bits_5 (by decide) ?_
      refine lv_icmp_ge (tgt := 23) hx hb dX11_bits_6 (by decide) (fun c1 => ?_) (fun c1 => ?_)
      · replace hev := x_t c1 hev
        cases hev
        exact hex ls (lv_sub hl [1] rfl)
      · replace hev := x_f c1 hev
        refine lv_iload_n hx hb dX11_bits_9 rfl (lv_at hl 1 rfl) ?_
        refine lv_iload_n hx hb dX11_bits_10 rfl (lv_at hl 0 rfl) ?_
        refine lv_iload_n hx hb dX11_bits_11 rfl (lv_at hl 2 rfl) ?_
        refine lv_ishr hx hb dX11_bits_12 ?_
        refine lv_iconst (v := (1 : Int32)) hx hb dX11_bits_13 (by decide) ?_
        refine lv_iand hx hb dX11_bits_14 ?_
        refine lv_iadd hx hb dX11_bits_15 ?_
        refine lv_topi (fun y2 ey2 => ?_)
        replace hev := x_lt hev y2 ey2
        refine lv_istore_n (lv' := [(1, .int y2), (0, .int x0), (2, .int x2)]) hx hb dX11_bits_16 rfl hl (by decide) rfl (fun ls hl => ?_)
        obtain ⟨y3, ey3⟩ : ∃ y : Int32, y = x2 + (1 : Int32) := ⟨_, rfl⟩
        refine lv_iinc (v := y3) (lv' := [(2, .int y3), (1, .int y2), (0, .int x0)]) hx hb dX11_bits_17 hl (k := 2) rfl (by rw [ey3]; rfl) (by decide) rfl (fun ls hl => ?_)
        replace hev := x_lt hev y3 ey3
        refine lv_goto (tgt := 4) hx hb dX11_bits_20 (by decide) ?_
        exact ih y2 y3 _ hev hex ls (lv_sub hl [2, 1, 0] rfl)
  obtain ⟨y4, hq, hev⟩ := x_bd hev
  refine L4 p0 k (0 : Int32) (0 : Int32) y4 hq (fun ls hl => ?_) ls (lv_sub hl [2, 1, 0] rfl)
  refine lv_iload_n hx hb dX11_bits_23 rfl (lv_at hl 0 rfl) ?_
  exact ret _ _ _ dX11_bits_24 ((show narrow _ (.int y4) = .int y4 from rfl).trans (congrArg Value.int (Option.some.inj hev)))
def f_Mo_write (vT_length : Int32) (fT_text : Nat → Int32) (p1 : Int32) : Option (Int32 × Int32 × (Nat → Int32)) := x_B (f_Mo_in ((p1).toInt64) (0 : Int64) (255 : Int64)) (fun y1 => if y1 = 0 then (some ((-3 : Int32), vT_length, fT_text)) else if vT_length = (240 : Int32) then (some ((-5 : Int32), vT_length, fT_text)) else x_C 240 vT_length (x_L ((vT_length + (1 : Int32))) (fun y5 => some (y5, y5, (upd fT_text (vT_length).toNatClampNeg p1)))))
set_option maxHeartbeats 8000000 in
set_option maxRecDepth 100000 in
theorem c_Mo_write (l : Launch) (G : GG) (aT aT_text aT_read aT_spells aT_pasts aT_keptStates aT_keptDeeds aT_isKept aT_fars aT_queue aT_later aT_onWay aT_row aT_princes aT_tries : Nat) (vT_length : Int32) (vT_readMany : Int32) (vT_people : Int32) (vT_toldDay : Int32) (vT_toldBroken : Int32) (vT_many : Int32) (vT_now : Int32) (vT_deeds : Int32) (vT_pastMany : Int32) (vT_at : Int32) (vT_place : Int32) (vT_end : Int32) (vT_readPeople : Int32) (vT_readSpells : Int32) (vT_lifted : Int32) (vT_queued : Int32) (vT_laterMany : Int32) (vT_rowMany : Int32) (vT_princeMany : Int32) (vT_triedMany : Int32) (fT_text : Nat → Int32) (p1 : Int32) (r0 : Int32) (wvT_length : Int32) (wfT_text : Nat → Int32) (hev : f_Mo_write vT_length fT_text p1 = some (r0, wvT_length, wfT_text)) : RW l G yX11_write cX11_write 2 (some .int) 1 [.ref aT, .int p1] [(aT, .inr (7, [.ref aT_text, .int vT_length, .ref aT_read, .int vT_readMany, .int vT_people, .int vT_toldDay, .int vT_toldBroken, .ref aT_spells, .int vT_many, .int vT_now, .int vT_deeds, .ref aT_pasts, .int vT_pastMany, .ref aT_keptStates, .ref aT_keptDeeds, .ref aT_isKept, .int vT_at, .int vT_place, .int vT_end, .int vT_readPeople, .int vT_readSpells, .int vT_lifted, .ref aT_fars, .ref aT_queue, .int vT_queued, .ref aT_later, .int vT_laterMany, .ref aT_onWay, .ref aT_row, .int vT_rowMany, .ref aT_princes, .int vT_princeMany, .ref aT_tries, .int vT_triedMany])), (aT_text, .inl (G.2.1, 240, .inl fT_text))] (some (.int r0)) [(aT, .inr (7, [.ref aT_text, .int wvT_length, .ref aT_read, .int vT_readMany, .int vT_people, .int vT_toldDay, .int vT_toldBroken, .ref aT_spells, .int vT_many, .int vT_now, .int vT_deeds, .ref aT_pasts, .int vT_pastMany, .ref aT_keptStates, .ref aT_keptDeeds, .ref aT_isKept, .int vT_at, .int vT_place, .int vT_end, .int vT_readPeople, .int vT_readSpells, .int vT_lifted, .ref aT_fars, .ref aT_queue, .int vT_queued, .ref aT_later, .int vT_laterMany, .ref aT_onWay, .ref aT_row, .int vT_rowMany, .ref aT_princes, .int vT_princeMany, .ref aT_tries, .int vT_triedMany])), (aT_text, .inl (G.2.1, 240, .inl wfT_text))] 0 0 := by
  refine RW_of (by decide) (Nat.le_of_ble_eq_true rfl) ?_
  intro p e s m ar below meth c R Q A ls X hR hRc hin hP hKK hD hS hA hAb hl ret
  obtain ⟨rs, hrs⟩ : ∃ q, q = (r0, wvT_length, wfT_text) := ⟨_, rfl⟩
  rw [← hrs] at hev
  have ret2 : ∀ (pc : Nat) (ls : Array Slot) (H : Heap) (lo : List Loc) (v r1 : Int32) (zvT_length : Int32) (zfT_text : Nat → Int32), (r1, zvT_length, zfT_text) = rs → decode cX11_write pc = .ok (.ireturn, 1) → narrow .int (.int v) = .int r1 → va_P G.1 classes [(aT, .inr (7, [.ref aT_text, .int zvT_length, .ref aT_read, .int vT_readMany, .int vT_people, .int vT_toldDay, .int vT_toldBroken, .ref aT_spells, .int vT_many, .int vT_now, .int vT_deeds, .ref aT_pasts, .int vT_pastMany, .ref aT_keptStates, .ref aT_keptDeeds, .ref aT_isKept, .int vT_at, .int vT_place, .int vT_end, .int vT_readPeople, .int vT_readSpells, .int vT_lifted, .ref aT_fars, .ref aT_queue, .int vT_queued, .ref aT_later, .int vT_laterMany, .ref aT_onWay, .ref aT_row, .int vT_rowMany, .ref aT_princes, .int vT_princeMany, .ref aT_tries, .int vT_triedMany])), (aT_text, .inl (G.2.1, 240, .inl zfT_text))] H → va_D A [(aT, .inr (7, [.ref aT_text, .int zvT_length, .ref aT_read, .int vT_readMany, .int vT_people, .int vT_toldDay, .int vT_toldBroken, .ref aT_spells, .int vT_many, .int vT_now, .int vT_deeds, .ref aT_pasts, .int vT_pastMany, .ref aT_keptStates, .ref aT_keptDeeds, .ref aT_isKept, .int vT_at, .int vT_place, .int vT_end, .int vT_readPeople, .int vT_readSpells, .int vT_lifted, .ref aT_fars, .ref aT_queue, .int vT_queued, .ref aT_later, .int vT_laterMany, .ref aT_onWay, .ref aT_row, .int vT_rowMany, .ref aT_princes, .int vT_princeMany, .ref aT_tries, .int vT_triedMany])), (aT_text, .inl (G.2.1, 240, .inl zfT_text))] → va_S A s.heap H lo → W p l e R s m ar below meth c H lo 0 0 Q (F0 m pc ls [.int v]) := by
    intro pc ls H lo v r1 zvT_length zfT_text he hd hn h1 h2 h3
    have he := he.trans hrs
    cases he
    exact ret.1 _ _ _ _ _ _ _ rfl rfl hd hn h1 h2 h3
  clear ret hrs
  have hl : lv_has ls 2 [(0, .ref aT), (1, .int p1)] := hl
  obtain ⟨hx, hb, hml, hown, hts, hT⟩ := id X
  have hK := hKK.1
  have hw : ∀ w ∈ T0, w.before ar s = true := fun w h => hts w (hT w h)
  have i11 := fun w h => hT w (inT11 w h)
  unfold f_Mo_write at hev
  refine lv_iload_n hx hb dX11_write_0 rfl (lv_at hl 1 rfl) ?_
  refine lv_i2l hx hb dX11_write_1 rfl ?_
  refine lv_lconst (v := (0 : Int64)) hx hb dX11_write_2 (by decide) ?_
  refine lv_ldc2 (v := (255 : Int64)) hx hb hown (hw _ u1195) dX11_write_3 ?_
  obtain ⟨y1, hq, hev⟩ := x_bd hev
  refine roS X (KK_at hKK hS hAb) hR (st1 := [.int y1]) (c_Mo_in l G ((p1).toInt64) (0 : Int64) (255 : Int64) y1 hq) K_X11_in u1196 (x_Psub hP [] rfl) (by decide) ⟨Nat.zero_le _, Nat.zero_le _⟩ rfl hl.1 rfl (Nat.le_of_ble_eq_true rfl) rfl dX11_write_6 ?_
  refine lv_if_ne (tgt := 15) hx hb dX11_write_9 (by decide) (fun c2 => ?_) (fun c2 => ?_)
  · replace hev := x_f c2 hev
    refine lv_aload_n hx hb dX11_write_15 rfl (lv_at hl 0 rfl) ?_
    refine va_get (D := G.1) (ci := 7) (v := .int vT_length) (C := RX11) (T := TX11) (N := 34) hx hb hts i11 hown hK hP 0 rfl rfl 1 (by decide) (hw _ u1088) (fun _ h9 => h9) rfl dX11_write_16 ?_
    refine lv_sipush (v := (240 : Int32)) hx hb dX11_write_19 (by decide) ?_
    refine lv_icmp_ne (tgt := 28) hx hb dX11_write_22 (by decide) (fun c3 => ?_) (fun c3 => ?_)
    · replace hev := x_f c3 hev
      refine lv_aload_n hx hb dX11_write_28 rfl (lv_at hl 0 rfl) ?_
      refine va_get (D := G.1) (ci := 7) (v := .ref aT_text) (C := RX11) (T := TX11) (N := 34) hx hb hts i11 hown hK hP 0 rfl rfl 0 (by decide) (hw _ u1087) (fun _ h9 => h9) rfl dX11_write_29 ?_
      refine lv_aload_n hx hb dX11_write_32 rfl (lv_at hl 0 rfl) ?_
      refine va_get (D := G.1) (ci := 7) (v := .int vT_length) (C := RX11) (T := TX11) (N := 34) hx hb hts i11 hown hK hP 0 rfl rfl 1 (by decide) (hw _ u1088) (fun _ h9 => h9) rfl dX11_write_33 ?_
      refine lv_iload_n hx hb dX11_write_36 rfl (lv_at hl 1 rfl) ?_
      obtain ⟨h4, hev⟩ := x_ck hev
      refine va_iast hx hb hK hP hD hS 1 0 rfl rfl h4 dX11_write_37 (fun H lo hP hD hS => ?_)
      refine lv_aload_n hx hb dX11_write_38 rfl (lv_at hl 0 rfl) ?_
      refine lv_dup hx hb dX11_write_39 rfl ?_
      refine va_get (D := G.1) (ci := 7) (v := .int vT_length) (C := RX11) (T := TX11) (N := 34) hx hb hts i11 hown hK hP 0 rfl rfl 1 (by decide) (hw _ u1088) (fun _ h9 => h9) rfl dX11_write_40 ?_
      refine lv_iconst (v := (1 : Int32)) hx hb dX11_write_43 (by decide) ?_
      refine lv_iadd hx hb dX11_write_44 ?_
      refine lv_topi (fun y5 ey5 => ?_)
      replace hev := x_lt hev y5 ey5
      refine va_put (D := G.1) (ci := 7) (v := .int y5) (ty := .int) (C := RX11) (T := TX11) (N := 34) hx hb hts i11 tyX11 tyX11_ok nmX11 hown hK hP hD hS 0 rfl rfl 1 (by decide) (hw _ u1088) (fun _ h9 => h9) rfl (by decide +kernel) rfl rfl (Nat.le_of_ble_eq_true rfl) dX11_write_45 (fun H lo hP hD hS => ?_)
      refine lv_aload_n hx hb dX11_write_48 rfl (lv_at hl 0 rfl) ?_
      refine va_get (D := G.1) (ci := 7) (v := .int y5) (C := RX11) (T := TX11) (N := 34) hx hb hts i11 hown hK hP 0 rfl rfl 1 (by decide) (hw _ u1088) (fun _ h9 => h9) rfl dX11_write_49 ?_
      exact ret2 _ _ _ _ y5 y5 y5 (upd fT_text (vT_length).toNatClampNeg p1) (Option.some.inj hev) dX11_write_52 (show narrow _ (.int y5) = .int y5 from rfl) hP hD hS
    · replace hev := x_t c3 hev
      refine lv_bipush (v := (-5 : Int32)) hx hb dX11_write_25 (by decide) ?_
      exact ret2 _ _ _ _ (-5 : Int32) (-5 : Int32) vT_length fT_text (Option.some.inj hev) dX11_write_27 (show narrow _ (.int (-5 : Int32)) = .int (-5 : Int32) from rfl) hP hD hS
  · replace hev := x_t c2 hev
    refine lv_bipush (v := (-3 : Int32)) hx hb dX11_write_12 (by decide) ?_
    exact ret2 _ _ _ _ (-3 : Int32) (-3 : Int32) vT_length fT_text (Option.some.inj hev) dX11_write_14 (show narrow _ (.int (-3 : Int32)) = .int (-3 : Int32) from rfl) hP hD hS
def f_Mo_erase (vT_length : Int32) : Option (Int32 × Int32) := some (vT_length, (0 : Int32))
set_option maxHeartbeats 8000000 in
set_option maxRecDepth 100000 in
theorem c_Mo_erase (l : Launch) (G : GG) (aT aT_text aT_read aT_spells aT_pasts aT_keptStates aT_keptDeeds aT_isKept aT_fars aT_queue aT_later aT_onWay aT_row aT_princes aT_tries : Nat) (vT_length : Int32) (vT_readMany : Int32) (vT_people : Int32) (vT_toldDay : Int32) (vT_toldBroken : Int32) (vT_many : Int32) (vT_now : Int32) (vT_deeds : Int32) (vT_pastMany : Int32) (vT_at : Int32) (vT_place : Int32) (vT_end : Int32) (vT_readPeople : Int32) (vT_readSpells : Int32) (vT_lifted : Int32) (vT_queued : Int32) (vT_laterMany : Int32) (vT_rowMany : Int32) (vT_princeMany : Int32) (vT_triedMany : Int32) (r0 : Int32) (wvT_length : Int32) (hev : f_Mo_erase vT_length = some (r0, wvT_length)) : RW l G yX11_erase cX11_erase 2 (some .int) 0 [.ref aT] [(aT, .inr (7, [.ref aT_text, .int vT_length, .ref aT_read, .int vT_readMany, .int vT_people, .int vT_toldDay, .int vT_toldBroken, .ref aT_spells, .int vT_many, .int vT_now, .int vT_deeds, .ref aT_pasts, .int vT_pastMany, .ref aT_keptStates, .ref aT_keptDeeds, .ref aT_isKept, .int vT_at, .int vT_place, .int vT_end, .int vT_readPeople, .int vT_readSpells, .int vT_lifted, .ref aT_fars, .ref aT_queue, .int vT_queued, .ref aT_later, .int vT_laterMany, .ref aT_onWay, .ref aT_row, .int vT_rowMany, .ref aT_princes, .int vT_princeMany, .ref aT_tries, .int vT_triedMany]))] (some (.int r0)) [(aT, .inr (7, [.ref aT_text, .int wvT_length, .ref aT_read, .int vT_readMany, .int vT_people, .int vT_toldDay, .int vT_toldBroken, .ref aT_spells, .int vT_many, .int vT_now, .int vT_deeds, .ref aT_pasts, .int vT_pastMany, .ref aT_keptStates, .ref aT_keptDeeds, .ref aT_isKept, .int vT_at, .int vT_place, .int vT_end, .int vT_readPeople, .int vT_readSpells, .int vT_lifted, .ref aT_fars, .ref aT_queue, .int vT_queued, .ref aT_later, .int vT_laterMany, .ref aT_onWay, .ref aT_row, .int vT_rowMany, .ref aT_princes, .int vT_princeMany, .ref aT_tries, .int vT_triedMany]))] 0 0 := by
  refine RW_of (by decide) (Nat.le_of_ble_eq_true rfl) ?_
  intro p e s m ar below meth c R Q A ls X hR hRc hin hP hKK hD hS hA hAb hl ret
  obtain ⟨rs, hrs⟩ : ∃ q, q = (r0, wvT_length) := ⟨_, rfl⟩
  rw [← hrs] at hev
  have ret2 : ∀ (pc : Nat) (ls : Array Slot) (H : Heap) (lo : List Loc) (v r1 : Int32) (zvT_length : Int32), (r1, zvT_length) = rs → decode cX11_erase pc = .ok (.ireturn, 1) → narrow .int (.int v) = .int r1 → va_P G.1 classes [(aT, .inr (7, [.ref aT_text, .int zvT_length, .ref aT_read, .int vT_readMany, .int vT_people, .int vT_toldDay, .int vT_toldBroken, .ref aT_spells, .int vT_many, .int vT_now, .int vT_deeds, .ref aT_pasts, .int vT_pastMany, .ref aT_keptStates, .ref aT_keptDeeds, .ref aT_isKept, .int vT_at, .int vT_place, .int vT_end, .int vT_readPeople, .int vT_readSpells, .int vT_lifted, .ref aT_fars, .ref aT_queue, .int vT_queued, .ref aT_later, .int vT_laterMany, .ref aT_onWay, .ref aT_row, .int vT_rowMany, .ref aT_princes, .int vT_princeMany, .ref aT_tries, .int vT_triedMany]))] H → va_D A [(aT, .inr (7, [.ref aT_text, .int zvT_length, .ref aT_read, .int vT_readMany, .int vT_people, .int vT_toldDay, .int vT_toldBroken, .ref aT_spells, .int vT_many, .int vT_now, .int vT_deeds, .ref aT_pasts, .int vT_pastMany, .ref aT_keptStates, .ref aT_keptDeeds, .ref aT_isKept, .int vT_at, .int vT_place, .int vT_end, .int vT_readPeople, .int vT_readSpells, .int vT_lifted, .ref aT_fars, .ref aT_queue, .int vT_queued, .ref aT_later, .int vT_laterMany, .ref aT_onWay, .ref aT_row, .int vT_rowMany, .ref aT_princes, .int vT_princeMany, .ref aT_tries, .int vT_triedMany]))] → va_S A s.heap H lo → W p l e R s m ar below meth c H lo 0 0 Q (F0 m pc ls [.int v]) := by
    intro pc ls H lo v r1 zvT_length he hd hn h1 h2 h3
    have he := he.trans hrs
    cases he
    exact ret.1 _ _ _ _ _ _ _ rfl rfl hd hn h1 h2 h3
  clear ret hrs
  have hl : lv_has ls 2 [(0, .ref aT)] := hl
  obtain ⟨hx, hb, hml, hown, hts, hT⟩ := id X
  have hK := hKK.1
  have hw : ∀ w ∈ T0, w.before ar s = true := fun w h => hts w (hT w h)
  have i11 := fun w h => hT w (inT11 w h)
  unfold f_Mo_erase at hev
  refine lv_aload_n hx hb dX11_erase_0 rfl (lv_at hl 0 rfl) ?_
  refine va_get (D := G.1) (ci := 7) (v := .int vT_length) (C := RX11) (T := TX11) (N := 34) hx hb hts i11 hown hK hP 0 rfl rfl 1 (by decide) (hw _ u1088) (fun _ h9 => h9) rfl dX11_erase_1 ?_
  refine lv_istore_n (lv' := [(1, .int vT_length), (0, .ref aT)]) hx hb dX11_erase_4 rfl hl (by decide) rfl (fun ls hl => ?_)
  refine lv_aload_n hx hb dX11_erase_5 rfl (lv_at hl 1 rfl) ?_
  refine lv_iconst (v := (0 : Int32)) hx hb dX11_erase_6 (by decide) ?_
  refine va_put (D := G.1) (ci := 7) (v := .int (0 : Int32)) (ty := .int) (C := RX11) (T := TX11) (N := 34) hx hb hts i11 tyX11 tyX11_ok nmX11 hown hK hP hD hS 0 rfl rfl 1 (by decide) (hw _ u1088) (fun _ h9 => h9) rfl (by decide +kernel) rfl rfl (Nat.le_of_ble_eq_true rfl) dX11_erase_7 (fun H lo hP hD hS => ?_)
  refine lv_iload_n hx hb dX11_erase_10 rfl (lv_at hl 0 rfl) ?_
  exact ret2 _ _ _ _ vT_length vT_length (0 : Int32) (Option.some.inj hev) dX11_erase_11 (show narrow _ (.int vT_length) = .int vT_length from rfl) hP hD hS
def f_Mo_sort_J16 (x0 : Int32) : Option (Int32) := if x0 < (48 : Int32) then (some (0 : Int32)) else if (57 : Int32) < x0 then (some (0 : Int32)) else some (2 : Int32)
def f_Mo_sort (p0 : Int32) : Option (Int32) := if p0 < (97 : Int32) then (f_Mo_sort_J16 p0) else if (122 : Int32) < p0 then (f_Mo_sort_J16 p0) else some (1 : Int32)
set_option maxHeartbeats 8000000 in
set_option maxRecDepth 100000 in
theorem c_Mo_sort (l : Launch) (G : GG) (p0 : Int32) (r0 : Int32) (hev : f_Mo_sort p0 = some r0) : RO l G yX11_sort cX11_sort 1 (some .int) 0 [.int p0] [] (some (.int r0)) := by
  refine RO_of (by decide) (Nat.le_of_ble_eq_true rfl) ?_
  intro p e s m ar below meth c R Q H ls X hR hP hKK hS0 hl ret
  generalize hrs : r0 = rs at hev ret
  have hl : lv_has ls 1 [(0, .int p0)] := hl
  obtain ⟨hx, hb, hml, hown, hts, hT⟩ := id X
  have hK := hKK.1
  have hw : ∀ w ∈ T0, w.before ar s = true := fun w h => hts w (hT w h)
  have J16 : ∀ (x0 : Int32), ∀ (ls : Array Slot), f_Mo_sort_J16 x0 = some rs → lv_has ls 1 [(0, .int x0)] → W p l e R s m ar below meth c H [] 0 0 Q (F0 m 16 ls []) := by
    intro x0 ls hev hl
    unfold f_Mo_sort_J16 at hev
    refine lv_iload_n hx hb dX11_sort_16 rfl (lv_at hl 0 rfl) ?_
    refine lv_bipush (v := (48 : Int32)) hx hb dX11_sort_17 (by decide) ?_
    refine lv_icmp_lt (tgt := 32) hx hb dX11_sort_19 (by decide) (fun c1 => ?_) (fun c1 => ?_)
    · replace hev := x_t c1 hev
      refine lv_iconst (v := (0 : Int32)) hx hb dX11_sort_32 (by decide) ?_
      exact ret _ _ _ dX11_sort_33 ((show narrow _ (.int (0 : Int32)) = .int (0 : Int32) from rfl).trans (congrArg Value.int (Option.some.inj hev)))
    · replace hev := x_f c1 hev
      refine lv_iload_n hx hb dX11_sort_22 rfl (lv_at hl 0 rfl) ?_
      refine lv_bipush (v := (57 : Int32)) hx hb dX11_sort_23 (by decide) ?_
      refine lv_icmp_gt (tgt := 32) hx hb dX11_sort_25 (by decide) (fun c2 => ?_) (fun c2 => ?_)
      · replace hev := x_t c2 hev
        refine lv_iconst (v := (0 : Int32)) hx hb dX11_sort_32 (by decide) ?_
        exact ret _ _ _ dX11_sort_33 ((show narrow _ (.int (0 : Int32)) = .int (0 : Int32) from rfl).trans (congrArg Value.int (Option.some.inj hev)))
      · replace hev := x_f c2 hev
        refine lv_iconst (v := (2 : Int32)) hx hb dX11_sort_28 (by decide) ?_
        refine lv_goto (tgt := 33) hx hb dX11_sort_29 (by decide) ?_
        exact ret _ _ _ dX11_sort_33 ((show narrow _ (.int (2 : Int32)) = .int (2 : Int32) from rfl).trans (congrArg Value.int (Option.some.inj hev)))
  unfold f_Mo_sort at hev
  refine lv_iload_n hx hb dX11_sort_0 rfl (lv_at hl 0 rfl) ?_
  refine lv_bipush (v := (97 : Int32)) hx hb dX11_sort_1 (by decide) ?_
  refine lv_icmp_lt (tgt := 16) hx hb dX11_sort_3 (by decide) (fun c3 => ?_) (fun c3 => ?_)
  · replace hev := x_t c3 hev
    exact J16 p0 ls hev (lv_sub hl [0] rfl)
  · replace hev := x_f c3 hev
    refine lv_iload_n hx hb dX11_sort_6 rfl (lv_at hl 0 rfl) ?_
    refine lv_bipush (v := (122 : Int32)) hx hb dX11_sort_7 (by decide) ?_
    refine lv_icmp_gt (tgt := 16) hx hb dX11_sort_9 (by decide) (fun c4 => ?_) (fun c4 => ?_)
    · replace hev := x_t c4 hev
      exact J16 p0 ls hev (lv_sub hl [0] rfl)
    · replace hev := x_f c4 hev
      refine lv_iconst (v := (1 : Int32)) hx hb dX11_sort_12 (by decide) ?_
      refine lv_goto (tgt := 33) hx hb dX11_sort_13 (by decide) ?_
      exact ret _ _ _ dX11_sort_33 ((show narrow _ (.int (1 : Int32)) = .int (1 : Int32) from rfl).trans (congrArg Value.int (Option.some.inj hev)))
def f_Mo_token_J137 (k : Nat) (vT_at : Int32) (vT_end : Int32) (vT_length : Int32) (vT_place : Int32) (fT_text : Nat → Int32) : Option (Int32 × Int32 × Int32) := some (vT_at, vT_at, vT_place)
def f_Mo_token_L71 (vT_end : Int32) (vT_length : Int32) (vT_place : Int32) (fT_text : Nat → Int32) : Nat → Int32 → Option (Int32)
  | 0, _ => none
  | k + 1, vT_at => if vT_length ≤ vT_at then (some vT_at) else x_I 240 fT_text vT_place (fun v4 => x_B (f_Mo_sort v4) (fun y5 => if y5 ≤ 0 then (some vT_at) else x_I 240 fT_text vT_at (fun v8 => x_B (f_Mo_sort v8) (fun y9 => x_I 240 fT_text vT_place (fun v11 => x_B (f_Mo_sort v11) (fun y12 => if y9 = y12 then (x_L ((vT_at + (1 : Int32))) (fun y14 => (f_Mo_token_L71 vT_end vT_length vT_place fT_text k) y14)) else some vT_at))))))
def f_Mo_token_J67 (k : Nat) (vT_at : Int32) (vT_end : Int32) (vT_length : Int32) (vT_place : Int32) (fT_text : Nat → Int32) (s0 : Int32) (s1 : Int32) : Option (Int32 × Int32 × Int32) := x_L ((s1 + s0)) (fun y1 => x_B (f_Mo_token_L71 vT_end vT_length vT_place fT_text k y1) (fun w15 => f_Mo_token_J137 k w15 vT_end vT_length vT_place fT_text))
def f_Mo_token_J38 (k : Nat) (vT_at : Int32) (vT_end : Int32) (vT_length : Int32) (vT_place : Int32) (fT_text : Nat → Int32) : Option (Int32 × Int32 × Int32) := if vT_length ≤ vT_at then (f_Mo_token_J67 k vT_at vT_end vT_length vT_at fT_text (0 : Int32) vT_at) else f_Mo_token_J67 k vT_at vT_end vT_length vT_at fT_text (1 : Int32) vT_at
def f_Mo_token_L0 (vT_end : Int32) (vT_length : Int32) (vT_place : Int32) (fT_text : Nat → Int32) : Nat → Int32 → Option (Int32)
  | 0, _ => none
  | k + 1, vT_at => if vT_length ≤ vT_at then (some vT_at) else x_I 240 fT_text vT_at (fun v19 => if v19 = (32 : Int32) then (x_L ((vT_at + (1 : Int32))) (fun y21 => (f_Mo_token_L0 vT_end vT_length vT_place fT_text k) y21)) else some vT_at)
def f_Mo_token (k : Nat) (vT_at : Int32) (vT_end : Int32) (vT_length : Int32) (vT_place : Int32) (fT_text : Nat → Int32) : Option (Int32 × Int32 × Int32) := x_B (f_Mo_token_L0 vT_end vT_length vT_place fT_text k vT_at) (fun w22 => f_Mo_token_J38 k w22 vT_end vT_length vT_place fT_text)
set_option maxHeartbeats 8000000 in
set_option maxRecDepth 100000 in
theorem c_Mo_token (l : Launch) (G : GG) (aT aT_text aT_read aT_spells aT_pasts aT_keptStates aT_keptDeeds aT_isKept aT_fars aT_queue aT_later aT_onWay aT_row aT_princes aT_tries : Nat) (vT_length : Int32) (vT_readMany : Int32) (vT_people : Int32) (vT_toldDay : Int32) (vT_toldBroken : Int32) (vT_many : Int32) (vT_now : Int32) (vT_deeds : Int32) (vT_pastMany : Int32) (vT_at : Int32) (vT_place : Int32) (vT_end : Int32) (vT_readPeople : Int32) (vT_readSpells : Int32) (vT_lifted : Int32) (vT_queued : Int32) (vT_laterMany : Int32) (vT_rowMany : Int32) (vT_princeMany : Int32) (vT_triedMany : Int32) (fT_text : Nat → Int32) (k : Nat) (wvT_at : Int32) (wvT_end : Int32) (wvT_place : Int32) (hev : f_Mo_token k vT_at vT_end vT_length vT_place fT_text = some (wvT_at, wvT_end, wvT_place)) : RW l G yX11_token cX11_token 1 none 1 [.ref aT] [(aT, .inr (7, [.ref aT_text, .int vT_length, .ref aT_read, .int vT_readMany, .int vT_people, .int vT_toldDay, .int vT_toldBroken, .ref aT_spells, .int vT_many, .int vT_now, .int vT_deeds, .ref aT_pasts, .int vT_pastMany, .ref aT_keptStates, .ref aT_keptDeeds, .ref aT_isKept, .int vT_at, .int vT_place, .int vT_end, .int vT_readPeople, .int vT_readSpells, .int vT_lifted, .ref aT_fars, .ref aT_queue, .int vT_queued, .ref aT_later, .int vT_laterMany, .ref aT_onWay, .ref aT_row, .int vT_rowMany, .ref aT_princes, .int vT_princeMany, .ref aT_tries, .int vT_triedMany])), (aT_text, .inl (G.2.1, 240, .inl fT_text))] none [(aT, .inr (7, [.ref aT_text, .int vT_length, .ref aT_read, .int vT_readMany, .int vT_people, .int vT_toldDay, .int vT_toldBroken, .ref aT_spells, .int vT_many, .int vT_now, .int vT_deeds, .ref aT_pasts, .int vT_pastMany, .ref aT_keptStates, .ref aT_keptDeeds, .ref aT_isKept, .int wvT_at, .int wvT_place, .int wvT_end, .int vT_readPeople, .int vT_readSpells, .int vT_lifted, .ref aT_fars, .ref aT_queue, .int vT_queued, .ref aT_later, .int vT_laterMany, .ref aT_onWay, .ref aT_row, .int vT_rowMany, .ref aT_princes, .int vT_princeMany, .ref aT_tries, .int vT_triedMany])), (aT_text, .inl (G.2.1, 240, .inl fT_text))] 0 0 := by
  refine RW_of (by decide) (Nat.le_of_ble_eq_true rfl) ?_
  intro p e s m ar below meth c R Q A ls X hR hRc hin hP hKK hD hS hA hAb hl ret
  obtain ⟨rs, hrs⟩ : ∃ q, q = (wvT_at, wvT_end, wvT_place) := ⟨_, rfl⟩
  rw [← hrs] at hev
  have ret2 : ∀ (pc : Nat) (ls : Array Slot) (H : Heap) (lo : List Loc) (zvT_at : Int32) (zvT_end : Int32) (zvT_place : Int32), (zvT_at, zvT_end, zvT_place) = rs → decode cX11_token pc = .ok (.return_, 1) → va_P G.1 classes [(aT, .inr (7, [.ref aT_text, .int vT_length, .ref aT_read, .int vT_readMany, .int vT_people, .int vT_toldDay, .int vT_toldBroken, .ref aT_spells, .int vT_many, .int vT_now, .int vT_deeds, .ref aT_pasts, .int vT_pastMany, .ref aT_keptStates, .ref aT_keptDeeds, .ref aT_isKept, .int zvT_at, .int zvT_place, .int zvT_end, .int vT_readPeople, .int vT_readSpells, .int vT_lifted, .ref aT_fars, .ref aT_queue, .int vT_queued, .ref aT_later, .int vT_laterMany, .ref aT_onWay, .ref aT_row, .int vT_rowMany, .ref aT_princes, .int vT_princeMany, .ref aT_tries, .int vT_triedMany])), (aT_text, .inl (G.2.1, 240, .inl fT_text))] H → va_D A [(aT, .inr (7, [.ref aT_text, .int vT_length, .ref aT_read, .int vT_readMany, .int vT_people, .int vT_toldDay, .int vT_toldBroken, .ref aT_spells, .int vT_many, .int vT_now, .int vT_deeds, .ref aT_pasts, .int vT_pastMany, .ref aT_keptStates, .ref aT_keptDeeds, .ref aT_isKept, .int zvT_at, .int zvT_place, .int zvT_end, .int vT_readPeople, .int vT_readSpells, .int vT_lifted, .ref aT_fars, .ref aT_queue, .int vT_queued, .ref aT_later, .int vT_laterMany, .ref aT_onWay, .ref aT_row, .int vT_rowMany, .ref aT_princes, .int vT_princeMany, .ref aT_tries, .int vT_triedMany])), (aT_text, .inl (G.2.1, 240, .inl fT_text))] → va_S A s.heap H lo → W p l e R s m ar below meth c H lo 0 0 Q (F0 m pc ls []) := by
    intro pc ls H lo zvT_at zvT_end zvT_place he hd h1 h2 h3
    have he := he.trans hrs
    cases he
    exact ret.2.1 _ _ _ _ rfl rfl hd h1 h2 h3
  clear ret hrs
  have hl : lv_has ls 1 [(0, .ref aT)] := hl
  obtain ⟨hx, hb, hml, hown, hts, hT⟩ := id X
  have hK := hKK.1
  have hw : ∀ w ∈ T0, w.before ar s = true := fun w h => hts w (hT w h)
  have i11 := fun w h => hT w (inT11 w h)
  have J137 : ∀ (vT_at : Int32) (vT_end : Int32) (vT_place : Int32), ∀ (H : Heap) (lo : List Loc), va_P G.1 classes [(aT, .inr (7, [.ref aT_text, .int vT_length, .ref aT_read, .int vT_readMany, .int vT_people, .int vT_toldDay, .int vT_toldBroken, .ref aT_spells, .int vT_many, .int vT_now, .int vT_deeds, .ref aT_pasts, .int vT_pastMany, .ref aT_keptStates, .ref aT_keptDeeds, .ref aT_isKept, .int vT_at, .int vT_place, .int vT_end, .int vT_readPeople, .int vT_readSpells, .int vT_lifted, .ref aT_fars, .ref aT_queue, .int vT_queued, .ref aT_later, .int vT_laterMany, .ref aT_onWay, .ref aT_row, .int vT_rowMany, .ref aT_princes, .int vT_princeMany, .ref aT_tries, .int vT_triedMany])), (aT_text, .inl (G.2.1, 240, .inl fT_text))] H → va_D A [(aT, .inr (7, [.ref aT_text, .int vT_length, .ref aT_read, .int vT_readMany, .int vT_people, .int vT_toldDay, .int vT_toldBroken, .ref aT_spells, .int vT_many, .int vT_now, .int vT_deeds, .ref aT_pasts, .int vT_pastMany, .ref aT_keptStates, .ref aT_keptDeeds, .ref aT_isKept, .int vT_at, .int vT_place, .int vT_end, .int vT_readPeople, .int vT_readSpells, .int vT_lifted, .ref aT_fars, .ref aT_queue, .int vT_queued, .ref aT_later, .int vT_laterMany, .ref aT_onWay, .ref aT_row, .int vT_rowMany, .ref aT_princes, .int vT_princeMany, .ref aT_tries, .int vT_triedMany])), (aT_text, .inl (G.2.1, 240, .inl fT_text))] → va_S A s.heap H lo → ∀ (ls : Array Slot), f_Mo_token_J137 k vT_at vT_end vT_length vT_place fT_text = some rs → lv_has ls 1 [(0, .ref aT)] → W p l e R s m ar below meth c H lo 0 0 Q (F0 m 137 ls []) := by
    intro vT_at vT_end vT_place H lo hP hD hS ls hev hl
    unfold f_Mo_token_J137 at hev
    refine lv_aload_n hx hb dX11_token_137 rfl (lv_at hl 0 rfl) ?_
    refine lv_aload_n hx hb dX11_token_138 rfl (lv_at hl 0 rfl) ?_
    refine va_get (D := G.1) (ci := 7) (v := .int vT_at) (C := RX11) (T := TX11) (N := 34) hx hb hts i11 hown hK hP 0 rfl rfl 16 (by decide) (hw _ u1103) (fun _ h9 => h9) rfl dX11_token_139 ?_
    refine va_put (D := G.1) (ci := 7) (v := .int vT_at) (ty := .int) (C := RX11) (T := TX11) (N := 34) hx hb hts i11 tyX11 tyX11_ok nmX11 hown hK hP hD hS 0 rfl rfl 18 (by decide) (hw _ u1105) (fun _ h9 => h9) rfl (by decide +kernel) rfl rfl (Nat.le_of_ble_eq_true rfl) dX11_token_142 (fun H lo hP hD hS => ?_)
    exact ret2 _ _ _ _ vT_at vT_at vT_place (Option.some.inj hev) dX11_token_145 hP hD hS
  have J67 : ∀ (vT_at : Int32) (vT_end : Int32) (vT_place : Int32) (s0 : Int32) (s1 : Int32), ∀ (H : Heap) (lo : List Loc), va_P G.1 classes [(aT, .inr (7, [.ref aT_text, .int vT_length, .ref aT_read, .int vT_readMany, .int vT_people, .int vT_toldDay, .int vT_toldBroken, .ref aT_spells, .int vT_many, .int vT_now, .int vT_deeds, .ref aT_pasts, .int vT_pastMany, .ref aT_keptStates, .ref aT_keptDeeds, .ref aT_isKept, .int vT_at, .int vT_place, .int vT_end, .int vT_readPeople, .int vT_readSpells, .int vT_lifted, .ref aT_fars, .ref aT_queue, .int vT_queued, .ref aT_later, .int vT_laterMany, .ref aT_onWay, .ref aT_row, .int vT_rowMany, .ref aT_princes, .int vT_princeMany, .ref aT_tries, .int vT_triedMany])), (aT_text, .inl (G.2.1, 240, .inl fT_text))] H → va_D A [(aT, .inr (7, [.ref aT_text, .int vT_length, .ref aT_read, .int vT_readMany, .int vT_people, .int vT_toldDay, .int vT_toldBroken, .ref aT_spells, .int vT_many, .int vT_now, .int vT_deeds, .ref aT_pasts, .int vT_pastMany, .ref aT_keptStates, .ref aT_keptDeeds, .ref aT_isKept, .int vT_at, .int vT_place, .int vT_end, .int vT_readPeople, .int vT_readSpells, .int vT_lifted, .ref aT_fars, .ref aT_queue, .int vT_queued, .ref aT_later, .int vT_laterMany, .ref aT_onWay, .ref aT_row, .int vT_rowMany, .ref aT_princes, .int vT_princeMany, .ref aT_tries, .int vT_triedMany])), (aT_text, .inl (G.2.1, 240, .inl fT_text))] → va_S A s.heap H lo → ∀ (ls : Array Slot), f_Mo_token_J67 k vT_at vT_end vT_length vT_place fT_text s0 s1 = some rs → lv_has ls 1 [(0, .ref aT)] → W p l e R s m ar below meth c H lo 0 0 Q (F0 m 67 ls [.int s0, .int s1, .ref aT]) := by
    intro vT_at vT_end vT_place s0 s1 H lo hP hD hS ls hev hl
    unfold f_Mo_token_J67 at hev
    refine lv_iadd hx hb dX11_token_67 ?_
    refine lv_topi (fun y1 ey1 => ?_)
    replace hev := x_lt hev y1 ey1
    refine va_put (D := G.1) (ci := 7) (v := .int y1) (ty := .int) (C := RX11) (T := TX11) (N := 34) hx hb hts i11 tyX11 tyX11_ok nmX11 hown hK hP hD hS 0 rfl rfl 16 (by decide) (hw _ u1103) (fun _ h9 => h9) rfl (by decide +kernel) rfl rfl (Nat.le_of_ble_eq_true rfl) dX11_token_68 (fun H lo hP hD hS => ?_)
    have L71 : ∀ (vT_end : Int32) (vT_place : Int32), ∀ (k : Nat) (vT_at : Int32) (ovT_at : Int32), f_Mo_token_L71 vT_end vT_length vT_place fT_text k vT_at = some ovT_at → (∀ (H : Heap) (lo : List Loc), va_P G.1 classes [(aT, .inr (7, [.ref aT_text, .int vT_length, .ref aT_read, .int vT_readMany, .int vT_people, .int vT_toldDay, .int vT_toldBroken, .ref aT_spells, .int vT_many, .int vT_now, .int vT_deeds, .ref aT_pasts, .int vT_pastMany, .ref aT_keptStates, .ref aT_keptDeeds, .ref aT_isKept, .int ovT_at, .int vT_place, .int vT_end, .int vT_readPeople, .int vT_readSpells, .int vT_lifted, .ref aT_fars, .ref aT_queue, .int vT_queued, .ref aT_later, .int vT_laterMany, .ref aT_onWay, .ref aT_row, .int vT_rowMany, .ref aT_princes, .int vT_princeMany, .ref aT_tries, .int vT_triedMany])), (aT_text, .inl (G.2.1, 240, .inl fT_text))] H → va_D A [(aT, .inr (7, [.ref aT_text, .int vT_length, .ref aT_read, .int vT_readMany, .int vT_people, .int vT_toldDay, .int vT_toldBroken, .ref aT_spells, .int vT_many, .int vT_now, .int vT_deeds, .ref aT_pasts, .int vT_pastMany, .ref aT_keptStates, .ref aT_keptDeeds, .ref aT_isKept, .int ovT_at, .int vT_place, .int vT_end, .int vT_readPeople, .int vT_readSpells, .int vT_lifted, .ref aT_fars, .ref aT_queue, .int vT_queued, .ref aT_later, .int vT_laterMany, .ref aT_onWay, .ref aT_row, .int vT_rowMany, .ref aT_princes, .int vT_princeMany, .ref aT_tries, .int vT_triedMany])), (aT_text, .inl (G.2.1, 240, .inl fT_text))] → va_S A s.heap H lo → ∀ (ls : Array Slot), lv_has ls 1 [(0, .ref aT)] → W p l e R s m ar below meth c H lo 0 0 Q (F0 m 137 ls [])) → ∀ (H : Heap) (lo : List Loc), va_P G.1 classes [(aT, .inr (7, [.ref aT_text, .int vT_length, .ref aT_read, .int vT_readMany, .int vT_people, .int vT_toldDay, .int vT_toldBroken, .ref aT_spells, .int vT_many, .int vT_now, .int vT_deeds, .ref aT_pasts, .int vT_pastMany, .ref aT_keptStates, .ref aT_keptDeeds, .ref aT_isKept, .int vT_at, .int vT_place, .int vT_end, .int vT_readPeople, .int vT_readSpells, .int vT_lifted, .ref aT_fars, .ref aT_queue, .int vT_queued, .ref aT_later, .int vT_laterMany, .ref aT_onWay, .ref aT_row, .int vT_rowMany, .ref aT_princes, .int vT_princeMany, .ref aT_tries, .int vT_triedMany])), (aT_text, .inl (G.2.1, 240, .inl fT_text))] H → va_D A [(aT, .inr (7, [.ref aT_text, .int vT_length, .ref aT_read, .int vT_readMany, .int vT_people, .int vT_toldDay, .int vT_toldBroken, .ref aT_spells, .int vT_many, .int vT_now, .int vT_deeds, .ref aT_pasts, .int vT_pastMany, .ref aT_keptStates, .ref aT_keptDeeds, .ref aT_isKept, .int vT_at, .int vT_place, .int vT_end, .int vT_readPeople, .int vT_readSpells, .int vT_lifted, .ref aT_fars, .ref aT_queue, .int vT_queued, .ref aT_later, .int vT_laterMany, .ref aT_onWay, .ref aT_row, .int vT_rowMany, .ref aT_princes, .int vT_princeMany, .ref aT_tries, .int vT_triedMany])), (aT_text, .inl (G.2.1, 240, .inl fT_text))] → va_S A s.heap H lo → ∀ (ls : Array Slot), lv_has ls 1 [(0, .ref aT)] → W p l e R s m ar below meth c H lo 0 0 Q (F0 m 71 ls []) := by
      intro vT_end vT_place k
      induction k with
      | zero => intro vT_at ovT_at hev; rw [f_Mo_token_L71] at hev; cases hev
      | succ k ih =>
        intro vT_at ovT_at hev hex H lo hP hD hS ls hl
        rw [f_Mo_token_L71] at hev
        refine lv_aload_n hx hb dX11_token_71 rfl (lv_at hl 0 rfl) ?_
        refine va_get (D := G.1) (ci := 7) (v := .int vT_at) (C := RX11) (T := TX11) (N := 34) hx hb hts i11 hown hK hP 0 rfl rfl 16 (by decide) (hw _ u1103) (fun _ h9 => h9) rfl dX11_token_72 ?_
        refine lv_aload_n hx hb dX11_token_75 rfl (lv_at hl 0 rfl) ?_
        refine va_get (D := G.1) (ci := 7) (v := .int vT_length) (C := RX11) (T := TX11) (N := 34) hx hb hts i11 hown hK hP 0 rfl rfl 1 (by decide) (hw _ u1088) (fun _ h9 => h9) rfl dX11_token_76 ?_
        refine lv_icmp_ge (tgt := 137) hx hb dX11_token_79 (by decide) (fun c2 => ?_) (fun c2 => ?_)
        · replace hev := x_t c2 hev
          cases hev
          exact hex _ _ hP hD hS ls (lv_sub hl [0] rfl)
        · replace hev := x_f c2 hev
          refine lv_aload_n hx hb dX11_token_82 rfl (lv_at hl 0 rfl) ?_
          refine va_get (D := G.1) (ci := 7) (v := .ref aT_text) (C := RX11) (T := TX11) (N := 34) hx hb hts i11 hown hK hP 0 rfl rfl 0 (by decide) (hw _ u1087) (fun _ h9 => h9) rfl dX11_token_83 ?_
          refine lv_aload_n hx hb dX11_token_86 rfl (lv_at hl 0 rfl) ?_
          refine va_get (D := G.1) (ci := 7) (v := .int vT_place) (C := RX11) (T := TX11) (N := 34) hx hb hts i11 hown hK hP 0 rfl rfl 17 (by decide) (hw _ u1104) (fun _ h9 => h9) rfl dX11_token_87 ?_
          obtain ⟨h3, hev⟩ := x_ld hev
          refine va_iald hx hb hK hP 1 0 rfl rfl h3 dX11_token_90 ?_
          refine lv_topi (fun v4 ev4 => ?_)
          replace hev := hev v4 ev4
          obtain ⟨y5, hq, hev⟩ := x_bd hev
          refine roS X (KK_at hKK hS hAb) hR (st1 := [.int y5]) (c_Mo_sort l G v4 y5 hq) K_X11_sort u1211 (x_Psub hP [] rfl) (by decide) ⟨Nat.zero_le _, Nat.zero_le _⟩ rfl hl.1 rfl (Nat.le_of_ble_eq_true rfl) rfl dX11_token_91 ?_
          refine lv_if_le (tgt := 137) hx hb dX11_token_94 (by decide) (fun c6 => ?_) (fun c6 => ?_)
          · replace hev := x_t c6 hev
            cases hev
            exact hex _ _ hP hD hS ls (lv_sub hl [0] rfl)
          · replace hev := x_f c6 hev
            refine lv_aload_n hx hb dX11_token_97 rfl (lv_at hl 0 rfl) ?_
            refine va_get (D := G.1) (ci := 7) (v := .ref aT_text) (C := RX11) (T := TX11) (N := 34) hx hb hts i11 hown hK hP 0 rfl rfl 0 (by decide) (hw _ u1087) (fun _ h9 => h9) rfl dX11_token_98 ?_
            refine lv_aload_n hx hb dX11_token_101 rfl (lv_at hl 0 rfl) ?_
            refine va_get (D := G.1) (ci := 7) (v := .int vT_at) (C := RX11) (T := TX11) (N := 34) hx hb hts i11 hown hK hP 0 rfl rfl 16 (by decide) (hw _ u1103) (fun _ h9 => h9) rfl dX11_token_102 ?_
            obtain ⟨h7, hev⟩ := x_ld hev
            refine va_iald hx hb hK hP 1 0 rfl rfl h7 dX11_token_105 ?_
            refine lv_topi (fun v8 ev8 => ?_)
            replace hev := hev v8 ev8
            obtain ⟨y9, hq, hev⟩ := x_bd hev
            refine roS X (KK_at hKK hS hAb) hR (st1 := [.int y9]) (c_Mo_sort l G v8 y9 hq) K_X11_sort u1211 (x_Psub hP [] rfl) (by decide) ⟨Nat.zero_le _, Nat.zero_le _⟩ rfl hl.1 rfl (Nat.le_of_ble_eq_true rfl) rfl dX11_token_106 ?_
            refine lv_aload_n hx hb dX11_token_109 rfl (lv_at hl 0 rfl) ?_
            refine va_get (D := G.1) (ci := 7) (v := .ref aT_text) (C := RX11) (T := TX11) (N := 34) hx hb hts i11 hown hK hP 0 rfl rfl 0 (by decide) (hw _ u1087) (fun _ h9 => h9) rfl dX11_token_110 ?_
            refine lv_aload_n hx hb dX11_token_113 rfl (lv_at hl 0 rfl) ?_
            refine va_get (D := G.1) (ci := 7) (v := .int vT_place) (C := RX11) (T := TX11) (N := 34) hx hb hts i11 hown hK hP 0 rfl rfl 17 (by decide) (hw _ u1104) (fun _ h9 => h9) rfl dX11_token_114 ?_
            obtain ⟨h10, hev⟩ := x_ld hev
            refine va_iald hx hb hK hP 1 0 rfl rfl h10 dX11_token_117 ?_
            refine lv_topi (fun v11 ev11 => ?_)
            replace hev := hev v11 ev11
            obtain ⟨y12, hq, hev⟩ := x_bd hev
            refine roS X (KK_at hKK hS hAb) hR (st1 := [.int y12, .int y9]) (c_Mo_sort l G v11 y12 hq) K_X11_sort u1211 (x_Psub hP [] rfl) (by decide) ⟨Nat.zero_le _, Nat.zero_le _⟩ rfl hl.1 rfl (Nat.le_of_ble_eq_true rfl) rfl dX11_token_118 ?_
            refine lv_icmp_ne (tgt := 137) hx hb dX11_token_121 (by decide) (fun c13 => ?_) (fun c13 => ?_)
            · replace hev := x_f c13 hev
              cases hev
              exact hex _ _ hP hD hS ls (lv_sub hl [0] rfl)
            · replace hev := x_t c13 hev
              refine lv_aload_n hx hb dX11_token_124 rfl (lv_at hl 0 rfl) ?_
              refine lv_dup hx hb dX11_token_125 rfl ?_
              refine va_get (D := G.1) (ci := 7) (v := .int vT_at) (C := RX11) (T := TX11) (N := 34) hx hb hts i11 hown hK hP 0 rfl rfl 16 (by decide) (hw _ u1103) (fun _ h9 => h9) rfl dX11_token_126 ?_
              refine lv_iconst (v := (1 : Int32)) hx hb dX11_token_129 (by decide) ?_
              refine lv_iadd hx hb dX11_token_130 ?_
              refine lv_topi (fun y14 ey14 => ?_)
              replace hev := x_lt hev y14 ey14
              refine va_put (D := G.1) (ci := 7) (v := .int y14) (ty := .int) (C := RX11) (T := TX11) (N := 34) hx hb hts i11 tyX11 tyX11_ok nmX11 hown hK hP hD hS 0 rfl rfl 16 (by decide) (hw _ u1103) (fun _ h9 => h9) rfl (by decide +kernel) rfl rfl (Nat.le_of_ble_eq_true rfl) dX11_token_131 (fun H lo hP hD hS => ?_)
              refine lv_goto (tgt := 71) hx hb dX11_token_134 (by decide) ?_
              exact ih y14 _ hev hex _ _ hP hD hS ls (lv_sub hl [0] rfl)
    obtain ⟨w15, hq, hev⟩ := x_bd hev
    refine L71 vT_end vT_place k y1 w15 hq (fun H lo hP hD hS ls hl => ?_) _ _ hP hD hS ls (lv_sub hl [0] rfl)
    exact J137 w15 vT_end vT_place _ _ hP hD hS ls hev (lv_sub hl [0] rfl)
  have J38 : ∀ (vT_at : Int32) (vT_end : Int32) (vT_place : Int32), ∀ (H : Heap) (lo : List Loc), va_P G.1 classes [(aT, .inr (7, [.ref aT_text, .int vT_length, .ref aT_read, .int vT_readMany, .int vT_people, .int vT_toldDay, .int vT_toldBroken, .ref aT_spells, .int vT_many, .int vT_now, .int vT_deeds, .ref aT_pasts, .int vT_pastMany, .ref aT_keptStates, .ref aT_keptDeeds, .ref aT_isKept, .int vT_at, .int vT_place, .int vT_end, .int vT_readPeople, .int vT_readSpells, .int vT_lifted, .ref aT_fars, .ref aT_queue, .int vT_queued, .ref aT_later, .int vT_laterMany, .ref aT_onWay, .ref aT_row, .int vT_rowMany, .ref aT_princes, .int vT_princeMany, .ref aT_tries, .int vT_triedMany])), (aT_text, .inl (G.2.1, 240, .inl fT_text))] H → va_D A [(aT, .inr (7, [.ref aT_text, .int vT_length, .ref aT_read, .int vT_readMany, .int vT_people, .int vT_toldDay, .int vT_toldBroken, .ref aT_spells, .int vT_many, .int vT_now, .int vT_deeds, .ref aT_pasts, .int vT_pastMany, .ref aT_keptStates, .ref aT_keptDeeds, .ref aT_isKept, .int vT_at, .int vT_place, .int vT_end, .int vT_readPeople, .int vT_readSpells, .int vT_lifted, .ref aT_fars, .ref aT_queue, .int vT_queued, .ref aT_later, .int vT_laterMany, .ref aT_onWay, .ref aT_row, .int vT_rowMany, .ref aT_princes, .int vT_princeMany, .ref aT_tries, .int vT_triedMany])), (aT_text, .inl (G.2.1, 240, .inl fT_text))] → va_S A s.heap H lo → ∀ (ls : Array Slot), f_Mo_token_J38 k vT_at vT_end vT_length vT_place fT_text = some rs → lv_has ls 1 [(0, .ref aT)] → W p l e R s m ar below meth c H lo 0 0 Q (F0 m 38 ls []) := by
    intro vT_at vT_end vT_place H lo hP hD hS ls hev hl
    unfold f_Mo_token_J38 at hev
    refine lv_aload_n hx hb dX11_token_38 rfl (lv_at hl 0 rfl) ?_
    refine lv_aload_n hx hb dX11_token_39 rfl (lv_at hl 0 rfl) ?_
    refine va_get (D := G.1) (ci := 7) (v := .int vT_at) (C := RX11) (T := TX11) (N := 34) hx hb hts i11 hown hK hP 0 rfl rfl 16 (by decide) (hw _ u1103) (fun _ h9 => h9) rfl dX11_token_40 ?_
    refine va_put (D := G.1) (ci := 7) (v := .int vT_at) (ty := .int) (C := RX11) (T := TX11) (N := 34) hx hb hts i11 tyX11 tyX11_ok nmX11 hown hK hP hD hS 0 rfl rfl 17 (by decide) (hw _ u1104) (fun _ h9 => h9) rfl (by decide +kernel) rfl rfl (Nat.le_of_ble_eq_true rfl) dX11_token_43 (fun H lo hP hD hS => ?_)
    refine lv_aload_n hx hb dX11_token_46 rfl (lv_at hl 0 rfl) ?_
    refine lv_dup hx hb dX11_token_47 rfl ?_
    refine va_get (D := G.1) (ci := 7) (v := .int vT_at) (C := RX11) (T := TX11) (N := 34) hx hb hts i11 hown hK hP 0 rfl rfl 16 (by decide) (hw _ u1103) (fun _ h9 => h9) rfl dX11_token_48 ?_
    refine lv_aload_n hx hb dX11_token_51 rfl (lv_at hl 0 rfl) ?_
    refine va_get (D := G.1) (ci := 7) (v := .int vT_at) (C := RX11) (T := TX11) (N := 34) hx hb hts i11 hown hK hP 0 rfl rfl 16 (by decide) (hw _ u1103) (fun _ h9 => h9) rfl dX11_token_52 ?_
    refine lv_aload_n hx hb dX11_token_55 rfl (lv_at hl 0 rfl) ?_
    refine va_get (D := G.1) (ci := 7) (v := .int vT_length) (C := RX11) (T := TX11) (N := 34) hx hb hts i11 hown hK hP 0 rfl rfl 1 (by decide) (hw _ u1088) (fun _ h9 => h9) rfl dX11_token_56 ?_
    refine lv_icmp_ge (tgt := 66) hx hb dX11_token_59 (by decide) (fun c16 => ?_) (fun c16 => ?_)
    · replace hev := x_t c16 hev
      refine lv_iconst (v := (0 : Int32)) hx hb dX11_token_66 (by decide) ?_
      exact J67 vT_at vT_end vT_at (0 : Int32) vT_at _ _ hP hD hS ls hev (lv_sub hl [0] rfl)
    · replace hev := x_f c16 hev
      refine lv_iconst (v := (1 : Int32)) hx hb dX11_token_62 (by decide) ?_
      refine lv_goto (tgt := 67) hx hb dX11_token_63 (by decide) ?_
      exact J67 vT_at vT_end vT_at (1 : Int32) vT_at _ _ hP hD hS ls hev (lv_sub hl [0] rfl)
  unfold f_Mo_token at hev
  have L0 : ∀ (vT_end : Int32) (vT_place : Int32), ∀ (k : Nat) (vT_at : Int32) (ovT_at : Int32), f_Mo_token_L0 vT_end vT_length vT_place fT_text k vT_at = some ovT_at → (∀ (H : Heap) (lo : List Loc), va_P G.1 classes [(aT, .inr (7, [.ref aT_text, .int vT_length, .ref aT_read, .int vT_readMany, .int vT_people, .int vT_toldDay, .int vT_toldBroken, .ref aT_spells, .int vT_many, .int vT_now, .int vT_deeds, .ref aT_pasts, .int vT_pastMany, .ref aT_keptStates, .ref aT_keptDeeds, .ref aT_isKept, .int ovT_at, .int vT_place, .int vT_end, .int vT_readPeople, .int vT_readSpells, .int vT_lifted, .ref aT_fars, .ref aT_queue, .int vT_queued, .ref aT_later, .int vT_laterMany, .ref aT_onWay, .ref aT_row, .int vT_rowMany, .ref aT_princes, .int vT_princeMany, .ref aT_tries, .int vT_triedMany])), (aT_text, .inl (G.2.1, 240, .inl fT_text))] H → va_D A [(aT, .inr (7, [.ref aT_text, .int vT_length, .ref aT_read, .int vT_readMany, .int vT_people, .int vT_toldDay, .int vT_toldBroken, .ref aT_spells, .int vT_many, .int vT_now, .int vT_deeds, .ref aT_pasts, .int vT_pastMany, .ref aT_keptStates, .ref aT_keptDeeds, .ref aT_isKept, .int ovT_at, .int vT_place, .int vT_end, .int vT_readPeople, .int vT_readSpells, .int vT_lifted, .ref aT_fars, .ref aT_queue, .int vT_queued, .ref aT_later, .int vT_laterMany, .ref aT_onWay, .ref aT_row, .int vT_rowMany, .ref aT_princes, .int vT_princeMany, .ref aT_tries, .int vT_triedMany])), (aT_text, .inl (G.2.1, 240, .inl fT_text))] → va_S A s.heap H lo → ∀ (ls : Array Slot), lv_has ls 1 [(0, .ref aT)] → W p l e R s m ar below meth c H lo 0 0 Q (F0 m 38 ls [])) → ∀ (H : Heap) (lo : List Loc), va_P G.1 classes [(aT, .inr (7, [.ref aT_text, .int vT_length, .ref aT_read, .int vT_readMany, .int vT_people, .int vT_toldDay, .int vT_toldBroken, .ref aT_spells, .int vT_many, .int vT_now, .int vT_deeds, .ref aT_pasts, .int vT_pastMany, .ref aT_keptStates, .ref aT_keptDeeds, .ref aT_isKept, .int vT_at, .int vT_place, .int vT_end, .int vT_readPeople, .int vT_readSpells, .int vT_lifted, .ref aT_fars, .ref aT_queue, .int vT_queued, .ref aT_later, .int vT_laterMany, .ref aT_onWay, .ref aT_row, .int vT_rowMany, .ref aT_princes, .int vT_princeMany, .ref aT_tries, .int vT_triedMany])), (aT_text, .inl (G.2.1, 240, .inl fT_text))] H → va_D A [(aT, .inr (7, [.ref aT_text, .int vT_length, .ref aT_read, .int vT_readMany, .int vT_people, .int vT_toldDay, .int vT_toldBroken, .ref aT_spells, .int vT_many, .int vT_now, .int vT_deeds, .ref aT_pasts, .int vT_pastMany, .ref aT_keptStates, .ref aT_keptDeeds, .ref aT_isKept, .int vT_at, .int vT_place, .int vT_end, .int vT_readPeople, .int vT_readSpells, .int vT_lifted, .ref aT_fars, .ref aT_queue, .int vT_queued, .ref aT_later, .int vT_laterMany, .ref aT_onWay, .ref aT_row, .int vT_rowMany, .ref aT_princes, .int vT_princeMany, .ref aT_tries, .int vT_triedMany])), (aT_text, .inl (G.2.1, 240, .inl fT_text))] → va_S A s.heap H lo → ∀ (ls : Array Slot), lv_has ls 1 [(0, .ref aT)] → W p l e R s m ar below meth c H lo 0 0 Q (F0 m 0 ls []) := by
    intro vT_end vT_place k
    induction k with
    | zero => intro vT_at ovT_at hev; rw [f_Mo_token_L0] at hev; cases hev
    | succ k ih =>
      intro vT_at ovT_at hev hex H lo hP hD hS ls hl
      rw [f_Mo_token_L0] at hev
      refine lv_aload_n hx hb dX11_token_0 rfl (lv_at hl 0 rfl) ?_
      refine va_get (D := G.1) (ci := 7) (v := .int vT_at) (C := RX11) (T := TX11) (N := 34) hx hb hts i11 hown hK hP 0 rfl rfl 16 (by decide) (hw _ u1103) (fun _ h9 => h9) rfl dX11_token_1 ?_
      refine lv_aload_n hx hb dX11_token_4 rfl (lv_at hl 0 rfl) ?_
      refine va_get (D := G.1) (ci := 7) (v := .int vT_length) (C := RX11) (T := TX11) (N := 34) hx hb hts i11 hown hK hP 0 rfl rfl 1 (by decide) (hw _ u1088) (fun _ h9 => h9) rfl dX11_token_5 ?_
      refine lv_icmp_ge (tgt := 38) hx hb dX11_token_8 (by decide) (fun c17 => ?_) (fun c17 => ?_)
      · replace hev := x_t c17 hev
        cases hev
        exact hex _ _ hP hD hS ls (lv_sub hl [0] rfl)
      · replace hev := x_f c17 hev
        refine lv_aload_n hx hb dX11_token_11 rfl (lv_at hl 0 rfl) ?_
        refine va_get (D := G.1) (ci := 7) (v := .ref aT_text) (C := RX11) (T := TX11) (N := 34) hx hb hts i11 hown hK hP 0 rfl rfl 0 (by decide) (hw _ u1087) (fun _ h9 => h9) rfl dX11_token_12 ?_
        refine lv_aload_n hx hb dX11_token_15 rfl (lv_at hl 0 rfl) ?_
        refine va_get (D := G.1) (ci := 7) (v := .int vT_at) (C := RX11) (T := TX11) (N := 34) hx hb hts i11 hown hK hP 0 rfl rfl 16 (by decide) (hw _ u1103) (fun _ h9 => h9) rfl dX11_token_16 ?_
        obtain ⟨h18, hev⟩ := x_ld hev
        refine va_iald hx hb hK hP 1 0 rfl rfl h18 dX11_token_19 ?_
        refine lv_topi (fun v19 ev19 => ?_)
        replace hev := hev v19 ev19
        refine lv_bipush (v := (32 : Int32)) hx hb dX11_token_20 (by decide) ?_
        refine lv_icmp_ne (tgt := 38) hx hb dX11_token_22 (by decide) (fun c20 => ?_) (fun c20 => ?_)
        · replace hev := x_f c20 hev
          cases hev
          exact hex _ _ hP hD hS ls (lv_sub hl [0] rfl)
        · replace hev := x_t c20 hev
          refine lv_aload_n hx hb dX11_token_25 rfl (lv_at hl 0 rfl) ?_
          refine lv_dup hx hb dX11_token_26 rfl ?_
          refine va_get (D := G.1) (ci := 7) (v := .int vT_at) (C := RX11) (T := TX11) (N := 34) hx hb hts i11 hown hK hP 0 rfl rfl 16 (by decide) (hw _ u1103) (fun _ h9 => h9) rfl dX11_token_27 ?_
          refine lv_iconst (v := (1 : Int32)) hx hb dX11_token_30 (by decide) ?_
          refine lv_iadd hx hb dX11_token_31 ?_
          refine lv_topi (fun y21 ey21 => ?_)
          replace hev := x_lt hev y21 ey21
          refine va_put (D := G.1) (ci := 7) (v := .int y21) (ty := .int) (C := RX11) (T := TX11) (N := 34) hx hb hts i11 tyX11 tyX11_ok nmX11 hown hK hP hD hS 0 rfl rfl 16 (by decide) (hw _ u1103) (fun _ h9 => h9) rfl (by decide +kernel) rfl rfl (Nat.le_of_ble_eq_true rfl) dX11_token_32 (fun H lo hP hD hS => ?_)
          refine lv_goto (tgt := 0) hx hb dX11_token_35 (by decide) ?_
          exact ih y21 _ hev hex _ _ hP hD hS ls (lv_sub hl [0] rfl)
  obtain ⟨w22, hq, hev⟩ := x_bd hev
  refine L0 vT_end vT_place k vT_at w22 hq (fun H lo hP hD hS ls hl => ?_) _ _ hP hD hS ls (lv_sub hl [0] rfl)
  exact J38 w22 vT_end vT_place _ _ hP hD hS ls hev (lv_sub hl [0] rfl)
def f_Mo_isWord_J64 (rec : Int32 → Int32 → Option (Int32)) (k : Nat) (vT_end : Int32) (vT_place : Int32) (fT_text : Nat → Int32) (x1 : Int32) (x2 : Int32) (x4 : Int32) (s0 : Int32) : Option (Int32) := x_L (x4 + (1 : Int32)) (fun y1 => rec s0 y1)
def f_Mo_isWord_L22 (vT_end : Int32) (vT_place : Int32) (fT_text : Nat → Int32) (x1 : Int32) (x2 : Int32) : Nat → Int32 → Int32 → Option (Int32)
  | 0, _, _ => none
  | k + 1, x3, x4 => if x3 = 0 then (some x3) else if x2 ≤ x4 then (some x3) else x_L ((vT_place + x4)) (fun y4 => x_I 240 fT_text y4 (fun v6 => if v6 = ((96 : Int32) + ((x1 >>> (((5 : Int32) * x4) &&& 31)) &&& (31 : Int32))) then (f_Mo_isWord_J64 (f_Mo_isWord_L22 vT_end vT_place fT_text x1 x2 k) k vT_end vT_place fT_text x1 x2 x4 (1 : Int32)) else f_Mo_isWord_J64 (f_Mo_isWord_L22 vT_end vT_place fT_text x1 x2 k) k vT_end vT_place fT_text x1 x2 x4 (0 : Int32)))
def f_Mo_isWord_J18 (k : Nat) (vT_end : Int32) (vT_place : Int32) (fT_text : Nat → Int32) (x1 : Int32) (x2 : Int32) (s0 : Int32) : Option (Int32) := x_B (f_Mo_isWord_L22 vT_end vT_place fT_text x1 x2 k s0 (0 : Int32)) (fun y8 => some (y8 &&& 1))
def f_Mo_isWord (k : Nat) (vT_end : Int32) (vT_place : Int32) (fT_text : Nat → Int32) (p1 : Int32) (p2 : Int32) : Option (Int32) := if (vT_end - vT_place) = p2 then (f_Mo_isWord_J18 k vT_end vT_place fT_text p1 p2 (1 : Int32)) else f_Mo_isWord_J18 k vT_end vT_place fT_text p1 p2 (0 : Int32)
set_option maxHeartbeats 8000000 in
set_option maxRecDepth 100000 in
theorem c_Mo_isWord (l : Launch) (G : GG) (aT aT_text aT_read aT_spells aT_pasts aT_keptStates aT_keptDeeds aT_isKept aT_fars aT_queue aT_later aT_onWay aT_row aT_princes aT_tries : Nat) (vT_length : Int32) (vT_readMany : Int32) (vT_people : Int32) (vT_toldDay : Int32) (vT_toldBroken : Int32) (vT_many : Int32) (vT_now : Int32) (vT_deeds : Int32) (vT_pastMany : Int32) (vT_at : Int32) (vT_place : Int32) (vT_end : Int32) (vT_readPeople : Int32) (vT_readSpells : Int32) (vT_lifted : Int32) (vT_queued : Int32) (vT_laterMany : Int32) (vT_rowMany : Int32) (vT_princeMany : Int32) (vT_triedMany : Int32) (fT_text : Nat → Int32) (k : Nat) (p1 : Int32) (p2 : Int32) (r0 : Int32) (hev : f_Mo_isWord k vT_end vT_place fT_text p1 p2 = some r0) : RO l G yX11_isWord cX11_isWord 5 (some .boolean) 0 [.ref aT, .int p1, .int p2] [(aT, .inr (7, [.ref aT_text, .int vT_length, .ref aT_read, .int vT_readMany, .int vT_people, .int vT_toldDay, .int vT_toldBroken, .ref aT_spells, .int vT_many, .int vT_now, .int vT_deeds, .ref aT_pasts, .int vT_pastMany, .ref aT_keptStates, .ref aT_keptDeeds, .ref aT_isKept, .int vT_at, .int vT_place, .int vT_end, .int vT_readPeople, .int vT_readSpells, .int vT_lifted, .ref aT_fars, .ref aT_queue, .int vT_queued, .ref aT_later, .int vT_laterMany, .ref aT_onWay, .ref aT_row, .int vT_rowMany, .ref aT_princes, .int vT_princeMany, .ref aT_tries, .int vT_triedMany])), (aT_text, .inl (G.2.1, 240, .inl fT_text))] (some (.int r0)) := by
  refine RO_of (by decide) (Nat.le_of_ble_eq_true rfl) ?_
  intro p e s m ar below meth c R Q H ls X hR hP hKK hS0 hl ret
  generalize hrs : r0 = rs at hev ret
  have hl : lv_has ls 5 [(0, .ref aT), (1, .int p1), (2, .int p2)] := hl
  obtain ⟨hx, hb, hml, hown, hts, hT⟩ := id X
  have hK := hKK.1
  have hw : ∀ w ∈ T0, w.before ar s = true := fun w h => hts w (hT w h)
  have i11 := fun w h => hT w (inT11 w h)
  have J18 : ∀ (x1 : Int32) (x2 : Int32) (s0 : Int32), ∀ (ls : Array Slot), f_Mo_isWord_J18 k vT_end vT_place fT_text x1 x2 s0 = some rs → lv_has ls 5 [(0, .ref aT), (1, .int x1), (2, .int x2)] → W p l e R s m ar below meth c H [] 0 0 Q (F0 m 18 ls [.int s0]) := by
    intro x1 x2 s0 ls hev hl
    unfold f_Mo_isWord_J18 at hev
    refine lv_istore_n (lv' := [(3, .int s0), (0, .ref aT), (1, .int x1), (2, .int x2)]) hx hb dX11_isWord_18 rfl hl (by decide) rfl (fun ls hl => ?_)
    refine lv_iconst (v := (0 : Int32)) hx hb dX11_isWord_19 (by decide) ?_
    refine lv_istore (lv' := [(4, .int (0 : Int32)), (3, .int s0), (0, .ref aT), (1, .int x1), (2, .int x2)]) hx hb dX11_isWord_20 hl (by decide) rfl (fun ls hl => ?_)
    have L22 : ∀ (x1 : Int32) (x2 : Int32), ∀ (k : Nat) (x3 : Int32) (x4 : Int32) (o3 : Int32), f_Mo_isWord_L22 vT_end vT_place fT_text x1 x2 k x3 x4 = some o3 → (∀ (ls : Array Slot), lv_has ls 5 [(3, .int o3)] → W p l e R s m ar below meth c H [] 0 0 Q (F0 m 71 ls [])) → ∀ (ls : Array Slot), lv_has ls 5 [(0, .ref aT), (1, .int x1), (2, .int x2), (3, .int x3), (4, .int x4)] → W p l e R s m ar below meth c H [] 0 0 Q (F0 m 22 ls []) := by
      intro x1 x2 k
      induction k with
      | zero => intro x3 x4 o3 hev; rw [f_Mo_isWord_L22] at hev; cases hev
      | succ k ih =>
        intro x3 x4 o3 hev hex ls hl
        rw [f_Mo_isWord_L22] at hev
        have J64 : ∀ (x4 : Int32) (s0 : Int32), ∀ (ls : Array Slot), f_Mo_isWord_J64 (f_Mo_isWord_L22 vT_end vT_place fT_text x1 x2 k) k vT_end vT_place fT_text x1 x2 x4 s0 = some o3 → lv_has ls 5 [(0, .ref aT), (1, .int x1), (2, .int x2), (4, .int x4)] → W p l e R s m ar below meth c H [] 0 0 Q (F0 m 64 ls [.int s0]) := by
          intro x4 s0 ls hev hl
          unfold f_Mo_isWord_J64 at hev
          refine lv_istore_n (lv' := [(3, .int s0), (0, .ref aT), (1, .int x1), (2, .int x2), (4, .int x4)]) hx hb dX11_isWord_64 rfl hl (by decide) rfl (fun ls hl => ?_)
          obtain ⟨y1, ey1⟩ : ∃ y : Int32, y = x4 + (1 : Int32) := ⟨_, rfl⟩
          refine lv_iinc (v := y1) (lv' := [(4, .int y1), (3, .int s0), (0, .ref aT), (1, .int x1), (2, .int x2)]) hx hb dX11_isWord_65 hl (k := 4) rfl (by rw [ey1]; rfl) (by decide) rfl (fun ls hl => ?_)
          replace hev := x_lt hev y1 ey1
          refine lv_goto (tgt := 22) hx hb dX11_isWord_68 (by decide) ?_
          exact ih s0 y1 _ hev hex ls (lv_sub hl [2, 3, 4, 1, 0] rfl)
        refine lv_iload_n hx hb dX11_isWord_22 rfl (lv_at hl 3 rfl) ?_
        refine lv_if_eq (tgt := 71) hx hb dX11_isWord_23 (by decide) (fun c2 => ?_) (fun c2 => ?_)
        · replace hev := x_t c2 hev
          cases hev
          exact hex ls (lv_sub hl [3] rfl)
        · replace hev := x_f c2 hev
          refine lv_iload hx hb dX11_isWord_26 (lv_at hl 4 rfl) ?_
          refine lv_iload_n hx hb dX11_isWord_28 rfl (lv_at hl 2 rfl) ?_
          refine lv_icmp_ge (tgt := 71) hx hb dX11_isWord_29 (by decide) (fun c3 => ?_) (fun c3 => ?_)
          · replace hev := x_t c3 hev
            cases hev
            exact hex ls (lv_sub hl [3] rfl)
          · replace hev := x_f c3 hev
            refine lv_aload_n hx hb dX11_isWord_32 rfl (lv_at hl 0 rfl) ?_
            refine va_get (D := G.1) (ci := 7) (v := .ref aT_text) (C := RX11) (T := TX11) (N := 34) hx hb hts i11 hown hK hP 0 rfl rfl 0 (by decide) (hw _ u1087) (fun _ h9 => h9) rfl dX11_isWord_33 ?_
            refine lv_aload_n hx hb dX11_isWord_36 rfl (lv_at hl 0 rfl) ?_
            refine va_get (D := G.1) (ci := 7) (v := .int vT_place) (C := RX11) (T := TX11) (N := 34) hx hb hts i11 hown hK hP 0 rfl rfl 17 (by decide) (hw _ u1104) (fun _ h9 => h9) rfl dX11_isWord_37 ?_
            refine lv_iload hx hb dX11_isWord_40 (lv_at hl 4 rfl) ?_
            refine lv_iadd hx hb dX11_isWord_42 ?_
            refine lv_topi (fun y4 ey4 => ?_)
            replace hev := x_lt hev y4 ey4
            obtain ⟨h5, hev⟩ := x_ld hev
            refine va_iald hx hb hK hP 1 0 rfl rfl h5 dX11_isWord_43 ?_
            refine lv_topi (fun v6 ev6 => ?_)
            replace hev := hev v6 ev6
            refine lv_bipush (v := (96 : Int32)) hx hb dX11_isWord_44 (by decide) ?_
            refine lv_iload_n hx hb dX11_isWord_46 rfl (lv_at hl 1 rfl) ?_
            refine lv_iconst (v := (5 : Int32)) hx hb dX11_isWord_47 (by decide) ?_
            refine lv_iload hx hb dX11_isWord_48 (lv_at hl 4 rfl) ?_
            refine lv_imul hx hb dX11_isWord_50 ?_
            refine lv_ishr hx hb dX11_isWord_51 ?_
            refine lv_bipush (v := (31 : Int32)) hx hb dX11_isWord_52 (by decide) ?_
            refine lv_iand hx hb dX11_isWord_54 ?_
            refine lv_iadd hx hb dX11_isWord_55 ?_
            refine lv_icmp_ne (tgt := 63) hx hb dX11_isWord_56 (by decide) (fun c7 => ?_) (fun c7 => ?_)
            · replace hev := x_f c7 hev
              refine lv_iconst (v := (0 : Int32)) hx hb dX11_isWord_63 (by decide) ?_
              exact J64 x4 (0 : Int32) ls hev (lv_sub hl [0, 1, 2, 4] rfl)
            · replace hev := x_t c7 hev
              refine lv_iconst (v := (1 : Int32)) hx hb dX11_isWord_59 (by decide) ?_
              refine lv_goto (tgt := 64) hx hb dX11_isWord_60 (by decide) ?_
              exact J64 x4 (1 : Int32) ls hev (lv_sub hl [0, 1, 2, 4] rfl)
    obtain ⟨y8, hq, hev⟩ := x_bd hev
    refine L22 x1 x2 k s0 (0 : Int32) y8 hq (fun ls hl => ?_) ls (lv_sub hl [2, 3, 4, 1, 0] rfl)
    refine lv_iload_n hx hb dX11_isWord_71 rfl (lv_at hl 0 rfl) ?_
    exact ret _ _ _ dX11_isWord_72 ((show narrow _ (.int y8) = .int (y8 &&& 1) from rfl).trans (congrArg Value.int (Option.some.inj hev)))
  unfold f_Mo_isWord at hev
  refine lv_aload_n hx hb dX11_isWord_0 rfl (lv_at hl 0 rfl) ?_
  refine va_get (D := G.1) (ci := 7) (v := .int vT_end) (C := RX11) (T := TX11) (N := 34) hx hb hts i11 hown hK hP 0 rfl rfl 18 (by decide) (hw _ u1105) (fun _ h9 => h9) rfl dX11_isWord_1 ?_
  refine lv_aload_n hx hb dX11_isWord_4 rfl (lv_at hl 0 rfl) ?_
  refine va_get (D := G.1) (ci := 7) (v := .int vT_place) (C := RX11) (T := TX11) (N := 34) hx hb hts i11 hown hK hP 0 rfl rfl 17 (by decide) (hw _ u1104) (fun _ h9 => h9) rfl dX11_isWord_5 ?_
  refine lv_isub hx hb dX11_isWord_8 ?_
  refine lv_iload_n hx hb dX11_isWord_9 rfl (lv_at hl 2 rfl) ?_
  refine lv_icmp_ne (tgt := 17) hx hb dX11_isWord_10 (by decide) (fun c9 => ?_) (fun c9 => ?_)
  · replace hev := x_f c9 hev
    refine lv_iconst (v := (0 : Int32)) hx hb dX11_isWord_17 (by decide) ?_
    exact J18 p1 p2 (0 : Int32) ls hev (lv_sub hl [0, 1, 2] rfl)
  · replace hev := x_t c9 hev
    refine lv_iconst (v := (1 : Int32)) hx hb dX11_isWord_13 (by decide) ?_
    refine lv_goto (tgt := 18) hx hb dX11_isWord_14 (by decide) ?_
    exact J18 p1 p2 (1 : Int32) ls hev (lv_sub hl [0, 1, 2] rfl)
def f_Mo_spellWord (k : Nat) (vT_end : Int32) (vT_place : Int32) (fT_text : Nat → Int32) : Option (Int32) := x_B (f_Mo_isWord k vT_end vT_place fT_text (16946579 : Int32) (5 : Int32)) (fun y1 => if y1 = 0 then (x_B (f_Mo_isWord k vT_end vT_place fT_text (245318 : Int32) (4 : Int32)) (fun y3 => if y3 = 0 then (x_B (f_Mo_isWord k vT_end vT_place fT_text (185005 : Int32) (4 : Int32)) (fun y5 => if y5 = 0 then (x_B (f_Mo_isWord k vT_end vT_place fT_text (145698 : Int32) (4 : Int32)) (fun y7 => if y7 = 0 then (some (-1 : Int32)) else some (4 : Int32))) else some (3 : Int32))) else some (2 : Int32))) else some (1 : Int32))
set_option maxHeartbeats 8000000 in
set_option maxRecDepth 100000 in
theorem c_Mo_spellWord (l : Launch) (G : GG) (aT aT_text aT_read aT_spells aT_pasts aT_keptStates aT_keptDeeds aT_isKept aT_fars aT_queue aT_later aT_onWay aT_row aT_princes aT_tries : Nat) (vT_length : Int32) (vT_readMany : Int32) (vT_people : Int32) (vT_toldDay : Int32) (vT_toldBroken : Int32) (vT_many : Int32) (vT_now : Int32) (vT_deeds : Int32) (vT_pastMany : Int32) (vT_at : Int32) (vT_place : Int32) (vT_end : Int32) (vT_readPeople : Int32) (vT_readSpells : Int32) (vT_lifted : Int32) (vT_queued : Int32) (vT_laterMany : Int32) (vT_rowMany : Int32) (vT_princeMany : Int32) (vT_triedMany : Int32) (fT_text : Nat → Int32) (k : Nat) (r0 : Int32) (hev : f_Mo_spellWord k vT_end vT_place fT_text = some r0) : RO l G yX11_spellWord cX11_spellWord 1 (some .int) 1 [.ref aT] [(aT, .inr (7, [.ref aT_text, .int vT_length, .ref aT_read, .int vT_readMany, .int vT_people, .int vT_toldDay, .int vT_toldBroken, .ref aT_spells, .int vT_many, .int vT_now, .int vT_deeds, .ref aT_pasts, .int vT_pastMany, .ref aT_keptStates, .ref aT_keptDeeds, .ref aT_isKept, .int vT_at, .int vT_place, .int vT_end, .int vT_readPeople, .int vT_readSpells, .int vT_lifted, .ref aT_fars, .ref aT_queue, .int vT_queued, .ref aT_later, .int vT_laterMany, .ref aT_onWay, .ref aT_row, .int vT_rowMany, .ref aT_princes, .int vT_princeMany, .ref aT_tries, .int vT_triedMany])), (aT_text, .inl (G.2.1, 240, .inl fT_text))] (some (.int r0)) := by
  refine RO_of (by decide) (Nat.le_of_ble_eq_true rfl) ?_
  intro p e s m ar below meth c R Q H ls X hR hP hKK hS0 hl ret
  generalize hrs : r0 = rs at hev ret
  have hl : lv_has ls 1 [(0, .ref aT)] := hl
  obtain ⟨hx, hb, hml, hown, hts, hT⟩ := id X
  have hK := hKK.1
  have hw : ∀ w ∈ T0, w.before ar s = true := fun w h => hts w (hT w h)
  unfold f_Mo_spellWord at hev
  refine lv_aload_n hx hb dX11_spellWord_0 rfl (lv_at hl 0 rfl) ?_
  refine lv_ldc (v := (16946579 : Int32)) hx hb hown (hw _ u1226) dX11_spellWord_1 ?_
  refine lv_iconst (v := (5 : Int32)) hx hb dX11_spellWord_3 (by decide) ?_
  obtain ⟨y1, hq, hev⟩ := x_bd hev
  refine roV X hKK hR (st1 := [.int y1]) (c_Mo_isWord l G aT aT_text aT_read aT_spells aT_pasts aT_keptStates aT_keptDeeds aT_isKept aT_fars aT_queue aT_later aT_onWay aT_row aT_princes aT_tries vT_length vT_readMany vT_people vT_toldDay vT_toldBroken vT_many vT_now vT_deeds vT_pastMany vT_at vT_place vT_end vT_readPeople vT_readSpells vT_lifted vT_queued vT_laterMany vT_rowMany vT_princeMany vT_triedMany fT_text k (16946579 : Int32) (5 : Int32) y1 hq) K_X11_isWord u1227 (x_Psub hP [0, 1] rfl) rfl (q0 := 0) rfl (by decide) ⟨Nat.zero_le _, Nat.zero_le _⟩ rfl hl.1 rfl (Nat.le_of_ble_eq_true rfl) rfl dX11_spellWord_4 ?_
  refine lv_if_eq (tgt := 14) hx hb dX11_spellWord_7 (by decide) (fun c2 => ?_) (fun c2 => ?_)
  · replace hev := x_t c2 hev
    refine lv_aload_n hx hb dX11_spellWord_14 rfl (lv_at hl 0 rfl) ?_
    refine lv_ldc (v := (245318 : Int32)) hx hb hown (hw _ u1231) dX11_spellWord_15 ?_
    refine lv_iconst (v := (4 : Int32)) hx hb dX11_spellWord_17 (by decide) ?_
    obtain ⟨y3, hq, hev⟩ := x_bd hev
    refine roV X hKK hR (st1 := [.int y3]) (c_Mo_isWord l G aT aT_text aT_read aT_spells aT_pasts aT_keptStates aT_keptDeeds aT_isKept aT_fars aT_queue aT_later aT_onWay aT_row aT_princes aT_tries vT_length vT_readMany vT_people vT_toldDay vT_toldBroken vT_many vT_now vT_deeds vT_pastMany vT_at vT_place vT_end vT_readPeople vT_readSpells vT_lifted vT_queued vT_laterMany vT_rowMany vT_princeMany vT_triedMany fT_text k (245318 : Int32) (4 : Int32) y3 hq) K_X11_isWord u1227 (x_Psub hP [0, 1] rfl) rfl (q0 := 0) rfl (by decide) ⟨Nat.zero_le _, Nat.zero_le _⟩ rfl hl.1 rfl (Nat.le_of_ble_eq_true rfl) rfl dX11_spellWord_18 ?_
    refine lv_if_eq (tgt := 28) hx hb dX11_spellWord_21 (by decide) (fun c4 => ?_) (fun c4 => ?_)
    · replace hev := x_t c4 hev
      refine lv_aload_n hx hb dX11_spellWord_28 rfl (lv_at hl 0 rfl) ?_
      refine lv_ldc (v := (185005 : Int32)) hx hb hown (hw _ u1232) dX11_spellWord_29 ?_
      refine lv_iconst (v := (4 : Int32)) hx hb dX11_spellWord_31 (by decide) ?_
      obtain ⟨y5, hq, hev⟩ := x_bd hev
      refine roV X hKK hR (st1 := [.int y5]) (c_Mo_isWord l G aT aT_text aT_read aT_spells aT_pasts aT_keptStates aT_keptDeeds aT_isKept aT_fars aT_queue aT_later aT_onWay aT_row aT_princes aT_tries vT_length vT_readMany vT_people vT_toldDay vT_toldBroken vT_many vT_now vT_deeds vT_pastMany vT_at vT_place vT_end vT_readPeople vT_readSpells vT_lifted vT_queued vT_laterMany vT_rowMany vT_princeMany vT_triedMany fT_text k (185005 : Int32) (4 : Int32) y5 hq) K_X11_isWord u1227 (x_Psub hP [0, 1] rfl) rfl (q0 := 0) rfl (by decide) ⟨Nat.zero_le _, Nat.zero_le _⟩ rfl hl.1 rfl (Nat.le_of_ble_eq_true rfl) rfl dX11_spellWord_32 ?_
      refine lv_if_eq (tgt := 42) hx hb dX11_spellWord_35 (by decide) (fun c6 => ?_) (fun c6 => ?_)
      · replace hev := x_t c6 hev
        refine lv_aload_n hx hb dX11_spellWord_42 rfl (lv_at hl 0 rfl) ?_
        refine lv_ldc (v := (145698 : Int32)) hx hb hown (hw _ u1233) dX11_spellWord_43 ?_
        refine lv_iconst (v := (4 : Int32)) hx hb dX11_spellWord_45 (by decide) ?_
        obtain ⟨y7, hq, hev⟩ := x_bd hev
        refine roV X hKK hR (st1 := [.int y7]) (c_Mo_isWord l G aT aT_text aT_read aT_spells aT_pasts aT_keptStates aT_keptDeeds aT_isKept aT_fars aT_queue aT_later aT_onWay aT_row aT_princes aT_tries vT_length vT_readMany vT_people vT_toldDay vT_toldBroken vT_many vT_now vT_deeds vT_pastMany vT_at vT_place vT_end vT_readPeople vT_readSpells vT_lifted vT_queued vT_laterMany vT_rowMany vT_princeMany vT_triedMany fT_text k (145698 : Int32) (4 : Int32) y7 hq) K_X11_isWord u1227 (x_Psub hP [0, 1] rfl) rfl (q0 := 0) rfl (by decide) ⟨Nat.zero_le _, Nat.zero_le _⟩ rfl hl.1 rfl (Nat.le_of_ble_eq_true rfl) rfl dX11_spellWord_46 ?_
        refine lv_if_eq (tgt := 56) hx hb dX11_spellWord_49 (by decide) (fun c8 => ?_) (fun c8 => ?_)
        · replace hev := x_t c8 hev
          refine lv_iconst (v := (-1 : Int32)) hx hb dX11_spellWord_56 (by decide) ?_
          exact ret _ _ _ dX11_spellWord_57 ((show narrow _ (.int (-1 : Int32)) = .int (-1 : Int32) from rfl).trans (congrArg Value.int (Option.some.inj hev)))
        · replace hev := x_f c8 hev
          refine lv_iconst (v := (4 : Int32)) hx hb dX11_spellWord_52 (by decide) ?_
          refine lv_goto (tgt := 57) hx hb dX11_spellWord_53 (by decide) ?_
          exact ret _ _ _ dX11_spellWord_57 ((show narrow _ (.int (4 : Int32)) = .int (4 : Int32) from rfl).trans (congrArg Value.int (Option.some.inj hev)))
      · replace hev := x_f c6 hev
        refine lv_iconst (v := (3 : Int32)) hx hb dX11_spellWord_38 (by decide) ?_
        refine lv_goto (tgt := 57) hx hb dX11_spellWord_39 (by decide) ?_
        exact ret _ _ _ dX11_spellWord_57 ((show narrow _ (.int (3 : Int32)) = .int (3 : Int32) from rfl).trans (congrArg Value.int (Option.some.inj hev)))
    · replace hev := x_f c4 hev
      refine lv_iconst (v := (2 : Int32)) hx hb dX11_spellWord_24 (by decide) ?_
      refine lv_goto (tgt := 57) hx hb dX11_spellWord_25 (by decide) ?_
      exact ret _ _ _ dX11_spellWord_57 ((show narrow _ (.int (2 : Int32)) = .int (2 : Int32) from rfl).trans (congrArg Value.int (Option.some.inj hev)))
  · replace hev := x_f c2 hev
    refine lv_iconst (v := (1 : Int32)) hx hb dX11_spellWord_10 (by decide) ?_
    refine lv_goto (tgt := 57) hx hb dX11_spellWord_11 (by decide) ?_
    exact ret _ _ _ dX11_spellWord_57 ((show narrow _ (.int (1 : Int32)) = .int (1 : Int32) from rfl).trans (congrArg Value.int (Option.some.inj hev)))
def f_Mo_wordOf (k : Nat) (vT_end : Int32) (vT_place : Int32) (fT_text : Nat → Int32) : Option (Int32) := x_B (f_Mo_spellWord k vT_end vT_place fT_text) (fun y1 => if y1 = (-1 : Int32) then (x_B (f_Mo_isWord k vT_end vT_place fT_text (145452 : Int32) (4 : Int32)) (fun y3 => if y3 = 0 then (x_B (f_Mo_isWord k vT_end vT_place fT_text (25636 : Int32) (3 : Int32)) (fun y5 => if y5 = 0 then (x_B (f_Mo_isWord k vT_end vT_place fT_text (475381314 : Int32) (6 : Int32)) (fun y7 => if y7 = 0 then (x_B (f_Mo_isWord k vT_end vT_place fT_text (182306 : Int32) (4 : Int32)) (fun y9 => if y9 = 0 then (some (-1 : Int32)) else some (7 : Int32))) else some (6 : Int32))) else some (5 : Int32))) else some (0 : Int32))) else some y1)
set_option maxHeartbeats 8000000 in
set_option maxRecDepth 100000 in
theorem c_Mo_wordOf (l : Launch) (G : GG) (aT aT_text aT_read aT_spells aT_pasts aT_keptStates aT_keptDeeds aT_isKept aT_fars aT_queue aT_later aT_onWay aT_row aT_princes aT_tries : Nat) (vT_length : Int32) (vT_readMany : Int32) (vT_people : Int32) (vT_toldDay : Int32) (vT_toldBroken : Int32) (vT_many : Int32) (vT_now : Int32) (vT_deeds : Int32) (vT_pastMany : Int32) (vT_at : Int32) (vT_place : Int32) (vT_end : Int32) (vT_readPeople : Int32) (vT_readSpells : Int32) (vT_lifted : Int32) (vT_queued : Int32) (vT_laterMany : Int32) (vT_rowMany : Int32) (vT_princeMany : Int32) (vT_triedMany : Int32) (fT_text : Nat → Int32) (k : Nat) (r0 : Int32) (hev : f_Mo_wordOf k vT_end vT_place fT_text = some r0) : RO l G yX11_wordOf cX11_wordOf 2 (some .int) 2 [.ref aT] [(aT, .inr (7, [.ref aT_text, .int vT_length, .ref aT_read, .int vT_readMany, .int vT_people, .int vT_toldDay, .int vT_toldBroken, .ref aT_spells, .int vT_many, .int vT_now, .int vT_deeds, .ref aT_pasts, .int vT_pastMany, .ref aT_keptStates, .ref aT_keptDeeds, .ref aT_isKept, .int vT_at, .int vT_place, .int vT_end, .int vT_readPeople, .int vT_readSpells, .int vT_lifted, .ref aT_fars, .ref aT_queue, .int vT_queued, .ref aT_later, .int vT_laterMany, .ref aT_onWay, .ref aT_row, .int vT_rowMany, .ref aT_princes, .int vT_princeMany, .ref aT_tries, .int vT_triedMany])), (aT_text, .inl (G.2.1, 240, .inl fT_text))] (some (.int r0)) := by
  refine RO_of (by decide) (Nat.le_of_ble_eq_true rfl) ?_
  intro p e s m ar below meth c R Q H ls X hR hP hKK hS0 hl ret
  generalize hrs : r0 = rs at hev ret
  have hl : lv_has ls 2 [(0, .ref aT)] := hl
  obtain ⟨hx, hb, hml, hown, hts, hT⟩ := id X
  have hK := hKK.1
  have hw : ∀ w ∈ T0, w.before ar s = true := fun w h => hts w (hT w h)
  unfold f_Mo_wordOf at hev
  refine lv_aload_n hx hb dX11_wordOf_0 rfl (lv_at hl 0 rfl) ?_
  obtain ⟨y1, hq, hev⟩ := x_bd hev
  refine roV X hKK hR (st1 := [.int y1]) (c_Mo_spellWord l G aT aT_text aT_read aT_spells aT_pasts aT_keptStates aT_keptDeeds aT_isKept aT_fars aT_queue aT_later aT_onWay aT_row aT_princes aT_tries vT_length vT_readMany vT_people vT_toldDay vT_toldBroken vT_many vT_now vT_deeds vT_pastMany vT_at vT_place vT_end vT_readPeople vT_readSpells vT_lifted vT_queued vT_laterMany vT_rowMany vT_princeMany vT_triedMany fT_text k y1 hq) K_X11_spellWord u1222 (x_Psub hP [0, 1] rfl) rfl (q0 := 0) rfl (by decide) ⟨Nat.zero_le _, Nat.zero_le _⟩ rfl hl.1 rfl (Nat.le_of_ble_eq_true rfl) rfl dX11_wordOf_1 ?_
  refine lv_istore_n (lv' := [(1, .int y1), (0, .ref aT)]) hx hb dX11_wordOf_4 rfl hl (by decide) rfl (fun ls hl => ?_)
  refine lv_iload_n hx hb dX11_wordOf_5 rfl (lv_at hl 0 rfl) ?_
  refine lv_iconst (v := (-1 : Int32)) hx hb dX11_wordOf_6 (by decide) ?_
  refine lv_icmp_eq (tgt := 14) hx hb dX11_wordOf_7 (by decide) (fun c2 => ?_) (fun c2 => ?_)
  · replace hev := x_t c2 hev
    refine lv_aload_n hx hb dX11_wordOf_14 rfl (lv_at hl 1 rfl) ?_
    refine lv_ldc (v := (145452 : Int32)) hx hb hown (hw _ u1234) dX11_wordOf_15 ?_
    refine lv_iconst (v := (4 : Int32)) hx hb dX11_wordOf_17 (by decide) ?_
    obtain ⟨y3, hq, hev⟩ := x_bd hev
    refine roV X hKK hR (st1 := [.int y3]) (c_Mo_isWord l G aT aT_text aT_read aT_spells aT_pasts aT_keptStates aT_keptDeeds aT_isKept aT_fars aT_queue aT_later aT_onWay aT_row aT_princes aT_tries vT_length vT_readMany vT_people vT_toldDay vT_toldBroken vT_many vT_now vT_deeds vT_pastMany vT_at vT_place vT_end vT_readPeople vT_readSpells vT_lifted vT_queued vT_laterMany vT_rowMany vT_princeMany vT_triedMany fT_text k (145452 : Int32) (4 : Int32) y3 hq) K_X11_isWord u1227 (x_Psub hP [0, 1] rfl) rfl (q0 := 0) rfl (by decide) ⟨Nat.zero_le _, Nat.zero_le _⟩ rfl hl.1 rfl (Nat.le_of_ble_eq_true rfl) rfl dX11_wordOf_18 ?_
    refine lv_if_eq (tgt := 28) hx hb dX11_wordOf_21 (by decide) (fun c4 => ?_) (fun c4 => ?_)
    · replace hev := x_t c4 hev
      refine lv_aload_n hx hb dX11_wordOf_28 rfl (lv_at hl 1 rfl) ?_
      refine lv_sipush (v := (25636 : Int32)) hx hb dX11_wordOf_29 (by decide) ?_
      refine lv_iconst (v := (3 : Int32)) hx hb dX11_wordOf_32 (by decide) ?_
      obtain ⟨y5, hq, hev⟩ := x_bd hev
      refine roV X hKK hR (st1 := [.int y5]) (c_Mo_isWord l G aT aT_text aT_read aT_spells aT_pasts aT_keptStates aT_keptDeeds aT_isKept aT_fars aT_queue aT_later aT_onWay aT_row aT_princes aT_tries vT_length vT_readMany vT_people vT_toldDay vT_toldBroken vT_many vT_now vT_deeds vT_pastMany vT_at vT_place vT_end vT_readPeople vT_readSpells vT_lifted vT_queued vT_laterMany vT_rowMany vT_princeMany vT_triedMany fT_text k (25636 : Int32) (3 : Int32) y5 hq) K_X11_isWord u1227 (x_Psub hP [0, 1] rfl) rfl (q0 := 0) rfl (by decide) ⟨Nat.zero_le _, Nat.zero_le _⟩ rfl hl.1 rfl (Nat.le_of_ble_eq_true rfl) rfl dX11_wordOf_33 ?_
      refine lv_if_eq (tgt := 43) hx hb dX11_wordOf_36 (by decide) (fun c6 => ?_) (fun c6 => ?_)
      · replace hev := x_t c6 hev
        refine lv_aload_n hx hb dX11_wordOf_43 rfl (lv_at hl 1 rfl) ?_
        refine lv_ldc (v := (475381314 : Int32)) hx hb hown (hw _ u1235) dX11_wordOf_44 ?_
        refine lv_bipush (v := (6 : Int32)) hx hb dX11_wordOf_46 (by decide) ?_
        obtain ⟨y7, hq, hev⟩ := x_bd hev
        refine roV X hKK hR (st1 := [.int y7]) (c_Mo_isWord l G aT aT_text aT_read aT_spells aT_pasts aT_keptStates aT_keptDeeds aT_isKept aT_fars aT_queue aT_later aT_onWay aT_row aT_princes aT_tries vT_length vT_readMany vT_people vT_toldDay vT_toldBroken vT_many vT_now vT_deeds vT_pastMany vT_at vT_place vT_end vT_readPeople vT_readSpells vT_lifted vT_queued vT_laterMany vT_rowMany vT_princeMany vT_triedMany fT_text k (475381314 : Int32) (6 : Int32) y7 hq) K_X11_isWord u1227 (x_Psub hP [0, 1] rfl) rfl (q0 := 0) rfl (by decide) ⟨Nat.zero_le _, Nat.zero_le _⟩ rfl hl.1 rfl (Nat.le_of_ble_eq_true rfl) rfl dX11_wordOf_48 ?_
        refine lv_if_eq (tgt := 59) hx hb dX11_wordOf_51 (by decide) (fun c8 => ?_) (fun c8 => ?_)
        · replace hev := x_t c8 hev
          refine lv_aload_n hx hb dX11_wordOf_59 rfl (lv_at hl 1 rfl) ?_
          refine lv_ldc (v := (182306 : Int32)) hx hb hown (hw _ u1236) dX11_wordOf_60 ?_
          refine lv_iconst (v := (4 : Int32)) hx hb dX11_wordOf_62 (by decide) ?_
          obtain ⟨y9, hq, hev⟩ := x_bd hev
          refine roV X hKK hR (st1 := [.int y9]) (c_Mo_isWord l G aT aT_text aT_read aT_spells aT_pasts aT_keptStates aT_keptDeeds aT_isKept aT_fars aT_queue aT_later aT_onWay aT_row aT_princes aT_tries vT_length vT_readMany vT_people vT_toldDay vT_toldBroken vT_many vT_now vT_deeds vT_pastMany vT_at vT_place vT_end vT_readPeople vT_readSpells vT_lifted vT_queued vT_laterMany vT_rowMany vT_princeMany vT_triedMany fT_text k (182306 : Int32) (4 : Int32) y9 hq) K_X11_isWord u1227 (x_Psub hP [0, 1] rfl) rfl (q0 := 0) rfl (by decide) ⟨Nat.zero_le _, Nat.zero_le _⟩ rfl hl.1 rfl (Nat.le_of_ble_eq_true rfl) rfl dX11_wordOf_63 ?_
          refine lv_if_eq (tgt := 74) hx hb dX11_wordOf_66 (by decide) (fun c10 => ?_) (fun c10 => ?_)
          · replace hev := x_t c10 hev
            refine lv_iconst (v := (-1 : Int32)) hx hb dX11_wordOf_74 (by decide) ?_
            exact ret _ _ _ dX11_wordOf_75 ((show narrow _ (.int (-1 : Int32)) = .int (-1 : Int32) from rfl).trans (congrArg Value.int (Option.some.inj hev)))
          · replace hev := x_f c10 hev
            refine lv_bipush (v := (7 : Int32)) hx hb dX11_wordOf_69 (by decide) ?_
            refine lv_goto (tgt := 75) hx hb dX11_wordOf_71 (by decide) ?_
            exact ret _ _ _ dX11_wordOf_75 ((show narrow _ (.int (7 : Int32)) = .int (7 : Int32) from rfl).trans (congrArg Value.int (Option.some.inj hev)))
        · replace hev := x_f c8 hev
          refine lv_bipush (v := (6 : Int32)) hx hb dX11_wordOf_54 (by decide) ?_
          refine lv_goto (tgt := 75) hx hb dX11_wordOf_56 (by decide) ?_
          exact ret _ _ _ dX11_wordOf_75 ((show narrow _ (.int (6 : Int32)) = .int (6 : Int32) from rfl).trans (congrArg Value.int (Option.some.inj hev)))
      · replace hev := x_f c6 hev
        refine lv_iconst (v := (5 : Int32)) hx hb dX11_wordOf_39 (by decide) ?_
        refine lv_goto (tgt := 75) hx hb dX11_wordOf_40 (by decide) ?_
        exact ret _ _ _ dX11_wordOf_75 ((show narrow _ (.int (5 : Int32)) = .int (5 : Int32) from rfl).trans (congrArg Value.int (Option.some.inj hev)))
    · replace hev := x_f c4 hev
      refine lv_iconst (v := (0 : Int32)) hx hb dX11_wordOf_24 (by decide) ?_
      refine lv_goto (tgt := 75) hx hb dX11_wordOf_25 (by decide) ?_
      exact ret _ _ _ dX11_wordOf_75 ((show narrow _ (.int (0 : Int32)) = .int (0 : Int32) from rfl).trans (congrArg Value.int (Option.some.inj hev)))
  · replace hev := x_f c2 hev
    refine lv_iload_n hx hb dX11_wordOf_10 rfl (lv_at hl 0 rfl) ?_
    refine lv_goto (tgt := 75) hx hb dX11_wordOf_11 (by decide) ?_
    exact ret _ _ _ dX11_wordOf_75 ((show narrow _ (.int y1) = .int y1 from rfl).trans (congrArg Value.int (Option.some.inj hev)))
def f_Mo_termWord (k : Nat) (vT_end : Int32) (vT_place : Int32) (fT_text : Nat → Int32) : Option (Int32) := x_B (f_Mo_isWord k vT_end vT_place fT_text (642347 : Int32) (4 : Int32)) (fun y1 => if y1 = 0 then (x_B (f_Mo_isWord k vT_end vT_place fT_text (529591 : Int32) (4 : Int32)) (fun y3 => if y3 = 0 then (x_B (f_Mo_isWord k vT_end vT_place fT_text (25636 : Int32) (3 : Int32)) (fun y5 => if y5 = 0 then (x_B (f_Mo_isWord k vT_end vT_place fT_text (20066792 : Int32) (5 : Int32)) (fun y7 => if y7 = 0 then (x_B (f_Mo_isWord k vT_end vT_place fT_text (178663 : Int32) (4 : Int32)) (fun y9 => if y9 = 0 then (x_B (f_Mo_isWord k vT_end vT_place fT_text (475381314 : Int32) (6 : Int32)) (fun y11 => if y11 = 0 then (x_B (f_Mo_isWord k vT_end vT_place fT_text (5651735 : Int32) (5 : Int32)) (fun y13 => if y13 = 0 then (x_B (f_Mo_isWord k vT_end vT_place fT_text (4370017 : Int32) (5 : Int32)) (fun y15 => if y15 = 0 then (some (-1 : Int32)) else some (7 : Int32))) else some (6 : Int32))) else some (5 : Int32))) else some (4 : Int32))) else some (3 : Int32))) else some (2 : Int32))) else some (1 : Int32))) else some (0 : Int32))
set_option maxHeartbeats 8000000 in
set_option maxRecDepth 100000 in
theorem c_Mo_termWord (l : Launch) (G : GG) (aT aT_text aT_read aT_spells aT_pasts aT_keptStates aT_keptDeeds aT_isKept aT_fars aT_queue aT_later aT_onWay aT_row aT_princes aT_tries : Nat) (vT_length : Int32) (vT_readMany : Int32) (vT_people : Int32) (vT_toldDay : Int32) (vT_toldBroken : Int32) (vT_many : Int32) (vT_now : Int32) (vT_deeds : Int32) (vT_pastMany : Int32) (vT_at : Int32) (vT_place : Int32) (vT_end : Int32) (vT_readPeople : Int32) (vT_readSpells : Int32) (vT_lifted : Int32) (vT_queued : Int32) (vT_laterMany : Int32) (vT_rowMany : Int32) (vT_princeMany : Int32) (vT_triedMany : Int32) (fT_text : Nat → Int32) (k : Nat) (r0 : Int32) (hev : f_Mo_termWord k vT_end vT_place fT_text = some r0) : RO l G yX11_termWord cX11_termWord 1 (some .int) 1 [.ref aT] [(aT, .inr (7, [.ref aT_text, .int vT_length, .ref aT_read, .int vT_readMany, .int vT_people, .int vT_toldDay, .int vT_toldBroken, .ref aT_spells, .int vT_many, .int vT_now, .int vT_deeds, .ref aT_pasts, .int vT_pastMany, .ref aT_keptStates, .ref aT_keptDeeds, .ref aT_isKept, .int vT_at, .int vT_place, .int vT_end, .int vT_readPeople, .int vT_readSpells, .int vT_lifted, .ref aT_fars, .ref aT_queue, .int vT_queued, .ref aT_later, .int vT_laterMany, .ref aT_onWay, .ref aT_row, .int vT_rowMany, .ref aT_princes, .int vT_princeMany, .ref aT_tries, .int vT_triedMany])), (aT_text, .inl (G.2.1, 240, .inl fT_text))] (some (.int r0)) := by
  refine RO_of (by decide) (Nat.le_of_ble_eq_true rfl) ?_
  intro p e s m ar below meth c R Q H ls X hR hP hKK hS0 hl ret
  generalize hrs : r0 = rs at hev ret
  have hl : lv_has ls 1 [(0, .ref aT)] := hl
  obtain ⟨hx, hb, hml, hown, hts, hT⟩ := id X
  have hK := hKK.1
  have hw : ∀ w ∈ T0, w.before ar s = true := fun w h => hts w (hT w h)
  unfold f_Mo_termWord at hev
  refine lv_aload_n hx hb dX11_termWord_0 rfl (lv_at hl 0 rfl) ?_
  refine lv_ldc (v := (642347 : Int32)) hx hb hown (hw _ u1258) dX11_termWord_1 ?_
  refine lv_iconst (v := (4 : Int32)) hx hb dX11_termWord_3 (by decide) ?_
  obtain ⟨y1, hq, hev⟩ := x_bd hev
  refine roV X hKK hR (st1 := [.int y1]) (c_Mo_isWord l G aT aT_text aT_read aT_spells aT_pasts aT_keptStates aT_keptDeeds aT_isKept aT_fars aT_queue aT_later aT_onWay aT_row aT_princes aT_tries vT_length vT_readMany vT_people vT_toldDay vT_toldBroken vT_many vT_now vT_deeds vT_pastMany vT_at vT_place vT_end vT_readPeople vT_readSpells vT_lifted vT_queued vT_laterMany vT_rowMany vT_princeMany vT_triedMany fT_text k (642347 : Int32) (4 : Int32) y1 hq) K_X11_isWord u1227 (x_Psub hP [0, 1] rfl) rfl (q0 := 0) rfl (by decide) ⟨Nat.zero_le _, Nat.zero_le _⟩ rfl hl.1 rfl (Nat.le_of_ble_eq_true rfl) rfl dX11_termWord_4 ?_
  refine lv_if_eq (tgt := 14) hx hb dX11_termWord_7 (by decide) (fun c2 => ?_) (fun c2 => ?_)
  · replace hev := x_t c2 hev
    refine lv_aload_n hx hb dX11_termWord_14 rfl (lv_at hl 0 rfl) ?_
    refine lv_ldc (v := (529591 : Int32)) hx hb hown (hw _ u1259) dX11_termWord_15 ?_
    refine lv_iconst (v := (4 : Int32)) hx hb dX11_termWord_17 (by decide) ?_
    obtain ⟨y3, hq, hev⟩ := x_bd hev
    refine roV X hKK hR (st1 := [.int y3]) (c_Mo_isWord l G aT aT_text aT_read aT_spells aT_pasts aT_keptStates aT_keptDeeds aT_isKept aT_fars aT_queue aT_later aT_onWay aT_row aT_princes aT_tries vT_length vT_readMany vT_people vT_toldDay vT_toldBroken vT_many vT_now vT_deeds vT_pastMany vT_at vT_place vT_end vT_readPeople vT_readSpells vT_lifted vT_queued vT_laterMany vT_rowMany vT_princeMany vT_triedMany fT_text k (529591 : Int32) (4 : Int32) y3 hq) K_X11_isWord u1227 (x_Psub hP [0, 1] rfl) rfl (q0 := 0) rfl (by decide) ⟨Nat.zero_le _, Nat.zero_le _⟩ rfl hl.1 rfl (Nat.le_of_ble_eq_true rfl) rfl dX11_termWord_18 ?_
    refine lv_if_eq (tgt := 28) hx hb dX11_termWord_21 (by decide) (fun c4 => ?_) (fun c4 => ?_)
    · replace hev := x_t c4 hev
      refine lv_aload_n hx hb dX11_termWord_28 rfl (lv_at hl 0 rfl) ?_
      refine lv_sipush (v := (25636 : Int32)) hx hb dX11_termWord_29 (by decide) ?_
      refine lv_iconst (v := (3 : Int32)) hx hb dX11_termWord_32 (by decide) ?_
      obtain ⟨y5, hq, hev⟩ := x_bd hev
      refine roV X hKK hR (st1 := [.int y5]) (c_Mo_isWord l G aT aT_text aT_read aT_spells aT_pasts aT_keptStates aT_keptDeeds aT_isKept aT_fars aT_queue aT_later aT_onWay aT_row aT_princes aT_tries vT_length vT_readMany vT_people vT_toldDay vT_toldBroken vT_many vT_now vT_deeds vT_pastMany vT_at vT_place vT_end vT_readPeople vT_readSpells vT_lifted vT_queued vT_laterMany vT_rowMany vT_princeMany vT_triedMany fT_text k (25636 : Int32) (3 : Int32) y5 hq) K_X11_isWord u1227 (x_Psub hP [0, 1] rfl) rfl (q0 := 0) rfl (by decide) ⟨Nat.zero_le _, Nat.zero_le _⟩ rfl hl.1 rfl (Nat.le_of_ble_eq_true rfl) rfl dX11_termWord_33 ?_
      refine lv_if_eq (tgt := 43) hx hb dX11_termWord_36 (by decide) (fun c6 => ?_) (fun c6 => ?_)
      · replace hev := x_t c6 hev
        refine lv_aload_n hx hb dX11_termWord_43 rfl (lv_at hl 0 rfl) ?_
        refine lv_ldc (v := (20066792 : Int32)) hx hb hown (hw _ u1260) dX11_termWord_44 ?_
        refine lv_iconst (v := (5 : Int32)) hx hb dX11_termWord_46 (by decide) ?_
        obtain ⟨y7, hq, hev⟩ := x_bd hev
        refine roV X hKK hR (st1 := [.int y7]) (c_Mo_isWord l G aT aT_text aT_read aT_spells aT_pasts aT_keptStates aT_keptDeeds aT_isKept aT_fars aT_queue aT_later aT_onWay aT_row aT_princes aT_tries vT_length vT_readMany vT_people vT_toldDay vT_toldBroken vT_many vT_now vT_deeds vT_pastMany vT_at vT_place vT_end vT_readPeople vT_readSpells vT_lifted vT_queued vT_laterMany vT_rowMany vT_princeMany vT_triedMany fT_text k (20066792 : Int32) (5 : Int32) y7 hq) K_X11_isWord u1227 (x_Psub hP [0, 1] rfl) rfl (q0 := 0) rfl (by decide) ⟨Nat.zero_le _, Nat.zero_le _⟩ rfl hl.1 rfl (Nat.le_of_ble_eq_true rfl) rfl dX11_termWord_47 ?_
        refine lv_if_eq (tgt := 57) hx hb dX11_termWord_50 (by decide) (fun c8 => ?_) (fun c8 => ?_)
        · replace hev := x_t c8 hev
          refine lv_aload_n hx hb dX11_termWord_57 rfl (lv_at hl 0 rfl) ?_
          refine lv_ldc (v := (178663 : Int32)) hx hb hown (hw _ u1261) dX11_termWord_58 ?_
          refine lv_iconst (v := (4 : Int32)) hx hb dX11_termWord_60 (by decide) ?_
          obtain ⟨y9, hq, hev⟩ := x_bd hev
          refine roV X hKK hR (st1 := [.int y9]) (c_Mo_isWord l G aT aT_text aT_read aT_spells aT_pasts aT_keptStates aT_keptDeeds aT_isKept aT_fars aT_queue aT_later aT_onWay aT_row aT_princes aT_tries vT_length vT_readMany vT_people vT_toldDay vT_toldBroken vT_many vT_now vT_deeds vT_pastMany vT_at vT_place vT_end vT_readPeople vT_readSpells vT_lifted vT_queued vT_laterMany vT_rowMany vT_princeMany vT_triedMany fT_text k (178663 : Int32) (4 : Int32) y9 hq) K_X11_isWord u1227 (x_Psub hP [0, 1] rfl) rfl (q0 := 0) rfl (by decide) ⟨Nat.zero_le _, Nat.zero_le _⟩ rfl hl.1 rfl (Nat.le_of_ble_eq_true rfl) rfl dX11_termWord_61 ?_
          refine lv_if_eq (tgt := 71) hx hb dX11_termWord_64 (by decide) (fun c10 => ?_) (fun c10 => ?_)
          · replace hev := x_t c10 hev
            refine lv_aload_n hx hb dX11_termWord_71 rfl (lv_at hl 0 rfl) ?_
            refine lv_ldc (v := (475381314 : Int32)) hx hb hown (hw _ u1235) dX11_termWord_72 ?_
            refine lv_bipush (v := (6 : Int32)) hx hb dX11_termWord_74 (by decide) ?_
            obtain ⟨y11, hq, hev⟩ := x_bd hev
            refine roV X hKK hR (st1 := [.int y11]) (c_Mo_isWord l G aT aT_text aT_read aT_spells aT_pasts aT_keptStates aT_keptDeeds aT_isKept aT_fars aT_queue aT_later aT_onWay aT_row aT_princes aT_tries vT_length vT_readMany vT_people vT_toldDay vT_toldBroken vT_many vT_now vT_deeds vT_pastMany vT_at vT_place vT_end vT_readPeople vT_readSpells vT_lifted vT_queued vT_laterMany vT_rowMany vT_princeMany vT_triedMany fT_text k (475381314 : Int32) (6 : Int32) y11 hq) K_X11_isWord u1227 (x_Psub hP [0, 1] rfl) rfl (q0 := 0) rfl (by decide) ⟨Nat.zero_le _, Nat.zero_le _⟩ rfl hl.1 rfl (Nat.le_of_ble_eq_true rfl) rfl dX11_termWord_76 ?_
            refine lv_if_eq (tgt := 86) hx hb dX11_termWord_79 (by decide) (fun c12 => ?_) (fun c12 => ?_)
            · replace hev := x_t c12 hev
              refine lv_aload_n hx hb dX11_termWord_86 rfl (lv_at hl 0 rfl) ?_
              refine lv_ldc (v := (5651735 : Int32)) hx hb hown (hw _ u1262) dX11_termWord_87 ?_
              refine lv_iconst (v := (5 : Int32)) hx hb dX11_termWord_89 (by decide) ?_
              obtain ⟨y13, hq, hev⟩ := x_bd hev
              refine roV X hKK hR (st1 := [.int y13]) (c_Mo_isWord l G aT aT_text aT_read aT_spells aT_pasts aT_keptStates aT_keptDeeds aT_isKept aT_fars aT_queue aT_later aT_onWay aT_row aT_princes aT_tries vT_length vT_readMany vT_people vT_toldDay vT_toldBroken vT_many vT_now vT_deeds vT_pastMany vT_at vT_place vT_end vT_readPeople vT_readSpells vT_lifted vT_queued vT_laterMany vT_rowMany vT_princeMany vT_triedMany fT_text k (5651735 : Int32) (5 : Int32) y13 hq) K_X11_isWord u1227 (x_Psub hP [0, 1] rfl) rfl (q0 := 0) rfl (by decide) ⟨Nat.zero_le _, Nat.zero_le _⟩ rfl hl.1 rfl (Nat.le_of_ble_eq_true rfl) rfl dX11_termWord_90 ?_
              refine lv_if_eq (tgt := 101) hx hb dX11_termWord_93 (by decide) (fun c14 => ?_) (fun c14 => ?_)
              · replace hev := x_t c14 hev
                refine lv_aload_n hx hb dX11_termWord_101 rfl (lv_at hl 0 rfl) ?_
                refine lv_ldc (v := (4370017 : Int32)) hx hb hown (hw _ u1263) dX11_termWord_102 ?_
                refine lv_iconst (v := (5 : Int32)) hx hb dX11_termWord_104 (by decide) ?_
                obtain ⟨y15, hq, hev⟩ := x_bd hev
                refine roV X hKK hR (st1 := [.int y15]) (c_Mo_isWord l G aT aT_text aT_read aT_spells aT_pasts aT_keptStates aT_keptDeeds aT_isKept aT_fars aT_queue aT_later aT_onWay aT_row aT_princes aT_tries vT_length vT_readMany vT_people vT_toldDay vT_toldBroken vT_many vT_now vT_deeds vT_pastMany vT_at vT_place vT_end vT_readPeople vT_readSpells vT_lifted vT_queued vT_laterMany vT_rowMany vT_princeMany vT_triedMany fT_text k (4370017 : Int32) (5 : Int32) y15 hq) K_X11_isWord u1227 (x_Psub hP [0, 1] rfl) rfl (q0 := 0) rfl (by decide) ⟨Nat.zero_le _, Nat.zero_le _⟩ rfl hl.1 rfl (Nat.le_of_ble_eq_true rfl) rfl dX11_termWord_105 ?_
                refine lv_if_eq (tgt := 116) hx hb dX11_termWord_108 (by decide) (fun c16 => ?_) (fun c16 => ?_)
                · replace hev := x_t c16 hev
                  refine lv_iconst (v := (-1 : Int32)) hx hb dX11_termWord_116 (by decide) ?_
                  exact ret _ _ _ dX11_termWord_117 ((show narrow _ (.int (-1 : Int32)) = .int (-1 : Int32) from rfl).trans (congrArg Value.int (Option.some.inj hev)))
                · replace hev := x_f c16 hev
                  refine lv_bipush (v := (7 : Int32)) hx hb dX11_termWord_111 (by decide) ?_
                  refine lv_goto (tgt := 117) hx hb dX11_termWord_113 (by decide) ?_
                  exact ret _ _ _ dX11_termWord_117 ((show narrow _ (.int (7 : Int32)) = .int (7 : Int32) from rfl).trans (congrArg Value.int (Option.some.inj hev)))
              · replace hev := x_f c14 hev
                refine lv_bipush (v := (6 : Int32)) hx hb dX11_termWord_96 (by decide) ?_
                refine lv_goto (tgt := 117) hx hb dX11_termWord_98 (by decide) ?_
                exact ret _ _ _ dX11_termWord_117 ((show narrow _ (.int (6 : Int32)) = .int (6 : Int32) from rfl).trans (congrArg Value.int (Option.some.inj hev)))
            · replace hev := x_f c12 hev
              refine lv_iconst (v := (5 : Int32)) hx hb dX11_termWord_82 (by decide) ?_
              refine lv_goto (tgt := 117) hx hb dX11_termWord_83 (by decide) ?_
              exact ret _ _ _ dX11_termWord_117 ((show narrow _ (.int (5 : Int32)) = .int (5 : Int32) from rfl).trans (congrArg Value.int (Option.some.inj hev)))
          · replace hev := x_f c10 hev
            refine lv_iconst (v := (4 : Int32)) hx hb dX11_termWord_67 (by decide) ?_
            refine lv_goto (tgt := 117) hx hb dX11_termWord_68 (by decide) ?_
            exact ret _ _ _ dX11_termWord_117 ((show narrow _ (.int (4 : Int32)) = .int (4 : Int32) from rfl).trans (congrArg Value.int (Option.some.inj hev)))
        · replace hev := x_f c8 hev
          refine lv_iconst (v := (3 : Int32)) hx hb dX11_termWord_53 (by decide) ?_
          refine lv_goto (tgt := 117) hx hb dX11_termWord_54 (by decide) ?_
          exact ret _ _ _ dX11_termWord_117 ((show narrow _ (.int (3 : Int32)) = .int (3 : Int32) from rfl).trans (congrArg Value.int (Option.some.inj hev)))
      · replace hev := x_f c6 hev
        refine lv_iconst (v := (2 : Int32)) hx hb dX11_termWord_39 (by decide) ?_
        refine lv_goto (tgt := 117) hx hb dX11_termWord_40 (by decide) ?_
        exact ret _ _ _ dX11_termWord_117 ((show narrow _ (.int (2 : Int32)) = .int (2 : Int32) from rfl).trans (congrArg Value.int (Option.some.inj hev)))
    · replace hev := x_f c4 hev
      refine lv_iconst (v := (1 : Int32)) hx hb dX11_termWord_24 (by decide) ?_
      refine lv_goto (tgt := 117) hx hb dX11_termWord_25 (by decide) ?_
      exact ret _ _ _ dX11_termWord_117 ((show narrow _ (.int (1 : Int32)) = .int (1 : Int32) from rfl).trans (congrArg Value.int (Option.some.inj hev)))
  · replace hev := x_f c2 hev
    refine lv_iconst (v := (0 : Int32)) hx hb dX11_termWord_10 (by decide) ?_
    refine lv_goto (tgt := 117) hx hb dX11_termWord_11 (by decide) ?_
    exact ret _ _ _ dX11_termWord_117 ((show narrow _ (.int (0 : Int32)) = .int (0 : Int32) from rfl).trans (congrArg Value.int (Option.some.inj hev)))
