def f_Mo_gone_J120 (rec : Int32 → Int32 → Int32 → Int32 → Int32 → (Nat → Int32) → (Nat → Int32) → Option (Int32 × Int32 × Int32 × Int32 × (Nat → Int32) × (Nat → Int32))) (k : Nat) (vT_lifted : Int32) (vT_many : Int32) (vT_now : Int32) (vT_people : Int32) (vT_queued : Int32) (fT_fars : Nat → Int32) (fT_queue : Nat → Int32) (fT_spells : Nat → Int32) (x1 : Int32) (x2 : Int32) (x3 : Int32) (x4 : Int32) (x5 : Int32) : Option (Int32 × Int32 × Int32 × Int32 × (Nat → Int32) × (Nat → Int32)) := x_L (x5 + (1 : Int32)) (fun y10 => rec x3 x4 y10 vT_lifted vT_queued fT_fars fT_queue)
def f_Mo_gone_J113 (rec : Int32 → Int32 → Int32 → Int32 → Int32 → (Nat → Int32) → (Nat → Int32) → Option (Int32 × Int32 × Int32 × Int32 × (Nat → Int32) × (Nat → Int32))) (k : Nat) (vT_lifted : Int32) (vT_many : Int32) (vT_now : Int32) (vT_people : Int32) (vT_queued : Int32) (fT_fars : Nat → Int32) (fT_queue : Nat → Int32) (fT_spells : Nat → Int32) (x1 : Int32) (x2 : Int32) (x5 : Int32) (x6 : Int32) : Option (Int32 × Int32 × Int32 × Int32 × (Nat → Int32) × (Nat → Int32)) := f_Mo_gone_J120 rec k vT_lifted vT_many vT_now vT_people vT_queued fT_fars fT_queue fT_spells x1 x2 x6 x5 x5
def f_Mo_gone_L44 (vT_many : Int32) (vT_now : Int32) (vT_people : Int32) (fT_spells : Nat → Int32) (x1 : Int32) (x2 : Int32) : Nat → Int32 → Int32 → Int32 → Int32 → Int32 → (Nat → Int32) → (Nat → Int32) → Option (Int32 × Int32 × Int32 × Int32 × (Nat → Int32) × (Nat → Int32))
  | 0, _, _, _, _, _, _, _ => none
  | k + 1, x3, x4, x5, vT_lifted, vT_queued, fT_fars, fT_queue => if vT_many ≤ x5 then (some (x3, x4, vT_lifted, vT_queued, fT_fars, fT_queue)) else x_B (f_Mo_has x1 x5) (fun y12 => if y12 = 0 then (x_B (f_Mo_has vT_now x5) (fun y14 => if y14 = 0 then (f_Mo_gone_J120 (f_Mo_gone_L44 vT_many vT_now vT_people fT_spells x1 x2 k) k vT_lifted vT_many vT_now vT_people vT_queued fT_fars fT_queue fT_spells x1 x2 x3 x4 x5) else x_B (f_Mo_layAll k vT_lifted vT_many vT_people vT_queued fT_fars fT_queue fT_spells (vT_now &&& (((1 : Int32) <<< (x5 &&& 31)) ^^^ (-1 : Int32)))) (fun ⟨w16, w17, w18, w19⟩ => x_B (f_Mo_fewestTo k w17 w18 w19 x1) (fun y20 => if y20 = (-1 : Int32) then (f_Mo_gone_J120 (f_Mo_gone_L44 vT_many vT_now vT_people fT_spells x1 x2 k) k w16 vT_many vT_now vT_people w17 w18 w19 fT_spells x1 x2 x3 x4 x5) else if x3 = (-1 : Int32) then (f_Mo_gone_J113 (f_Mo_gone_L44 vT_many vT_now vT_people fT_spells x1 x2 k) k w16 vT_many vT_now vT_people w17 w18 w19 fT_spells x1 x2 x5 y20) else if x3 ≤ y20 then (f_Mo_gone_J120 (f_Mo_gone_L44 vT_many vT_now vT_people fT_spells x1 x2 k) k w16 vT_many vT_now vT_people w17 w18 w19 fT_spells x1 x2 x3 x4 x5) else f_Mo_gone_J113 (f_Mo_gone_L44 vT_many vT_now vT_people fT_spells x1 x2 k) k w16 vT_many vT_now vT_people w17 w18 w19 fT_spells x1 x2 x5 y20)))) else f_Mo_gone_J120 (f_Mo_gone_L44 vT_many vT_now vT_people fT_spells x1 x2 k) k vT_lifted vT_many vT_now vT_people vT_queued fT_fars fT_queue fT_spells x1 x2 x3 x4 x5)
def f_Mo_gone (k : Nat) (vT_lifted : Int32) (vT_many : Int32) (vT_now : Int32) (vT_people : Int32) (vT_queued : Int32) (fT_fars : Nat → Int32) (fT_queue : Nat → Int32) (fT_spells : Nat → Int32) (p1 : Int32) (p2 : Int32) : Option (Int32 × Int32 × Int32 × (Nat → Int32) × (Nat → Int32)) := x_B (f_Mo_isSet vT_many p1) (fun y1 => if y1 = 0 then (some ((-2 : Int32), vT_lifted, vT_queued, fT_fars, fT_queue)) else x_B (f_Mo_in ((p2).toInt64) (0 : Int64) (1 : Int64)) (fun y3 => if y3 = 0 then (some ((-3 : Int32), vT_lifted, vT_queued, fT_fars, fT_queue)) else x_B (f_Mo_layAll k vT_lifted vT_many vT_people vT_queued fT_fars fT_queue fT_spells vT_now) (fun ⟨w5, w6, w7, w8⟩ => x_B (f_Mo_fewestTo k w6 w7 w8 p1) (fun y9 => x_B (f_Mo_gone_L44 vT_many vT_now vT_people fT_spells p1 p2 k y9 (-1 : Int32) (0 : Int32) w5 w6 w7 w8) (fun ⟨y24, y25, w26, w27, w28, w29⟩ => if y25 = (-1 : Int32) then (some ((-1 : Int32), w26, w27, w28, w29)) else if p2 = 0 then (some (y25, w26, w27, w28, w29)) else some (y24, w26, w27, w28, w29))))))
set_option maxHeartbeats 8000000 in
set_option maxRecDepth 100000 in
theorem c_Mo_gone (l : Launch) (G : GG) (aT aT_text aT_read aT_spells aT_pasts aT_keptStates aT_keptDeeds aT_isKept aT_fars aT_queue aT_later aT_onWay aT_row aT_princes aT_tries : Nat) (vT_length : Int32) (vT_readMany : Int32) (vT_people : Int32) (vT_toldDay : Int32) (vT_toldBroken : Int32) (vT_many : Int32) (vT_now : Int32) (vT_deeds : Int32) (vT_pastMany : Int32) (vT_at : Int32) (vT_place : Int32) (vT_end : Int32) (vT_readPeople : Int32) (vT_readSpells : Int32) (vT_lifted : Int32) (vT_queued : Int32) (vT_laterMany : Int32) (vT_rowMany : Int32) (vT_princeMany : Int32) (vT_triedMany : Int32) (fT_fars : Nat → Int32) (fT_queue : Nat → Int32) (fT_spells : Nat → Int32) (k : Nat) (p1 : Int32) (p2 : Int32) (r0 : Int32) (wvT_lifted : Int32) (wvT_queued : Int32) (wfT_fars : Nat → Int32) (wfT_queue : Nat → Int32) (hev : f_Mo_gone k vT_lifted vT_many vT_now vT_people vT_queued fT_fars fT_queue fT_spells p1 p2 = some (r0, wvT_lifted, wvT_queued, wfT_fars, wfT_queue)) : RW l G yX11_gone cX11_gone 7 (some .int) 6 [.ref aT, .int p1, .int p2] [(aT, .inr (7, [.ref aT_text, .int vT_length, .ref aT_read, .int vT_readMany, .int vT_people, .int vT_toldDay, .int vT_toldBroken, .ref aT_spells, .int vT_many, .int vT_now, .int vT_deeds, .ref aT_pasts, .int vT_pastMany, .ref aT_keptStates, .ref aT_keptDeeds, .ref aT_isKept, .int vT_at, .int vT_place, .int vT_end, .int vT_readPeople, .int vT_readSpells, .int vT_lifted, .ref aT_fars, .ref aT_queue, .int vT_queued, .ref aT_later, .int vT_laterMany, .ref aT_onWay, .ref aT_row, .int vT_rowMany, .ref aT_princes, .int vT_princeMany, .ref aT_tries, .int vT_triedMany])), (aT_fars, .inl (G.2.1, 57344, .inl fT_fars)), (aT_queue, .inl (G.2.1, 57344, .inl fT_queue)), (aT_spells, .inl (G.2.1, 50, .inl fT_spells))] (some (.int r0)) [(aT, .inr (7, [.ref aT_text, .int vT_length, .ref aT_read, .int vT_readMany, .int vT_people, .int vT_toldDay, .int vT_toldBroken, .ref aT_spells, .int vT_many, .int vT_now, .int vT_deeds, .ref aT_pasts, .int vT_pastMany, .ref aT_keptStates, .ref aT_keptDeeds, .ref aT_isKept, .int vT_at, .int vT_place, .int vT_end, .int vT_readPeople, .int vT_readSpells, .int wvT_lifted, .ref aT_fars, .ref aT_queue, .int wvT_queued, .ref aT_later, .int vT_laterMany, .ref aT_onWay, .ref aT_row, .int vT_rowMany, .ref aT_princes, .int vT_princeMany, .ref aT_tries, .int vT_triedMany])), (aT_fars, .inl (G.2.1, 57344, .inl wfT_fars)), (aT_queue, .inl (G.2.1, 57344, .inl wfT_queue)), (aT_spells, .inl (G.2.1, 50, .inl fT_spells))] 0 0 := by
  refine RW_of (by decide) (Nat.le_of_ble_eq_true rfl) ?_
  intro p e s m ar below meth c R Q A ls X hR hRc hin hP hKK hD hS hA hAb hl ret
  obtain ⟨rs, hrs⟩ : ∃ q, q = (r0, wvT_lifted, wvT_queued, wfT_fars, wfT_queue) := ⟨_, rfl⟩
  rw [← hrs] at hev
  have ret2 : ∀ (pc : Nat) (ls : Array Slot) (H : Heap) (lo : List Loc) (v r1 : Int32) (zvT_lifted : Int32) (zvT_queued : Int32) (zfT_fars : Nat → Int32) (zfT_queue : Nat → Int32), (r1, zvT_lifted, zvT_queued, zfT_fars, zfT_queue) = rs → decode cX11_gone pc = .ok (.ireturn, 1) → narrow .int (.int v) = .int r1 → va_P G.1 classes [(aT, .inr (7, [.ref aT_text, .int vT_length, .ref aT_read, .int vT_readMany, .int vT_people, .int vT_toldDay, .int vT_toldBroken, .ref aT_spells, .int vT_many, .int vT_now, .int vT_deeds, .ref aT_pasts, .int vT_pastMany, .ref aT_keptStates, .ref aT_keptDeeds, .ref aT_isKept, .int vT_at, .int vT_place, .int vT_end, .int vT_readPeople, .int vT_readSpells, .int zvT_lifted, .ref aT_fars, .ref aT_queue, .int zvT_queued, .ref aT_later, .int vT_laterMany, .ref aT_onWay, .ref aT_row, .int vT_rowMany, .ref aT_princes, .int vT_princeMany, .ref aT_tries, .int vT_triedMany])), (aT_fars, .inl (G.2.1, 57344, .inl zfT_fars)), (aT_queue, .inl (G.2.1, 57344, .inl zfT_queue)), (aT_spells, .inl (G.2.1, 50, .inl fT_spells))] H → va_D A [(aT, .inr (7, [.ref aT_text, .int vT_length, .ref aT_read, .int vT_readMany, .int vT_people, .int vT_toldDay, .int vT_toldBroken, .ref aT_spells, .int vT_many, .int vT_now, .int vT_deeds, .ref aT_pasts, .int vT_pastMany, .ref aT_keptStates, .ref aT_keptDeeds, .ref aT_isKept, .int vT_at, .int vT_place, .int vT_end, .int vT_readPeople, .int vT_readSpells, .int zvT_lifted, .ref aT_fars, .ref aT_queue, .int zvT_queued, .ref aT_later, .int vT_laterMany, .ref aT_onWay, .ref aT_row, .int vT_rowMany, .ref aT_princes, .int vT_princeMany, .ref aT_tries, .int vT_triedMany])), (aT_fars, .inl (G.2.1, 57344, .inl zfT_fars)), (aT_queue, .inl (G.2.1, 57344, .inl zfT_queue)), (aT_spells, .inl (G.2.1, 50, .inl fT_spells))] → va_S A s.heap H lo → W p l e R s m ar below meth c H lo 0 0 Q (F0 m pc ls [.int v]) := by
    intro pc ls H lo v r1 zvT_lifted zvT_queued zfT_fars zfT_queue he hd hn h1 h2 h3
    have he := he.trans hrs
    cases he
    exact ret.1 _ _ _ _ _ _ _ rfl rfl hd hn h1 h2 h3
  clear ret hrs
  have hl : lv_has ls 7 [(0, .ref aT), (1, .int p1), (2, .int p2)] := hl
  obtain ⟨hx, hb, hml, hown, hts, hT⟩ := id X
  have hK := hKK.1
  have hw : ∀ w ∈ T0, w.before ar s = true := fun w h => hts w (hT w h)
  have i11 := fun w h => hT w (inT11 w h)
  unfold f_Mo_gone at hev
  refine lv_aload_n hx hb dX11_gone_0 rfl (lv_at hl 0 rfl) ?_
  refine lv_iload_n hx hb dX11_gone_1 rfl (lv_at hl 1 rfl) ?_
  obtain ⟨y1, hq, hev⟩ := x_bd hev
  refine roV X (KK_at hKK hS hAb) hR (st1 := [.int y1]) (c_Mo_isSet l G aT aT_text aT_read aT_spells aT_pasts aT_keptStates aT_keptDeeds aT_isKept aT_fars aT_queue aT_later aT_onWay aT_row aT_princes aT_tries vT_length vT_readMany vT_people vT_toldDay vT_toldBroken vT_many vT_now vT_deeds vT_pastMany vT_at vT_place vT_end vT_readPeople vT_readSpells vT_lifted vT_queued vT_laterMany vT_rowMany vT_princeMany vT_triedMany p1 y1 hq) K_X11_isSet u1377 (x_Psub hP [0] rfl) rfl (q0 := 0) rfl (by decide) ⟨Nat.zero_le _, Nat.zero_le _⟩ rfl hl.1 rfl (Nat.le_of_ble_eq_true rfl) rfl dX11_gone_2 ?_
  refine lv_if_ne (tgt := 11) hx hb dX11_gone_5 (by decide) (fun c2 => ?_) (fun c2 => ?_)
  · replace hev := x_f c2 hev
    refine lv_iload_n hx hb dX11_gone_11 rfl (lv_at hl 2 rfl) ?_
    refine lv_i2l hx hb dX11_gone_12 rfl ?_
    refine lv_lconst (v := (0 : Int64)) hx hb dX11_gone_13 (by decide) ?_
    refine lv_lconst (v := (1 : Int64)) hx hb dX11_gone_14 (by decide) ?_
    obtain ⟨y3, hq, hev⟩ := x_bd hev
    refine roS X (KK_at hKK hS hAb) hR (st1 := [.int y3]) (c_Mo_in l G ((p2).toInt64) (0 : Int64) (1 : Int64) y3 hq) K_X11_in u1196 (x_Psub hP [] rfl) (by decide) ⟨Nat.zero_le _, Nat.zero_le _⟩ rfl hl.1 rfl (Nat.le_of_ble_eq_true rfl) rfl dX11_gone_15 ?_
    refine lv_if_ne (tgt := 24) hx hb dX11_gone_18 (by decide) (fun c4 => ?_) (fun c4 => ?_)
    · replace hev := x_f c4 hev
      refine lv_aload_n hx hb dX11_gone_24 rfl (lv_at hl 0 rfl) ?_
      refine lv_aload_n hx hb dX11_gone_25 rfl (lv_at hl 0 rfl) ?_
      refine va_get (D := G.1) (ci := 7) (v := .int vT_now) (C := RX11) (T := TX11) (N := 34) hx hb hts i11 hown hK hP 0 rfl rfl 9 (by decide) (hw _ u1096) (fun _ h9 => h9) rfl dX11_gone_26 ?_
      obtain ⟨⟨w5, w6, w7, w8⟩, hq, hev⟩ := x_bd hev
      refine rgV X (KK_at hKK hS hAb) hR (st1 := []) (ws2 := [(aT, .inr (7, [.ref aT_text, .int vT_length, .ref aT_read, .int vT_readMany, .int vT_people, .int vT_toldDay, .int vT_toldBroken, .ref aT_spells, .int vT_many, .int vT_now, .int vT_deeds, .ref aT_pasts, .int vT_pastMany, .ref aT_keptStates, .ref aT_keptDeeds, .ref aT_isKept, .int vT_at, .int vT_place, .int vT_end, .int vT_readPeople, .int vT_readSpells, .int w5, .ref aT_fars, .ref aT_queue, .int w6, .ref aT_later, .int vT_laterMany, .ref aT_onWay, .ref aT_row, .int vT_rowMany, .ref aT_princes, .int vT_princeMany, .ref aT_tries, .int vT_triedMany])), (aT_fars, .inl (G.2.1, 57344, .inl w7)), (aT_queue, .inl (G.2.1, 57344, .inl w8)), (aT_spells, .inl (G.2.1, 50, .inl fT_spells))]) (c_Mo_layAll l G aT aT_text aT_read aT_spells aT_pasts aT_keptStates aT_keptDeeds aT_isKept aT_fars aT_queue aT_later aT_onWay aT_row aT_princes aT_tries vT_length vT_readMany vT_people vT_toldDay vT_toldBroken vT_many vT_now vT_deeds vT_pastMany vT_at vT_place vT_end vT_readPeople vT_readSpells vT_lifted vT_queued vT_laterMany vT_rowMany vT_princeMany vT_triedMany fT_fars fT_queue fT_spells k vT_now w5 w6 w7 w8 hq) K_X11_layAll u1381 hP hD hS hA hAb [0, 1, 2, 3] rfl (sbC rfl (sbC rfl (sbC rfl (sbC rfl sb0)))) (mgN 0 rfl rfl (mgN 1 rfl rfl (mgN 2 rfl rfl (mgN 3 rfl rfl (mg0))))) rfl (q0 := 0) rfl (by decide) ⟨Nat.zero_le _, Nat.zero_le _⟩ rfl hl.1 rfl (Nat.le_of_ble_eq_true rfl) rfl dX11_gone_29 (fun H lo hP hD hS => ?_)
      refine lv_aload_n hx hb dX11_gone_32 rfl (lv_at hl 0 rfl) ?_
      refine lv_iload_n hx hb dX11_gone_33 rfl (lv_at hl 1 rfl) ?_
      obtain ⟨y9, hq, hev⟩ := x_bd hev
      refine roV X (KK_at hKK hS hAb) hR (st1 := [.int y9]) (c_Mo_fewestTo l G aT aT_text aT_read aT_spells aT_pasts aT_keptStates aT_keptDeeds aT_isKept aT_fars aT_queue aT_later aT_onWay aT_row aT_princes aT_tries vT_length vT_readMany vT_people vT_toldDay vT_toldBroken vT_many vT_now vT_deeds vT_pastMany vT_at vT_place vT_end vT_readPeople vT_readSpells w5 w6 vT_laterMany vT_rowMany vT_princeMany vT_triedMany w8 w7 k p1 y9 hq) K_X11_fewestTo u1400 (x_Psub hP [0, 2, 1] rfl) rfl (q0 := 0) rfl (by decide) ⟨Nat.zero_le _, Nat.zero_le _⟩ rfl hl.1 rfl (Nat.le_of_ble_eq_true rfl) rfl dX11_gone_34 ?_
      refine lv_istore_n (lv' := [(3, .int y9), (0, .ref aT), (1, .int p1), (2, .int p2)]) hx hb dX11_gone_37 rfl hl (by decide) rfl (fun ls hl => ?_)
      refine lv_iconst (v := (-1 : Int32)) hx hb dX11_gone_38 (by decide) ?_
      refine lv_istore (lv' := [(4, .int (-1 : Int32)), (3, .int y9), (0, .ref aT), (1, .int p1), (2, .int p2)]) hx hb dX11_gone_39 hl (by decide) rfl (fun ls hl => ?_)
      refine lv_iconst (v := (0 : Int32)) hx hb dX11_gone_41 (by decide) ?_
      refine lv_istore (lv' := [(5, .int (0 : Int32)), (4, .int (-1 : Int32)), (3, .int y9), (0, .ref aT), (1, .int p1), (2, .int p2)]) hx hb dX11_gone_42 hl (by decide) rfl (fun ls hl => ?_)
      have L44 : ∀ (x1 : Int32) (x2 : Int32), ∀ (k : Nat) (x3 : Int32) (x4 : Int32) (x5 : Int32) (vT_lifted : Int32) (vT_queued : Int32) (fT_fars : Nat → Int32) (fT_queue : Nat → Int32) (o3 : Int32) (o4 : Int32) (ovT_lifted : Int32) (ovT_queued : Int32) (ofT_fars : Nat → Int32) (ofT_queue : Nat → Int32), f_Mo_gone_L44 vT_many vT_now vT_people fT_spells x1 x2 k x3 x4 x5 vT_lifted vT_queued fT_fars fT_queue = some (o3, o4, ovT_lifted, ovT_queued, ofT_fars, ofT_queue) → (∀ (H : Heap) (lo : List Loc), va_P G.1 classes [(aT, .inr (7, [.ref aT_text, .int vT_length, .ref aT_read, .int vT_readMany, .int vT_people, .int vT_toldDay, .int vT_toldBroken, .ref aT_spells, .int vT_many, .int vT_now, .int vT_deeds, .ref aT_pasts, .int vT_pastMany, .ref aT_keptStates, .ref aT_keptDeeds, .ref aT_isKept, .int vT_at, .int vT_place, .int vT_end, .int vT_readPeople, .int vT_readSpells, .int ovT_lifted, .ref aT_fars, .ref aT_queue, .int ovT_queued, .ref aT_later, .int vT_laterMany, .ref aT_onWay, .ref aT_row, .int vT_rowMany, .ref aT_princes, .int vT_princeMany, .ref aT_tries, .int vT_triedMany])), (aT_fars, .inl (G.2.1, 57344, .inl ofT_fars)), (aT_queue, .inl (G.2.1, 57344, .inl ofT_queue)), (aT_spells, .inl (G.2.1, 50, .inl fT_spells))] H → va_D A [(aT, .inr (7, [.ref aT_text, .int vT_length, .ref aT_read, .int vT_readMany, .int vT_people, .int vT_toldDay, .int vT_toldBroken, .ref aT_spells, .int vT_many, .int vT_now, .int vT_deeds, .ref aT_pasts, .int vT_pastMany, .ref aT_keptStates, .ref aT_keptDeeds, .ref aT_isKept, .int vT_at, .int vT_place, .int vT_end, .int vT_readPeople, .int vT_readSpells, .int ovT_lifted, .ref aT_fars, .ref aT_queue, .int ovT_queued, .ref aT_later, .int vT_laterMany, .ref aT_onWay, .ref aT_row, .int vT_rowMany, .ref aT_princes, .int vT_princeMany, .ref aT_tries, .int vT_triedMany])), (aT_fars, .inl (G.2.1, 57344, .inl ofT_fars)), (aT_queue, .inl (G.2.1, 57344, .inl ofT_queue)), (aT_spells, .inl (G.2.1, 50, .inl fT_spells))] → va_S A s.heap H lo → ∀ (ls : Array Slot), lv_has ls 7 [(2, .int x2), (3, .int o3), (4, .int o4)] → W p l e R s m ar below meth c H lo 0 0 Q (F0 m 126 ls [])) → ∀ (H : Heap) (lo : List Loc), va_P G.1 classes [(aT, .inr (7, [.ref aT_text, .int vT_length, .ref aT_read, .int vT_readMany, .int vT_people, .int vT_toldDay, .int vT_toldBroken, .ref aT_spells, .int vT_many, .int vT_now, .int vT_deeds, .ref aT_pasts, .int vT_pastMany, .ref aT_keptStates, .ref aT_keptDeeds, .ref aT_isKept, .int vT_at, .int vT_place, .int vT_end, .int vT_readPeople, .int vT_readSpells, .int vT_lifted, .ref aT_fars, .ref aT_queue, .int vT_queued, .ref aT_later, .int vT_laterMany, .ref aT_onWay, .ref aT_row, .int vT_rowMany, .ref aT_princes, .int vT_princeMany, .ref aT_tries, .int vT_triedMany])), (aT_fars, .inl (G.2.1, 57344, .inl fT_fars)), (aT_queue, .inl (G.2.1, 57344, .inl fT_queue)), (aT_spells, .inl (G.2.1, 50, .inl fT_spells))] H → va_D A [(aT, .inr (7, [.ref aT_text, .int vT_length, .ref aT_read, .int vT_readMany, .int vT_people, .int vT_toldDay, .int vT_toldBroken, .ref aT_spells, .int vT_many, .int vT_now, .int vT_deeds, .ref aT_pasts, .int vT_pastMany, .ref aT_keptStates, .ref aT_keptDeeds, .ref aT_isKept, .int vT_at, .int vT_place, .int vT_end, .int vT_readPeople, .int vT_readSpells, .int vT_lifted, .ref aT_fars, .ref aT_queue, .int vT_queued, .ref aT_later, .int vT_laterMany, .ref aT_onWay, .ref aT_row, .int vT_rowMany, .ref aT_princes, .int vT_princeMany, .ref aT_tries, .int vT_triedMany])), (aT_fars, .inl (G.2.1, 57344, .inl fT_fars)), (aT_queue, .inl (G.2.1, 57344, .inl fT_queue)), (aT_spells, .inl (G.2.1, 50, .inl fT_spells))] → va_S A s.heap H lo → ∀ (ls : Array Slot), lv_has ls 7 [(0, .ref aT), (1, .int x1), (2, .int x2), (3, .int x3), (4, .int x4), (5, .int x5)] → W p l e R s m ar below meth c H lo 0 0 Q (F0 m 44 ls []) := by
        intro x1 x2 k
        induction k with
        | zero => intro x3 x4 x5 vT_lifted vT_queued fT_fars fT_queue o3 o4 ovT_lifted ovT_queued ofT_fars ofT_queue hev; rw [f_Mo_gone_L44] at hev; cases hev
        | succ k ih =>
          intro x3 x4 x5 vT_lifted vT_queued fT_fars fT_queue o3 o4 ovT_lifted ovT_queued ofT_fars ofT_queue hev hex H lo hP hD hS ls hl
          rw [f_Mo_gone_L44] at hev
          have J120 : ∀ (vT_lifted : Int32) (vT_queued : Int32) (fT_fars : Nat → Int32) (fT_queue : Nat → Int32) (x3 : Int32) (x4 : Int32) (x5 : Int32), ∀ (H : Heap) (lo : List Loc), va_P G.1 classes [(aT, .inr (7, [.ref aT_text, .int vT_length, .ref aT_read, .int vT_readMany, .int vT_people, .int vT_toldDay, .int vT_toldBroken, .ref aT_spells, .int vT_many, .int vT_now, .int vT_deeds, .ref aT_pasts, .int vT_pastMany, .ref aT_keptStates, .ref aT_keptDeeds, .ref aT_isKept, .int vT_at, .int vT_place, .int vT_end, .int vT_readPeople, .int vT_readSpells, .int vT_lifted, .ref aT_fars, .ref aT_queue, .int vT_queued, .ref aT_later, .int vT_laterMany, .ref aT_onWay, .ref aT_row, .int vT_rowMany, .ref aT_princes, .int vT_princeMany, .ref aT_tries, .int vT_triedMany])), (aT_fars, .inl (G.2.1, 57344, .inl fT_fars)), (aT_queue, .inl (G.2.1, 57344, .inl fT_queue)), (aT_spells, .inl (G.2.1, 50, .inl fT_spells))] H → va_D A [(aT, .inr (7, [.ref aT_text, .int vT_length, .ref aT_read, .int vT_readMany, .int vT_people, .int vT_toldDay, .int vT_toldBroken, .ref aT_spells, .int vT_many, .int vT_now, .int vT_deeds, .ref aT_pasts, .int vT_pastMany, .ref aT_keptStates, .ref aT_keptDeeds, .ref aT_isKept, .int vT_at, .int vT_place, .int vT_end, .int vT_readPeople, .int vT_readSpells, .int vT_lifted, .ref aT_fars, .ref aT_queue, .int vT_queued, .ref aT_later, .int vT_laterMany, .ref aT_onWay, .ref aT_row, .int vT_rowMany, .ref aT_princes, .int vT_princeMany, .ref aT_tries, .int vT_triedMany])), (aT_fars, .inl (G.2.1, 57344, .inl fT_fars)), (aT_queue, .inl (G.2.1, 57344, .inl fT_queue)), (aT_spells, .inl (G.2.1, 50, .inl fT_spells))] → va_S A s.heap H lo → ∀ (ls : Array Slot), f_Mo_gone_J120 (f_Mo_gone_L44 vT_many vT_now vT_people fT_spells x1 x2 k) k vT_lifted vT_many vT_now vT_people vT_queued fT_fars fT_queue fT_spells x1 x2 x3 x4 x5 = some (o3, o4, ovT_lifted, ovT_queued, ofT_fars, ofT_queue) → lv_has ls 7 [(0, .ref aT), (1, .int x1), (2, .int x2), (3, .int x3), (4, .int x4), (5, .int x5)] → W p l e R s m ar below meth c H lo 0 0 Q (F0 m 120 ls []) := by
            intro vT_lifted vT_queued fT_fars fT_queue x3 x4 x5 H lo hP hD hS ls hev hl
            unfold f_Mo_gone_J120 at hev
            obtain ⟨y10, ey10⟩ : ∃ y : Int32, y = x5 + (1 : Int32) := ⟨_, rfl⟩
            refine lv_iinc (v := y10) (lv' := [(5, .int y10), (0, .ref aT), (1, .int x1), (2, .int x2), (3, .int x3), (4, .int x4)]) hx hb dX11_gone_120 hl (k := 5) rfl (by rw [ey10]; rfl) (by decide) rfl (fun ls hl => ?_)
            replace hev := x_lt hev y10 ey10
            refine lv_goto (tgt := 44) hx hb dX11_gone_123 (by decide) ?_
            exact ih x3 x4 y10 vT_lifted vT_queued fT_fars fT_queue _ _ _ _ _ _ hev hex _ _ hP hD hS ls (lv_sub hl [1, 2, 3, 4, 5, 0] rfl)
          have J113 : ∀ (vT_lifted : Int32) (vT_queued : Int32) (fT_fars : Nat → Int32) (fT_queue : Nat → Int32) (x5 : Int32) (x6 : Int32), ∀ (H : Heap) (lo : List Loc), va_P G.1 classes [(aT, .inr (7, [.ref aT_text, .int vT_length, .ref aT_read, .int vT_readMany, .int vT_people, .int vT_toldDay, .int vT_toldBroken, .ref aT_spells, .int vT_many, .int vT_now, .int vT_deeds, .ref aT_pasts, .int vT_pastMany, .ref aT_keptStates, .ref aT_keptDeeds, .ref aT_isKept, .int vT_at, .int vT_place, .int vT_end, .int vT_readPeople, .int vT_readSpells, .int vT_lifted, .ref aT_fars, .ref aT_queue, .int vT_queued, .ref aT_later, .int vT_laterMany, .ref aT_onWay, .ref aT_row, .int vT_rowMany, .ref aT_princes, .int vT_princeMany, .ref aT_tries, .int vT_triedMany])), (aT_fars, .inl (G.2.1, 57344, .inl fT_fars)), (aT_queue, .inl (G.2.1, 57344, .inl fT_queue)), (aT_spells, .inl (G.2.1, 50, .inl fT_spells))] H → va_D A [(aT, .inr (7, [.ref aT_text, .int vT_length, .ref aT_read, .int vT_readMany, .int vT_people, .int vT_toldDay, .int vT_toldBroken, .ref aT_spells, .int vT_many, .int vT_now, .int vT_deeds, .ref aT_pasts, .int vT_pastMany, .ref aT_keptStates, .ref aT_keptDeeds, .ref aT_isKept, .int vT_at, .int vT_place, .int vT_end, .int vT_readPeople, .int vT_readSpells, .int vT_lifted, .ref aT_fars, .ref aT_queue, .int vT_queued, .ref aT_later, .int vT_laterMany, .ref aT_onWay, .ref aT_row, .int vT_rowMany, .ref aT_princes, .int vT_princeMany, .ref aT_tries, .int vT_triedMany])), (aT_fars, .inl (G.2.1, 57344, .inl fT_fars)), (aT_queue, .inl (G.2.1, 57344, .inl fT_queue)), (aT_spells, .inl (G.2.1, 50, .inl fT_spells))] → va_S A s.heap H lo → ∀ (ls : Array Slot), f_Mo_gone_J113 (f_Mo_gone_L44 vT_many vT_now vT_people fT_spells x1 x2 k) k vT_lifted vT_many vT_now vT_people vT_queued fT_fars fT_queue fT_spells x1 x2 x5 x6 = some (o3, o4, ovT_lifted, ovT_queued, ofT_fars, ofT_queue) → lv_has ls 7 [(0, .ref aT), (1, .int x1), (2, .int x2), (5, .int x5), (6, .int x6)] → W p l e R s m ar below meth c H lo 0 0 Q (F0 m 113 ls []) := by
            intro vT_lifted vT_queued fT_fars fT_queue x5 x6 H lo hP hD hS ls hev hl
            unfold f_Mo_gone_J113 at hev
            refine lv_iload hx hb dX11_gone_113 (lv_at hl 4 rfl) ?_
            refine lv_istore_n (lv' := [(3, .int x6), (0, .ref aT), (1, .int x1), (2, .int x2), (5, .int x5), (6, .int x6)]) hx hb dX11_gone_115 rfl hl (by decide) rfl (fun ls hl => ?_)
            refine lv_iload hx hb dX11_gone_116 (lv_at hl 4 rfl) ?_
            refine lv_istore (lv' := [(4, .int x5), (3, .int x6), (0, .ref aT), (1, .int x1), (2, .int x2), (5, .int x5), (6, .int x6)]) hx hb dX11_gone_118 hl (by decide) rfl (fun ls hl => ?_)
            exact J120 vT_lifted vT_queued fT_fars fT_queue x6 x5 x5 _ _ hP hD hS ls hev (lv_sub hl [2, 3, 4, 1, 0, 5] rfl)
          refine lv_iload hx hb dX11_gone_44 (lv_at hl 5 rfl) ?_
          refine lv_aload_n hx hb dX11_gone_46 rfl (lv_at hl 0 rfl) ?_
          refine va_get (D := G.1) (ci := 7) (v := .int vT_many) (C := RX11) (T := TX11) (N := 34) hx hb hts i11 hown hK hP 0 rfl rfl 8 (by decide) (hw _ u1095) (fun _ h9 => h9) rfl dX11_gone_47 ?_
          refine lv_icmp_ge (tgt := 126) hx hb dX11_gone_50 (by decide) (fun c11 => ?_) (fun c11 => ?_)
          · replace hev := x_t c11 hev
            cases hev
            exact hex _ _ hP hD hS ls (lv_sub hl [2, 3, 4] rfl)
          · replace hev := x_f c11 hev
            refine lv_iload_n hx hb dX11_gone_53 rfl (lv_at hl 1 rfl) ?_
            refine lv_iload hx hb dX11_gone_54 (lv_at hl 5 rfl) ?_
            obtain ⟨y12, hq, hev⟩ := x_bd hev
            refine roS X (KK_at hKK hS hAb) hR (st1 := [.int y12]) (c_Mo_has l G x1 x5 y12 hq) K_X11_has u1287 (x_Psub hP [] rfl) (by decide) ⟨Nat.zero_le _, Nat.zero_le _⟩ rfl hl.1 rfl (Nat.le_of_ble_eq_true rfl) rfl dX11_gone_56 ?_
            refine lv_if_ne (tgt := 120) hx hb dX11_gone_59 (by decide) (fun c13 => ?_) (fun c13 => ?_)
            · replace hev := x_f c13 hev
              exact J120 vT_lifted vT_queued fT_fars fT_queue x3 x4 x5 _ _ hP hD hS ls hev (lv_sub hl [0, 1, 2, 3, 4, 5] rfl)
            · replace hev := x_t c13 hev
              refine lv_aload_n hx hb dX11_gone_62 rfl (lv_at hl 0 rfl) ?_
              refine va_get (D := G.1) (ci := 7) (v := .int vT_now) (C := RX11) (T := TX11) (N := 34) hx hb hts i11 hown hK hP 0 rfl rfl 9 (by decide) (hw _ u1096) (fun _ h9 => h9) rfl dX11_gone_63 ?_
              refine lv_iload hx hb dX11_gone_66 (lv_at hl 5 rfl) ?_
              obtain ⟨y14, hq, hev⟩ := x_bd hev
              refine roS X (KK_at hKK hS hAb) hR (st1 := [.int y14]) (c_Mo_has l G vT_now x5 y14 hq) K_X11_has u1287 (x_Psub hP [] rfl) (by decide) ⟨Nat.zero_le _, Nat.zero_le _⟩ rfl hl.1 rfl (Nat.le_of_ble_eq_true rfl) rfl dX11_gone_68 ?_
              refine lv_if_eq (tgt := 120) hx hb dX11_gone_71 (by decide) (fun c15 => ?_) (fun c15 => ?_)
              · replace hev := x_t c15 hev
                exact J120 vT_lifted vT_queued fT_fars fT_queue x3 x4 x5 _ _ hP hD hS ls hev (lv_sub hl [0, 1, 2, 3, 4, 5] rfl)
              · replace hev := x_f c15 hev
                refine lv_aload_n hx hb dX11_gone_74 rfl (lv_at hl 0 rfl) ?_
                refine lv_aload_n hx hb dX11_gone_75 rfl (lv_at hl 0 rfl) ?_
                refine va_get (D := G.1) (ci := 7) (v := .int vT_now) (C := RX11) (T := TX11) (N := 34) hx hb hts i11 hown hK hP 0 rfl rfl 9 (by decide) (hw _ u1096) (fun _ h9 => h9) rfl dX11_gone_76 ?_
                refine lv_iconst (v := (1 : Int32)) hx hb dX11_gone_79 (by decide) ?_
                refine lv_iload hx hb dX11_gone_80 (lv_at hl 5 rfl) ?_
                refine lv_ishl hx hb dX11_gone_82 ?_
                refine lv_iconst (v := (-1 : Int32)) hx hb dX11_gone_83 (by decide) ?_
                refine lv_ixor hx hb dX11_gone_84 ?_
                refine lv_iand hx hb dX11_gone_85 ?_
                obtain ⟨⟨w16, w17, w18, w19⟩, hq, hev⟩ := x_bd hev
                refine rgV X (KK_at hKK hS hAb) hR (st1 := []) (ws2 := [(aT, .inr (7, [.ref aT_text, .int vT_length, .ref aT_read, .int vT_readMany, .int vT_people, .int vT_toldDay, .int vT_toldBroken, .ref aT_spells, .int vT_many, .int vT_now, .int vT_deeds, .ref aT_pasts, .int vT_pastMany, .ref aT_keptStates, .ref aT_keptDeeds, .ref aT_isKept, .int vT_at, .int vT_place, .int vT_end, .int vT_readPeople, .int vT_readSpells, .int w16, .ref aT_fars, .ref aT_queue, .int w17, .ref aT_later, .int vT_laterMany, .ref aT_onWay, .ref aT_row, .int vT_rowMany, .ref aT_princes, .int vT_princeMany, .ref aT_tries, .int vT_triedMany])), (aT_fars, .inl (G.2.1, 57344, .inl w18)), (aT_queue, .inl (G.2.1, 57344, .inl w19)), (aT_spells, .inl (G.2.1, 50, .inl fT_spells))]) (c_Mo_layAll l G aT aT_text aT_read aT_spells aT_pasts aT_keptStates aT_keptDeeds aT_isKept aT_fars aT_queue aT_later aT_onWay aT_row aT_princes aT_tries vT_length vT_readMany vT_people vT_toldDay vT_toldBroken vT_many vT_now vT_deeds vT_pastMany vT_at vT_place vT_end vT_readPeople vT_readSpells vT_lifted vT_queued vT_laterMany vT_rowMany vT_princeMany vT_triedMany fT_fars fT_queue fT_spells k (vT_now &&& (((1 : Int32) <<< (x5 &&& 31)) ^^^ (-1 : Int32))) w16 w17 w18 w19 hq) K_X11_layAll u1381 hP hD hS hA hAb [0, 1, 2, 3] rfl (sbC rfl (sbC rfl (sbC rfl (sbC rfl sb0)))) (mgN 0 rfl rfl (mgN 1 rfl rfl (mgN 2 rfl rfl (mgN 3 rfl rfl (mg0))))) rfl (q0 := 0) rfl (by decide) ⟨Nat.zero_le _, Nat.zero_le _⟩ rfl hl.1 rfl (Nat.le_of_ble_eq_true rfl) rfl dX11_gone_86 (fun H lo hP hD hS => ?_)
                refine lv_aload_n hx hb dX11_gone_89 rfl (lv_at hl 0 rfl) ?_
                refine lv_iload_n hx hb dX11_gone_90 rfl (lv_at hl 1 rfl) ?_
                obtain ⟨y20, hq, hev⟩ := x_bd hev
                refine roV X (KK_at hKK hS hAb) hR (st1 := [.int y20]) (c_Mo_fewestTo l G aT aT_text aT_read aT_spells aT_pasts aT_keptStates aT_keptDeeds aT_isKept aT_fars aT_queue aT_later aT_onWay aT_row aT_princes aT_tries vT_length vT_readMany vT_people vT_toldDay vT_toldBroken vT_many vT_now vT_deeds vT_pastMany vT_at vT_place vT_end vT_readPeople vT_readSpells w16 w17 vT_laterMany vT_rowMany vT_princeMany vT_triedMany w19 w18 k x1 y20 hq) K_X11_fewestTo u1400 (x_Psub hP [0, 2, 1] rfl) rfl (q0 := 0) rfl (by decide) ⟨Nat.zero_le _, Nat.zero_le _⟩ rfl hl.1 rfl (Nat.le_of_ble_eq_true rfl) rfl dX11_gone_91 ?_
                refine lv_istore (lv' := [(6, .int y20), (0, .ref aT), (1, .int x1), (2, .int x2), (3, .int x3), (4, .int x4), (5, .int x5)]) hx hb dX11_gone_94 hl (by decide) rfl (fun ls hl => ?_)
                refine lv_iload hx hb dX11_gone_96 (lv_at hl 0 rfl) ?_
                refine lv_iconst (v := (-1 : Int32)) hx hb dX11_gone_98 (by decide) ?_
                refine lv_icmp_eq (tgt := 120) hx hb dX11_gone_99 (by decide) (fun c21 => ?_) (fun c21 => ?_)
                · replace hev := x_t c21 hev
                  exact J120 w16 w17 w18 w19 x3 x4 x5 _ _ hP hD hS ls hev (lv_sub hl [1, 2, 3, 4, 5, 6] rfl)
                · replace hev := x_f c21 hev
                  refine lv_iload_n hx hb dX11_gone_102 rfl (lv_at hl 4 rfl) ?_
                  refine lv_iconst (v := (-1 : Int32)) hx hb dX11_gone_103 (by decide) ?_
                  refine lv_icmp_eq (tgt := 113) hx hb dX11_gone_104 (by decide) (fun c22 => ?_) (fun c22 => ?_)
                  · replace hev := x_t c22 hev
                    exact J113 w16 w17 w18 w19 x5 y20 _ _ hP hD hS ls hev (lv_sub hl [1, 2, 3, 6, 0] rfl)
                  · replace hev := x_f c22 hev
                    refine lv_iload hx hb dX11_gone_107 (lv_at hl 0 rfl) ?_
                    refine lv_iload_n hx hb dX11_gone_109 rfl (lv_at hl 4 rfl) ?_
                    refine lv_icmp_ge (tgt := 120) hx hb dX11_gone_110 (by decide) (fun c23 => ?_) (fun c23 => ?_)
                    · replace hev := x_t c23 hev
                      exact J120 w16 w17 w18 w19 x3 x4 x5 _ _ hP hD hS ls hev (lv_sub hl [1, 2, 3, 4, 5, 6] rfl)
                    · replace hev := x_f c23 hev
                      exact J113 w16 w17 w18 w19 x5 y20 _ _ hP hD hS ls hev (lv_sub hl [1, 2, 3, 6, 0] rfl)
      obtain ⟨⟨y24, y25, w26, w27, w28, w29⟩, hq, hev⟩ := x_bd hev
      refine L44 p1 p2 k y9 (-1 : Int32) (0 : Int32) w5 w6 w7 w8 y24 y25 w26 w27 w28 w29 hq (fun H lo hP hD hS ls hl => ?_) _ _ hP hD hS ls (lv_sub hl [3, 4, 5, 2, 1, 0] rfl)
      refine lv_iload hx hb dX11_gone_126 (lv_at hl 2 rfl) ?_
      refine lv_iconst (v := (-1 : Int32)) hx hb dX11_gone_128 (by decide) ?_
      refine lv_icmp_ne (tgt := 136) hx hb dX11_gone_129 (by decide) (fun c30 => ?_) (fun c30 => ?_)
      · replace hev := x_f c30 hev
        refine lv_iload_n hx hb dX11_gone_136 rfl (lv_at hl 0 rfl) ?_
        refine lv_if_ne (tgt := 145) hx hb dX11_gone_137 (by decide) (fun c31 => ?_) (fun c31 => ?_)
        · replace hev := x_f c31 hev
          refine lv_iload_n hx hb dX11_gone_145 rfl (lv_at hl 1 rfl) ?_
          exact ret2 _ _ _ _ y24 y24 w26 w27 w28 w29 (Option.some.inj hev) dX11_gone_146 (show narrow _ (.int y24) = .int y24 from rfl) hP hD hS
        · replace hev := x_t c31 hev
          refine lv_iload hx hb dX11_gone_140 (lv_at hl 2 rfl) ?_
          refine lv_goto (tgt := 146) hx hb dX11_gone_142 (by decide) ?_
          exact ret2 _ _ _ _ y25 y25 w26 w27 w28 w29 (Option.some.inj hev) dX11_gone_146 (show narrow _ (.int y25) = .int y25 from rfl) hP hD hS
      · replace hev := x_t c30 hev
        refine lv_iconst (v := (-1 : Int32)) hx hb dX11_gone_132 (by decide) ?_
        refine lv_goto (tgt := 146) hx hb dX11_gone_133 (by decide) ?_
        exact ret2 _ _ _ _ (-1 : Int32) (-1 : Int32) w26 w27 w28 w29 (Option.some.inj hev) dX11_gone_146 (show narrow _ (.int (-1 : Int32)) = .int (-1 : Int32) from rfl) hP hD hS
    · replace hev := x_t c4 hev
      refine lv_bipush (v := (-3 : Int32)) hx hb dX11_gone_21 (by decide) ?_
      exact ret2 _ _ _ _ (-3 : Int32) (-3 : Int32) vT_lifted vT_queued fT_fars fT_queue (Option.some.inj hev) dX11_gone_23 (show narrow _ (.int (-3 : Int32)) = .int (-3 : Int32) from rfl) hP hD hS
  · replace hev := x_t c2 hev
    refine lv_bipush (v := (-2 : Int32)) hx hb dX11_gone_8 (by decide) ?_
    exact ret2 _ _ _ _ (-2 : Int32) (-2 : Int32) vT_lifted vT_queued fT_fars fT_queue (Option.some.inj hev) dX11_gone_10 (show narrow _ (.int (-2 : Int32)) = .int (-2 : Int32) from rfl) hP hD hS
def f_Mo_many_J48 (rec : Int32 → Int32 → Option (Int32)) (k : Nat) (vT_lifted : Int32) (vT_many : Int32) (vT_now : Int32) (vT_people : Int32) (vT_queued : Int32) (fT_fars : Nat → Int32) (fT_queue : Nat → Int32) (fT_spells : Nat → Int32) (x1 : Int32) (x3 : Int32) (s0 : Int32) (s1 : Int32) : Option (Int32) := x_L ((s1 + s0)) (fun y6 => x_L (x3 + (1 : Int32)) (fun y7 => rec y6 y7))
def f_Mo_many_L19 (vT_lifted : Int32) (vT_many : Int32) (vT_now : Int32) (vT_people : Int32) (vT_queued : Int32) (fT_fars : Nat → Int32) (fT_queue : Nat → Int32) (fT_spells : Nat → Int32) (x1 : Int32) : Nat → Int32 → Int32 → Option (Int32)
  | 0, _, _ => none
  | k + 1, x2, x3 => if vT_queued ≤ x3 then (some x2) else x_I 57344 fT_queue x3 (fun v10 => x_I 57344 fT_fars v10 (fun v12 => if v12 = x1 then (f_Mo_many_J48 (f_Mo_many_L19 vT_lifted vT_many vT_now vT_people vT_queued fT_fars fT_queue fT_spells x1 k) k vT_lifted vT_many vT_now vT_people vT_queued fT_fars fT_queue fT_spells x1 x3 (1 : Int32) x2) else f_Mo_many_J48 (f_Mo_many_L19 vT_lifted vT_many vT_now vT_people vT_queued fT_fars fT_queue fT_spells x1 k) k vT_lifted vT_many vT_now vT_people vT_queued fT_fars fT_queue fT_spells x1 x3 (0 : Int32) x2))
def f_Mo_many (k : Nat) (vT_lifted : Int32) (vT_many : Int32) (vT_now : Int32) (vT_people : Int32) (vT_queued : Int32) (fT_fars : Nat → Int32) (fT_queue : Nat → Int32) (fT_spells : Nat → Int32) (p1 : Int32) : Option (Int32 × Int32 × Int32 × (Nat → Int32) × (Nat → Int32)) := if 0 ≤ p1 then (x_B (f_Mo_layAll k vT_lifted vT_many vT_people vT_queued fT_fars fT_queue fT_spells vT_now) (fun ⟨w2, w3, w4, w5⟩ => x_B (f_Mo_many_L19 w2 vT_many vT_now vT_people w3 w4 w5 fT_spells p1 k (0 : Int32) (0 : Int32)) (fun y14 => some (y14, w2, w3, w4, w5)))) else some ((-3 : Int32), vT_lifted, vT_queued, fT_fars, fT_queue)
set_option maxHeartbeats 8000000 in
set_option maxRecDepth 100000 in
theorem c_Mo_many (l : Launch) (G : GG) (aT aT_text aT_read aT_spells aT_pasts aT_keptStates aT_keptDeeds aT_isKept aT_fars aT_queue aT_later aT_onWay aT_row aT_princes aT_tries : Nat) (vT_length : Int32) (vT_readMany : Int32) (vT_people : Int32) (vT_toldDay : Int32) (vT_toldBroken : Int32) (vT_many : Int32) (vT_now : Int32) (vT_deeds : Int32) (vT_pastMany : Int32) (vT_at : Int32) (vT_place : Int32) (vT_end : Int32) (vT_readPeople : Int32) (vT_readSpells : Int32) (vT_lifted : Int32) (vT_queued : Int32) (vT_laterMany : Int32) (vT_rowMany : Int32) (vT_princeMany : Int32) (vT_triedMany : Int32) (fT_fars : Nat → Int32) (fT_queue : Nat → Int32) (fT_spells : Nat → Int32) (k : Nat) (p1 : Int32) (r0 : Int32) (wvT_lifted : Int32) (wvT_queued : Int32) (wfT_fars : Nat → Int32) (wfT_queue : Nat → Int32) (hev : f_Mo_many k vT_lifted vT_many vT_now vT_people vT_queued fT_fars fT_queue fT_spells p1 = some (r0, wvT_lifted, wvT_queued, wfT_fars, wfT_queue)) : RW l G yX11_many cX11_many 4 (some .int) 6 [.ref aT, .int p1] [(aT, .inr (7, [.ref aT_text, .int vT_length, .ref aT_read, .int vT_readMany, .int vT_people, .int vT_toldDay, .int vT_toldBroken, .ref aT_spells, .int vT_many, .int vT_now, .int vT_deeds, .ref aT_pasts, .int vT_pastMany, .ref aT_keptStates, .ref aT_keptDeeds, .ref aT_isKept, .int vT_at, .int vT_place, .int vT_end, .int vT_readPeople, .int vT_readSpells, .int vT_lifted, .ref aT_fars, .ref aT_queue, .int vT_queued, .ref aT_later, .int vT_laterMany, .ref aT_onWay, .ref aT_row, .int vT_rowMany, .ref aT_princes, .int vT_princeMany, .ref aT_tries, .int vT_triedMany])), (aT_fars, .inl (G.2.1, 57344, .inl fT_fars)), (aT_queue, .inl (G.2.1, 57344, .inl fT_queue)), (aT_spells, .inl (G.2.1, 50, .inl fT_spells))] (some (.int r0)) [(aT, .inr (7, [.ref aT_text, .int vT_length, .ref aT_read, .int vT_readMany, .int vT_people, .int vT_toldDay, .int vT_toldBroken, .ref aT_spells, .int vT_many, .int vT_now, .int vT_deeds, .ref aT_pasts, .int vT_pastMany, .ref aT_keptStates, .ref aT_keptDeeds, .ref aT_isKept, .int vT_at, .int vT_place, .int vT_end, .int vT_readPeople, .int vT_readSpells, .int wvT_lifted, .ref aT_fars, .ref aT_queue, .int wvT_queued, .ref aT_later, .int vT_laterMany, .ref aT_onWay, .ref aT_row, .int vT_rowMany, .ref aT_princes, .int vT_princeMany, .ref aT_tries, .int vT_triedMany])), (aT_fars, .inl (G.2.1, 57344, .inl wfT_fars)), (aT_queue, .inl (G.2.1, 57344, .inl wfT_queue)), (aT_spells, .inl (G.2.1, 50, .inl fT_spells))] 0 0 := by
  refine RW_of (by decide) (Nat.le_of_ble_eq_true rfl) ?_
  intro p e s m ar below meth c R Q A ls X hR hRc hin hP hKK hD hS hA hAb hl ret
  obtain ⟨rs, hrs⟩ : ∃ q, q = (r0, wvT_lifted, wvT_queued, wfT_fars, wfT_queue) := ⟨_, rfl⟩
  rw [← hrs] at hev
  have ret2 : ∀ (pc : Nat) (ls : Array Slot) (H : Heap) (lo : List Loc) (v r1 : Int32) (zvT_lifted : Int32) (zvT_queued : Int32) (zfT_fars : Nat → Int32) (zfT_queue : Nat → Int32), (r1, zvT_lifted, zvT_queued, zfT_fars, zfT_queue) = rs → decode cX11_many pc = .ok (.ireturn, 1) → narrow .int (.int v) = .int r1 → va_P G.1 classes [(aT, .inr (7, [.ref aT_text, .int vT_length, .ref aT_read, .int vT_readMany, .int vT_people, .int vT_toldDay, .int vT_toldBroken, .ref aT_spells, .int vT_many, .int vT_now, .int vT_deeds, .ref aT_pasts, .int vT_pastMany, .ref aT_keptStates, .ref aT_keptDeeds, .ref aT_isKept, .int vT_at, .int vT_place, .int vT_end, .int vT_readPeople, .int vT_readSpells, .int zvT_lifted, .ref aT_fars, .ref aT_queue, .int zvT_queued, .ref aT_later, .int vT_laterMany, .ref aT_onWay, .ref aT_row, .int vT_rowMany, .ref aT_princes, .int vT_princeMany, .ref aT_tries, .int vT_triedMany])), (aT_fars, .inl (G.2.1, 57344, .inl zfT_fars)), (aT_queue, .inl (G.2.1, 57344, .inl zfT_queue)), (aT_spells, .inl (G.2.1, 50, .inl fT_spells))] H → va_D A [(aT, .inr (7, [.ref aT_text, .int vT_length, .ref aT_read, .int vT_readMany, .int vT_people, .int vT_toldDay, .int vT_toldBroken, .ref aT_spells, .int vT_many, .int vT_now, .int vT_deeds, .ref aT_pasts, .int vT_pastMany, .ref aT_keptStates, .ref aT_keptDeeds, .ref aT_isKept, .int vT_at, .int vT_place, .int vT_end, .int vT_readPeople, .int vT_readSpells, .int zvT_lifted, .ref aT_fars, .ref aT_queue, .int zvT_queued, .ref aT_later, .int vT_laterMany, .ref aT_onWay, .ref aT_row, .int vT_rowMany, .ref aT_princes, .int vT_princeMany, .ref aT_tries, .int vT_triedMany])), (aT_fars, .inl (G.2.1, 57344, .inl zfT_fars)), (aT_queue, .inl (G.2.1, 57344, .inl zfT_queue)), (aT_spells, .inl (G.2.1, 50, .inl fT_spells))] → va_S A s.heap H lo → W p l e R s m ar below meth c H lo 0 0 Q (F0 m pc ls [.int v]) := by
    intro pc ls H lo v r1 zvT_lifted zvT_queued zfT_fars zfT_queue he hd hn h1 h2 h3
    have he := he.trans hrs
    cases he
    exact ret.1 _ _ _ _ _ _ _ rfl rfl hd hn h1 h2 h3
  clear ret hrs
  have hl : lv_has ls 4 [(0, .ref aT), (1, .int p1)] := hl
  obtain ⟨hx, hb, hml, hown, hts, hT⟩ := id X
  have hK := hKK.1
  have hw : ∀ w ∈ T0, w.before ar s = true := fun w h => hts w (hT w h)
  have i11 := fun w h => hT w (inT11 w h)
  unfold f_Mo_many at hev
  refine lv_iload_n hx hb dX11_many_0 rfl (lv_at hl 1 rfl) ?_
  refine lv_if_ge (tgt := 7) hx hb dX11_many_1 (by decide) (fun c1 => ?_) (fun c1 => ?_)
  · replace hev := x_t c1 hev
    refine lv_aload_n hx hb dX11_many_7 rfl (lv_at hl 0 rfl) ?_
    refine lv_aload_n hx hb dX11_many_8 rfl (lv_at hl 0 rfl) ?_
    refine va_get (D := G.1) (ci := 7) (v := .int vT_now) (C := RX11) (T := TX11) (N := 34) hx hb hts i11 hown hK hP 0 rfl rfl 9 (by decide) (hw _ u1096) (fun _ h9 => h9) rfl dX11_many_9 ?_
    obtain ⟨⟨w2, w3, w4, w5⟩, hq, hev⟩ := x_bd hev
    refine rgV X (KK_at hKK hS hAb) hR (st1 := []) (ws2 := [(aT, .inr (7, [.ref aT_text, .int vT_length, .ref aT_read, .int vT_readMany, .int vT_people, .int vT_toldDay, .int vT_toldBroken, .ref aT_spells, .int vT_many, .int vT_now, .int vT_deeds, .ref aT_pasts, .int vT_pastMany, .ref aT_keptStates, .ref aT_keptDeeds, .ref aT_isKept, .int vT_at, .int vT_place, .int vT_end, .int vT_readPeople, .int vT_readSpells, .int w2, .ref aT_fars, .ref aT_queue, .int w3, .ref aT_later, .int vT_laterMany, .ref aT_onWay, .ref aT_row, .int vT_rowMany, .ref aT_princes, .int vT_princeMany, .ref aT_tries, .int vT_triedMany])), (aT_fars, .inl (G.2.1, 57344, .inl w4)), (aT_queue, .inl (G.2.1, 57344, .inl w5)), (aT_spells, .inl (G.2.1, 50, .inl fT_spells))]) (c_Mo_layAll l G aT aT_text aT_read aT_spells aT_pasts aT_keptStates aT_keptDeeds aT_isKept aT_fars aT_queue aT_later aT_onWay aT_row aT_princes aT_tries vT_length vT_readMany vT_people vT_toldDay vT_toldBroken vT_many vT_now vT_deeds vT_pastMany vT_at vT_place vT_end vT_readPeople vT_readSpells vT_lifted vT_queued vT_laterMany vT_rowMany vT_princeMany vT_triedMany fT_fars fT_queue fT_spells k vT_now w2 w3 w4 w5 hq) K_X11_layAll u1381 hP hD hS hA hAb [0, 1, 2, 3] rfl (sbC rfl (sbC rfl (sbC rfl (sbC rfl sb0)))) (mgN 0 rfl rfl (mgN 1 rfl rfl (mgN 2 rfl rfl (mgN 3 rfl rfl (mg0))))) rfl (q0 := 0) rfl (by decide) ⟨Nat.zero_le _, Nat.zero_le _⟩ rfl hl.1 rfl (Nat.le_of_ble_eq_true rfl) rfl dX11_many_12 (fun H lo hP hD hS => ?_)
    refine lv_iconst (v := (0 : Int32)) hx hb dX11_many_15 (by decide) ?_
    refine lv_istore_n (lv' := [(2, .int (0 : Int32)), (0, .ref aT), (1, .int p1)]) hx hb dX11_many_16 rfl hl (by decide) rfl (fun ls hl => ?_)
    refine lv_iconst (v := (0 : Int32)) hx hb dX11_many_17 (by decide) ?_
    refine lv_istore_n (lv' := [(3, .int (0 : Int32)), (2, .int (0 : Int32)), (0, .ref aT), (1, .int p1)]) hx hb dX11_many_18 rfl hl (by decide) rfl (fun ls hl => ?_)
    have L19 : ∀ (vT_lifted : Int32) (vT_queued : Int32) (fT_fars : Nat → Int32) (fT_queue : Nat → Int32) (x1 : Int32), ∀ (k : Nat) (x2 : Int32) (x3 : Int32) (o2 : Int32), f_Mo_many_L19 vT_lifted vT_many vT_now vT_people vT_queued fT_fars fT_queue fT_spells x1 k x2 x3 = some o2 → (∀ (H : Heap) (lo : List Loc), va_P G.1 classes [(aT, .inr (7, [.ref aT_text, .int vT_length, .ref aT_read, .int vT_readMany, .int vT_people, .int vT_toldDay, .int vT_toldBroken, .ref aT_spells, .int vT_many, .int vT_now, .int vT_deeds, .ref aT_pasts, .int vT_pastMany, .ref aT_keptStates, .ref aT_keptDeeds, .ref aT_isKept, .int vT_at, .int vT_place, .int vT_end, .int vT_readPeople, .int vT_readSpells, .int vT_lifted, .ref aT_fars, .ref aT_queue, .int vT_queued, .ref aT_later, .int vT_laterMany, .ref aT_onWay, .ref aT_row, .int vT_rowMany, .ref aT_princes, .int vT_princeMany, .ref aT_tries, .int vT_triedMany])), (aT_fars, .inl (G.2.1, 57344, .inl fT_fars)), (aT_queue, .inl (G.2.1, 57344, .inl fT_queue)), (aT_spells, .inl (G.2.1, 50, .inl fT_spells))] H → va_D A [(aT, .inr (7, [.ref aT_text, .int vT_length, .ref aT_read, .int vT_readMany, .int vT_people, .int vT_toldDay, .int vT_toldBroken, .ref aT_spells, .int vT_many, .int vT_now, .int vT_deeds, .ref aT_pasts, .int vT_pastMany, .ref aT_keptStates, .ref aT_keptDeeds, .ref aT_isKept, .int vT_at, .int vT_place, .int vT_end, .int vT_readPeople, .int vT_readSpells, .int vT_lifted, .ref aT_fars, .ref aT_queue, .int vT_queued, .ref aT_later, .int vT_laterMany, .ref aT_onWay, .ref aT_row, .int vT_rowMany, .ref aT_princes, .int vT_princeMany, .ref aT_tries, .int vT_triedMany])), (aT_fars, .inl (G.2.1, 57344, .inl fT_fars)), (aT_queue, .inl (G.2.1, 57344, .inl fT_queue)), (aT_spells, .inl (G.2.1, 50, .inl fT_spells))] → va_S A s.heap H lo → ∀ (ls : Array Slot), lv_has ls 4 [(2, .int o2)] → W p l e R s m ar below meth c H lo 0 0 Q (F0 m 56 ls [])) → ∀ (H : Heap) (lo : List Loc), va_P G.1 classes [(aT, .inr (7, [.ref aT_text, .int vT_length, .ref aT_read, .int vT_readMany, .int vT_people, .int vT_toldDay, .int vT_toldBroken, .ref aT_spells, .int vT_many, .int vT_now, .int vT_deeds, .ref aT_pasts, .int vT_pastMany, .ref aT_keptStates, .ref aT_keptDeeds, .ref aT_isKept, .int vT_at, .int vT_place, .int vT_end, .int vT_readPeople, .int vT_readSpells, .int vT_lifted, .ref aT_fars, .ref aT_queue, .int vT_queued, .ref aT_later, .int vT_laterMany, .ref aT_onWay, .ref aT_row, .int vT_rowMany, .ref aT_princes, .int vT_princeMany, .ref aT_tries, .int vT_triedMany])), (aT_fars, .inl (G.2.1, 57344, .inl fT_fars)), (aT_queue, .inl (G.2.1, 57344, .inl fT_queue)), (aT_spells, .inl (G.2.1, 50, .inl fT_spells))] H → va_D A [(aT, .inr (7, [.ref aT_text, .int vT_length, .ref aT_read, .int vT_readMany, .int vT_people, .int vT_toldDay, .int vT_toldBroken, .ref aT_spells, .int vT_many, .int vT_now, .int vT_deeds, .ref aT_pasts, .int vT_pastMany, .ref aT_keptStates, .ref aT_keptDeeds, .ref aT_isKept, .int vT_at, .int vT_place, .int vT_end, .int vT_readPeople, .int vT_readSpells, .int vT_lifted, .ref aT_fars, .ref aT_queue, .int vT_queued, .ref aT_later, .int vT_laterMany, .ref aT_onWay, .ref aT_row, .int vT_rowMany, .ref aT_princes, .int vT_princeMany, .ref aT_tries, .int vT_triedMany])), (aT_fars, .inl (G.2.1, 57344, .inl fT_fars)), (aT_queue, .inl (G.2.1, 57344, .inl fT_queue)), (aT_spells, .inl (G.2.1, 50, .inl fT_spells))] → va_S A s.heap H lo → ∀ (ls : Array Slot), lv_has ls 4 [(0, .ref aT), (1, .int x1), (2, .int x2), (3, .int x3)] → W p l e R s m ar below meth c H lo 0 0 Q (F0 m 19 ls []) := by
      intro vT_lifted vT_queued fT_fars fT_queue x1 k
      induction k with
      | zero => intro x2 x3 o2 hev; rw [f_Mo_many_L19] at hev; cases hev
      | succ k ih =>
        intro x2 x3 o2 hev hex H lo hP hD hS ls hl
        rw [f_Mo_many_L19] at hev
        have J48 : ∀ (x3 : Int32) (s0 : Int32) (s1 : Int32), ∀ (H : Heap) (lo : List Loc), va_P G.1 classes [(aT, .inr (7, [.ref aT_text, .int vT_length, .ref aT_read, .int vT_readMany, .int vT_people, .int vT_toldDay, .int vT_toldBroken, .ref aT_spells, .int vT_many, .int vT_now, .int vT_deeds, .ref aT_pasts, .int vT_pastMany, .ref aT_keptStates, .ref aT_keptDeeds, .ref aT_isKept, .int vT_at, .int vT_place, .int vT_end, .int vT_readPeople, .int vT_readSpells, .int vT_lifted, .ref aT_fars, .ref aT_queue, .int vT_queued, .ref aT_later, .int vT_laterMany, .ref aT_onWay, .ref aT_row, .int vT_rowMany, .ref aT_princes, .int vT_princeMany, .ref aT_tries, .int vT_triedMany])), (aT_fars, .inl (G.2.1, 57344, .inl fT_fars)), (aT_queue, .inl (G.2.1, 57344, .inl fT_queue)), (aT_spells, .inl (G.2.1, 50, .inl fT_spells))] H → va_D A [(aT, .inr (7, [.ref aT_text, .int vT_length, .ref aT_read, .int vT_readMany, .int vT_people, .int vT_toldDay, .int vT_toldBroken, .ref aT_spells, .int vT_many, .int vT_now, .int vT_deeds, .ref aT_pasts, .int vT_pastMany, .ref aT_keptStates, .ref aT_keptDeeds, .ref aT_isKept, .int vT_at, .int vT_place, .int vT_end, .int vT_readPeople, .int vT_readSpells, .int vT_lifted, .ref aT_fars, .ref aT_queue, .int vT_queued, .ref aT_later, .int vT_laterMany, .ref aT_onWay, .ref aT_row, .int vT_rowMany, .ref aT_princes, .int vT_princeMany, .ref aT_tries, .int vT_triedMany])), (aT_fars, .inl (G.2.1, 57344, .inl fT_fars)), (aT_queue, .inl (G.2.1, 57344, .inl fT_queue)), (aT_spells, .inl (G.2.1, 50, .inl fT_spells))] → va_S A s.heap H lo → ∀ (ls : Array Slot), f_Mo_many_J48 (f_Mo_many_L19 vT_lifted vT_many vT_now vT_people vT_queued fT_fars fT_queue fT_spells x1 k) k vT_lifted vT_many vT_now vT_people vT_queued fT_fars fT_queue fT_spells x1 x3 s0 s1 = some o2 → lv_has ls 4 [(0, .ref aT), (1, .int x1), (3, .int x3)] → W p l e R s m ar below meth c H lo 0 0 Q (F0 m 48 ls [.int s0, .int s1]) := by
          intro x3 s0 s1 H lo hP hD hS ls hev hl
          unfold f_Mo_many_J48 at hev
          refine lv_iadd hx hb dX11_many_48 ?_
          refine lv_topi (fun y6 ey6 => ?_)
          replace hev := x_lt hev y6 ey6
          refine lv_istore_n (lv' := [(2, .int y6), (0, .ref aT), (1, .int x1), (3, .int x3)]) hx hb dX11_many_49 rfl hl (by decide) rfl (fun ls hl => ?_)
          obtain ⟨y7, ey7⟩ : ∃ y : Int32, y = x3 + (1 : Int32) := ⟨_, rfl⟩
          refine lv_iinc (v := y7) (lv' := [(3, .int y7), (2, .int y6), (0, .ref aT), (1, .int x1)]) hx hb dX11_many_50 hl (k := 3) rfl (by rw [ey7]; rfl) (by decide) rfl (fun ls hl => ?_)
          replace hev := x_lt hev y7 ey7
          refine lv_goto (tgt := 19) hx hb dX11_many_53 (by decide) ?_
          exact ih y6 y7 _ hev hex _ _ hP hD hS ls (lv_sub hl [2, 3, 1, 0] rfl)
        refine lv_iload_n hx hb dX11_many_19 rfl (lv_at hl 3 rfl) ?_
        refine lv_aload_n hx hb dX11_many_20 rfl (lv_at hl 0 rfl) ?_
        refine va_get (D := G.1) (ci := 7) (v := .int vT_queued) (C := RX11) (T := TX11) (N := 34) hx hb hts i11 hown hK hP 0 rfl rfl 24 (by decide) (hw _ u1111) (fun _ h9 => h9) rfl dX11_many_21 ?_
        refine lv_icmp_ge (tgt := 56) hx hb dX11_many_24 (by decide) (fun c8 => ?_) (fun c8 => ?_)
        · replace hev := x_t c8 hev
          cases hev
          exact hex _ _ hP hD hS ls (lv_sub hl [2] rfl)
        · replace hev := x_f c8 hev
          refine lv_iload_n hx hb dX11_many_27 rfl (lv_at hl 2 rfl) ?_
          refine lv_aload_n hx hb dX11_many_28 rfl (lv_at hl 0 rfl) ?_
          refine va_get (D := G.1) (ci := 7) (v := .ref aT_fars) (C := RX11) (T := TX11) (N := 34) hx hb hts i11 hown hK hP 0 rfl rfl 22 (by decide) (hw _ u1109) (fun _ h9 => h9) rfl dX11_many_29 ?_
          refine lv_aload_n hx hb dX11_many_32 rfl (lv_at hl 0 rfl) ?_
          refine va_get (D := G.1) (ci := 7) (v := .ref aT_queue) (C := RX11) (T := TX11) (N := 34) hx hb hts i11 hown hK hP 0 rfl rfl 23 (by decide) (hw _ u1110) (fun _ h9 => h9) rfl dX11_many_33 ?_
          refine lv_iload_n hx hb dX11_many_36 rfl (lv_at hl 3 rfl) ?_
          obtain ⟨h9, hev⟩ := x_ld hev
          refine va_iald hx hb hK hP 2 0 rfl rfl h9 dX11_many_37 ?_
          refine lv_topi (fun v10 ev10 => ?_)
          replace hev := hev v10 ev10
          obtain ⟨h11, hev⟩ := x_ld hev
          refine va_iald hx hb hK hP 1 0 rfl rfl h11 dX11_many_38 ?_
          refine lv_topi (fun v12 ev12 => ?_)
          replace hev := hev v12 ev12
          refine lv_iload_n hx hb dX11_many_39 rfl (lv_at hl 1 rfl) ?_
          refine lv_icmp_ne (tgt := 47) hx hb dX11_many_40 (by decide) (fun c13 => ?_) (fun c13 => ?_)
          · replace hev := x_f c13 hev
            refine lv_iconst (v := (0 : Int32)) hx hb dX11_many_47 (by decide) ?_
            exact J48 x3 (0 : Int32) x2 _ _ hP hD hS ls hev (lv_sub hl [0, 1, 3] rfl)
          · replace hev := x_t c13 hev
            refine lv_iconst (v := (1 : Int32)) hx hb dX11_many_43 (by decide) ?_
            refine lv_goto (tgt := 48) hx hb dX11_many_44 (by decide) ?_
            exact J48 x3 (1 : Int32) x2 _ _ hP hD hS ls hev (lv_sub hl [0, 1, 3] rfl)
    obtain ⟨y14, hq, hev⟩ := x_bd hev
    refine L19 w2 w3 w4 w5 p1 k (0 : Int32) (0 : Int32) y14 hq (fun H lo hP hD hS ls hl => ?_) _ _ hP hD hS ls (lv_sub hl [2, 3, 1, 0] rfl)
    refine lv_iload_n hx hb dX11_many_56 rfl (lv_at hl 0 rfl) ?_
    exact ret2 _ _ _ _ y14 y14 w2 w3 w4 w5 (Option.some.inj hev) dX11_many_57 (show narrow _ (.int y14) = .int y14 from rfl) hP hD hS
  · replace hev := x_f c1 hev
    refine lv_bipush (v := (-3 : Int32)) hx hb dX11_many_4 (by decide) ?_
    exact ret2 _ _ _ _ (-3 : Int32) (-3 : Int32) vT_lifted vT_queued fT_fars fT_queue (Option.some.inj hev) dX11_many_6 (show narrow _ (.int (-3 : Int32)) = .int (-3 : Int32) from rfl) hP hD hS
def f_Mo_farthest (k : Nat) (vT_lifted : Int32) (vT_many : Int32) (vT_now : Int32) (vT_people : Int32) (vT_queued : Int32) (fT_fars : Nat → Int32) (fT_queue : Nat → Int32) (fT_spells : Nat → Int32) : Option (Int32 × Int32 × Int32 × (Nat → Int32) × (Nat → Int32)) := x_B (f_Mo_layAll k vT_lifted vT_many vT_people vT_queued fT_fars fT_queue fT_spells vT_now) (fun ⟨w1, w2, w3, w4⟩ => x_L ((w2 - (1 : Int32))) (fun y5 => x_I 57344 w4 y5 (fun v7 => x_I 57344 w3 v7 (fun v9 => some (v9, w1, w2, w3, w4)))))
set_option maxHeartbeats 8000000 in
set_option maxRecDepth 100000 in
theorem c_Mo_farthest (l : Launch) (G : GG) (aT aT_text aT_read aT_spells aT_pasts aT_keptStates aT_keptDeeds aT_isKept aT_fars aT_queue aT_later aT_onWay aT_row aT_princes aT_tries : Nat) (vT_length : Int32) (vT_readMany : Int32) (vT_people : Int32) (vT_toldDay : Int32) (vT_toldBroken : Int32) (vT_many : Int32) (vT_now : Int32) (vT_deeds : Int32) (vT_pastMany : Int32) (vT_at : Int32) (vT_place : Int32) (vT_end : Int32) (vT_readPeople : Int32) (vT_readSpells : Int32) (vT_lifted : Int32) (vT_queued : Int32) (vT_laterMany : Int32) (vT_rowMany : Int32) (vT_princeMany : Int32) (vT_triedMany : Int32) (fT_fars : Nat → Int32) (fT_queue : Nat → Int32) (fT_spells : Nat → Int32) (k : Nat) (r0 : Int32) (wvT_lifted : Int32) (wvT_queued : Int32) (wfT_fars : Nat → Int32) (wfT_queue : Nat → Int32) (hev : f_Mo_farthest k vT_lifted vT_many vT_now vT_people vT_queued fT_fars fT_queue fT_spells = some (r0, wvT_lifted, wvT_queued, wfT_fars, wfT_queue)) : RW l G yX11_farthest cX11_farthest 1 (some .int) 6 [.ref aT] [(aT, .inr (7, [.ref aT_text, .int vT_length, .ref aT_read, .int vT_readMany, .int vT_people, .int vT_toldDay, .int vT_toldBroken, .ref aT_spells, .int vT_many, .int vT_now, .int vT_deeds, .ref aT_pasts, .int vT_pastMany, .ref aT_keptStates, .ref aT_keptDeeds, .ref aT_isKept, .int vT_at, .int vT_place, .int vT_end, .int vT_readPeople, .int vT_readSpells, .int vT_lifted, .ref aT_fars, .ref aT_queue, .int vT_queued, .ref aT_later, .int vT_laterMany, .ref aT_onWay, .ref aT_row, .int vT_rowMany, .ref aT_princes, .int vT_princeMany, .ref aT_tries, .int vT_triedMany])), (aT_fars, .inl (G.2.1, 57344, .inl fT_fars)), (aT_queue, .inl (G.2.1, 57344, .inl fT_queue)), (aT_spells, .inl (G.2.1, 50, .inl fT_spells))] (some (.int r0)) [(aT, .inr (7, [.ref aT_text, .int vT_length, .ref aT_read, .int vT_readMany, .int vT_people, .int vT_toldDay, .int vT_toldBroken, .ref aT_spells, .int vT_many, .int vT_now, .int vT_deeds, .ref aT_pasts, .int vT_pastMany, .ref aT_keptStates, .ref aT_keptDeeds, .ref aT_isKept, .int vT_at, .int vT_place, .int vT_end, .int vT_readPeople, .int vT_readSpells, .int wvT_lifted, .ref aT_fars, .ref aT_queue, .int wvT_queued, .ref aT_later, .int vT_laterMany, .ref aT_onWay, .ref aT_row, .int vT_rowMany, .ref aT_princes, .int vT_princeMany, .ref aT_tries, .int vT_triedMany])), (aT_fars, .inl (G.2.1, 57344, .inl wfT_fars)), (aT_queue, .inl (G.2.1, 57344, .inl wfT_queue)), (aT_spells, .inl (G.2.1, 50, .inl fT_spells))] 0 0 := by
  refine RW_of (by decide) (Nat.le_of_ble_eq_true rfl) ?_
  intro p e s m ar below meth c R Q A ls X hR hRc hin hP hKK hD hS hA hAb hl ret
  obtain ⟨rs, hrs⟩ : ∃ q, q = (r0, wvT_lifted, wvT_queued, wfT_fars, wfT_queue) := ⟨_, rfl⟩
  rw [← hrs] at hev
  have ret2 : ∀ (pc : Nat) (ls : Array Slot) (H : Heap) (lo : List Loc) (v r1 : Int32) (zvT_lifted : Int32) (zvT_queued : Int32) (zfT_fars : Nat → Int32) (zfT_queue : Nat → Int32), (r1, zvT_lifted, zvT_queued, zfT_fars, zfT_queue) = rs → decode cX11_farthest pc = .ok (.ireturn, 1) → narrow .int (.int v) = .int r1 → va_P G.1 classes [(aT, .inr (7, [.ref aT_text, .int vT_length, .ref aT_read, .int vT_readMany, .int vT_people, .int vT_toldDay, .int vT_toldBroken, .ref aT_spells, .int vT_many, .int vT_now, .int vT_deeds, .ref aT_pasts, .int vT_pastMany, .ref aT_keptStates, .ref aT_keptDeeds, .ref aT_isKept, .int vT_at, .int vT_place, .int vT_end, .int vT_readPeople, .int vT_readSpells, .int zvT_lifted, .ref aT_fars, .ref aT_queue, .int zvT_queued, .ref aT_later, .int vT_laterMany, .ref aT_onWay, .ref aT_row, .int vT_rowMany, .ref aT_princes, .int vT_princeMany, .ref aT_tries, .int vT_triedMany])), (aT_fars, .inl (G.2.1, 57344, .inl zfT_fars)), (aT_queue, .inl (G.2.1, 57344, .inl zfT_queue)), (aT_spells, .inl (G.2.1, 50, .inl fT_spells))] H → va_D A [(aT, .inr (7, [.ref aT_text, .int vT_length, .ref aT_read, .int vT_readMany, .int vT_people, .int vT_toldDay, .int vT_toldBroken, .ref aT_spells, .int vT_many, .int vT_now, .int vT_deeds, .ref aT_pasts, .int vT_pastMany, .ref aT_keptStates, .ref aT_keptDeeds, .ref aT_isKept, .int vT_at, .int vT_place, .int vT_end, .int vT_readPeople, .int vT_readSpells, .int zvT_lifted, .ref aT_fars, .ref aT_queue, .int zvT_queued, .ref aT_later, .int vT_laterMany, .ref aT_onWay, .ref aT_row, .int vT_rowMany, .ref aT_princes, .int vT_princeMany, .ref aT_tries, .int vT_triedMany])), (aT_fars, .inl (G.2.1, 57344, .inl zfT_fars)), (aT_queue, .inl (G.2.1, 57344, .inl zfT_queue)), (aT_spells, .inl (G.2.1, 50, .inl fT_spells))] → va_S A s.heap H lo → W p l e R s m ar below meth c H lo 0 0 Q (F0 m pc ls [.int v]) := by
    intro pc ls H lo v r1 zvT_lifted zvT_queued zfT_fars zfT_queue he hd hn h1 h2 h3
    have he := he.trans hrs
    cases he
    exact ret.1 _ _ _ _ _ _ _ rfl rfl hd hn h1 h2 h3
  clear ret hrs
  have hl : lv_has ls 1 [(0, .ref aT)] := hl
  obtain ⟨hx, hb, hml, hown, hts, hT⟩ := id X
  have hK := hKK.1
  have hw : ∀ w ∈ T0, w.before ar s = true := fun w h => hts w (hT w h)
  have i11 := fun w h => hT w (inT11 w h)
  unfold f_Mo_farthest at hev
  refine lv_aload_n hx hb dX11_farthest_0 rfl (lv_at hl 0 rfl) ?_
  refine lv_aload_n hx hb dX11_farthest_1 rfl (lv_at hl 0 rfl) ?_
  refine va_get (D := G.1) (ci := 7) (v := .int vT_now) (C := RX11) (T := TX11) (N := 34) hx hb hts i11 hown hK hP 0 rfl rfl 9 (by decide) (hw _ u1096) (fun _ h9 => h9) rfl dX11_farthest_2 ?_
  obtain ⟨⟨w1, w2, w3, w4⟩, hq, hev⟩ := x_bd hev
  refine rgV X (KK_at hKK hS hAb) hR (st1 := []) (ws2 := [(aT, .inr (7, [.ref aT_text, .int vT_length, .ref aT_read, .int vT_readMany, .int vT_people, .int vT_toldDay, .int vT_toldBroken, .ref aT_spells, .int vT_many, .int vT_now, .int vT_deeds, .ref aT_pasts, .int vT_pastMany, .ref aT_keptStates, .ref aT_keptDeeds, .ref aT_isKept, .int vT_at, .int vT_place, .int vT_end, .int vT_readPeople, .int vT_readSpells, .int w1, .ref aT_fars, .ref aT_queue, .int w2, .ref aT_later, .int vT_laterMany, .ref aT_onWay, .ref aT_row, .int vT_rowMany, .ref aT_princes, .int vT_princeMany, .ref aT_tries, .int vT_triedMany])), (aT_fars, .inl (G.2.1, 57344, .inl w3)), (aT_queue, .inl (G.2.1, 57344, .inl w4)), (aT_spells, .inl (G.2.1, 50, .inl fT_spells))]) (c_Mo_layAll l G aT aT_text aT_read aT_spells aT_pasts aT_keptStates aT_keptDeeds aT_isKept aT_fars aT_queue aT_later aT_onWay aT_row aT_princes aT_tries vT_length vT_readMany vT_people vT_toldDay vT_toldBroken vT_many vT_now vT_deeds vT_pastMany vT_at vT_place vT_end vT_readPeople vT_readSpells vT_lifted vT_queued vT_laterMany vT_rowMany vT_princeMany vT_triedMany fT_fars fT_queue fT_spells k vT_now w1 w2 w3 w4 hq) K_X11_layAll u1381 hP hD hS hA hAb [0, 1, 2, 3] rfl (sbC rfl (sbC rfl (sbC rfl (sbC rfl sb0)))) (mgN 0 rfl rfl (mgN 1 rfl rfl (mgN 2 rfl rfl (mgN 3 rfl rfl (mg0))))) rfl (q0 := 0) rfl (by decide) ⟨Nat.zero_le _, Nat.zero_le _⟩ rfl hl.1 rfl (Nat.le_of_ble_eq_true rfl) rfl dX11_farthest_5 (fun H lo hP hD hS => ?_)
  refine lv_aload_n hx hb dX11_farthest_8 rfl (lv_at hl 0 rfl) ?_
  refine va_get (D := G.1) (ci := 7) (v := .ref aT_fars) (C := RX11) (T := TX11) (N := 34) hx hb hts i11 hown hK hP 0 rfl rfl 22 (by decide) (hw _ u1109) (fun _ h9 => h9) rfl dX11_farthest_9 ?_
  refine lv_aload_n hx hb dX11_farthest_12 rfl (lv_at hl 0 rfl) ?_
  refine va_get (D := G.1) (ci := 7) (v := .ref aT_queue) (C := RX11) (T := TX11) (N := 34) hx hb hts i11 hown hK hP 0 rfl rfl 23 (by decide) (hw _ u1110) (fun _ h9 => h9) rfl dX11_farthest_13 ?_
  refine lv_aload_n hx hb dX11_farthest_16 rfl (lv_at hl 0 rfl) ?_
  refine va_get (D := G.1) (ci := 7) (v := .int w2) (C := RX11) (T := TX11) (N := 34) hx hb hts i11 hown hK hP 0 rfl rfl 24 (by decide) (hw _ u1111) (fun _ h9 => h9) rfl dX11_farthest_17 ?_
  refine lv_iconst (v := (1 : Int32)) hx hb dX11_farthest_20 (by decide) ?_
  refine lv_isub hx hb dX11_farthest_21 ?_
  refine lv_topi (fun y5 ey5 => ?_)
  replace hev := x_lt hev y5 ey5
  obtain ⟨h6, hev⟩ := x_ld hev
  refine va_iald hx hb hK hP 2 0 rfl rfl h6 dX11_farthest_22 ?_
  refine lv_topi (fun v7 ev7 => ?_)
  replace hev := hev v7 ev7
  obtain ⟨h8, hev⟩ := x_ld hev
  refine va_iald hx hb hK hP 1 0 rfl rfl h8 dX11_farthest_23 ?_
  refine lv_topi (fun v9 ev9 => ?_)
  replace hev := hev v9 ev9
  exact ret2 _ _ _ _ v9 v9 w1 w2 w3 w4 (Option.some.inj hev) dX11_farthest_24 (show narrow _ (.int v9) = .int v9 from rfl) hP hD hS
def f_Mo_row (vT_people : Int32) (vT_rowMany : Int32) (fT_row : Nat → Int32) (p1 : Int32) (p2 : Int32) (p3 : Int32) : Option (Int32 × Int32 × (Nat → Int32)) := x_B (f_Mo_deedOf vT_people p1 p2 p3) (fun y1 => if 0 ≤ y1 then (if vT_rowMany = (12 : Int32) then (some ((-5 : Int32), vT_rowMany, fT_row)) else x_C 12 vT_rowMany (x_L ((vT_rowMany + (1 : Int32))) (fun y5 => some (y5, y5, (upd fT_row (vT_rowMany).toNatClampNeg y1))))) else some (y1, vT_rowMany, fT_row))
set_option maxHeartbeats 8000000 in
set_option maxRecDepth 100000 in
theorem c_Mo_row (l : Launch) (G : GG) (aT aT_text aT_read aT_spells aT_pasts aT_keptStates aT_keptDeeds aT_isKept aT_fars aT_queue aT_later aT_onWay aT_row aT_princes aT_tries : Nat) (vT_length : Int32) (vT_readMany : Int32) (vT_people : Int32) (vT_toldDay : Int32) (vT_toldBroken : Int32) (vT_many : Int32) (vT_now : Int32) (vT_deeds : Int32) (vT_pastMany : Int32) (vT_at : Int32) (vT_place : Int32) (vT_end : Int32) (vT_readPeople : Int32) (vT_readSpells : Int32) (vT_lifted : Int32) (vT_queued : Int32) (vT_laterMany : Int32) (vT_rowMany : Int32) (vT_princeMany : Int32) (vT_triedMany : Int32) (fT_row : Nat → Int32) (p1 : Int32) (p2 : Int32) (p3 : Int32) (r0 : Int32) (wvT_rowMany : Int32) (wfT_row : Nat → Int32) (hev : f_Mo_row vT_people vT_rowMany fT_row p1 p2 p3 = some (r0, wvT_rowMany, wfT_row)) : RW l G yX11_row cX11_row 5 (some .int) 3 [.ref aT, .int p1, .int p2, .int p3] [(aT, .inr (7, [.ref aT_text, .int vT_length, .ref aT_read, .int vT_readMany, .int vT_people, .int vT_toldDay, .int vT_toldBroken, .ref aT_spells, .int vT_many, .int vT_now, .int vT_deeds, .ref aT_pasts, .int vT_pastMany, .ref aT_keptStates, .ref aT_keptDeeds, .ref aT_isKept, .int vT_at, .int vT_place, .int vT_end, .int vT_readPeople, .int vT_readSpells, .int vT_lifted, .ref aT_fars, .ref aT_queue, .int vT_queued, .ref aT_later, .int vT_laterMany, .ref aT_onWay, .ref aT_row, .int vT_rowMany, .ref aT_princes, .int vT_princeMany, .ref aT_tries, .int vT_triedMany])), (aT_row, .inl (G.2.1, 12, .inl fT_row))] (some (.int r0)) [(aT, .inr (7, [.ref aT_text, .int vT_length, .ref aT_read, .int vT_readMany, .int vT_people, .int vT_toldDay, .int vT_toldBroken, .ref aT_spells, .int vT_many, .int vT_now, .int vT_deeds, .ref aT_pasts, .int vT_pastMany, .ref aT_keptStates, .ref aT_keptDeeds, .ref aT_isKept, .int vT_at, .int vT_place, .int vT_end, .int vT_readPeople, .int vT_readSpells, .int vT_lifted, .ref aT_fars, .ref aT_queue, .int vT_queued, .ref aT_later, .int vT_laterMany, .ref aT_onWay, .ref aT_row, .int wvT_rowMany, .ref aT_princes, .int vT_princeMany, .ref aT_tries, .int vT_triedMany])), (aT_row, .inl (G.2.1, 12, .inl wfT_row))] 0 0 := by
  refine RW_of (by decide) (Nat.le_of_ble_eq_true rfl) ?_
  intro p e s m ar below meth c R Q A ls X hR hRc hin hP hKK hD hS hA hAb hl ret
  obtain ⟨rs, hrs⟩ : ∃ q, q = (r0, wvT_rowMany, wfT_row) := ⟨_, rfl⟩
  rw [← hrs] at hev
  have ret2 : ∀ (pc : Nat) (ls : Array Slot) (H : Heap) (lo : List Loc) (v r1 : Int32) (zvT_rowMany : Int32) (zfT_row : Nat → Int32), (r1, zvT_rowMany, zfT_row) = rs → decode cX11_row pc = .ok (.ireturn, 1) → narrow .int (.int v) = .int r1 → va_P G.1 classes [(aT, .inr (7, [.ref aT_text, .int vT_length, .ref aT_read, .int vT_readMany, .int vT_people, .int vT_toldDay, .int vT_toldBroken, .ref aT_spells, .int vT_many, .int vT_now, .int vT_deeds, .ref aT_pasts, .int vT_pastMany, .ref aT_keptStates, .ref aT_keptDeeds, .ref aT_isKept, .int vT_at, .int vT_place, .int vT_end, .int vT_readPeople, .int vT_readSpells, .int vT_lifted, .ref aT_fars, .ref aT_queue, .int vT_queued, .ref aT_later, .int vT_laterMany, .ref aT_onWay, .ref aT_row, .int zvT_rowMany, .ref aT_princes, .int vT_princeMany, .ref aT_tries, .int vT_triedMany])), (aT_row, .inl (G.2.1, 12, .inl zfT_row))] H → va_D A [(aT, .inr (7, [.ref aT_text, .int vT_length, .ref aT_read, .int vT_readMany, .int vT_people, .int vT_toldDay, .int vT_toldBroken, .ref aT_spells, .int vT_many, .int vT_now, .int vT_deeds, .ref aT_pasts, .int vT_pastMany, .ref aT_keptStates, .ref aT_keptDeeds, .ref aT_isKept, .int vT_at, .int vT_place, .int vT_end, .int vT_readPeople, .int vT_readSpells, .int vT_lifted, .ref aT_fars, .ref aT_queue, .int vT_queued, .ref aT_later, .int vT_laterMany, .ref aT_onWay, .ref aT_row, .int zvT_rowMany, .ref aT_princes, .int vT_princeMany, .ref aT_tries, .int vT_triedMany])), (aT_row, .inl (G.2.1, 12, .inl zfT_row))] → va_S A s.heap H lo → W p l e R s m ar below meth c H lo 0 0 Q (F0 m pc ls [.int v]) := by
    intro pc ls H lo v r1 zvT_rowMany zfT_row he hd hn h1 h2 h3
    have he := he.trans hrs
    cases he
    exact ret.1 _ _ _ _ _ _ _ rfl rfl hd hn h1 h2 h3
  clear ret hrs
  have hl : lv_has ls 5 [(0, .ref aT), (1, .int p1), (2, .int p2), (3, .int p3)] := hl
  obtain ⟨hx, hb, hml, hown, hts, hT⟩ := id X
  have hK := hKK.1
  have hw : ∀ w ∈ T0, w.before ar s = true := fun w h => hts w (hT w h)
  have i11 := fun w h => hT w (inT11 w h)
  unfold f_Mo_row at hev
  refine lv_aload_n hx hb dX11_row_0 rfl (lv_at hl 0 rfl) ?_
  refine lv_iload_n hx hb dX11_row_1 rfl (lv_at hl 1 rfl) ?_
  refine lv_iload_n hx hb dX11_row_2 rfl (lv_at hl 2 rfl) ?_
  refine lv_iload_n hx hb dX11_row_3 rfl (lv_at hl 3 rfl) ?_
  obtain ⟨y1, hq, hev⟩ := x_bd hev
  refine roV X (KK_at hKK hS hAb) hR (st1 := [.int y1]) (c_Mo_deedOf l G aT aT_text aT_read aT_spells aT_pasts aT_keptStates aT_keptDeeds aT_isKept aT_fars aT_queue aT_later aT_onWay aT_row aT_princes aT_tries vT_length vT_readMany vT_people vT_toldDay vT_toldBroken vT_many vT_now vT_deeds vT_pastMany vT_at vT_place vT_end vT_readPeople vT_readSpells vT_lifted vT_queued vT_laterMany vT_rowMany vT_princeMany vT_triedMany p1 p2 p3 y1 hq) K_X11_deedOf u1341 (x_Psub hP [0] rfl) rfl (q0 := 0) rfl (by decide) ⟨Nat.zero_le _, Nat.zero_le _⟩ rfl hl.1 rfl (Nat.le_of_ble_eq_true rfl) rfl dX11_row_4 ?_
  refine lv_istore (lv' := [(4, .int y1), (0, .ref aT), (1, .int p1), (2, .int p2), (3, .int p3)]) hx hb dX11_row_7 hl (by decide) rfl (fun ls hl => ?_)
  refine lv_iload hx hb dX11_row_9 (lv_at hl 0 rfl) ?_
  refine lv_if_ge (tgt := 17) hx hb dX11_row_11 (by decide) (fun c2 => ?_) (fun c2 => ?_)
  · replace hev := x_t c2 hev
    refine lv_aload_n hx hb dX11_row_17 rfl (lv_at hl 1 rfl) ?_
    refine va_get (D := G.1) (ci := 7) (v := .int vT_rowMany) (C := RX11) (T := TX11) (N := 34) hx hb hts i11 hown hK hP 0 rfl rfl 29 (by decide) (hw _ u1116) (fun _ h9 => h9) rfl dX11_row_18 ?_
    refine lv_bipush (v := (12 : Int32)) hx hb dX11_row_21 (by decide) ?_
    refine lv_icmp_ne (tgt := 29) hx hb dX11_row_23 (by decide) (fun c3 => ?_) (fun c3 => ?_)
    · replace hev := x_f c3 hev
      refine lv_aload_n hx hb dX11_row_29 rfl (lv_at hl 1 rfl) ?_
      refine va_get (D := G.1) (ci := 7) (v := .ref aT_row) (C := RX11) (T := TX11) (N := 34) hx hb hts i11 hown hK hP 0 rfl rfl 28 (by decide) (hw _ u1115) (fun _ h9 => h9) rfl dX11_row_30 ?_
      refine lv_aload_n hx hb dX11_row_33 rfl (lv_at hl 1 rfl) ?_
      refine va_get (D := G.1) (ci := 7) (v := .int vT_rowMany) (C := RX11) (T := TX11) (N := 34) hx hb hts i11 hown hK hP 0 rfl rfl 29 (by decide) (hw _ u1116) (fun _ h9 => h9) rfl dX11_row_34 ?_
      refine lv_iload hx hb dX11_row_37 (lv_at hl 0 rfl) ?_
      obtain ⟨h4, hev⟩ := x_ck hev
      refine va_iast hx hb hK hP hD hS 1 0 rfl rfl h4 dX11_row_39 (fun H lo hP hD hS => ?_)
      refine lv_aload_n hx hb dX11_row_40 rfl (lv_at hl 1 rfl) ?_
      refine lv_dup hx hb dX11_row_41 rfl ?_
      refine va_get (D := G.1) (ci := 7) (v := .int vT_rowMany) (C := RX11) (T := TX11) (N := 34) hx hb hts i11 hown hK hP 0 rfl rfl 29 (by decide) (hw _ u1116) (fun _ h9 => h9) rfl dX11_row_42 ?_
      refine lv_iconst (v := (1 : Int32)) hx hb dX11_row_45 (by decide) ?_
      refine lv_iadd hx hb dX11_row_46 ?_
      refine lv_topi (fun y5 ey5 => ?_)
      replace hev := x_lt hev y5 ey5
      refine va_put (D := G.1) (ci := 7) (v := .int y5) (ty := .int) (C := RX11) (T := TX11) (N := 34) hx hb hts i11 tyX11 tyX11_ok nmX11 hown hK hP hD hS 0 rfl rfl 29 (by decide) (hw _ u1116) (fun _ h9 => h9) rfl (by decide +kernel) rfl rfl (Nat.le_of_ble_eq_true rfl) dX11_row_47 (fun H lo hP hD hS => ?_)
      refine lv_aload_n hx hb dX11_row_50 rfl (lv_at hl 1 rfl) ?_
      refine va_get (D := G.1) (ci := 7) (v := .int y5) (C := RX11) (T := TX11) (N := 34) hx hb hts i11 hown hK hP 0 rfl rfl 29 (by decide) (hw _ u1116) (fun _ h9 => h9) rfl dX11_row_51 ?_
      exact ret2 _ _ _ _ y5 y5 y5 (upd fT_row (vT_rowMany).toNatClampNeg y1) (Option.some.inj hev) dX11_row_54 (show narrow _ (.int y5) = .int y5 from rfl) hP hD hS
    · replace hev := x_t c3 hev
      refine lv_bipush (v := (-5 : Int32)) hx hb dX11_row_26 (by decide) ?_
      exact ret2 _ _ _ _ (-5 : Int32) (-5 : Int32) vT_rowMany fT_row (Option.some.inj hev) dX11_row_28 (show narrow _ (.int (-5 : Int32)) = .int (-5 : Int32) from rfl) hP hD hS
  · replace hev := x_f c2 hev
    refine lv_iload hx hb dX11_row_14 (lv_at hl 0 rfl) ?_
    exact ret2 _ _ _ _ y1 y1 vT_rowMany fT_row (Option.some.inj hev) dX11_row_16 (show narrow _ (.int y1) = .int y1 from rfl) hP hD hS
def f_Mo_burn (vT_rowMany : Int32) : Option (Int32 × Int32) := some (vT_rowMany, (0 : Int32))
set_option maxHeartbeats 8000000 in
set_option maxRecDepth 100000 in
theorem c_Mo_burn (l : Launch) (G : GG) (aT aT_text aT_read aT_spells aT_pasts aT_keptStates aT_keptDeeds aT_isKept aT_fars aT_queue aT_later aT_onWay aT_row aT_princes aT_tries : Nat) (vT_length : Int32) (vT_readMany : Int32) (vT_people : Int32) (vT_toldDay : Int32) (vT_toldBroken : Int32) (vT_many : Int32) (vT_now : Int32) (vT_deeds : Int32) (vT_pastMany : Int32) (vT_at : Int32) (vT_place : Int32) (vT_end : Int32) (vT_readPeople : Int32) (vT_readSpells : Int32) (vT_lifted : Int32) (vT_queued : Int32) (vT_laterMany : Int32) (vT_rowMany : Int32) (vT_princeMany : Int32) (vT_triedMany : Int32) (r0 : Int32) (wvT_rowMany : Int32) (hev : f_Mo_burn vT_rowMany = some (r0, wvT_rowMany)) : RW l G yX11_burn cX11_burn 2 (some .int) 0 [.ref aT] [(aT, .inr (7, [.ref aT_text, .int vT_length, .ref aT_read, .int vT_readMany, .int vT_people, .int vT_toldDay, .int vT_toldBroken, .ref aT_spells, .int vT_many, .int vT_now, .int vT_deeds, .ref aT_pasts, .int vT_pastMany, .ref aT_keptStates, .ref aT_keptDeeds, .ref aT_isKept, .int vT_at, .int vT_place, .int vT_end, .int vT_readPeople, .int vT_readSpells, .int vT_lifted, .ref aT_fars, .ref aT_queue, .int vT_queued, .ref aT_later, .int vT_laterMany, .ref aT_onWay, .ref aT_row, .int vT_rowMany, .ref aT_princes, .int vT_princeMany, .ref aT_tries, .int vT_triedMany]))] (some (.int r0)) [(aT, .inr (7, [.ref aT_text, .int vT_length, .ref aT_read, .int vT_readMany, .int vT_people, .int vT_toldDay, .int vT_toldBroken, .ref aT_spells, .int vT_many, .int vT_now, .int vT_deeds, .ref aT_pasts, .int vT_pastMany, .ref aT_keptStates, .ref aT_keptDeeds, .ref aT_isKept, .int vT_at, .int vT_place, .int vT_end, .int vT_readPeople, .int vT_readSpells, .int vT_lifted, .ref aT_fars, .ref aT_queue, .int vT_queued, .ref aT_later, .int vT_laterMany, .ref aT_onWay, .ref aT_row, .int wvT_rowMany, .ref aT_princes, .int vT_princeMany, .ref aT_tries, .int vT_triedMany]))] 0 0 := by
  refine RW_of (by decide) (Nat.le_of_ble_eq_true rfl) ?_
  intro p e s m ar below meth c R Q A ls X hR hRc hin hP hKK hD hS hA hAb hl ret
  obtain ⟨rs, hrs⟩ : ∃ q, q = (r0, wvT_rowMany) := ⟨_, rfl⟩
  rw [← hrs] at hev
  have ret2 : ∀ (pc : Nat) (ls : Array Slot) (H : Heap) (lo : List Loc) (v r1 : Int32) (zvT_rowMany : Int32), (r1, zvT_rowMany) = rs → decode cX11_burn pc = .ok (.ireturn, 1) → narrow .int (.int v) = .int r1 → va_P G.1 classes [(aT, .inr (7, [.ref aT_text, .int vT_length, .ref aT_read, .int vT_readMany, .int vT_people, .int vT_toldDay, .int vT_toldBroken, .ref aT_spells, .int vT_many, .int vT_now, .int vT_deeds, .ref aT_pasts, .int vT_pastMany, .ref aT_keptStates, .ref aT_keptDeeds, .ref aT_isKept, .int vT_at, .int vT_place, .int vT_end, .int vT_readPeople, .int vT_readSpells, .int vT_lifted, .ref aT_fars, .ref aT_queue, .int vT_queued, .ref aT_later, .int vT_laterMany, .ref aT_onWay, .ref aT_row, .int zvT_rowMany, .ref aT_princes, .int vT_princeMany, .ref aT_tries, .int vT_triedMany]))] H → va_D A [(aT, .inr (7, [.ref aT_text, .int vT_length, .ref aT_read, .int vT_readMany, .int vT_people, .int vT_toldDay, .int vT_toldBroken, .ref aT_spells, .int vT_many, .int vT_now, .int vT_deeds, .ref aT_pasts, .int vT_pastMany, .ref aT_keptStates, .ref aT_keptDeeds, .ref aT_isKept, .int vT_at, .int vT_place, .int vT_end, .int vT_readPeople, .int vT_readSpells, .int vT_lifted, .ref aT_fars, .ref aT_queue, .int vT_queued, .ref aT_later, .int vT_laterMany, .ref aT_onWay, .ref aT_row, .int zvT_rowMany, .ref aT_princes, .int vT_princeMany, .ref aT_tries, .int vT_triedMany]))] → va_S A s.heap H lo → W p l e R s m ar below meth c H lo 0 0 Q (F0 m pc ls [.int v]) := by
    intro pc ls H lo v r1 zvT_rowMany he hd hn h1 h2 h3
    have he := he.trans hrs
    cases he
    exact ret.1 _ _ _ _ _ _ _ rfl rfl hd hn h1 h2 h3
  clear ret hrs
  have hl : lv_has ls 2 [(0, .ref aT)] := hl
  obtain ⟨hx, hb, hml, hown, hts, hT⟩ := id X
  have hK := hKK.1
  have hw : ∀ w ∈ T0, w.before ar s = true := fun w h => hts w (hT w h)
  have i11 := fun w h => hT w (inT11 w h)
  unfold f_Mo_burn at hev
  refine lv_aload_n hx hb dX11_burn_0 rfl (lv_at hl 0 rfl) ?_
  refine va_get (D := G.1) (ci := 7) (v := .int vT_rowMany) (C := RX11) (T := TX11) (N := 34) hx hb hts i11 hown hK hP 0 rfl rfl 29 (by decide) (hw _ u1116) (fun _ h9 => h9) rfl dX11_burn_1 ?_
  refine lv_istore_n (lv' := [(1, .int vT_rowMany), (0, .ref aT)]) hx hb dX11_burn_4 rfl hl (by decide) rfl (fun ls hl => ?_)
  refine lv_aload_n hx hb dX11_burn_5 rfl (lv_at hl 1 rfl) ?_
  refine lv_iconst (v := (0 : Int32)) hx hb dX11_burn_6 (by decide) ?_
  refine va_put (D := G.1) (ci := 7) (v := .int (0 : Int32)) (ty := .int) (C := RX11) (T := TX11) (N := 34) hx hb hts i11 tyX11 tyX11_ok nmX11 hown hK hP hD hS 0 rfl rfl 29 (by decide) (hw _ u1116) (fun _ h9 => h9) rfl (by decide +kernel) rfl rfl (Nat.le_of_ble_eq_true rfl) dX11_burn_7 (fun H lo hP hD hS => ?_)
  refine lv_iload_n hx hb dX11_burn_10 rfl (lv_at hl 0 rfl) ?_
  exact ret2 _ _ _ _ vT_rowMany vT_rowMany (0 : Int32) (Option.some.inj hev) dX11_burn_11 (show narrow _ (.int vT_rowMany) = .int vT_rowMany from rfl) hP hD hS
def f_Mo_judge_J60 (k : Nat) (vT_lifted : Int32) (vT_many : Int32) (vT_now : Int32) (vT_people : Int32) (vT_rowMany : Int32) (fT_row : Nat → Int32) (fT_spells : Nat → Int32) (x1 : Int32) (x2 : Int32) (x3 : Int32) : Option (Int32 × Int32) := if x1 = (1 : Int32) then (x_B (f_Mo_holdsOf x2) (fun y3 => x_B (f_Mo_bits k y3) (fun y4 => some (y4, vT_lifted)))) else if x3 = vT_rowMany then (some ((-1 : Int32), vT_lifted)) else some (x3, vT_lifted)
def f_Mo_judge_L20 (vT_many : Int32) (vT_now : Int32) (vT_people : Int32) (vT_rowMany : Int32) (fT_row : Nat → Int32) (fT_spells : Nat → Int32) (x1 : Int32) : Nat → Int32 → Int32 → Int32 → Option (Int32 × Int32 × Int32)
  | 0, _, _, _ => none
  | k + 1, x2, x3, vT_lifted => if vT_rowMany ≤ x3 then (some (x2, x3, vT_lifted)) else x_I 12 fT_row x3 (fun v9 => x_B (f_Mo_canDo k vT_many vT_people fT_spells x2 v9) (fun y10 => if y10 = 0 then (some (x2, x3, vT_lifted)) else x_I 12 fT_row x3 (fun v13 => x_B (f_Mo_behind k vT_lifted vT_many fT_spells x2 v13) (fun ⟨y14, w15⟩ => x_L (x3 + (1 : Int32)) (fun y16 => (f_Mo_judge_L20 vT_many vT_now vT_people vT_rowMany fT_row fT_spells x1 k) y14 y16 w15)))))
def f_Mo_judge (k : Nat) (vT_lifted : Int32) (vT_many : Int32) (vT_now : Int32) (vT_people : Int32) (vT_rowMany : Int32) (fT_row : Nat → Int32) (fT_spells : Nat → Int32) (p1 : Int32) : Option (Int32 × Int32) := x_B (f_Mo_in ((p1).toInt64) (0 : Int64) (1 : Int64)) (fun y5 => if y5 = 0 then (some ((-3 : Int32), vT_lifted)) else x_B (f_Mo_judge_L20 vT_many vT_now vT_people vT_rowMany fT_row fT_spells p1 k vT_now (0 : Int32) vT_lifted) (fun ⟨y17, y18, w19⟩ => f_Mo_judge_J60 k w19 vT_many vT_now vT_people vT_rowMany fT_row fT_spells p1 y17 y18))
set_option maxHeartbeats 8000000 in
set_option maxRecDepth 100000 in
theorem c_Mo_judge (l : Launch) (G : GG) (aT aT_text aT_read aT_spells aT_pasts aT_keptStates aT_keptDeeds aT_isKept aT_fars aT_queue aT_later aT_onWay aT_row aT_princes aT_tries : Nat) (vT_length : Int32) (vT_readMany : Int32) (vT_people : Int32) (vT_toldDay : Int32) (vT_toldBroken : Int32) (vT_many : Int32) (vT_now : Int32) (vT_deeds : Int32) (vT_pastMany : Int32) (vT_at : Int32) (vT_place : Int32) (vT_end : Int32) (vT_readPeople : Int32) (vT_readSpells : Int32) (vT_lifted : Int32) (vT_queued : Int32) (vT_laterMany : Int32) (vT_rowMany : Int32) (vT_princeMany : Int32) (vT_triedMany : Int32) (fT_row : Nat → Int32) (fT_spells : Nat → Int32) (k : Nat) (p1 : Int32) (r0 : Int32) (wvT_lifted : Int32) (hev : f_Mo_judge k vT_lifted vT_many vT_now vT_people vT_rowMany fT_row fT_spells p1 = some (r0, wvT_lifted)) : RW l G yX11_judge cX11_judge 4 (some .int) 4 [.ref aT, .int p1] [(aT, .inr (7, [.ref aT_text, .int vT_length, .ref aT_read, .int vT_readMany, .int vT_people, .int vT_toldDay, .int vT_toldBroken, .ref aT_spells, .int vT_many, .int vT_now, .int vT_deeds, .ref aT_pasts, .int vT_pastMany, .ref aT_keptStates, .ref aT_keptDeeds, .ref aT_isKept, .int vT_at, .int vT_place, .int vT_end, .int vT_readPeople, .int vT_readSpells, .int vT_lifted, .ref aT_fars, .ref aT_queue, .int vT_queued, .ref aT_later, .int vT_laterMany, .ref aT_onWay, .ref aT_row, .int vT_rowMany, .ref aT_princes, .int vT_princeMany, .ref aT_tries, .int vT_triedMany])), (aT_row, .inl (G.2.1, 12, .inl fT_row)), (aT_spells, .inl (G.2.1, 50, .inl fT_spells))] (some (.int r0)) [(aT, .inr (7, [.ref aT_text, .int vT_length, .ref aT_read, .int vT_readMany, .int vT_people, .int vT_toldDay, .int vT_toldBroken, .ref aT_spells, .int vT_many, .int vT_now, .int vT_deeds, .ref aT_pasts, .int vT_pastMany, .ref aT_keptStates, .ref aT_keptDeeds, .ref aT_isKept, .int vT_at, .int vT_place, .int vT_end, .int vT_readPeople, .int vT_readSpells, .int wvT_lifted, .ref aT_fars, .ref aT_queue, .int vT_queued, .ref aT_later, .int vT_laterMany, .ref aT_onWay, .ref aT_row, .int vT_rowMany, .ref aT_princes, .int vT_princeMany, .ref aT_tries, .int vT_triedMany])), (aT_row, .inl (G.2.1, 12, .inl fT_row)), (aT_spells, .inl (G.2.1, 50, .inl fT_spells))] 0 0 := by
  refine RW_of (by decide) (Nat.le_of_ble_eq_true rfl) ?_
  intro p e s m ar below meth c R Q A ls X hR hRc hin hP hKK hD hS hA hAb hl ret
  obtain ⟨rs, hrs⟩ : ∃ q, q = (r0, wvT_lifted) := ⟨_, rfl⟩
  rw [← hrs] at hev
  have ret2 : ∀ (pc : Nat) (ls : Array Slot) (H : Heap) (lo : List Loc) (v r1 : Int32) (zvT_lifted : Int32), (r1, zvT_lifted) = rs → decode cX11_judge pc = .ok (.ireturn, 1) → narrow .int (.int v) = .int r1 → va_P G.1 classes [(aT, .inr (7, [.ref aT_text, .int vT_length, .ref aT_read, .int vT_readMany, .int vT_people, .int vT_toldDay, .int vT_toldBroken, .ref aT_spells, .int vT_many, .int vT_now, .int vT_deeds, .ref aT_pasts, .int vT_pastMany, .ref aT_keptStates, .ref aT_keptDeeds, .ref aT_isKept, .int vT_at, .int vT_place, .int vT_end, .int vT_readPeople, .int vT_readSpells, .int zvT_lifted, .ref aT_fars, .ref aT_queue, .int vT_queued, .ref aT_later, .int vT_laterMany, .ref aT_onWay, .ref aT_row, .int vT_rowMany, .ref aT_princes, .int vT_princeMany, .ref aT_tries, .int vT_triedMany])), (aT_row, .inl (G.2.1, 12, .inl fT_row)), (aT_spells, .inl (G.2.1, 50, .inl fT_spells))] H → va_D A [(aT, .inr (7, [.ref aT_text, .int vT_length, .ref aT_read, .int vT_readMany, .int vT_people, .int vT_toldDay, .int vT_toldBroken, .ref aT_spells, .int vT_many, .int vT_now, .int vT_deeds, .ref aT_pasts, .int vT_pastMany, .ref aT_keptStates, .ref aT_keptDeeds, .ref aT_isKept, .int vT_at, .int vT_place, .int vT_end, .int vT_readPeople, .int vT_readSpells, .int zvT_lifted, .ref aT_fars, .ref aT_queue, .int vT_queued, .ref aT_later, .int vT_laterMany, .ref aT_onWay, .ref aT_row, .int vT_rowMany, .ref aT_princes, .int vT_princeMany, .ref aT_tries, .int vT_triedMany])), (aT_row, .inl (G.2.1, 12, .inl fT_row)), (aT_spells, .inl (G.2.1, 50, .inl fT_spells))] → va_S A s.heap H lo → W p l e R s m ar below meth c H lo 0 0 Q (F0 m pc ls [.int v]) := by
    intro pc ls H lo v r1 zvT_lifted he hd hn h1 h2 h3
    have he := he.trans hrs
    cases he
    exact ret.1 _ _ _ _ _ _ _ rfl rfl hd hn h1 h2 h3
  clear ret hrs
  have hl : lv_has ls 4 [(0, .ref aT), (1, .int p1)] := hl
  obtain ⟨hx, hb, hml, hown, hts, hT⟩ := id X
  have hK := hKK.1
  have hw : ∀ w ∈ T0, w.before ar s = true := fun w h => hts w (hT w h)
  have i11 := fun w h => hT w (inT11 w h)
  have J60 : ∀ (vT_lifted : Int32) (x1 : Int32) (x2 : Int32) (x3 : Int32), ∀ (H : Heap) (lo : List Loc), va_P G.1 classes [(aT, .inr (7, [.ref aT_text, .int vT_length, .ref aT_read, .int vT_readMany, .int vT_people, .int vT_toldDay, .int vT_toldBroken, .ref aT_spells, .int vT_many, .int vT_now, .int vT_deeds, .ref aT_pasts, .int vT_pastMany, .ref aT_keptStates, .ref aT_keptDeeds, .ref aT_isKept, .int vT_at, .int vT_place, .int vT_end, .int vT_readPeople, .int vT_readSpells, .int vT_lifted, .ref aT_fars, .ref aT_queue, .int vT_queued, .ref aT_later, .int vT_laterMany, .ref aT_onWay, .ref aT_row, .int vT_rowMany, .ref aT_princes, .int vT_princeMany, .ref aT_tries, .int vT_triedMany])), (aT_row, .inl (G.2.1, 12, .inl fT_row)), (aT_spells, .inl (G.2.1, 50, .inl fT_spells))] H → va_D A [(aT, .inr (7, [.ref aT_text, .int vT_length, .ref aT_read, .int vT_readMany, .int vT_people, .int vT_toldDay, .int vT_toldBroken, .ref aT_spells, .int vT_many, .int vT_now, .int vT_deeds, .ref aT_pasts, .int vT_pastMany, .ref aT_keptStates, .ref aT_keptDeeds, .ref aT_isKept, .int vT_at, .int vT_place, .int vT_end, .int vT_readPeople, .int vT_readSpells, .int vT_lifted, .ref aT_fars, .ref aT_queue, .int vT_queued, .ref aT_later, .int vT_laterMany, .ref aT_onWay, .ref aT_row, .int vT_rowMany, .ref aT_princes, .int vT_princeMany, .ref aT_tries, .int vT_triedMany])), (aT_row, .inl (G.2.1, 12, .inl fT_row)), (aT_spells, .inl (G.2.1, 50, .inl fT_spells))] → va_S A s.heap H lo → ∀ (ls : Array Slot), f_Mo_judge_J60 k vT_lifted vT_many vT_now vT_people vT_rowMany fT_row fT_spells x1 x2 x3 = some rs → lv_has ls 4 [(0, .ref aT), (1, .int x1), (2, .int x2), (3, .int x3)] → W p l e R s m ar below meth c H lo 0 0 Q (F0 m 60 ls []) := by
    intro vT_lifted x1 x2 x3 H lo hP hD hS ls hev hl
    unfold f_Mo_judge_J60 at hev
    refine lv_iload_n hx hb dX11_judge_60 rfl (lv_at hl 1 rfl) ?_
    refine lv_iconst (v := (1 : Int32)) hx hb dX11_judge_61 (by decide) ?_
    refine lv_icmp_ne (tgt := 75) hx hb dX11_judge_62 (by decide) (fun c1 => ?_) (fun c1 => ?_)
    · replace hev := x_f c1 hev
      refine lv_iload_n hx hb dX11_judge_75 rfl (lv_at hl 3 rfl) ?_
      refine lv_aload_n hx hb dX11_judge_76 rfl (lv_at hl 0 rfl) ?_
      refine va_get (D := G.1) (ci := 7) (v := .int vT_rowMany) (C := RX11) (T := TX11) (N := 34) hx hb hts i11 hown hK hP 0 rfl rfl 29 (by decide) (hw _ u1116) (fun _ h9 => h9) rfl dX11_judge_77 ?_
      refine lv_icmp_ne (tgt := 87) hx hb dX11_judge_80 (by decide) (fun c2 => ?_) (fun c2 => ?_)
      · replace hev := x_f c2 hev
        refine lv_iload_n hx hb dX11_judge_87 rfl (lv_at hl 3 rfl) ?_
        exact ret2 _ _ _ _ x3 x3 vT_lifted (Option.some.inj hev) dX11_judge_88 (show narrow _ (.int x3) = .int x3 from rfl) hP hD hS
      · replace hev := x_t c2 hev
        refine lv_iconst (v := (-1 : Int32)) hx hb dX11_judge_83 (by decide) ?_
        refine lv_goto (tgt := 88) hx hb dX11_judge_84 (by decide) ?_
        exact ret2 _ _ _ _ (-1 : Int32) (-1 : Int32) vT_lifted (Option.some.inj hev) dX11_judge_88 (show narrow _ (.int (-1 : Int32)) = .int (-1 : Int32) from rfl) hP hD hS
    · replace hev := x_t c1 hev
      refine lv_iload_n hx hb dX11_judge_65 rfl (lv_at hl 2 rfl) ?_
      obtain ⟨y3, hq, hev⟩ := x_bd hev
      refine roS X (KK_at hKK hS hAb) hR (st1 := [.int y3]) (c_Mo_holdsOf l G x2 y3 hq) K_X11_holdsOf u1471 (x_Psub hP [] rfl) (by decide) ⟨Nat.zero_le _, Nat.zero_le _⟩ rfl hl.1 rfl (Nat.le_of_ble_eq_true rfl) rfl dX11_judge_66 ?_
      obtain ⟨y4, hq, hev⟩ := x_bd hev
      refine roS X (KK_at hKK hS hAb) hR (st1 := [.int y4]) (c_Mo_bits l G k y3 y4 hq) K_X11_bits u1420 (x_Psub hP [] rfl) (by decide) ⟨Nat.zero_le _, Nat.zero_le _⟩ rfl hl.1 rfl (Nat.le_of_ble_eq_true rfl) rfl dX11_judge_69 ?_
      refine lv_goto (tgt := 88) hx hb dX11_judge_72 (by decide) ?_
      exact ret2 _ _ _ _ y4 y4 vT_lifted (Option.some.inj hev) dX11_judge_88 (show narrow _ (.int y4) = .int y4 from rfl) hP hD hS
  unfold f_Mo_judge at hev
  refine lv_iload_n hx hb dX11_judge_0 rfl (lv_at hl 1 rfl) ?_
  refine lv_i2l hx hb dX11_judge_1 rfl ?_
  refine lv_lconst (v := (0 : Int64)) hx hb dX11_judge_2 (by decide) ?_
  refine lv_lconst (v := (1 : Int64)) hx hb dX11_judge_3 (by decide) ?_
  obtain ⟨y5, hq, hev⟩ := x_bd hev
  refine roS X (KK_at hKK hS hAb) hR (st1 := [.int y5]) (c_Mo_in l G ((p1).toInt64) (0 : Int64) (1 : Int64) y5 hq) K_X11_in u1196 (x_Psub hP [] rfl) (by decide) ⟨Nat.zero_le _, Nat.zero_le _⟩ rfl hl.1 rfl (Nat.le_of_ble_eq_true rfl) rfl dX11_judge_4 ?_
  refine lv_if_ne (tgt := 13) hx hb dX11_judge_7 (by decide) (fun c6 => ?_) (fun c6 => ?_)
  · replace hev := x_f c6 hev
    refine lv_aload_n hx hb dX11_judge_13 rfl (lv_at hl 0 rfl) ?_
    refine va_get (D := G.1) (ci := 7) (v := .int vT_now) (C := RX11) (T := TX11) (N := 34) hx hb hts i11 hown hK hP 0 rfl rfl 9 (by decide) (hw _ u1096) (fun _ h9 => h9) rfl dX11_judge_14 ?_
    refine lv_istore_n (lv' := [(2, .int vT_now), (0, .ref aT), (1, .int p1)]) hx hb dX11_judge_17 rfl hl (by decide) rfl (fun ls hl => ?_)
    refine lv_iconst (v := (0 : Int32)) hx hb dX11_judge_18 (by decide) ?_
    refine lv_istore_n (lv' := [(3, .int (0 : Int32)), (2, .int vT_now), (0, .ref aT), (1, .int p1)]) hx hb dX11_judge_19 rfl hl (by decide) rfl (fun ls hl => ?_)
    have L20 : ∀ (x1 : Int32), ∀ (k : Nat) (x2 : Int32) (x3 : Int32) (vT_lifted : Int32) (o2 : Int32) (o3 : Int32) (ovT_lifted : Int32), f_Mo_judge_L20 vT_many vT_now vT_people vT_rowMany fT_row fT_spells x1 k x2 x3 vT_lifted = some (o2, o3, ovT_lifted) → (∀ (H : Heap) (lo : List Loc), va_P G.1 classes [(aT, .inr (7, [.ref aT_text, .int vT_length, .ref aT_read, .int vT_readMany, .int vT_people, .int vT_toldDay, .int vT_toldBroken, .ref aT_spells, .int vT_many, .int vT_now, .int vT_deeds, .ref aT_pasts, .int vT_pastMany, .ref aT_keptStates, .ref aT_keptDeeds, .ref aT_isKept, .int vT_at, .int vT_place, .int vT_end, .int vT_readPeople, .int vT_readSpells, .int ovT_lifted, .ref aT_fars, .ref aT_queue, .int vT_queued, .ref aT_later, .int vT_laterMany, .ref aT_onWay, .ref aT_row, .int vT_rowMany, .ref aT_princes, .int vT_princeMany, .ref aT_tries, .int vT_triedMany])), (aT_row, .inl (G.2.1, 12, .inl fT_row)), (aT_spells, .inl (G.2.1, 50, .inl fT_spells))] H → va_D A [(aT, .inr (7, [.ref aT_text, .int vT_length, .ref aT_read, .int vT_readMany, .int vT_people, .int vT_toldDay, .int vT_toldBroken, .ref aT_spells, .int vT_many, .int vT_now, .int vT_deeds, .ref aT_pasts, .int vT_pastMany, .ref aT_keptStates, .ref aT_keptDeeds, .ref aT_isKept, .int vT_at, .int vT_place, .int vT_end, .int vT_readPeople, .int vT_readSpells, .int ovT_lifted, .ref aT_fars, .ref aT_queue, .int vT_queued, .ref aT_later, .int vT_laterMany, .ref aT_onWay, .ref aT_row, .int vT_rowMany, .ref aT_princes, .int vT_princeMany, .ref aT_tries, .int vT_triedMany])), (aT_row, .inl (G.2.1, 12, .inl fT_row)), (aT_spells, .inl (G.2.1, 50, .inl fT_spells))] → va_S A s.heap H lo → ∀ (ls : Array Slot), lv_has ls 4 [(0, .ref aT), (1, .int x1), (2, .int o2), (3, .int o3)] → W p l e R s m ar below meth c H lo 0 0 Q (F0 m 60 ls [])) → ∀ (H : Heap) (lo : List Loc), va_P G.1 classes [(aT, .inr (7, [.ref aT_text, .int vT_length, .ref aT_read, .int vT_readMany, .int vT_people, .int vT_toldDay, .int vT_toldBroken, .ref aT_spells, .int vT_many, .int vT_now, .int vT_deeds, .ref aT_pasts, .int vT_pastMany, .ref aT_keptStates, .ref aT_keptDeeds, .ref aT_isKept, .int vT_at, .int vT_place, .int vT_end, .int vT_readPeople, .int vT_readSpells, .int vT_lifted, .ref aT_fars, .ref aT_queue, .int vT_queued, .ref aT_later, .int vT_laterMany, .ref aT_onWay, .ref aT_row, .int vT_rowMany, .ref aT_princes, .int vT_princeMany, .ref aT_tries, .int vT_triedMany])), (aT_row, .inl (G.2.1, 12, .inl fT_row)), (aT_spells, .inl (G.2.1, 50, .inl fT_spells))] H → va_D A [(aT, .inr (7, [.ref aT_text, .int vT_length, .ref aT_read, .int vT_readMany, .int vT_people, .int vT_toldDay, .int vT_toldBroken, .ref aT_spells, .int vT_many, .int vT_now, .int vT_deeds, .ref aT_pasts, .int vT_pastMany, .ref aT_keptStates, .ref aT_keptDeeds, .ref aT_isKept, .int vT_at, .int vT_place, .int vT_end, .int vT_readPeople, .int vT_readSpells, .int vT_lifted, .ref aT_fars, .ref aT_queue, .int vT_queued, .ref aT_later, .int vT_laterMany, .ref aT_onWay, .ref aT_row, .int vT_rowMany, .ref aT_princes, .int vT_princeMany, .ref aT_tries, .int vT_triedMany])), (aT_row, .inl (G.2.1, 12, .inl fT_row)), (aT_spells, .inl (G.2.1, 50, .inl fT_spells))] → va_S A s.heap H lo → ∀ (ls : Array Slot), lv_has ls 4 [(0, .ref aT), (1, .int x1), (2, .int x2), (3, .int x3)] → W p l e R s m ar below meth c H lo 0 0 Q (F0 m 20 ls []) := by
      intro x1 k
      induction k with
      | zero => intro x2 x3 vT_lifted o2 o3 ovT_lifted hev; rw [f_Mo_judge_L20] at hev; cases hev
      | succ k ih =>
        intro x2 x3 vT_lifted o2 o3 ovT_lifted hev hex H lo hP hD hS ls hl
        rw [f_Mo_judge_L20] at hev
        refine lv_iload_n hx hb dX11_judge_20 rfl (lv_at hl 3 rfl) ?_
        refine lv_aload_n hx hb dX11_judge_21 rfl (lv_at hl 0 rfl) ?_
        refine va_get (D := G.1) (ci := 7) (v := .int vT_rowMany) (C := RX11) (T := TX11) (N := 34) hx hb hts i11 hown hK hP 0 rfl rfl 29 (by decide) (hw _ u1116) (fun _ h9 => h9) rfl dX11_judge_22 ?_
        refine lv_icmp_ge (tgt := 60) hx hb dX11_judge_25 (by decide) (fun c7 => ?_) (fun c7 => ?_)
        · replace hev := x_t c7 hev
          cases hev
          exact hex _ _ hP hD hS ls (lv_sub hl [0, 1, 2, 3] rfl)
        · replace hev := x_f c7 hev
          refine lv_aload_n hx hb dX11_judge_28 rfl (lv_at hl 0 rfl) ?_
          refine lv_iload_n hx hb dX11_judge_29 rfl (lv_at hl 2 rfl) ?_
          refine lv_aload_n hx hb dX11_judge_30 rfl (lv_at hl 0 rfl) ?_
          refine va_get (D := G.1) (ci := 7) (v := .ref aT_row) (C := RX11) (T := TX11) (N := 34) hx hb hts i11 hown hK hP 0 rfl rfl 28 (by decide) (hw _ u1115) (fun _ h9 => h9) rfl dX11_judge_31 ?_
          refine lv_iload_n hx hb dX11_judge_34 rfl (lv_at hl 3 rfl) ?_
          obtain ⟨h8, hev⟩ := x_ld hev
          refine va_iald hx hb hK hP 1 0 rfl rfl h8 dX11_judge_35 ?_
          refine lv_topi (fun v9 ev9 => ?_)
          replace hev := hev v9 ev9
          obtain ⟨y10, hq, hev⟩ := x_bd hev
          refine roV X (KK_at hKK hS hAb) hR (st1 := [.int y10]) (c_Mo_canDo l G aT aT_text aT_read aT_spells aT_pasts aT_keptStates aT_keptDeeds aT_isKept aT_fars aT_queue aT_later aT_onWay aT_row aT_princes aT_tries vT_length vT_readMany vT_people vT_toldDay vT_toldBroken vT_many vT_now vT_deeds vT_pastMany vT_at vT_place vT_end vT_readPeople vT_readSpells vT_lifted vT_queued vT_laterMany vT_rowMany vT_princeMany vT_triedMany fT_spells k x2 v9 y10 hq) K_X11_canDo u1345 (x_Psub hP [0, 2] rfl) rfl (q0 := 0) rfl (by decide) ⟨Nat.zero_le _, Nat.zero_le _⟩ rfl hl.1 rfl (Nat.le_of_ble_eq_true rfl) rfl dX11_judge_36 ?_
          refine lv_if_eq (tgt := 60) hx hb dX11_judge_39 (by decide) (fun c11 => ?_) (fun c11 => ?_)
          · replace hev := x_t c11 hev
            cases hev
            exact hex _ _ hP hD hS ls (lv_sub hl [0, 1, 2, 3] rfl)
          · replace hev := x_f c11 hev
            refine lv_aload_n hx hb dX11_judge_42 rfl (lv_at hl 0 rfl) ?_
            refine lv_iload_n hx hb dX11_judge_43 rfl (lv_at hl 2 rfl) ?_
            refine lv_aload_n hx hb dX11_judge_44 rfl (lv_at hl 0 rfl) ?_
            refine va_get (D := G.1) (ci := 7) (v := .ref aT_row) (C := RX11) (T := TX11) (N := 34) hx hb hts i11 hown hK hP 0 rfl rfl 28 (by decide) (hw _ u1115) (fun _ h9 => h9) rfl dX11_judge_45 ?_
            refine lv_iload_n hx hb dX11_judge_48 rfl (lv_at hl 3 rfl) ?_
            obtain ⟨h12, hev⟩ := x_ld hev
            refine va_iald hx hb hK hP 1 0 rfl rfl h12 dX11_judge_49 ?_
            refine lv_topi (fun v13 ev13 => ?_)
            replace hev := hev v13 ev13
            obtain ⟨⟨y14, w15⟩, hq, hev⟩ := x_bd hev
            refine rgV X (KK_at hKK hS hAb) hR (st1 := [.int y14]) (ws2 := [(aT, .inr (7, [.ref aT_text, .int vT_length, .ref aT_read, .int vT_readMany, .int vT_people, .int vT_toldDay, .int vT_toldBroken, .ref aT_spells, .int vT_many, .int vT_now, .int vT_deeds, .ref aT_pasts, .int vT_pastMany, .ref aT_keptStates, .ref aT_keptDeeds, .ref aT_isKept, .int vT_at, .int vT_place, .int vT_end, .int vT_readPeople, .int vT_readSpells, .int w15, .ref aT_fars, .ref aT_queue, .int vT_queued, .ref aT_later, .int vT_laterMany, .ref aT_onWay, .ref aT_row, .int vT_rowMany, .ref aT_princes, .int vT_princeMany, .ref aT_tries, .int vT_triedMany])), (aT_row, .inl (G.2.1, 12, .inl fT_row)), (aT_spells, .inl (G.2.1, 50, .inl fT_spells))]) (c_Mo_behind l G aT aT_text aT_read aT_spells aT_pasts aT_keptStates aT_keptDeeds aT_isKept aT_fars aT_queue aT_later aT_onWay aT_row aT_princes aT_tries vT_length vT_readMany vT_people vT_toldDay vT_toldBroken vT_many vT_now vT_deeds vT_pastMany vT_at vT_place vT_end vT_readPeople vT_readSpells vT_lifted vT_queued vT_laterMany vT_rowMany vT_princeMany vT_triedMany fT_spells k x2 v13 y14 w15 hq) K_X11_behind u1353 hP hD hS hA hAb [0, 2] rfl (sbC rfl (sbC rfl sb0)) (mgN 0 rfl rfl (mgK (by decide) (mgN 1 rfl rfl (mg0)))) rfl (q0 := 0) rfl (by decide) ⟨Nat.zero_le _, Nat.zero_le _⟩ rfl hl.1 rfl (Nat.le_of_ble_eq_true rfl) rfl dX11_judge_50 (fun H lo hP hD hS => ?_)
            refine lv_istore_n (lv' := [(2, .int y14), (0, .ref aT), (1, .int x1), (3, .int x3)]) hx hb dX11_judge_53 rfl hl (by decide) rfl (fun ls hl => ?_)
            obtain ⟨y16, ey16⟩ : ∃ y : Int32, y = x3 + (1 : Int32) := ⟨_, rfl⟩
            refine lv_iinc (v := y16) (lv' := [(3, .int y16), (2, .int y14), (0, .ref aT), (1, .int x1)]) hx hb dX11_judge_54 hl (k := 3) rfl (by rw [ey16]; rfl) (by decide) rfl (fun ls hl => ?_)
            replace hev := x_lt hev y16 ey16
            refine lv_goto (tgt := 20) hx hb dX11_judge_57 (by decide) ?_
            exact ih y14 y16 w15 _ _ _ hev hex _ _ hP hD hS ls (lv_sub hl [2, 3, 1, 0] rfl)
    obtain ⟨⟨y17, y18, w19⟩, hq, hev⟩ := x_bd hev
    refine L20 p1 k vT_now (0 : Int32) vT_lifted y17 y18 w19 hq (fun H lo hP hD hS ls hl => ?_) _ _ hP hD hS ls (lv_sub hl [2, 3, 1, 0] rfl)
    exact J60 w19 p1 y17 y18 _ _ hP hD hS ls hev (lv_sub hl [0, 1, 2, 3] rfl)
  · replace hev := x_t c6 hev
    refine lv_bipush (v := (-3 : Int32)) hx hb dX11_judge_10 (by decide) ?_
    exact ret2 _ _ _ _ (-3 : Int32) (-3 : Int32) vT_lifted (Option.some.inj hev) dX11_judge_12 (show narrow _ (.int (-3 : Int32)) = .int (-3 : Int32) from rfl) hP hD hS
