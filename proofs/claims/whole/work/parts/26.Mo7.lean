def f_Mo_leads (k : Nat) (vT_lifted : Int32) (vT_many : Int32) (vT_people : Int32) (fT_fars : Nat → Int32) (fT_onWay : Nat → Int32) (fT_spells : Nat → Int32) (p1 : Int32) (p2 : Int32) : Option (Int32 × Int32) := x_B (f_Mo_canDo k vT_many vT_people fT_spells p1 p2) (fun y1 => if y1 = 0 then (some ((0 : Int32), vT_lifted)) else x_B (f_Mo_behind k vT_lifted vT_many fT_spells p1 p2) (fun ⟨y3, w4⟩ => x_I 57344 fT_onWay y3 (fun v6 => if v6 = 0 then (some ((0 : Int32), w4)) else x_I 57344 fT_fars y3 (fun v9 => x_I 57344 fT_fars p1 (fun v11 => if v9 = (v11 + (1 : Int32)) then (some ((1 : Int32), w4)) else some ((0 : Int32), w4))))))
set_option maxHeartbeats 8000000 in
set_option maxRecDepth 100000 in
theorem c_Mo_leads (l : Launch) (G : GG) (aT aT_text aT_read aT_spells aT_pasts aT_keptStates aT_keptDeeds aT_isKept aT_fars aT_queue aT_later aT_onWay aT_row aT_princes aT_tries : Nat) (vT_length : Int32) (vT_readMany : Int32) (vT_people : Int32) (vT_toldDay : Int32) (vT_toldBroken : Int32) (vT_many : Int32) (vT_now : Int32) (vT_deeds : Int32) (vT_pastMany : Int32) (vT_at : Int32) (vT_place : Int32) (vT_end : Int32) (vT_readPeople : Int32) (vT_readSpells : Int32) (vT_lifted : Int32) (vT_queued : Int32) (vT_laterMany : Int32) (vT_rowMany : Int32) (vT_princeMany : Int32) (vT_triedMany : Int32) (fT_spells : Nat → Int32) (fT_onWay : Nat → Int32) (fT_fars : Nat → Int32) (k : Nat) (p1 : Int32) (p2 : Int32) (r0 : Int32) (wvT_lifted : Int32) (hev : f_Mo_leads k vT_lifted vT_many vT_people fT_fars fT_onWay fT_spells p1 p2 = some (r0, wvT_lifted)) : RW l G yX11_leads cX11_leads 4 (some .boolean) 4 [.ref aT, .int p1, .int p2] [(aT, .inr (7, [.ref aT_text, .int vT_length, .ref aT_read, .int vT_readMany, .int vT_people, .int vT_toldDay, .int vT_toldBroken, .ref aT_spells, .int vT_many, .int vT_now, .int vT_deeds, .ref aT_pasts, .int vT_pastMany, .ref aT_keptStates, .ref aT_keptDeeds, .ref aT_isKept, .int vT_at, .int vT_place, .int vT_end, .int vT_readPeople, .int vT_readSpells, .int vT_lifted, .ref aT_fars, .ref aT_queue, .int vT_queued, .ref aT_later, .int vT_laterMany, .ref aT_onWay, .ref aT_row, .int vT_rowMany, .ref aT_princes, .int vT_princeMany, .ref aT_tries, .int vT_triedMany])), (aT_spells, .inl (G.2.1, 50, .inl fT_spells)), (aT_onWay, .inl (G.2.2.2.1, 57344, .inl fT_onWay)), (aT_fars, .inl (G.2.1, 57344, .inl fT_fars))] (some (.int r0)) [(aT, .inr (7, [.ref aT_text, .int vT_length, .ref aT_read, .int vT_readMany, .int vT_people, .int vT_toldDay, .int vT_toldBroken, .ref aT_spells, .int vT_many, .int vT_now, .int vT_deeds, .ref aT_pasts, .int vT_pastMany, .ref aT_keptStates, .ref aT_keptDeeds, .ref aT_isKept, .int vT_at, .int vT_place, .int vT_end, .int vT_readPeople, .int vT_readSpells, .int wvT_lifted, .ref aT_fars, .ref aT_queue, .int vT_queued, .ref aT_later, .int vT_laterMany, .ref aT_onWay, .ref aT_row, .int vT_rowMany, .ref aT_princes, .int vT_princeMany, .ref aT_tries, .int vT_triedMany])), (aT_spells, .inl (G.2.1, 50, .inl fT_spells)), (aT_onWay, .inl (G.2.2.2.1, 57344, .inl fT_onWay)), (aT_fars, .inl (G.2.1, 57344, .inl fT_fars))] 0 0 := by
  refine RW_of (by decide) (Nat.le_of_ble_eq_true rfl) ?_
  intro p e s m ar below meth c R Q A ls X hR hRc hin hP hKK hD hS hA hAb hl ret
  obtain ⟨rs, hrs⟩ : ∃ q, q = (r0, wvT_lifted) := ⟨_, rfl⟩
  rw [← hrs] at hev
  have ret2 : ∀ (pc : Nat) (ls : Array Slot) (H : Heap) (lo : List Loc) (v r1 : Int32) (zvT_lifted : Int32), (r1, zvT_lifted) = rs → decode cX11_leads pc = .ok (.ireturn, 1) → narrow .boolean (.int v) = .int r1 → va_P G.1 classes [(aT, .inr (7, [.ref aT_text, .int vT_length, .ref aT_read, .int vT_readMany, .int vT_people, .int vT_toldDay, .int vT_toldBroken, .ref aT_spells, .int vT_many, .int vT_now, .int vT_deeds, .ref aT_pasts, .int vT_pastMany, .ref aT_keptStates, .ref aT_keptDeeds, .ref aT_isKept, .int vT_at, .int vT_place, .int vT_end, .int vT_readPeople, .int vT_readSpells, .int zvT_lifted, .ref aT_fars, .ref aT_queue, .int vT_queued, .ref aT_later, .int vT_laterMany, .ref aT_onWay, .ref aT_row, .int vT_rowMany, .ref aT_princes, .int vT_princeMany, .ref aT_tries, .int vT_triedMany])), (aT_spells, .inl (G.2.1, 50, .inl fT_spells)), (aT_onWay, .inl (G.2.2.2.1, 57344, .inl fT_onWay)), (aT_fars, .inl (G.2.1, 57344, .inl fT_fars))] H → va_D A [(aT, .inr (7, [.ref aT_text, .int vT_length, .ref aT_read, .int vT_readMany, .int vT_people, .int vT_toldDay, .int vT_toldBroken, .ref aT_spells, .int vT_many, .int vT_now, .int vT_deeds, .ref aT_pasts, .int vT_pastMany, .ref aT_keptStates, .ref aT_keptDeeds, .ref aT_isKept, .int vT_at, .int vT_place, .int vT_end, .int vT_readPeople, .int vT_readSpells, .int zvT_lifted, .ref aT_fars, .ref aT_queue, .int vT_queued, .ref aT_later, .int vT_laterMany, .ref aT_onWay, .ref aT_row, .int vT_rowMany, .ref aT_princes, .int vT_princeMany, .ref aT_tries, .int vT_triedMany])), (aT_spells, .inl (G.2.1, 50, .inl fT_spells)), (aT_onWay, .inl (G.2.2.2.1, 57344, .inl fT_onWay)), (aT_fars, .inl (G.2.1, 57344, .inl fT_fars))] → va_S A s.heap H lo → W p l e R s m ar below meth c H lo 0 0 Q (F0 m pc ls [.int v]) := by
    intro pc ls H lo v r1 zvT_lifted he hd hn h1 h2 h3
    have he := he.trans hrs
    cases he
    exact ret.1 _ _ _ _ _ _ _ rfl rfl hd hn h1 h2 h3
  clear ret hrs
  have hl : lv_has ls 4 [(0, .ref aT), (1, .int p1), (2, .int p2)] := hl
  obtain ⟨hx, hb, hml, hown, hts, hT⟩ := id X
  have hK := hKK.1
  have hw : ∀ w ∈ T0, w.before ar s = true := fun w h => hts w (hT w h)
  have i11 := fun w h => hT w (inT11 w h)
  unfold f_Mo_leads at hev
  refine lv_aload_n hx hb dX11_leads_0 rfl (lv_at hl 0 rfl) ?_
  refine lv_iload_n hx hb dX11_leads_1 rfl (lv_at hl 1 rfl) ?_
  refine lv_iload_n hx hb dX11_leads_2 rfl (lv_at hl 2 rfl) ?_
  obtain ⟨y1, hq, hev⟩ := x_bd hev
  refine roV X (KK_at hKK hS hAb) hR (st1 := [.int y1]) (c_Mo_canDo l G aT aT_text aT_read aT_spells aT_pasts aT_keptStates aT_keptDeeds aT_isKept aT_fars aT_queue aT_later aT_onWay aT_row aT_princes aT_tries vT_length vT_readMany vT_people vT_toldDay vT_toldBroken vT_many vT_now vT_deeds vT_pastMany vT_at vT_place vT_end vT_readPeople vT_readSpells vT_lifted vT_queued vT_laterMany vT_rowMany vT_princeMany vT_triedMany fT_spells k p1 p2 y1 hq) K_X11_canDo u1345 (x_Psub hP [0, 1] rfl) rfl (q0 := 0) rfl (by decide) ⟨Nat.zero_le _, Nat.zero_le _⟩ rfl hl.1 rfl (Nat.le_of_ble_eq_true rfl) rfl dX11_leads_3 ?_
  refine lv_if_ne (tgt := 11) hx hb dX11_leads_6 (by decide) (fun c2 => ?_) (fun c2 => ?_)
  · replace hev := x_f c2 hev
    refine lv_aload_n hx hb dX11_leads_11 rfl (lv_at hl 0 rfl) ?_
    refine lv_iload_n hx hb dX11_leads_12 rfl (lv_at hl 1 rfl) ?_
    refine lv_iload_n hx hb dX11_leads_13 rfl (lv_at hl 2 rfl) ?_
    obtain ⟨⟨y3, w4⟩, hq, hev⟩ := x_bd hev
    refine rgV X (KK_at hKK hS hAb) hR (st1 := [.int y3]) (ws2 := [(aT, .inr (7, [.ref aT_text, .int vT_length, .ref aT_read, .int vT_readMany, .int vT_people, .int vT_toldDay, .int vT_toldBroken, .ref aT_spells, .int vT_many, .int vT_now, .int vT_deeds, .ref aT_pasts, .int vT_pastMany, .ref aT_keptStates, .ref aT_keptDeeds, .ref aT_isKept, .int vT_at, .int vT_place, .int vT_end, .int vT_readPeople, .int vT_readSpells, .int w4, .ref aT_fars, .ref aT_queue, .int vT_queued, .ref aT_later, .int vT_laterMany, .ref aT_onWay, .ref aT_row, .int vT_rowMany, .ref aT_princes, .int vT_princeMany, .ref aT_tries, .int vT_triedMany])), (aT_spells, .inl (G.2.1, 50, .inl fT_spells)), (aT_onWay, .inl (G.2.2.2.1, 57344, .inl fT_onWay)), (aT_fars, .inl (G.2.1, 57344, .inl fT_fars))]) (c_Mo_behind l G aT aT_text aT_read aT_spells aT_pasts aT_keptStates aT_keptDeeds aT_isKept aT_fars aT_queue aT_later aT_onWay aT_row aT_princes aT_tries vT_length vT_readMany vT_people vT_toldDay vT_toldBroken vT_many vT_now vT_deeds vT_pastMany vT_at vT_place vT_end vT_readPeople vT_readSpells vT_lifted vT_queued vT_laterMany vT_rowMany vT_princeMany vT_triedMany fT_spells k p1 p2 y3 w4 hq) K_X11_behind u1353 hP hD hS hA hAb [0, 1] rfl (sbC rfl (sbC rfl sb0)) (mgN 0 rfl rfl (mgN 1 rfl rfl (mgK (by decide) (mgK (by decide) (mg0))))) rfl (q0 := 0) rfl (by decide) ⟨Nat.zero_le _, Nat.zero_le _⟩ rfl hl.1 rfl (Nat.le_of_ble_eq_true rfl) rfl dX11_leads_14 (fun H lo hP hD hS => ?_)
    refine lv_istore_n (lv' := [(3, .int y3), (0, .ref aT), (1, .int p1), (2, .int p2)]) hx hb dX11_leads_17 rfl hl (by decide) rfl (fun ls hl => ?_)
    refine lv_aload_n hx hb dX11_leads_18 rfl (lv_at hl 1 rfl) ?_
    refine va_get (D := G.1) (ci := 7) (v := .ref aT_onWay) (C := RX11) (T := TX11) (N := 34) hx hb hts i11 hown hK hP 0 rfl rfl 27 (by decide) (hw _ u1114) (fun _ h9 => h9) rfl dX11_leads_19 ?_
    refine lv_iload_n hx hb dX11_leads_22 rfl (lv_at hl 0 rfl) ?_
    obtain ⟨h5, hev⟩ := x_ld hev
    refine va_zald hx hb hK hP 2 2 rfl rfl h5 dX11_leads_23 ?_
    refine lv_topi (fun v6 ev6 => ?_)
    replace hev := hev v6 ev6
    refine lv_if_eq (tgt := 48) hx hb dX11_leads_24 (by decide) (fun c7 => ?_) (fun c7 => ?_)
    · replace hev := x_t c7 hev
      refine lv_iconst (v := (0 : Int32)) hx hb dX11_leads_48 (by decide) ?_
      exact ret2 _ _ _ _ (0 : Int32) (0 : Int32) w4 (Option.some.inj hev) dX11_leads_49 (show narrow _ (.int (0 : Int32)) = .int (0 : Int32) from nb0) hP hD hS
    · replace hev := x_f c7 hev
      refine lv_aload_n hx hb dX11_leads_27 rfl (lv_at hl 1 rfl) ?_
      refine va_get (D := G.1) (ci := 7) (v := .ref aT_fars) (C := RX11) (T := TX11) (N := 34) hx hb hts i11 hown hK hP 0 rfl rfl 22 (by decide) (hw _ u1109) (fun _ h9 => h9) rfl dX11_leads_28 ?_
      refine lv_iload_n hx hb dX11_leads_31 rfl (lv_at hl 0 rfl) ?_
      obtain ⟨h8, hev⟩ := x_ld hev
      refine va_iald hx hb hK hP 3 0 rfl rfl h8 dX11_leads_32 ?_
      refine lv_topi (fun v9 ev9 => ?_)
      replace hev := hev v9 ev9
      refine lv_aload_n hx hb dX11_leads_33 rfl (lv_at hl 1 rfl) ?_
      refine va_get (D := G.1) (ci := 7) (v := .ref aT_fars) (C := RX11) (T := TX11) (N := 34) hx hb hts i11 hown hK hP 0 rfl rfl 22 (by decide) (hw _ u1109) (fun _ h9 => h9) rfl dX11_leads_34 ?_
      refine lv_iload_n hx hb dX11_leads_37 rfl (lv_at hl 2 rfl) ?_
      obtain ⟨h10, hev⟩ := x_ld hev
      refine va_iald hx hb hK hP 3 0 rfl rfl h10 dX11_leads_38 ?_
      refine lv_topi (fun v11 ev11 => ?_)
      replace hev := hev v11 ev11
      refine lv_iconst (v := (1 : Int32)) hx hb dX11_leads_39 (by decide) ?_
      refine lv_iadd hx hb dX11_leads_40 ?_
      refine lv_icmp_ne (tgt := 48) hx hb dX11_leads_41 (by decide) (fun c12 => ?_) (fun c12 => ?_)
      · replace hev := x_f c12 hev
        refine lv_iconst (v := (0 : Int32)) hx hb dX11_leads_48 (by decide) ?_
        exact ret2 _ _ _ _ (0 : Int32) (0 : Int32) w4 (Option.some.inj hev) dX11_leads_49 (show narrow _ (.int (0 : Int32)) = .int (0 : Int32) from nb0) hP hD hS
      · replace hev := x_t c12 hev
        refine lv_iconst (v := (1 : Int32)) hx hb dX11_leads_44 (by decide) ?_
        refine lv_goto (tgt := 49) hx hb dX11_leads_45 (by decide) ?_
        exact ret2 _ _ _ _ (1 : Int32) (1 : Int32) w4 (Option.some.inj hev) dX11_leads_49 (show narrow _ (.int (1 : Int32)) = .int (1 : Int32) from nb1) hP hD hS
  · replace hev := x_t c2 hev
    refine lv_iconst (v := (0 : Int32)) hx hb dX11_leads_9 (by decide) ?_
    exact ret2 _ _ _ _ (0 : Int32) (0 : Int32) vT_lifted (Option.some.inj hev) dX11_leads_10 (show narrow _ (.int (0 : Int32)) = .int (0 : Int32) from nb0) hP hD hS
def f_Mo_layWays_L2 (vT_lifted : Int32) (vT_many : Int32) (vT_people : Int32) (vT_queued : Int32) (fT_fars : Nat → Int32) (fT_queue : Nat → Int32) (fT_spells : Nat → Int32) (x1 : Int32) (x2 : Int32) : Nat → Int32 → (Nat → Int32) → Option ((Nat → Int32))
  | 0, _, _ => none
  | k + 1, x3, fT_onWay => if (57344 : Int32) ≤ x3 then (some fT_onWay) else x_C 57344 x3 (x_L (x3 + (1 : Int32)) (fun y3 => (f_Mo_layWays_L2 vT_lifted vT_many vT_people vT_queued fT_fars fT_queue fT_spells x1 x2 k) y3 (upd fT_onWay (x3).toNatClampNeg (vp_nar .boolean (0 : Int32)))))
def f_Mo_layWays_J107 (rec : Int32 → Int32 → (Nat → Int32) → Option (Int32 × (Nat → Int32))) (k : Nat) (vT_lifted : Int32) (vT_many : Int32) (vT_people : Int32) (vT_queued : Int32) (fT_fars : Nat → Int32) (fT_onWay : Nat → Int32) (fT_queue : Nat → Int32) (fT_spells : Nat → Int32) (x1 : Int32) (x2 : Int32) (x3 : Int32) (x4 : Int32) (x5 : Int32) : Option (Int32 × (Nat → Int32)) := x_C 57344 x4 (x_L (x3 + (-1 : Int32)) (fun y7 => rec y7 vT_lifted (upd fT_onWay (x4).toNatClampNeg (vp_nar .boolean x5))))
def f_Mo_layWays_L68 (vT_many : Int32) (vT_people : Int32) (vT_queued : Int32) (fT_fars : Nat → Int32) (fT_onWay : Nat → Int32) (fT_queue : Nat → Int32) (fT_spells : Nat → Int32) (x1 : Int32) (x2 : Int32) (x3 : Int32) (x4 : Int32) : Nat → Int32 → Int32 → Int32 → Option (Int32 × Int32)
  | 0, _, _, _ => none
  | k + 1, x5, x6, vT_lifted => if (22 : Int32) ≤ x6 then (some (x5, vT_lifted)) else if x5 = 0 then (x_I 57344 fT_fars x4 (fun v11 => if x2 ≤ v11 then (some (x5, vT_lifted)) else x_B (f_Mo_leads k vT_lifted vT_many vT_people fT_fars fT_onWay fT_spells x4 x6) (fun ⟨y13, w14⟩ => x_L (x6 + (1 : Int32)) (fun y15 => (f_Mo_layWays_L68 vT_many vT_people vT_queued fT_fars fT_onWay fT_queue fT_spells x1 x2 x3 x4 k) y13 y15 w14)))) else some (x5, vT_lifted)
def f_Mo_layWays_J63 (rec : Int32 → Int32 → (Nat → Int32) → Option (Int32 × (Nat → Int32))) (k : Nat) (vT_lifted : Int32) (vT_many : Int32) (vT_people : Int32) (vT_queued : Int32) (fT_fars : Nat → Int32) (fT_onWay : Nat → Int32) (fT_queue : Nat → Int32) (fT_spells : Nat → Int32) (x1 : Int32) (x2 : Int32) (x3 : Int32) (x4 : Int32) (s0 : Int32) : Option (Int32 × (Nat → Int32)) := x_B (f_Mo_layWays_L68 vT_many vT_people vT_queued fT_fars fT_onWay fT_queue fT_spells x1 x2 x3 x4 k s0 (0 : Int32) vT_lifted) (fun ⟨y16, w17⟩ => f_Mo_layWays_J107 rec k w17 vT_many vT_people vT_queued fT_fars fT_onWay fT_queue fT_spells x1 x2 x3 x4 y16)
def f_Mo_layWays_J62 (rec : Int32 → Int32 → (Nat → Int32) → Option (Int32 × (Nat → Int32))) (k : Nat) (vT_lifted : Int32) (vT_many : Int32) (vT_people : Int32) (vT_queued : Int32) (fT_fars : Nat → Int32) (fT_onWay : Nat → Int32) (fT_queue : Nat → Int32) (fT_spells : Nat → Int32) (x1 : Int32) (x2 : Int32) (x3 : Int32) (x4 : Int32) : Option (Int32 × (Nat → Int32)) := f_Mo_layWays_J63 rec k vT_lifted vT_many vT_people vT_queued fT_fars fT_onWay fT_queue fT_spells x1 x2 x3 x4 (0 : Int32)
def f_Mo_layWays_L28 (vT_many : Int32) (vT_people : Int32) (vT_queued : Int32) (fT_fars : Nat → Int32) (fT_queue : Nat → Int32) (fT_spells : Nat → Int32) (x1 : Int32) (x2 : Int32) : Nat → Int32 → Int32 → (Nat → Int32) → Option (Int32 × (Nat → Int32))
  | 0, _, _, _ => none
  | k + 1, x3, vT_lifted, fT_onWay => if x3 < 0 then (some (vT_lifted, fT_onWay)) else x_I 57344 fT_queue x3 (fun v20 => x_I 57344 fT_fars v20 (fun v22 => if v22 = x2 then (if (v20 &&& x1) = 0 then (f_Mo_layWays_J63 (f_Mo_layWays_L28 vT_many vT_people vT_queued fT_fars fT_queue fT_spells x1 x2 k) k vT_lifted vT_many vT_people vT_queued fT_fars fT_onWay fT_queue fT_spells x1 x2 x3 v20 (1 : Int32)) else f_Mo_layWays_J62 (f_Mo_layWays_L28 vT_many vT_people vT_queued fT_fars fT_queue fT_spells x1 x2 k) k vT_lifted vT_many vT_people vT_queued fT_fars fT_onWay fT_queue fT_spells x1 x2 x3 v20) else f_Mo_layWays_J62 (f_Mo_layWays_L28 vT_many vT_people vT_queued fT_fars fT_queue fT_spells x1 x2 k) k vT_lifted vT_many vT_people vT_queued fT_fars fT_onWay fT_queue fT_spells x1 x2 x3 v20))
def f_Mo_layWays (k : Nat) (vT_lifted : Int32) (vT_many : Int32) (vT_people : Int32) (vT_queued : Int32) (fT_fars : Nat → Int32) (fT_onWay : Nat → Int32) (fT_queue : Nat → Int32) (fT_spells : Nat → Int32) (p1 : Int32) (p2 : Int32) : Option (Int32 × (Nat → Int32)) := x_B (f_Mo_layWays_L2 vT_lifted vT_many vT_people vT_queued fT_fars fT_queue fT_spells p1 p2 k (0 : Int32) fT_onWay) (fun w4 => x_L ((vT_queued - (1 : Int32))) (fun y5 => x_B (f_Mo_layWays_L28 vT_many vT_people vT_queued fT_fars fT_queue fT_spells p1 p2 k y5 vT_lifted w4) (fun ⟨w25, w26⟩ => some (w25, w26))))
set_option maxHeartbeats 8000000 in
set_option maxRecDepth 100000 in
theorem c_Mo_layWays (l : Launch) (G : GG) (aT aT_text aT_read aT_spells aT_pasts aT_keptStates aT_keptDeeds aT_isKept aT_fars aT_queue aT_later aT_onWay aT_row aT_princes aT_tries : Nat) (vT_length : Int32) (vT_readMany : Int32) (vT_people : Int32) (vT_toldDay : Int32) (vT_toldBroken : Int32) (vT_many : Int32) (vT_now : Int32) (vT_deeds : Int32) (vT_pastMany : Int32) (vT_at : Int32) (vT_place : Int32) (vT_end : Int32) (vT_readPeople : Int32) (vT_readSpells : Int32) (vT_lifted : Int32) (vT_queued : Int32) (vT_laterMany : Int32) (vT_rowMany : Int32) (vT_princeMany : Int32) (vT_triedMany : Int32) (fT_onWay : Nat → Int32) (fT_queue : Nat → Int32) (fT_fars : Nat → Int32) (fT_spells : Nat → Int32) (k : Nat) (p1 : Int32) (p2 : Int32) (wvT_lifted : Int32) (wfT_onWay : Nat → Int32) (hev : f_Mo_layWays k vT_lifted vT_many vT_people vT_queued fT_fars fT_onWay fT_queue fT_spells p1 p2 = some (wvT_lifted, wfT_onWay)) : RW l G yX11_layWays cX11_layWays 7 none 5 [.ref aT, .int p1, .int p2] [(aT, .inr (7, [.ref aT_text, .int vT_length, .ref aT_read, .int vT_readMany, .int vT_people, .int vT_toldDay, .int vT_toldBroken, .ref aT_spells, .int vT_many, .int vT_now, .int vT_deeds, .ref aT_pasts, .int vT_pastMany, .ref aT_keptStates, .ref aT_keptDeeds, .ref aT_isKept, .int vT_at, .int vT_place, .int vT_end, .int vT_readPeople, .int vT_readSpells, .int vT_lifted, .ref aT_fars, .ref aT_queue, .int vT_queued, .ref aT_later, .int vT_laterMany, .ref aT_onWay, .ref aT_row, .int vT_rowMany, .ref aT_princes, .int vT_princeMany, .ref aT_tries, .int vT_triedMany])), (aT_onWay, .inl (G.2.2.2.1, 57344, .inl fT_onWay)), (aT_queue, .inl (G.2.1, 57344, .inl fT_queue)), (aT_fars, .inl (G.2.1, 57344, .inl fT_fars)), (aT_spells, .inl (G.2.1, 50, .inl fT_spells))] none [(aT, .inr (7, [.ref aT_text, .int vT_length, .ref aT_read, .int vT_readMany, .int vT_people, .int vT_toldDay, .int vT_toldBroken, .ref aT_spells, .int vT_many, .int vT_now, .int vT_deeds, .ref aT_pasts, .int vT_pastMany, .ref aT_keptStates, .ref aT_keptDeeds, .ref aT_isKept, .int vT_at, .int vT_place, .int vT_end, .int vT_readPeople, .int vT_readSpells, .int wvT_lifted, .ref aT_fars, .ref aT_queue, .int vT_queued, .ref aT_later, .int vT_laterMany, .ref aT_onWay, .ref aT_row, .int vT_rowMany, .ref aT_princes, .int vT_princeMany, .ref aT_tries, .int vT_triedMany])), (aT_onWay, .inl (G.2.2.2.1, 57344, .inl wfT_onWay)), (aT_queue, .inl (G.2.1, 57344, .inl fT_queue)), (aT_fars, .inl (G.2.1, 57344, .inl fT_fars)), (aT_spells, .inl (G.2.1, 50, .inl fT_spells))] 0 0 := by
  refine RW_of (by decide) (Nat.le_of_ble_eq_true rfl) ?_
  intro p e s m ar below meth c R Q A ls X hR hRc hin hP hKK hD hS hA hAb hl ret
  obtain ⟨rs, hrs⟩ : ∃ q, q = (wvT_lifted, wfT_onWay) := ⟨_, rfl⟩
  rw [← hrs] at hev
  have ret2 : ∀ (pc : Nat) (ls : Array Slot) (H : Heap) (lo : List Loc) (zvT_lifted : Int32) (zfT_onWay : Nat → Int32), (zvT_lifted, zfT_onWay) = rs → decode cX11_layWays pc = .ok (.return_, 1) → va_P G.1 classes [(aT, .inr (7, [.ref aT_text, .int vT_length, .ref aT_read, .int vT_readMany, .int vT_people, .int vT_toldDay, .int vT_toldBroken, .ref aT_spells, .int vT_many, .int vT_now, .int vT_deeds, .ref aT_pasts, .int vT_pastMany, .ref aT_keptStates, .ref aT_keptDeeds, .ref aT_isKept, .int vT_at, .int vT_place, .int vT_end, .int vT_readPeople, .int vT_readSpells, .int zvT_lifted, .ref aT_fars, .ref aT_queue, .int vT_queued, .ref aT_later, .int vT_laterMany, .ref aT_onWay, .ref aT_row, .int vT_rowMany, .ref aT_princes, .int vT_princeMany, .ref aT_tries, .int vT_triedMany])), (aT_onWay, .inl (G.2.2.2.1, 57344, .inl zfT_onWay)), (aT_queue, .inl (G.2.1, 57344, .inl fT_queue)), (aT_fars, .inl (G.2.1, 57344, .inl fT_fars)), (aT_spells, .inl (G.2.1, 50, .inl fT_spells))] H → va_D A [(aT, .inr (7, [.ref aT_text, .int vT_length, .ref aT_read, .int vT_readMany, .int vT_people, .int vT_toldDay, .int vT_toldBroken, .ref aT_spells, .int vT_many, .int vT_now, .int vT_deeds, .ref aT_pasts, .int vT_pastMany, .ref aT_keptStates, .ref aT_keptDeeds, .ref aT_isKept, .int vT_at, .int vT_place, .int vT_end, .int vT_readPeople, .int vT_readSpells, .int zvT_lifted, .ref aT_fars, .ref aT_queue, .int vT_queued, .ref aT_later, .int vT_laterMany, .ref aT_onWay, .ref aT_row, .int vT_rowMany, .ref aT_princes, .int vT_princeMany, .ref aT_tries, .int vT_triedMany])), (aT_onWay, .inl (G.2.2.2.1, 57344, .inl zfT_onWay)), (aT_queue, .inl (G.2.1, 57344, .inl fT_queue)), (aT_fars, .inl (G.2.1, 57344, .inl fT_fars)), (aT_spells, .inl (G.2.1, 50, .inl fT_spells))] → va_S A s.heap H lo → W p l e R s m ar below meth c H lo 0 0 Q (F0 m pc ls []) := by
    intro pc ls H lo zvT_lifted zfT_onWay he hd h1 h2 h3
    have he := he.trans hrs
    cases he
    exact ret.2.1 _ _ _ _ rfl rfl hd h1 h2 h3
  clear ret hrs
  have hl : lv_has ls 7 [(0, .ref aT), (1, .int p1), (2, .int p2)] := hl
  obtain ⟨hx, hb, hml, hown, hts, hT⟩ := id X
  have hK := hKK.1
  have hw : ∀ w ∈ T0, w.before ar s = true := fun w h => hts w (hT w h)
  have i11 := fun w h => hT w (inT11 w h)
  unfold f_Mo_layWays at hev
  refine lv_iconst (v := (0 : Int32)) hx hb dX11_layWays_0 (by decide) ?_
  refine lv_istore_n (lv' := [(3, .int (0 : Int32)), (0, .ref aT), (1, .int p1), (2, .int p2)]) hx hb dX11_layWays_1 rfl hl (by decide) rfl (fun ls hl => ?_)
  have L2 : ∀ (vT_lifted : Int32) (x1 : Int32) (x2 : Int32), ∀ (k : Nat) (x3 : Int32) (fT_onWay : Nat → Int32) (ofT_onWay : Nat → Int32), f_Mo_layWays_L2 vT_lifted vT_many vT_people vT_queued fT_fars fT_queue fT_spells x1 x2 k x3 fT_onWay = some ofT_onWay → (∀ (H : Heap) (lo : List Loc), va_P G.1 classes [(aT, .inr (7, [.ref aT_text, .int vT_length, .ref aT_read, .int vT_readMany, .int vT_people, .int vT_toldDay, .int vT_toldBroken, .ref aT_spells, .int vT_many, .int vT_now, .int vT_deeds, .ref aT_pasts, .int vT_pastMany, .ref aT_keptStates, .ref aT_keptDeeds, .ref aT_isKept, .int vT_at, .int vT_place, .int vT_end, .int vT_readPeople, .int vT_readSpells, .int vT_lifted, .ref aT_fars, .ref aT_queue, .int vT_queued, .ref aT_later, .int vT_laterMany, .ref aT_onWay, .ref aT_row, .int vT_rowMany, .ref aT_princes, .int vT_princeMany, .ref aT_tries, .int vT_triedMany])), (aT_onWay, .inl (G.2.2.2.1, 57344, .inl ofT_onWay)), (aT_queue, .inl (G.2.1, 57344, .inl fT_queue)), (aT_fars, .inl (G.2.1, 57344, .inl fT_fars)), (aT_spells, .inl (G.2.1, 50, .inl fT_spells))] H → va_D A [(aT, .inr (7, [.ref aT_text, .int vT_length, .ref aT_read, .int vT_readMany, .int vT_people, .int vT_toldDay, .int vT_toldBroken, .ref aT_spells, .int vT_many, .int vT_now, .int vT_deeds, .ref aT_pasts, .int vT_pastMany, .ref aT_keptStates, .ref aT_keptDeeds, .ref aT_isKept, .int vT_at, .int vT_place, .int vT_end, .int vT_readPeople, .int vT_readSpells, .int vT_lifted, .ref aT_fars, .ref aT_queue, .int vT_queued, .ref aT_later, .int vT_laterMany, .ref aT_onWay, .ref aT_row, .int vT_rowMany, .ref aT_princes, .int vT_princeMany, .ref aT_tries, .int vT_triedMany])), (aT_onWay, .inl (G.2.2.2.1, 57344, .inl ofT_onWay)), (aT_queue, .inl (G.2.1, 57344, .inl fT_queue)), (aT_fars, .inl (G.2.1, 57344, .inl fT_fars)), (aT_spells, .inl (G.2.1, 50, .inl fT_spells))] → va_S A s.heap H lo → ∀ (ls : Array Slot), lv_has ls 7 [(0, .ref aT), (1, .int x1), (2, .int x2)] → W p l e R s m ar below meth c H lo 0 0 Q (F0 m 21 ls [])) → ∀ (H : Heap) (lo : List Loc), va_P G.1 classes [(aT, .inr (7, [.ref aT_text, .int vT_length, .ref aT_read, .int vT_readMany, .int vT_people, .int vT_toldDay, .int vT_toldBroken, .ref aT_spells, .int vT_many, .int vT_now, .int vT_deeds, .ref aT_pasts, .int vT_pastMany, .ref aT_keptStates, .ref aT_keptDeeds, .ref aT_isKept, .int vT_at, .int vT_place, .int vT_end, .int vT_readPeople, .int vT_readSpells, .int vT_lifted, .ref aT_fars, .ref aT_queue, .int vT_queued, .ref aT_later, .int vT_laterMany, .ref aT_onWay, .ref aT_row, .int vT_rowMany, .ref aT_princes, .int vT_princeMany, .ref aT_tries, .int vT_triedMany])), (aT_onWay, .inl (G.2.2.2.1, 57344, .inl fT_onWay)), (aT_queue, .inl (G.2.1, 57344, .inl fT_queue)), (aT_fars, .inl (G.2.1, 57344, .inl fT_fars)), (aT_spells, .inl (G.2.1, 50, .inl fT_spells))] H → va_D A [(aT, .inr (7, [.ref aT_text, .int vT_length, .ref aT_read, .int vT_readMany, .int vT_people, .int vT_toldDay, .int vT_toldBroken, .ref aT_spells, .int vT_many, .int vT_now, .int vT_deeds, .ref aT_pasts, .int vT_pastMany, .ref aT_keptStates, .ref aT_keptDeeds, .ref aT_isKept, .int vT_at, .int vT_place, .int vT_end, .int vT_readPeople, .int vT_readSpells, .int vT_lifted, .ref aT_fars, .ref aT_queue, .int vT_queued, .ref aT_later, .int vT_laterMany, .ref aT_onWay, .ref aT_row, .int vT_rowMany, .ref aT_princes, .int vT_princeMany, .ref aT_tries, .int vT_triedMany])), (aT_onWay, .inl (G.2.2.2.1, 57344, .inl fT_onWay)), (aT_queue, .inl (G.2.1, 57344, .inl fT_queue)), (aT_fars, .inl (G.2.1, 57344, .inl fT_fars)), (aT_spells, .inl (G.2.1, 50, .inl fT_spells))] → va_S A s.heap H lo → ∀ (ls : Array Slot), lv_has ls 7 [(0, .ref aT), (1, .int x1), (2, .int x2), (3, .int x3)] → W p l e R s m ar below meth c H lo 0 0 Q (F0 m 2 ls []) := by
    intro vT_lifted x1 x2 k
    induction k with
    | zero => intro x3 fT_onWay ofT_onWay hev; rw [f_Mo_layWays_L2] at hev; cases hev
    | succ k ih =>
      intro x3 fT_onWay ofT_onWay hev hex H lo hP hD hS ls hl
      rw [f_Mo_layWays_L2] at hev
      refine lv_iload_n hx hb dX11_layWays_2 rfl (lv_at hl 3 rfl) ?_
      refine lv_ldc (v := (57344 : Int32)) hx hb hown (hw _ u1086) dX11_layWays_3 ?_
      refine lv_icmp_ge (tgt := 21) hx hb dX11_layWays_5 (by decide) (fun c1 => ?_) (fun c1 => ?_)
      · replace hev := x_t c1 hev
        cases hev
        exact hex _ _ hP hD hS ls (lv_sub hl [0, 1, 2] rfl)
      · replace hev := x_f c1 hev
        refine lv_aload_n hx hb dX11_layWays_8 rfl (lv_at hl 0 rfl) ?_
        refine va_get (D := G.1) (ci := 7) (v := .ref aT_onWay) (C := RX11) (T := TX11) (N := 34) hx hb hts i11 hown hK hP 0 rfl rfl 27 (by decide) (hw _ u1114) (fun _ h9 => h9) rfl dX11_layWays_9 ?_
        refine lv_iload_n hx hb dX11_layWays_12 rfl (lv_at hl 3 rfl) ?_
        refine lv_iconst (v := (0 : Int32)) hx hb dX11_layWays_13 (by decide) ?_
        obtain ⟨h2, hev⟩ := x_ck hev
        refine va_zast hx hb hK hP hD hS 1 2 rfl rfl h2 dX11_layWays_14 (fun H lo hP hD hS => ?_)
        obtain ⟨y3, ey3⟩ : ∃ y : Int32, y = x3 + (1 : Int32) := ⟨_, rfl⟩
        refine lv_iinc (v := y3) (lv' := [(3, .int y3), (0, .ref aT), (1, .int x1), (2, .int x2)]) hx hb dX11_layWays_15 hl (k := 3) rfl (by rw [ey3]; rfl) (by decide) rfl (fun ls hl => ?_)
        replace hev := x_lt hev y3 ey3
        refine lv_goto (tgt := 2) hx hb dX11_layWays_18 (by decide) ?_
        exact ih y3 (upd fT_onWay (x3).toNatClampNeg (vp_nar .boolean (0 : Int32))) _ hev hex _ _ hP hD hS ls (lv_sub hl [1, 2, 3, 0] rfl)
  obtain ⟨w4, hq, hev⟩ := x_bd hev
  refine L2 vT_lifted p1 p2 k (0 : Int32) fT_onWay w4 hq (fun H lo hP hD hS ls hl => ?_) _ _ hP hD hS ls (lv_sub hl [1, 2, 3, 0] rfl)
  refine lv_aload_n hx hb dX11_layWays_21 rfl (lv_at hl 0 rfl) ?_
  refine va_get (D := G.1) (ci := 7) (v := .int vT_queued) (C := RX11) (T := TX11) (N := 34) hx hb hts i11 hown hK hP 0 rfl rfl 24 (by decide) (hw _ u1111) (fun _ h9 => h9) rfl dX11_layWays_22 ?_
  refine lv_iconst (v := (1 : Int32)) hx hb dX11_layWays_25 (by decide) ?_
  refine lv_isub hx hb dX11_layWays_26 ?_
  refine lv_topi (fun y5 ey5 => ?_)
  replace hev := x_lt hev y5 ey5
  refine lv_istore_n (lv' := [(3, .int y5), (0, .ref aT), (1, .int p1), (2, .int p2)]) hx hb dX11_layWays_27 rfl hl (by decide) rfl (fun ls hl => ?_)
  have L28 : ∀ (x1 : Int32) (x2 : Int32), ∀ (k : Nat) (x3 : Int32) (vT_lifted : Int32) (fT_onWay : Nat → Int32) (ovT_lifted : Int32) (ofT_onWay : Nat → Int32), f_Mo_layWays_L28 vT_many vT_people vT_queued fT_fars fT_queue fT_spells x1 x2 k x3 vT_lifted fT_onWay = some (ovT_lifted, ofT_onWay) → (∀ (H : Heap) (lo : List Loc), va_P G.1 classes [(aT, .inr (7, [.ref aT_text, .int vT_length, .ref aT_read, .int vT_readMany, .int vT_people, .int vT_toldDay, .int vT_toldBroken, .ref aT_spells, .int vT_many, .int vT_now, .int vT_deeds, .ref aT_pasts, .int vT_pastMany, .ref aT_keptStates, .ref aT_keptDeeds, .ref aT_isKept, .int vT_at, .int vT_place, .int vT_end, .int vT_readPeople, .int vT_readSpells, .int ovT_lifted, .ref aT_fars, .ref aT_queue, .int vT_queued, .ref aT_later, .int vT_laterMany, .ref aT_onWay, .ref aT_row, .int vT_rowMany, .ref aT_princes, .int vT_princeMany, .ref aT_tries, .int vT_triedMany])), (aT_onWay, .inl (G.2.2.2.1, 57344, .inl ofT_onWay)), (aT_queue, .inl (G.2.1, 57344, .inl fT_queue)), (aT_fars, .inl (G.2.1, 57344, .inl fT_fars)), (aT_spells, .inl (G.2.1, 50, .inl fT_spells))] H → va_D A [(aT, .inr (7, [.ref aT_text, .int vT_length, .ref aT_read, .int vT_readMany, .int vT_people, .int vT_toldDay, .int vT_toldBroken, .ref aT_spells, .int vT_many, .int vT_now, .int vT_deeds, .ref aT_pasts, .int vT_pastMany, .ref aT_keptStates, .ref aT_keptDeeds, .ref aT_isKept, .int vT_at, .int vT_place, .int vT_end, .int vT_readPeople, .int vT_readSpells, .int ovT_lifted, .ref aT_fars, .ref aT_queue, .int vT_queued, .ref aT_later, .int vT_laterMany, .ref aT_onWay, .ref aT_row, .int vT_rowMany, .ref aT_princes, .int vT_princeMany, .ref aT_tries, .int vT_triedMany])), (aT_onWay, .inl (G.2.2.2.1, 57344, .inl ofT_onWay)), (aT_queue, .inl (G.2.1, 57344, .inl fT_queue)), (aT_fars, .inl (G.2.1, 57344, .inl fT_fars)), (aT_spells, .inl (G.2.1, 50, .inl fT_spells))] → va_S A s.heap H lo → ∀ (ls : Array Slot), lv_has ls 7 [] → W p l e R s m ar below meth c H lo 0 0 Q (F0 m 122 ls [])) → ∀ (H : Heap) (lo : List Loc), va_P G.1 classes [(aT, .inr (7, [.ref aT_text, .int vT_length, .ref aT_read, .int vT_readMany, .int vT_people, .int vT_toldDay, .int vT_toldBroken, .ref aT_spells, .int vT_many, .int vT_now, .int vT_deeds, .ref aT_pasts, .int vT_pastMany, .ref aT_keptStates, .ref aT_keptDeeds, .ref aT_isKept, .int vT_at, .int vT_place, .int vT_end, .int vT_readPeople, .int vT_readSpells, .int vT_lifted, .ref aT_fars, .ref aT_queue, .int vT_queued, .ref aT_later, .int vT_laterMany, .ref aT_onWay, .ref aT_row, .int vT_rowMany, .ref aT_princes, .int vT_princeMany, .ref aT_tries, .int vT_triedMany])), (aT_onWay, .inl (G.2.2.2.1, 57344, .inl fT_onWay)), (aT_queue, .inl (G.2.1, 57344, .inl fT_queue)), (aT_fars, .inl (G.2.1, 57344, .inl fT_fars)), (aT_spells, .inl (G.2.1, 50, .inl fT_spells))] H → va_D A [(aT, .inr (7, [.ref aT_text, .int vT_length, .ref aT_read, .int vT_readMany, .int vT_people, .int vT_toldDay, .int vT_toldBroken, .ref aT_spells, .int vT_many, .int vT_now, .int vT_deeds, .ref aT_pasts, .int vT_pastMany, .ref aT_keptStates, .ref aT_keptDeeds, .ref aT_isKept, .int vT_at, .int vT_place, .int vT_end, .int vT_readPeople, .int vT_readSpells, .int vT_lifted, .ref aT_fars, .ref aT_queue, .int vT_queued, .ref aT_later, .int vT_laterMany, .ref aT_onWay, .ref aT_row, .int vT_rowMany, .ref aT_princes, .int vT_princeMany, .ref aT_tries, .int vT_triedMany])), (aT_onWay, .inl (G.2.2.2.1, 57344, .inl fT_onWay)), (aT_queue, .inl (G.2.1, 57344, .inl fT_queue)), (aT_fars, .inl (G.2.1, 57344, .inl fT_fars)), (aT_spells, .inl (G.2.1, 50, .inl fT_spells))] → va_S A s.heap H lo → ∀ (ls : Array Slot), lv_has ls 7 [(0, .ref aT), (1, .int x1), (2, .int x2), (3, .int x3)] → W p l e R s m ar below meth c H lo 0 0 Q (F0 m 28 ls []) := by
    intro x1 x2 k
    induction k with
    | zero => intro x3 vT_lifted fT_onWay ovT_lifted ofT_onWay hev; rw [f_Mo_layWays_L28] at hev; cases hev
    | succ k ih =>
      intro x3 vT_lifted fT_onWay ovT_lifted ofT_onWay hev hex H lo hP hD hS ls hl
      rw [f_Mo_layWays_L28] at hev
      have J107 : ∀ (vT_lifted : Int32) (fT_onWay : Nat → Int32) (x3 : Int32) (x4 : Int32) (x5 : Int32), ∀ (H : Heap) (lo : List Loc), va_P G.1 classes [(aT, .inr (7, [.ref aT_text, .int vT_length, .ref aT_read, .int vT_readMany, .int vT_people, .int vT_toldDay, .int vT_toldBroken, .ref aT_spells, .int vT_many, .int vT_now, .int vT_deeds, .ref aT_pasts, .int vT_pastMany, .ref aT_keptStates, .ref aT_keptDeeds, .ref aT_isKept, .int vT_at, .int vT_place, .int vT_end, .int vT_readPeople, .int vT_readSpells, .int vT_lifted, .ref aT_fars, .ref aT_queue, .int vT_queued, .ref aT_later, .int vT_laterMany, .ref aT_onWay, .ref aT_row, .int vT_rowMany, .ref aT_princes, .int vT_princeMany, .ref aT_tries, .int vT_triedMany])), (aT_onWay, .inl (G.2.2.2.1, 57344, .inl fT_onWay)), (aT_queue, .inl (G.2.1, 57344, .inl fT_queue)), (aT_fars, .inl (G.2.1, 57344, .inl fT_fars)), (aT_spells, .inl (G.2.1, 50, .inl fT_spells))] H → va_D A [(aT, .inr (7, [.ref aT_text, .int vT_length, .ref aT_read, .int vT_readMany, .int vT_people, .int vT_toldDay, .int vT_toldBroken, .ref aT_spells, .int vT_many, .int vT_now, .int vT_deeds, .ref aT_pasts, .int vT_pastMany, .ref aT_keptStates, .ref aT_keptDeeds, .ref aT_isKept, .int vT_at, .int vT_place, .int vT_end, .int vT_readPeople, .int vT_readSpells, .int vT_lifted, .ref aT_fars, .ref aT_queue, .int vT_queued, .ref aT_later, .int vT_laterMany, .ref aT_onWay, .ref aT_row, .int vT_rowMany, .ref aT_princes, .int vT_princeMany, .ref aT_tries, .int vT_triedMany])), (aT_onWay, .inl (G.2.2.2.1, 57344, .inl fT_onWay)), (aT_queue, .inl (G.2.1, 57344, .inl fT_queue)), (aT_fars, .inl (G.2.1, 57344, .inl fT_fars)), (aT_spells, .inl (G.2.1, 50, .inl fT_spells))] → va_S A s.heap H lo → ∀ (ls : Array Slot), f_Mo_layWays_J107 (f_Mo_layWays_L28 vT_many vT_people vT_queued fT_fars fT_queue fT_spells x1 x2 k) k vT_lifted vT_many vT_people vT_queued fT_fars fT_onWay fT_queue fT_spells x1 x2 x3 x4 x5 = some (ovT_lifted, ofT_onWay) → lv_has ls 7 [(0, .ref aT), (1, .int x1), (2, .int x2), (3, .int x3), (4, .int x4), (5, .int x5)] → W p l e R s m ar below meth c H lo 0 0 Q (F0 m 107 ls []) := by
        intro vT_lifted fT_onWay x3 x4 x5 H lo hP hD hS ls hev hl
        unfold f_Mo_layWays_J107 at hev
        refine lv_aload_n hx hb dX11_layWays_107 rfl (lv_at hl 0 rfl) ?_
        refine va_get (D := G.1) (ci := 7) (v := .ref aT_onWay) (C := RX11) (T := TX11) (N := 34) hx hb hts i11 hown hK hP 0 rfl rfl 27 (by decide) (hw _ u1114) (fun _ h9 => h9) rfl dX11_layWays_108 ?_
        refine lv_iload hx hb dX11_layWays_111 (lv_at hl 4 rfl) ?_
        refine lv_iload hx hb dX11_layWays_113 (lv_at hl 5 rfl) ?_
        obtain ⟨h6, hev⟩ := x_ck hev
        refine va_zast hx hb hK hP hD hS 1 2 rfl rfl h6 dX11_layWays_115 (fun H lo hP hD hS => ?_)
        obtain ⟨y7, ey7⟩ : ∃ y : Int32, y = x3 + (-1 : Int32) := ⟨_, rfl⟩
        refine lv_iinc (v := y7) (lv' := [(3, .int y7), (0, .ref aT), (1, .int x1), (2, .int x2), (4, .int x4), (5, .int x5)]) hx hb dX11_layWays_116 hl (k := 3) rfl (by rw [ey7]; rfl) (by decide) rfl (fun ls hl => ?_)
        replace hev := x_lt hev y7 ey7
        refine lv_goto (tgt := 28) hx hb dX11_layWays_119 (by decide) ?_
        exact ih y7 vT_lifted (upd fT_onWay (x4).toNatClampNeg (vp_nar .boolean x5)) _ _ hev hex _ _ hP hD hS ls (lv_sub hl [1, 2, 3, 0] rfl)
      have J63 : ∀ (vT_lifted : Int32) (fT_onWay : Nat → Int32) (x3 : Int32) (x4 : Int32) (s0 : Int32), ∀ (H : Heap) (lo : List Loc), va_P G.1 classes [(aT, .inr (7, [.ref aT_text, .int vT_length, .ref aT_read, .int vT_readMany, .int vT_people, .int vT_toldDay, .int vT_toldBroken, .ref aT_spells, .int vT_many, .int vT_now, .int vT_deeds, .ref aT_pasts, .int vT_pastMany, .ref aT_keptStates, .ref aT_keptDeeds, .ref aT_isKept, .int vT_at, .int vT_place, .int vT_end, .int vT_readPeople, .int vT_readSpells, .int vT_lifted, .ref aT_fars, .ref aT_queue, .int vT_queued, .ref aT_later, .int vT_laterMany, .ref aT_onWay, .ref aT_row, .int vT_rowMany, .ref aT_princes, .int vT_princeMany, .ref aT_tries, .int vT_triedMany])), (aT_onWay, .inl (G.2.2.2.1, 57344, .inl fT_onWay)), (aT_queue, .inl (G.2.1, 57344, .inl fT_queue)), (aT_fars, .inl (G.2.1, 57344, .inl fT_fars)), (aT_spells, .inl (G.2.1, 50, .inl fT_spells))] H → va_D A [(aT, .inr (7, [.ref aT_text, .int vT_length, .ref aT_read, .int vT_readMany, .int vT_people, .int vT_toldDay, .int vT_toldBroken, .ref aT_spells, .int vT_many, .int vT_now, .int vT_deeds, .ref aT_pasts, .int vT_pastMany, .ref aT_keptStates, .ref aT_keptDeeds, .ref aT_isKept, .int vT_at, .int vT_place, .int vT_end, .int vT_readPeople, .int vT_readSpells, .int vT_lifted, .ref aT_fars, .ref aT_queue, .int vT_queued, .ref aT_later, .int vT_laterMany, .ref aT_onWay, .ref aT_row, .int vT_rowMany, .ref aT_princes, .int vT_princeMany, .ref aT_tries, .int vT_triedMany])), (aT_onWay, .inl (G.2.2.2.1, 57344, .inl fT_onWay)), (aT_queue, .inl (G.2.1, 57344, .inl fT_queue)), (aT_fars, .inl (G.2.1, 57344, .inl fT_fars)), (aT_spells, .inl (G.2.1, 50, .inl fT_spells))] → va_S A s.heap H lo → ∀ (ls : Array Slot), f_Mo_layWays_J63 (f_Mo_layWays_L28 vT_many vT_people vT_queued fT_fars fT_queue fT_spells x1 x2 k) k vT_lifted vT_many vT_people vT_queued fT_fars fT_onWay fT_queue fT_spells x1 x2 x3 x4 s0 = some (ovT_lifted, ofT_onWay) → lv_has ls 7 [(0, .ref aT), (1, .int x1), (2, .int x2), (3, .int x3), (4, .int x4)] → W p l e R s m ar below meth c H lo 0 0 Q (F0 m 63 ls [.int s0]) := by
        intro vT_lifted fT_onWay x3 x4 s0 H lo hP hD hS ls hev hl
        unfold f_Mo_layWays_J63 at hev
        refine lv_istore (lv' := [(5, .int s0), (0, .ref aT), (1, .int x1), (2, .int x2), (3, .int x3), (4, .int x4)]) hx hb dX11_layWays_63 hl (by decide) rfl (fun ls hl => ?_)
        refine lv_iconst (v := (0 : Int32)) hx hb dX11_layWays_65 (by decide) ?_
        refine lv_istore (lv' := [(6, .int (0 : Int32)), (5, .int s0), (0, .ref aT), (1, .int x1), (2, .int x2), (3, .int x3), (4, .int x4)]) hx hb dX11_layWays_66 hl (by decide) rfl (fun ls hl => ?_)
        have L68 : ∀ (fT_onWay : Nat → Int32) (x1 : Int32) (x2 : Int32) (x3 : Int32) (x4 : Int32), ∀ (k : Nat) (x5 : Int32) (x6 : Int32) (vT_lifted : Int32) (o5 : Int32) (ovT_lifted : Int32), f_Mo_layWays_L68 vT_many vT_people vT_queued fT_fars fT_onWay fT_queue fT_spells x1 x2 x3 x4 k x5 x6 vT_lifted = some (o5, ovT_lifted) → (∀ (H : Heap) (lo : List Loc), va_P G.1 classes [(aT, .inr (7, [.ref aT_text, .int vT_length, .ref aT_read, .int vT_readMany, .int vT_people, .int vT_toldDay, .int vT_toldBroken, .ref aT_spells, .int vT_many, .int vT_now, .int vT_deeds, .ref aT_pasts, .int vT_pastMany, .ref aT_keptStates, .ref aT_keptDeeds, .ref aT_isKept, .int vT_at, .int vT_place, .int vT_end, .int vT_readPeople, .int vT_readSpells, .int ovT_lifted, .ref aT_fars, .ref aT_queue, .int vT_queued, .ref aT_later, .int vT_laterMany, .ref aT_onWay, .ref aT_row, .int vT_rowMany, .ref aT_princes, .int vT_princeMany, .ref aT_tries, .int vT_triedMany])), (aT_onWay, .inl (G.2.2.2.1, 57344, .inl fT_onWay)), (aT_queue, .inl (G.2.1, 57344, .inl fT_queue)), (aT_fars, .inl (G.2.1, 57344, .inl fT_fars)), (aT_spells, .inl (G.2.1, 50, .inl fT_spells))] H → va_D A [(aT, .inr (7, [.ref aT_text, .int vT_length, .ref aT_read, .int vT_readMany, .int vT_people, .int vT_toldDay, .int vT_toldBroken, .ref aT_spells, .int vT_many, .int vT_now, .int vT_deeds, .ref aT_pasts, .int vT_pastMany, .ref aT_keptStates, .ref aT_keptDeeds, .ref aT_isKept, .int vT_at, .int vT_place, .int vT_end, .int vT_readPeople, .int vT_readSpells, .int ovT_lifted, .ref aT_fars, .ref aT_queue, .int vT_queued, .ref aT_later, .int vT_laterMany, .ref aT_onWay, .ref aT_row, .int vT_rowMany, .ref aT_princes, .int vT_princeMany, .ref aT_tries, .int vT_triedMany])), (aT_onWay, .inl (G.2.2.2.1, 57344, .inl fT_onWay)), (aT_queue, .inl (G.2.1, 57344, .inl fT_queue)), (aT_fars, .inl (G.2.1, 57344, .inl fT_fars)), (aT_spells, .inl (G.2.1, 50, .inl fT_spells))] → va_S A s.heap H lo → ∀ (ls : Array Slot), lv_has ls 7 [(0, .ref aT), (1, .int x1), (2, .int x2), (3, .int x3), (4, .int x4), (5, .int o5)] → W p l e R s m ar below meth c H lo 0 0 Q (F0 m 107 ls [])) → ∀ (H : Heap) (lo : List Loc), va_P G.1 classes [(aT, .inr (7, [.ref aT_text, .int vT_length, .ref aT_read, .int vT_readMany, .int vT_people, .int vT_toldDay, .int vT_toldBroken, .ref aT_spells, .int vT_many, .int vT_now, .int vT_deeds, .ref aT_pasts, .int vT_pastMany, .ref aT_keptStates, .ref aT_keptDeeds, .ref aT_isKept, .int vT_at, .int vT_place, .int vT_end, .int vT_readPeople, .int vT_readSpells, .int vT_lifted, .ref aT_fars, .ref aT_queue, .int vT_queued, .ref aT_later, .int vT_laterMany, .ref aT_onWay, .ref aT_row, .int vT_rowMany, .ref aT_princes, .int vT_princeMany, .ref aT_tries, .int vT_triedMany])), (aT_onWay, .inl (G.2.2.2.1, 57344, .inl fT_onWay)), (aT_queue, .inl (G.2.1, 57344, .inl fT_queue)), (aT_fars, .inl (G.2.1, 57344, .inl fT_fars)), (aT_spells, .inl (G.2.1, 50, .inl fT_spells))] H → va_D A [(aT, .inr (7, [.ref aT_text, .int vT_length, .ref aT_read, .int vT_readMany, .int vT_people, .int vT_toldDay, .int vT_toldBroken, .ref aT_spells, .int vT_many, .int vT_now, .int vT_deeds, .ref aT_pasts, .int vT_pastMany, .ref aT_keptStates, .ref aT_keptDeeds, .ref aT_isKept, .int vT_at, .int vT_place, .int vT_end, .int vT_readPeople, .int vT_readSpells, .int vT_lifted, .ref aT_fars, .ref aT_queue, .int vT_queued, .ref aT_later, .int vT_laterMany, .ref aT_onWay, .ref aT_row, .int vT_rowMany, .ref aT_princes, .int vT_princeMany, .ref aT_tries, .int vT_triedMany])), (aT_onWay, .inl (G.2.2.2.1, 57344, .inl fT_onWay)), (aT_queue, .inl (G.2.1, 57344, .inl fT_queue)), (aT_fars, .inl (G.2.1, 57344, .inl fT_fars)), (aT_spells, .inl (G.2.1, 50, .inl fT_spells))] → va_S A s.heap H lo → ∀ (ls : Array Slot), lv_has ls 7 [(0, .ref aT), (1, .int x1), (2, .int x2), (3, .int x3), (4, .int x4), (5, .int x5), (6, .int x6)] → W p l e R s m ar below meth c H lo 0 0 Q (F0 m 68 ls []) := by
          intro fT_onWay x1 x2 x3 x4 k
          induction k with
          | zero => intro x5 x6 vT_lifted o5 ovT_lifted hev; rw [f_Mo_layWays_L68] at hev; cases hev
          | succ k ih =>
            intro x5 x6 vT_lifted o5 ovT_lifted hev hex H lo hP hD hS ls hl
            rw [f_Mo_layWays_L68] at hev
            refine lv_iload hx hb dX11_layWays_68 (lv_at hl 6 rfl) ?_
            refine lv_bipush (v := (22 : Int32)) hx hb dX11_layWays_70 (by decide) ?_
            refine lv_icmp_ge (tgt := 107) hx hb dX11_layWays_72 (by decide) (fun c8 => ?_) (fun c8 => ?_)
            · replace hev := x_t c8 hev
              cases hev
              exact hex _ _ hP hD hS ls (lv_sub hl [0, 1, 2, 3, 4, 5] rfl)
            · replace hev := x_f c8 hev
              refine lv_iload hx hb dX11_layWays_75 (lv_at hl 5 rfl) ?_
              refine lv_if_ne (tgt := 107) hx hb dX11_layWays_77 (by decide) (fun c9 => ?_) (fun c9 => ?_)
              · replace hev := x_f c9 hev
                cases hev
                exact hex _ _ hP hD hS ls (lv_sub hl [0, 1, 2, 3, 4, 5] rfl)
              · replace hev := x_t c9 hev
                refine lv_aload_n hx hb dX11_layWays_80 rfl (lv_at hl 0 rfl) ?_
                refine va_get (D := G.1) (ci := 7) (v := .ref aT_fars) (C := RX11) (T := TX11) (N := 34) hx hb hts i11 hown hK hP 0 rfl rfl 22 (by decide) (hw _ u1109) (fun _ h9 => h9) rfl dX11_layWays_81 ?_
                refine lv_iload hx hb dX11_layWays_84 (lv_at hl 4 rfl) ?_
                obtain ⟨h10, hev⟩ := x_ld hev
                refine va_iald hx hb hK hP 3 0 rfl rfl h10 dX11_layWays_86 ?_
                refine lv_topi (fun v11 ev11 => ?_)
                replace hev := hev v11 ev11
                refine lv_iload_n hx hb dX11_layWays_87 rfl (lv_at hl 2 rfl) ?_
                refine lv_icmp_ge (tgt := 107) hx hb dX11_layWays_88 (by decide) (fun c12 => ?_) (fun c12 => ?_)
                · replace hev := x_t c12 hev
                  cases hev
                  exact hex _ _ hP hD hS ls (lv_sub hl [0, 1, 2, 3, 4, 5] rfl)
                · replace hev := x_f c12 hev
                  refine lv_aload_n hx hb dX11_layWays_91 rfl (lv_at hl 0 rfl) ?_
                  refine lv_iload hx hb dX11_layWays_92 (lv_at hl 4 rfl) ?_
                  refine lv_iload hx hb dX11_layWays_94 (lv_at hl 6 rfl) ?_
                  obtain ⟨⟨y13, w14⟩, hq, hev⟩ := x_bd hev
                  refine rgV X (KK_at hKK hS hAb) hR (st1 := [.int y13]) (ws2 := [(aT, .inr (7, [.ref aT_text, .int vT_length, .ref aT_read, .int vT_readMany, .int vT_people, .int vT_toldDay, .int vT_toldBroken, .ref aT_spells, .int vT_many, .int vT_now, .int vT_deeds, .ref aT_pasts, .int vT_pastMany, .ref aT_keptStates, .ref aT_keptDeeds, .ref aT_isKept, .int vT_at, .int vT_place, .int vT_end, .int vT_readPeople, .int vT_readSpells, .int w14, .ref aT_fars, .ref aT_queue, .int vT_queued, .ref aT_later, .int vT_laterMany, .ref aT_onWay, .ref aT_row, .int vT_rowMany, .ref aT_princes, .int vT_princeMany, .ref aT_tries, .int vT_triedMany])), (aT_onWay, .inl (G.2.2.2.1, 57344, .inl fT_onWay)), (aT_queue, .inl (G.2.1, 57344, .inl fT_queue)), (aT_fars, .inl (G.2.1, 57344, .inl fT_fars)), (aT_spells, .inl (G.2.1, 50, .inl fT_spells))]) (c_Mo_leads l G aT aT_text aT_read aT_spells aT_pasts aT_keptStates aT_keptDeeds aT_isKept aT_fars aT_queue aT_later aT_onWay aT_row aT_princes aT_tries vT_length vT_readMany vT_people vT_toldDay vT_toldBroken vT_many vT_now vT_deeds vT_pastMany vT_at vT_place vT_end vT_readPeople vT_readSpells vT_lifted vT_queued vT_laterMany vT_rowMany vT_princeMany vT_triedMany fT_spells fT_onWay fT_fars k x4 x6 y13 w14 hq) K_X11_leads u1412 hP hD hS hA hAb [0, 4, 1, 3] rfl (sbC rfl (sbC rfl (sbC rfl (sbC rfl sb0)))) (mgN 0 rfl rfl (mgN 2 rfl rfl (mgK (by decide) (mgN 3 rfl rfl (mgN 1 rfl rfl (mg0)))))) rfl (q0 := 0) rfl (by decide) ⟨Nat.zero_le _, Nat.zero_le _⟩ rfl hl.1 rfl (Nat.le_of_ble_eq_true rfl) rfl dX11_layWays_96 (fun H lo hP hD hS => ?_)
                  refine lv_istore (lv' := [(5, .int y13), (0, .ref aT), (1, .int x1), (2, .int x2), (3, .int x3), (4, .int x4), (6, .int x6)]) hx hb dX11_layWays_99 hl (by decide) rfl (fun ls hl => ?_)
                  obtain ⟨y15, ey15⟩ : ∃ y : Int32, y = x6 + (1 : Int32) := ⟨_, rfl⟩
                  refine lv_iinc (v := y15) (lv' := [(6, .int y15), (5, .int y13), (0, .ref aT), (1, .int x1), (2, .int x2), (3, .int x3), (4, .int x4)]) hx hb dX11_layWays_101 hl (k := 6) rfl (by rw [ey15]; rfl) (by decide) rfl (fun ls hl => ?_)
                  replace hev := x_lt hev y15 ey15
                  refine lv_goto (tgt := 68) hx hb dX11_layWays_104 (by decide) ?_
                  exact ih y13 y15 w14 _ _ hev hex _ _ hP hD hS ls (lv_sub hl [2, 3, 4, 5, 6, 1, 0] rfl)
        obtain ⟨⟨y16, w17⟩, hq, hev⟩ := x_bd hev
        refine L68 fT_onWay x1 x2 x3 x4 k s0 (0 : Int32) vT_lifted y16 w17 hq (fun H lo hP hD hS ls hl => ?_) _ _ hP hD hS ls (lv_sub hl [2, 3, 4, 5, 6, 1, 0] rfl)
        exact J107 w17 fT_onWay x3 x4 y16 _ _ hP hD hS ls hev (lv_sub hl [0, 1, 2, 3, 4, 5] rfl)
      have J62 : ∀ (vT_lifted : Int32) (fT_onWay : Nat → Int32) (x3 : Int32) (x4 : Int32), ∀ (H : Heap) (lo : List Loc), va_P G.1 classes [(aT, .inr (7, [.ref aT_text, .int vT_length, .ref aT_read, .int vT_readMany, .int vT_people, .int vT_toldDay, .int vT_toldBroken, .ref aT_spells, .int vT_many, .int vT_now, .int vT_deeds, .ref aT_pasts, .int vT_pastMany, .ref aT_keptStates, .ref aT_keptDeeds, .ref aT_isKept, .int vT_at, .int vT_place, .int vT_end, .int vT_readPeople, .int vT_readSpells, .int vT_lifted, .ref aT_fars, .ref aT_queue, .int vT_queued, .ref aT_later, .int vT_laterMany, .ref aT_onWay, .ref aT_row, .int vT_rowMany, .ref aT_princes, .int vT_princeMany, .ref aT_tries, .int vT_triedMany])), (aT_onWay, .inl (G.2.2.2.1, 57344, .inl fT_onWay)), (aT_queue, .inl (G.2.1, 57344, .inl fT_queue)), (aT_fars, .inl (G.2.1, 57344, .inl fT_fars)), (aT_spells, .inl (G.2.1, 50, .inl fT_spells))] H → va_D A [(aT, .inr (7, [.ref aT_text, .int vT_length, .ref aT_read, .int vT_readMany, .int vT_people, .int vT_toldDay, .int vT_toldBroken, .ref aT_spells, .int vT_many, .int vT_now, .int vT_deeds, .ref aT_pasts, .int vT_pastMany, .ref aT_keptStates, .ref aT_keptDeeds, .ref aT_isKept, .int vT_at, .int vT_place, .int vT_end, .int vT_readPeople, .int vT_readSpells, .int vT_lifted, .ref aT_fars, .ref aT_queue, .int vT_queued, .ref aT_later, .int vT_laterMany, .ref aT_onWay, .ref aT_row, .int vT_rowMany, .ref aT_princes, .int vT_princeMany, .ref aT_tries, .int vT_triedMany])), (aT_onWay, .inl (G.2.2.2.1, 57344, .inl fT_onWay)), (aT_queue, .inl (G.2.1, 57344, .inl fT_queue)), (aT_fars, .inl (G.2.1, 57344, .inl fT_fars)), (aT_spells, .inl (G.2.1, 50, .inl fT_spells))] → va_S A s.heap H lo → ∀ (ls : Array Slot), f_Mo_layWays_J62 (f_Mo_layWays_L28 vT_many vT_people vT_queued fT_fars fT_queue fT_spells x1 x2 k) k vT_lifted vT_many vT_people vT_queued fT_fars fT_onWay fT_queue fT_spells x1 x2 x3 x4 = some (ovT_lifted, ofT_onWay) → lv_has ls 7 [(0, .ref aT), (1, .int x1), (2, .int x2), (3, .int x3), (4, .int x4)] → W p l e R s m ar below meth c H lo 0 0 Q (F0 m 62 ls []) := by
        intro vT_lifted fT_onWay x3 x4 H lo hP hD hS ls hev hl
        unfold f_Mo_layWays_J62 at hev
        refine lv_iconst (v := (0 : Int32)) hx hb dX11_layWays_62 (by decide) ?_
        exact J63 vT_lifted fT_onWay x3 x4 (0 : Int32) _ _ hP hD hS ls hev (lv_sub hl [0, 1, 2, 3, 4] rfl)
      refine lv_iload_n hx hb dX11_layWays_28 rfl (lv_at hl 3 rfl) ?_
      refine lv_if_lt (tgt := 122) hx hb dX11_layWays_29 (by decide) (fun c18 => ?_) (fun c18 => ?_)
      · replace hev := x_t c18 hev
        cases hev
        exact hex _ _ hP hD hS ls (lv_sub hl [] rfl)
      · replace hev := x_f c18 hev
        refine lv_aload_n hx hb dX11_layWays_32 rfl (lv_at hl 0 rfl) ?_
        refine va_get (D := G.1) (ci := 7) (v := .ref aT_queue) (C := RX11) (T := TX11) (N := 34) hx hb hts i11 hown hK hP 0 rfl rfl 23 (by decide) (hw _ u1110) (fun _ h9 => h9) rfl dX11_layWays_33 ?_
        refine lv_iload_n hx hb dX11_layWays_36 rfl (lv_at hl 3 rfl) ?_
        obtain ⟨h19, hev⟩ := x_ld hev
        refine va_iald hx hb hK hP 2 0 rfl rfl h19 dX11_layWays_37 ?_
        refine lv_topi (fun v20 ev20 => ?_)
        replace hev := hev v20 ev20
        refine lv_istore (lv' := [(4, .int v20), (0, .ref aT), (1, .int x1), (2, .int x2), (3, .int x3)]) hx hb dX11_layWays_38 hl (by decide) rfl (fun ls hl => ?_)
        refine lv_aload_n hx hb dX11_layWays_40 rfl (lv_at hl 1 rfl) ?_
        refine va_get (D := G.1) (ci := 7) (v := .ref aT_fars) (C := RX11) (T := TX11) (N := 34) hx hb hts i11 hown hK hP 0 rfl rfl 22 (by decide) (hw _ u1109) (fun _ h9 => h9) rfl dX11_layWays_41 ?_
        refine lv_iload hx hb dX11_layWays_44 (lv_at hl 0 rfl) ?_
        obtain ⟨h21, hev⟩ := x_ld hev
        refine va_iald hx hb hK hP 3 0 rfl rfl h21 dX11_layWays_46 ?_
        refine lv_topi (fun v22 ev22 => ?_)
        replace hev := hev v22 ev22
        refine lv_iload_n hx hb dX11_layWays_47 rfl (lv_at hl 3 rfl) ?_
        refine lv_icmp_ne (tgt := 62) hx hb dX11_layWays_48 (by decide) (fun c23 => ?_) (fun c23 => ?_)
        · replace hev := x_f c23 hev
          exact J62 vT_lifted fT_onWay x3 v20 _ _ hP hD hS ls hev (lv_sub hl [1, 2, 3, 4, 0] rfl)
        · replace hev := x_t c23 hev
          refine lv_iload hx hb dX11_layWays_51 (lv_at hl 0 rfl) ?_
          refine lv_iload_n hx hb dX11_layWays_53 rfl (lv_at hl 2 rfl) ?_
          refine lv_iand hx hb dX11_layWays_54 ?_
          refine lv_if_ne (tgt := 62) hx hb dX11_layWays_55 (by decide) (fun c24 => ?_) (fun c24 => ?_)
          · replace hev := x_f c24 hev
            exact J62 vT_lifted fT_onWay x3 v20 _ _ hP hD hS ls hev (lv_sub hl [1, 2, 3, 4, 0] rfl)
          · replace hev := x_t c24 hev
            refine lv_iconst (v := (1 : Int32)) hx hb dX11_layWays_58 (by decide) ?_
            refine lv_goto (tgt := 63) hx hb dX11_layWays_59 (by decide) ?_
            exact J63 vT_lifted fT_onWay x3 v20 (1 : Int32) _ _ hP hD hS ls hev (lv_sub hl [1, 2, 3, 4, 0] rfl)
  obtain ⟨⟨w25, w26⟩, hq, hev⟩ := x_bd hev
  refine L28 p1 p2 k y5 vT_lifted w4 w25 w26 hq (fun H lo hP hD hS ls hl => ?_) _ _ hP hD hS ls (lv_sub hl [1, 2, 3, 0] rfl)
  exact ret2 _ _ _ _ w25 w26 (Option.some.inj hev) dX11_layWays_122 hP hD hS
def f_Mo_way_J170 (k : Nat) (vT_lifted : Int32) (vT_many : Int32) (vT_now : Int32) (vT_people : Int32) (vT_queued : Int32) (fT_fars : Nat → Int32) (fT_onWay : Nat → Int32) (fT_queue : Nat → Int32) (fT_spells : Nat → Int32) (x3 : Int32) (x6 : Int32) (x7 : Int32) (s0 : Int32) : Option (Int32 × Int32 × Int32 × (Nat → Int32) × (Nat → Int32) × (Nat → Int32)) := if x3 = 0 then (if x6 = (21 : Int32) then (some ((-1 : Int32), vT_lifted, vT_queued, fT_fars, fT_onWay, fT_queue)) else some ((x6 / (7 : Int32)), vT_lifted, vT_queued, fT_fars, fT_onWay, fT_queue)) else if x3 = (1 : Int32) then (some (s0, vT_lifted, vT_queued, fT_fars, fT_onWay, fT_queue)) else if s0 = 0 then (some (x7, vT_lifted, vT_queued, fT_fars, fT_onWay, fT_queue)) else if s0 = (2 : Int32) then (some ((x7 - (4 : Int32)), vT_lifted, vT_queued, fT_fars, fT_onWay, fT_queue)) else some ((0 : Int32), vT_lifted, vT_queued, fT_fars, fT_onWay, fT_queue)
def f_Mo_way_L87 (vT_many : Int32) (vT_now : Int32) (vT_people : Int32) (vT_queued : Int32) (fT_fars : Nat → Int32) (fT_onWay : Nat → Int32) (fT_queue : Nat → Int32) (fT_spells : Nat → Int32) (x2 : Int32) (x3 : Int32) (x5 : Int32) (x7 : Int32) : Nat → Int32 → Int32 → Option (Int32 × Int32)
  | 0, _, _ => none
  | k + 1, x6, vT_lifted => x_B (f_Mo_leads k vT_lifted vT_many vT_people fT_fars fT_onWay fT_spells x5 x6) (fun ⟨y21, w22⟩ => if y21 = 0 then (x_L (x6 + (1 : Int32)) (fun y24 => (f_Mo_way_L87 vT_many vT_now vT_people vT_queued fT_fars fT_onWay fT_queue fT_spells x2 x3 x5 x7 k) y24 w22)) else some (x6, w22))
def f_Mo_way_L78 (vT_many : Int32) (vT_now : Int32) (vT_people : Int32) (vT_queued : Int32) (fT_fars : Nat → Int32) (fT_onWay : Nat → Int32) (fT_queue : Nat → Int32) (fT_spells : Nat → Int32) (x2 : Int32) (x3 : Int32) : Nat → Int32 → Int32 → Int32 → Int32 → Option (Int32 × Int32)
  | 0, _, _, _, _ => none
  | k + 1, x5, x6, x7, vT_lifted => if x2 < x7 then (some (x6, vT_lifted)) else x_B (f_Mo_way_L87 vT_many vT_now vT_people vT_queued fT_fars fT_onWay fT_queue fT_spells x2 x3 x5 x7 k (0 : Int32) vT_lifted) (fun ⟨y25, w26⟩ => x_B (f_Mo_behind k w26 vT_many fT_spells x5 y25) (fun ⟨y27, w28⟩ => x_L (x7 + (1 : Int32)) (fun y29 => (f_Mo_way_L78 vT_many vT_now vT_people vT_queued fT_fars fT_onWay fT_queue fT_spells x2 x3 k) y27 y25 y29 w28)))
def f_Mo_way (k : Nat) (vT_lifted : Int32) (vT_many : Int32) (vT_now : Int32) (vT_people : Int32) (vT_queued : Int32) (fT_fars : Nat → Int32) (fT_onWay : Nat → Int32) (fT_queue : Nat → Int32) (fT_spells : Nat → Int32) (p1 : Int32) (p2 : Int32) (p3 : Int32) : Option (Int32 × Int32 × Int32 × (Nat → Int32) × (Nat → Int32) × (Nat → Int32)) := x_B (f_Mo_isSet vT_many p1) (fun y6 => if y6 = 0 then (some ((-2 : Int32), vT_lifted, vT_queued, fT_fars, fT_onWay, fT_queue)) else if p2 < 0 then (some ((-3 : Int32), vT_lifted, vT_queued, fT_fars, fT_onWay, fT_queue)) else x_B (f_Mo_in ((p3).toInt64) (0 : Int64) (2 : Int64)) (fun y9 => if y9 = 0 then (some ((-3 : Int32), vT_lifted, vT_queued, fT_fars, fT_onWay, fT_queue)) else x_B (f_Mo_layAll k vT_lifted vT_many vT_people vT_queued fT_fars fT_queue fT_spells vT_now) (fun ⟨w11, w12, w13, w14⟩ => x_B (f_Mo_fewestTo k w12 w13 w14 p1) (fun y15 => if y15 = (-1 : Int32) then (some ((-1 : Int32), w11, w12, w13, fT_onWay, w14)) else if p2 < y15 then (x_B (f_Mo_layWays k w11 vT_many vT_people w12 w13 fT_onWay w14 fT_spells p1 y15) (fun ⟨w18, w19⟩ => x_B (f_Mo_way_L78 vT_many vT_now vT_people w12 w13 w19 w14 fT_spells p2 p3 k vT_now (0 : Int32) (0 : Int32) w18) (fun ⟨y30, w31⟩ => x_L ((y30 - y30 / (7 : Int32) * (7 : Int32))) (fun y32 => if y30 = (21 : Int32) then (f_Mo_way_J170 k w31 vT_many vT_now vT_people w12 w13 w19 w14 fT_spells p3 y30 y32 (4 : Int32)) else if (3 : Int32) ≤ y32 then (if y32 = (3 : Int32) then (f_Mo_way_J170 k w31 vT_many vT_now vT_people w12 w13 w19 w14 fT_spells p3 y30 y32 (1 : Int32)) else if (6 : Int32) ≤ y32 then (f_Mo_way_J170 k w31 vT_many vT_now vT_people w12 w13 w19 w14 fT_spells p3 y30 y32 (3 : Int32)) else f_Mo_way_J170 k w31 vT_many vT_now vT_people w12 w13 w19 w14 fT_spells p3 y30 y32 (2 : Int32)) else f_Mo_way_J170 k w31 vT_many vT_now vT_people w12 w13 w19 w14 fT_spells p3 y30 y32 (0 : Int32))))) else some ((-1 : Int32), w11, w12, w13, fT_onWay, w14)))))
set_option maxHeartbeats 8000000 in
set_option maxRecDepth 100000 in
theorem c_Mo_way (l : Launch) (G : GG) (aT aT_text aT_read aT_spells aT_pasts aT_keptStates aT_keptDeeds aT_isKept aT_fars aT_queue aT_later aT_onWay aT_row aT_princes aT_tries : Nat) (vT_length : Int32) (vT_readMany : Int32) (vT_people : Int32) (vT_toldDay : Int32) (vT_toldBroken : Int32) (vT_many : Int32) (vT_now : Int32) (vT_deeds : Int32) (vT_pastMany : Int32) (vT_at : Int32) (vT_place : Int32) (vT_end : Int32) (vT_readPeople : Int32) (vT_readSpells : Int32) (vT_lifted : Int32) (vT_queued : Int32) (vT_laterMany : Int32) (vT_rowMany : Int32) (vT_princeMany : Int32) (vT_triedMany : Int32) (fT_fars : Nat → Int32) (fT_queue : Nat → Int32) (fT_spells : Nat → Int32) (fT_onWay : Nat → Int32) (k : Nat) (p1 : Int32) (p2 : Int32) (p3 : Int32) (r0 : Int32) (wvT_lifted : Int32) (wvT_queued : Int32) (wfT_fars : Nat → Int32) (wfT_onWay : Nat → Int32) (wfT_queue : Nat → Int32) (hev : f_Mo_way k vT_lifted vT_many vT_now vT_people vT_queued fT_fars fT_onWay fT_queue fT_spells p1 p2 p3 = some (r0, wvT_lifted, wvT_queued, wfT_fars, wfT_onWay, wfT_queue)) : RW l G yX11_way cX11_way 9 (some .int) 6 [.ref aT, .int p1, .int p2, .int p3] [(aT, .inr (7, [.ref aT_text, .int vT_length, .ref aT_read, .int vT_readMany, .int vT_people, .int vT_toldDay, .int vT_toldBroken, .ref aT_spells, .int vT_many, .int vT_now, .int vT_deeds, .ref aT_pasts, .int vT_pastMany, .ref aT_keptStates, .ref aT_keptDeeds, .ref aT_isKept, .int vT_at, .int vT_place, .int vT_end, .int vT_readPeople, .int vT_readSpells, .int vT_lifted, .ref aT_fars, .ref aT_queue, .int vT_queued, .ref aT_later, .int vT_laterMany, .ref aT_onWay, .ref aT_row, .int vT_rowMany, .ref aT_princes, .int vT_princeMany, .ref aT_tries, .int vT_triedMany])), (aT_fars, .inl (G.2.1, 57344, .inl fT_fars)), (aT_queue, .inl (G.2.1, 57344, .inl fT_queue)), (aT_spells, .inl (G.2.1, 50, .inl fT_spells)), (aT_onWay, .inl (G.2.2.2.1, 57344, .inl fT_onWay))] (some (.int r0)) [(aT, .inr (7, [.ref aT_text, .int vT_length, .ref aT_read, .int vT_readMany, .int vT_people, .int vT_toldDay, .int vT_toldBroken, .ref aT_spells, .int vT_many, .int vT_now, .int vT_deeds, .ref aT_pasts, .int vT_pastMany, .ref aT_keptStates, .ref aT_keptDeeds, .ref aT_isKept, .int vT_at, .int vT_place, .int vT_end, .int vT_readPeople, .int vT_readSpells, .int wvT_lifted, .ref aT_fars, .ref aT_queue, .int wvT_queued, .ref aT_later, .int vT_laterMany, .ref aT_onWay, .ref aT_row, .int vT_rowMany, .ref aT_princes, .int vT_princeMany, .ref aT_tries, .int vT_triedMany])), (aT_fars, .inl (G.2.1, 57344, .inl wfT_fars)), (aT_queue, .inl (G.2.1, 57344, .inl wfT_queue)), (aT_spells, .inl (G.2.1, 50, .inl fT_spells)), (aT_onWay, .inl (G.2.2.2.1, 57344, .inl wfT_onWay))] 0 0 := by
  refine RW_of (by decide) (Nat.le_of_ble_eq_true rfl) ?_
  intro p e s m ar below meth c R Q A ls X hR hRc hin hP hKK hD hS hA hAb hl ret
  obtain ⟨rs, hrs⟩ : ∃ q, q = (r0, wvT_lifted, wvT_queued, wfT_fars, wfT_onWay, wfT_queue) := ⟨_, rfl⟩
  rw [← hrs] at hev
  have ret2 : ∀ (pc : Nat) (ls : Array Slot) (H : Heap) (lo : List Loc) (v r1 : Int32) (zvT_lifted : Int32) (zvT_queued : Int32) (zfT_fars : Nat → Int32) (zfT_onWay : Nat → Int32) (zfT_queue : Nat → Int32), (r1, zvT_lifted, zvT_queued, zfT_fars, zfT_onWay, zfT_queue) = rs → decode cX11_way pc = .ok (.ireturn, 1) → narrow .int (.int v) = .int r1 → va_P G.1 classes [(aT, .inr (7, [.ref aT_text, .int vT_length, .ref aT_read, .int vT_readMany, .int vT_people, .int vT_toldDay, .int vT_toldBroken, .ref aT_spells, .int vT_many, .int vT_now, .int vT_deeds, .ref aT_pasts, .int vT_pastMany, .ref aT_keptStates, .ref aT_keptDeeds, .ref aT_isKept, .int vT_at, .int vT_place, .int vT_end, .int vT_readPeople, .int vT_readSpells, .int zvT_lifted, .ref aT_fars, .ref aT_queue, .int zvT_queued, .ref aT_later, .int vT_laterMany, .ref aT_onWay, .ref aT_row, .int vT_rowMany, .ref aT_princes, .int vT_princeMany, .ref aT_tries, .int vT_triedMany])), (aT_fars, .inl (G.2.1, 57344, .inl zfT_fars)), (aT_queue, .inl (G.2.1, 57344, .inl zfT_queue)), (aT_spells, .inl (G.2.1, 50, .inl fT_spells)), (aT_onWay, .inl (G.2.2.2.1, 57344, .inl zfT_onWay))] H → va_D A [(aT, .inr (7, [.ref aT_text, .int vT_length, .ref aT_read, .int vT_readMany, .int vT_people, .int vT_toldDay, .int vT_toldBroken, .ref aT_spells, .int vT_many, .int vT_now, .int vT_deeds, .ref aT_pasts, .int vT_pastMany, .ref aT_keptStates, .ref aT_keptDeeds, .ref aT_isKept, .int vT_at, .int vT_place, .int vT_end, .int vT_readPeople, .int vT_readSpells, .int zvT_lifted, .ref aT_fars, .ref aT_queue, .int zvT_queued, .ref aT_later, .int vT_laterMany, .ref aT_onWay, .ref aT_row, .int vT_rowMany, .ref aT_princes, .int vT_princeMany, .ref aT_tries, .int vT_triedMany])), (aT_fars, .inl (G.2.1, 57344, .inl zfT_fars)), (aT_queue, .inl (G.2.1, 57344, .inl zfT_queue)), (aT_spells, .inl (G.2.1, 50, .inl fT_spells)), (aT_onWay, .inl (G.2.2.2.1, 57344, .inl zfT_onWay))] → va_S A s.heap H lo → W p l e R s m ar below meth c H lo 0 0 Q (F0 m pc ls [.int v]) := by
    intro pc ls H lo v r1 zvT_lifted zvT_queued zfT_fars zfT_onWay zfT_queue he hd hn h1 h2 h3
    have he := he.trans hrs
    cases he
    exact ret.1 _ _ _ _ _ _ _ rfl rfl hd hn h1 h2 h3
  clear ret hrs
  have hl : lv_has ls 9 [(0, .ref aT), (1, .int p1), (2, .int p2), (3, .int p3)] := hl
  obtain ⟨hx, hb, hml, hown, hts, hT⟩ := id X
  have hK := hKK.1
  have hw : ∀ w ∈ T0, w.before ar s = true := fun w h => hts w (hT w h)
  have i11 := fun w h => hT w (inT11 w h)
  have J170 : ∀ (vT_lifted : Int32) (vT_queued : Int32) (fT_fars : Nat → Int32) (fT_onWay : Nat → Int32) (fT_queue : Nat → Int32) (x3 : Int32) (x6 : Int32) (x7 : Int32) (s0 : Int32), ∀ (H : Heap) (lo : List Loc), va_P G.1 classes [(aT, .inr (7, [.ref aT_text, .int vT_length, .ref aT_read, .int vT_readMany, .int vT_people, .int vT_toldDay, .int vT_toldBroken, .ref aT_spells, .int vT_many, .int vT_now, .int vT_deeds, .ref aT_pasts, .int vT_pastMany, .ref aT_keptStates, .ref aT_keptDeeds, .ref aT_isKept, .int vT_at, .int vT_place, .int vT_end, .int vT_readPeople, .int vT_readSpells, .int vT_lifted, .ref aT_fars, .ref aT_queue, .int vT_queued, .ref aT_later, .int vT_laterMany, .ref aT_onWay, .ref aT_row, .int vT_rowMany, .ref aT_princes, .int vT_princeMany, .ref aT_tries, .int vT_triedMany])), (aT_fars, .inl (G.2.1, 57344, .inl fT_fars)), (aT_queue, .inl (G.2.1, 57344, .inl fT_queue)), (aT_spells, .inl (G.2.1, 50, .inl fT_spells)), (aT_onWay, .inl (G.2.2.2.1, 57344, .inl fT_onWay))] H → va_D A [(aT, .inr (7, [.ref aT_text, .int vT_length, .ref aT_read, .int vT_readMany, .int vT_people, .int vT_toldDay, .int vT_toldBroken, .ref aT_spells, .int vT_many, .int vT_now, .int vT_deeds, .ref aT_pasts, .int vT_pastMany, .ref aT_keptStates, .ref aT_keptDeeds, .ref aT_isKept, .int vT_at, .int vT_place, .int vT_end, .int vT_readPeople, .int vT_readSpells, .int vT_lifted, .ref aT_fars, .ref aT_queue, .int vT_queued, .ref aT_later, .int vT_laterMany, .ref aT_onWay, .ref aT_row, .int vT_rowMany, .ref aT_princes, .int vT_princeMany, .ref aT_tries, .int vT_triedMany])), (aT_fars, .inl (G.2.1, 57344, .inl fT_fars)), (aT_queue, .inl (G.2.1, 57344, .inl fT_queue)), (aT_spells, .inl (G.2.1, 50, .inl fT_spells)), (aT_onWay, .inl (G.2.2.2.1, 57344, .inl fT_onWay))] → va_S A s.heap H lo → ∀ (ls : Array Slot), f_Mo_way_J170 k vT_lifted vT_many vT_now vT_people vT_queued fT_fars fT_onWay fT_queue fT_spells x3 x6 x7 s0 = some rs → lv_has ls 9 [(3, .int x3), (6, .int x6), (7, .int x7)] → W p l e R s m ar below meth c H lo 0 0 Q (F0 m 170 ls [.int s0]) := by
    intro vT_lifted vT_queued fT_fars fT_onWay fT_queue x3 x6 x7 s0 H lo hP hD hS ls hev hl
    unfold f_Mo_way_J170 at hev
    refine lv_istore (lv' := [(8, .int s0), (3, .int x3), (6, .int x6), (7, .int x7)]) hx hb dX11_way_170 hl (by decide) rfl (fun ls hl => ?_)
    refine lv_iload_n hx hb dX11_way_172 rfl (lv_at hl 1 rfl) ?_
    refine lv_if_ne (tgt := 195) hx hb dX11_way_173 (by decide) (fun c1 => ?_) (fun c1 => ?_)
    · replace hev := x_f c1 hev
      refine lv_iload_n hx hb dX11_way_195 rfl (lv_at hl 1 rfl) ?_
      refine lv_iconst (v := (1 : Int32)) hx hb dX11_way_196 (by decide) ?_
      refine lv_icmp_ne (tgt := 205) hx hb dX11_way_197 (by decide) (fun c2 => ?_) (fun c2 => ?_)
      · replace hev := x_f c2 hev
        refine lv_iload hx hb dX11_way_205 (lv_at hl 0 rfl) ?_
        refine lv_if_ne (tgt := 215) hx hb dX11_way_207 (by decide) (fun c3 => ?_) (fun c3 => ?_)
        · replace hev := x_f c3 hev
          refine lv_iload hx hb dX11_way_215 (lv_at hl 0 rfl) ?_
          refine lv_iconst (v := (2 : Int32)) hx hb dX11_way_217 (by decide) ?_
          refine lv_icmp_ne (tgt := 228) hx hb dX11_way_218 (by decide) (fun c4 => ?_) (fun c4 => ?_)
          · replace hev := x_f c4 hev
            refine lv_iconst (v := (0 : Int32)) hx hb dX11_way_228 (by decide) ?_
            exact ret2 _ _ _ _ (0 : Int32) (0 : Int32) vT_lifted vT_queued fT_fars fT_onWay fT_queue (Option.some.inj hev) dX11_way_229 (show narrow _ (.int (0 : Int32)) = .int (0 : Int32) from rfl) hP hD hS
          · replace hev := x_t c4 hev
            refine lv_iload hx hb dX11_way_221 (lv_at hl 3 rfl) ?_
            refine lv_iconst (v := (4 : Int32)) hx hb dX11_way_223 (by decide) ?_
            refine lv_isub hx hb dX11_way_224 ?_
            refine lv_goto (tgt := 229) hx hb dX11_way_225 (by decide) ?_
            exact ret2 _ _ _ _ (x7 - (4 : Int32)) (x7 - (4 : Int32)) vT_lifted vT_queued fT_fars fT_onWay fT_queue (Option.some.inj hev) dX11_way_229 (show narrow _ (.int (x7 - (4 : Int32))) = .int (x7 - (4 : Int32)) from rfl) hP hD hS
        · replace hev := x_t c3 hev
          refine lv_iload hx hb dX11_way_210 (lv_at hl 3 rfl) ?_
          refine lv_goto (tgt := 229) hx hb dX11_way_212 (by decide) ?_
          exact ret2 _ _ _ _ x7 x7 vT_lifted vT_queued fT_fars fT_onWay fT_queue (Option.some.inj hev) dX11_way_229 (show narrow _ (.int x7) = .int x7 from rfl) hP hD hS
      · replace hev := x_t c2 hev
        refine lv_iload hx hb dX11_way_200 (lv_at hl 0 rfl) ?_
        refine lv_goto (tgt := 229) hx hb dX11_way_202 (by decide) ?_
        exact ret2 _ _ _ _ s0 s0 vT_lifted vT_queued fT_fars fT_onWay fT_queue (Option.some.inj hev) dX11_way_229 (show narrow _ (.int s0) = .int s0 from rfl) hP hD hS
    · replace hev := x_t c1 hev
      refine lv_iload hx hb dX11_way_176 (lv_at hl 2 rfl) ?_
      refine lv_bipush (v := (21 : Int32)) hx hb dX11_way_178 (by decide) ?_
      refine lv_icmp_ne (tgt := 187) hx hb dX11_way_180 (by decide) (fun c5 => ?_) (fun c5 => ?_)
      · replace hev := x_f c5 hev
        refine lv_iload hx hb dX11_way_187 (lv_at hl 2 rfl) ?_
        refine lv_bipush (v := (7 : Int32)) hx hb dX11_way_189 (by decide) ?_
        refine lv_idiv hx hb dX11_way_191 (by decide) ?_
        refine lv_goto (tgt := 229) hx hb dX11_way_192 (by decide) ?_
        exact ret2 _ _ _ _ (x6 / (7 : Int32)) (x6 / (7 : Int32)) vT_lifted vT_queued fT_fars fT_onWay fT_queue (Option.some.inj hev) dX11_way_229 (show narrow _ (.int (x6 / (7 : Int32))) = .int (x6 / (7 : Int32)) from rfl) hP hD hS
      · replace hev := x_t c5 hev
        refine lv_iconst (v := (-1 : Int32)) hx hb dX11_way_183 (by decide) ?_
        refine lv_goto (tgt := 229) hx hb dX11_way_184 (by decide) ?_
        exact ret2 _ _ _ _ (-1 : Int32) (-1 : Int32) vT_lifted vT_queued fT_fars fT_onWay fT_queue (Option.some.inj hev) dX11_way_229 (show narrow _ (.int (-1 : Int32)) = .int (-1 : Int32) from rfl) hP hD hS
  unfold f_Mo_way at hev
  refine lv_aload_n hx hb dX11_way_0 rfl (lv_at hl 0 rfl) ?_
  refine lv_iload_n hx hb dX11_way_1 rfl (lv_at hl 1 rfl) ?_
  obtain ⟨y6, hq, hev⟩ := x_bd hev
  refine roV X (KK_at hKK hS hAb) hR (st1 := [.int y6]) (c_Mo_isSet l G aT aT_text aT_read aT_spells aT_pasts aT_keptStates aT_keptDeeds aT_isKept aT_fars aT_queue aT_later aT_onWay aT_row aT_princes aT_tries vT_length vT_readMany vT_people vT_toldDay vT_toldBroken vT_many vT_now vT_deeds vT_pastMany vT_at vT_place vT_end vT_readPeople vT_readSpells vT_lifted vT_queued vT_laterMany vT_rowMany vT_princeMany vT_triedMany p1 y6 hq) K_X11_isSet u1377 (x_Psub hP [0] rfl) rfl (q0 := 0) rfl (by decide) ⟨Nat.zero_le _, Nat.zero_le _⟩ rfl hl.1 rfl (Nat.le_of_ble_eq_true rfl) rfl dX11_way_2 ?_
  refine lv_if_ne (tgt := 11) hx hb dX11_way_5 (by decide) (fun c7 => ?_) (fun c7 => ?_)
  · replace hev := x_f c7 hev
    refine lv_iload_n hx hb dX11_way_11 rfl (lv_at hl 2 rfl) ?_
    refine lv_if_lt (tgt := 27) hx hb dX11_way_12 (by decide) (fun c8 => ?_) (fun c8 => ?_)
    · replace hev := x_t c8 hev
      refine lv_bipush (v := (-3 : Int32)) hx hb dX11_way_27 (by decide) ?_
      exact ret2 _ _ _ _ (-3 : Int32) (-3 : Int32) vT_lifted vT_queued fT_fars fT_onWay fT_queue (Option.some.inj hev) dX11_way_29 (show narrow _ (.int (-3 : Int32)) = .int (-3 : Int32) from rfl) hP hD hS
    · replace hev := x_f c8 hev
      refine lv_iload_n hx hb dX11_way_15 rfl (lv_at hl 3 rfl) ?_
      refine lv_i2l hx hb dX11_way_16 rfl ?_
      refine lv_lconst (v := (0 : Int64)) hx hb dX11_way_17 (by decide) ?_
      refine lv_ldc2 (v := (2 : Int64)) hx hb hown (hw _ u1282) dX11_way_18 ?_
      obtain ⟨y9, hq, hev⟩ := x_bd hev
      refine roS X (KK_at hKK hS hAb) hR (st1 := [.int y9]) (c_Mo_in l G ((p3).toInt64) (0 : Int64) (2 : Int64) y9 hq) K_X11_in u1196 (x_Psub hP [] rfl) (by decide) ⟨Nat.zero_le _, Nat.zero_le _⟩ rfl hl.1 rfl (Nat.le_of_ble_eq_true rfl) rfl dX11_way_21 ?_
      refine lv_if_ne (tgt := 30) hx hb dX11_way_24 (by decide) (fun c10 => ?_) (fun c10 => ?_)
      · replace hev := x_f c10 hev
        refine lv_aload_n hx hb dX11_way_30 rfl (lv_at hl 0 rfl) ?_
        refine lv_aload_n hx hb dX11_way_31 rfl (lv_at hl 0 rfl) ?_
        refine va_get (D := G.1) (ci := 7) (v := .int vT_now) (C := RX11) (T := TX11) (N := 34) hx hb hts i11 hown hK hP 0 rfl rfl 9 (by decide) (hw _ u1096) (fun _ h9 => h9) rfl dX11_way_32 ?_
        obtain ⟨⟨w11, w12, w13, w14⟩, hq, hev⟩ := x_bd hev
        refine rgV X (KK_at hKK hS hAb) hR (st1 := []) (ws2 := [(aT, .inr (7, [.ref aT_text, .int vT_length, .ref aT_read, .int vT_readMany, .int vT_people, .int vT_toldDay, .int vT_toldBroken, .ref aT_spells, .int vT_many, .int vT_now, .int vT_deeds, .ref aT_pasts, .int vT_pastMany, .ref aT_keptStates, .ref aT_keptDeeds, .ref aT_isKept, .int vT_at, .int vT_place, .int vT_end, .int vT_readPeople, .int vT_readSpells, .int w11, .ref aT_fars, .ref aT_queue, .int w12, .ref aT_later, .int vT_laterMany, .ref aT_onWay, .ref aT_row, .int vT_rowMany, .ref aT_princes, .int vT_princeMany, .ref aT_tries, .int vT_triedMany])), (aT_fars, .inl (G.2.1, 57344, .inl w13)), (aT_queue, .inl (G.2.1, 57344, .inl w14)), (aT_spells, .inl (G.2.1, 50, .inl fT_spells)), (aT_onWay, .inl (G.2.2.2.1, 57344, .inl fT_onWay))]) (c_Mo_layAll l G aT aT_text aT_read aT_spells aT_pasts aT_keptStates aT_keptDeeds aT_isKept aT_fars aT_queue aT_later aT_onWay aT_row aT_princes aT_tries vT_length vT_readMany vT_people vT_toldDay vT_toldBroken vT_many vT_now vT_deeds vT_pastMany vT_at vT_place vT_end vT_readPeople vT_readSpells vT_lifted vT_queued vT_laterMany vT_rowMany vT_princeMany vT_triedMany fT_fars fT_queue fT_spells k vT_now w11 w12 w13 w14 hq) K_X11_layAll u1381 hP hD hS hA hAb [0, 1, 2, 3] rfl (sbC rfl (sbC rfl (sbC rfl (sbC rfl sb0)))) (mgN 0 rfl rfl (mgN 1 rfl rfl (mgN 2 rfl rfl (mgN 3 rfl rfl (mgK (by decide) (mg0)))))) rfl (q0 := 0) rfl (by decide) ⟨Nat.zero_le _, Nat.zero_le _⟩ rfl hl.1 rfl (Nat.le_of_ble_eq_true rfl) rfl dX11_way_35 (fun H lo hP hD hS => ?_)
        refine lv_aload_n hx hb dX11_way_38 rfl (lv_at hl 0 rfl) ?_
        refine lv_iload_n hx hb dX11_way_39 rfl (lv_at hl 1 rfl) ?_
        obtain ⟨y15, hq, hev⟩ := x_bd hev
        refine roV X (KK_at hKK hS hAb) hR (st1 := [.int y15]) (c_Mo_fewestTo l G aT aT_text aT_read aT_spells aT_pasts aT_keptStates aT_keptDeeds aT_isKept aT_fars aT_queue aT_later aT_onWay aT_row aT_princes aT_tries vT_length vT_readMany vT_people vT_toldDay vT_toldBroken vT_many vT_now vT_deeds vT_pastMany vT_at vT_place vT_end vT_readPeople vT_readSpells w11 w12 vT_laterMany vT_rowMany vT_princeMany vT_triedMany w14 w13 k p1 y15 hq) K_X11_fewestTo u1400 (x_Psub hP [0, 2, 1] rfl) rfl (q0 := 0) rfl (by decide) ⟨Nat.zero_le _, Nat.zero_le _⟩ rfl hl.1 rfl (Nat.le_of_ble_eq_true rfl) rfl dX11_way_40 ?_
        refine lv_istore (lv' := [(4, .int y15), (0, .ref aT), (1, .int p1), (2, .int p2), (3, .int p3)]) hx hb dX11_way_43 hl (by decide) rfl (fun ls hl => ?_)
        refine lv_iload hx hb dX11_way_45 (lv_at hl 0 rfl) ?_
        refine lv_iconst (v := (-1 : Int32)) hx hb dX11_way_47 (by decide) ?_
        refine lv_icmp_eq (tgt := 57) hx hb dX11_way_48 (by decide) (fun c16 => ?_) (fun c16 => ?_)
        · replace hev := x_t c16 hev
          refine lv_iconst (v := (-1 : Int32)) hx hb dX11_way_57 (by decide) ?_
          exact ret2 _ _ _ _ (-1 : Int32) (-1 : Int32) w11 w12 w13 fT_onWay w14 (Option.some.inj hev) dX11_way_58 (show narrow _ (.int (-1 : Int32)) = .int (-1 : Int32) from rfl) hP hD hS
        · replace hev := x_f c16 hev
          refine lv_iload_n hx hb dX11_way_51 rfl (lv_at hl 3 rfl) ?_
          refine lv_iload hx hb dX11_way_52 (lv_at hl 0 rfl) ?_
          refine lv_icmp_lt (tgt := 59) hx hb dX11_way_54 (by decide) (fun c17 => ?_) (fun c17 => ?_)
          · replace hev := x_t c17 hev
            refine lv_aload_n hx hb dX11_way_59 rfl (lv_at hl 1 rfl) ?_
            refine lv_iload_n hx hb dX11_way_60 rfl (lv_at hl 2 rfl) ?_
            refine lv_iload hx hb dX11_way_61 (lv_at hl 0 rfl) ?_
            obtain ⟨⟨w18, w19⟩, hq, hev⟩ := x_bd hev
            refine rgV X (KK_at hKK hS hAb) hR (st1 := []) (ws2 := [(aT, .inr (7, [.ref aT_text, .int vT_length, .ref aT_read, .int vT_readMany, .int vT_people, .int vT_toldDay, .int vT_toldBroken, .ref aT_spells, .int vT_many, .int vT_now, .int vT_deeds, .ref aT_pasts, .int vT_pastMany, .ref aT_keptStates, .ref aT_keptDeeds, .ref aT_isKept, .int vT_at, .int vT_place, .int vT_end, .int vT_readPeople, .int vT_readSpells, .int w18, .ref aT_fars, .ref aT_queue, .int w12, .ref aT_later, .int vT_laterMany, .ref aT_onWay, .ref aT_row, .int vT_rowMany, .ref aT_princes, .int vT_princeMany, .ref aT_tries, .int vT_triedMany])), (aT_fars, .inl (G.2.1, 57344, .inl w13)), (aT_queue, .inl (G.2.1, 57344, .inl w14)), (aT_spells, .inl (G.2.1, 50, .inl fT_spells)), (aT_onWay, .inl (G.2.2.2.1, 57344, .inl w19))]) (c_Mo_layWays l G aT aT_text aT_read aT_spells aT_pasts aT_keptStates aT_keptDeeds aT_isKept aT_fars aT_queue aT_later aT_onWay aT_row aT_princes aT_tries vT_length vT_readMany vT_people vT_toldDay vT_toldBroken vT_many vT_now vT_deeds vT_pastMany vT_at vT_place vT_end vT_readPeople vT_readSpells w11 w12 vT_laterMany vT_rowMany vT_princeMany vT_triedMany fT_onWay w14 w13 fT_spells k p1 y15 w18 w19 hq) K_X11_layWays u1408 hP hD hS hA hAb [0, 4, 2, 1, 3] rfl (sbC rfl (sbC rfl (sbC rfl (sbC rfl (sbC rfl sb0))))) (mgN 0 rfl rfl (mgN 3 rfl rfl (mgN 2 rfl rfl (mgN 4 rfl rfl (mgN 1 rfl rfl (mg0)))))) rfl (q0 := 0) rfl (by decide) ⟨Nat.zero_le _, Nat.zero_le _⟩ rfl hl.1 rfl (Nat.le_of_ble_eq_true rfl) rfl dX11_way_63 (fun H lo hP hD hS => ?_)
            refine lv_aload_n hx hb dX11_way_66 rfl (lv_at hl 1 rfl) ?_
            refine va_get (D := G.1) (ci := 7) (v := .int vT_now) (C := RX11) (T := TX11) (N := 34) hx hb hts i11 hown hK hP 0 rfl rfl 9 (by decide) (hw _ u1096) (fun _ h9 => h9) rfl dX11_way_67 ?_
            refine lv_istore (lv' := [(5, .int vT_now), (4, .int y15), (0, .ref aT), (1, .int p1), (2, .int p2), (3, .int p3)]) hx hb dX11_way_70 hl (by decide) rfl (fun ls hl => ?_)
            refine lv_iconst (v := (0 : Int32)) hx hb dX11_way_72 (by decide) ?_
            refine lv_istore (lv' := [(6, .int (0 : Int32)), (5, .int vT_now), (4, .int y15), (0, .ref aT), (1, .int p1), (2, .int p2), (3, .int p3)]) hx hb dX11_way_73 hl (by decide) rfl (fun ls hl => ?_)
            refine lv_iconst (v := (0 : Int32)) hx hb dX11_way_75 (by decide) ?_
            refine lv_istore (lv' := [(7, .int (0 : Int32)), (6, .int (0 : Int32)), (5, .int vT_now), (4, .int y15), (0, .ref aT), (1, .int p1), (2, .int p2), (3, .int p3)]) hx hb dX11_way_76 hl (by decide) rfl (fun ls hl => ?_)
            have L78 : ∀ (vT_queued : Int32) (fT_fars : Nat → Int32) (fT_onWay : Nat → Int32) (fT_queue : Nat → Int32) (x2 : Int32) (x3 : Int32), ∀ (k : Nat) (x5 : Int32) (x6 : Int32) (x7 : Int32) (vT_lifted : Int32) (o6 : Int32) (ovT_lifted : Int32), f_Mo_way_L78 vT_many vT_now vT_people vT_queued fT_fars fT_onWay fT_queue fT_spells x2 x3 k x5 x6 x7 vT_lifted = some (o6, ovT_lifted) → (∀ (H : Heap) (lo : List Loc), va_P G.1 classes [(aT, .inr (7, [.ref aT_text, .int vT_length, .ref aT_read, .int vT_readMany, .int vT_people, .int vT_toldDay, .int vT_toldBroken, .ref aT_spells, .int vT_many, .int vT_now, .int vT_deeds, .ref aT_pasts, .int vT_pastMany, .ref aT_keptStates, .ref aT_keptDeeds, .ref aT_isKept, .int vT_at, .int vT_place, .int vT_end, .int vT_readPeople, .int vT_readSpells, .int ovT_lifted, .ref aT_fars, .ref aT_queue, .int vT_queued, .ref aT_later, .int vT_laterMany, .ref aT_onWay, .ref aT_row, .int vT_rowMany, .ref aT_princes, .int vT_princeMany, .ref aT_tries, .int vT_triedMany])), (aT_fars, .inl (G.2.1, 57344, .inl fT_fars)), (aT_queue, .inl (G.2.1, 57344, .inl fT_queue)), (aT_spells, .inl (G.2.1, 50, .inl fT_spells)), (aT_onWay, .inl (G.2.2.2.1, 57344, .inl fT_onWay))] H → va_D A [(aT, .inr (7, [.ref aT_text, .int vT_length, .ref aT_read, .int vT_readMany, .int vT_people, .int vT_toldDay, .int vT_toldBroken, .ref aT_spells, .int vT_many, .int vT_now, .int vT_deeds, .ref aT_pasts, .int vT_pastMany, .ref aT_keptStates, .ref aT_keptDeeds, .ref aT_isKept, .int vT_at, .int vT_place, .int vT_end, .int vT_readPeople, .int vT_readSpells, .int ovT_lifted, .ref aT_fars, .ref aT_queue, .int vT_queued, .ref aT_later, .int vT_laterMany, .ref aT_onWay, .ref aT_row, .int vT_rowMany, .ref aT_princes, .int vT_princeMany, .ref aT_tries, .int vT_triedMany])), (aT_fars, .inl (G.2.1, 57344, .inl fT_fars)), (aT_queue, .inl (G.2.1, 57344, .inl fT_queue)), (aT_spells, .inl (G.2.1, 50, .inl fT_spells)), (aT_onWay, .inl (G.2.2.2.1, 57344, .inl fT_onWay))] → va_S A s.heap H lo → ∀ (ls : Array Slot), lv_has ls 9 [(3, .int x3), (6, .int o6)] → W p l e R s m ar below meth c H lo 0 0 Q (F0 m 120 ls [])) → ∀ (H : Heap) (lo : List Loc), va_P G.1 classes [(aT, .inr (7, [.ref aT_text, .int vT_length, .ref aT_read, .int vT_readMany, .int vT_people, .int vT_toldDay, .int vT_toldBroken, .ref aT_spells, .int vT_many, .int vT_now, .int vT_deeds, .ref aT_pasts, .int vT_pastMany, .ref aT_keptStates, .ref aT_keptDeeds, .ref aT_isKept, .int vT_at, .int vT_place, .int vT_end, .int vT_readPeople, .int vT_readSpells, .int vT_lifted, .ref aT_fars, .ref aT_queue, .int vT_queued, .ref aT_later, .int vT_laterMany, .ref aT_onWay, .ref aT_row, .int vT_rowMany, .ref aT_princes, .int vT_princeMany, .ref aT_tries, .int vT_triedMany])), (aT_fars, .inl (G.2.1, 57344, .inl fT_fars)), (aT_queue, .inl (G.2.1, 57344, .inl fT_queue)), (aT_spells, .inl (G.2.1, 50, .inl fT_spells)), (aT_onWay, .inl (G.2.2.2.1, 57344, .inl fT_onWay))] H → va_D A [(aT, .inr (7, [.ref aT_text, .int vT_length, .ref aT_read, .int vT_readMany, .int vT_people, .int vT_toldDay, .int vT_toldBroken, .ref aT_spells, .int vT_many, .int vT_now, .int vT_deeds, .ref aT_pasts, .int vT_pastMany, .ref aT_keptStates, .ref aT_keptDeeds, .ref aT_isKept, .int vT_at, .int vT_place, .int vT_end, .int vT_readPeople, .int vT_readSpells, .int vT_lifted, .ref aT_fars, .ref aT_queue, .int vT_queued, .ref aT_later, .int vT_laterMany, .ref aT_onWay, .ref aT_row, .int vT_rowMany, .ref aT_princes, .int vT_princeMany, .ref aT_tries, .int vT_triedMany])), (aT_fars, .inl (G.2.1, 57344, .inl fT_fars)), (aT_queue, .inl (G.2.1, 57344, .inl fT_queue)), (aT_spells, .inl (G.2.1, 50, .inl fT_spells)), (aT_onWay, .inl (G.2.2.2.1, 57344, .inl fT_onWay))] → va_S A s.heap H lo → ∀ (ls : Array Slot), lv_has ls 9 [(0, .ref aT), (2, .int x2), (3, .int x3), (5, .int x5), (6, .int x6), (7, .int x7)] → W p l e R s m ar below meth c H lo 0 0 Q (F0 m 78 ls []) := by
              intro vT_queued fT_fars fT_onWay fT_queue x2 x3 k
              induction k with
              | zero => intro x5 x6 x7 vT_lifted o6 ovT_lifted hev; rw [f_Mo_way_L78] at hev; cases hev
              | succ k ih =>
                intro x5 x6 x7 vT_lifted o6 ovT_lifted hev hex H lo hP hD hS ls hl
                rw [f_Mo_way_L78] at hev
                refine lv_iload hx hb dX11_way_78 (lv_at hl 5 rfl) ?_
                refine lv_iload_n hx hb dX11_way_80 rfl (lv_at hl 1 rfl) ?_
                refine lv_icmp_gt (tgt := 120) hx hb dX11_way_81 (by decide) (fun c20 => ?_) (fun c20 => ?_)
                · replace hev := x_t c20 hev
                  cases hev
                  exact hex _ _ hP hD hS ls (lv_sub hl [2, 4] rfl)
                · replace hev := x_f c20 hev
                  refine lv_iconst (v := (0 : Int32)) hx hb dX11_way_84 (by decide) ?_
                  refine lv_istore (lv' := [(6, .int (0 : Int32)), (0, .ref aT), (2, .int x2), (3, .int x3), (5, .int x5), (7, .int x7)]) hx hb dX11_way_85 hl (by decide) rfl (fun ls hl => ?_)
                  have L87 : ∀ (vT_queued : Int32) (fT_fars : Nat → Int32) (fT_onWay : Nat → Int32) (fT_queue : Nat → Int32) (x2 : Int32) (x3 : Int32) (x5 : Int32) (x7 : Int32), ∀ (k : Nat) (x6 : Int32) (vT_lifted : Int32) (o6 : Int32) (ovT_lifted : Int32), f_Mo_way_L87 vT_many vT_now vT_people vT_queued fT_fars fT_onWay fT_queue fT_spells x2 x3 x5 x7 k x6 vT_lifted = some (o6, ovT_lifted) → (∀ (H : Heap) (lo : List Loc), va_P G.1 classes [(aT, .inr (7, [.ref aT_text, .int vT_length, .ref aT_read, .int vT_readMany, .int vT_people, .int vT_toldDay, .int vT_toldBroken, .ref aT_spells, .int vT_many, .int vT_now, .int vT_deeds, .ref aT_pasts, .int vT_pastMany, .ref aT_keptStates, .ref aT_keptDeeds, .ref aT_isKept, .int vT_at, .int vT_place, .int vT_end, .int vT_readPeople, .int vT_readSpells, .int ovT_lifted, .ref aT_fars, .ref aT_queue, .int vT_queued, .ref aT_later, .int vT_laterMany, .ref aT_onWay, .ref aT_row, .int vT_rowMany, .ref aT_princes, .int vT_princeMany, .ref aT_tries, .int vT_triedMany])), (aT_fars, .inl (G.2.1, 57344, .inl fT_fars)), (aT_queue, .inl (G.2.1, 57344, .inl fT_queue)), (aT_spells, .inl (G.2.1, 50, .inl fT_spells)), (aT_onWay, .inl (G.2.2.2.1, 57344, .inl fT_onWay))] H → va_D A [(aT, .inr (7, [.ref aT_text, .int vT_length, .ref aT_read, .int vT_readMany, .int vT_people, .int vT_toldDay, .int vT_toldBroken, .ref aT_spells, .int vT_many, .int vT_now, .int vT_deeds, .ref aT_pasts, .int vT_pastMany, .ref aT_keptStates, .ref aT_keptDeeds, .ref aT_isKept, .int vT_at, .int vT_place, .int vT_end, .int vT_readPeople, .int vT_readSpells, .int ovT_lifted, .ref aT_fars, .ref aT_queue, .int vT_queued, .ref aT_later, .int vT_laterMany, .ref aT_onWay, .ref aT_row, .int vT_rowMany, .ref aT_princes, .int vT_princeMany, .ref aT_tries, .int vT_triedMany])), (aT_fars, .inl (G.2.1, 57344, .inl fT_fars)), (aT_queue, .inl (G.2.1, 57344, .inl fT_queue)), (aT_spells, .inl (G.2.1, 50, .inl fT_spells)), (aT_onWay, .inl (G.2.2.2.1, 57344, .inl fT_onWay))] → va_S A s.heap H lo → ∀ (ls : Array Slot), lv_has ls 9 [(0, .ref aT), (2, .int x2), (3, .int x3), (5, .int x5), (6, .int o6), (7, .int x7)] → W p l e R s m ar below meth c H lo 0 0 Q (F0 m 104 ls [])) → ∀ (H : Heap) (lo : List Loc), va_P G.1 classes [(aT, .inr (7, [.ref aT_text, .int vT_length, .ref aT_read, .int vT_readMany, .int vT_people, .int vT_toldDay, .int vT_toldBroken, .ref aT_spells, .int vT_many, .int vT_now, .int vT_deeds, .ref aT_pasts, .int vT_pastMany, .ref aT_keptStates, .ref aT_keptDeeds, .ref aT_isKept, .int vT_at, .int vT_place, .int vT_end, .int vT_readPeople, .int vT_readSpells, .int vT_lifted, .ref aT_fars, .ref aT_queue, .int vT_queued, .ref aT_later, .int vT_laterMany, .ref aT_onWay, .ref aT_row, .int vT_rowMany, .ref aT_princes, .int vT_princeMany, .ref aT_tries, .int vT_triedMany])), (aT_fars, .inl (G.2.1, 57344, .inl fT_fars)), (aT_queue, .inl (G.2.1, 57344, .inl fT_queue)), (aT_spells, .inl (G.2.1, 50, .inl fT_spells)), (aT_onWay, .inl (G.2.2.2.1, 57344, .inl fT_onWay))] H → va_D A [(aT, .inr (7, [.ref aT_text, .int vT_length, .ref aT_read, .int vT_readMany, .int vT_people, .int vT_toldDay, .int vT_toldBroken, .ref aT_spells, .int vT_many, .int vT_now, .int vT_deeds, .ref aT_pasts, .int vT_pastMany, .ref aT_keptStates, .ref aT_keptDeeds, .ref aT_isKept, .int vT_at, .int vT_place, .int vT_end, .int vT_readPeople, .int vT_readSpells, .int vT_lifted, .ref aT_fars, .ref aT_queue, .int vT_queued, .ref aT_later, .int vT_laterMany, .ref aT_onWay, .ref aT_row, .int vT_rowMany, .ref aT_princes, .int vT_princeMany, .ref aT_tries, .int vT_triedMany])), (aT_fars, .inl (G.2.1, 57344, .inl fT_fars)), (aT_queue, .inl (G.2.1, 57344, .inl fT_queue)), (aT_spells, .inl (G.2.1, 50, .inl fT_spells)), (aT_onWay, .inl (G.2.2.2.1, 57344, .inl fT_onWay))] → va_S A s.heap H lo → ∀ (ls : Array Slot), lv_has ls 9 [(0, .ref aT), (2, .int x2), (3, .int x3), (5, .int x5), (6, .int x6), (7, .int x7)] → W p l e R s m ar below meth c H lo 0 0 Q (F0 m 87 ls []) := by
                    intro vT_queued fT_fars fT_onWay fT_queue x2 x3 x5 x7 k
                    induction k with
                    | zero => intro x6 vT_lifted o6 ovT_lifted hev; rw [f_Mo_way_L87] at hev; cases hev
                    | succ k ih =>
                      intro x6 vT_lifted o6 ovT_lifted hev hex H lo hP hD hS ls hl
                      rw [f_Mo_way_L87] at hev
                      refine lv_aload_n hx hb dX11_way_87 rfl (lv_at hl 0 rfl) ?_
                      refine lv_iload hx hb dX11_way_88 (lv_at hl 3 rfl) ?_
                      refine lv_iload hx hb dX11_way_90 (lv_at hl 4 rfl) ?_
                      obtain ⟨⟨y21, w22⟩, hq, hev⟩ := x_bd hev
                      refine rgV X (KK_at hKK hS hAb) hR (st1 := [.int y21]) (ws2 := [(aT, .inr (7, [.ref aT_text, .int vT_length, .ref aT_read, .int vT_readMany, .int vT_people, .int vT_toldDay, .int vT_toldBroken, .ref aT_spells, .int vT_many, .int vT_now, .int vT_deeds, .ref aT_pasts, .int vT_pastMany, .ref aT_keptStates, .ref aT_keptDeeds, .ref aT_isKept, .int vT_at, .int vT_place, .int vT_end, .int vT_readPeople, .int vT_readSpells, .int w22, .ref aT_fars, .ref aT_queue, .int vT_queued, .ref aT_later, .int vT_laterMany, .ref aT_onWay, .ref aT_row, .int vT_rowMany, .ref aT_princes, .int vT_princeMany, .ref aT_tries, .int vT_triedMany])), (aT_fars, .inl (G.2.1, 57344, .inl fT_fars)), (aT_queue, .inl (G.2.1, 57344, .inl fT_queue)), (aT_spells, .inl (G.2.1, 50, .inl fT_spells)), (aT_onWay, .inl (G.2.2.2.1, 57344, .inl fT_onWay))]) (c_Mo_leads l G aT aT_text aT_read aT_spells aT_pasts aT_keptStates aT_keptDeeds aT_isKept aT_fars aT_queue aT_later aT_onWay aT_row aT_princes aT_tries vT_length vT_readMany vT_people vT_toldDay vT_toldBroken vT_many vT_now vT_deeds vT_pastMany vT_at vT_place vT_end vT_readPeople vT_readSpells vT_lifted vT_queued vT_laterMany vT_rowMany vT_princeMany vT_triedMany fT_spells fT_onWay fT_fars k x5 x6 y21 w22 hq) K_X11_leads u1412 hP hD hS hA hAb [0, 3, 4, 1] rfl (sbC rfl (sbC rfl (sbC rfl (sbC rfl sb0)))) (mgN 0 rfl rfl (mgN 3 rfl rfl (mgK (by decide) (mgN 1 rfl rfl (mgN 2 rfl rfl (mg0)))))) rfl (q0 := 0) rfl (by decide) ⟨Nat.zero_le _, Nat.zero_le _⟩ rfl hl.1 rfl (Nat.le_of_ble_eq_true rfl) rfl dX11_way_92 (fun H lo hP hD hS => ?_)
                      refine lv_if_ne (tgt := 104) hx hb dX11_way_95 (by decide) (fun c23 => ?_) (fun c23 => ?_)
                      · replace hev := x_f c23 hev
                        cases hev
                        exact hex _ _ hP hD hS ls (lv_sub hl [0, 1, 2, 3, 4, 5] rfl)
                      · replace hev := x_t c23 hev
                        obtain ⟨y24, ey24⟩ : ∃ y : Int32, y = x6 + (1 : Int32) := ⟨_, rfl⟩
                        refine lv_iinc (v := y24) (lv' := [(6, .int y24), (0, .ref aT), (2, .int x2), (3, .int x3), (5, .int x5), (7, .int x7)]) hx hb dX11_way_98 hl (k := 4) rfl (by rw [ey24]; rfl) (by decide) rfl (fun ls hl => ?_)
                        replace hev := x_lt hev y24 ey24
                        refine lv_goto (tgt := 87) hx hb dX11_way_101 (by decide) ?_
                        exact ih y24 w22 _ _ hev hex _ _ hP hD hS ls (lv_sub hl [1, 2, 3, 4, 0, 5] rfl)
                  obtain ⟨⟨y25, w26⟩, hq, hev⟩ := x_bd hev
                  refine L87 vT_queued fT_fars fT_onWay fT_queue x2 x3 x5 x7 k (0 : Int32) vT_lifted y25 w26 hq (fun H lo hP hD hS ls hl => ?_) _ _ hP hD hS ls (lv_sub hl [1, 2, 3, 4, 0, 5] rfl)
                  refine lv_aload_n hx hb dX11_way_104 rfl (lv_at hl 0 rfl) ?_
                  refine lv_iload hx hb dX11_way_105 (lv_at hl 3 rfl) ?_
                  refine lv_iload hx hb dX11_way_107 (lv_at hl 4 rfl) ?_
                  obtain ⟨⟨y27, w28⟩, hq, hev⟩ := x_bd hev
                  refine rgV X (KK_at hKK hS hAb) hR (st1 := [.int y27]) (ws2 := [(aT, .inr (7, [.ref aT_text, .int vT_length, .ref aT_read, .int vT_readMany, .int vT_people, .int vT_toldDay, .int vT_toldBroken, .ref aT_spells, .int vT_many, .int vT_now, .int vT_deeds, .ref aT_pasts, .int vT_pastMany, .ref aT_keptStates, .ref aT_keptDeeds, .ref aT_isKept, .int vT_at, .int vT_place, .int vT_end, .int vT_readPeople, .int vT_readSpells, .int w28, .ref aT_fars, .ref aT_queue, .int vT_queued, .ref aT_later, .int vT_laterMany, .ref aT_onWay, .ref aT_row, .int vT_rowMany, .ref aT_princes, .int vT_princeMany, .ref aT_tries, .int vT_triedMany])), (aT_fars, .inl (G.2.1, 57344, .inl fT_fars)), (aT_queue, .inl (G.2.1, 57344, .inl fT_queue)), (aT_spells, .inl (G.2.1, 50, .inl fT_spells)), (aT_onWay, .inl (G.2.2.2.1, 57344, .inl fT_onWay))]) (c_Mo_behind l G aT aT_text aT_read aT_spells aT_pasts aT_keptStates aT_keptDeeds aT_isKept aT_fars aT_queue aT_later aT_onWay aT_row aT_princes aT_tries vT_length vT_readMany vT_people vT_toldDay vT_toldBroken vT_many vT_now vT_deeds vT_pastMany vT_at vT_place vT_end vT_readPeople vT_readSpells w26 vT_queued vT_laterMany vT_rowMany vT_princeMany vT_triedMany fT_spells k x5 y25 y27 w28 hq) K_X11_behind u1353 hP hD hS hA hAb [0, 3] rfl (sbC rfl (sbC rfl sb0)) (mgN 0 rfl rfl (mgK (by decide) (mgK (by decide) (mgN 1 rfl rfl (mgK (by decide) (mg0)))))) rfl (q0 := 0) rfl (by decide) ⟨Nat.zero_le _, Nat.zero_le _⟩ rfl hl.1 rfl (Nat.le_of_ble_eq_true rfl) rfl dX11_way_109 (fun H lo hP hD hS => ?_)
                  refine lv_istore (lv' := [(5, .int y27), (0, .ref aT), (2, .int x2), (3, .int x3), (6, .int y25), (7, .int x7)]) hx hb dX11_way_112 hl (by decide) rfl (fun ls hl => ?_)
                  obtain ⟨y29, ey29⟩ : ∃ y : Int32, y = x7 + (1 : Int32) := ⟨_, rfl⟩
                  refine lv_iinc (v := y29) (lv' := [(7, .int y29), (5, .int y27), (0, .ref aT), (2, .int x2), (3, .int x3), (6, .int y25)]) hx hb dX11_way_114 hl (k := 5) rfl (by rw [ey29]; rfl) (by decide) rfl (fun ls hl => ?_)
                  replace hev := x_lt hev y29 ey29
                  refine lv_goto (tgt := 78) hx hb dX11_way_117 (by decide) ?_
                  exact ih y27 y25 y29 w28 _ _ hev hex _ _ hP hD hS ls (lv_sub hl [2, 3, 4, 1, 5, 0] rfl)
            obtain ⟨⟨y30, w31⟩, hq, hev⟩ := x_bd hev
            refine L78 w12 w13 w19 w14 p2 p3 k vT_now (0 : Int32) (0 : Int32) w18 y30 w31 hq (fun H lo hP hD hS ls hl => ?_) _ _ hP hD hS ls (lv_sub hl [4, 6, 7, 2, 1, 0] rfl)
            refine lv_iload hx hb dX11_way_120 (lv_at hl 1 rfl) ?_
            refine lv_bipush (v := (7 : Int32)) hx hb dX11_way_122 (by decide) ?_
            refine lv_irem hx hb dX11_way_124 (by decide) ?_
            refine lv_topi (fun y32 ey32 => ?_)
            replace hev := x_lt hev y32 ey32
            refine lv_istore (lv' := [(7, .int y32), (3, .int p3), (6, .int y30)]) hx hb dX11_way_125 hl (by decide) rfl (fun ls hl => ?_)
            refine lv_iload hx hb dX11_way_127 (lv_at hl 2 rfl) ?_
            refine lv_bipush (v := (21 : Int32)) hx hb dX11_way_129 (by decide) ?_
            refine lv_icmp_ne (tgt := 138) hx hb dX11_way_131 (by decide) (fun c33 => ?_) (fun c33 => ?_)
            · replace hev := x_f c33 hev
              refine lv_iload hx hb dX11_way_138 (lv_at hl 0 rfl) ?_
              refine lv_iconst (v := (3 : Int32)) hx hb dX11_way_140 (by decide) ?_
              refine lv_icmp_ge (tgt := 148) hx hb dX11_way_141 (by decide) (fun c34 => ?_) (fun c34 => ?_)
              · replace hev := x_t c34 hev
                refine lv_iload hx hb dX11_way_148 (lv_at hl 0 rfl) ?_
                refine lv_iconst (v := (3 : Int32)) hx hb dX11_way_150 (by decide) ?_
                refine lv_icmp_ne (tgt := 158) hx hb dX11_way_151 (by decide) (fun c35 => ?_) (fun c35 => ?_)
                · replace hev := x_f c35 hev
                  refine lv_iload hx hb dX11_way_158 (lv_at hl 0 rfl) ?_
                  refine lv_bipush (v := (6 : Int32)) hx hb dX11_way_160 (by decide) ?_
                  refine lv_icmp_ge (tgt := 169) hx hb dX11_way_162 (by decide) (fun c36 => ?_) (fun c36 => ?_)
                  · replace hev := x_t c36 hev
                    refine lv_iconst (v := (3 : Int32)) hx hb dX11_way_169 (by decide) ?_
                    exact J170 w31 w12 w13 w19 w14 p3 y30 y32 (3 : Int32) _ _ hP hD hS ls hev (lv_sub hl [1, 2, 0] rfl)
                  · replace hev := x_f c36 hev
                    refine lv_iconst (v := (2 : Int32)) hx hb dX11_way_165 (by decide) ?_
                    refine lv_goto (tgt := 170) hx hb dX11_way_166 (by decide) ?_
                    exact J170 w31 w12 w13 w19 w14 p3 y30 y32 (2 : Int32) _ _ hP hD hS ls hev (lv_sub hl [1, 2, 0] rfl)
                · replace hev := x_t c35 hev
                  refine lv_iconst (v := (1 : Int32)) hx hb dX11_way_154 (by decide) ?_
                  refine lv_goto (tgt := 170) hx hb dX11_way_155 (by decide) ?_
                  exact J170 w31 w12 w13 w19 w14 p3 y30 y32 (1 : Int32) _ _ hP hD hS ls hev (lv_sub hl [1, 2, 0] rfl)
              · replace hev := x_f c34 hev
                refine lv_iconst (v := (0 : Int32)) hx hb dX11_way_144 (by decide) ?_
                refine lv_goto (tgt := 170) hx hb dX11_way_145 (by decide) ?_
                exact J170 w31 w12 w13 w19 w14 p3 y30 y32 (0 : Int32) _ _ hP hD hS ls hev (lv_sub hl [1, 2, 0] rfl)
            · replace hev := x_t c33 hev
              refine lv_iconst (v := (4 : Int32)) hx hb dX11_way_134 (by decide) ?_
              refine lv_goto (tgt := 170) hx hb dX11_way_135 (by decide) ?_
              exact J170 w31 w12 w13 w19 w14 p3 y30 y32 (4 : Int32) _ _ hP hD hS ls hev (lv_sub hl [1, 2, 0] rfl)
          · replace hev := x_f c17 hev
            refine lv_iconst (v := (-1 : Int32)) hx hb dX11_way_57 (by decide) ?_
            exact ret2 _ _ _ _ (-1 : Int32) (-1 : Int32) w11 w12 w13 fT_onWay w14 (Option.some.inj hev) dX11_way_58 (show narrow _ (.int (-1 : Int32)) = .int (-1 : Int32) from rfl) hP hD hS
      · replace hev := x_t c10 hev
        refine lv_bipush (v := (-3 : Int32)) hx hb dX11_way_27 (by decide) ?_
        exact ret2 _ _ _ _ (-3 : Int32) (-3 : Int32) vT_lifted vT_queued fT_fars fT_onWay fT_queue (Option.some.inj hev) dX11_way_29 (show narrow _ (.int (-3 : Int32)) = .int (-3 : Int32) from rfl) hP hD hS
  · replace hev := x_t c7 hev
    refine lv_bipush (v := (-2 : Int32)) hx hb dX11_way_8 (by decide) ?_
    exact ret2 _ _ _ _ (-2 : Int32) (-2 : Int32) vT_lifted vT_queued fT_fars fT_onWay fT_queue (Option.some.inj hev) dX11_way_10 (show narrow _ (.int (-2 : Int32)) = .int (-2 : Int32) from rfl) hP hD hS
