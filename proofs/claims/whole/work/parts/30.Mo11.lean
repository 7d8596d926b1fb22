def f_Mo_prince (vT_people : Int32) (vT_princeMany : Int32) (fT_princes : Nat → Int32) (p1 : Int32) (p2 : Int32) (p3 : Int32) : Option (Int32 × Int32 × (Nat → Int32)) := x_B (f_Mo_isPerson vT_people p1) (fun y1 => if y1 = 0 then (some ((-2 : Int32), vT_princeMany, fT_princes)) else x_B (f_Mo_isPerson vT_people p3) (fun y3 => if y3 = 0 then (some ((-2 : Int32), vT_princeMany, fT_princes)) else if p1 = p3 then (some ((-2 : Int32), vT_princeMany, fT_princes)) else x_B (f_Mo_in ((p2).toInt64) (0 : Int64) (6 : Int64)) (fun y6 => if y6 = 0 then (some ((-3 : Int32), vT_princeMany, fT_princes)) else if vT_princeMany = (5 : Int32) then (some ((-5 : Int32), vT_princeMany, fT_princes)) else x_C 15 ((3 : Int32) * vT_princeMany) (x_C 15 (((3 : Int32) * vT_princeMany) + (1 : Int32)) (x_C 15 (((3 : Int32) * vT_princeMany) + (2 : Int32)) (x_L ((vT_princeMany + (1 : Int32))) (fun y12 => some (y12, y12, (upd (upd (upd fT_princes (((3 : Int32) * vT_princeMany)).toNatClampNeg p1) ((((3 : Int32) * vT_princeMany) + (1 : Int32))).toNatClampNeg p2) ((((3 : Int32) * vT_princeMany) + (2 : Int32))).toNatClampNeg p3)))))))))
set_option maxHeartbeats 8000000 in
set_option maxRecDepth 100000 in
theorem c_Mo_prince (l : Launch) (G : GG) (aT aT_text aT_read aT_spells aT_pasts aT_keptStates aT_keptDeeds aT_isKept aT_fars aT_queue aT_later aT_onWay aT_row aT_princes aT_tries : Nat) (vT_length : Int32) (vT_readMany : Int32) (vT_people : Int32) (vT_toldDay : Int32) (vT_toldBroken : Int32) (vT_many : Int32) (vT_now : Int32) (vT_deeds : Int32) (vT_pastMany : Int32) (vT_at : Int32) (vT_place : Int32) (vT_end : Int32) (vT_readPeople : Int32) (vT_readSpells : Int32) (vT_lifted : Int32) (vT_queued : Int32) (vT_laterMany : Int32) (vT_rowMany : Int32) (vT_princeMany : Int32) (vT_triedMany : Int32) (fT_princes : Nat → Int32) (p1 : Int32) (p2 : Int32) (p3 : Int32) (r0 : Int32) (wvT_princeMany : Int32) (wfT_princes : Nat → Int32) (hev : f_Mo_prince vT_people vT_princeMany fT_princes p1 p2 p3 = some (r0, wvT_princeMany, wfT_princes)) : RW l G yX11_prince cX11_prince 4 (some .int) 2 [.ref aT, .int p1, .int p2, .int p3] [(aT, .inr (7, [.ref aT_text, .int vT_length, .ref aT_read, .int vT_readMany, .int vT_people, .int vT_toldDay, .int vT_toldBroken, .ref aT_spells, .int vT_many, .int vT_now, .int vT_deeds, .ref aT_pasts, .int vT_pastMany, .ref aT_keptStates, .ref aT_keptDeeds, .ref aT_isKept, .int vT_at, .int vT_place, .int vT_end, .int vT_readPeople, .int vT_readSpells, .int vT_lifted, .ref aT_fars, .ref aT_queue, .int vT_queued, .ref aT_later, .int vT_laterMany, .ref aT_onWay, .ref aT_row, .int vT_rowMany, .ref aT_princes, .int vT_princeMany, .ref aT_tries, .int vT_triedMany])), (aT_princes, .inl (G.2.1, 15, .inl fT_princes))] (some (.int r0)) [(aT, .inr (7, [.ref aT_text, .int vT_length, .ref aT_read, .int vT_readMany, .int vT_people, .int vT_toldDay, .int vT_toldBroken, .ref aT_spells, .int vT_many, .int vT_now, .int vT_deeds, .ref aT_pasts, .int vT_pastMany, .ref aT_keptStates, .ref aT_keptDeeds, .ref aT_isKept, .int vT_at, .int vT_place, .int vT_end, .int vT_readPeople, .int vT_readSpells, .int vT_lifted, .ref aT_fars, .ref aT_queue, .int vT_queued, .ref aT_later, .int vT_laterMany, .ref aT_onWay, .ref aT_row, .int vT_rowMany, .ref aT_princes, .int wvT_princeMany, .ref aT_tries, .int vT_triedMany])), (aT_princes, .inl (G.2.1, 15, .inl wfT_princes))] 0 0 := by
  refine RW_of (by decide) (Nat.le_of_ble_eq_true rfl) ?_
  intro p e s m ar below meth c R Q A ls X hR hRc hin hP hKK hD hS hA hAb hl ret
  obtain ⟨rs, hrs⟩ : ∃ q, q = (r0, wvT_princeMany, wfT_princes) := ⟨_, rfl⟩
  rw [← hrs] at hev
  have ret2 : ∀ (pc : Nat) (ls : Array Slot) (H : Heap) (lo : List Loc) (v r1 : Int32) (zvT_princeMany : Int32) (zfT_princes : Nat → Int32), (r1, zvT_princeMany, zfT_princes) = rs → decode cX11_prince pc = .ok (.ireturn, 1) → narrow .int (.int v) = .int r1 → va_P G.1 classes [(aT, .inr (7, [.ref aT_text, .int vT_length, .ref aT_read, .int vT_readMany, .int vT_people, .int vT_toldDay, .int vT_toldBroken, .ref aT_spells, .int vT_many, .int vT_now, .int vT_deeds, .ref aT_pasts, .int vT_pastMany, .ref aT_keptStates, .ref aT_keptDeeds, .ref aT_isKept, .int vT_at, .int vT_place, .int vT_end, .int vT_readPeople, .int vT_readSpells, .int vT_lifted, .ref aT_fars, .ref aT_queue, .int vT_queued, .ref aT_later, .int vT_laterMany, .ref aT_onWay, .ref aT_row, .int vT_rowMany, .ref aT_princes, .int zvT_princeMany, .ref aT_tries, .int vT_triedMany])), (aT_princes, .inl (G.2.1, 15, .inl zfT_princes))] H → va_D A [(aT, .inr (7, [.ref aT_text, .int vT_length, .ref aT_read, .int vT_readMany, .int vT_people, .int vT_toldDay, .int vT_toldBroken, .ref aT_spells, .int vT_many, .int vT_now, .int vT_deeds, .ref aT_pasts, .int vT_pastMany, .ref aT_keptStates, .ref aT_keptDeeds, .ref aT_isKept, .int vT_at, .int vT_place, .int vT_end, .int vT_readPeople, .int vT_readSpells, .int vT_lifted, .ref aT_fars, .ref aT_queue, .int vT_queued, .ref aT_later, .int vT_laterMany, .ref aT_onWay, .ref aT_row, .int vT_rowMany, .ref aT_princes, .int zvT_princeMany, .ref aT_tries, .int vT_triedMany])), (aT_princes, .inl (G.2.1, 15, .inl zfT_princes))] → va_S A s.heap H lo → W p l e R s m ar below meth c H lo 0 0 Q (F0 m pc ls [.int v]) := by
    intro pc ls H lo v r1 zvT_princeMany zfT_princes he hd hn h1 h2 h3
    have he := he.trans hrs
    cases he
    exact ret.1 _ _ _ _ _ _ _ rfl rfl hd hn h1 h2 h3
  clear ret hrs
  have hl : lv_has ls 4 [(0, .ref aT), (1, .int p1), (2, .int p2), (3, .int p3)] := hl
  obtain ⟨hx, hb, hml, hown, hts, hT⟩ := id X
  have hK := hKK.1
  have hw : ∀ w ∈ T0, w.before ar s = true := fun w h => hts w (hT w h)
  have i11 := fun w h => hT w (inT11 w h)
  unfold f_Mo_prince at hev
  refine lv_aload_n hx hb dX11_prince_0 rfl (lv_at hl 0 rfl) ?_
  refine lv_iload_n hx hb dX11_prince_1 rfl (lv_at hl 1 rfl) ?_
  obtain ⟨y1, hq, hev⟩ := x_bd hev
  refine roV X (KK_at hKK hS hAb) hR (st1 := [.int y1]) (c_Mo_isPerson l G aT aT_text aT_read aT_spells aT_pasts aT_keptStates aT_keptDeeds aT_isKept aT_fars aT_queue aT_later aT_onWay aT_row aT_princes aT_tries vT_length vT_readMany vT_people vT_toldDay vT_toldBroken vT_many vT_now vT_deeds vT_pastMany vT_at vT_place vT_end vT_readPeople vT_readSpells vT_lifted vT_queued vT_laterMany vT_rowMany vT_princeMany vT_triedMany p1 y1 hq) K_X11_isPerson u1278 (x_Psub hP [0] rfl) rfl (q0 := 0) rfl (by decide) ⟨Nat.zero_le _, Nat.zero_le _⟩ rfl hl.1 rfl (Nat.le_of_ble_eq_true rfl) rfl dX11_prince_2 ?_
  refine lv_if_eq (tgt := 21) hx hb dX11_prince_5 (by decide) (fun c2 => ?_) (fun c2 => ?_)
  · replace hev := x_t c2 hev
    refine lv_bipush (v := (-2 : Int32)) hx hb dX11_prince_21 (by decide) ?_
    exact ret2 _ _ _ _ (-2 : Int32) (-2 : Int32) vT_princeMany fT_princes (Option.some.inj hev) dX11_prince_23 (show narrow _ (.int (-2 : Int32)) = .int (-2 : Int32) from rfl) hP hD hS
  · replace hev := x_f c2 hev
    refine lv_aload_n hx hb dX11_prince_8 rfl (lv_at hl 0 rfl) ?_
    refine lv_iload_n hx hb dX11_prince_9 rfl (lv_at hl 3 rfl) ?_
    obtain ⟨y3, hq, hev⟩ := x_bd hev
    refine roV X (KK_at hKK hS hAb) hR (st1 := [.int y3]) (c_Mo_isPerson l G aT aT_text aT_read aT_spells aT_pasts aT_keptStates aT_keptDeeds aT_isKept aT_fars aT_queue aT_later aT_onWay aT_row aT_princes aT_tries vT_length vT_readMany vT_people vT_toldDay vT_toldBroken vT_many vT_now vT_deeds vT_pastMany vT_at vT_place vT_end vT_readPeople vT_readSpells vT_lifted vT_queued vT_laterMany vT_rowMany vT_princeMany vT_triedMany p3 y3 hq) K_X11_isPerson u1278 (x_Psub hP [0] rfl) rfl (q0 := 0) rfl (by decide) ⟨Nat.zero_le _, Nat.zero_le _⟩ rfl hl.1 rfl (Nat.le_of_ble_eq_true rfl) rfl dX11_prince_10 ?_
    refine lv_if_eq (tgt := 21) hx hb dX11_prince_13 (by decide) (fun c4 => ?_) (fun c4 => ?_)
    · replace hev := x_t c4 hev
      refine lv_bipush (v := (-2 : Int32)) hx hb dX11_prince_21 (by decide) ?_
      exact ret2 _ _ _ _ (-2 : Int32) (-2 : Int32) vT_princeMany fT_princes (Option.some.inj hev) dX11_prince_23 (show narrow _ (.int (-2 : Int32)) = .int (-2 : Int32) from rfl) hP hD hS
    · replace hev := x_f c4 hev
      refine lv_iload_n hx hb dX11_prince_16 rfl (lv_at hl 1 rfl) ?_
      refine lv_iload_n hx hb dX11_prince_17 rfl (lv_at hl 3 rfl) ?_
      refine lv_icmp_ne (tgt := 24) hx hb dX11_prince_18 (by decide) (fun c5 => ?_) (fun c5 => ?_)
      · replace hev := x_f c5 hev
        refine lv_iload_n hx hb dX11_prince_24 rfl (lv_at hl 2 rfl) ?_
        refine lv_i2l hx hb dX11_prince_25 rfl ?_
        refine lv_lconst (v := (0 : Int64)) hx hb dX11_prince_26 (by decide) ?_
        refine lv_ldc2 (v := (6 : Int64)) hx hb hown (hw _ u1336) dX11_prince_27 ?_
        obtain ⟨y6, hq, hev⟩ := x_bd hev
        refine roS X (KK_at hKK hS hAb) hR (st1 := [.int y6]) (c_Mo_in l G ((p2).toInt64) (0 : Int64) (6 : Int64) y6 hq) K_X11_in u1196 (x_Psub hP [] rfl) (by decide) ⟨Nat.zero_le _, Nat.zero_le _⟩ rfl hl.1 rfl (Nat.le_of_ble_eq_true rfl) rfl dX11_prince_30 ?_
        refine lv_if_ne (tgt := 39) hx hb dX11_prince_33 (by decide) (fun c7 => ?_) (fun c7 => ?_)
        · replace hev := x_f c7 hev
          refine lv_aload_n hx hb dX11_prince_39 rfl (lv_at hl 0 rfl) ?_
          refine va_get (D := G.1) (ci := 7) (v := .int vT_princeMany) (C := RX11) (T := TX11) (N := 34) hx hb hts i11 hown hK hP 0 rfl rfl 31 (by decide) (hw _ u1118) (fun _ h9 => h9) rfl dX11_prince_40 ?_
          refine lv_iconst (v := (5 : Int32)) hx hb dX11_prince_43 (by decide) ?_
          refine lv_icmp_ne (tgt := 50) hx hb dX11_prince_44 (by decide) (fun c8 => ?_) (fun c8 => ?_)
          · replace hev := x_f c8 hev
            refine lv_aload_n hx hb dX11_prince_50 rfl (lv_at hl 0 rfl) ?_
            refine va_get (D := G.1) (ci := 7) (v := .ref aT_princes) (C := RX11) (T := TX11) (N := 34) hx hb hts i11 hown hK hP 0 rfl rfl 30 (by decide) (hw _ u1117) (fun _ h9 => h9) rfl dX11_prince_51 ?_
            refine lv_iconst (v := (3 : Int32)) hx hb dX11_prince_54 (by decide) ?_
            refine lv_aload_n hx hb dX11_prince_55 rfl (lv_at hl 0 rfl) ?_
            refine va_get (D := G.1) (ci := 7) (v := .int vT_princeMany) (C := RX11) (T := TX11) (N := 34) hx hb hts i11 hown hK hP 0 rfl rfl 31 (by decide) (hw _ u1118) (fun _ h9 => h9) rfl dX11_prince_56 ?_
            refine lv_imul hx hb dX11_prince_59 ?_
            refine lv_iload_n hx hb dX11_prince_60 rfl (lv_at hl 1 rfl) ?_
            obtain ⟨h9, hev⟩ := x_ck hev
            refine va_iast hx hb hK hP hD hS 1 0 rfl rfl h9 dX11_prince_61 (fun H lo hP hD hS => ?_)
            refine lv_aload_n hx hb dX11_prince_62 rfl (lv_at hl 0 rfl) ?_
            refine va_get (D := G.1) (ci := 7) (v := .ref aT_princes) (C := RX11) (T := TX11) (N := 34) hx hb hts i11 hown hK hP 0 rfl rfl 30 (by decide) (hw _ u1117) (fun _ h9 => h9) rfl dX11_prince_63 ?_
            refine lv_iconst (v := (3 : Int32)) hx hb dX11_prince_66 (by decide) ?_
            refine lv_aload_n hx hb dX11_prince_67 rfl (lv_at hl 0 rfl) ?_
            refine va_get (D := G.1) (ci := 7) (v := .int vT_princeMany) (C := RX11) (T := TX11) (N := 34) hx hb hts i11 hown hK hP 0 rfl rfl 31 (by decide) (hw _ u1118) (fun _ h9 => h9) rfl dX11_prince_68 ?_
            refine lv_imul hx hb dX11_prince_71 ?_
            refine lv_iconst (v := (1 : Int32)) hx hb dX11_prince_72 (by decide) ?_
            refine lv_iadd hx hb dX11_prince_73 ?_
            refine lv_iload_n hx hb dX11_prince_74 rfl (lv_at hl 2 rfl) ?_
            obtain ⟨h10, hev⟩ := x_ck hev
            refine va_iast hx hb hK hP hD hS 1 0 rfl rfl h10 dX11_prince_75 (fun H lo hP hD hS => ?_)
            refine lv_aload_n hx hb dX11_prince_76 rfl (lv_at hl 0 rfl) ?_
            refine va_get (D := G.1) (ci := 7) (v := .ref aT_princes) (C := RX11) (T := TX11) (N := 34) hx hb hts i11 hown hK hP 0 rfl rfl 30 (by decide) (hw _ u1117) (fun _ h9 => h9) rfl dX11_prince_77 ?_
            refine lv_iconst (v := (3 : Int32)) hx hb dX11_prince_80 (by decide) ?_
            refine lv_aload_n hx hb dX11_prince_81 rfl (lv_at hl 0 rfl) ?_
            refine va_get (D := G.1) (ci := 7) (v := .int vT_princeMany) (C := RX11) (T := TX11) (N := 34) hx hb hts i11 hown hK hP 0 rfl rfl 31 (by decide) (hw _ u1118) (fun _ h9 => h9) rfl dX11_prince_82 ?_
            refine lv_imul hx hb dX11_prince_85 ?_
            refine lv_iconst (v := (2 : Int32)) hx hb dX11_prince_86 (by decide) ?_
            refine lv_iadd hx hb dX11_prince_87 ?_
            refine lv_iload_n hx hb dX11_prince_88 rfl (lv_at hl 3 rfl) ?_
            obtain ⟨h11, hev⟩ := x_ck hev
            refine va_iast hx hb hK hP hD hS 1 0 rfl rfl h11 dX11_prince_89 (fun H lo hP hD hS => ?_)
            refine lv_aload_n hx hb dX11_prince_90 rfl (lv_at hl 0 rfl) ?_
            refine lv_dup hx hb dX11_prince_91 rfl ?_
            refine va_get (D := G.1) (ci := 7) (v := .int vT_princeMany) (C := RX11) (T := TX11) (N := 34) hx hb hts i11 hown hK hP 0 rfl rfl 31 (by decide) (hw _ u1118) (fun _ h9 => h9) rfl dX11_prince_92 ?_
            refine lv_iconst (v := (1 : Int32)) hx hb dX11_prince_95 (by decide) ?_
            refine lv_iadd hx hb dX11_prince_96 ?_
            refine lv_topi (fun y12 ey12 => ?_)
            replace hev := x_lt hev y12 ey12
            refine va_put (D := G.1) (ci := 7) (v := .int y12) (ty := .int) (C := RX11) (T := TX11) (N := 34) hx hb hts i11 tyX11 tyX11_ok nmX11 hown hK hP hD hS 0 rfl rfl 31 (by decide) (hw _ u1118) (fun _ h9 => h9) rfl (by decide +kernel) rfl rfl (Nat.le_of_ble_eq_true rfl) dX11_prince_97 (fun H lo hP hD hS => ?_)
            refine lv_aload_n hx hb dX11_prince_100 rfl (lv_at hl 0 rfl) ?_
            refine va_get (D := G.1) (ci := 7) (v := .int y12) (C := RX11) (T := TX11) (N := 34) hx hb hts i11 hown hK hP 0 rfl rfl 31 (by decide) (hw _ u1118) (fun _ h9 => h9) rfl dX11_prince_101 ?_
            exact ret2 _ _ _ _ y12 y12 y12 (upd (upd (upd fT_princes (((3 : Int32) * vT_princeMany)).toNatClampNeg p1) ((((3 : Int32) * vT_princeMany) + (1 : Int32))).toNatClampNeg p2) ((((3 : Int32) * vT_princeMany) + (2 : Int32))).toNatClampNeg p3) (Option.some.inj hev) dX11_prince_104 (show narrow _ (.int y12) = .int y12 from rfl) hP hD hS
          · replace hev := x_t c8 hev
            refine lv_bipush (v := (-5 : Int32)) hx hb dX11_prince_47 (by decide) ?_
            exact ret2 _ _ _ _ (-5 : Int32) (-5 : Int32) vT_princeMany fT_princes (Option.some.inj hev) dX11_prince_49 (show narrow _ (.int (-5 : Int32)) = .int (-5 : Int32) from rfl) hP hD hS
        · replace hev := x_t c7 hev
          refine lv_bipush (v := (-3 : Int32)) hx hb dX11_prince_36 (by decide) ?_
          exact ret2 _ _ _ _ (-3 : Int32) (-3 : Int32) vT_princeMany fT_princes (Option.some.inj hev) dX11_prince_38 (show narrow _ (.int (-3 : Int32)) = .int (-3 : Int32) from rfl) hP hD hS
      · replace hev := x_t c5 hev
        refine lv_bipush (v := (-2 : Int32)) hx hb dX11_prince_21 (by decide) ?_
        exact ret2 _ _ _ _ (-2 : Int32) (-2 : Int32) vT_princeMany fT_princes (Option.some.inj hev) dX11_prince_23 (show narrow _ (.int (-2 : Int32)) = .int (-2 : Int32) from rfl) hP hD hS
def f_Mo_dismiss (vT_princeMany : Int32) : Option (Int32 × Int32) := some (vT_princeMany, (0 : Int32))
set_option maxHeartbeats 8000000 in
set_option maxRecDepth 100000 in
theorem c_Mo_dismiss (l : Launch) (G : GG) (aT aT_text aT_read aT_spells aT_pasts aT_keptStates aT_keptDeeds aT_isKept aT_fars aT_queue aT_later aT_onWay aT_row aT_princes aT_tries : Nat) (vT_length : Int32) (vT_readMany : Int32) (vT_people : Int32) (vT_toldDay : Int32) (vT_toldBroken : Int32) (vT_many : Int32) (vT_now : Int32) (vT_deeds : Int32) (vT_pastMany : Int32) (vT_at : Int32) (vT_place : Int32) (vT_end : Int32) (vT_readPeople : Int32) (vT_readSpells : Int32) (vT_lifted : Int32) (vT_queued : Int32) (vT_laterMany : Int32) (vT_rowMany : Int32) (vT_princeMany : Int32) (vT_triedMany : Int32) (r0 : Int32) (wvT_princeMany : Int32) (hev : f_Mo_dismiss vT_princeMany = some (r0, wvT_princeMany)) : RW l G yX11_dismiss cX11_dismiss 2 (some .int) 0 [.ref aT] [(aT, .inr (7, [.ref aT_text, .int vT_length, .ref aT_read, .int vT_readMany, .int vT_people, .int vT_toldDay, .int vT_toldBroken, .ref aT_spells, .int vT_many, .int vT_now, .int vT_deeds, .ref aT_pasts, .int vT_pastMany, .ref aT_keptStates, .ref aT_keptDeeds, .ref aT_isKept, .int vT_at, .int vT_place, .int vT_end, .int vT_readPeople, .int vT_readSpells, .int vT_lifted, .ref aT_fars, .ref aT_queue, .int vT_queued, .ref aT_later, .int vT_laterMany, .ref aT_onWay, .ref aT_row, .int vT_rowMany, .ref aT_princes, .int vT_princeMany, .ref aT_tries, .int vT_triedMany]))] (some (.int r0)) [(aT, .inr (7, [.ref aT_text, .int vT_length, .ref aT_read, .int vT_readMany, .int vT_people, .int vT_toldDay, .int vT_toldBroken, .ref aT_spells, .int vT_many, .int vT_now, .int vT_deeds, .ref aT_pasts, .int vT_pastMany, .ref aT_keptStates, .ref aT_keptDeeds, .ref aT_isKept, .int vT_at, .int vT_place, .int vT_end, .int vT_readPeople, .int vT_readSpells, .int vT_lifted, .ref aT_fars, .ref aT_queue, .int vT_queued, .ref aT_later, .int vT_laterMany, .ref aT_onWay, .ref aT_row, .int vT_rowMany, .ref aT_princes, .int wvT_princeMany, .ref aT_tries, .int vT_triedMany]))] 0 0 := by
  refine RW_of (by decide) (Nat.le_of_ble_eq_true rfl) ?_
  intro p e s m ar below meth c R Q A ls X hR hRc hin hP hKK hD hS hA hAb hl ret
  obtain ⟨rs, hrs⟩ : ∃ q, q = (r0, wvT_princeMany) := ⟨_, rfl⟩
  rw [← hrs] at hev
  have ret2 : ∀ (pc : Nat) (ls : Array Slot) (H : Heap) (lo : List Loc) (v r1 : Int32) (zvT_princeMany : Int32), (r1, zvT_princeMany) = rs → decode cX11_dismiss pc = .ok (.ireturn, 1) → narrow .int (.int v) = .int r1 → va_P G.1 classes [(aT, .inr (7, [.ref aT_text, .int vT_length, .ref aT_read, .int vT_readMany, .int vT_people, .int vT_toldDay, .int vT_toldBroken, .ref aT_spells, .int vT_many, .int vT_now, .int vT_deeds, .ref aT_pasts, .int vT_pastMany, .ref aT_keptStates, .ref aT_keptDeeds, .ref aT_isKept, .int vT_at, .int vT_place, .int vT_end, .int vT_readPeople, .int vT_readSpells, .int vT_lifted, .ref aT_fars, .ref aT_queue, .int vT_queued, .ref aT_later, .int vT_laterMany, .ref aT_onWay, .ref aT_row, .int vT_rowMany, .ref aT_princes, .int zvT_princeMany, .ref aT_tries, .int vT_triedMany]))] H → va_D A [(aT, .inr (7, [.ref aT_text, .int vT_length, .ref aT_read, .int vT_readMany, .int vT_people, .int vT_toldDay, .int vT_toldBroken, .ref aT_spells, .int vT_many, .int vT_now, .int vT_deeds, .ref aT_pasts, .int vT_pastMany, .ref aT_keptStates, .ref aT_keptDeeds, .ref aT_isKept, .int vT_at, .int vT_place, .int vT_end, .int vT_readPeople, .int vT_readSpells, .int vT_lifted, .ref aT_fars, .ref aT_queue, .int vT_queued, .ref aT_later, .int vT_laterMany, .ref aT_onWay, .ref aT_row, .int vT_rowMany, .ref aT_princes, .int zvT_princeMany, .ref aT_tries, .int vT_triedMany]))] → va_S A s.heap H lo → W p l e R s m ar below meth c H lo 0 0 Q (F0 m pc ls [.int v]) := by
    intro pc ls H lo v r1 zvT_princeMany he hd hn h1 h2 h3
    have he := he.trans hrs
    cases he
    exact ret.1 _ _ _ _ _ _ _ rfl rfl hd hn h1 h2 h3
  clear ret hrs
  have hl : lv_has ls 2 [(0, .ref aT)] := hl
  obtain ⟨hx, hb, hml, hown, hts, hT⟩ := id X
  have hK := hKK.1
  have hw : ∀ w ∈ T0, w.before ar s = true := fun w h => hts w (hT w h)
  have i11 := fun w h => hT w (inT11 w h)
  unfold f_Mo_dismiss at hev
  refine lv_aload_n hx hb dX11_dismiss_0 rfl (lv_at hl 0 rfl) ?_
  refine va_get (D := G.1) (ci := 7) (v := .int vT_princeMany) (C := RX11) (T := TX11) (N := 34) hx hb hts i11 hown hK hP 0 rfl rfl 31 (by decide) (hw _ u1118) (fun _ h9 => h9) rfl dX11_dismiss_1 ?_
  refine lv_istore_n (lv' := [(1, .int vT_princeMany), (0, .ref aT)]) hx hb dX11_dismiss_4 rfl hl (by decide) rfl (fun ls hl => ?_)
  refine lv_aload_n hx hb dX11_dismiss_5 rfl (lv_at hl 1 rfl) ?_
  refine lv_iconst (v := (0 : Int32)) hx hb dX11_dismiss_6 (by decide) ?_
  refine va_put (D := G.1) (ci := 7) (v := .int (0 : Int32)) (ty := .int) (C := RX11) (T := TX11) (N := 34) hx hb hts i11 tyX11 tyX11_ok nmX11 hown hK hP hD hS 0 rfl rfl 31 (by decide) (hw _ u1118) (fun _ h9 => h9) rfl (by decide +kernel) rfl rfl (Nat.le_of_ble_eq_true rfl) dX11_dismiss_7 (fun H lo hP hD hS => ?_)
  refine lv_iload_n hx hb dX11_dismiss_10 rfl (lv_at hl 0 rfl) ?_
  exact ret2 _ _ _ _ vT_princeMany vT_princeMany (0 : Int32) (Option.some.inj hev) dX11_dismiss_11 (show narrow _ (.int vT_princeMany) = .int vT_princeMany from rfl) hP hD hS
def f_Mo_inLine_J135 (rec : Int32 → Int32 → Int32 → Int32 → Int32 → Option (Int32 × Int32 × Int32)) (k : Nat) (vT_lifted : Int32) (vT_many : Int32) (vT_now : Int32) (vT_people : Int32) (vT_princeMany : Int32) (fT_princes : Nat → Int32) (fT_spells : Nat → Int32) (x1 : Int32) (x2 : Int32) (x3 : Int32) (x4 : Int32) (x5 : Int32) : Option (Int32 × Int32 × Int32) := x_L (x5 + (1 : Int32)) (fun y3 => rec x2 x3 x4 y3 vT_lifted)
def f_Mo_inLine_L35 (vT_many : Int32) (vT_now : Int32) (vT_people : Int32) (vT_princeMany : Int32) (fT_princes : Nat → Int32) (fT_spells : Nat → Int32) (x1 : Int32) (x5 : Int32) : Nat → Int32 → Int32 → Int32 → Int32 → Option (Int32 × Int32 × Int32 × Int32)
  | 0, _, _, _, _ => none
  | k + 1, x2, x3, x4, vT_lifted => x_B (f_Mo_dayOf x2) (fun y5 => x_L ((((3 : Int32) * x5) + (1 : Int32))) (fun y6 => x_I 15 fT_princes y6 (fun v8 => if y5 = v8 then (some (x2, x3, x4, vT_lifted)) else x_B (f_Mo_behind k vT_lifted vT_many fT_spells x2 (21 : Int32)) (fun ⟨y10, w11⟩ => x_B (f_Mo_bits k w11) (fun y12 => x_L ((x4 + y12)) (fun y13 => x_L (x3 + (1 : Int32)) (fun y14 => (f_Mo_inLine_L35 vT_many vT_now vT_people vT_princeMany fT_princes fT_spells x1 x5 k) y10 y14 y13 w11)))))))
def f_Mo_inLine_L26 (vT_many : Int32) (vT_now : Int32) (vT_people : Int32) (vT_princeMany : Int32) (fT_princes : Nat → Int32) (fT_spells : Nat → Int32) (x1 : Int32) : Nat → Int32 → Int32 → Int32 → Int32 → Int32 → Option (Int32 × Int32 × Int32)
  | 0, _, _, _, _, _ => none
  | k + 1, x2, x3, x4, x5, vT_lifted => if vT_princeMany ≤ x5 then (some (x3, x4, vT_lifted)) else x_B (f_Mo_inLine_L35 vT_many vT_now vT_people vT_princeMany fT_princes fT_spells x1 x5 k x2 x3 x4 vT_lifted) (fun ⟨y15, y16, y17, w18⟩ => x_L (((3 : Int32) * x5)) (fun y19 => x_I 15 fT_princes y19 (fun v21 => x_L ((((3 : Int32) * x5) + (2 : Int32))) (fun y22 => x_I 15 fT_princes y22 (fun v24 => x_L ((((7 : Int32) * v21) + v24)) (fun y25 => x_B (f_Mo_canDo k vT_many vT_people fT_spells y15 y25) (fun y26 => if y26 = 0 then (f_Mo_inLine_J135 (f_Mo_inLine_L26 vT_many vT_now vT_people vT_princeMany fT_princes fT_spells x1 k) k w18 vT_many vT_now vT_people vT_princeMany fT_princes fT_spells x1 y15 y16 y17 x5) else x_B (f_Mo_behind k w18 vT_many fT_spells y15 y25) (fun ⟨y28, w29⟩ => x_B (f_Mo_bits k w29) (fun y30 => x_L ((y17 + y30)) (fun y31 => f_Mo_inLine_J135 (f_Mo_inLine_L26 vT_many vT_now vT_people vT_princeMany fT_princes fT_spells x1 k) k w29 vT_many vT_now vT_people vT_princeMany fT_princes fT_spells x1 y28 y16 y31 x5))))))))))
def f_Mo_inLine (k : Nat) (vT_lifted : Int32) (vT_many : Int32) (vT_now : Int32) (vT_people : Int32) (vT_princeMany : Int32) (fT_princes : Nat → Int32) (fT_spells : Nat → Int32) (p1 : Int32) : Option (Int32 × Int32) := x_B (f_Mo_in ((p1).toInt64) (0 : Int64) (1 : Int64)) (fun y1 => if y1 = 0 then (some ((-3 : Int32), vT_lifted)) else x_B (f_Mo_inLine_L26 vT_many vT_now vT_people vT_princeMany fT_princes fT_spells p1 k vT_now (0 : Int32) (0 : Int32) (0 : Int32) vT_lifted) (fun ⟨y32, y33, w34⟩ => if p1 = 0 then (some (y33, w34)) else some (y32, w34)))
set_option maxHeartbeats 8000000 in
set_option maxRecDepth 100000 in
theorem c_Mo_inLine (l : Launch) (G : GG) (aT aT_text aT_read aT_spells aT_pasts aT_keptStates aT_keptDeeds aT_isKept aT_fars aT_queue aT_later aT_onWay aT_row aT_princes aT_tries : Nat) (vT_length : Int32) (vT_readMany : Int32) (vT_people : Int32) (vT_toldDay : Int32) (vT_toldBroken : Int32) (vT_many : Int32) (vT_now : Int32) (vT_deeds : Int32) (vT_pastMany : Int32) (vT_at : Int32) (vT_place : Int32) (vT_end : Int32) (vT_readPeople : Int32) (vT_readSpells : Int32) (vT_lifted : Int32) (vT_queued : Int32) (vT_laterMany : Int32) (vT_rowMany : Int32) (vT_princeMany : Int32) (vT_triedMany : Int32) (fT_princes : Nat → Int32) (fT_spells : Nat → Int32) (k : Nat) (p1 : Int32) (r0 : Int32) (wvT_lifted : Int32) (hev : f_Mo_inLine k vT_lifted vT_many vT_now vT_people vT_princeMany fT_princes fT_spells p1 = some (r0, wvT_lifted)) : RW l G yX11_inLine cX11_inLine 7 (some .int) 4 [.ref aT, .int p1] [(aT, .inr (7, [.ref aT_text, .int vT_length, .ref aT_read, .int vT_readMany, .int vT_people, .int vT_toldDay, .int vT_toldBroken, .ref aT_spells, .int vT_many, .int vT_now, .int vT_deeds, .ref aT_pasts, .int vT_pastMany, .ref aT_keptStates, .ref aT_keptDeeds, .ref aT_isKept, .int vT_at, .int vT_place, .int vT_end, .int vT_readPeople, .int vT_readSpells, .int vT_lifted, .ref aT_fars, .ref aT_queue, .int vT_queued, .ref aT_later, .int vT_laterMany, .ref aT_onWay, .ref aT_row, .int vT_rowMany, .ref aT_princes, .int vT_princeMany, .ref aT_tries, .int vT_triedMany])), (aT_princes, .inl (G.2.1, 15, .inl fT_princes)), (aT_spells, .inl (G.2.1, 50, .inl fT_spells))] (some (.int r0)) [(aT, .inr (7, [.ref aT_text, .int vT_length, .ref aT_read, .int vT_readMany, .int vT_people, .int vT_toldDay, .int vT_toldBroken, .ref aT_spells, .int vT_many, .int vT_now, .int vT_deeds, .ref aT_pasts, .int vT_pastMany, .ref aT_keptStates, .ref aT_keptDeeds, .ref aT_isKept, .int vT_at, .int vT_place, .int vT_end, .int vT_readPeople, .int vT_readSpells, .int wvT_lifted, .ref aT_fars, .ref aT_queue, .int vT_queued, .ref aT_later, .int vT_laterMany, .ref aT_onWay, .ref aT_row, .int vT_rowMany, .ref aT_princes, .int vT_princeMany, .ref aT_tries, .int vT_triedMany])), (aT_princes, .inl (G.2.1, 15, .inl fT_princes)), (aT_spells, .inl (G.2.1, 50, .inl fT_spells))] 0 0 := by
  refine RW_of (by decide) (Nat.le_of_ble_eq_true rfl) ?_
  intro p e s m ar below meth c R Q A ls X hR hRc hin hP hKK hD hS hA hAb hl ret
  obtain ⟨rs, hrs⟩ : ∃ q, q = (r0, wvT_lifted) := ⟨_, rfl⟩
  rw [← hrs] at hev
  have ret2 : ∀ (pc : Nat) (ls : Array Slot) (H : Heap) (lo : List Loc) (v r1 : Int32) (zvT_lifted : Int32), (r1, zvT_lifted) = rs → decode cX11_inLine pc = .ok (.ireturn, 1) → narrow .int (.int v) = .int r1 → va_P G.1 classes [(aT, .inr (7, [.ref aT_text, .int vT_length, .ref aT_read, .int vT_readMany, .int vT_people, .int vT_toldDay, .int vT_toldBroken, .ref aT_spells, .int vT_many, .int vT_now, .int vT_deeds, .ref aT_pasts, .int vT_pastMany, .ref aT_keptStates, .ref aT_keptDeeds, .ref aT_isKept, .int vT_at, .int vT_place, .int vT_end, .int vT_readPeople, .int vT_readSpells, .int zvT_lifted, .ref aT_fars, .ref aT_queue, .int vT_queued, .ref aT_later, .int vT_laterMany, .ref aT_onWay, .ref aT_row, .int vT_rowMany, .ref aT_princes, .int vT_princeMany, .ref aT_tries, .int vT_triedMany])), (aT_princes, .inl (G.2.1, 15, .inl fT_princes)), (aT_spells, .inl (G.2.1, 50, .inl fT_spells))] H → va_D A [(aT, .inr (7, [.ref aT_text, .int vT_length, .ref aT_read, .int vT_readMany, .int vT_people, .int vT_toldDay, .int vT_toldBroken, .ref aT_spells, .int vT_many, .int vT_now, .int vT_deeds, .ref aT_pasts, .int vT_pastMany, .ref aT_keptStates, .ref aT_keptDeeds, .ref aT_isKept, .int vT_at, .int vT_place, .int vT_end, .int vT_readPeople, .int vT_readSpells, .int zvT_lifted, .ref aT_fars, .ref aT_queue, .int vT_queued, .ref aT_later, .int vT_laterMany, .ref aT_onWay, .ref aT_row, .int vT_rowMany, .ref aT_princes, .int vT_princeMany, .ref aT_tries, .int vT_triedMany])), (aT_princes, .inl (G.2.1, 15, .inl fT_princes)), (aT_spells, .inl (G.2.1, 50, .inl fT_spells))] → va_S A s.heap H lo → W p l e R s m ar below meth c H lo 0 0 Q (F0 m pc ls [.int v]) := by
    intro pc ls H lo v r1 zvT_lifted he hd hn h1 h2 h3
    have he := he.trans hrs
    cases he
    exact ret.1 _ _ _ _ _ _ _ rfl rfl hd hn h1 h2 h3
  clear ret hrs
  have hl : lv_has ls 7 [(0, .ref aT), (1, .int p1)] := hl
  obtain ⟨hx, hb, hml, hown, hts, hT⟩ := id X
  have hK := hKK.1
  have hw : ∀ w ∈ T0, w.before ar s = true := fun w h => hts w (hT w h)
  have i11 := fun w h => hT w (inT11 w h)
  unfold f_Mo_inLine at hev
  refine lv_iload_n hx hb dX11_inLine_0 rfl (lv_at hl 1 rfl) ?_
  refine lv_i2l hx hb dX11_inLine_1 rfl ?_
  refine lv_lconst (v := (0 : Int64)) hx hb dX11_inLine_2 (by decide) ?_
  refine lv_lconst (v := (1 : Int64)) hx hb dX11_inLine_3 (by decide) ?_
  obtain ⟨y1, hq, hev⟩ := x_bd hev
  refine roS X (KK_at hKK hS hAb) hR (st1 := [.int y1]) (c_Mo_in l G ((p1).toInt64) (0 : Int64) (1 : Int64) y1 hq) K_X11_in u1196 (x_Psub hP [] rfl) (by decide) ⟨Nat.zero_le _, Nat.zero_le _⟩ rfl hl.1 rfl (Nat.le_of_ble_eq_true rfl) rfl dX11_inLine_4 ?_
  refine lv_if_ne (tgt := 13) hx hb dX11_inLine_7 (by decide) (fun c2 => ?_) (fun c2 => ?_)
  · replace hev := x_f c2 hev
    refine lv_aload_n hx hb dX11_inLine_13 rfl (lv_at hl 0 rfl) ?_
    refine va_get (D := G.1) (ci := 7) (v := .int vT_now) (C := RX11) (T := TX11) (N := 34) hx hb hts i11 hown hK hP 0 rfl rfl 9 (by decide) (hw _ u1096) (fun _ h9 => h9) rfl dX11_inLine_14 ?_
    refine lv_istore_n (lv' := [(2, .int vT_now), (0, .ref aT), (1, .int p1)]) hx hb dX11_inLine_17 rfl hl (by decide) rfl (fun ls hl => ?_)
    refine lv_iconst (v := (0 : Int32)) hx hb dX11_inLine_18 (by decide) ?_
    refine lv_istore_n (lv' := [(3, .int (0 : Int32)), (2, .int vT_now), (0, .ref aT), (1, .int p1)]) hx hb dX11_inLine_19 rfl hl (by decide) rfl (fun ls hl => ?_)
    refine lv_iconst (v := (0 : Int32)) hx hb dX11_inLine_20 (by decide) ?_
    refine lv_istore (lv' := [(4, .int (0 : Int32)), (3, .int (0 : Int32)), (2, .int vT_now), (0, .ref aT), (1, .int p1)]) hx hb dX11_inLine_21 hl (by decide) rfl (fun ls hl => ?_)
    refine lv_iconst (v := (0 : Int32)) hx hb dX11_inLine_23 (by decide) ?_
    refine lv_istore (lv' := [(5, .int (0 : Int32)), (4, .int (0 : Int32)), (3, .int (0 : Int32)), (2, .int vT_now), (0, .ref aT), (1, .int p1)]) hx hb dX11_inLine_24 hl (by decide) rfl (fun ls hl => ?_)
    have L26 : ∀ (x1 : Int32), ∀ (k : Nat) (x2 : Int32) (x3 : Int32) (x4 : Int32) (x5 : Int32) (vT_lifted : Int32) (o3 : Int32) (o4 : Int32) (ovT_lifted : Int32), f_Mo_inLine_L26 vT_many vT_now vT_people vT_princeMany fT_princes fT_spells x1 k x2 x3 x4 x5 vT_lifted = some (o3, o4, ovT_lifted) → (∀ (H : Heap) (lo : List Loc), va_P G.1 classes [(aT, .inr (7, [.ref aT_text, .int vT_length, .ref aT_read, .int vT_readMany, .int vT_people, .int vT_toldDay, .int vT_toldBroken, .ref aT_spells, .int vT_many, .int vT_now, .int vT_deeds, .ref aT_pasts, .int vT_pastMany, .ref aT_keptStates, .ref aT_keptDeeds, .ref aT_isKept, .int vT_at, .int vT_place, .int vT_end, .int vT_readPeople, .int vT_readSpells, .int ovT_lifted, .ref aT_fars, .ref aT_queue, .int vT_queued, .ref aT_later, .int vT_laterMany, .ref aT_onWay, .ref aT_row, .int vT_rowMany, .ref aT_princes, .int vT_princeMany, .ref aT_tries, .int vT_triedMany])), (aT_princes, .inl (G.2.1, 15, .inl fT_princes)), (aT_spells, .inl (G.2.1, 50, .inl fT_spells))] H → va_D A [(aT, .inr (7, [.ref aT_text, .int vT_length, .ref aT_read, .int vT_readMany, .int vT_people, .int vT_toldDay, .int vT_toldBroken, .ref aT_spells, .int vT_many, .int vT_now, .int vT_deeds, .ref aT_pasts, .int vT_pastMany, .ref aT_keptStates, .ref aT_keptDeeds, .ref aT_isKept, .int vT_at, .int vT_place, .int vT_end, .int vT_readPeople, .int vT_readSpells, .int ovT_lifted, .ref aT_fars, .ref aT_queue, .int vT_queued, .ref aT_later, .int vT_laterMany, .ref aT_onWay, .ref aT_row, .int vT_rowMany, .ref aT_princes, .int vT_princeMany, .ref aT_tries, .int vT_triedMany])), (aT_princes, .inl (G.2.1, 15, .inl fT_princes)), (aT_spells, .inl (G.2.1, 50, .inl fT_spells))] → va_S A s.heap H lo → ∀ (ls : Array Slot), lv_has ls 7 [(1, .int x1), (3, .int o3), (4, .int o4)] → W p l e R s m ar below meth c H lo 0 0 Q (F0 m 141 ls [])) → ∀ (H : Heap) (lo : List Loc), va_P G.1 classes [(aT, .inr (7, [.ref aT_text, .int vT_length, .ref aT_read, .int vT_readMany, .int vT_people, .int vT_toldDay, .int vT_toldBroken, .ref aT_spells, .int vT_many, .int vT_now, .int vT_deeds, .ref aT_pasts, .int vT_pastMany, .ref aT_keptStates, .ref aT_keptDeeds, .ref aT_isKept, .int vT_at, .int vT_place, .int vT_end, .int vT_readPeople, .int vT_readSpells, .int vT_lifted, .ref aT_fars, .ref aT_queue, .int vT_queued, .ref aT_later, .int vT_laterMany, .ref aT_onWay, .ref aT_row, .int vT_rowMany, .ref aT_princes, .int vT_princeMany, .ref aT_tries, .int vT_triedMany])), (aT_princes, .inl (G.2.1, 15, .inl fT_princes)), (aT_spells, .inl (G.2.1, 50, .inl fT_spells))] H → va_D A [(aT, .inr (7, [.ref aT_text, .int vT_length, .ref aT_read, .int vT_readMany, .int vT_people, .int vT_toldDay, .int vT_toldBroken, .ref aT_spells, .int vT_many, .int vT_now, .int vT_deeds, .ref aT_pasts, .int vT_pastMany, .ref aT_keptStates, .ref aT_keptDeeds, .ref aT_isKept, .int vT_at, .int vT_place, .int vT_end, .int vT_readPeople, .int vT_readSpells, .int vT_lifted, .ref aT_fars, .ref aT_queue, .int vT_queued, .ref aT_later, .int vT_laterMany, .ref aT_onWay, .ref aT_row, .int vT_rowMany, .ref aT_princes, .int vT_princeMany, .ref aT_tries, .int vT_triedMany])), (aT_princes, .inl (G.2.1, 15, .inl fT_princes)), (aT_spells, .inl (G.2.1, 50, .inl fT_spells))] → va_S A s.heap H lo → ∀ (ls : Array Slot), lv_has ls 7 [(0, .ref aT), (1, .int x1), (2, .int x2), (3, .int x3), (4, .int x4), (5, .int x5)] → W p l e R s m ar below meth c H lo 0 0 Q (F0 m 26 ls []) := by
      intro x1 k
      induction k with
      | zero => intro x2 x3 x4 x5 vT_lifted o3 o4 ovT_lifted hev; rw [f_Mo_inLine_L26] at hev; cases hev
      | succ k ih =>
        intro x2 x3 x4 x5 vT_lifted o3 o4 ovT_lifted hev hex H lo hP hD hS ls hl
        rw [f_Mo_inLine_L26] at hev
        have J135 : ∀ (vT_lifted : Int32) (x2 : Int32) (x3 : Int32) (x4 : Int32) (x5 : Int32), ∀ (H : Heap) (lo : List Loc), va_P G.1 classes [(aT, .inr (7, [.ref aT_text, .int vT_length, .ref aT_read, .int vT_readMany, .int vT_people, .int vT_toldDay, .int vT_toldBroken, .ref aT_spells, .int vT_many, .int vT_now, .int vT_deeds, .ref aT_pasts, .int vT_pastMany, .ref aT_keptStates, .ref aT_keptDeeds, .ref aT_isKept, .int vT_at, .int vT_place, .int vT_end, .int vT_readPeople, .int vT_readSpells, .int vT_lifted, .ref aT_fars, .ref aT_queue, .int vT_queued, .ref aT_later, .int vT_laterMany, .ref aT_onWay, .ref aT_row, .int vT_rowMany, .ref aT_princes, .int vT_princeMany, .ref aT_tries, .int vT_triedMany])), (aT_princes, .inl (G.2.1, 15, .inl fT_princes)), (aT_spells, .inl (G.2.1, 50, .inl fT_spells))] H → va_D A [(aT, .inr (7, [.ref aT_text, .int vT_length, .ref aT_read, .int vT_readMany, .int vT_people, .int vT_toldDay, .int vT_toldBroken, .ref aT_spells, .int vT_many, .int vT_now, .int vT_deeds, .ref aT_pasts, .int vT_pastMany, .ref aT_keptStates, .ref aT_keptDeeds, .ref aT_isKept, .int vT_at, .int vT_place, .int vT_end, .int vT_readPeople, .int vT_readSpells, .int vT_lifted, .ref aT_fars, .ref aT_queue, .int vT_queued, .ref aT_later, .int vT_laterMany, .ref aT_onWay, .ref aT_row, .int vT_rowMany, .ref aT_princes, .int vT_princeMany, .ref aT_tries, .int vT_triedMany])), (aT_princes, .inl (G.2.1, 15, .inl fT_princes)), (aT_spells, .inl (G.2.1, 50, .inl fT_spells))] → va_S A s.heap H lo → ∀ (ls : Array Slot), f_Mo_inLine_J135 (f_Mo_inLine_L26 vT_many vT_now vT_people vT_princeMany fT_princes fT_spells x1 k) k vT_lifted vT_many vT_now vT_people vT_princeMany fT_princes fT_spells x1 x2 x3 x4 x5 = some (o3, o4, ovT_lifted) → lv_has ls 7 [(0, .ref aT), (1, .int x1), (2, .int x2), (3, .int x3), (4, .int x4), (5, .int x5)] → W p l e R s m ar below meth c H lo 0 0 Q (F0 m 135 ls []) := by
          intro vT_lifted x2 x3 x4 x5 H lo hP hD hS ls hev hl
          unfold f_Mo_inLine_J135 at hev
          obtain ⟨y3, ey3⟩ : ∃ y : Int32, y = x5 + (1 : Int32) := ⟨_, rfl⟩
          refine lv_iinc (v := y3) (lv' := [(5, .int y3), (0, .ref aT), (1, .int x1), (2, .int x2), (3, .int x3), (4, .int x4)]) hx hb dX11_inLine_135 hl (k := 5) rfl (by rw [ey3]; rfl) (by decide) rfl (fun ls hl => ?_)
          replace hev := x_lt hev y3 ey3
          refine lv_goto (tgt := 26) hx hb dX11_inLine_138 (by decide) ?_
          exact ih x2 x3 x4 y3 vT_lifted _ _ _ hev hex _ _ hP hD hS ls (lv_sub hl [1, 2, 3, 4, 5, 0] rfl)
        refine lv_iload hx hb dX11_inLine_26 (lv_at hl 5 rfl) ?_
        refine lv_aload_n hx hb dX11_inLine_28 rfl (lv_at hl 0 rfl) ?_
        refine va_get (D := G.1) (ci := 7) (v := .int vT_princeMany) (C := RX11) (T := TX11) (N := 34) hx hb hts i11 hown hK hP 0 rfl rfl 31 (by decide) (hw _ u1118) (fun _ h9 => h9) rfl dX11_inLine_29 ?_
        refine lv_icmp_ge (tgt := 141) hx hb dX11_inLine_32 (by decide) (fun c4 => ?_) (fun c4 => ?_)
        · replace hev := x_t c4 hev
          cases hev
          exact hex _ _ hP hD hS ls (lv_sub hl [1, 3, 4] rfl)
        · replace hev := x_f c4 hev
          have L35 : ∀ (x1 : Int32) (x5 : Int32), ∀ (k : Nat) (x2 : Int32) (x3 : Int32) (x4 : Int32) (vT_lifted : Int32) (o2 : Int32) (o3 : Int32) (o4 : Int32) (ovT_lifted : Int32), f_Mo_inLine_L35 vT_many vT_now vT_people vT_princeMany fT_princes fT_spells x1 x5 k x2 x3 x4 vT_lifted = some (o2, o3, o4, ovT_lifted) → (∀ (H : Heap) (lo : List Loc), va_P G.1 classes [(aT, .inr (7, [.ref aT_text, .int vT_length, .ref aT_read, .int vT_readMany, .int vT_people, .int vT_toldDay, .int vT_toldBroken, .ref aT_spells, .int vT_many, .int vT_now, .int vT_deeds, .ref aT_pasts, .int vT_pastMany, .ref aT_keptStates, .ref aT_keptDeeds, .ref aT_isKept, .int vT_at, .int vT_place, .int vT_end, .int vT_readPeople, .int vT_readSpells, .int ovT_lifted, .ref aT_fars, .ref aT_queue, .int vT_queued, .ref aT_later, .int vT_laterMany, .ref aT_onWay, .ref aT_row, .int vT_rowMany, .ref aT_princes, .int vT_princeMany, .ref aT_tries, .int vT_triedMany])), (aT_princes, .inl (G.2.1, 15, .inl fT_princes)), (aT_spells, .inl (G.2.1, 50, .inl fT_spells))] H → va_D A [(aT, .inr (7, [.ref aT_text, .int vT_length, .ref aT_read, .int vT_readMany, .int vT_people, .int vT_toldDay, .int vT_toldBroken, .ref aT_spells, .int vT_many, .int vT_now, .int vT_deeds, .ref aT_pasts, .int vT_pastMany, .ref aT_keptStates, .ref aT_keptDeeds, .ref aT_isKept, .int vT_at, .int vT_place, .int vT_end, .int vT_readPeople, .int vT_readSpells, .int ovT_lifted, .ref aT_fars, .ref aT_queue, .int vT_queued, .ref aT_later, .int vT_laterMany, .ref aT_onWay, .ref aT_row, .int vT_rowMany, .ref aT_princes, .int vT_princeMany, .ref aT_tries, .int vT_triedMany])), (aT_princes, .inl (G.2.1, 15, .inl fT_princes)), (aT_spells, .inl (G.2.1, 50, .inl fT_spells))] → va_S A s.heap H lo → ∀ (ls : Array Slot), lv_has ls 7 [(0, .ref aT), (1, .int x1), (2, .int o2), (3, .int o3), (4, .int o4), (5, .int x5)] → W p l e R s m ar below meth c H lo 0 0 Q (F0 m 79 ls [])) → ∀ (H : Heap) (lo : List Loc), va_P G.1 classes [(aT, .inr (7, [.ref aT_text, .int vT_length, .ref aT_read, .int vT_readMany, .int vT_people, .int vT_toldDay, .int vT_toldBroken, .ref aT_spells, .int vT_many, .int vT_now, .int vT_deeds, .ref aT_pasts, .int vT_pastMany, .ref aT_keptStates, .ref aT_keptDeeds, .ref aT_isKept, .int vT_at, .int vT_place, .int vT_end, .int vT_readPeople, .int vT_readSpells, .int vT_lifted, .ref aT_fars, .ref aT_queue, .int vT_queued, .ref aT_later, .int vT_laterMany, .ref aT_onWay, .ref aT_row, .int vT_rowMany, .ref aT_princes, .int vT_princeMany, .ref aT_tries, .int vT_triedMany])), (aT_princes, .inl (G.2.1, 15, .inl fT_princes)), (aT_spells, .inl (G.2.1, 50, .inl fT_spells))] H → va_D A [(aT, .inr (7, [.ref aT_text, .int vT_length, .ref aT_read, .int vT_readMany, .int vT_people, .int vT_toldDay, .int vT_toldBroken, .ref aT_spells, .int vT_many, .int vT_now, .int vT_deeds, .ref aT_pasts, .int vT_pastMany, .ref aT_keptStates, .ref aT_keptDeeds, .ref aT_isKept, .int vT_at, .int vT_place, .int vT_end, .int vT_readPeople, .int vT_readSpells, .int vT_lifted, .ref aT_fars, .ref aT_queue, .int vT_queued, .ref aT_later, .int vT_laterMany, .ref aT_onWay, .ref aT_row, .int vT_rowMany, .ref aT_princes, .int vT_princeMany, .ref aT_tries, .int vT_triedMany])), (aT_princes, .inl (G.2.1, 15, .inl fT_princes)), (aT_spells, .inl (G.2.1, 50, .inl fT_spells))] → va_S A s.heap H lo → ∀ (ls : Array Slot), lv_has ls 7 [(0, .ref aT), (1, .int x1), (2, .int x2), (3, .int x3), (4, .int x4), (5, .int x5)] → W p l e R s m ar below meth c H lo 0 0 Q (F0 m 35 ls []) := by
            intro x1 x5 k
            induction k with
            | zero => intro x2 x3 x4 vT_lifted o2 o3 o4 ovT_lifted hev; rw [f_Mo_inLine_L35] at hev; cases hev
            | succ k ih =>
              intro x2 x3 x4 vT_lifted o2 o3 o4 ovT_lifted hev hex H lo hP hD hS ls hl
              rw [f_Mo_inLine_L35] at hev
              refine lv_iload_n hx hb dX11_inLine_35 rfl (lv_at hl 2 rfl) ?_
              obtain ⟨y5, hq, hev⟩ := x_bd hev
              refine roS X (KK_at hKK hS hAb) hR (st1 := [.int y5]) (c_Mo_dayOf l G x2 y5 hq) K_X11_dayOf u1313 (x_Psub hP [] rfl) (by decide) ⟨Nat.zero_le _, Nat.zero_le _⟩ rfl hl.1 rfl (Nat.le_of_ble_eq_true rfl) rfl dX11_inLine_36 ?_
              refine lv_aload_n hx hb dX11_inLine_39 rfl (lv_at hl 0 rfl) ?_
              refine va_get (D := G.1) (ci := 7) (v := .ref aT_princes) (C := RX11) (T := TX11) (N := 34) hx hb hts i11 hown hK hP 0 rfl rfl 30 (by decide) (hw _ u1117) (fun _ h9 => h9) rfl dX11_inLine_40 ?_
              refine lv_iconst (v := (3 : Int32)) hx hb dX11_inLine_43 (by decide) ?_
              refine lv_iload hx hb dX11_inLine_44 (lv_at hl 5 rfl) ?_
              refine lv_imul hx hb dX11_inLine_46 ?_
              refine lv_iconst (v := (1 : Int32)) hx hb dX11_inLine_47 (by decide) ?_
              refine lv_iadd hx hb dX11_inLine_48 ?_
              refine lv_topi (fun y6 ey6 => ?_)
              replace hev := x_lt hev y6 ey6
              obtain ⟨h7, hev⟩ := x_ld hev
              refine va_iald hx hb hK hP 1 0 rfl rfl h7 dX11_inLine_49 ?_
              refine lv_topi (fun v8 ev8 => ?_)
              replace hev := hev v8 ev8
              refine lv_icmp_eq (tgt := 79) hx hb dX11_inLine_50 (by decide) (fun c9 => ?_) (fun c9 => ?_)
              · replace hev := x_t c9 hev
                cases hev
                exact hex _ _ hP hD hS ls (lv_sub hl [0, 1, 2, 3, 4, 5] rfl)
              · replace hev := x_f c9 hev
                refine lv_aload_n hx hb dX11_inLine_53 rfl (lv_at hl 0 rfl) ?_
                refine lv_iload_n hx hb dX11_inLine_54 rfl (lv_at hl 2 rfl) ?_
                refine lv_bipush (v := (21 : Int32)) hx hb dX11_inLine_55 (by decide) ?_
                obtain ⟨⟨y10, w11⟩, hq, hev⟩ := x_bd hev
                refine rgV X (KK_at hKK hS hAb) hR (st1 := [.int y10]) (ws2 := [(aT, .inr (7, [.ref aT_text, .int vT_length, .ref aT_read, .int vT_readMany, .int vT_people, .int vT_toldDay, .int vT_toldBroken, .ref aT_spells, .int vT_many, .int vT_now, .int vT_deeds, .ref aT_pasts, .int vT_pastMany, .ref aT_keptStates, .ref aT_keptDeeds, .ref aT_isKept, .int vT_at, .int vT_place, .int vT_end, .int vT_readPeople, .int vT_readSpells, .int w11, .ref aT_fars, .ref aT_queue, .int vT_queued, .ref aT_later, .int vT_laterMany, .ref aT_onWay, .ref aT_row, .int vT_rowMany, .ref aT_princes, .int vT_princeMany, .ref aT_tries, .int vT_triedMany])), (aT_princes, .inl (G.2.1, 15, .inl fT_princes)), (aT_spells, .inl (G.2.1, 50, .inl fT_spells))]) (c_Mo_behind l G aT aT_text aT_read aT_spells aT_pasts aT_keptStates aT_keptDeeds aT_isKept aT_fars aT_queue aT_later aT_onWay aT_row aT_princes aT_tries vT_length vT_readMany vT_people vT_toldDay vT_toldBroken vT_many vT_now vT_deeds vT_pastMany vT_at vT_place vT_end vT_readPeople vT_readSpells vT_lifted vT_queued vT_laterMany vT_rowMany vT_princeMany vT_triedMany fT_spells k x2 (21 : Int32) y10 w11 hq) K_X11_behind u1353 hP hD hS hA hAb [0, 2] rfl (sbC rfl (sbC rfl sb0)) (mgN 0 rfl rfl (mgK (by decide) (mgN 1 rfl rfl (mg0)))) rfl (q0 := 0) rfl (by decide) ⟨Nat.zero_le _, Nat.zero_le _⟩ rfl hl.1 rfl (Nat.le_of_ble_eq_true rfl) rfl dX11_inLine_57 (fun H lo hP hD hS => ?_)
                refine lv_istore_n (lv' := [(2, .int y10), (0, .ref aT), (1, .int x1), (3, .int x3), (4, .int x4), (5, .int x5)]) hx hb dX11_inLine_60 rfl hl (by decide) rfl (fun ls hl => ?_)
                refine lv_iload hx hb dX11_inLine_61 (lv_at hl 4 rfl) ?_
                refine lv_aload_n hx hb dX11_inLine_63 rfl (lv_at hl 1 rfl) ?_
                refine va_get (D := G.1) (ci := 7) (v := .int w11) (C := RX11) (T := TX11) (N := 34) hx hb hts i11 hown hK hP 0 rfl rfl 21 (by decide) (hw _ u1108) (fun _ h9 => h9) rfl dX11_inLine_64 ?_
                obtain ⟨y12, hq, hev⟩ := x_bd hev
                refine roS X (KK_at hKK hS hAb) hR (st1 := [.int y12, .int x4]) (c_Mo_bits l G k w11 y12 hq) K_X11_bits u1420 (x_Psub hP [] rfl) (by decide) ⟨Nat.zero_le _, Nat.zero_le _⟩ rfl hl.1 rfl (Nat.le_of_ble_eq_true rfl) rfl dX11_inLine_67 ?_
                refine lv_iadd hx hb dX11_inLine_70 ?_
                refine lv_topi (fun y13 ey13 => ?_)
                replace hev := x_lt hev y13 ey13
                refine lv_istore (lv' := [(4, .int y13), (2, .int y10), (0, .ref aT), (1, .int x1), (3, .int x3), (5, .int x5)]) hx hb dX11_inLine_71 hl (by decide) rfl (fun ls hl => ?_)
                obtain ⟨y14, ey14⟩ : ∃ y : Int32, y = x3 + (1 : Int32) := ⟨_, rfl⟩
                refine lv_iinc (v := y14) (lv' := [(3, .int y14), (4, .int y13), (2, .int y10), (0, .ref aT), (1, .int x1), (5, .int x5)]) hx hb dX11_inLine_73 hl (k := 4) rfl (by rw [ey14]; rfl) (by decide) rfl (fun ls hl => ?_)
                replace hev := x_lt hev y14 ey14
                refine lv_goto (tgt := 35) hx hb dX11_inLine_76 (by decide) ?_
                exact ih y10 y14 y13 w11 _ _ _ _ hev hex _ _ hP hD hS ls (lv_sub hl [3, 4, 2, 0, 1, 5] rfl)
          obtain ⟨⟨y15, y16, y17, w18⟩, hq, hev⟩ := x_bd hev
          refine L35 x1 x5 k x2 x3 x4 vT_lifted y15 y16 y17 w18 hq (fun H lo hP hD hS ls hl => ?_) _ _ hP hD hS ls (lv_sub hl [0, 1, 2, 3, 4, 5] rfl)
          refine lv_bipush (v := (7 : Int32)) hx hb dX11_inLine_79 (by decide) ?_
          refine lv_aload_n hx hb dX11_inLine_81 rfl (lv_at hl 0 rfl) ?_
          refine va_get (D := G.1) (ci := 7) (v := .ref aT_princes) (C := RX11) (T := TX11) (N := 34) hx hb hts i11 hown hK hP 0 rfl rfl 30 (by decide) (hw _ u1117) (fun _ h9 => h9) rfl dX11_inLine_82 ?_
          refine lv_iconst (v := (3 : Int32)) hx hb dX11_inLine_85 (by decide) ?_
          refine lv_iload hx hb dX11_inLine_86 (lv_at hl 5 rfl) ?_
          refine lv_imul hx hb dX11_inLine_88 ?_
          refine lv_topi (fun y19 ey19 => ?_)
          replace hev := x_lt hev y19 ey19
          obtain ⟨h20, hev⟩ := x_ld hev
          refine va_iald hx hb hK hP 1 0 rfl rfl h20 dX11_inLine_89 ?_
          refine lv_topi (fun v21 ev21 => ?_)
          replace hev := hev v21 ev21
          refine lv_imul hx hb dX11_inLine_90 ?_
          refine lv_aload_n hx hb dX11_inLine_91 rfl (lv_at hl 0 rfl) ?_
          refine va_get (D := G.1) (ci := 7) (v := .ref aT_princes) (C := RX11) (T := TX11) (N := 34) hx hb hts i11 hown hK hP 0 rfl rfl 30 (by decide) (hw _ u1117) (fun _ h9 => h9) rfl dX11_inLine_92 ?_
          refine lv_iconst (v := (3 : Int32)) hx hb dX11_inLine_95 (by decide) ?_
          refine lv_iload hx hb dX11_inLine_96 (lv_at hl 5 rfl) ?_
          refine lv_imul hx hb dX11_inLine_98 ?_
          refine lv_iconst (v := (2 : Int32)) hx hb dX11_inLine_99 (by decide) ?_
          refine lv_iadd hx hb dX11_inLine_100 ?_
          refine lv_topi (fun y22 ey22 => ?_)
          replace hev := x_lt hev y22 ey22
          obtain ⟨h23, hev⟩ := x_ld hev
          refine va_iald hx hb hK hP 1 0 rfl rfl h23 dX11_inLine_101 ?_
          refine lv_topi (fun v24 ev24 => ?_)
          replace hev := hev v24 ev24
          refine lv_iadd hx hb dX11_inLine_102 ?_
          refine lv_topi (fun y25 ey25 => ?_)
          replace hev := x_lt hev y25 ey25
          refine lv_istore (lv' := [(6, .int y25), (0, .ref aT), (1, .int x1), (2, .int y15), (3, .int y16), (4, .int y17), (5, .int x5)]) hx hb dX11_inLine_103 hl (by decide) rfl (fun ls hl => ?_)
          refine lv_aload_n hx hb dX11_inLine_105 rfl (lv_at hl 1 rfl) ?_
          refine lv_iload_n hx hb dX11_inLine_106 rfl (lv_at hl 3 rfl) ?_
          refine lv_iload hx hb dX11_inLine_107 (lv_at hl 0 rfl) ?_
          obtain ⟨y26, hq, hev⟩ := x_bd hev
          refine roV X (KK_at hKK hS hAb) hR (st1 := [.int y26]) (c_Mo_canDo l G aT aT_text aT_read aT_spells aT_pasts aT_keptStates aT_keptDeeds aT_isKept aT_fars aT_queue aT_later aT_onWay aT_row aT_princes aT_tries vT_length vT_readMany vT_people vT_toldDay vT_toldBroken vT_many vT_now vT_deeds vT_pastMany vT_at vT_place vT_end vT_readPeople vT_readSpells w18 vT_queued vT_laterMany vT_rowMany vT_princeMany vT_triedMany fT_spells k y15 y25 y26 hq) K_X11_canDo u1345 (x_Psub hP [0, 2] rfl) rfl (q0 := 0) rfl (by decide) ⟨Nat.zero_le _, Nat.zero_le _⟩ rfl hl.1 rfl (Nat.le_of_ble_eq_true rfl) rfl dX11_inLine_109 ?_
          refine lv_if_eq (tgt := 135) hx hb dX11_inLine_112 (by decide) (fun c27 => ?_) (fun c27 => ?_)
          · replace hev := x_t c27 hev
            exact J135 w18 y15 y16 y17 x5 _ _ hP hD hS ls hev (lv_sub hl [1, 2, 3, 4, 5, 6] rfl)
          · replace hev := x_f c27 hev
            refine lv_aload_n hx hb dX11_inLine_115 rfl (lv_at hl 1 rfl) ?_
            refine lv_iload_n hx hb dX11_inLine_116 rfl (lv_at hl 3 rfl) ?_
            refine lv_iload hx hb dX11_inLine_117 (lv_at hl 0 rfl) ?_
            obtain ⟨⟨y28, w29⟩, hq, hev⟩ := x_bd hev
            refine rgV X (KK_at hKK hS hAb) hR (st1 := [.int y28]) (ws2 := [(aT, .inr (7, [.ref aT_text, .int vT_length, .ref aT_read, .int vT_readMany, .int vT_people, .int vT_toldDay, .int vT_toldBroken, .ref aT_spells, .int vT_many, .int vT_now, .int vT_deeds, .ref aT_pasts, .int vT_pastMany, .ref aT_keptStates, .ref aT_keptDeeds, .ref aT_isKept, .int vT_at, .int vT_place, .int vT_end, .int vT_readPeople, .int vT_readSpells, .int w29, .ref aT_fars, .ref aT_queue, .int vT_queued, .ref aT_later, .int vT_laterMany, .ref aT_onWay, .ref aT_row, .int vT_rowMany, .ref aT_princes, .int vT_princeMany, .ref aT_tries, .int vT_triedMany])), (aT_princes, .inl (G.2.1, 15, .inl fT_princes)), (aT_spells, .inl (G.2.1, 50, .inl fT_spells))]) (c_Mo_behind l G aT aT_text aT_read aT_spells aT_pasts aT_keptStates aT_keptDeeds aT_isKept aT_fars aT_queue aT_later aT_onWay aT_row aT_princes aT_tries vT_length vT_readMany vT_people vT_toldDay vT_toldBroken vT_many vT_now vT_deeds vT_pastMany vT_at vT_place vT_end vT_readPeople vT_readSpells w18 vT_queued vT_laterMany vT_rowMany vT_princeMany vT_triedMany fT_spells k y15 y25 y28 w29 hq) K_X11_behind u1353 hP hD hS hA hAb [0, 2] rfl (sbC rfl (sbC rfl sb0)) (mgN 0 rfl rfl (mgK (by decide) (mgN 1 rfl rfl (mg0)))) rfl (q0 := 0) rfl (by decide) ⟨Nat.zero_le _, Nat.zero_le _⟩ rfl hl.1 rfl (Nat.le_of_ble_eq_true rfl) rfl dX11_inLine_119 (fun H lo hP hD hS => ?_)
            refine lv_istore_n (lv' := [(2, .int y28), (6, .int y25), (0, .ref aT), (1, .int x1), (3, .int y16), (4, .int y17), (5, .int x5)]) hx hb dX11_inLine_122 rfl hl (by decide) rfl (fun ls hl => ?_)
            refine lv_iload hx hb dX11_inLine_123 (lv_at hl 5 rfl) ?_
            refine lv_aload_n hx hb dX11_inLine_125 rfl (lv_at hl 2 rfl) ?_
            refine va_get (D := G.1) (ci := 7) (v := .int w29) (C := RX11) (T := TX11) (N := 34) hx hb hts i11 hown hK hP 0 rfl rfl 21 (by decide) (hw _ u1108) (fun _ h9 => h9) rfl dX11_inLine_126 ?_
            obtain ⟨y30, hq, hev⟩ := x_bd hev
            refine roS X (KK_at hKK hS hAb) hR (st1 := [.int y30, .int y17]) (c_Mo_bits l G k w29 y30 hq) K_X11_bits u1420 (x_Psub hP [] rfl) (by decide) ⟨Nat.zero_le _, Nat.zero_le _⟩ rfl hl.1 rfl (Nat.le_of_ble_eq_true rfl) rfl dX11_inLine_129 ?_
            refine lv_iadd hx hb dX11_inLine_132 ?_
            refine lv_topi (fun y31 ey31 => ?_)
            replace hev := x_lt hev y31 ey31
            refine lv_istore (lv' := [(4, .int y31), (2, .int y28), (6, .int y25), (0, .ref aT), (1, .int x1), (3, .int y16), (5, .int x5)]) hx hb dX11_inLine_133 hl (by decide) rfl (fun ls hl => ?_)
            exact J135 w29 y28 y16 y31 x5 _ _ hP hD hS ls hev (lv_sub hl [3, 4, 1, 5, 0, 6] rfl)
    obtain ⟨⟨y32, y33, w34⟩, hq, hev⟩ := x_bd hev
    refine L26 p1 k vT_now (0 : Int32) (0 : Int32) (0 : Int32) vT_lifted y32 y33 w34 hq (fun H lo hP hD hS ls hl => ?_) _ _ hP hD hS ls (lv_sub hl [4, 5, 3, 2, 1, 0] rfl)
    refine lv_iload_n hx hb dX11_inLine_141 rfl (lv_at hl 0 rfl) ?_
    refine lv_if_ne (tgt := 150) hx hb dX11_inLine_142 (by decide) (fun c35 => ?_) (fun c35 => ?_)
    · replace hev := x_f c35 hev
      refine lv_iload_n hx hb dX11_inLine_150 rfl (lv_at hl 1 rfl) ?_
      exact ret2 _ _ _ _ y32 y32 w34 (Option.some.inj hev) dX11_inLine_151 (show narrow _ (.int y32) = .int y32 from rfl) hP hD hS
    · replace hev := x_t c35 hev
      refine lv_iload hx hb dX11_inLine_145 (lv_at hl 2 rfl) ?_
      refine lv_goto (tgt := 151) hx hb dX11_inLine_147 (by decide) ?_
      exact ret2 _ _ _ _ y33 y33 w34 (Option.some.inj hev) dX11_inLine_151 (show narrow _ (.int y33) = .int y33 from rfl) hP hD hS
  · replace hev := x_t c2 hev
    refine lv_bipush (v := (-3 : Int32)) hx hb dX11_inLine_10 (by decide) ?_
    exact ret2 _ _ _ _ (-3 : Int32) (-3 : Int32) vT_lifted (Option.some.inj hev) dX11_inLine_12 (show narrow _ (.int (-3 : Int32)) = .int (-3 : Int32) from rfl) hP hD hS
def f_Mo_tried_J13 (vT_people : Int32) (vT_triedMany : Int32) (fT_tries : Nat → Int32) (x1 : Int32) (x2 : Int32) (x3 : Int32) (x4 : Int32) (x5 : Int32) : Option (Int32 × Int32 × (Nat → Int32)) := x_B (f_Mo_in ((x2).toInt64) (0 : Int64) (((((1 : Int32) <<< (vT_people &&& 31)) - (1 : Int32))).toInt64)) (fun y1 => if y1 = 0 then (some ((-2 : Int32), vT_triedMany, fT_tries)) else x_B (f_Mo_in ((x4).toInt64) (0 : Int64) (3 : Int64)) (fun y3 => if y3 = 0 then (some ((-2 : Int32), vT_triedMany, fT_tries)) else x_B (f_Mo_in ((x3).toInt64) (0 : Int64) (6 : Int64)) (fun y5 => if y5 = 0 then (some ((-3 : Int32), vT_triedMany, fT_tries)) else x_B (f_Mo_in ((x5).toInt64) (0 : Int64) (1 : Int64)) (fun y7 => if y7 = 0 then (some ((-3 : Int32), vT_triedMany, fT_tries)) else if vT_triedMany = (8 : Int32) then (some ((-5 : Int32), vT_triedMany, fT_tries)) else x_L (((5 : Int32) * vT_triedMany)) (fun y10 => x_C 40 y10 (x_C 40 (y10 + (1 : Int32)) (x_C 40 (y10 + (2 : Int32)) (x_C 40 (y10 + (3 : Int32)) (x_C 40 (y10 + (4 : Int32)) (x_L ((vT_triedMany + (1 : Int32))) (fun y16 => some (y16, y16, (upd (upd (upd (upd (upd fT_tries (y10).toNatClampNeg x1) ((y10 + (1 : Int32))).toNatClampNeg x2) ((y10 + (2 : Int32))).toNatClampNeg x3) ((y10 + (3 : Int32))).toNatClampNeg x4) ((y10 + (4 : Int32))).toNatClampNeg x5)))))))))))))
def f_Mo_tried (vT_people : Int32) (vT_triedMany : Int32) (fT_tries : Nat → Int32) (p1 : Int32) (p2 : Int32) (p3 : Int32) (p4 : Int32) (p5 : Int32) : Option (Int32 × Int32 × (Nat → Int32)) := if p1 = (-1 : Int32) then (f_Mo_tried_J13 vT_people vT_triedMany fT_tries p1 p2 p3 p4 p5) else x_B (f_Mo_isPerson vT_people p1) (fun y18 => if y18 = 0 then (some ((-2 : Int32), vT_triedMany, fT_tries)) else f_Mo_tried_J13 vT_people vT_triedMany fT_tries p1 p2 p3 p4 p5)
set_option maxHeartbeats 8000000 in
set_option maxRecDepth 100000 in
theorem c_Mo_tried (l : Launch) (G : GG) (aT aT_text aT_read aT_spells aT_pasts aT_keptStates aT_keptDeeds aT_isKept aT_fars aT_queue aT_later aT_onWay aT_row aT_princes aT_tries : Nat) (vT_length : Int32) (vT_readMany : Int32) (vT_people : Int32) (vT_toldDay : Int32) (vT_toldBroken : Int32) (vT_many : Int32) (vT_now : Int32) (vT_deeds : Int32) (vT_pastMany : Int32) (vT_at : Int32) (vT_place : Int32) (vT_end : Int32) (vT_readPeople : Int32) (vT_readSpells : Int32) (vT_lifted : Int32) (vT_queued : Int32) (vT_laterMany : Int32) (vT_rowMany : Int32) (vT_princeMany : Int32) (vT_triedMany : Int32) (fT_tries : Nat → Int32) (p1 : Int32) (p2 : Int32) (p3 : Int32) (p4 : Int32) (p5 : Int32) (r0 : Int32) (wvT_triedMany : Int32) (wfT_tries : Nat → Int32) (hev : f_Mo_tried vT_people vT_triedMany fT_tries p1 p2 p3 p4 p5 = some (r0, wvT_triedMany, wfT_tries)) : RW l G yX11_tried cX11_tried 7 (some .int) 2 [.ref aT, .int p1, .int p2, .int p3, .int p4, .int p5] [(aT, .inr (7, [.ref aT_text, .int vT_length, .ref aT_read, .int vT_readMany, .int vT_people, .int vT_toldDay, .int vT_toldBroken, .ref aT_spells, .int vT_many, .int vT_now, .int vT_deeds, .ref aT_pasts, .int vT_pastMany, .ref aT_keptStates, .ref aT_keptDeeds, .ref aT_isKept, .int vT_at, .int vT_place, .int vT_end, .int vT_readPeople, .int vT_readSpells, .int vT_lifted, .ref aT_fars, .ref aT_queue, .int vT_queued, .ref aT_later, .int vT_laterMany, .ref aT_onWay, .ref aT_row, .int vT_rowMany, .ref aT_princes, .int vT_princeMany, .ref aT_tries, .int vT_triedMany])), (aT_tries, .inl (G.2.1, 40, .inl fT_tries))] (some (.int r0)) [(aT, .inr (7, [.ref aT_text, .int vT_length, .ref aT_read, .int vT_readMany, .int vT_people, .int vT_toldDay, .int vT_toldBroken, .ref aT_spells, .int vT_many, .int vT_now, .int vT_deeds, .ref aT_pasts, .int vT_pastMany, .ref aT_keptStates, .ref aT_keptDeeds, .ref aT_isKept, .int vT_at, .int vT_place, .int vT_end, .int vT_readPeople, .int vT_readSpells, .int vT_lifted, .ref aT_fars, .ref aT_queue, .int vT_queued, .ref aT_later, .int vT_laterMany, .ref aT_onWay, .ref aT_row, .int vT_rowMany, .ref aT_princes, .int vT_princeMany, .ref aT_tries, .int wvT_triedMany])), (aT_tries, .inl (G.2.1, 40, .inl wfT_tries))] 0 0 := by
  refine RW_of (by decide) (Nat.le_of_ble_eq_true rfl) ?_
  intro p e s m ar below meth c R Q A ls X hR hRc hin hP hKK hD hS hA hAb hl ret
  obtain ⟨rs, hrs⟩ : ∃ q, q = (r0, wvT_triedMany, wfT_tries) := ⟨_, rfl⟩
  rw [← hrs] at hev
  have ret2 : ∀ (pc : Nat) (ls : Array Slot) (H : Heap) (lo : List Loc) (v r1 : Int32) (zvT_triedMany : Int32) (zfT_tries : Nat → Int32), (r1, zvT_triedMany, zfT_tries) = rs → decode cX11_tried pc = .ok (.ireturn, 1) → narrow .int (.int v) = .int r1 → va_P G.1 classes [(aT, .inr (7, [.ref aT_text, .int vT_length, .ref aT_read, .int vT_readMany, .int vT_people, .int vT_toldDay, .int vT_toldBroken, .ref aT_spells, .int vT_many, .int vT_now, .int vT_deeds, .ref aT_pasts, .int vT_pastMany, .ref aT_keptStates, .ref aT_keptDeeds, .ref aT_isKept, .int vT_at, .int vT_place, .int vT_end, .int vT_readPeople, .int vT_readSpells, .int vT_lifted, .ref aT_fars, .ref aT_queue, .int vT_queued, .ref aT_later, .int vT_laterMany, .ref aT_onWay, .ref aT_row, .int vT_rowMany, .ref aT_princes, .int vT_princeMany, .ref aT_tries, .int zvT_triedMany])), (aT_tries, .inl (G.2.1, 40, .inl zfT_tries))] H → va_D A [(aT, .inr (7, [.ref aT_text, .int vT_length, .ref aT_read, .int vT_readMany, .int vT_people, .int vT_toldDay, .int vT_toldBroken, .ref aT_spells, .int vT_many, .int vT_now, .int vT_deeds, .ref aT_pasts, .int vT_pastMany, .ref aT_keptStates, .ref aT_keptDeeds, .ref aT_isKept, .int vT_at, .int vT_place, .int vT_end, .int vT_readPeople, .int vT_readSpells, .int vT_lifted, .ref aT_fars, .ref aT_queue, .int vT_queued, .ref aT_later, .int vT_laterMany, .ref aT_onWay, .ref aT_row, .int vT_rowMany, .ref aT_princes, .int vT_princeMany, .ref aT_tries, .int zvT_triedMany])), (aT_tries, .inl (G.2.1, 40, .inl zfT_tries))] → va_S A s.heap H lo → W p l e R s m ar below meth c H lo 0 0 Q (F0 m pc ls [.int v]) := by
    intro pc ls H lo v r1 zvT_triedMany zfT_tries he hd hn h1 h2 h3
    have he := he.trans hrs
    cases he
    exact ret.1 _ _ _ _ _ _ _ rfl rfl hd hn h1 h2 h3
  clear ret hrs
  have hl : lv_has ls 7 [(0, .ref aT), (1, .int p1), (2, .int p2), (3, .int p3), (4, .int p4), (5, .int p5)] := hl
  obtain ⟨hx, hb, hml, hown, hts, hT⟩ := id X
  have hK := hKK.1
  have hw : ∀ w ∈ T0, w.before ar s = true := fun w h => hts w (hT w h)
  have i11 := fun w h => hT w (inT11 w h)
  have J13 : ∀ (vT_triedMany : Int32) (fT_tries : Nat → Int32) (x1 : Int32) (x2 : Int32) (x3 : Int32) (x4 : Int32) (x5 : Int32), ∀ (H : Heap) (lo : List Loc), va_P G.1 classes [(aT, .inr (7, [.ref aT_text, .int vT_length, .ref aT_read, .int vT_readMany, .int vT_people, .int vT_toldDay, .int vT_toldBroken, .ref aT_spells, .int vT_many, .int vT_now, .int vT_deeds, .ref aT_pasts, .int vT_pastMany, .ref aT_keptStates, .ref aT_keptDeeds, .ref aT_isKept, .int vT_at, .int vT_place, .int vT_end, .int vT_readPeople, .int vT_readSpells, .int vT_lifted, .ref aT_fars, .ref aT_queue, .int vT_queued, .ref aT_later, .int vT_laterMany, .ref aT_onWay, .ref aT_row, .int vT_rowMany, .ref aT_princes, .int vT_princeMany, .ref aT_tries, .int vT_triedMany])), (aT_tries, .inl (G.2.1, 40, .inl fT_tries))] H → va_D A [(aT, .inr (7, [.ref aT_text, .int vT_length, .ref aT_read, .int vT_readMany, .int vT_people, .int vT_toldDay, .int vT_toldBroken, .ref aT_spells, .int vT_many, .int vT_now, .int vT_deeds, .ref aT_pasts, .int vT_pastMany, .ref aT_keptStates, .ref aT_keptDeeds, .ref aT_isKept, .int vT_at, .int vT_place, .int vT_end, .int vT_readPeople, .int vT_readSpells, .int vT_lifted, .ref aT_fars, .ref aT_queue, .int vT_queued, .ref aT_later, .int vT_laterMany, .ref aT_onWay, .ref aT_row, .int vT_rowMany, .ref aT_princes, .int vT_princeMany, .ref aT_tries, .int vT_triedMany])), (aT_tries, .inl (G.2.1, 40, .inl fT_tries))] → va_S A s.heap H lo → ∀ (ls : Array Slot), f_Mo_tried_J13 vT_people vT_triedMany fT_tries x1 x2 x3 x4 x5 = some rs → lv_has ls 7 [(0, .ref aT), (1, .int x1), (2, .int x2), (3, .int x3), (4, .int x4), (5, .int x5)] → W p l e R s m ar below meth c H lo 0 0 Q (F0 m 13 ls []) := by
    intro vT_triedMany fT_tries x1 x2 x3 x4 x5 H lo hP hD hS ls hev hl
    unfold f_Mo_tried_J13 at hev
    refine lv_iload_n hx hb dX11_tried_13 rfl (lv_at hl 2 rfl) ?_
    refine lv_i2l hx hb dX11_tried_14 rfl ?_
    refine lv_lconst (v := (0 : Int64)) hx hb dX11_tried_15 (by decide) ?_
    refine lv_iconst (v := (1 : Int32)) hx hb dX11_tried_16 (by decide) ?_
    refine lv_aload_n hx hb dX11_tried_17 rfl (lv_at hl 0 rfl) ?_
    refine va_get (D := G.1) (ci := 7) (v := .int vT_people) (C := RX11) (T := TX11) (N := 34) hx hb hts i11 hown hK hP 0 rfl rfl 4 (by decide) (hw _ u1091) (fun _ h9 => h9) rfl dX11_tried_18 ?_
    refine lv_ishl hx hb dX11_tried_21 ?_
    refine lv_iconst (v := (1 : Int32)) hx hb dX11_tried_22 (by decide) ?_
    refine lv_isub hx hb dX11_tried_23 ?_
    refine lv_i2l hx hb dX11_tried_24 rfl ?_
    obtain ⟨y1, hq, hev⟩ := x_bd hev
    refine roS X (KK_at hKK hS hAb) hR (st1 := [.int y1]) (c_Mo_in l G ((x2).toInt64) (0 : Int64) (((((1 : Int32) <<< (vT_people &&& 31)) - (1 : Int32))).toInt64) y1 hq) K_X11_in u1196 (x_Psub hP [] rfl) (by decide) ⟨Nat.zero_le _, Nat.zero_le _⟩ rfl hl.1 rfl (Nat.le_of_ble_eq_true rfl) rfl dX11_tried_25 ?_
    refine lv_if_eq (tgt := 44) hx hb dX11_tried_28 (by decide) (fun c2 => ?_) (fun c2 => ?_)
    · replace hev := x_t c2 hev
      refine lv_bipush (v := (-2 : Int32)) hx hb dX11_tried_44 (by decide) ?_
      exact ret2 _ _ _ _ (-2 : Int32) (-2 : Int32) vT_triedMany fT_tries (Option.some.inj hev) dX11_tried_46 (show narrow _ (.int (-2 : Int32)) = .int (-2 : Int32) from rfl) hP hD hS
    · replace hev := x_f c2 hev
      refine lv_iload hx hb dX11_tried_31 (lv_at hl 4 rfl) ?_
      refine lv_i2l hx hb dX11_tried_33 rfl ?_
      refine lv_lconst (v := (0 : Int64)) hx hb dX11_tried_34 (by decide) ?_
      refine lv_ldc2 (v := (3 : Int64)) hx hb hown (hw _ u1335) dX11_tried_35 ?_
      obtain ⟨y3, hq, hev⟩ := x_bd hev
      refine roS X (KK_at hKK hS hAb) hR (st1 := [.int y3]) (c_Mo_in l G ((x4).toInt64) (0 : Int64) (3 : Int64) y3 hq) K_X11_in u1196 (x_Psub hP [] rfl) (by decide) ⟨Nat.zero_le _, Nat.zero_le _⟩ rfl hl.1 rfl (Nat.le_of_ble_eq_true rfl) rfl dX11_tried_38 ?_
      refine lv_if_ne (tgt := 47) hx hb dX11_tried_41 (by decide) (fun c4 => ?_) (fun c4 => ?_)
      · replace hev := x_f c4 hev
        refine lv_iload_n hx hb dX11_tried_47 rfl (lv_at hl 3 rfl) ?_
        refine lv_i2l hx hb dX11_tried_48 rfl ?_
        refine lv_lconst (v := (0 : Int64)) hx hb dX11_tried_49 (by decide) ?_
        refine lv_ldc2 (v := (6 : Int64)) hx hb hown (hw _ u1336) dX11_tried_50 ?_
        obtain ⟨y5, hq, hev⟩ := x_bd hev
        refine roS X (KK_at hKK hS hAb) hR (st1 := [.int y5]) (c_Mo_in l G ((x3).toInt64) (0 : Int64) (6 : Int64) y5 hq) K_X11_in u1196 (x_Psub hP [] rfl) (by decide) ⟨Nat.zero_le _, Nat.zero_le _⟩ rfl hl.1 rfl (Nat.le_of_ble_eq_true rfl) rfl dX11_tried_53 ?_
        refine lv_if_eq (tgt := 70) hx hb dX11_tried_56 (by decide) (fun c6 => ?_) (fun c6 => ?_)
        · replace hev := x_t c6 hev
          refine lv_bipush (v := (-3 : Int32)) hx hb dX11_tried_70 (by decide) ?_
          exact ret2 _ _ _ _ (-3 : Int32) (-3 : Int32) vT_triedMany fT_tries (Option.some.inj hev) dX11_tried_72 (show narrow _ (.int (-3 : Int32)) = .int (-3 : Int32) from rfl) hP hD hS
        · replace hev := x_f c6 hev
          refine lv_iload hx hb dX11_tried_59 (lv_at hl 5 rfl) ?_
          refine lv_i2l hx hb dX11_tried_61 rfl ?_
          refine lv_lconst (v := (0 : Int64)) hx hb dX11_tried_62 (by decide) ?_
          refine lv_lconst (v := (1 : Int64)) hx hb dX11_tried_63 (by decide) ?_
          obtain ⟨y7, hq, hev⟩ := x_bd hev
          refine roS X (KK_at hKK hS hAb) hR (st1 := [.int y7]) (c_Mo_in l G ((x5).toInt64) (0 : Int64) (1 : Int64) y7 hq) K_X11_in u1196 (x_Psub hP [] rfl) (by decide) ⟨Nat.zero_le _, Nat.zero_le _⟩ rfl hl.1 rfl (Nat.le_of_ble_eq_true rfl) rfl dX11_tried_64 ?_
          refine lv_if_ne (tgt := 73) hx hb dX11_tried_67 (by decide) (fun c8 => ?_) (fun c8 => ?_)
          · replace hev := x_f c8 hev
            refine lv_aload_n hx hb dX11_tried_73 rfl (lv_at hl 0 rfl) ?_
            refine va_get (D := G.1) (ci := 7) (v := .int vT_triedMany) (C := RX11) (T := TX11) (N := 34) hx hb hts i11 hown hK hP 0 rfl rfl 33 (by decide) (hw _ u1120) (fun _ h9 => h9) rfl dX11_tried_74 ?_
            refine lv_bipush (v := (8 : Int32)) hx hb dX11_tried_77 (by decide) ?_
            refine lv_icmp_ne (tgt := 85) hx hb dX11_tried_79 (by decide) (fun c9 => ?_) (fun c9 => ?_)
            · replace hev := x_f c9 hev
              refine lv_iconst (v := (5 : Int32)) hx hb dX11_tried_85 (by decide) ?_
              refine lv_aload_n hx hb dX11_tried_86 rfl (lv_at hl 0 rfl) ?_
              refine va_get (D := G.1) (ci := 7) (v := .int vT_triedMany) (C := RX11) (T := TX11) (N := 34) hx hb hts i11 hown hK hP 0 rfl rfl 33 (by decide) (hw _ u1120) (fun _ h9 => h9) rfl dX11_tried_87 ?_
              refine lv_imul hx hb dX11_tried_90 ?_
              refine lv_topi (fun y10 ey10 => ?_)
              replace hev := x_lt hev y10 ey10
              refine lv_istore (lv' := [(6, .int y10), (0, .ref aT), (1, .int x1), (2, .int x2), (3, .int x3), (4, .int x4), (5, .int x5)]) hx hb dX11_tried_91 hl (by decide) rfl (fun ls hl => ?_)
              refine lv_aload_n hx hb dX11_tried_93 rfl (lv_at hl 1 rfl) ?_
              refine va_get (D := G.1) (ci := 7) (v := .ref aT_tries) (C := RX11) (T := TX11) (N := 34) hx hb hts i11 hown hK hP 0 rfl rfl 32 (by decide) (hw _ u1119) (fun _ h9 => h9) rfl dX11_tried_94 ?_
              refine lv_iload hx hb dX11_tried_97 (lv_at hl 0 rfl) ?_
              refine lv_iload_n hx hb dX11_tried_99 rfl (lv_at hl 2 rfl) ?_
              obtain ⟨h11, hev⟩ := x_ck hev
              refine va_iast hx hb hK hP hD hS 1 0 rfl rfl h11 dX11_tried_100 (fun H lo hP hD hS => ?_)
              refine lv_aload_n hx hb dX11_tried_101 rfl (lv_at hl 1 rfl) ?_
              refine va_get (D := G.1) (ci := 7) (v := .ref aT_tries) (C := RX11) (T := TX11) (N := 34) hx hb hts i11 hown hK hP 0 rfl rfl 32 (by decide) (hw _ u1119) (fun _ h9 => h9) rfl dX11_tried_102 ?_
              refine lv_iload hx hb dX11_tried_105 (lv_at hl 0 rfl) ?_
              refine lv_iconst (v := (1 : Int32)) hx hb dX11_tried_107 (by decide) ?_
              refine lv_iadd hx hb dX11_tried_108 ?_
              refine lv_iload_n hx hb dX11_tried_109 rfl (lv_at hl 3 rfl) ?_
              obtain ⟨h12, hev⟩ := x_ck hev
              refine va_iast hx hb hK hP hD hS 1 0 rfl rfl h12 dX11_tried_110 (fun H lo hP hD hS => ?_)
              refine lv_aload_n hx hb dX11_tried_111 rfl (lv_at hl 1 rfl) ?_
              refine va_get (D := G.1) (ci := 7) (v := .ref aT_tries) (C := RX11) (T := TX11) (N := 34) hx hb hts i11 hown hK hP 0 rfl rfl 32 (by decide) (hw _ u1119) (fun _ h9 => h9) rfl dX11_tried_112 ?_
              refine lv_iload hx hb dX11_tried_115 (lv_at hl 0 rfl) ?_
              refine lv_iconst (v := (2 : Int32)) hx hb dX11_tried_117 (by decide) ?_
              refine lv_iadd hx hb dX11_tried_118 ?_
              refine lv_iload_n hx hb dX11_tried_119 rfl (lv_at hl 4 rfl) ?_
              obtain ⟨h13, hev⟩ := x_ck hev
              refine va_iast hx hb hK hP hD hS 1 0 rfl rfl h13 dX11_tried_120 (fun H lo hP hD hS => ?_)
              refine lv_aload_n hx hb dX11_tried_121 rfl (lv_at hl 1 rfl) ?_
              refine va_get (D := G.1) (ci := 7) (v := .ref aT_tries) (C := RX11) (T := TX11) (N := 34) hx hb hts i11 hown hK hP 0 rfl rfl 32 (by decide) (hw _ u1119) (fun _ h9 => h9) rfl dX11_tried_122 ?_
              refine lv_iload hx hb dX11_tried_125 (lv_at hl 0 rfl) ?_
              refine lv_iconst (v := (3 : Int32)) hx hb dX11_tried_127 (by decide) ?_
              refine lv_iadd hx hb dX11_tried_128 ?_
              refine lv_iload hx hb dX11_tried_129 (lv_at hl 5 rfl) ?_
              obtain ⟨h14, hev⟩ := x_ck hev
              refine va_iast hx hb hK hP hD hS 1 0 rfl rfl h14 dX11_tried_131 (fun H lo hP hD hS => ?_)
              refine lv_aload_n hx hb dX11_tried_132 rfl (lv_at hl 1 rfl) ?_
              refine va_get (D := G.1) (ci := 7) (v := .ref aT_tries) (C := RX11) (T := TX11) (N := 34) hx hb hts i11 hown hK hP 0 rfl rfl 32 (by decide) (hw _ u1119) (fun _ h9 => h9) rfl dX11_tried_133 ?_
              refine lv_iload hx hb dX11_tried_136 (lv_at hl 0 rfl) ?_
              refine lv_iconst (v := (4 : Int32)) hx hb dX11_tried_138 (by decide) ?_
              refine lv_iadd hx hb dX11_tried_139 ?_
              refine lv_iload hx hb dX11_tried_140 (lv_at hl 6 rfl) ?_
              obtain ⟨h15, hev⟩ := x_ck hev
              refine va_iast hx hb hK hP hD hS 1 0 rfl rfl h15 dX11_tried_142 (fun H lo hP hD hS => ?_)
              refine lv_aload_n hx hb dX11_tried_143 rfl (lv_at hl 1 rfl) ?_
              refine lv_dup hx hb dX11_tried_144 rfl ?_
              refine va_get (D := G.1) (ci := 7) (v := .int vT_triedMany) (C := RX11) (T := TX11) (N := 34) hx hb hts i11 hown hK hP 0 rfl rfl 33 (by decide) (hw _ u1120) (fun _ h9 => h9) rfl dX11_tried_145 ?_
              refine lv_iconst (v := (1 : Int32)) hx hb dX11_tried_148 (by decide) ?_
              refine lv_iadd hx hb dX11_tried_149 ?_
              refine lv_topi (fun y16 ey16 => ?_)
              replace hev := x_lt hev y16 ey16
              refine va_put (D := G.1) (ci := 7) (v := .int y16) (ty := .int) (C := RX11) (T := TX11) (N := 34) hx hb hts i11 tyX11 tyX11_ok nmX11 hown hK hP hD hS 0 rfl rfl 33 (by decide) (hw _ u1120) (fun _ h9 => h9) rfl (by decide +kernel) rfl rfl (Nat.le_of_ble_eq_true rfl) dX11_tried_150 (fun H lo hP hD hS => ?_)
              refine lv_aload_n hx hb dX11_tried_153 rfl (lv_at hl 1 rfl) ?_
              refine va_get (D := G.1) (ci := 7) (v := .int y16) (C := RX11) (T := TX11) (N := 34) hx hb hts i11 hown hK hP 0 rfl rfl 33 (by decide) (hw _ u1120) (fun _ h9 => h9) rfl dX11_tried_154 ?_
              exact ret2 _ _ _ _ y16 y16 y16 (upd (upd (upd (upd (upd fT_tries (y10).toNatClampNeg x1) ((y10 + (1 : Int32))).toNatClampNeg x2) ((y10 + (2 : Int32))).toNatClampNeg x3) ((y10 + (3 : Int32))).toNatClampNeg x4) ((y10 + (4 : Int32))).toNatClampNeg x5) (Option.some.inj hev) dX11_tried_157 (show narrow _ (.int y16) = .int y16 from rfl) hP hD hS
            · replace hev := x_t c9 hev
              refine lv_bipush (v := (-5 : Int32)) hx hb dX11_tried_82 (by decide) ?_
              exact ret2 _ _ _ _ (-5 : Int32) (-5 : Int32) vT_triedMany fT_tries (Option.some.inj hev) dX11_tried_84 (show narrow _ (.int (-5 : Int32)) = .int (-5 : Int32) from rfl) hP hD hS
          · replace hev := x_t c8 hev
            refine lv_bipush (v := (-3 : Int32)) hx hb dX11_tried_70 (by decide) ?_
            exact ret2 _ _ _ _ (-3 : Int32) (-3 : Int32) vT_triedMany fT_tries (Option.some.inj hev) dX11_tried_72 (show narrow _ (.int (-3 : Int32)) = .int (-3 : Int32) from rfl) hP hD hS
      · replace hev := x_t c4 hev
        refine lv_bipush (v := (-2 : Int32)) hx hb dX11_tried_44 (by decide) ?_
        exact ret2 _ _ _ _ (-2 : Int32) (-2 : Int32) vT_triedMany fT_tries (Option.some.inj hev) dX11_tried_46 (show narrow _ (.int (-2 : Int32)) = .int (-2 : Int32) from rfl) hP hD hS
  unfold f_Mo_tried at hev
  refine lv_iload_n hx hb dX11_tried_0 rfl (lv_at hl 1 rfl) ?_
  refine lv_iconst (v := (-1 : Int32)) hx hb dX11_tried_1 (by decide) ?_
  refine lv_icmp_eq (tgt := 13) hx hb dX11_tried_2 (by decide) (fun c17 => ?_) (fun c17 => ?_)
  · replace hev := x_t c17 hev
    exact J13 vT_triedMany fT_tries p1 p2 p3 p4 p5 _ _ hP hD hS ls hev (lv_sub hl [0, 1, 2, 3, 4, 5] rfl)
  · replace hev := x_f c17 hev
    refine lv_aload_n hx hb dX11_tried_5 rfl (lv_at hl 0 rfl) ?_
    refine lv_iload_n hx hb dX11_tried_6 rfl (lv_at hl 1 rfl) ?_
    obtain ⟨y18, hq, hev⟩ := x_bd hev
    refine roV X (KK_at hKK hS hAb) hR (st1 := [.int y18]) (c_Mo_isPerson l G aT aT_text aT_read aT_spells aT_pasts aT_keptStates aT_keptDeeds aT_isKept aT_fars aT_queue aT_later aT_onWay aT_row aT_princes aT_tries vT_length vT_readMany vT_people vT_toldDay vT_toldBroken vT_many vT_now vT_deeds vT_pastMany vT_at vT_place vT_end vT_readPeople vT_readSpells vT_lifted vT_queued vT_laterMany vT_rowMany vT_princeMany vT_triedMany p1 y18 hq) K_X11_isPerson u1278 (x_Psub hP [0] rfl) rfl (q0 := 0) rfl (by decide) ⟨Nat.zero_le _, Nat.zero_le _⟩ rfl hl.1 rfl (Nat.le_of_ble_eq_true rfl) rfl dX11_tried_7 ?_
    refine lv_if_eq (tgt := 44) hx hb dX11_tried_10 (by decide) (fun c19 => ?_) (fun c19 => ?_)
    · replace hev := x_t c19 hev
      refine lv_bipush (v := (-2 : Int32)) hx hb dX11_tried_44 (by decide) ?_
      exact ret2 _ _ _ _ (-2 : Int32) (-2 : Int32) vT_triedMany fT_tries (Option.some.inj hev) dX11_tried_46 (show narrow _ (.int (-2 : Int32)) = .int (-2 : Int32) from rfl) hP hD hS
    · replace hev := x_f c19 hev
      exact J13 vT_triedMany fT_tries p1 p2 p3 p4 p5 _ _ hP hD hS ls hev (lv_sub hl [0, 1, 2, 3, 4, 5] rfl)
def f_Mo_forget (vT_triedMany : Int32) : Option (Int32 × Int32) := some (vT_triedMany, (0 : Int32))
set_option maxHeartbeats 8000000 in
set_option maxRecDepth 100000 in
theorem c_Mo_forget (l : Launch) (G : GG) (aT aT_text aT_read aT_spells aT_pasts aT_keptStates aT_keptDeeds aT_isKept aT_fars aT_queue aT_later aT_onWay aT_row aT_princes aT_tries : Nat) (vT_length : Int32) (vT_readMany : Int32) (vT_people : Int32) (vT_toldDay : Int32) (vT_toldBroken : Int32) (vT_many : Int32) (vT_now : Int32) (vT_deeds : Int32) (vT_pastMany : Int32) (vT_at : Int32) (vT_place : Int32) (vT_end : Int32) (vT_readPeople : Int32) (vT_readSpells : Int32) (vT_lifted : Int32) (vT_queued : Int32) (vT_laterMany : Int32) (vT_rowMany : Int32) (vT_princeMany : Int32) (vT_triedMany : Int32) (r0 : Int32) (wvT_triedMany : Int32) (hev : f_Mo_forget vT_triedMany = some (r0, wvT_triedMany)) : RW l G yX11_forget cX11_forget 2 (some .int) 0 [.ref aT] [(aT, .inr (7, [.ref aT_text, .int vT_length, .ref aT_read, .int vT_readMany, .int vT_people, .int vT_toldDay, .int vT_toldBroken, .ref aT_spells, .int vT_many, .int vT_now, .int vT_deeds, .ref aT_pasts, .int vT_pastMany, .ref aT_keptStates, .ref aT_keptDeeds, .ref aT_isKept, .int vT_at, .int vT_place, .int vT_end, .int vT_readPeople, .int vT_readSpells, .int vT_lifted, .ref aT_fars, .ref aT_queue, .int vT_queued, .ref aT_later, .int vT_laterMany, .ref aT_onWay, .ref aT_row, .int vT_rowMany, .ref aT_princes, .int vT_princeMany, .ref aT_tries, .int vT_triedMany]))] (some (.int r0)) [(aT, .inr (7, [.ref aT_text, .int vT_length, .ref aT_read, .int vT_readMany, .int vT_people, .int vT_toldDay, .int vT_toldBroken, .ref aT_spells, .int vT_many, .int vT_now, .int vT_deeds, .ref aT_pasts, .int vT_pastMany, .ref aT_keptStates, .ref aT_keptDeeds, .ref aT_isKept, .int vT_at, .int vT_place, .int vT_end, .int vT_readPeople, .int vT_readSpells, .int vT_lifted, .ref aT_fars, .ref aT_queue, .int vT_queued, .ref aT_later, .int vT_laterMany, .ref aT_onWay, .ref aT_row, .int vT_rowMany, .ref aT_princes, .int vT_princeMany, .ref aT_tries, .int wvT_triedMany]))] 0 0 := by
  refine RW_of (by decide) (Nat.le_of_ble_eq_true rfl) ?_
  intro p e s m ar below meth c R Q A ls X hR hRc hin hP hKK hD hS hA hAb hl ret
  obtain ⟨rs, hrs⟩ : ∃ q, q = (r0, wvT_triedMany) := ⟨_, rfl⟩
  rw [← hrs] at hev
  have ret2 : ∀ (pc : Nat) (ls : Array Slot) (H : Heap) (lo : List Loc) (v r1 : Int32) (zvT_triedMany : Int32), (r1, zvT_triedMany) = rs → decode cX11_forget pc = .ok (.ireturn, 1) → narrow .int (.int v) = .int r1 → va_P G.1 classes [(aT, .inr (7, [.ref aT_text, .int vT_length, .ref aT_read, .int vT_readMany, .int vT_people, .int vT_toldDay, .int vT_toldBroken, .ref aT_spells, .int vT_many, .int vT_now, .int vT_deeds, .ref aT_pasts, .int vT_pastMany, .ref aT_keptStates, .ref aT_keptDeeds, .ref aT_isKept, .int vT_at, .int vT_place, .int vT_end, .int vT_readPeople, .int vT_readSpells, .int vT_lifted, .ref aT_fars, .ref aT_queue, .int vT_queued, .ref aT_later, .int vT_laterMany, .ref aT_onWay, .ref aT_row, .int vT_rowMany, .ref aT_princes, .int vT_princeMany, .ref aT_tries, .int zvT_triedMany]))] H → va_D A [(aT, .inr (7, [.ref aT_text, .int vT_length, .ref aT_read, .int vT_readMany, .int vT_people, .int vT_toldDay, .int vT_toldBroken, .ref aT_spells, .int vT_many, .int vT_now, .int vT_deeds, .ref aT_pasts, .int vT_pastMany, .ref aT_keptStates, .ref aT_keptDeeds, .ref aT_isKept, .int vT_at, .int vT_place, .int vT_end, .int vT_readPeople, .int vT_readSpells, .int vT_lifted, .ref aT_fars, .ref aT_queue, .int vT_queued, .ref aT_later, .int vT_laterMany, .ref aT_onWay, .ref aT_row, .int vT_rowMany, .ref aT_princes, .int vT_princeMany, .ref aT_tries, .int zvT_triedMany]))] → va_S A s.heap H lo → W p l e R s m ar below meth c H lo 0 0 Q (F0 m pc ls [.int v]) := by
    intro pc ls H lo v r1 zvT_triedMany he hd hn h1 h2 h3
    have he := he.trans hrs
    cases he
    exact ret.1 _ _ _ _ _ _ _ rfl rfl hd hn h1 h2 h3
  clear ret hrs
  have hl : lv_has ls 2 [(0, .ref aT)] := hl
  obtain ⟨hx, hb, hml, hown, hts, hT⟩ := id X
  have hK := hKK.1
  have hw : ∀ w ∈ T0, w.before ar s = true := fun w h => hts w (hT w h)
  have i11 := fun w h => hT w (inT11 w h)
  unfold f_Mo_forget at hev
  refine lv_aload_n hx hb dX11_forget_0 rfl (lv_at hl 0 rfl) ?_
  refine va_get (D := G.1) (ci := 7) (v := .int vT_triedMany) (C := RX11) (T := TX11) (N := 34) hx hb hts i11 hown hK hP 0 rfl rfl 33 (by decide) (hw _ u1120) (fun _ h9 => h9) rfl dX11_forget_1 ?_
  refine lv_istore_n (lv' := [(1, .int vT_triedMany), (0, .ref aT)]) hx hb dX11_forget_4 rfl hl (by decide) rfl (fun ls hl => ?_)
  refine lv_aload_n hx hb dX11_forget_5 rfl (lv_at hl 1 rfl) ?_
  refine lv_iconst (v := (0 : Int32)) hx hb dX11_forget_6 (by decide) ?_
  refine va_put (D := G.1) (ci := 7) (v := .int (0 : Int32)) (ty := .int) (C := RX11) (T := TX11) (N := 34) hx hb hts i11 tyX11 tyX11_ok nmX11 hown hK hP hD hS 0 rfl rfl 33 (by decide) (hw _ u1120) (fun _ h9 => h9) rfl (by decide +kernel) rfl rfl (Nat.le_of_ble_eq_true rfl) dX11_forget_7 (fun H lo hP hD hS => ?_)
  refine lv_iload_n hx hb dX11_forget_10 rfl (lv_at hl 0 rfl) ?_
  exact ret2 _ _ _ _ vT_triedMany vT_triedMany (0 : Int32) (Option.some.inj hev) dX11_forget_11 (show narrow _ (.int vT_triedMany) = .int vT_triedMany from rfl) hP hD hS
def f_Mo_termMany (vT_people : Int32) : Option (Int32) := some (((2 : Int32) * vT_people) + (11 : Int32))
set_option maxHeartbeats 8000000 in
set_option maxRecDepth 100000 in
theorem c_Mo_termMany (l : Launch) (G : GG) (aT aT_text aT_read aT_spells aT_pasts aT_keptStates aT_keptDeeds aT_isKept aT_fars aT_queue aT_later aT_onWay aT_row aT_princes aT_tries : Nat) (vT_length : Int32) (vT_readMany : Int32) (vT_people : Int32) (vT_toldDay : Int32) (vT_toldBroken : Int32) (vT_many : Int32) (vT_now : Int32) (vT_deeds : Int32) (vT_pastMany : Int32) (vT_at : Int32) (vT_place : Int32) (vT_end : Int32) (vT_readPeople : Int32) (vT_readSpells : Int32) (vT_lifted : Int32) (vT_queued : Int32) (vT_laterMany : Int32) (vT_rowMany : Int32) (vT_princeMany : Int32) (vT_triedMany : Int32) (r0 : Int32) (hev : f_Mo_termMany vT_people = some r0) : RO l G yX11_termMany cX11_termMany 1 (some .int) 0 [.ref aT] [(aT, .inr (7, [.ref aT_text, .int vT_length, .ref aT_read, .int vT_readMany, .int vT_people, .int vT_toldDay, .int vT_toldBroken, .ref aT_spells, .int vT_many, .int vT_now, .int vT_deeds, .ref aT_pasts, .int vT_pastMany, .ref aT_keptStates, .ref aT_keptDeeds, .ref aT_isKept, .int vT_at, .int vT_place, .int vT_end, .int vT_readPeople, .int vT_readSpells, .int vT_lifted, .ref aT_fars, .ref aT_queue, .int vT_queued, .ref aT_later, .int vT_laterMany, .ref aT_onWay, .ref aT_row, .int vT_rowMany, .ref aT_princes, .int vT_princeMany, .ref aT_tries, .int vT_triedMany]))] (some (.int r0)) := by
  refine RO_of (by decide) (Nat.le_of_ble_eq_true rfl) ?_
  intro p e s m ar below meth c R Q H ls X hR hP hKK hS0 hl ret
  generalize hrs : r0 = rs at hev ret
  have hl : lv_has ls 1 [(0, .ref aT)] := hl
  obtain ⟨hx, hb, hml, hown, hts, hT⟩ := id X
  have hK := hKK.1
  have hw : ∀ w ∈ T0, w.before ar s = true := fun w h => hts w (hT w h)
  have i11 := fun w h => hT w (inT11 w h)
  unfold f_Mo_termMany at hev
  refine lv_iconst (v := (2 : Int32)) hx hb dX11_termMany_0 (by decide) ?_
  refine lv_aload_n hx hb dX11_termMany_1 rfl (lv_at hl 0 rfl) ?_
  refine va_get (D := G.1) (ci := 7) (v := .int vT_people) (C := RX11) (T := TX11) (N := 34) hx hb hts i11 hown hK hP 0 rfl rfl 4 (by decide) (hw _ u1091) (fun _ h9 => h9) rfl dX11_termMany_2 ?_
  refine lv_imul hx hb dX11_termMany_5 ?_
  refine lv_bipush (v := (11 : Int32)) hx hb dX11_termMany_6 (by decide) ?_
  refine lv_iadd hx hb dX11_termMany_8 ?_
  exact ret _ _ _ dX11_termMany_9 ((show narrow _ (.int (((2 : Int32) * vT_people) + (11 : Int32))) = .int (((2 : Int32) * vT_people) + (11 : Int32)) from rfl).trans (congrArg Value.int (Option.some.inj hev)))
def f_Mo_termOf (vT_people : Int32) (p1 : Int32) : Option (Int32) := x_L ((p1 - ((2 : Int32) * vT_people))) (fun y1 => if vT_people ≤ p1 then (if 0 ≤ y1 then (if (7 : Int32) ≤ y1 then (if (9 : Int32) ≤ y1 then (some (6 : Int32)) else some (5 : Int32)) else some (2 : Int32)) else some (1 : Int32)) else some (0 : Int32))
set_option maxHeartbeats 8000000 in
set_option maxRecDepth 100000 in
theorem c_Mo_termOf (l : Launch) (G : GG) (aT aT_text aT_read aT_spells aT_pasts aT_keptStates aT_keptDeeds aT_isKept aT_fars aT_queue aT_later aT_onWay aT_row aT_princes aT_tries : Nat) (vT_length : Int32) (vT_readMany : Int32) (vT_people : Int32) (vT_toldDay : Int32) (vT_toldBroken : Int32) (vT_many : Int32) (vT_now : Int32) (vT_deeds : Int32) (vT_pastMany : Int32) (vT_at : Int32) (vT_place : Int32) (vT_end : Int32) (vT_readPeople : Int32) (vT_readSpells : Int32) (vT_lifted : Int32) (vT_queued : Int32) (vT_laterMany : Int32) (vT_rowMany : Int32) (vT_princeMany : Int32) (vT_triedMany : Int32) (p1 : Int32) (r0 : Int32) (hev : f_Mo_termOf vT_people p1 = some r0) : RO l G yX11_termOf cX11_termOf 3 (some .int) 0 [.ref aT, .int p1] [(aT, .inr (7, [.ref aT_text, .int vT_length, .ref aT_read, .int vT_readMany, .int vT_people, .int vT_toldDay, .int vT_toldBroken, .ref aT_spells, .int vT_many, .int vT_now, .int vT_deeds, .ref aT_pasts, .int vT_pastMany, .ref aT_keptStates, .ref aT_keptDeeds, .ref aT_isKept, .int vT_at, .int vT_place, .int vT_end, .int vT_readPeople, .int vT_readSpells, .int vT_lifted, .ref aT_fars, .ref aT_queue, .int vT_queued, .ref aT_later, .int vT_laterMany, .ref aT_onWay, .ref aT_row, .int vT_rowMany, .ref aT_princes, .int vT_princeMany, .ref aT_tries, .int vT_triedMany]))] (some (.int r0)) := by
  refine RO_of (by decide) (Nat.le_of_ble_eq_true rfl) ?_
  intro p e s m ar below meth c R Q H ls X hR hP hKK hS0 hl ret
  generalize hrs : r0 = rs at hev ret
  have hl : lv_has ls 3 [(0, .ref aT), (1, .int p1)] := hl
  obtain ⟨hx, hb, hml, hown, hts, hT⟩ := id X
  have hK := hKK.1
  have hw : ∀ w ∈ T0, w.before ar s = true := fun w h => hts w (hT w h)
  have i11 := fun w h => hT w (inT11 w h)
  unfold f_Mo_termOf at hev
  refine lv_iload_n hx hb dX11_termOf_0 rfl (lv_at hl 1 rfl) ?_
  refine lv_iconst (v := (2 : Int32)) hx hb dX11_termOf_1 (by decide) ?_
  refine lv_aload_n hx hb dX11_termOf_2 rfl (lv_at hl 0 rfl) ?_
  refine va_get (D := G.1) (ci := 7) (v := .int vT_people) (C := RX11) (T := TX11) (N := 34) hx hb hts i11 hown hK hP 0 rfl rfl 4 (by decide) (hw _ u1091) (fun _ h9 => h9) rfl dX11_termOf_3 ?_
  refine lv_imul hx hb dX11_termOf_6 ?_
  refine lv_isub hx hb dX11_termOf_7 ?_
  refine lv_topi (fun y1 ey1 => ?_)
  replace hev := x_lt hev y1 ey1
  refine lv_istore_n (lv' := [(2, .int y1), (0, .ref aT), (1, .int p1)]) hx hb dX11_termOf_8 rfl hl (by decide) rfl (fun ls hl => ?_)
  refine lv_iload_n hx hb dX11_termOf_9 rfl (lv_at hl 2 rfl) ?_
  refine lv_aload_n hx hb dX11_termOf_10 rfl (lv_at hl 1 rfl) ?_
  refine va_get (D := G.1) (ci := 7) (v := .int vT_people) (C := RX11) (T := TX11) (N := 34) hx hb hts i11 hown hK hP 0 rfl rfl 4 (by decide) (hw _ u1091) (fun _ h9 => h9) rfl dX11_termOf_11 ?_
  refine lv_icmp_ge (tgt := 21) hx hb dX11_termOf_14 (by decide) (fun c2 => ?_) (fun c2 => ?_)
  · replace hev := x_t c2 hev
    refine lv_iload_n hx hb dX11_termOf_21 rfl (lv_at hl 0 rfl) ?_
    refine lv_if_ge (tgt := 29) hx hb dX11_termOf_22 (by decide) (fun c3 => ?_) (fun c3 => ?_)
    · replace hev := x_t c3 hev
      refine lv_iload_n hx hb dX11_termOf_29 rfl (lv_at hl 0 rfl) ?_
      refine lv_bipush (v := (7 : Int32)) hx hb dX11_termOf_30 (by decide) ?_
      refine lv_icmp_ge (tgt := 39) hx hb dX11_termOf_32 (by decide) (fun c4 => ?_) (fun c4 => ?_)
      · replace hev := x_t c4 hev
        refine lv_iload_n hx hb dX11_termOf_39 rfl (lv_at hl 0 rfl) ?_
        refine lv_bipush (v := (9 : Int32)) hx hb dX11_termOf_40 (by decide) ?_
        refine lv_icmp_ge (tgt := 49) hx hb dX11_termOf_42 (by decide) (fun c5 => ?_) (fun c5 => ?_)
        · replace hev := x_t c5 hev
          refine lv_bipush (v := (6 : Int32)) hx hb dX11_termOf_49 (by decide) ?_
          exact ret _ _ _ dX11_termOf_51 ((show narrow _ (.int (6 : Int32)) = .int (6 : Int32) from rfl).trans (congrArg Value.int (Option.some.inj hev)))
        · replace hev := x_f c5 hev
          refine lv_iconst (v := (5 : Int32)) hx hb dX11_termOf_45 (by decide) ?_
          refine lv_goto (tgt := 51) hx hb dX11_termOf_46 (by decide) ?_
          exact ret _ _ _ dX11_termOf_51 ((show narrow _ (.int (5 : Int32)) = .int (5 : Int32) from rfl).trans (congrArg Value.int (Option.some.inj hev)))
      · replace hev := x_f c4 hev
        refine lv_iconst (v := (2 : Int32)) hx hb dX11_termOf_35 (by decide) ?_
        refine lv_goto (tgt := 51) hx hb dX11_termOf_36 (by decide) ?_
        exact ret _ _ _ dX11_termOf_51 ((show narrow _ (.int (2 : Int32)) = .int (2 : Int32) from rfl).trans (congrArg Value.int (Option.some.inj hev)))
    · replace hev := x_f c3 hev
      refine lv_iconst (v := (1 : Int32)) hx hb dX11_termOf_25 (by decide) ?_
      refine lv_goto (tgt := 51) hx hb dX11_termOf_26 (by decide) ?_
      exact ret _ _ _ dX11_termOf_51 ((show narrow _ (.int (1 : Int32)) = .int (1 : Int32) from rfl).trans (congrArg Value.int (Option.some.inj hev)))
  · replace hev := x_f c2 hev
    refine lv_iconst (v := (0 : Int32)) hx hb dX11_termOf_17 (by decide) ?_
    refine lv_goto (tgt := 51) hx hb dX11_termOf_18 (by decide) ?_
    exact ret _ _ _ dX11_termOf_51 ((show narrow _ (.int (0 : Int32)) = .int (0 : Int32) from rfl).trans (congrArg Value.int (Option.some.inj hev)))
def f_Mo_numberOf (vT_people : Int32) (p1 : Int32) : Option (Int32) := x_L ((p1 - ((2 : Int32) * vT_people))) (fun y1 => if vT_people ≤ p1 then (if 0 ≤ y1 then (if (7 : Int32) ≤ y1 then (if (9 : Int32) ≤ y1 then (some (y1 - (9 : Int32))) else some (y1 - (7 : Int32))) else some y1) else some (p1 - vT_people)) else some p1)
set_option maxHeartbeats 8000000 in
set_option maxRecDepth 100000 in
theorem c_Mo_numberOf (l : Launch) (G : GG) (aT aT_text aT_read aT_spells aT_pasts aT_keptStates aT_keptDeeds aT_isKept aT_fars aT_queue aT_later aT_onWay aT_row aT_princes aT_tries : Nat) (vT_length : Int32) (vT_readMany : Int32) (vT_people : Int32) (vT_toldDay : Int32) (vT_toldBroken : Int32) (vT_many : Int32) (vT_now : Int32) (vT_deeds : Int32) (vT_pastMany : Int32) (vT_at : Int32) (vT_place : Int32) (vT_end : Int32) (vT_readPeople : Int32) (vT_readSpells : Int32) (vT_lifted : Int32) (vT_queued : Int32) (vT_laterMany : Int32) (vT_rowMany : Int32) (vT_princeMany : Int32) (vT_triedMany : Int32) (p1 : Int32) (r0 : Int32) (hev : f_Mo_numberOf vT_people p1 = some r0) : RO l G yX11_numberOf cX11_numberOf 3 (some .int) 0 [.ref aT, .int p1] [(aT, .inr (7, [.ref aT_text, .int vT_length, .ref aT_read, .int vT_readMany, .int vT_people, .int vT_toldDay, .int vT_toldBroken, .ref aT_spells, .int vT_many, .int vT_now, .int vT_deeds, .ref aT_pasts, .int vT_pastMany, .ref aT_keptStates, .ref aT_keptDeeds, .ref aT_isKept, .int vT_at, .int vT_place, .int vT_end, .int vT_readPeople, .int vT_readSpells, .int vT_lifted, .ref aT_fars, .ref aT_queue, .int vT_queued, .ref aT_later, .int vT_laterMany, .ref aT_onWay, .ref aT_row, .int vT_rowMany, .ref aT_princes, .int vT_princeMany, .ref aT_tries, .int vT_triedMany]))] (some (.int r0)) := by
  refine RO_of (by decide) (Nat.le_of_ble_eq_true rfl) ?_
  intro p e s m ar below meth c R Q H ls X hR hP hKK hS0 hl ret
  generalize hrs : r0 = rs at hev ret
  have hl : lv_has ls 3 [(0, .ref aT), (1, .int p1)] := hl
  obtain ⟨hx, hb, hml, hown, hts, hT⟩ := id X
  have hK := hKK.1
  have hw : ∀ w ∈ T0, w.before ar s = true := fun w h => hts w (hT w h)
  have i11 := fun w h => hT w (inT11 w h)
  unfold f_Mo_numberOf at hev
  refine lv_iload_n hx hb dX11_numberOf_0 rfl (lv_at hl 1 rfl) ?_
  refine lv_iconst (v := (2 : Int32)) hx hb dX11_numberOf_1 (by decide) ?_
  refine lv_aload_n hx hb dX11_numberOf_2 rfl (lv_at hl 0 rfl) ?_
  refine va_get (D := G.1) (ci := 7) (v := .int vT_people) (C := RX11) (T := TX11) (N := 34) hx hb hts i11 hown hK hP 0 rfl rfl 4 (by decide) (hw _ u1091) (fun _ h9 => h9) rfl dX11_numberOf_3 ?_
  refine lv_imul hx hb dX11_numberOf_6 ?_
  refine lv_isub hx hb dX11_numberOf_7 ?_
  refine lv_topi (fun y1 ey1 => ?_)
  replace hev := x_lt hev y1 ey1
  refine lv_istore_n (lv' := [(2, .int y1), (0, .ref aT), (1, .int p1)]) hx hb dX11_numberOf_8 rfl hl (by decide) rfl (fun ls hl => ?_)
  refine lv_iload_n hx hb dX11_numberOf_9 rfl (lv_at hl 2 rfl) ?_
  refine lv_aload_n hx hb dX11_numberOf_10 rfl (lv_at hl 1 rfl) ?_
  refine va_get (D := G.1) (ci := 7) (v := .int vT_people) (C := RX11) (T := TX11) (N := 34) hx hb hts i11 hown hK hP 0 rfl rfl 4 (by decide) (hw _ u1091) (fun _ h9 => h9) rfl dX11_numberOf_11 ?_
  refine lv_icmp_ge (tgt := 21) hx hb dX11_numberOf_14 (by decide) (fun c2 => ?_) (fun c2 => ?_)
  · replace hev := x_t c2 hev
    refine lv_iload_n hx hb dX11_numberOf_21 rfl (lv_at hl 0 rfl) ?_
    refine lv_if_ge (tgt := 34) hx hb dX11_numberOf_22 (by decide) (fun c3 => ?_) (fun c3 => ?_)
    · replace hev := x_t c3 hev
      refine lv_iload_n hx hb dX11_numberOf_34 rfl (lv_at hl 0 rfl) ?_
      refine lv_bipush (v := (7 : Int32)) hx hb dX11_numberOf_35 (by decide) ?_
      refine lv_icmp_ge (tgt := 44) hx hb dX11_numberOf_37 (by decide) (fun c4 => ?_) (fun c4 => ?_)
      · replace hev := x_t c4 hev
        refine lv_iload_n hx hb dX11_numberOf_44 rfl (lv_at hl 0 rfl) ?_
        refine lv_bipush (v := (9 : Int32)) hx hb dX11_numberOf_45 (by decide) ?_
        refine lv_icmp_ge (tgt := 57) hx hb dX11_numberOf_47 (by decide) (fun c5 => ?_) (fun c5 => ?_)
        · replace hev := x_t c5 hev
          refine lv_iload_n hx hb dX11_numberOf_57 rfl (lv_at hl 0 rfl) ?_
          refine lv_bipush (v := (9 : Int32)) hx hb dX11_numberOf_58 (by decide) ?_
          refine lv_isub hx hb dX11_numberOf_60 ?_
          exact ret _ _ _ dX11_numberOf_61 ((show narrow _ (.int (y1 - (9 : Int32))) = .int (y1 - (9 : Int32)) from rfl).trans (congrArg Value.int (Option.some.inj hev)))
        · replace hev := x_f c5 hev
          refine lv_iload_n hx hb dX11_numberOf_50 rfl (lv_at hl 0 rfl) ?_
          refine lv_bipush (v := (7 : Int32)) hx hb dX11_numberOf_51 (by decide) ?_
          refine lv_isub hx hb dX11_numberOf_53 ?_
          refine lv_goto (tgt := 61) hx hb dX11_numberOf_54 (by decide) ?_
          exact ret _ _ _ dX11_numberOf_61 ((show narrow _ (.int (y1 - (7 : Int32))) = .int (y1 - (7 : Int32)) from rfl).trans (congrArg Value.int (Option.some.inj hev)))
      · replace hev := x_f c4 hev
        refine lv_iload_n hx hb dX11_numberOf_40 rfl (lv_at hl 0 rfl) ?_
        refine lv_goto (tgt := 61) hx hb dX11_numberOf_41 (by decide) ?_
        exact ret _ _ _ dX11_numberOf_61 ((show narrow _ (.int y1) = .int y1 from rfl).trans (congrArg Value.int (Option.some.inj hev)))
    · replace hev := x_f c3 hev
      refine lv_iload_n hx hb dX11_numberOf_25 rfl (lv_at hl 2 rfl) ?_
      refine lv_aload_n hx hb dX11_numberOf_26 rfl (lv_at hl 1 rfl) ?_
      refine va_get (D := G.1) (ci := 7) (v := .int vT_people) (C := RX11) (T := TX11) (N := 34) hx hb hts i11 hown hK hP 0 rfl rfl 4 (by decide) (hw _ u1091) (fun _ h9 => h9) rfl dX11_numberOf_27 ?_
      refine lv_isub hx hb dX11_numberOf_30 ?_
      refine lv_goto (tgt := 61) hx hb dX11_numberOf_31 (by decide) ?_
      exact ret _ _ _ dX11_numberOf_61 ((show narrow _ (.int (p1 - vT_people)) = .int (p1 - vT_people) from rfl).trans (congrArg Value.int (Option.some.inj hev)))
  · replace hev := x_f c2 hev
    refine lv_iload_n hx hb dX11_numberOf_17 rfl (lv_at hl 2 rfl) ?_
    refine lv_goto (tgt := 61) hx hb dX11_numberOf_18 (by decide) ?_
    exact ret _ _ _ dX11_numberOf_61 ((show narrow _ (.int p1) = .int p1 from rfl).trans (congrArg Value.int (Option.some.inj hev)))
