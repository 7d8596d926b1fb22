def f_Mo_soMany_J41 (rec : Int32 → Int32 → Option (Int32)) (k : Nat) (fT_spells : Nat → Int32) (x1 : Int32) (x2 : Int32) (x3 : Int32) (x5 : Int32) (s0 : Int32) (s1 : Int32) : Option (Int32) := x_L ((s1 + s0)) (fun y1 => x_L (x5 + (1 : Int32)) (fun y2 => rec y1 y2))
def f_Mo_soMany_L6 (fT_spells : Nat → Int32) (x1 : Int32) (x2 : Int32) (x3 : Int32) : Nat → Int32 → Int32 → Option (Int32)
  | 0, _, _ => none
  | k + 1, x4, x5 => x_L ((((10 : Int32) * x2) + (2 : Int32))) (fun y3 => x_I 50 fT_spells y3 (fun v5 => if v5 ≤ x5 then (some x4) else x_B (f_Mo_isSo fT_spells x1 x2 x5 x3) (fun y7 => if y7 = 0 then (f_Mo_soMany_J41 (f_Mo_soMany_L6 fT_spells x1 x2 x3 k) k fT_spells x1 x2 x3 x5 (0 : Int32) x4) else f_Mo_soMany_J41 (f_Mo_soMany_L6 fT_spells x1 x2 x3 k) k fT_spells x1 x2 x3 x5 (1 : Int32) x4)))
def f_Mo_soMany (k : Nat) (fT_spells : Nat → Int32) (p1 : Int32) (p2 : Int32) (p3 : Int32) : Option (Int32) := x_B (f_Mo_soMany_L6 fT_spells p1 p2 p3 k (0 : Int32) (0 : Int32)) (fun y9 => some y9)
set_option maxHeartbeats 8000000 in
set_option maxRecDepth 100000 in
theorem c_Mo_soMany (l : Launch) (G : GG) (aT aT_text aT_read aT_spells aT_pasts aT_keptStates aT_keptDeeds aT_isKept aT_fars aT_queue aT_later aT_onWay aT_row aT_princes aT_tries : Nat) (vT_length : Int32) (vT_readMany : Int32) (vT_people : Int32) (vT_toldDay : Int32) (vT_toldBroken : Int32) (vT_many : Int32) (vT_now : Int32) (vT_deeds : Int32) (vT_pastMany : Int32) (vT_at : Int32) (vT_place : Int32) (vT_end : Int32) (vT_readPeople : Int32) (vT_readSpells : Int32) (vT_lifted : Int32) (vT_queued : Int32) (vT_laterMany : Int32) (vT_rowMany : Int32) (vT_princeMany : Int32) (vT_triedMany : Int32) (fT_spells : Nat → Int32) (k : Nat) (p1 : Int32) (p2 : Int32) (p3 : Int32) (r0 : Int32) (hev : f_Mo_soMany k fT_spells p1 p2 p3 = some r0) : RO l G yX11_soMany cX11_soMany 6 (some .int) 2 [.ref aT, .int p1, .int p2, .int p3] [(aT, .inr (7, [.ref aT_text, .int vT_length, .ref aT_read, .int vT_readMany, .int vT_people, .int vT_toldDay, .int vT_toldBroken, .ref aT_spells, .int vT_many, .int vT_now, .int vT_deeds, .ref aT_pasts, .int vT_pastMany, .ref aT_keptStates, .ref aT_keptDeeds, .ref aT_isKept, .int vT_at, .int vT_place, .int vT_end, .int vT_readPeople, .int vT_readSpells, .int vT_lifted, .ref aT_fars, .ref aT_queue, .int vT_queued, .ref aT_later, .int vT_laterMany, .ref aT_onWay, .ref aT_row, .int vT_rowMany, .ref aT_princes, .int vT_princeMany, .ref aT_tries, .int vT_triedMany])), (aT_spells, .inl (G.2.1, 50, .inl fT_spells))] (some (.int r0)) := by
  refine RO_of (by decide) (Nat.le_of_ble_eq_true rfl) ?_
  intro p e s m ar below meth c R Q H ls X hR hP hKK hS0 hl ret
  generalize hrs : r0 = rs at hev ret
  have hl : lv_has ls 6 [(0, .ref aT), (1, .int p1), (2, .int p2), (3, .int p3)] := hl
  obtain ⟨hx, hb, hml, hown, hts, hT⟩ := id X
  have hK := hKK.1
  have hw : ∀ w ∈ T0, w.before ar s = true := fun w h => hts w (hT w h)
  have i11 := fun w h => hT w (inT11 w h)
  unfold f_Mo_soMany at hev
  refine lv_iconst (v := (0 : Int32)) hx hb dX11_soMany_0 (by decide) ?_
  refine lv_istore (lv' := [(4, .int (0 : Int32)), (0, .ref aT), (1, .int p1), (2, .int p2), (3, .int p3)]) hx hb dX11_soMany_1 hl (by decide) rfl (fun ls hl => ?_)
  refine lv_iconst (v := (0 : Int32)) hx hb dX11_soMany_3 (by decide) ?_
  refine lv_istore (lv' := [(5, .int (0 : Int32)), (4, .int (0 : Int32)), (0, .ref aT), (1, .int p1), (2, .int p2), (3, .int p3)]) hx hb dX11_soMany_4 hl (by decide) rfl (fun ls hl => ?_)
  have L6 : ∀ (x1 : Int32) (x2 : Int32) (x3 : Int32), ∀ (k : Nat) (x4 : Int32) (x5 : Int32) (o4 : Int32), f_Mo_soMany_L6 fT_spells x1 x2 x3 k x4 x5 = some o4 → (∀ (ls : Array Slot), lv_has ls 6 [(4, .int o4)] → W p l e R s m ar below meth c H [] 0 0 Q (F0 m 50 ls [])) → ∀ (ls : Array Slot), lv_has ls 6 [(0, .ref aT), (1, .int x1), (2, .int x2), (3, .int x3), (4, .int x4), (5, .int x5)] → W p l e R s m ar below meth c H [] 0 0 Q (F0 m 6 ls []) := by
    intro x1 x2 x3 k
    induction k with
    | zero => intro x4 x5 o4 hev; rw [f_Mo_soMany_L6] at hev; cases hev
    | succ k ih =>
      intro x4 x5 o4 hev hex ls hl
      rw [f_Mo_soMany_L6] at hev
      have J41 : ∀ (x5 : Int32) (s0 : Int32) (s1 : Int32), ∀ (ls : Array Slot), f_Mo_soMany_J41 (f_Mo_soMany_L6 fT_spells x1 x2 x3 k) k fT_spells x1 x2 x3 x5 s0 s1 = some o4 → lv_has ls 6 [(0, .ref aT), (1, .int x1), (2, .int x2), (3, .int x3), (5, .int x5)] → W p l e R s m ar below meth c H [] 0 0 Q (F0 m 41 ls [.int s0, .int s1]) := by
        intro x5 s0 s1 ls hev hl
        unfold f_Mo_soMany_J41 at hev
        refine lv_iadd hx hb dX11_soMany_41 ?_
        refine lv_topi (fun y1 ey1 => ?_)
        replace hev := x_lt hev y1 ey1
        refine lv_istore (lv' := [(4, .int y1), (0, .ref aT), (1, .int x1), (2, .int x2), (3, .int x3), (5, .int x5)]) hx hb dX11_soMany_42 hl (by decide) rfl (fun ls hl => ?_)
        obtain ⟨y2, ey2⟩ : ∃ y : Int32, y = x5 + (1 : Int32) := ⟨_, rfl⟩
        refine lv_iinc (v := y2) (lv' := [(5, .int y2), (4, .int y1), (0, .ref aT), (1, .int x1), (2, .int x2), (3, .int x3)]) hx hb dX11_soMany_44 hl (k := 5) rfl (by rw [ey2]; rfl) (by decide) rfl (fun ls hl => ?_)
        replace hev := x_lt hev y2 ey2
        refine lv_goto (tgt := 6) hx hb dX11_soMany_47 (by decide) ?_
        exact ih y1 y2 _ hev hex ls (lv_sub hl [2, 3, 4, 5, 1, 0] rfl)
      refine lv_iload hx hb dX11_soMany_6 (lv_at hl 5 rfl) ?_
      refine lv_aload_n hx hb dX11_soMany_8 rfl (lv_at hl 0 rfl) ?_
      refine va_get (D := G.1) (ci := 7) (v := .ref aT_spells) (C := RX11) (T := TX11) (N := 34) hx hb hts i11 hown hK hP 0 rfl rfl 7 (by decide) (hw _ u1094) (fun _ h9 => h9) rfl dX11_soMany_9 ?_
      refine lv_bipush (v := (10 : Int32)) hx hb dX11_soMany_12 (by decide) ?_
      refine lv_iload_n hx hb dX11_soMany_14 rfl (lv_at hl 2 rfl) ?_
      refine lv_imul hx hb dX11_soMany_15 ?_
      refine lv_iconst (v := (2 : Int32)) hx hb dX11_soMany_16 (by decide) ?_
      refine lv_iadd hx hb dX11_soMany_17 ?_
      refine lv_topi (fun y3 ey3 => ?_)
      replace hev := x_lt hev y3 ey3
      obtain ⟨h4, hev⟩ := x_ld hev
      refine va_iald hx hb hK hP 1 0 rfl rfl h4 dX11_soMany_18 ?_
      refine lv_topi (fun v5 ev5 => ?_)
      replace hev := hev v5 ev5
      refine lv_icmp_ge (tgt := 50) hx hb dX11_soMany_19 (by decide) (fun c6 => ?_) (fun c6 => ?_)
      · replace hev := x_t c6 hev
        cases hev
        exact hex ls (lv_sub hl [4] rfl)
      · replace hev := x_f c6 hev
        refine lv_iload hx hb dX11_soMany_22 (lv_at hl 4 rfl) ?_
        refine lv_aload_n hx hb dX11_soMany_24 rfl (lv_at hl 0 rfl) ?_
        refine lv_iload_n hx hb dX11_soMany_25 rfl (lv_at hl 1 rfl) ?_
        refine lv_iload_n hx hb dX11_soMany_26 rfl (lv_at hl 2 rfl) ?_
        refine lv_iload hx hb dX11_soMany_27 (lv_at hl 5 rfl) ?_
        refine lv_iload_n hx hb dX11_soMany_29 rfl (lv_at hl 3 rfl) ?_
        obtain ⟨y7, hq, hev⟩ := x_bd hev
        refine roV X hKK hR (st1 := [.int y7, .int x4]) (c_Mo_isSo l G aT aT_text aT_read aT_spells aT_pasts aT_keptStates aT_keptDeeds aT_isKept aT_fars aT_queue aT_later aT_onWay aT_row aT_princes aT_tries vT_length vT_readMany vT_people vT_toldDay vT_toldBroken vT_many vT_now vT_deeds vT_pastMany vT_at vT_place vT_end vT_readPeople vT_readSpells vT_lifted vT_queued vT_laterMany vT_rowMany vT_princeMany vT_triedMany fT_spells x1 x2 x5 x3 y7 hq) K_X11_isSo u1309 (x_Psub hP [0, 1] rfl) rfl (q0 := 0) rfl (by decide) ⟨Nat.zero_le _, Nat.zero_le _⟩ rfl hl.1 rfl (Nat.le_of_ble_eq_true rfl) rfl dX11_soMany_30 ?_
        refine lv_if_eq (tgt := 40) hx hb dX11_soMany_33 (by decide) (fun c8 => ?_) (fun c8 => ?_)
        · replace hev := x_t c8 hev
          refine lv_iconst (v := (0 : Int32)) hx hb dX11_soMany_40 (by decide) ?_
          exact J41 x5 (0 : Int32) x4 ls hev (lv_sub hl [0, 1, 2, 3, 5] rfl)
        · replace hev := x_f c8 hev
          refine lv_iconst (v := (1 : Int32)) hx hb dX11_soMany_36 (by decide) ?_
          refine lv_goto (tgt := 41) hx hb dX11_soMany_37 (by decide) ?_
          exact J41 x5 (1 : Int32) x4 ls hev (lv_sub hl [0, 1, 2, 3, 5] rfl)
  obtain ⟨y9, hq, hev⟩ := x_bd hev
  refine L6 p1 p2 p3 k (0 : Int32) (0 : Int32) y9 hq (fun ls hl => ?_) ls (lv_sub hl [2, 3, 4, 5, 1, 0] rfl)
  refine lv_iload hx hb dX11_soMany_50 (lv_at hl 0 rfl) ?_
  exact ret _ _ _ dX11_soMany_52 ((show narrow _ (.int y9) = .int y9 from rfl).trans (congrArg Value.int (Option.some.inj hev)))
def f_Mo_canDo_J128 (k : Nat) (vT_many : Int32) (vT_people : Int32) (fT_spells : Nat → Int32) : Option (Int32) := some (0 : Int32)
def f_Mo_canDo_J64 (k : Nat) (vT_many : Int32) (vT_people : Int32) (fT_spells : Nat → Int32) : Option (Int32) := some (0 : Int32)
def f_Mo_canDo (k : Nat) (vT_many : Int32) (vT_people : Int32) (fT_spells : Nat → Int32) (p1 : Int32) (p2 : Int32) : Option (Int32) := if p2 = (21 : Int32) then (some (1 : Int32)) else x_L ((p2 / (7 : Int32))) (fun y2 => x_L ((p2 - p2 / (7 : Int32) * (7 : Int32))) (fun y3 => if vT_people ≤ y2 then (some (0 : Int32)) else x_B (f_Mo_isUnder k vT_many fT_spells p1 y2 (0 : Int32)) (fun y5 => if y5 = 0 then (if (3 : Int32) ≤ y3 then (if y3 = (3 : Int32) then (x_B (f_Mo_weepersOf p1) (fun y19 => x_B (f_Mo_has y19 y2) (fun y20 => if y20 = 0 then (some (1 : Int32)) else some (0 : Int32)))) else if (6 : Int32) ≤ y3 then (x_B (f_Mo_askedOf p1) (fun y10 => if (7 : Int32) ≤ y10 then (some (0 : Int32)) else x_B (f_Mo_isUnder k vT_many fT_spells p1 y2 (2 : Int32)) (fun y12 => if y12 = 0 then (some (1 : Int32)) else some (0 : Int32)))) else x_B (f_Mo_brokenOf p1) (fun y14 => x_B (f_Mo_has y14 (y3 - (4 : Int32))) (fun y15 => if y15 = 0 then (x_B (f_Mo_isUnder k vT_many fT_spells p1 y2 (1 : Int32)) (fun y17 => if y17 = 0 then (some (1 : Int32)) else f_Mo_canDo_J128 k vT_many vT_people fT_spells)) else f_Mo_canDo_J128 k vT_many vT_people fT_spells))) else if vT_people ≤ y3 then (f_Mo_canDo_J64 k vT_many vT_people fT_spells) else if y3 = y2 then (f_Mo_canDo_J64 k vT_many vT_people fT_spells) else some (1 : Int32)) else some (0 : Int32))))
set_option maxHeartbeats 8000000 in
set_option maxRecDepth 100000 in
theorem c_Mo_canDo (l : Launch) (G : GG) (aT aT_text aT_read aT_spells aT_pasts aT_keptStates aT_keptDeeds aT_isKept aT_fars aT_queue aT_later aT_onWay aT_row aT_princes aT_tries : Nat) (vT_length : Int32) (vT_readMany : Int32) (vT_people : Int32) (vT_toldDay : Int32) (vT_toldBroken : Int32) (vT_many : Int32) (vT_now : Int32) (vT_deeds : Int32) (vT_pastMany : Int32) (vT_at : Int32) (vT_place : Int32) (vT_end : Int32) (vT_readPeople : Int32) (vT_readSpells : Int32) (vT_lifted : Int32) (vT_queued : Int32) (vT_laterMany : Int32) (vT_rowMany : Int32) (vT_princeMany : Int32) (vT_triedMany : Int32) (fT_spells : Nat → Int32) (k : Nat) (p1 : Int32) (p2 : Int32) (r0 : Int32) (hev : f_Mo_canDo k vT_many vT_people fT_spells p1 p2 = some r0) : RO l G yX11_canDo cX11_canDo 5 (some .boolean) 2 [.ref aT, .int p1, .int p2] [(aT, .inr (7, [.ref aT_text, .int vT_length, .ref aT_read, .int vT_readMany, .int vT_people, .int vT_toldDay, .int vT_toldBroken, .ref aT_spells, .int vT_many, .int vT_now, .int vT_deeds, .ref aT_pasts, .int vT_pastMany, .ref aT_keptStates, .ref aT_keptDeeds, .ref aT_isKept, .int vT_at, .int vT_place, .int vT_end, .int vT_readPeople, .int vT_readSpells, .int vT_lifted, .ref aT_fars, .ref aT_queue, .int vT_queued, .ref aT_later, .int vT_laterMany, .ref aT_onWay, .ref aT_row, .int vT_rowMany, .ref aT_princes, .int vT_princeMany, .ref aT_tries, .int vT_triedMany])), (aT_spells, .inl (G.2.1, 50, .inl fT_spells))] (some (.int r0)) := by
  refine RO_of (by decide) (Nat.le_of_ble_eq_true rfl) ?_
  intro p e s m ar below meth c R Q H ls X hR hP hKK hS0 hl ret
  generalize hrs : r0 = rs at hev ret
  have hl : lv_has ls 5 [(0, .ref aT), (1, .int p1), (2, .int p2)] := hl
  obtain ⟨hx, hb, hml, hown, hts, hT⟩ := id X
  have hK := hKK.1
  have hw : ∀ w ∈ T0, w.before ar s = true := fun w h => hts w (hT w h)
  have i11 := fun w h => hT w (inT11 w h)
  have J128 : ∀ (ls : Array Slot), f_Mo_canDo_J128 k vT_many vT_people fT_spells = some rs → lv_has ls 5 [] → W p l e R s m ar below meth c H [] 0 0 Q (F0 m 128 ls []) := by
    intro  ls hev hl
    unfold f_Mo_canDo_J128 at hev
    refine lv_iconst (v := (0 : Int32)) hx hb dX11_canDo_128 (by decide) ?_
    refine lv_goto (tgt := 156) hx hb dX11_canDo_129 (by decide) ?_
    exact ret _ _ _ dX11_canDo_156 ((show narrow _ (.int (0 : Int32)) = .int (0 : Int32) from nb0).trans (congrArg Value.int (Option.some.inj hev)))
  have J64 : ∀ (ls : Array Slot), f_Mo_canDo_J64 k vT_many vT_people fT_spells = some rs → lv_has ls 5 [] → W p l e R s m ar below meth c H [] 0 0 Q (F0 m 64 ls []) := by
    intro  ls hev hl
    unfold f_Mo_canDo_J64 at hev
    refine lv_iconst (v := (0 : Int32)) hx hb dX11_canDo_64 (by decide) ?_
    refine lv_goto (tgt := 156) hx hb dX11_canDo_65 (by decide) ?_
    exact ret _ _ _ dX11_canDo_156 ((show narrow _ (.int (0 : Int32)) = .int (0 : Int32) from nb0).trans (congrArg Value.int (Option.some.inj hev)))
  unfold f_Mo_canDo at hev
  refine lv_iload_n hx hb dX11_canDo_0 rfl (lv_at hl 2 rfl) ?_
  refine lv_bipush (v := (21 : Int32)) hx hb dX11_canDo_1 (by decide) ?_
  refine lv_icmp_ne (tgt := 8) hx hb dX11_canDo_3 (by decide) (fun c1 => ?_) (fun c1 => ?_)
  · replace hev := x_f c1 hev
    refine lv_iload_n hx hb dX11_canDo_8 rfl (lv_at hl 2 rfl) ?_
    refine lv_bipush (v := (7 : Int32)) hx hb dX11_canDo_9 (by decide) ?_
    refine lv_idiv hx hb dX11_canDo_11 (by decide) ?_
    refine lv_topi (fun y2 ey2 => ?_)
    replace hev := x_lt hev y2 ey2
    refine lv_istore_n (lv' := [(3, .int y2), (0, .ref aT), (1, .int p1), (2, .int p2)]) hx hb dX11_canDo_12 rfl hl (by decide) rfl (fun ls hl => ?_)
    refine lv_iload_n hx hb dX11_canDo_13 rfl (lv_at hl 3 rfl) ?_
    refine lv_bipush (v := (7 : Int32)) hx hb dX11_canDo_14 (by decide) ?_
    refine lv_irem hx hb dX11_canDo_16 (by decide) ?_
    refine lv_topi (fun y3 ey3 => ?_)
    replace hev := x_lt hev y3 ey3
    refine lv_istore (lv' := [(4, .int y3), (3, .int y2), (0, .ref aT), (1, .int p1), (2, .int p2)]) hx hb dX11_canDo_17 hl (by decide) rfl (fun ls hl => ?_)
    refine lv_iload_n hx hb dX11_canDo_19 rfl (lv_at hl 1 rfl) ?_
    refine lv_aload_n hx hb dX11_canDo_20 rfl (lv_at hl 2 rfl) ?_
    refine va_get (D := G.1) (ci := 7) (v := .int vT_people) (C := RX11) (T := TX11) (N := 34) hx hb hts i11 hown hK hP 0 rfl rfl 4 (by decide) (hw _ u1091) (fun _ h9 => h9) rfl dX11_canDo_21 ?_
    refine lv_icmp_ge (tgt := 37) hx hb dX11_canDo_24 (by decide) (fun c4 => ?_) (fun c4 => ?_)
    · replace hev := x_t c4 hev
      refine lv_iconst (v := (0 : Int32)) hx hb dX11_canDo_37 (by decide) ?_
      exact ret _ _ _ dX11_canDo_38 ((show narrow _ (.int (0 : Int32)) = .int (0 : Int32) from nb0).trans (congrArg Value.int (Option.some.inj hev)))
    · replace hev := x_f c4 hev
      refine lv_aload_n hx hb dX11_canDo_27 rfl (lv_at hl 2 rfl) ?_
      refine lv_iload_n hx hb dX11_canDo_28 rfl (lv_at hl 3 rfl) ?_
      refine lv_iload_n hx hb dX11_canDo_29 rfl (lv_at hl 1 rfl) ?_
      refine lv_iconst (v := (0 : Int32)) hx hb dX11_canDo_30 (by decide) ?_
      obtain ⟨y5, hq, hev⟩ := x_bd hev
      refine roV X hKK hR (st1 := [.int y5]) (c_Mo_isUnder l G aT aT_text aT_read aT_spells aT_pasts aT_keptStates aT_keptDeeds aT_isKept aT_fars aT_queue aT_later aT_onWay aT_row aT_princes aT_tries vT_length vT_readMany vT_people vT_toldDay vT_toldBroken vT_many vT_now vT_deeds vT_pastMany vT_at vT_place vT_end vT_readPeople vT_readSpells vT_lifted vT_queued vT_laterMany vT_rowMany vT_princeMany vT_triedMany fT_spells k p1 y2 (0 : Int32) y5 hq) K_X11_isUnder u1283 (x_Psub hP [0, 1] rfl) rfl (q0 := 0) rfl (by decide) ⟨Nat.zero_le _, Nat.zero_le _⟩ rfl hl.1 rfl (Nat.le_of_ble_eq_true rfl) rfl dX11_canDo_31 ?_
      refine lv_if_eq (tgt := 39) hx hb dX11_canDo_34 (by decide) (fun c6 => ?_) (fun c6 => ?_)
      · replace hev := x_t c6 hev
        refine lv_iload hx hb dX11_canDo_39 (lv_at hl 0 rfl) ?_
        refine lv_iconst (v := (3 : Int32)) hx hb dX11_canDo_41 (by decide) ?_
        refine lv_icmp_ge (tgt := 68) hx hb dX11_canDo_42 (by decide) (fun c7 => ?_) (fun c7 => ?_)
        · replace hev := x_t c7 hev
          refine lv_iload hx hb dX11_canDo_68 (lv_at hl 0 rfl) ?_
          refine lv_iconst (v := (3 : Int32)) hx hb dX11_canDo_70 (by decide) ?_
          refine lv_icmp_ne (tgt := 93) hx hb dX11_canDo_71 (by decide) (fun c8 => ?_) (fun c8 => ?_)
          · replace hev := x_f c8 hev
            refine lv_iload hx hb dX11_canDo_93 (lv_at hl 0 rfl) ?_
            refine lv_bipush (v := (6 : Int32)) hx hb dX11_canDo_95 (by decide) ?_
            refine lv_icmp_ge (tgt := 132) hx hb dX11_canDo_97 (by decide) (fun c9 => ?_) (fun c9 => ?_)
            · replace hev := x_t c9 hev
              refine lv_iload_n hx hb dX11_canDo_132 rfl (lv_at hl 3 rfl) ?_
              obtain ⟨y10, hq, hev⟩ := x_bd hev
              refine roS X hKK hR (st1 := [.int y10]) (c_Mo_askedOf l G p1 y10 hq) K_X11_askedOf u1319 (x_Psub hP [] rfl) (by decide) ⟨Nat.zero_le _, Nat.zero_le _⟩ rfl hl.1 rfl (Nat.le_of_ble_eq_true rfl) rfl dX11_canDo_133 ?_
              refine lv_bipush (v := (7 : Int32)) hx hb dX11_canDo_136 (by decide) ?_
              refine lv_icmp_ge (tgt := 155) hx hb dX11_canDo_138 (by decide) (fun c11 => ?_) (fun c11 => ?_)
              · replace hev := x_t c11 hev
                refine lv_iconst (v := (0 : Int32)) hx hb dX11_canDo_155 (by decide) ?_
                exact ret _ _ _ dX11_canDo_156 ((show narrow _ (.int (0 : Int32)) = .int (0 : Int32) from nb0).trans (congrArg Value.int (Option.some.inj hev)))
              · replace hev := x_f c11 hev
                refine lv_aload_n hx hb dX11_canDo_141 rfl (lv_at hl 2 rfl) ?_
                refine lv_iload_n hx hb dX11_canDo_142 rfl (lv_at hl 3 rfl) ?_
                refine lv_iload_n hx hb dX11_canDo_143 rfl (lv_at hl 1 rfl) ?_
                refine lv_iconst (v := (2 : Int32)) hx hb dX11_canDo_144 (by decide) ?_
                obtain ⟨y12, hq, hev⟩ := x_bd hev
                refine roV X hKK hR (st1 := [.int y12]) (c_Mo_isUnder l G aT aT_text aT_read aT_spells aT_pasts aT_keptStates aT_keptDeeds aT_isKept aT_fars aT_queue aT_later aT_onWay aT_row aT_princes aT_tries vT_length vT_readMany vT_people vT_toldDay vT_toldBroken vT_many vT_now vT_deeds vT_pastMany vT_at vT_place vT_end vT_readPeople vT_readSpells vT_lifted vT_queued vT_laterMany vT_rowMany vT_princeMany vT_triedMany fT_spells k p1 y2 (2 : Int32) y12 hq) K_X11_isUnder u1283 (x_Psub hP [0, 1] rfl) rfl (q0 := 0) rfl (by decide) ⟨Nat.zero_le _, Nat.zero_le _⟩ rfl hl.1 rfl (Nat.le_of_ble_eq_true rfl) rfl dX11_canDo_145 ?_
                refine lv_if_ne (tgt := 155) hx hb dX11_canDo_148 (by decide) (fun c13 => ?_) (fun c13 => ?_)
                · replace hev := x_f c13 hev
                  refine lv_iconst (v := (0 : Int32)) hx hb dX11_canDo_155 (by decide) ?_
                  exact ret _ _ _ dX11_canDo_156 ((show narrow _ (.int (0 : Int32)) = .int (0 : Int32) from nb0).trans (congrArg Value.int (Option.some.inj hev)))
                · replace hev := x_t c13 hev
                  refine lv_iconst (v := (1 : Int32)) hx hb dX11_canDo_151 (by decide) ?_
                  refine lv_goto (tgt := 156) hx hb dX11_canDo_152 (by decide) ?_
                  exact ret _ _ _ dX11_canDo_156 ((show narrow _ (.int (1 : Int32)) = .int (1 : Int32) from nb1).trans (congrArg Value.int (Option.some.inj hev)))
            · replace hev := x_f c9 hev
              refine lv_iload_n hx hb dX11_canDo_100 rfl (lv_at hl 3 rfl) ?_
              obtain ⟨y14, hq, hev⟩ := x_bd hev
              refine roS X hKK hR (st1 := [.int y14]) (c_Mo_brokenOf l G p1 y14 hq) K_X11_brokenOf u1316 (x_Psub hP [] rfl) (by decide) ⟨Nat.zero_le _, Nat.zero_le _⟩ rfl hl.1 rfl (Nat.le_of_ble_eq_true rfl) rfl dX11_canDo_101 ?_
              refine lv_iload hx hb dX11_canDo_104 (lv_at hl 0 rfl) ?_
              refine lv_iconst (v := (4 : Int32)) hx hb dX11_canDo_106 (by decide) ?_
              refine lv_isub hx hb dX11_canDo_107 ?_
              obtain ⟨y15, hq, hev⟩ := x_bd hev
              refine roS X hKK hR (st1 := [.int y15]) (c_Mo_has l G y14 (y3 - (4 : Int32)) y15 hq) K_X11_has u1287 (x_Psub hP [] rfl) (by decide) ⟨Nat.zero_le _, Nat.zero_le _⟩ rfl hl.1 rfl (Nat.le_of_ble_eq_true rfl) rfl dX11_canDo_108 ?_
              refine lv_if_ne (tgt := 128) hx hb dX11_canDo_111 (by decide) (fun c16 => ?_) (fun c16 => ?_)
              · replace hev := x_f c16 hev
                exact J128  ls hev (lv_sub hl [] rfl)
              · replace hev := x_t c16 hev
                refine lv_aload_n hx hb dX11_canDo_114 rfl (lv_at hl 2 rfl) ?_
                refine lv_iload_n hx hb dX11_canDo_115 rfl (lv_at hl 3 rfl) ?_
                refine lv_iload_n hx hb dX11_canDo_116 rfl (lv_at hl 1 rfl) ?_
                refine lv_iconst (v := (1 : Int32)) hx hb dX11_canDo_117 (by decide) ?_
                obtain ⟨y17, hq, hev⟩ := x_bd hev
                refine roV X hKK hR (st1 := [.int y17]) (c_Mo_isUnder l G aT aT_text aT_read aT_spells aT_pasts aT_keptStates aT_keptDeeds aT_isKept aT_fars aT_queue aT_later aT_onWay aT_row aT_princes aT_tries vT_length vT_readMany vT_people vT_toldDay vT_toldBroken vT_many vT_now vT_deeds vT_pastMany vT_at vT_place vT_end vT_readPeople vT_readSpells vT_lifted vT_queued vT_laterMany vT_rowMany vT_princeMany vT_triedMany fT_spells k p1 y2 (1 : Int32) y17 hq) K_X11_isUnder u1283 (x_Psub hP [0, 1] rfl) rfl (q0 := 0) rfl (by decide) ⟨Nat.zero_le _, Nat.zero_le _⟩ rfl hl.1 rfl (Nat.le_of_ble_eq_true rfl) rfl dX11_canDo_118 ?_
                refine lv_if_ne (tgt := 128) hx hb dX11_canDo_121 (by decide) (fun c18 => ?_) (fun c18 => ?_)
                · replace hev := x_f c18 hev
                  exact J128  ls hev (lv_sub hl [] rfl)
                · replace hev := x_t c18 hev
                  refine lv_iconst (v := (1 : Int32)) hx hb dX11_canDo_124 (by decide) ?_
                  refine lv_goto (tgt := 156) hx hb dX11_canDo_125 (by decide) ?_
                  exact ret _ _ _ dX11_canDo_156 ((show narrow _ (.int (1 : Int32)) = .int (1 : Int32) from nb1).trans (congrArg Value.int (Option.some.inj hev)))
          · replace hev := x_t c8 hev
            refine lv_iload_n hx hb dX11_canDo_74 rfl (lv_at hl 3 rfl) ?_
            obtain ⟨y19, hq, hev⟩ := x_bd hev
            refine roS X hKK hR (st1 := [.int y19]) (c_Mo_weepersOf l G p1 y19 hq) K_X11_weepersOf u1290 (x_Psub hP [] rfl) (by decide) ⟨Nat.zero_le _, Nat.zero_le _⟩ rfl hl.1 rfl (Nat.le_of_ble_eq_true rfl) rfl dX11_canDo_75 ?_
            refine lv_iload_n hx hb dX11_canDo_78 rfl (lv_at hl 1 rfl) ?_
            obtain ⟨y20, hq, hev⟩ := x_bd hev
            refine roS X hKK hR (st1 := [.int y20]) (c_Mo_has l G y19 y2 y20 hq) K_X11_has u1287 (x_Psub hP [] rfl) (by decide) ⟨Nat.zero_le _, Nat.zero_le _⟩ rfl hl.1 rfl (Nat.le_of_ble_eq_true rfl) rfl dX11_canDo_79 ?_
            refine lv_if_ne (tgt := 89) hx hb dX11_canDo_82 (by decide) (fun c21 => ?_) (fun c21 => ?_)
            · replace hev := x_f c21 hev
              refine lv_iconst (v := (0 : Int32)) hx hb dX11_canDo_89 (by decide) ?_
              refine lv_goto (tgt := 156) hx hb dX11_canDo_90 (by decide) ?_
              exact ret _ _ _ dX11_canDo_156 ((show narrow _ (.int (0 : Int32)) = .int (0 : Int32) from nb0).trans (congrArg Value.int (Option.some.inj hev)))
            · replace hev := x_t c21 hev
              refine lv_iconst (v := (1 : Int32)) hx hb dX11_canDo_85 (by decide) ?_
              refine lv_goto (tgt := 156) hx hb dX11_canDo_86 (by decide) ?_
              exact ret _ _ _ dX11_canDo_156 ((show narrow _ (.int (1 : Int32)) = .int (1 : Int32) from nb1).trans (congrArg Value.int (Option.some.inj hev)))
        · replace hev := x_f c7 hev
          refine lv_iload hx hb dX11_canDo_45 (lv_at hl 0 rfl) ?_
          refine lv_aload_n hx hb dX11_canDo_47 rfl (lv_at hl 2 rfl) ?_
          refine va_get (D := G.1) (ci := 7) (v := .int vT_people) (C := RX11) (T := TX11) (N := 34) hx hb hts i11 hown hK hP 0 rfl rfl 4 (by decide) (hw _ u1091) (fun _ h9 => h9) rfl dX11_canDo_48 ?_
          refine lv_icmp_ge (tgt := 64) hx hb dX11_canDo_51 (by decide) (fun c22 => ?_) (fun c22 => ?_)
          · replace hev := x_t c22 hev
            exact J64  ls hev (lv_sub hl [] rfl)
          · replace hev := x_f c22 hev
            refine lv_iload hx hb dX11_canDo_54 (lv_at hl 0 rfl) ?_
            refine lv_iload_n hx hb dX11_canDo_56 rfl (lv_at hl 1 rfl) ?_
            refine lv_icmp_eq (tgt := 64) hx hb dX11_canDo_57 (by decide) (fun c23 => ?_) (fun c23 => ?_)
            · replace hev := x_t c23 hev
              exact J64  ls hev (lv_sub hl [] rfl)
            · replace hev := x_f c23 hev
              refine lv_iconst (v := (1 : Int32)) hx hb dX11_canDo_60 (by decide) ?_
              refine lv_goto (tgt := 156) hx hb dX11_canDo_61 (by decide) ?_
              exact ret _ _ _ dX11_canDo_156 ((show narrow _ (.int (1 : Int32)) = .int (1 : Int32) from nb1).trans (congrArg Value.int (Option.some.inj hev)))
      · replace hev := x_f c6 hev
        refine lv_iconst (v := (0 : Int32)) hx hb dX11_canDo_37 (by decide) ?_
        exact ret _ _ _ dX11_canDo_38 ((show narrow _ (.int (0 : Int32)) = .int (0 : Int32) from nb0).trans (congrArg Value.int (Option.some.inj hev)))
  · replace hev := x_t c1 hev
    refine lv_iconst (v := (1 : Int32)) hx hb dX11_canDo_6 (by decide) ?_
    exact ret _ _ _ dX11_canDo_7 ((show narrow _ (.int (1 : Int32)) = .int (1 : Int32) from nb1).trans (congrArg Value.int (Option.some.inj hev)))
def f_Mo_doOnly (p1 : Int32) (p2 : Int32) : Option (Int32) := x_L ((p2 - p2 / (7 : Int32) * (7 : Int32))) (fun y1 => if p2 = (21 : Int32) then (x_L (((p1 &&& (8191 : Int32)) &&& (-897 : Int32))) (fun y6 => x_B (f_Mo_dayOf p1) (fun y7 => some (y6 ||| (((y7 + (1 : Int32)) - (y7 + (1 : Int32)) / (7 : Int32) * (7 : Int32)) <<< ((13 : Int32) &&& 31)))))) else if (3 : Int32) ≤ y1 then (if y1 = (3 : Int32) then (some (p1 ||| ((1 : Int32) <<< (((7 : Int32) + (p2 / (7 : Int32))) &&& 31)))) else if (6 : Int32) ≤ y1 then (some (p1 + (1024 : Int32))) else some (p1 ||| ((1 : Int32) <<< ((((5 : Int32) + y1) - (4 : Int32)) &&& 31)))) else some p1)
set_option maxHeartbeats 8000000 in
set_option maxRecDepth 100000 in
theorem c_Mo_doOnly (l : Launch) (G : GG) (aT aT_text aT_read aT_spells aT_pasts aT_keptStates aT_keptDeeds aT_isKept aT_fars aT_queue aT_later aT_onWay aT_row aT_princes aT_tries : Nat) (vT_length : Int32) (vT_readMany : Int32) (vT_people : Int32) (vT_toldDay : Int32) (vT_toldBroken : Int32) (vT_many : Int32) (vT_now : Int32) (vT_deeds : Int32) (vT_pastMany : Int32) (vT_at : Int32) (vT_place : Int32) (vT_end : Int32) (vT_readPeople : Int32) (vT_readSpells : Int32) (vT_lifted : Int32) (vT_queued : Int32) (vT_laterMany : Int32) (vT_rowMany : Int32) (vT_princeMany : Int32) (vT_triedMany : Int32) (p1 : Int32) (p2 : Int32) (r0 : Int32) (hev : f_Mo_doOnly p1 p2 = some r0) : RO l G yX11_doOnly cX11_doOnly 5 (some .int) 1 [.ref aT, .int p1, .int p2] [(aT, .inr (7, [.ref aT_text, .int vT_length, .ref aT_read, .int vT_readMany, .int vT_people, .int vT_toldDay, .int vT_toldBroken, .ref aT_spells, .int vT_many, .int vT_now, .int vT_deeds, .ref aT_pasts, .int vT_pastMany, .ref aT_keptStates, .ref aT_keptDeeds, .ref aT_isKept, .int vT_at, .int vT_place, .int vT_end, .int vT_readPeople, .int vT_readSpells, .int vT_lifted, .ref aT_fars, .ref aT_queue, .int vT_queued, .ref aT_later, .int vT_laterMany, .ref aT_onWay, .ref aT_row, .int vT_rowMany, .ref aT_princes, .int vT_princeMany, .ref aT_tries, .int vT_triedMany]))] (some (.int r0)) := by
  refine RO_of (by decide) (Nat.le_of_ble_eq_true rfl) ?_
  intro p e s m ar below meth c R Q H ls X hR hP hKK hS0 hl ret
  generalize hrs : r0 = rs at hev ret
  have hl : lv_has ls 5 [(0, .ref aT), (1, .int p1), (2, .int p2)] := hl
  obtain ⟨hx, hb, hml, hown, hts, hT⟩ := id X
  have hK := hKK.1
  have hw : ∀ w ∈ T0, w.before ar s = true := fun w h => hts w (hT w h)
  unfold f_Mo_doOnly at hev
  refine lv_iload_n hx hb dX11_doOnly_0 rfl (lv_at hl 2 rfl) ?_
  refine lv_bipush (v := (7 : Int32)) hx hb dX11_doOnly_1 (by decide) ?_
  refine lv_irem hx hb dX11_doOnly_3 (by decide) ?_
  refine lv_topi (fun y1 ey1 => ?_)
  replace hev := x_lt hev y1 ey1
  refine lv_istore_n (lv' := [(3, .int y1), (0, .ref aT), (1, .int p1), (2, .int p2)]) hx hb dX11_doOnly_4 rfl hl (by decide) rfl (fun ls hl => ?_)
  refine lv_iload_n hx hb dX11_doOnly_5 rfl (lv_at hl 3 rfl) ?_
  refine lv_bipush (v := (21 : Int32)) hx hb dX11_doOnly_6 (by decide) ?_
  refine lv_icmp_ne (tgt := 38) hx hb dX11_doOnly_8 (by decide) (fun c2 => ?_) (fun c2 => ?_)
  · replace hev := x_f c2 hev
    refine lv_iload_n hx hb dX11_doOnly_38 rfl (lv_at hl 0 rfl) ?_
    refine lv_iconst (v := (3 : Int32)) hx hb dX11_doOnly_39 (by decide) ?_
    refine lv_icmp_ge (tgt := 47) hx hb dX11_doOnly_40 (by decide) (fun c3 => ?_) (fun c3 => ?_)
    · replace hev := x_t c3 hev
      refine lv_iload_n hx hb dX11_doOnly_47 rfl (lv_at hl 0 rfl) ?_
      refine lv_iconst (v := (3 : Int32)) hx hb dX11_doOnly_48 (by decide) ?_
      refine lv_icmp_ne (tgt := 66) hx hb dX11_doOnly_49 (by decide) (fun c4 => ?_) (fun c4 => ?_)
      · replace hev := x_f c4 hev
        refine lv_iload_n hx hb dX11_doOnly_66 rfl (lv_at hl 0 rfl) ?_
        refine lv_bipush (v := (6 : Int32)) hx hb dX11_doOnly_67 (by decide) ?_
        refine lv_icmp_ge (tgt := 84) hx hb dX11_doOnly_69 (by decide) (fun c5 => ?_) (fun c5 => ?_)
        · replace hev := x_t c5 hev
          refine lv_iload_n hx hb dX11_doOnly_84 rfl (lv_at hl 2 rfl) ?_
          refine lv_sipush (v := (1024 : Int32)) hx hb dX11_doOnly_85 (by decide) ?_
          refine lv_iadd hx hb dX11_doOnly_88 ?_
          exact ret _ _ _ dX11_doOnly_89 ((show narrow _ (.int (p1 + (1024 : Int32))) = .int (p1 + (1024 : Int32)) from rfl).trans (congrArg Value.int (Option.some.inj hev)))
        · replace hev := x_f c5 hev
          refine lv_iload_n hx hb dX11_doOnly_72 rfl (lv_at hl 2 rfl) ?_
          refine lv_iconst (v := (1 : Int32)) hx hb dX11_doOnly_73 (by decide) ?_
          refine lv_iconst (v := (5 : Int32)) hx hb dX11_doOnly_74 (by decide) ?_
          refine lv_iload_n hx hb dX11_doOnly_75 rfl (lv_at hl 0 rfl) ?_
          refine lv_iadd hx hb dX11_doOnly_76 ?_
          refine lv_iconst (v := (4 : Int32)) hx hb dX11_doOnly_77 (by decide) ?_
          refine lv_isub hx hb dX11_doOnly_78 ?_
          refine lv_ishl hx hb dX11_doOnly_79 ?_
          refine lv_ior hx hb dX11_doOnly_80 ?_
          refine lv_goto (tgt := 89) hx hb dX11_doOnly_81 (by decide) ?_
          exact ret _ _ _ dX11_doOnly_89 ((show narrow _ (.int (p1 ||| ((1 : Int32) <<< ((((5 : Int32) + y1) - (4 : Int32)) &&& 31)))) = .int (p1 ||| ((1 : Int32) <<< ((((5 : Int32) + y1) - (4 : Int32)) &&& 31))) from rfl).trans (congrArg Value.int (Option.some.inj hev)))
      · replace hev := x_t c4 hev
        refine lv_iload_n hx hb dX11_doOnly_52 rfl (lv_at hl 2 rfl) ?_
        refine lv_iconst (v := (1 : Int32)) hx hb dX11_doOnly_53 (by decide) ?_
        refine lv_bipush (v := (7 : Int32)) hx hb dX11_doOnly_54 (by decide) ?_
        refine lv_iload_n hx hb dX11_doOnly_56 rfl (lv_at hl 3 rfl) ?_
        refine lv_bipush (v := (7 : Int32)) hx hb dX11_doOnly_57 (by decide) ?_
        refine lv_idiv hx hb dX11_doOnly_59 (by decide) ?_
        refine lv_iadd hx hb dX11_doOnly_60 ?_
        refine lv_ishl hx hb dX11_doOnly_61 ?_
        refine lv_ior hx hb dX11_doOnly_62 ?_
        refine lv_goto (tgt := 89) hx hb dX11_doOnly_63 (by decide) ?_
        exact ret _ _ _ dX11_doOnly_89 ((show narrow _ (.int (p1 ||| ((1 : Int32) <<< (((7 : Int32) + (p2 / (7 : Int32))) &&& 31)))) = .int (p1 ||| ((1 : Int32) <<< (((7 : Int32) + (p2 / (7 : Int32))) &&& 31))) from rfl).trans (congrArg Value.int (Option.some.inj hev)))
    · replace hev := x_f c3 hev
      refine lv_iload_n hx hb dX11_doOnly_43 rfl (lv_at hl 2 rfl) ?_
      refine lv_goto (tgt := 89) hx hb dX11_doOnly_44 (by decide) ?_
      exact ret _ _ _ dX11_doOnly_89 ((show narrow _ (.int p1) = .int p1 from rfl).trans (congrArg Value.int (Option.some.inj hev)))
  · replace hev := x_t c2 hev
    refine lv_iload_n hx hb dX11_doOnly_11 rfl (lv_at hl 2 rfl) ?_
    refine lv_sipush (v := (8191 : Int32)) hx hb dX11_doOnly_12 (by decide) ?_
    refine lv_iand hx hb dX11_doOnly_15 ?_
    refine lv_sipush (v := (-897 : Int32)) hx hb dX11_doOnly_16 (by decide) ?_
    refine lv_iand hx hb dX11_doOnly_19 ?_
    refine lv_topi (fun y6 ey6 => ?_)
    replace hev := x_lt hev y6 ey6
    refine lv_istore (lv' := [(4, .int y6), (3, .int y1), (0, .ref aT), (1, .int p1), (2, .int p2)]) hx hb dX11_doOnly_20 hl (by decide) rfl (fun ls hl => ?_)
    refine lv_iload hx hb dX11_doOnly_22 (lv_at hl 0 rfl) ?_
    refine lv_iload_n hx hb dX11_doOnly_24 rfl (lv_at hl 3 rfl) ?_
    obtain ⟨y7, hq, hev⟩ := x_bd hev
    refine roS X hKK hR (st1 := [.int y7, .int y6]) (c_Mo_dayOf l G p1 y7 hq) K_X11_dayOf u1313 (x_Psub hP [] rfl) (by decide) ⟨Nat.zero_le _, Nat.zero_le _⟩ rfl hl.1 rfl (Nat.le_of_ble_eq_true rfl) rfl dX11_doOnly_25 ?_
    refine lv_iconst (v := (1 : Int32)) hx hb dX11_doOnly_28 (by decide) ?_
    refine lv_iadd hx hb dX11_doOnly_29 ?_
    refine lv_bipush (v := (7 : Int32)) hx hb dX11_doOnly_30 (by decide) ?_
    refine lv_irem hx hb dX11_doOnly_32 (by decide) ?_
    refine lv_bipush (v := (13 : Int32)) hx hb dX11_doOnly_33 (by decide) ?_
    refine lv_ishl hx hb dX11_doOnly_35 ?_
    refine lv_ior hx hb dX11_doOnly_36 ?_
    exact ret _ _ _ dX11_doOnly_37 ((show narrow _ (.int (y6 ||| (((y7 + (1 : Int32)) - (y7 + (1 : Int32)) / (7 : Int32) * (7 : Int32)) <<< ((13 : Int32) &&& 31)))) = .int (y6 ||| (((y7 + (1 : Int32)) - (y7 + (1 : Int32)) / (7 : Int32) * (7 : Int32)) <<< ((13 : Int32) &&& 31))) from rfl).trans (congrArg Value.int (Option.some.inj hev)))
def f_Mo_behind_J120 (rec : Int32 → Int32 → Int32 → Option (Int32 × Int32)) (k : Nat) (vT_lifted : Int32) (vT_many : Int32) (fT_spells : Nat → Int32) (x2 : Int32) (x3 : Int32) (x4 : Int32) : Option (Int32 × Int32) := x_L (x4 + (1 : Int32)) (fun y2 => rec x3 y2 vT_lifted)
def f_Mo_behind_J118 (rec : Int32 → Int32 → Int32 → Option (Int32 × Int32)) (k : Nat) (vT_lifted : Int32) (vT_many : Int32) (fT_spells : Nat → Int32) (x2 : Int32) (x4 : Int32) (s0 : Int32) (s1 : Int32) : Option (Int32 × Int32) := x_L ((s1 ||| s0)) (fun y3 => f_Mo_behind_J120 rec k vT_lifted vT_many fT_spells x2 y3 x4)
def f_Mo_behind_L15 (vT_many : Int32) (fT_spells : Nat → Int32) (x2 : Int32) : Nat → Int32 → Int32 → Int32 → Option (Int32 × Int32)
  | 0, _, _, _ => none
  | k + 1, x3, x4, vT_lifted => if vT_many ≤ x4 then (some (x3, vT_lifted)) else x_B (f_Mo_has x3 x4) (fun y5 => if y5 = 0 then (f_Mo_behind_J120 (f_Mo_behind_L15 vT_many fT_spells x2 k) k vT_lifted vT_many fT_spells x2 x3 x4) else x_B (f_Mo_isBound k vT_many fT_spells x3 x4) (fun y7 => if y7 = 0 then (x_B (f_Mo_soMany k fT_spells x3 x4 x2) (fun y9 => x_L ((((10 : Int32) * x4) + (2 : Int32))) (fun y10 => x_I 50 fT_spells y10 (fun v12 => if y9 = v12 then (x_L ((vT_lifted ||| ((1 : Int32) <<< (x4 &&& 31)))) (fun y14 => x_L ((x3 &&& (((1 : Int32) <<< (x4 &&& 31)) ^^^ (-1 : Int32)))) (fun y15 => x_L ((((10 : Int32) * x4) + (9 : Int32))) (fun y16 => x_I 50 fT_spells y16 (fun v18 => if v18 = (-1 : Int32) then (f_Mo_behind_J118 (f_Mo_behind_L15 vT_many fT_spells x2 k) k y14 vT_many fT_spells x2 x4 (0 : Int32) y15) else f_Mo_behind_J118 (f_Mo_behind_L15 vT_many fT_spells x2 k) k y14 vT_many fT_spells x2 x4 ((1 : Int32) <<< (v18 &&& 31)) y15))))) else f_Mo_behind_J120 (f_Mo_behind_L15 vT_many fT_spells x2 k) k vT_lifted vT_many fT_spells x2 x3 x4)))) else f_Mo_behind_J120 (f_Mo_behind_L15 vT_many fT_spells x2 k) k vT_lifted vT_many fT_spells x2 x3 x4))
def f_Mo_behind (k : Nat) (vT_lifted : Int32) (vT_many : Int32) (fT_spells : Nat → Int32) (p1 : Int32) (p2 : Int32) : Option (Int32 × Int32) := x_B (f_Mo_doOnly p1 p2) (fun y1 => x_B (f_Mo_behind_L15 vT_many fT_spells p2 k y1 (0 : Int32) (0 : Int32)) (fun ⟨y20, w21⟩ => some (y20, w21)))
set_option maxHeartbeats 8000000 in
set_option maxRecDepth 100000 in
theorem c_Mo_behind (l : Launch) (G : GG) (aT aT_text aT_read aT_spells aT_pasts aT_keptStates aT_keptDeeds aT_isKept aT_fars aT_queue aT_later aT_onWay aT_row aT_princes aT_tries : Nat) (vT_length : Int32) (vT_readMany : Int32) (vT_people : Int32) (vT_toldDay : Int32) (vT_toldBroken : Int32) (vT_many : Int32) (vT_now : Int32) (vT_deeds : Int32) (vT_pastMany : Int32) (vT_at : Int32) (vT_place : Int32) (vT_end : Int32) (vT_readPeople : Int32) (vT_readSpells : Int32) (vT_lifted : Int32) (vT_queued : Int32) (vT_laterMany : Int32) (vT_rowMany : Int32) (vT_princeMany : Int32) (vT_triedMany : Int32) (fT_spells : Nat → Int32) (k : Nat) (p1 : Int32) (p2 : Int32) (r0 : Int32) (wvT_lifted : Int32) (hev : f_Mo_behind k vT_lifted vT_many fT_spells p1 p2 = some (r0, wvT_lifted)) : RW l G yX11_behind cX11_behind 6 (some .int) 3 [.ref aT, .int p1, .int p2] [(aT, .inr (7, [.ref aT_text, .int vT_length, .ref aT_read, .int vT_readMany, .int vT_people, .int vT_toldDay, .int vT_toldBroken, .ref aT_spells, .int vT_many, .int vT_now, .int vT_deeds, .ref aT_pasts, .int vT_pastMany, .ref aT_keptStates, .ref aT_keptDeeds, .ref aT_isKept, .int vT_at, .int vT_place, .int vT_end, .int vT_readPeople, .int vT_readSpells, .int vT_lifted, .ref aT_fars, .ref aT_queue, .int vT_queued, .ref aT_later, .int vT_laterMany, .ref aT_onWay, .ref aT_row, .int vT_rowMany, .ref aT_princes, .int vT_princeMany, .ref aT_tries, .int vT_triedMany])), (aT_spells, .inl (G.2.1, 50, .inl fT_spells))] (some (.int r0)) [(aT, .inr (7, [.ref aT_text, .int vT_length, .ref aT_read, .int vT_readMany, .int vT_people, .int vT_toldDay, .int vT_toldBroken, .ref aT_spells, .int vT_many, .int vT_now, .int vT_deeds, .ref aT_pasts, .int vT_pastMany, .ref aT_keptStates, .ref aT_keptDeeds, .ref aT_isKept, .int vT_at, .int vT_place, .int vT_end, .int vT_readPeople, .int vT_readSpells, .int wvT_lifted, .ref aT_fars, .ref aT_queue, .int vT_queued, .ref aT_later, .int vT_laterMany, .ref aT_onWay, .ref aT_row, .int vT_rowMany, .ref aT_princes, .int vT_princeMany, .ref aT_tries, .int vT_triedMany])), (aT_spells, .inl (G.2.1, 50, .inl fT_spells))] 0 0 := by
  refine RW_of (by decide) (Nat.le_of_ble_eq_true rfl) ?_
  intro p e s m ar below meth c R Q A ls X hR hRc hin hP hKK hD hS hA hAb hl ret
  obtain ⟨rs, hrs⟩ : ∃ q, q = (r0, wvT_lifted) := ⟨_, rfl⟩
  rw [← hrs] at hev
  have ret2 : ∀ (pc : Nat) (ls : Array Slot) (H : Heap) (lo : List Loc) (v r1 : Int32) (zvT_lifted : Int32), (r1, zvT_lifted) = rs → decode cX11_behind pc = .ok (.ireturn, 1) → narrow .int (.int v) = .int r1 → va_P G.1 classes [(aT, .inr (7, [.ref aT_text, .int vT_length, .ref aT_read, .int vT_readMany, .int vT_people, .int vT_toldDay, .int vT_toldBroken, .ref aT_spells, .int vT_many, .int vT_now, .int vT_deeds, .ref aT_pasts, .int vT_pastMany, .ref aT_keptStates, .ref aT_keptDeeds, .ref aT_isKept, .int vT_at, .int vT_place, .int vT_end, .int vT_readPeople, .int vT_readSpells, .int zvT_lifted, .ref aT_fars, .ref aT_queue, .int vT_queued, .ref aT_later, .int vT_laterMany, .ref aT_onWay, .ref aT_row, .int vT_rowMany, .ref aT_princes, .int vT_princeMany, .ref aT_tries, .int vT_triedMany])), (aT_spells, .inl (G.2.1, 50, .inl fT_spells))] H → va_D A [(aT, .inr (7, [.ref aT_text, .int vT_length, .ref aT_read, .int vT_readMany, .int vT_people, .int vT_toldDay, .int vT_toldBroken, .ref aT_spells, .int vT_many, .int vT_now, .int vT_deeds, .ref aT_pasts, .int vT_pastMany, .ref aT_keptStates, .ref aT_keptDeeds, .ref aT_isKept, .int vT_at, .int vT_place, .int vT_end, .int vT_readPeople, .int vT_readSpells, .int zvT_lifted, .ref aT_fars, .ref aT_queue, .int vT_queued, .ref aT_later, .int vT_laterMany, .ref aT_onWay, .ref aT_row, .int vT_rowMany, .ref aT_princes, .int vT_princeMany, .ref aT_tries, .int vT_triedMany])), (aT_spells, .inl (G.2.1, 50, .inl fT_spells))] → va_S A s.heap H lo → W p l e R s m ar below meth c H lo 0 0 Q (F0 m pc ls [.int v]) := by
    intro pc ls H lo v r1 zvT_lifted he hd hn h1 h2 h3
    have he := he.trans hrs
    cases he
    exact ret.1 _ _ _ _ _ _ _ rfl rfl hd hn h1 h2 h3
  clear ret hrs
  have hl : lv_has ls 6 [(0, .ref aT), (1, .int p1), (2, .int p2)] := hl
  obtain ⟨hx, hb, hml, hown, hts, hT⟩ := id X
  have hK := hKK.1
  have hw : ∀ w ∈ T0, w.before ar s = true := fun w h => hts w (hT w h)
  have i11 := fun w h => hT w (inT11 w h)
  unfold f_Mo_behind at hev
  refine lv_aload_n hx hb dX11_behind_0 rfl (lv_at hl 0 rfl) ?_
  refine lv_iload_n hx hb dX11_behind_1 rfl (lv_at hl 1 rfl) ?_
  refine lv_iload_n hx hb dX11_behind_2 rfl (lv_at hl 2 rfl) ?_
  obtain ⟨y1, hq, hev⟩ := x_bd hev
  refine roV X (KK_at hKK hS hAb) hR (st1 := [.int y1]) (c_Mo_doOnly l G aT aT_text aT_read aT_spells aT_pasts aT_keptStates aT_keptDeeds aT_isKept aT_fars aT_queue aT_later aT_onWay aT_row aT_princes aT_tries vT_length vT_readMany vT_people vT_toldDay vT_toldBroken vT_many vT_now vT_deeds vT_pastMany vT_at vT_place vT_end vT_readPeople vT_readSpells vT_lifted vT_queued vT_laterMany vT_rowMany vT_princeMany vT_triedMany p1 p2 y1 hq) K_X11_doOnly u1357 (x_Psub hP [0] rfl) rfl (q0 := 0) rfl (by decide) ⟨Nat.zero_le _, Nat.zero_le _⟩ rfl hl.1 rfl (Nat.le_of_ble_eq_true rfl) rfl dX11_behind_3 ?_
  refine lv_istore_n (lv' := [(3, .int y1), (0, .ref aT), (1, .int p1), (2, .int p2)]) hx hb dX11_behind_6 rfl hl (by decide) rfl (fun ls hl => ?_)
  refine lv_aload_n hx hb dX11_behind_7 rfl (lv_at hl 1 rfl) ?_
  refine lv_iconst (v := (0 : Int32)) hx hb dX11_behind_8 (by decide) ?_
  refine va_put (D := G.1) (ci := 7) (v := .int (0 : Int32)) (ty := .int) (C := RX11) (T := TX11) (N := 34) hx hb hts i11 tyX11 tyX11_ok nmX11 hown hK hP hD hS 0 rfl rfl 21 (by decide) (hw _ u1108) (fun _ h9 => h9) rfl (by decide +kernel) rfl rfl (Nat.le_of_ble_eq_true rfl) dX11_behind_9 (fun H lo hP hD hS => ?_)
  refine lv_iconst (v := (0 : Int32)) hx hb dX11_behind_12 (by decide) ?_
  refine lv_istore (lv' := [(4, .int (0 : Int32)), (3, .int y1), (0, .ref aT), (1, .int p1), (2, .int p2)]) hx hb dX11_behind_13 hl (by decide) rfl (fun ls hl => ?_)
  have L15 : ∀ (x2 : Int32), ∀ (k : Nat) (x3 : Int32) (x4 : Int32) (vT_lifted : Int32) (o3 : Int32) (ovT_lifted : Int32), f_Mo_behind_L15 vT_many fT_spells x2 k x3 x4 vT_lifted = some (o3, ovT_lifted) → (∀ (H : Heap) (lo : List Loc), va_P G.1 classes [(aT, .inr (7, [.ref aT_text, .int vT_length, .ref aT_read, .int vT_readMany, .int vT_people, .int vT_toldDay, .int vT_toldBroken, .ref aT_spells, .int vT_many, .int vT_now, .int vT_deeds, .ref aT_pasts, .int vT_pastMany, .ref aT_keptStates, .ref aT_keptDeeds, .ref aT_isKept, .int vT_at, .int vT_place, .int vT_end, .int vT_readPeople, .int vT_readSpells, .int ovT_lifted, .ref aT_fars, .ref aT_queue, .int vT_queued, .ref aT_later, .int vT_laterMany, .ref aT_onWay, .ref aT_row, .int vT_rowMany, .ref aT_princes, .int vT_princeMany, .ref aT_tries, .int vT_triedMany])), (aT_spells, .inl (G.2.1, 50, .inl fT_spells))] H → va_D A [(aT, .inr (7, [.ref aT_text, .int vT_length, .ref aT_read, .int vT_readMany, .int vT_people, .int vT_toldDay, .int vT_toldBroken, .ref aT_spells, .int vT_many, .int vT_now, .int vT_deeds, .ref aT_pasts, .int vT_pastMany, .ref aT_keptStates, .ref aT_keptDeeds, .ref aT_isKept, .int vT_at, .int vT_place, .int vT_end, .int vT_readPeople, .int vT_readSpells, .int ovT_lifted, .ref aT_fars, .ref aT_queue, .int vT_queued, .ref aT_later, .int vT_laterMany, .ref aT_onWay, .ref aT_row, .int vT_rowMany, .ref aT_princes, .int vT_princeMany, .ref aT_tries, .int vT_triedMany])), (aT_spells, .inl (G.2.1, 50, .inl fT_spells))] → va_S A s.heap H lo → ∀ (ls : Array Slot), lv_has ls 6 [(3, .int o3)] → W p l e R s m ar below meth c H lo 0 0 Q (F0 m 126 ls [])) → ∀ (H : Heap) (lo : List Loc), va_P G.1 classes [(aT, .inr (7, [.ref aT_text, .int vT_length, .ref aT_read, .int vT_readMany, .int vT_people, .int vT_toldDay, .int vT_toldBroken, .ref aT_spells, .int vT_many, .int vT_now, .int vT_deeds, .ref aT_pasts, .int vT_pastMany, .ref aT_keptStates, .ref aT_keptDeeds, .ref aT_isKept, .int vT_at, .int vT_place, .int vT_end, .int vT_readPeople, .int vT_readSpells, .int vT_lifted, .ref aT_fars, .ref aT_queue, .int vT_queued, .ref aT_later, .int vT_laterMany, .ref aT_onWay, .ref aT_row, .int vT_rowMany, .ref aT_princes, .int vT_princeMany, .ref aT_tries, .int vT_triedMany])), (aT_spells, .inl (G.2.1, 50, .inl fT_spells))] H → va_D A [(aT, .inr (7, [.ref aT_text, .int vT_length, .ref aT_read, .int vT_readMany, .int vT_people, .int vT_toldDay, .int vT_toldBroken, .ref aT_spells, .int vT_many, .int vT_now, .int vT_deeds, .ref aT_pasts, .int vT_pastMany, .ref aT_keptStates, .ref aT_keptDeeds, .ref aT_isKept, .int vT_at, .int vT_place, .int vT_end, .int vT_readPeople, .int vT_readSpells, .int vT_lifted, .ref aT_fars, .ref aT_queue, .int vT_queued, .ref aT_later, .int vT_laterMany, .ref aT_onWay, .ref aT_row, .int vT_rowMany, .ref aT_princes, .int vT_princeMany, .ref aT_tries, .int vT_triedMany])), (aT_spells, .inl (G.2.1, 50, .inl fT_spells))] → va_S A s.heap H lo → ∀ (ls : Array Slot), lv_has ls 6 [(0, .ref aT), (2, .int x2), (3, .int x3), (4, .int x4)] → W p l e R s m ar below meth c H lo 0 0 Q (F0 m 15 ls []) := by
    intro x2 k
    induction k with
    | zero => intro x3 x4 vT_lifted o3 ovT_lifted hev; rw [f_Mo_behind_L15] at hev; cases hev
    | succ k ih =>
      intro x3 x4 vT_lifted o3 ovT_lifted hev hex H lo hP hD hS ls hl
      rw [f_Mo_behind_L15] at hev
      have J120 : ∀ (vT_lifted : Int32) (x3 : Int32) (x4 : Int32), ∀ (H : Heap) (lo : List Loc), va_P G.1 classes [(aT, .inr (7, [.ref aT_text, .int vT_length, .ref aT_read, .int vT_readMany, .int vT_people, .int vT_toldDay, .int vT_toldBroken, .ref aT_spells, .int vT_many, .int vT_now, .int vT_deeds, .ref aT_pasts, .int vT_pastMany, .ref aT_keptStates, .ref aT_keptDeeds, .ref aT_isKept, .int vT_at, .int vT_place, .int vT_end, .int vT_readPeople, .int vT_readSpells, .int vT_lifted, .ref aT_fars, .ref aT_queue, .int vT_queued, .ref aT_later, .int vT_laterMany, .ref aT_onWay, .ref aT_row, .int vT_rowMany, .ref aT_princes, .int vT_princeMany, .ref aT_tries, .int vT_triedMany])), (aT_spells, .inl (G.2.1, 50, .inl fT_spells))] H → va_D A [(aT, .inr (7, [.ref aT_text, .int vT_length, .ref aT_read, .int vT_readMany, .int vT_people, .int vT_toldDay, .int vT_toldBroken, .ref aT_spells, .int vT_many, .int vT_now, .int vT_deeds, .ref aT_pasts, .int vT_pastMany, .ref aT_keptStates, .ref aT_keptDeeds, .ref aT_isKept, .int vT_at, .int vT_place, .int vT_end, .int vT_readPeople, .int vT_readSpells, .int vT_lifted, .ref aT_fars, .ref aT_queue, .int vT_queued, .ref aT_later, .int vT_laterMany, .ref aT_onWay, .ref aT_row, .int vT_rowMany, .ref aT_princes, .int vT_princeMany, .ref aT_tries, .int vT_triedMany])), (aT_spells, .inl (G.2.1, 50, .inl fT_spells))] → va_S A s.heap H lo → ∀ (ls : Array Slot), f_Mo_behind_J120 (f_Mo_behind_L15 vT_many fT_spells x2 k) k vT_lifted vT_many fT_spells x2 x3 x4 = some (o3, ovT_lifted) → lv_has ls 6 [(0, .ref aT), (2, .int x2), (3, .int x3), (4, .int x4)] → W p l e R s m ar below meth c H lo 0 0 Q (F0 m 120 ls []) := by
        intro vT_lifted x3 x4 H lo hP hD hS ls hev hl
        unfold f_Mo_behind_J120 at hev
        obtain ⟨y2, ey2⟩ : ∃ y : Int32, y = x4 + (1 : Int32) := ⟨_, rfl⟩
        refine lv_iinc (v := y2) (lv' := [(4, .int y2), (0, .ref aT), (2, .int x2), (3, .int x3)]) hx hb dX11_behind_120 hl (k := 3) rfl (by rw [ey2]; rfl) (by decide) rfl (fun ls hl => ?_)
        replace hev := x_lt hev y2 ey2
        refine lv_goto (tgt := 15) hx hb dX11_behind_123 (by decide) ?_
        exact ih x3 y2 vT_lifted _ _ hev hex _ _ hP hD hS ls (lv_sub hl [1, 2, 3, 0] rfl)
      have J118 : ∀ (vT_lifted : Int32) (x4 : Int32) (s0 : Int32) (s1 : Int32), ∀ (H : Heap) (lo : List Loc), va_P G.1 classes [(aT, .inr (7, [.ref aT_text, .int vT_length, .ref aT_read, .int vT_readMany, .int vT_people, .int vT_toldDay, .int vT_toldBroken, .ref aT_spells, .int vT_many, .int vT_now, .int vT_deeds, .ref aT_pasts, .int vT_pastMany, .ref aT_keptStates, .ref aT_keptDeeds, .ref aT_isKept, .int vT_at, .int vT_place, .int vT_end, .int vT_readPeople, .int vT_readSpells, .int vT_lifted, .ref aT_fars, .ref aT_queue, .int vT_queued, .ref aT_later, .int vT_laterMany, .ref aT_onWay, .ref aT_row, .int vT_rowMany, .ref aT_princes, .int vT_princeMany, .ref aT_tries, .int vT_triedMany])), (aT_spells, .inl (G.2.1, 50, .inl fT_spells))] H → va_D A [(aT, .inr (7, [.ref aT_text, .int vT_length, .ref aT_read, .int vT_readMany, .int vT_people, .int vT_toldDay, .int vT_toldBroken, .ref aT_spells, .int vT_many, .int vT_now, .int vT_deeds, .ref aT_pasts, .int vT_pastMany, .ref aT_keptStates, .ref aT_keptDeeds, .ref aT_isKept, .int vT_at, .int vT_place, .int vT_end, .int vT_readPeople, .int vT_readSpells, .int vT_lifted, .ref aT_fars, .ref aT_queue, .int vT_queued, .ref aT_later, .int vT_laterMany, .ref aT_onWay, .ref aT_row, .int vT_rowMany, .ref aT_princes, .int vT_princeMany, .ref aT_tries, .int vT_triedMany])), (aT_spells, .inl (G.2.1, 50, .inl fT_spells))] → va_S A s.heap H lo → ∀ (ls : Array Slot), f_Mo_behind_J118 (f_Mo_behind_L15 vT_many fT_spells x2 k) k vT_lifted vT_many fT_spells x2 x4 s0 s1 = some (o3, ovT_lifted) → lv_has ls 6 [(0, .ref aT), (2, .int x2), (4, .int x4)] → W p l e R s m ar below meth c H lo 0 0 Q (F0 m 118 ls [.int s0, .int s1]) := by
        intro vT_lifted x4 s0 s1 H lo hP hD hS ls hev hl
        unfold f_Mo_behind_J118 at hev
        refine lv_ior hx hb dX11_behind_118 ?_
        refine lv_topi (fun y3 ey3 => ?_)
        replace hev := x_lt hev y3 ey3
        refine lv_istore_n (lv' := [(3, .int y3), (0, .ref aT), (2, .int x2), (4, .int x4)]) hx hb dX11_behind_119 rfl hl (by decide) rfl (fun ls hl => ?_)
        exact J120 vT_lifted y3 x4 _ _ hP hD hS ls hev (lv_sub hl [1, 2, 0, 3] rfl)
      refine lv_iload hx hb dX11_behind_15 (lv_at hl 3 rfl) ?_
      refine lv_aload_n hx hb dX11_behind_17 rfl (lv_at hl 0 rfl) ?_
      refine va_get (D := G.1) (ci := 7) (v := .int vT_many) (C := RX11) (T := TX11) (N := 34) hx hb hts i11 hown hK hP 0 rfl rfl 8 (by decide) (hw _ u1095) (fun _ h9 => h9) rfl dX11_behind_18 ?_
      refine lv_icmp_ge (tgt := 126) hx hb dX11_behind_21 (by decide) (fun c4 => ?_) (fun c4 => ?_)
      · replace hev := x_t c4 hev
        cases hev
        exact hex _ _ hP hD hS ls (lv_sub hl [2] rfl)
      · replace hev := x_f c4 hev
        refine lv_iload_n hx hb dX11_behind_24 rfl (lv_at hl 2 rfl) ?_
        refine lv_iload hx hb dX11_behind_25 (lv_at hl 3 rfl) ?_
        obtain ⟨y5, hq, hev⟩ := x_bd hev
        refine roS X (KK_at hKK hS hAb) hR (st1 := [.int y5]) (c_Mo_has l G x3 x4 y5 hq) K_X11_has u1287 (x_Psub hP [] rfl) (by decide) ⟨Nat.zero_le _, Nat.zero_le _⟩ rfl hl.1 rfl (Nat.le_of_ble_eq_true rfl) rfl dX11_behind_27 ?_
        refine lv_if_eq (tgt := 120) hx hb dX11_behind_30 (by decide) (fun c6 => ?_) (fun c6 => ?_)
        · replace hev := x_t c6 hev
          exact J120 vT_lifted x3 x4 _ _ hP hD hS ls hev (lv_sub hl [0, 1, 2, 3] rfl)
        · replace hev := x_f c6 hev
          refine lv_aload_n hx hb dX11_behind_33 rfl (lv_at hl 0 rfl) ?_
          refine lv_iload_n hx hb dX11_behind_34 rfl (lv_at hl 2 rfl) ?_
          refine lv_iload hx hb dX11_behind_35 (lv_at hl 3 rfl) ?_
          obtain ⟨y7, hq, hev⟩ := x_bd hev
          refine roV X (KK_at hKK hS hAb) hR (st1 := [.int y7]) (c_Mo_isBound l G aT aT_text aT_read aT_spells aT_pasts aT_keptStates aT_keptDeeds aT_isKept aT_fars aT_queue aT_later aT_onWay aT_row aT_princes aT_tries vT_length vT_readMany vT_people vT_toldDay vT_toldBroken vT_many vT_now vT_deeds vT_pastMany vT_at vT_place vT_end vT_readPeople vT_readSpells vT_lifted vT_queued vT_laterMany vT_rowMany vT_princeMany vT_triedMany fT_spells k x3 x4 y7 hq) K_X11_isBound u1301 (x_Psub hP [0, 1] rfl) rfl (q0 := 0) rfl (by decide) ⟨Nat.zero_le _, Nat.zero_le _⟩ rfl hl.1 rfl (Nat.le_of_ble_eq_true rfl) rfl dX11_behind_37 ?_
          refine lv_if_ne (tgt := 120) hx hb dX11_behind_40 (by decide) (fun c8 => ?_) (fun c8 => ?_)
          · replace hev := x_f c8 hev
            exact J120 vT_lifted x3 x4 _ _ hP hD hS ls hev (lv_sub hl [0, 1, 2, 3] rfl)
          · replace hev := x_t c8 hev
            refine lv_aload_n hx hb dX11_behind_43 rfl (lv_at hl 0 rfl) ?_
            refine lv_iload_n hx hb dX11_behind_44 rfl (lv_at hl 2 rfl) ?_
            refine lv_iload hx hb dX11_behind_45 (lv_at hl 3 rfl) ?_
            refine lv_iload_n hx hb dX11_behind_47 rfl (lv_at hl 1 rfl) ?_
            obtain ⟨y9, hq, hev⟩ := x_bd hev
            refine roV X (KK_at hKK hS hAb) hR (st1 := [.int y9]) (c_Mo_soMany l G aT aT_text aT_read aT_spells aT_pasts aT_keptStates aT_keptDeeds aT_isKept aT_fars aT_queue aT_later aT_onWay aT_row aT_princes aT_tries vT_length vT_readMany vT_people vT_toldDay vT_toldBroken vT_many vT_now vT_deeds vT_pastMany vT_at vT_place vT_end vT_readPeople vT_readSpells vT_lifted vT_queued vT_laterMany vT_rowMany vT_princeMany vT_triedMany fT_spells k x3 x4 x2 y9 hq) K_X11_soMany u1327 (x_Psub hP [0, 1] rfl) rfl (q0 := 0) rfl (by decide) ⟨Nat.zero_le _, Nat.zero_le _⟩ rfl hl.1 rfl (Nat.le_of_ble_eq_true rfl) rfl dX11_behind_48 ?_
            refine lv_aload_n hx hb dX11_behind_51 rfl (lv_at hl 0 rfl) ?_
            refine va_get (D := G.1) (ci := 7) (v := .ref aT_spells) (C := RX11) (T := TX11) (N := 34) hx hb hts i11 hown hK hP 0 rfl rfl 7 (by decide) (hw _ u1094) (fun _ h9 => h9) rfl dX11_behind_52 ?_
            refine lv_bipush (v := (10 : Int32)) hx hb dX11_behind_55 (by decide) ?_
            refine lv_iload hx hb dX11_behind_57 (lv_at hl 3 rfl) ?_
            refine lv_imul hx hb dX11_behind_59 ?_
            refine lv_iconst (v := (2 : Int32)) hx hb dX11_behind_60 (by decide) ?_
            refine lv_iadd hx hb dX11_behind_61 ?_
            refine lv_topi (fun y10 ey10 => ?_)
            replace hev := x_lt hev y10 ey10
            obtain ⟨h11, hev⟩ := x_ld hev
            refine va_iald hx hb hK hP 1 0 rfl rfl h11 dX11_behind_62 ?_
            refine lv_topi (fun v12 ev12 => ?_)
            replace hev := hev v12 ev12
            refine lv_icmp_ne (tgt := 120) hx hb dX11_behind_63 (by decide) (fun c13 => ?_) (fun c13 => ?_)
            · replace hev := x_f c13 hev
              exact J120 vT_lifted x3 x4 _ _ hP hD hS ls hev (lv_sub hl [0, 1, 2, 3] rfl)
            · replace hev := x_t c13 hev
              refine lv_aload_n hx hb dX11_behind_66 rfl (lv_at hl 0 rfl) ?_
              refine lv_dup hx hb dX11_behind_67 rfl ?_
              refine va_get (D := G.1) (ci := 7) (v := .int vT_lifted) (C := RX11) (T := TX11) (N := 34) hx hb hts i11 hown hK hP 0 rfl rfl 21 (by decide) (hw _ u1108) (fun _ h9 => h9) rfl dX11_behind_68 ?_
              refine lv_iconst (v := (1 : Int32)) hx hb dX11_behind_71 (by decide) ?_
              refine lv_iload hx hb dX11_behind_72 (lv_at hl 3 rfl) ?_
              refine lv_ishl hx hb dX11_behind_74 ?_
              refine lv_ior hx hb dX11_behind_75 ?_
              refine lv_topi (fun y14 ey14 => ?_)
              replace hev := x_lt hev y14 ey14
              refine va_put (D := G.1) (ci := 7) (v := .int y14) (ty := .int) (C := RX11) (T := TX11) (N := 34) hx hb hts i11 tyX11 tyX11_ok nmX11 hown hK hP hD hS 0 rfl rfl 21 (by decide) (hw _ u1108) (fun _ h9 => h9) rfl (by decide +kernel) rfl rfl (Nat.le_of_ble_eq_true rfl) dX11_behind_76 (fun H lo hP hD hS => ?_)
              refine lv_iload_n hx hb dX11_behind_79 rfl (lv_at hl 2 rfl) ?_
              refine lv_iconst (v := (1 : Int32)) hx hb dX11_behind_80 (by decide) ?_
              refine lv_iload hx hb dX11_behind_81 (lv_at hl 3 rfl) ?_
              refine lv_ishl hx hb dX11_behind_83 ?_
              refine lv_iconst (v := (-1 : Int32)) hx hb dX11_behind_84 (by decide) ?_
              refine lv_ixor hx hb dX11_behind_85 ?_
              refine lv_iand hx hb dX11_behind_86 ?_
              refine lv_topi (fun y15 ey15 => ?_)
              replace hev := x_lt hev y15 ey15
              refine lv_istore_n (lv' := [(3, .int y15), (0, .ref aT), (2, .int x2), (4, .int x4)]) hx hb dX11_behind_87 rfl hl (by decide) rfl (fun ls hl => ?_)
              refine lv_aload_n hx hb dX11_behind_88 rfl (lv_at hl 1 rfl) ?_
              refine va_get (D := G.1) (ci := 7) (v := .ref aT_spells) (C := RX11) (T := TX11) (N := 34) hx hb hts i11 hown hK hP 0 rfl rfl 7 (by decide) (hw _ u1094) (fun _ h9 => h9) rfl dX11_behind_89 ?_
              refine lv_bipush (v := (10 : Int32)) hx hb dX11_behind_92 (by decide) ?_
              refine lv_iload hx hb dX11_behind_94 (lv_at hl 3 rfl) ?_
              refine lv_imul hx hb dX11_behind_96 ?_
              refine lv_bipush (v := (9 : Int32)) hx hb dX11_behind_97 (by decide) ?_
              refine lv_iadd hx hb dX11_behind_99 ?_
              refine lv_topi (fun y16 ey16 => ?_)
              replace hev := x_lt hev y16 ey16
              obtain ⟨h17, hev⟩ := x_ld hev
              refine va_iald hx hb hK hP 1 0 rfl rfl h17 dX11_behind_100 ?_
              refine lv_topi (fun v18 ev18 => ?_)
              replace hev := hev v18 ev18
              refine lv_istore (lv' := [(5, .int v18), (3, .int y15), (0, .ref aT), (2, .int x2), (4, .int x4)]) hx hb dX11_behind_101 hl (by decide) rfl (fun ls hl => ?_)
              refine lv_iload_n hx hb dX11_behind_103 rfl (lv_at hl 1 rfl) ?_
              refine lv_iload hx hb dX11_behind_104 (lv_at hl 0 rfl) ?_
              refine lv_iconst (v := (-1 : Int32)) hx hb dX11_behind_106 (by decide) ?_
              refine lv_icmp_ne (tgt := 114) hx hb dX11_behind_107 (by decide) (fun c19 => ?_) (fun c19 => ?_)
              · replace hev := x_f c19 hev
                refine lv_iconst (v := (1 : Int32)) hx hb dX11_behind_114 (by decide) ?_
                refine lv_iload hx hb dX11_behind_115 (lv_at hl 0 rfl) ?_
                refine lv_ishl hx hb dX11_behind_117 ?_
                exact J118 y14 x4 ((1 : Int32) <<< (v18 &&& 31)) y15 _ _ hP hD hS ls hev (lv_sub hl [2, 3, 4] rfl)
              · replace hev := x_t c19 hev
                refine lv_iconst (v := (0 : Int32)) hx hb dX11_behind_110 (by decide) ?_
                refine lv_goto (tgt := 118) hx hb dX11_behind_111 (by decide) ?_
                exact J118 y14 x4 (0 : Int32) y15 _ _ hP hD hS ls hev (lv_sub hl [2, 3, 4] rfl)
  obtain ⟨⟨y20, w21⟩, hq, hev⟩ := x_bd hev
  refine L15 p2 k y1 (0 : Int32) (0 : Int32) y20 w21 hq (fun H lo hP hD hS ls hl => ?_) _ _ hP hD hS ls (lv_sub hl [2, 4, 1, 0] rfl)
  refine lv_iload_n hx hb dX11_behind_126 rfl (lv_at hl 0 rfl) ?_
  exact ret2 _ _ _ _ y20 y20 w21 (Option.some.inj hev) dX11_behind_127 (show narrow _ (.int y20) = .int y20 from rfl) hP hD hS
def f_Mo_isPerson (vT_people : Int32) (p1 : Int32) : Option (Int32) := x_B (f_Mo_in ((p1).toInt64) (0 : Int64) (((vT_people - (1 : Int32))).toInt64)) (fun y1 => some (y1 &&& 1))
set_option maxHeartbeats 8000000 in
set_option maxRecDepth 100000 in
theorem c_Mo_isPerson (l : Launch) (G : GG) (aT aT_text aT_read aT_spells aT_pasts aT_keptStates aT_keptDeeds aT_isKept aT_fars aT_queue aT_later aT_onWay aT_row aT_princes aT_tries : Nat) (vT_length : Int32) (vT_readMany : Int32) (vT_people : Int32) (vT_toldDay : Int32) (vT_toldBroken : Int32) (vT_many : Int32) (vT_now : Int32) (vT_deeds : Int32) (vT_pastMany : Int32) (vT_at : Int32) (vT_place : Int32) (vT_end : Int32) (vT_readPeople : Int32) (vT_readSpells : Int32) (vT_lifted : Int32) (vT_queued : Int32) (vT_laterMany : Int32) (vT_rowMany : Int32) (vT_princeMany : Int32) (vT_triedMany : Int32) (p1 : Int32) (r0 : Int32) (hev : f_Mo_isPerson vT_people p1 = some r0) : RO l G yX11_isPerson cX11_isPerson 2 (some .boolean) 1 [.ref aT, .int p1] [(aT, .inr (7, [.ref aT_text, .int vT_length, .ref aT_read, .int vT_readMany, .int vT_people, .int vT_toldDay, .int vT_toldBroken, .ref aT_spells, .int vT_many, .int vT_now, .int vT_deeds, .ref aT_pasts, .int vT_pastMany, .ref aT_keptStates, .ref aT_keptDeeds, .ref aT_isKept, .int vT_at, .int vT_place, .int vT_end, .int vT_readPeople, .int vT_readSpells, .int vT_lifted, .ref aT_fars, .ref aT_queue, .int vT_queued, .ref aT_later, .int vT_laterMany, .ref aT_onWay, .ref aT_row, .int vT_rowMany, .ref aT_princes, .int vT_princeMany, .ref aT_tries, .int vT_triedMany]))] (some (.int r0)) := by
  refine RO_of (by decide) (Nat.le_of_ble_eq_true rfl) ?_
  intro p e s m ar below meth c R Q H ls X hR hP hKK hS0 hl ret
  generalize hrs : r0 = rs at hev ret
  have hl : lv_has ls 2 [(0, .ref aT), (1, .int p1)] := hl
  obtain ⟨hx, hb, hml, hown, hts, hT⟩ := id X
  have hK := hKK.1
  have hw : ∀ w ∈ T0, w.before ar s = true := fun w h => hts w (hT w h)
  have i11 := fun w h => hT w (inT11 w h)
  unfold f_Mo_isPerson at hev
  refine lv_iload_n hx hb dX11_isPerson_0 rfl (lv_at hl 1 rfl) ?_
  refine lv_i2l hx hb dX11_isPerson_1 rfl ?_
  refine lv_lconst (v := (0 : Int64)) hx hb dX11_isPerson_2 (by decide) ?_
  refine lv_aload_n hx hb dX11_isPerson_3 rfl (lv_at hl 0 rfl) ?_
  refine va_get (D := G.1) (ci := 7) (v := .int vT_people) (C := RX11) (T := TX11) (N := 34) hx hb hts i11 hown hK hP 0 rfl rfl 4 (by decide) (hw _ u1091) (fun _ h9 => h9) rfl dX11_isPerson_4 ?_
  refine lv_iconst (v := (1 : Int32)) hx hb dX11_isPerson_7 (by decide) ?_
  refine lv_isub hx hb dX11_isPerson_8 ?_
  refine lv_i2l hx hb dX11_isPerson_9 rfl ?_
  obtain ⟨y1, hq, hev⟩ := x_bd hev
  refine roS X hKK hR (st1 := [.int y1]) (c_Mo_in l G ((p1).toInt64) (0 : Int64) (((vT_people - (1 : Int32))).toInt64) y1 hq) K_X11_in u1196 (x_Psub hP [] rfl) (by decide) ⟨Nat.zero_le _, Nat.zero_le _⟩ rfl hl.1 rfl (Nat.le_of_ble_eq_true rfl) rfl dX11_isPerson_10 ?_
  exact ret _ _ _ dX11_isPerson_13 ((show narrow _ (.int y1) = .int (y1 &&& 1) from rfl).trans (congrArg Value.int (Option.some.inj hev)))
def f_Mo_isSpell (vT_many : Int32) (p1 : Int32) : Option (Int32) := x_B (f_Mo_in ((p1).toInt64) (0 : Int64) (((vT_many - (1 : Int32))).toInt64)) (fun y1 => some (y1 &&& 1))
set_option maxHeartbeats 8000000 in
set_option maxRecDepth 100000 in
theorem c_Mo_isSpell (l : Launch) (G : GG) (aT aT_text aT_read aT_spells aT_pasts aT_keptStates aT_keptDeeds aT_isKept aT_fars aT_queue aT_later aT_onWay aT_row aT_princes aT_tries : Nat) (vT_length : Int32) (vT_readMany : Int32) (vT_people : Int32) (vT_toldDay : Int32) (vT_toldBroken : Int32) (vT_many : Int32) (vT_now : Int32) (vT_deeds : Int32) (vT_pastMany : Int32) (vT_at : Int32) (vT_place : Int32) (vT_end : Int32) (vT_readPeople : Int32) (vT_readSpells : Int32) (vT_lifted : Int32) (vT_queued : Int32) (vT_laterMany : Int32) (vT_rowMany : Int32) (vT_princeMany : Int32) (vT_triedMany : Int32) (p1 : Int32) (r0 : Int32) (hev : f_Mo_isSpell vT_many p1 = some r0) : RO l G yX11_isSpell cX11_isSpell 2 (some .boolean) 1 [.ref aT, .int p1] [(aT, .inr (7, [.ref aT_text, .int vT_length, .ref aT_read, .int vT_readMany, .int vT_people, .int vT_toldDay, .int vT_toldBroken, .ref aT_spells, .int vT_many, .int vT_now, .int vT_deeds, .ref aT_pasts, .int vT_pastMany, .ref aT_keptStates, .ref aT_keptDeeds, .ref aT_isKept, .int vT_at, .int vT_place, .int vT_end, .int vT_readPeople, .int vT_readSpells, .int vT_lifted, .ref aT_fars, .ref aT_queue, .int vT_queued, .ref aT_later, .int vT_laterMany, .ref aT_onWay, .ref aT_row, .int vT_rowMany, .ref aT_princes, .int vT_princeMany, .ref aT_tries, .int vT_triedMany]))] (some (.int r0)) := by
  refine RO_of (by decide) (Nat.le_of_ble_eq_true rfl) ?_
  intro p e s m ar below meth c R Q H ls X hR hP hKK hS0 hl ret
  generalize hrs : r0 = rs at hev ret
  have hl : lv_has ls 2 [(0, .ref aT), (1, .int p1)] := hl
  obtain ⟨hx, hb, hml, hown, hts, hT⟩ := id X
  have hK := hKK.1
  have hw : ∀ w ∈ T0, w.before ar s = true := fun w h => hts w (hT w h)
  have i11 := fun w h => hT w (inT11 w h)
  unfold f_Mo_isSpell at hev
  refine lv_iload_n hx hb dX11_isSpell_0 rfl (lv_at hl 1 rfl) ?_
  refine lv_i2l hx hb dX11_isSpell_1 rfl ?_
  refine lv_lconst (v := (0 : Int64)) hx hb dX11_isSpell_2 (by decide) ?_
  refine lv_aload_n hx hb dX11_isSpell_3 rfl (lv_at hl 0 rfl) ?_
  refine va_get (D := G.1) (ci := 7) (v := .int vT_many) (C := RX11) (T := TX11) (N := 34) hx hb hts i11 hown hK hP 0 rfl rfl 8 (by decide) (hw _ u1095) (fun _ h9 => h9) rfl dX11_isSpell_4 ?_
  refine lv_iconst (v := (1 : Int32)) hx hb dX11_isSpell_7 (by decide) ?_
  refine lv_isub hx hb dX11_isSpell_8 ?_
  refine lv_i2l hx hb dX11_isSpell_9 rfl ?_
  obtain ⟨y1, hq, hev⟩ := x_bd hev
  refine roS X hKK hR (st1 := [.int y1]) (c_Mo_in l G ((p1).toInt64) (0 : Int64) (((vT_many - (1 : Int32))).toInt64) y1 hq) K_X11_in u1196 (x_Psub hP [] rfl) (by decide) ⟨Nat.zero_le _, Nat.zero_le _⟩ rfl hl.1 rfl (Nat.le_of_ble_eq_true rfl) rfl dX11_isSpell_10 ?_
  exact ret _ _ _ dX11_isSpell_13 ((show narrow _ (.int y1) = .int (y1 &&& 1) from rfl).trans (congrArg Value.int (Option.some.inj hev)))
def f_Mo_person (k : Nat) (vT_many : Int32) (vT_now : Int32) (vT_people : Int32) (fT_spells : Nat → Int32) (p1 : Int32) (p2 : Int32) : Option (Int32) := x_B (f_Mo_isPerson vT_people p1) (fun y1 => if y1 = 0 then (some (-2 : Int32)) else x_B (f_Mo_in ((p2).toInt64) (0 : Int64) (2 : Int64)) (fun y3 => if y3 = 0 then (if p2 = (3 : Int32) then (x_B (f_Mo_weepersOf vT_now) (fun y6 => some ((y6 >>> (p1 &&& 31)) &&& (1 : Int32)))) else some (-3 : Int32)) else x_B (f_Mo_isUnder k vT_many fT_spells vT_now p1 p2) (fun y7 => if y7 = 0 then (some (0 : Int32)) else some (1 : Int32))))
set_option maxHeartbeats 8000000 in
set_option maxRecDepth 100000 in
theorem c_Mo_person (l : Launch) (G : GG) (aT aT_text aT_read aT_spells aT_pasts aT_keptStates aT_keptDeeds aT_isKept aT_fars aT_queue aT_later aT_onWay aT_row aT_princes aT_tries : Nat) (vT_length : Int32) (vT_readMany : Int32) (vT_people : Int32) (vT_toldDay : Int32) (vT_toldBroken : Int32) (vT_many : Int32) (vT_now : Int32) (vT_deeds : Int32) (vT_pastMany : Int32) (vT_at : Int32) (vT_place : Int32) (vT_end : Int32) (vT_readPeople : Int32) (vT_readSpells : Int32) (vT_lifted : Int32) (vT_queued : Int32) (vT_laterMany : Int32) (vT_rowMany : Int32) (vT_princeMany : Int32) (vT_triedMany : Int32) (fT_spells : Nat → Int32) (k : Nat) (p1 : Int32) (p2 : Int32) (r0 : Int32) (hev : f_Mo_person k vT_many vT_now vT_people fT_spells p1 p2 = some r0) : RO l G yX11_person cX11_person 3 (some .int) 2 [.ref aT, .int p1, .int p2] [(aT, .inr (7, [.ref aT_text, .int vT_length, .ref aT_read, .int vT_readMany, .int vT_people, .int vT_toldDay, .int vT_toldBroken, .ref aT_spells, .int vT_many, .int vT_now, .int vT_deeds, .ref aT_pasts, .int vT_pastMany, .ref aT_keptStates, .ref aT_keptDeeds, .ref aT_isKept, .int vT_at, .int vT_place, .int vT_end, .int vT_readPeople, .int vT_readSpells, .int vT_lifted, .ref aT_fars, .ref aT_queue, .int vT_queued, .ref aT_later, .int vT_laterMany, .ref aT_onWay, .ref aT_row, .int vT_rowMany, .ref aT_princes, .int vT_princeMany, .ref aT_tries, .int vT_triedMany])), (aT_spells, .inl (G.2.1, 50, .inl fT_spells))] (some (.int r0)) := by
  refine RO_of (by decide) (Nat.le_of_ble_eq_true rfl) ?_
  intro p e s m ar below meth c R Q H ls X hR hP hKK hS0 hl ret
  generalize hrs : r0 = rs at hev ret
  have hl : lv_has ls 3 [(0, .ref aT), (1, .int p1), (2, .int p2)] := hl
  obtain ⟨hx, hb, hml, hown, hts, hT⟩ := id X
  have hK := hKK.1
  have hw : ∀ w ∈ T0, w.before ar s = true := fun w h => hts w (hT w h)
  have i11 := fun w h => hT w (inT11 w h)
  unfold f_Mo_person at hev
  refine lv_aload_n hx hb dX11_person_0 rfl (lv_at hl 0 rfl) ?_
  refine lv_iload_n hx hb dX11_person_1 rfl (lv_at hl 1 rfl) ?_
  obtain ⟨y1, hq, hev⟩ := x_bd hev
  refine roV X hKK hR (st1 := [.int y1]) (c_Mo_isPerson l G aT aT_text aT_read aT_spells aT_pasts aT_keptStates aT_keptDeeds aT_isKept aT_fars aT_queue aT_later aT_onWay aT_row aT_princes aT_tries vT_length vT_readMany vT_people vT_toldDay vT_toldBroken vT_many vT_now vT_deeds vT_pastMany vT_at vT_place vT_end vT_readPeople vT_readSpells vT_lifted vT_queued vT_laterMany vT_rowMany vT_princeMany vT_triedMany p1 y1 hq) K_X11_isPerson u1278 (x_Psub hP [0] rfl) rfl (q0 := 0) rfl (by decide) ⟨Nat.zero_le _, Nat.zero_le _⟩ rfl hl.1 rfl (Nat.le_of_ble_eq_true rfl) rfl dX11_person_2 ?_
  refine lv_if_ne (tgt := 11) hx hb dX11_person_5 (by decide) (fun c2 => ?_) (fun c2 => ?_)
  · replace hev := x_f c2 hev
    refine lv_iload_n hx hb dX11_person_11 rfl (lv_at hl 2 rfl) ?_
    refine lv_i2l hx hb dX11_person_12 rfl ?_
    refine lv_lconst (v := (0 : Int64)) hx hb dX11_person_13 (by decide) ?_
    refine lv_ldc2 (v := (2 : Int64)) hx hb hown (hw _ u1282) dX11_person_14 ?_
    obtain ⟨y3, hq, hev⟩ := x_bd hev
    refine roS X hKK hR (st1 := [.int y3]) (c_Mo_in l G ((p2).toInt64) (0 : Int64) (2 : Int64) y3 hq) K_X11_in u1196 (x_Psub hP [] rfl) (by decide) ⟨Nat.zero_le _, Nat.zero_le _⟩ rfl hl.1 rfl (Nat.le_of_ble_eq_true rfl) rfl dX11_person_17 ?_
    refine lv_if_eq (tgt := 44) hx hb dX11_person_20 (by decide) (fun c4 => ?_) (fun c4 => ?_)
    · replace hev := x_t c4 hev
      refine lv_iload_n hx hb dX11_person_44 rfl (lv_at hl 2 rfl) ?_
      refine lv_iconst (v := (3 : Int32)) hx hb dX11_person_45 (by decide) ?_
      refine lv_icmp_ne (tgt := 63) hx hb dX11_person_46 (by decide) (fun c5 => ?_) (fun c5 => ?_)
      · replace hev := x_f c5 hev
        refine lv_bipush (v := (-3 : Int32)) hx hb dX11_person_63 (by decide) ?_
        exact ret _ _ _ dX11_person_65 ((show narrow _ (.int (-3 : Int32)) = .int (-3 : Int32) from rfl).trans (congrArg Value.int (Option.some.inj hev)))
      · replace hev := x_t c5 hev
        refine lv_aload_n hx hb dX11_person_49 rfl (lv_at hl 0 rfl) ?_
        refine va_get (D := G.1) (ci := 7) (v := .int vT_now) (C := RX11) (T := TX11) (N := 34) hx hb hts i11 hown hK hP 0 rfl rfl 9 (by decide) (hw _ u1096) (fun _ h9 => h9) rfl dX11_person_50 ?_
        obtain ⟨y6, hq, hev⟩ := x_bd hev
        refine roS X hKK hR (st1 := [.int y6]) (c_Mo_weepersOf l G vT_now y6 hq) K_X11_weepersOf u1290 (x_Psub hP [] rfl) (by decide) ⟨Nat.zero_le _, Nat.zero_le _⟩ rfl hl.1 rfl (Nat.le_of_ble_eq_true rfl) rfl dX11_person_53 ?_
        refine lv_iload_n hx hb dX11_person_56 rfl (lv_at hl 1 rfl) ?_
        refine lv_ishr hx hb dX11_person_57 ?_
        refine lv_iconst (v := (1 : Int32)) hx hb dX11_person_58 (by decide) ?_
        refine lv_iand hx hb dX11_person_59 ?_
        refine lv_goto (tgt := 65) hx hb dX11_person_60 (by decide) ?_
        exact ret _ _ _ dX11_person_65 ((show narrow _ (.int ((y6 >>> (p1 &&& 31)) &&& (1 : Int32))) = .int ((y6 >>> (p1 &&& 31)) &&& (1 : Int32)) from rfl).trans (congrArg Value.int (Option.some.inj hev)))
    · replace hev := x_f c4 hev
      refine lv_aload_n hx hb dX11_person_23 rfl (lv_at hl 0 rfl) ?_
      refine lv_aload_n hx hb dX11_person_24 rfl (lv_at hl 0 rfl) ?_
      refine va_get (D := G.1) (ci := 7) (v := .int vT_now) (C := RX11) (T := TX11) (N := 34) hx hb hts i11 hown hK hP 0 rfl rfl 9 (by decide) (hw _ u1096) (fun _ h9 => h9) rfl dX11_person_25 ?_
      refine lv_iload_n hx hb dX11_person_28 rfl (lv_at hl 1 rfl) ?_
      refine lv_iload_n hx hb dX11_person_29 rfl (lv_at hl 2 rfl) ?_
      obtain ⟨y7, hq, hev⟩ := x_bd hev
      refine roV X hKK hR (st1 := [.int y7]) (c_Mo_isUnder l G aT aT_text aT_read aT_spells aT_pasts aT_keptStates aT_keptDeeds aT_isKept aT_fars aT_queue aT_later aT_onWay aT_row aT_princes aT_tries vT_length vT_readMany vT_people vT_toldDay vT_toldBroken vT_many vT_now vT_deeds vT_pastMany vT_at vT_place vT_end vT_readPeople vT_readSpells vT_lifted vT_queued vT_laterMany vT_rowMany vT_princeMany vT_triedMany fT_spells k vT_now p1 p2 y7 hq) K_X11_isUnder u1283 (x_Psub hP [0, 1] rfl) rfl (q0 := 0) rfl (by decide) ⟨Nat.zero_le _, Nat.zero_le _⟩ rfl hl.1 rfl (Nat.le_of_ble_eq_true rfl) rfl dX11_person_30 ?_
      refine lv_if_eq (tgt := 40) hx hb dX11_person_33 (by decide) (fun c8 => ?_) (fun c8 => ?_)
      · replace hev := x_t c8 hev
        refine lv_iconst (v := (0 : Int32)) hx hb dX11_person_40 (by decide) ?_
        refine lv_goto (tgt := 65) hx hb dX11_person_41 (by decide) ?_
        exact ret _ _ _ dX11_person_65 ((show narrow _ (.int (0 : Int32)) = .int (0 : Int32) from rfl).trans (congrArg Value.int (Option.some.inj hev)))
      · replace hev := x_f c8 hev
        refine lv_iconst (v := (1 : Int32)) hx hb dX11_person_36 (by decide) ?_
        refine lv_goto (tgt := 65) hx hb dX11_person_37 (by decide) ?_
        exact ret _ _ _ dX11_person_65 ((show narrow _ (.int (1 : Int32)) = .int (1 : Int32) from rfl).trans (congrArg Value.int (Option.some.inj hev)))
  · replace hev := x_t c2 hev
    refine lv_bipush (v := (-2 : Int32)) hx hb dX11_person_8 (by decide) ?_
    exact ret _ _ _ dX11_person_10 ((show narrow _ (.int (-2 : Int32)) = .int (-2 : Int32) from rfl).trans (congrArg Value.int (Option.some.inj hev)))
def f_Mo_spell_J52 (k : Nat) (vT_many : Int32) (vT_now : Int32) (fT_spells : Nat → Int32) (x1 : Int32) (x2 : Int32) : Option (Int32) := x_L ((((10 : Int32) * x1) + x2)) (fun y1 => x_I 50 fT_spells y1 (fun v3 => some v3))
def f_Mo_spell (k : Nat) (vT_many : Int32) (vT_now : Int32) (fT_spells : Nat → Int32) (p1 : Int32) (p2 : Int32) : Option (Int32) := x_B (f_Mo_isSpell vT_many p1) (fun y4 => if y4 = 0 then (some (-2 : Int32)) else if p2 = (0 : Int32) then (f_Mo_spell_J52 k vT_many vT_now fT_spells p1 p2) else if p2 = (1 : Int32) then (f_Mo_spell_J52 k vT_many vT_now fT_spells p1 p2) else if p2 = (2 : Int32) then (some ((vT_now >>> (p1 &&& 31)) &&& (1 : Int32))) else if p2 = (3 : Int32) then (x_B (f_Mo_isBound k vT_many fT_spells vT_now p1) (fun y10 => if y10 = 0 then (some (0 : Int32)) else some (1 : Int32))) else if p2 = (4 : Int32) then (x_L ((((10 : Int32) * p1) + (2 : Int32))) (fun y13 => x_I 50 fT_spells y13 (fun v15 => some v15))) else if p2 = (5 : Int32) then (x_L ((((10 : Int32) * p1) + (9 : Int32))) (fun y17 => x_I 50 fT_spells y17 (fun v19 => some v19))) else some (-3 : Int32))
set_option maxHeartbeats 8000000 in
set_option maxRecDepth 100000 in
theorem c_Mo_spell (l : Launch) (G : GG) (aT aT_text aT_read aT_spells aT_pasts aT_keptStates aT_keptDeeds aT_isKept aT_fars aT_queue aT_later aT_onWay aT_row aT_princes aT_tries : Nat) (vT_length : Int32) (vT_readMany : Int32) (vT_people : Int32) (vT_toldDay : Int32) (vT_toldBroken : Int32) (vT_many : Int32) (vT_now : Int32) (vT_deeds : Int32) (vT_pastMany : Int32) (vT_at : Int32) (vT_place : Int32) (vT_end : Int32) (vT_readPeople : Int32) (vT_readSpells : Int32) (vT_lifted : Int32) (vT_queued : Int32) (vT_laterMany : Int32) (vT_rowMany : Int32) (vT_princeMany : Int32) (vT_triedMany : Int32) (fT_spells : Nat → Int32) (k : Nat) (p1 : Int32) (p2 : Int32) (r0 : Int32) (hev : f_Mo_spell k vT_many vT_now fT_spells p1 p2 = some r0) : RO l G yX11_spell cX11_spell 3 (some .int) 2 [.ref aT, .int p1, .int p2] [(aT, .inr (7, [.ref aT_text, .int vT_length, .ref aT_read, .int vT_readMany, .int vT_people, .int vT_toldDay, .int vT_toldBroken, .ref aT_spells, .int vT_many, .int vT_now, .int vT_deeds, .ref aT_pasts, .int vT_pastMany, .ref aT_keptStates, .ref aT_keptDeeds, .ref aT_isKept, .int vT_at, .int vT_place, .int vT_end, .int vT_readPeople, .int vT_readSpells, .int vT_lifted, .ref aT_fars, .ref aT_queue, .int vT_queued, .ref aT_later, .int vT_laterMany, .ref aT_onWay, .ref aT_row, .int vT_rowMany, .ref aT_princes, .int vT_princeMany, .ref aT_tries, .int vT_triedMany])), (aT_spells, .inl (G.2.1, 50, .inl fT_spells))] (some (.int r0)) := by
  refine RO_of (by decide) (Nat.le_of_ble_eq_true rfl) ?_
  intro p e s m ar below meth c R Q H ls X hR hP hKK hS0 hl ret
  generalize hrs : r0 = rs at hev ret
  have hl : lv_has ls 3 [(0, .ref aT), (1, .int p1), (2, .int p2)] := hl
  obtain ⟨hx, hb, hml, hown, hts, hT⟩ := id X
  have hK := hKK.1
  have hw : ∀ w ∈ T0, w.before ar s = true := fun w h => hts w (hT w h)
  have i11 := fun w h => hT w (inT11 w h)
  have J52 : ∀ (x1 : Int32) (x2 : Int32), ∀ (ls : Array Slot), f_Mo_spell_J52 k vT_many vT_now fT_spells x1 x2 = some rs → lv_has ls 3 [(0, .ref aT), (1, .int x1), (2, .int x2)] → W p l e R s m ar below meth c H [] 0 0 Q (F0 m 52 ls []) := by
    intro x1 x2 ls hev hl
    unfold f_Mo_spell_J52 at hev
    refine lv_aload_n hx hb dX11_spell_52 rfl (lv_at hl 0 rfl) ?_
    refine va_get (D := G.1) (ci := 7) (v := .ref aT_spells) (C := RX11) (T := TX11) (N := 34) hx hb hts i11 hown hK hP 0 rfl rfl 7 (by decide) (hw _ u1094) (fun _ h9 => h9) rfl dX11_spell_53 ?_
    refine lv_bipush (v := (10 : Int32)) hx hb dX11_spell_56 (by decide) ?_
    refine lv_iload_n hx hb dX11_spell_58 rfl (lv_at hl 1 rfl) ?_
    refine lv_imul hx hb dX11_spell_59 ?_
    refine lv_iload_n hx hb dX11_spell_60 rfl (lv_at hl 2 rfl) ?_
    refine lv_iadd hx hb dX11_spell_61 ?_
    refine lv_topi (fun y1 ey1 => ?_)
    replace hev := x_lt hev y1 ey1
    obtain ⟨h2, hev⟩ := x_ld hev
    refine va_iald hx hb hK hP 1 0 rfl rfl h2 dX11_spell_62 ?_
    refine lv_topi (fun v3 ev3 => ?_)
    replace hev := hev v3 ev3
    exact ret _ _ _ dX11_spell_63 ((show narrow _ (.int v3) = .int v3 from rfl).trans (congrArg Value.int (Option.some.inj hev)))
  unfold f_Mo_spell at hev
  refine lv_aload_n hx hb dX11_spell_0 rfl (lv_at hl 0 rfl) ?_
  refine lv_iload_n hx hb dX11_spell_1 rfl (lv_at hl 1 rfl) ?_
  obtain ⟨y4, hq, hev⟩ := x_bd hev
  refine roV X hKK hR (st1 := [.int y4]) (c_Mo_isSpell l G aT aT_text aT_read aT_spells aT_pasts aT_keptStates aT_keptDeeds aT_isKept aT_fars aT_queue aT_later aT_onWay aT_row aT_princes aT_tries vT_length vT_readMany vT_people vT_toldDay vT_toldBroken vT_many vT_now vT_deeds vT_pastMany vT_at vT_place vT_end vT_readPeople vT_readSpells vT_lifted vT_queued vT_laterMany vT_rowMany vT_princeMany vT_triedMany p1 y4 hq) K_X11_isSpell u1297 (x_Psub hP [0] rfl) rfl (q0 := 0) rfl (by decide) ⟨Nat.zero_le _, Nat.zero_le _⟩ rfl hl.1 rfl (Nat.le_of_ble_eq_true rfl) rfl dX11_spell_2 ?_
  refine lv_if_ne (tgt := 11) hx hb dX11_spell_5 (by decide) (fun c5 => ?_) (fun c5 => ?_)
  · replace hev := x_f c5 hev
    refine lv_iload_n hx hb dX11_spell_11 rfl (lv_at hl 2 rfl) ?_
    by_cases c6 : p2 = (0 : Int32)
    · replace hev := x_t c6 hev
      refine lv_tableIn (tgt := 52) hx hb dX11_spell_12 (by rw [c6]; decide) (by rw [c6]; decide) (by rw [c6]; rfl) (by decide) ?_
      exact J52 p1 p2 ls hev (lv_sub hl [0, 1, 2] rfl)
    replace hev := x_f c6 hev
    by_cases c7 : p2 = (1 : Int32)
    · replace hev := x_t c7 hev
      refine lv_tableIn (tgt := 52) hx hb dX11_spell_12 (by rw [c7]; decide) (by rw [c7]; decide) (by rw [c7]; rfl) (by decide) ?_
      exact J52 p1 p2 ls hev (lv_sub hl [0, 1, 2] rfl)
    replace hev := x_f c7 hev
    by_cases c8 : p2 = (2 : Int32)
    · replace hev := x_t c8 hev
      refine lv_tableIn (tgt := 64) hx hb dX11_spell_12 (by rw [c8]; decide) (by rw [c8]; decide) (by rw [c8]; rfl) (by decide) ?_
      refine lv_aload_n hx hb dX11_spell_64 rfl (lv_at hl 0 rfl) ?_
      refine va_get (D := G.1) (ci := 7) (v := .int vT_now) (C := RX11) (T := TX11) (N := 34) hx hb hts i11 hown hK hP 0 rfl rfl 9 (by decide) (hw _ u1096) (fun _ h9 => h9) rfl dX11_spell_65 ?_
      refine lv_iload_n hx hb dX11_spell_68 rfl (lv_at hl 1 rfl) ?_
      refine lv_ishr hx hb dX11_spell_69 ?_
      refine lv_iconst (v := (1 : Int32)) hx hb dX11_spell_70 (by decide) ?_
      refine lv_iand hx hb dX11_spell_71 ?_
      exact ret _ _ _ dX11_spell_72 ((show narrow _ (.int ((vT_now >>> (p1 &&& 31)) &&& (1 : Int32))) = .int ((vT_now >>> (p1 &&& 31)) &&& (1 : Int32)) from rfl).trans (congrArg Value.int (Option.some.inj hev)))
    replace hev := x_f c8 hev
    by_cases c9 : p2 = (3 : Int32)
    · replace hev := x_t c9 hev
      refine lv_tableIn (tgt := 73) hx hb dX11_spell_12 (by rw [c9]; decide) (by rw [c9]; decide) (by rw [c9]; rfl) (by decide) ?_
      refine lv_aload_n hx hb dX11_spell_73 rfl (lv_at hl 0 rfl) ?_
      refine lv_aload_n hx hb dX11_spell_74 rfl (lv_at hl 0 rfl) ?_
      refine va_get (D := G.1) (ci := 7) (v := .int vT_now) (C := RX11) (T := TX11) (N := 34) hx hb hts i11 hown hK hP 0 rfl rfl 9 (by decide) (hw _ u1096) (fun _ h9 => h9) rfl dX11_spell_75 ?_
      refine lv_iload_n hx hb dX11_spell_78 rfl (lv_at hl 1 rfl) ?_
      obtain ⟨y10, hq, hev⟩ := x_bd hev
      refine roV X hKK hR (st1 := [.int y10]) (c_Mo_isBound l G aT aT_text aT_read aT_spells aT_pasts aT_keptStates aT_keptDeeds aT_isKept aT_fars aT_queue aT_later aT_onWay aT_row aT_princes aT_tries vT_length vT_readMany vT_people vT_toldDay vT_toldBroken vT_many vT_now vT_deeds vT_pastMany vT_at vT_place vT_end vT_readPeople vT_readSpells vT_lifted vT_queued vT_laterMany vT_rowMany vT_princeMany vT_triedMany fT_spells k vT_now p1 y10 hq) K_X11_isBound u1301 (x_Psub hP [0, 1] rfl) rfl (q0 := 0) rfl (by decide) ⟨Nat.zero_le _, Nat.zero_le _⟩ rfl hl.1 rfl (Nat.le_of_ble_eq_true rfl) rfl dX11_spell_79 ?_
      refine lv_if_eq (tgt := 89) hx hb dX11_spell_82 (by decide) (fun c11 => ?_) (fun c11 => ?_)
      · replace hev := x_t c11 hev
        refine lv_iconst (v := (0 : Int32)) hx hb dX11_spell_89 (by decide) ?_
        exact ret _ _ _ dX11_spell_90 ((show narrow _ (.int (0 : Int32)) = .int (0 : Int32) from rfl).trans (congrArg Value.int (Option.some.inj hev)))
      · replace hev := x_f c11 hev
        refine lv_iconst (v := (1 : Int32)) hx hb dX11_spell_85 (by decide) ?_
        refine lv_goto (tgt := 90) hx hb dX11_spell_86 (by decide) ?_
        exact ret _ _ _ dX11_spell_90 ((show narrow _ (.int (1 : Int32)) = .int (1 : Int32) from rfl).trans (congrArg Value.int (Option.some.inj hev)))
    replace hev := x_f c9 hev
    by_cases c12 : p2 = (4 : Int32)
    · replace hev := x_t c12 hev
      refine lv_tableIn (tgt := 91) hx hb dX11_spell_12 (by rw [c12]; decide) (by rw [c12]; decide) (by rw [c12]; rfl) (by decide) ?_
      refine lv_aload_n hx hb dX11_spell_91 rfl (lv_at hl 0 rfl) ?_
      refine va_get (D := G.1) (ci := 7) (v := .ref aT_spells) (C := RX11) (T := TX11) (N := 34) hx hb hts i11 hown hK hP 0 rfl rfl 7 (by decide) (hw _ u1094) (fun _ h9 => h9) rfl dX11_spell_92 ?_
      refine lv_bipush (v := (10 : Int32)) hx hb dX11_spell_95 (by decide) ?_
      refine lv_iload_n hx hb dX11_spell_97 rfl (lv_at hl 1 rfl) ?_
      refine lv_imul hx hb dX11_spell_98 ?_
      refine lv_iconst (v := (2 : Int32)) hx hb dX11_spell_99 (by decide) ?_
      refine lv_iadd hx hb dX11_spell_100 ?_
      refine lv_topi (fun y13 ey13 => ?_)
      replace hev := x_lt hev y13 ey13
      obtain ⟨h14, hev⟩ := x_ld hev
      refine va_iald hx hb hK hP 1 0 rfl rfl h14 dX11_spell_101 ?_
      refine lv_topi (fun v15 ev15 => ?_)
      replace hev := hev v15 ev15
      exact ret _ _ _ dX11_spell_102 ((show narrow _ (.int v15) = .int v15 from rfl).trans (congrArg Value.int (Option.some.inj hev)))
    replace hev := x_f c12 hev
    by_cases c16 : p2 = (5 : Int32)
    · replace hev := x_t c16 hev
      refine lv_tableIn (tgt := 103) hx hb dX11_spell_12 (by rw [c16]; decide) (by rw [c16]; decide) (by rw [c16]; rfl) (by decide) ?_
      refine lv_aload_n hx hb dX11_spell_103 rfl (lv_at hl 0 rfl) ?_
      refine va_get (D := G.1) (ci := 7) (v := .ref aT_spells) (C := RX11) (T := TX11) (N := 34) hx hb hts i11 hown hK hP 0 rfl rfl 7 (by decide) (hw _ u1094) (fun _ h9 => h9) rfl dX11_spell_104 ?_
      refine lv_bipush (v := (10 : Int32)) hx hb dX11_spell_107 (by decide) ?_
      refine lv_iload_n hx hb dX11_spell_109 rfl (lv_at hl 1 rfl) ?_
      refine lv_imul hx hb dX11_spell_110 ?_
      refine lv_bipush (v := (9 : Int32)) hx hb dX11_spell_111 (by decide) ?_
      refine lv_iadd hx hb dX11_spell_113 ?_
      refine lv_topi (fun y17 ey17 => ?_)
      replace hev := x_lt hev y17 ey17
      obtain ⟨h18, hev⟩ := x_ld hev
      refine va_iald hx hb hK hP 1 0 rfl rfl h18 dX11_spell_114 ?_
      refine lv_topi (fun v19 ev19 => ?_)
      replace hev := hev v19 ev19
      exact ret _ _ _ dX11_spell_115 ((show narrow _ (.int v19) = .int v19 from rfl).trans (congrArg Value.int (Option.some.inj hev)))
    replace hev := x_f c16 hev
    refine lv_tableOut (tgt := 116) hx hb dX11_spell_12 (by have q0 : p2.toInt ≠ 0 := x_ne c6; have q1 : p2.toInt ≠ 1 := x_ne c7; have q2 : p2.toInt ≠ 2 := x_ne c8; have q3 : p2.toInt ≠ 3 := x_ne c9; have q4 : p2.toInt ≠ 4 := x_ne c12; have q5 : p2.toInt ≠ 5 := x_ne c16; omega) (by decide) ?_
    refine lv_bipush (v := (-3 : Int32)) hx hb dX11_spell_116 (by decide) ?_
    exact ret _ _ _ dX11_spell_118 ((show narrow _ (.int (-3 : Int32)) = .int (-3 : Int32) from rfl).trans (congrArg Value.int (Option.some.inj hev)))
  · replace hev := x_t c5 hev
    refine lv_bipush (v := (-2 : Int32)) hx hb dX11_spell_8 (by decide) ?_
    exact ret _ _ _ dX11_spell_10 ((show narrow _ (.int (-2 : Int32)) = .int (-2 : Int32) from rfl).trans (congrArg Value.int (Option.some.inj hev)))
def f_Mo_term (vT_many : Int32) (vT_now : Int32) (fT_spells : Nat → Int32) (p1 : Int32) (p2 : Int32) (p3 : Int32) : Option (Int32) := x_B (f_Mo_isSpell vT_many p1) (fun y1 => if y1 = 0 then (some (-2 : Int32)) else x_L ((((10 : Int32) * p1) + (2 : Int32))) (fun y3 => x_I 50 fT_spells y3 (fun v5 => x_B (f_Mo_in ((p2).toInt64) (0 : Int64) (((v5 - (1 : Int32))).toInt64)) (fun y6 => if y6 = 0 then (some (-2 : Int32)) else x_B (f_Mo_in ((p3).toInt64) (0 : Int64) (1 : Int64)) (fun y8 => if y8 = 0 then (if p3 = (2 : Int32) then (x_B (f_Mo_isSo fT_spells vT_now p1 p2 (21 : Int32)) (fun y11 => if y11 = 0 then (some (0 : Int32)) else some (1 : Int32))) else some (-3 : Int32)) else x_L ((((((10 : Int32) * p1) + (3 : Int32)) + ((2 : Int32) * p2)) + p3)) (fun y13 => x_I 50 fT_spells y13 (fun v15 => some v15)))))))
set_option maxHeartbeats 8000000 in
set_option maxRecDepth 100000 in
theorem c_Mo_term (l : Launch) (G : GG) (aT aT_text aT_read aT_spells aT_pasts aT_keptStates aT_keptDeeds aT_isKept aT_fars aT_queue aT_later aT_onWay aT_row aT_princes aT_tries : Nat) (vT_length : Int32) (vT_readMany : Int32) (vT_people : Int32) (vT_toldDay : Int32) (vT_toldBroken : Int32) (vT_many : Int32) (vT_now : Int32) (vT_deeds : Int32) (vT_pastMany : Int32) (vT_at : Int32) (vT_place : Int32) (vT_end : Int32) (vT_readPeople : Int32) (vT_readSpells : Int32) (vT_lifted : Int32) (vT_queued : Int32) (vT_laterMany : Int32) (vT_rowMany : Int32) (vT_princeMany : Int32) (vT_triedMany : Int32) (fT_spells : Nat → Int32) (p1 : Int32) (p2 : Int32) (p3 : Int32) (r0 : Int32) (hev : f_Mo_term vT_many vT_now fT_spells p1 p2 p3 = some r0) : RO l G yX11_term cX11_term 4 (some .int) 2 [.ref aT, .int p1, .int p2, .int p3] [(aT, .inr (7, [.ref aT_text, .int vT_length, .ref aT_read, .int vT_readMany, .int vT_people, .int vT_toldDay, .int vT_toldBroken, .ref aT_spells, .int vT_many, .int vT_now, .int vT_deeds, .ref aT_pasts, .int vT_pastMany, .ref aT_keptStates, .ref aT_keptDeeds, .ref aT_isKept, .int vT_at, .int vT_place, .int vT_end, .int vT_readPeople, .int vT_readSpells, .int vT_lifted, .ref aT_fars, .ref aT_queue, .int vT_queued, .ref aT_later, .int vT_laterMany, .ref aT_onWay, .ref aT_row, .int vT_rowMany, .ref aT_princes, .int vT_princeMany, .ref aT_tries, .int vT_triedMany])), (aT_spells, .inl (G.2.1, 50, .inl fT_spells))] (some (.int r0)) := by
  refine RO_of (by decide) (Nat.le_of_ble_eq_true rfl) ?_
  intro p e s m ar below meth c R Q H ls X hR hP hKK hS0 hl ret
  generalize hrs : r0 = rs at hev ret
  have hl : lv_has ls 4 [(0, .ref aT), (1, .int p1), (2, .int p2), (3, .int p3)] := hl
  obtain ⟨hx, hb, hml, hown, hts, hT⟩ := id X
  have hK := hKK.1
  have hw : ∀ w ∈ T0, w.before ar s = true := fun w h => hts w (hT w h)
  have i11 := fun w h => hT w (inT11 w h)
  unfold f_Mo_term at hev
  refine lv_aload_n hx hb dX11_term_0 rfl (lv_at hl 0 rfl) ?_
  refine lv_iload_n hx hb dX11_term_1 rfl (lv_at hl 1 rfl) ?_
  obtain ⟨y1, hq, hev⟩ := x_bd hev
  refine roV X hKK hR (st1 := [.int y1]) (c_Mo_isSpell l G aT aT_text aT_read aT_spells aT_pasts aT_keptStates aT_keptDeeds aT_isKept aT_fars aT_queue aT_later aT_onWay aT_row aT_princes aT_tries vT_length vT_readMany vT_people vT_toldDay vT_toldBroken vT_many vT_now vT_deeds vT_pastMany vT_at vT_place vT_end vT_readPeople vT_readSpells vT_lifted vT_queued vT_laterMany vT_rowMany vT_princeMany vT_triedMany p1 y1 hq) K_X11_isSpell u1297 (x_Psub hP [0] rfl) rfl (q0 := 0) rfl (by decide) ⟨Nat.zero_le _, Nat.zero_le _⟩ rfl hl.1 rfl (Nat.le_of_ble_eq_true rfl) rfl dX11_term_2 ?_
  refine lv_if_eq (tgt := 31) hx hb dX11_term_5 (by decide) (fun c2 => ?_) (fun c2 => ?_)
  · replace hev := x_t c2 hev
    refine lv_bipush (v := (-2 : Int32)) hx hb dX11_term_31 (by decide) ?_
    exact ret _ _ _ dX11_term_33 ((show narrow _ (.int (-2 : Int32)) = .int (-2 : Int32) from rfl).trans (congrArg Value.int (Option.some.inj hev)))
  · replace hev := x_f c2 hev
    refine lv_iload_n hx hb dX11_term_8 rfl (lv_at hl 2 rfl) ?_
    refine lv_i2l hx hb dX11_term_9 rfl ?_
    refine lv_lconst (v := (0 : Int64)) hx hb dX11_term_10 (by decide) ?_
    refine lv_aload_n hx hb dX11_term_11 rfl (lv_at hl 0 rfl) ?_
    refine va_get (D := G.1) (ci := 7) (v := .ref aT_spells) (C := RX11) (T := TX11) (N := 34) hx hb hts i11 hown hK hP 0 rfl rfl 7 (by decide) (hw _ u1094) (fun _ h9 => h9) rfl dX11_term_12 ?_
    refine lv_bipush (v := (10 : Int32)) hx hb dX11_term_15 (by decide) ?_
    refine lv_iload_n hx hb dX11_term_17 rfl (lv_at hl 1 rfl) ?_
    refine lv_imul hx hb dX11_term_18 ?_
    refine lv_iconst (v := (2 : Int32)) hx hb dX11_term_19 (by decide) ?_
    refine lv_iadd hx hb dX11_term_20 ?_
    refine lv_topi (fun y3 ey3 => ?_)
    replace hev := x_lt hev y3 ey3
    obtain ⟨h4, hev⟩ := x_ld hev
    refine va_iald hx hb hK hP 1 0 rfl rfl h4 dX11_term_21 ?_
    refine lv_topi (fun v5 ev5 => ?_)
    replace hev := hev v5 ev5
    refine lv_iconst (v := (1 : Int32)) hx hb dX11_term_22 (by decide) ?_
    refine lv_isub hx hb dX11_term_23 ?_
    refine lv_i2l hx hb dX11_term_24 rfl ?_
    obtain ⟨y6, hq, hev⟩ := x_bd hev
    refine roS X hKK hR (st1 := [.int y6]) (c_Mo_in l G ((p2).toInt64) (0 : Int64) (((v5 - (1 : Int32))).toInt64) y6 hq) K_X11_in u1196 (x_Psub hP [] rfl) (by decide) ⟨Nat.zero_le _, Nat.zero_le _⟩ rfl hl.1 rfl (Nat.le_of_ble_eq_true rfl) rfl dX11_term_25 ?_
    refine lv_if_ne (tgt := 34) hx hb dX11_term_28 (by decide) (fun c7 => ?_) (fun c7 => ?_)
    · replace hev := x_f c7 hev
      refine lv_iload_n hx hb dX11_term_34 rfl (lv_at hl 3 rfl) ?_
      refine lv_i2l hx hb dX11_term_35 rfl ?_
      refine lv_lconst (v := (0 : Int64)) hx hb dX11_term_36 (by decide) ?_
      refine lv_lconst (v := (1 : Int64)) hx hb dX11_term_37 (by decide) ?_
      obtain ⟨y8, hq, hev⟩ := x_bd hev
      refine roS X hKK hR (st1 := [.int y8]) (c_Mo_in l G ((p3).toInt64) (0 : Int64) (1 : Int64) y8 hq) K_X11_in u1196 (x_Psub hP [] rfl) (by decide) ⟨Nat.zero_le _, Nat.zero_le _⟩ rfl hl.1 rfl (Nat.le_of_ble_eq_true rfl) rfl dX11_term_38 ?_
      refine lv_if_eq (tgt := 64) hx hb dX11_term_41 (by decide) (fun c9 => ?_) (fun c9 => ?_)
      · replace hev := x_t c9 hev
        refine lv_iload_n hx hb dX11_term_64 rfl (lv_at hl 3 rfl) ?_
        refine lv_iconst (v := (2 : Int32)) hx hb dX11_term_65 (by decide) ?_
        refine lv_icmp_ne (tgt := 92) hx hb dX11_term_66 (by decide) (fun c10 => ?_) (fun c10 => ?_)
        · replace hev := x_f c10 hev
          refine lv_bipush (v := (-3 : Int32)) hx hb dX11_term_92 (by decide) ?_
          exact ret _ _ _ dX11_term_94 ((show narrow _ (.int (-3 : Int32)) = .int (-3 : Int32) from rfl).trans (congrArg Value.int (Option.some.inj hev)))
        · replace hev := x_t c10 hev
          refine lv_aload_n hx hb dX11_term_69 rfl (lv_at hl 0 rfl) ?_
          refine lv_aload_n hx hb dX11_term_70 rfl (lv_at hl 0 rfl) ?_
          refine va_get (D := G.1) (ci := 7) (v := .int vT_now) (C := RX11) (T := TX11) (N := 34) hx hb hts i11 hown hK hP 0 rfl rfl 9 (by decide) (hw _ u1096) (fun _ h9 => h9) rfl dX11_term_71 ?_
          refine lv_iload_n hx hb dX11_term_74 rfl (lv_at hl 1 rfl) ?_
          refine lv_iload_n hx hb dX11_term_75 rfl (lv_at hl 2 rfl) ?_
          refine lv_bipush (v := (21 : Int32)) hx hb dX11_term_76 (by decide) ?_
          obtain ⟨y11, hq, hev⟩ := x_bd hev
          refine roV X hKK hR (st1 := [.int y11]) (c_Mo_isSo l G aT aT_text aT_read aT_spells aT_pasts aT_keptStates aT_keptDeeds aT_isKept aT_fars aT_queue aT_later aT_onWay aT_row aT_princes aT_tries vT_length vT_readMany vT_people vT_toldDay vT_toldBroken vT_many vT_now vT_deeds vT_pastMany vT_at vT_place vT_end vT_readPeople vT_readSpells vT_lifted vT_queued vT_laterMany vT_rowMany vT_princeMany vT_triedMany fT_spells vT_now p1 p2 (21 : Int32) y11 hq) K_X11_isSo u1309 (x_Psub hP [0, 1] rfl) rfl (q0 := 0) rfl (by decide) ⟨Nat.zero_le _, Nat.zero_le _⟩ rfl hl.1 rfl (Nat.le_of_ble_eq_true rfl) rfl dX11_term_78 ?_
          refine lv_if_eq (tgt := 88) hx hb dX11_term_81 (by decide) (fun c12 => ?_) (fun c12 => ?_)
          · replace hev := x_t c12 hev
            refine lv_iconst (v := (0 : Int32)) hx hb dX11_term_88 (by decide) ?_
            refine lv_goto (tgt := 94) hx hb dX11_term_89 (by decide) ?_
            exact ret _ _ _ dX11_term_94 ((show narrow _ (.int (0 : Int32)) = .int (0 : Int32) from rfl).trans (congrArg Value.int (Option.some.inj hev)))
          · replace hev := x_f c12 hev
            refine lv_iconst (v := (1 : Int32)) hx hb dX11_term_84 (by decide) ?_
            refine lv_goto (tgt := 94) hx hb dX11_term_85 (by decide) ?_
            exact ret _ _ _ dX11_term_94 ((show narrow _ (.int (1 : Int32)) = .int (1 : Int32) from rfl).trans (congrArg Value.int (Option.some.inj hev)))
      · replace hev := x_f c9 hev
        refine lv_aload_n hx hb dX11_term_44 rfl (lv_at hl 0 rfl) ?_
        refine va_get (D := G.1) (ci := 7) (v := .ref aT_spells) (C := RX11) (T := TX11) (N := 34) hx hb hts i11 hown hK hP 0 rfl rfl 7 (by decide) (hw _ u1094) (fun _ h9 => h9) rfl dX11_term_45 ?_
        refine lv_bipush (v := (10 : Int32)) hx hb dX11_term_48 (by decide) ?_
        refine lv_iload_n hx hb dX11_term_50 rfl (lv_at hl 1 rfl) ?_
        refine lv_imul hx hb dX11_term_51 ?_
        refine lv_iconst (v := (3 : Int32)) hx hb dX11_term_52 (by decide) ?_
        refine lv_iadd hx hb dX11_term_53 ?_
        refine lv_iconst (v := (2 : Int32)) hx hb dX11_term_54 (by decide) ?_
        refine lv_iload_n hx hb dX11_term_55 rfl (lv_at hl 2 rfl) ?_
        refine lv_imul hx hb dX11_term_56 ?_
        refine lv_iadd hx hb dX11_term_57 ?_
        refine lv_iload_n hx hb dX11_term_58 rfl (lv_at hl 3 rfl) ?_
        refine lv_iadd hx hb dX11_term_59 ?_
        refine lv_topi (fun y13 ey13 => ?_)
        replace hev := x_lt hev y13 ey13
        obtain ⟨h14, hev⟩ := x_ld hev
        refine va_iald hx hb hK hP 1 0 rfl rfl h14 dX11_term_60 ?_
        refine lv_topi (fun v15 ev15 => ?_)
        replace hev := hev v15 ev15
        refine lv_goto (tgt := 94) hx hb dX11_term_61 (by decide) ?_
        exact ret _ _ _ dX11_term_94 ((show narrow _ (.int v15) = .int v15 from rfl).trans (congrArg Value.int (Option.some.inj hev)))
    · replace hev := x_t c7 hev
      refine lv_bipush (v := (-2 : Int32)) hx hb dX11_term_31 (by decide) ?_
      exact ret _ _ _ dX11_term_33 ((show narrow _ (.int (-2 : Int32)) = .int (-2 : Int32) from rfl).trans (congrArg Value.int (Option.some.inj hev)))
