def f_Mo_wasSo_J92 (vT_people : Int32) (x5 : Int32) (x6 : Int32) : Option (Int32) := x_B (f_Mo_has x5 x6) (fun y1 => if y1 = 0 then (some (1 : Int32)) else some (0 : Int32))
def f_Mo_wasSo (vT_people : Int32) (p1 : Int32) (p2 : Int32) (p3 : Int32) (p4 : Int32) (p5 : Int32) : Option (Int32) := x_B (f_Mo_numberOf vT_people p1) (fun y3 => x_B (f_Mo_termOf vT_people p1) (fun y4 => if y4 = (0 : Int32) then (if p2 = y3 then (some (1 : Int32)) else some (0 : Int32)) else if y4 = (1 : Int32) then (x_B (f_Mo_has p3 y3) (fun y8 => some (y8 &&& 1))) else if y4 = (2 : Int32) then (if p4 = y3 then (some (1 : Int32)) else some (0 : Int32)) else if y4 = (3 : Int32) then (f_Mo_wasSo_J92 vT_people p5 y3) else if y4 = (4 : Int32) then (f_Mo_wasSo_J92 vT_people p5 y3) else if y4 = (5 : Int32) then (x_B (f_Mo_has p5 y3) (fun y14 => some (y14 &&& 1))) else f_Mo_wasSo_J92 vT_people p5 y3))
set_option maxHeartbeats 8000000 in
set_option maxRecDepth 100000 in
theorem c_Mo_wasSo (l : Launch) (G : GG) (aT aT_text aT_read aT_spells aT_pasts aT_keptStates aT_keptDeeds aT_isKept aT_fars aT_queue aT_later aT_onWay aT_row aT_princes aT_tries : Nat) (vT_length : Int32) (vT_readMany : Int32) (vT_people : Int32) (vT_toldDay : Int32) (vT_toldBroken : Int32) (vT_many : Int32) (vT_now : Int32) (vT_deeds : Int32) (vT_pastMany : Int32) (vT_at : Int32) (vT_place : Int32) (vT_end : Int32) (vT_readPeople : Int32) (vT_readSpells : Int32) (vT_lifted : Int32) (vT_queued : Int32) (vT_laterMany : Int32) (vT_rowMany : Int32) (vT_princeMany : Int32) (vT_triedMany : Int32) (p1 : Int32) (p2 : Int32) (p3 : Int32) (p4 : Int32) (p5 : Int32) (r0 : Int32) (hev : f_Mo_wasSo vT_people p1 p2 p3 p4 p5 = some r0) : RO l G yX11_wasSo cX11_wasSo 7 (some .boolean) 1 [.ref aT, .int p1, .int p2, .int p3, .int p4, .int p5] [(aT, .inr (7, [.ref aT_text, .int vT_length, .ref aT_read, .int vT_readMany, .int vT_people, .int vT_toldDay, .int vT_toldBroken, .ref aT_spells, .int vT_many, .int vT_now, .int vT_deeds, .ref aT_pasts, .int vT_pastMany, .ref aT_keptStates, .ref aT_keptDeeds, .ref aT_isKept, .int vT_at, .int vT_place, .int vT_end, .int vT_readPeople, .int vT_readSpells, .int vT_lifted, .ref aT_fars, .ref aT_queue, .int vT_queued, .ref aT_later, .int vT_laterMany, .ref aT_onWay, .ref aT_row, .int vT_rowMany, .ref aT_princes, .int vT_princeMany, .ref aT_tries, .int vT_triedMany]))] (some (.int r0)) := by
  refine RO_of (by decide) (Nat.le_of_ble_eq_true rfl) ?_
  intro p e s m ar below meth c R Q H ls X hR hP hKK hS0 hl ret
  generalize hrs : r0 = rs at hev ret
  have hl : lv_has ls 7 [(0, .ref aT), (1, .int p1), (2, .int p2), (3, .int p3), (4, .int p4), (5, .int p5)] := hl
  obtain ⟨hx, hb, hml, hown, hts, hT⟩ := id X
  have hK := hKK.1
  have hw : ∀ w ∈ T0, w.before ar s = true := fun w h => hts w (hT w h)
  have J92 : ∀ (x5 : Int32) (x6 : Int32), ∀ (ls : Array Slot), f_Mo_wasSo_J92 vT_people x5 x6 = some rs → lv_has ls 7 [(5, .int x5), (6, .int x6)] → W p l e R s m ar below meth c H [] 0 0 Q (F0 m 92 ls []) := by
    intro x5 x6 ls hev hl
    unfold f_Mo_wasSo_J92 at hev
    refine lv_iload hx hb dX11_wasSo_92 (lv_at hl 0 rfl) ?_
    refine lv_iload hx hb dX11_wasSo_94 (lv_at hl 1 rfl) ?_
    obtain ⟨y1, hq, hev⟩ := x_bd hev
    refine roS X hKK hR (st1 := [.int y1]) (c_Mo_has l G x5 x6 y1 hq) K_X11_has u1287 (x_Psub hP [] rfl) (by decide) ⟨Nat.zero_le _, Nat.zero_le _⟩ rfl hl.1 rfl (Nat.le_of_ble_eq_true rfl) rfl dX11_wasSo_96 ?_
    refine lv_if_ne (tgt := 106) hx hb dX11_wasSo_99 (by decide) (fun c2 => ?_) (fun c2 => ?_)
    · replace hev := x_f c2 hev
      refine lv_iconst (v := (0 : Int32)) hx hb dX11_wasSo_106 (by decide) ?_
      exact ret _ _ _ dX11_wasSo_107 ((show narrow _ (.int (0 : Int32)) = .int (0 : Int32) from nb0).trans (congrArg Value.int (Option.some.inj hev)))
    · replace hev := x_t c2 hev
      refine lv_iconst (v := (1 : Int32)) hx hb dX11_wasSo_102 (by decide) ?_
      refine lv_goto (tgt := 107) hx hb dX11_wasSo_103 (by decide) ?_
      exact ret _ _ _ dX11_wasSo_107 ((show narrow _ (.int (1 : Int32)) = .int (1 : Int32) from nb1).trans (congrArg Value.int (Option.some.inj hev)))
  unfold f_Mo_wasSo at hev
  refine lv_aload_n hx hb dX11_wasSo_0 rfl (lv_at hl 0 rfl) ?_
  refine lv_iload_n hx hb dX11_wasSo_1 rfl (lv_at hl 1 rfl) ?_
  obtain ⟨y3, hq, hev⟩ := x_bd hev
  refine roV X hKK hR (st1 := [.int y3]) (c_Mo_numberOf l G aT aT_text aT_read aT_spells aT_pasts aT_keptStates aT_keptDeeds aT_isKept aT_fars aT_queue aT_later aT_onWay aT_row aT_princes aT_tries vT_length vT_readMany vT_people vT_toldDay vT_toldBroken vT_many vT_now vT_deeds vT_pastMany vT_at vT_place vT_end vT_readPeople vT_readSpells vT_lifted vT_queued vT_laterMany vT_rowMany vT_princeMany vT_triedMany p1 y3 hq) K_X11_numberOf u1510 (x_Psub hP [0] rfl) rfl (q0 := 0) rfl (by decide) ⟨Nat.zero_le _, Nat.zero_le _⟩ rfl hl.1 rfl (Nat.le_of_ble_eq_true rfl) rfl dX11_wasSo_2 ?_
  refine lv_istore (lv' := [(6, .int y3), (0, .ref aT), (1, .int p1), (2, .int p2), (3, .int p3), (4, .int p4), (5, .int p5)]) hx hb dX11_wasSo_5 hl (by decide) rfl (fun ls hl => ?_)
  refine lv_aload_n hx hb dX11_wasSo_7 rfl (lv_at hl 1 rfl) ?_
  refine lv_iload_n hx hb dX11_wasSo_8 rfl (lv_at hl 2 rfl) ?_
  obtain ⟨y4, hq, hev⟩ := x_bd hev
  refine roV X hKK hR (st1 := [.int y4]) (c_Mo_termOf l G aT aT_text aT_read aT_spells aT_pasts aT_keptStates aT_keptDeeds aT_isKept aT_fars aT_queue aT_later aT_onWay aT_row aT_princes aT_tries vT_length vT_readMany vT_people vT_toldDay vT_toldBroken vT_many vT_now vT_deeds vT_pastMany vT_at vT_place vT_end vT_readPeople vT_readSpells vT_lifted vT_queued vT_laterMany vT_rowMany vT_princeMany vT_triedMany p1 y4 hq) K_X11_termOf u1514 (x_Psub hP [0] rfl) rfl (q0 := 0) rfl (by decide) ⟨Nat.zero_le _, Nat.zero_le _⟩ rfl hl.1 rfl (Nat.le_of_ble_eq_true rfl) rfl dX11_wasSo_9 ?_
  by_cases c5 : y4 = (0 : Int32)
  · replace hev := x_t c5 hev
    refine lv_tableIn (tgt := 52) hx hb dX11_wasSo_12 (by rw [c5]; decide) (by rw [c5]; decide) (by rw [c5]; rfl) (by decide) ?_
    refine lv_iload_n hx hb dX11_wasSo_52 rfl (lv_at hl 3 rfl) ?_
    refine lv_iload hx hb dX11_wasSo_53 (lv_at hl 0 rfl) ?_
    refine lv_icmp_ne (tgt := 62) hx hb dX11_wasSo_55 (by decide) (fun c6 => ?_) (fun c6 => ?_)
    · replace hev := x_f c6 hev
      refine lv_iconst (v := (0 : Int32)) hx hb dX11_wasSo_62 (by decide) ?_
      exact ret _ _ _ dX11_wasSo_63 ((show narrow _ (.int (0 : Int32)) = .int (0 : Int32) from nb0).trans (congrArg Value.int (Option.some.inj hev)))
    · replace hev := x_t c6 hev
      refine lv_iconst (v := (1 : Int32)) hx hb dX11_wasSo_58 (by decide) ?_
      refine lv_goto (tgt := 63) hx hb dX11_wasSo_59 (by decide) ?_
      exact ret _ _ _ dX11_wasSo_63 ((show narrow _ (.int (1 : Int32)) = .int (1 : Int32) from nb1).trans (congrArg Value.int (Option.some.inj hev)))
  replace hev := x_f c5 hev
  by_cases c7 : y4 = (1 : Int32)
  · replace hev := x_t c7 hev
    refine lv_tableIn (tgt := 64) hx hb dX11_wasSo_12 (by rw [c7]; decide) (by rw [c7]; decide) (by rw [c7]; rfl) (by decide) ?_
    refine lv_iload_n hx hb dX11_wasSo_64 rfl (lv_at hl 4 rfl) ?_
    refine lv_iload hx hb dX11_wasSo_65 (lv_at hl 0 rfl) ?_
    obtain ⟨y8, hq, hev⟩ := x_bd hev
    refine roS X hKK hR (st1 := [.int y8]) (c_Mo_has l G p3 y3 y8 hq) K_X11_has u1287 (x_Psub hP [] rfl) (by decide) ⟨Nat.zero_le _, Nat.zero_le _⟩ rfl hl.1 rfl (Nat.le_of_ble_eq_true rfl) rfl dX11_wasSo_67 ?_
    exact ret _ _ _ dX11_wasSo_70 ((show narrow _ (.int y8) = .int (y8 &&& 1) from rfl).trans (congrArg Value.int (Option.some.inj hev)))
  replace hev := x_f c7 hev
  by_cases c9 : y4 = (2 : Int32)
  · replace hev := x_t c9 hev
    refine lv_tableIn (tgt := 71) hx hb dX11_wasSo_12 (by rw [c9]; decide) (by rw [c9]; decide) (by rw [c9]; rfl) (by decide) ?_
    refine lv_iload hx hb dX11_wasSo_71 (lv_at hl 5 rfl) ?_
    refine lv_iload hx hb dX11_wasSo_73 (lv_at hl 0 rfl) ?_
    refine lv_icmp_ne (tgt := 82) hx hb dX11_wasSo_75 (by decide) (fun c10 => ?_) (fun c10 => ?_)
    · replace hev := x_f c10 hev
      refine lv_iconst (v := (0 : Int32)) hx hb dX11_wasSo_82 (by decide) ?_
      exact ret _ _ _ dX11_wasSo_83 ((show narrow _ (.int (0 : Int32)) = .int (0 : Int32) from nb0).trans (congrArg Value.int (Option.some.inj hev)))
    · replace hev := x_t c10 hev
      refine lv_iconst (v := (1 : Int32)) hx hb dX11_wasSo_78 (by decide) ?_
      refine lv_goto (tgt := 83) hx hb dX11_wasSo_79 (by decide) ?_
      exact ret _ _ _ dX11_wasSo_83 ((show narrow _ (.int (1 : Int32)) = .int (1 : Int32) from nb1).trans (congrArg Value.int (Option.some.inj hev)))
  replace hev := x_f c9 hev
  by_cases c11 : y4 = (3 : Int32)
  · replace hev := x_t c11 hev
    refine lv_tableIn (tgt := 92) hx hb dX11_wasSo_12 (by rw [c11]; decide) (by rw [c11]; decide) (by rw [c11]; rfl) (by decide) ?_
    exact J92 p5 y3 ls hev (lv_sub hl [6, 0] rfl)
  replace hev := x_f c11 hev
  by_cases c12 : y4 = (4 : Int32)
  · replace hev := x_t c12 hev
    refine lv_tableIn (tgt := 92) hx hb dX11_wasSo_12 (by rw [c12]; decide) (by rw [c12]; decide) (by rw [c12]; rfl) (by decide) ?_
    exact J92 p5 y3 ls hev (lv_sub hl [6, 0] rfl)
  replace hev := x_f c12 hev
  by_cases c13 : y4 = (5 : Int32)
  · replace hev := x_t c13 hev
    refine lv_tableIn (tgt := 84) hx hb dX11_wasSo_12 (by rw [c13]; decide) (by rw [c13]; decide) (by rw [c13]; rfl) (by decide) ?_
    refine lv_iload hx hb dX11_wasSo_84 (lv_at hl 6 rfl) ?_
    refine lv_iload hx hb dX11_wasSo_86 (lv_at hl 0 rfl) ?_
    obtain ⟨y14, hq, hev⟩ := x_bd hev
    refine roS X hKK hR (st1 := [.int y14]) (c_Mo_has l G p5 y3 y14 hq) K_X11_has u1287 (x_Psub hP [] rfl) (by decide) ⟨Nat.zero_le _, Nat.zero_le _⟩ rfl hl.1 rfl (Nat.le_of_ble_eq_true rfl) rfl dX11_wasSo_88 ?_
    exact ret _ _ _ dX11_wasSo_91 ((show narrow _ (.int y14) = .int (y14 &&& 1) from rfl).trans (congrArg Value.int (Option.some.inj hev)))
  replace hev := x_f c13 hev
  refine lv_tableOut (tgt := 92) hx hb dX11_wasSo_12 (by have q0 : y4.toInt ≠ 0 := x_ne c5; have q1 : y4.toInt ≠ 1 := x_ne c7; have q2 : y4.toInt ≠ 2 := x_ne c9; have q3 : y4.toInt ≠ 3 := x_ne c11; have q4 : y4.toInt ≠ 4 := x_ne c12; have q5 : y4.toInt ≠ 5 := x_ne c13; omega) (by decide) ?_
  exact J92 p5 y3 ls hev (lv_sub hl [6, 0] rfl)
def f_Mo_fits_J143 (rec : Int32 → Int32 → Option (Int32)) (k : Nat) (vT_people : Int32) (vT_triedMany : Int32) (fT_tries : Nat → Int32) (x1 : Int32) (x2 : Int32) (x4 : Int32) (s0 : Int32) : Option (Int32) := x_L (x4 + (1 : Int32)) (fun y1 => rec s0 y1)
def f_Mo_fits_J142 (rec : Int32 → Int32 → Option (Int32)) (k : Nat) (vT_people : Int32) (vT_triedMany : Int32) (fT_tries : Nat → Int32) (x1 : Int32) (x2 : Int32) (x4 : Int32) : Option (Int32) := f_Mo_fits_J143 rec k vT_people vT_triedMany fT_tries x1 x2 x4 (0 : Int32)
def f_Mo_fits_J135 (rec : Int32 → Int32 → Option (Int32)) (k : Nat) (vT_people : Int32) (vT_triedMany : Int32) (fT_tries : Nat → Int32) (x1 : Int32) (x2 : Int32) (x4 : Int32) (s0 : Int32) (s1 : Int32) : Option (Int32) := if s1 = s0 then (f_Mo_fits_J143 rec k vT_people vT_triedMany fT_tries x1 x2 x4 (1 : Int32)) else f_Mo_fits_J142 rec k vT_people vT_triedMany fT_tries x1 x2 x4
def f_Mo_fits_J109 (rec : Int32 → Int32 → Option (Int32)) (k : Nat) (vT_people : Int32) (vT_triedMany : Int32) (fT_tries : Nat → Int32) (x1 : Int32) (x2 : Int32) (x3 : Int32) (x4 : Int32) (x5 : Int32) (s0 : Int32) : Option (Int32) := if x3 = 0 then (f_Mo_fits_J142 rec k vT_people vT_triedMany fT_tries x1 x2 x4) else x_L ((x5 + (4 : Int32))) (fun y4 => x_I 40 fT_tries y4 (fun v6 => if v6 = (1 : Int32) then (f_Mo_fits_J135 rec k vT_people vT_triedMany fT_tries x1 x2 x4 (1 : Int32) s0) else f_Mo_fits_J135 rec k vT_people vT_triedMany fT_tries x1 x2 x4 (0 : Int32) s0))
def f_Mo_fits_J108 (rec : Int32 → Int32 → Option (Int32)) (k : Nat) (vT_people : Int32) (vT_triedMany : Int32) (fT_tries : Nat → Int32) (x1 : Int32) (x2 : Int32) (x3 : Int32) (x4 : Int32) (x5 : Int32) : Option (Int32) := f_Mo_fits_J109 rec k vT_people vT_triedMany fT_tries x1 x2 x3 x4 x5 (0 : Int32)
def f_Mo_fits_L5 (vT_people : Int32) (vT_triedMany : Int32) (fT_tries : Nat → Int32) (x1 : Int32) (x2 : Int32) : Nat → Int32 → Int32 → Option (Int32)
  | 0, _, _ => none
  | k + 1, x3, x4 => if vT_triedMany ≤ x4 then (some x3) else x_L (((5 : Int32) * x4)) (fun y9 => x_I 40 fT_tries y9 (fun v11 => x_L ((y9 + (1 : Int32))) (fun y12 => x_I 40 fT_tries y12 (fun v14 => x_L ((y9 + (2 : Int32))) (fun y15 => x_I 40 fT_tries y15 (fun v17 => x_L ((y9 + (3 : Int32))) (fun y18 => x_I 40 fT_tries y18 (fun v20 => x_B (f_Mo_wasSo vT_people x1 v11 v14 v17 v20) (fun y21 => if y21 = 0 then (f_Mo_fits_J108 (f_Mo_fits_L5 vT_people vT_triedMany fT_tries x1 x2 k) k vT_people vT_triedMany fT_tries x1 x2 x3 x4 y9) else x_I 40 fT_tries y9 (fun v24 => x_L ((y9 + (1 : Int32))) (fun y25 => x_I 40 fT_tries y25 (fun v27 => x_L ((y9 + (2 : Int32))) (fun y28 => x_I 40 fT_tries y28 (fun v30 => x_L ((y9 + (3 : Int32))) (fun y31 => x_I 40 fT_tries y31 (fun v33 => x_B (f_Mo_wasSo vT_people x2 v24 v27 v30 v33) (fun y34 => if y34 = 0 then (f_Mo_fits_J108 (f_Mo_fits_L5 vT_people vT_triedMany fT_tries x1 x2 k) k vT_people vT_triedMany fT_tries x1 x2 x3 x4 y9) else f_Mo_fits_J109 (f_Mo_fits_L5 vT_people vT_triedMany fT_tries x1 x2 k) k vT_people vT_triedMany fT_tries x1 x2 x3 x4 y9 (1 : Int32))))))))))))))))))
def f_Mo_fits (k : Nat) (vT_people : Int32) (vT_triedMany : Int32) (fT_tries : Nat → Int32) (p1 : Int32) (p2 : Int32) : Option (Int32) := x_B (f_Mo_fits_L5 vT_people vT_triedMany fT_tries p1 p2 k (1 : Int32) (0 : Int32)) (fun y36 => some (y36 &&& 1))
set_option maxHeartbeats 8000000 in
set_option maxRecDepth 100000 in
theorem c_Mo_fits (l : Launch) (G : GG) (aT aT_text aT_read aT_spells aT_pasts aT_keptStates aT_keptDeeds aT_isKept aT_fars aT_queue aT_later aT_onWay aT_row aT_princes aT_tries : Nat) (vT_length : Int32) (vT_readMany : Int32) (vT_people : Int32) (vT_toldDay : Int32) (vT_toldBroken : Int32) (vT_many : Int32) (vT_now : Int32) (vT_deeds : Int32) (vT_pastMany : Int32) (vT_at : Int32) (vT_place : Int32) (vT_end : Int32) (vT_readPeople : Int32) (vT_readSpells : Int32) (vT_lifted : Int32) (vT_queued : Int32) (vT_laterMany : Int32) (vT_rowMany : Int32) (vT_princeMany : Int32) (vT_triedMany : Int32) (fT_tries : Nat → Int32) (k : Nat) (p1 : Int32) (p2 : Int32) (r0 : Int32) (hev : f_Mo_fits k vT_people vT_triedMany fT_tries p1 p2 = some r0) : RO l G yX11_fits cX11_fits 7 (some .boolean) 2 [.ref aT, .int p1, .int p2] [(aT, .inr (7, [.ref aT_text, .int vT_length, .ref aT_read, .int vT_readMany, .int vT_people, .int vT_toldDay, .int vT_toldBroken, .ref aT_spells, .int vT_many, .int vT_now, .int vT_deeds, .ref aT_pasts, .int vT_pastMany, .ref aT_keptStates, .ref aT_keptDeeds, .ref aT_isKept, .int vT_at, .int vT_place, .int vT_end, .int vT_readPeople, .int vT_readSpells, .int vT_lifted, .ref aT_fars, .ref aT_queue, .int vT_queued, .ref aT_later, .int vT_laterMany, .ref aT_onWay, .ref aT_row, .int vT_rowMany, .ref aT_princes, .int vT_princeMany, .ref aT_tries, .int vT_triedMany])), (aT_tries, .inl (G.2.1, 40, .inl fT_tries))] (some (.int r0)) := by
  refine RO_of (by decide) (Nat.le_of_ble_eq_true rfl) ?_
  intro p e s m ar below meth c R Q H ls X hR hP hKK hS0 hl ret
  generalize hrs : r0 = rs at hev ret
  have hl : lv_has ls 7 [(0, .ref aT), (1, .int p1), (2, .int p2)] := hl
  obtain ⟨hx, hb, hml, hown, hts, hT⟩ := id X
  have hK := hKK.1
  have hw : ∀ w ∈ T0, w.before ar s = true := fun w h => hts w (hT w h)
  have i11 := fun w h => hT w (inT11 w h)
  unfold f_Mo_fits at hev
  refine lv_iconst (v := (1 : Int32)) hx hb dX11_fits_0 (by decide) ?_
  refine lv_istore_n (lv' := [(3, .int (1 : Int32)), (0, .ref aT), (1, .int p1), (2, .int p2)]) hx hb dX11_fits_1 rfl hl (by decide) rfl (fun ls hl => ?_)
  refine lv_iconst (v := (0 : Int32)) hx hb dX11_fits_2 (by decide) ?_
  refine lv_istore (lv' := [(4, .int (0 : Int32)), (3, .int (1 : Int32)), (0, .ref aT), (1, .int p1), (2, .int p2)]) hx hb dX11_fits_3 hl (by decide) rfl (fun ls hl => ?_)
  have L5 : ∀ (x1 : Int32) (x2 : Int32), ∀ (k : Nat) (x3 : Int32) (x4 : Int32) (o3 : Int32), f_Mo_fits_L5 vT_people vT_triedMany fT_tries x1 x2 k x3 x4 = some o3 → (∀ (ls : Array Slot), lv_has ls 7 [(3, .int o3)] → W p l e R s m ar below meth c H [] 0 0 Q (F0 m 150 ls [])) → ∀ (ls : Array Slot), lv_has ls 7 [(0, .ref aT), (1, .int x1), (2, .int x2), (3, .int x3), (4, .int x4)] → W p l e R s m ar below meth c H [] 0 0 Q (F0 m 5 ls []) := by
    intro x1 x2 k
    induction k with
    | zero => intro x3 x4 o3 hev; rw [f_Mo_fits_L5] at hev; cases hev
    | succ k ih =>
      intro x3 x4 o3 hev hex ls hl
      rw [f_Mo_fits_L5] at hev
      have J143 : ∀ (x4 : Int32) (s0 : Int32), ∀ (ls : Array Slot), f_Mo_fits_J143 (f_Mo_fits_L5 vT_people vT_triedMany fT_tries x1 x2 k) k vT_people vT_triedMany fT_tries x1 x2 x4 s0 = some o3 → lv_has ls 7 [(0, .ref aT), (1, .int x1), (2, .int x2), (4, .int x4)] → W p l e R s m ar below meth c H [] 0 0 Q (F0 m 143 ls [.int s0]) := by
        intro x4 s0 ls hev hl
        unfold f_Mo_fits_J143 at hev
        refine lv_istore_n (lv' := [(3, .int s0), (0, .ref aT), (1, .int x1), (2, .int x2), (4, .int x4)]) hx hb dX11_fits_143 rfl hl (by decide) rfl (fun ls hl => ?_)
        obtain ⟨y1, ey1⟩ : ∃ y : Int32, y = x4 + (1 : Int32) := ⟨_, rfl⟩
        refine lv_iinc (v := y1) (lv' := [(4, .int y1), (3, .int s0), (0, .ref aT), (1, .int x1), (2, .int x2)]) hx hb dX11_fits_144 hl (k := 4) rfl (by rw [ey1]; rfl) (by decide) rfl (fun ls hl => ?_)
        replace hev := x_lt hev y1 ey1
        refine lv_goto (tgt := 5) hx hb dX11_fits_147 (by decide) ?_
        exact ih s0 y1 _ hev hex ls (lv_sub hl [2, 3, 4, 1, 0] rfl)
      have J142 : ∀ (x4 : Int32), ∀ (ls : Array Slot), f_Mo_fits_J142 (f_Mo_fits_L5 vT_people vT_triedMany fT_tries x1 x2 k) k vT_people vT_triedMany fT_tries x1 x2 x4 = some o3 → lv_has ls 7 [(0, .ref aT), (1, .int x1), (2, .int x2), (4, .int x4)] → W p l e R s m ar below meth c H [] 0 0 Q (F0 m 142 ls []) := by
        intro x4 ls hev hl
        unfold f_Mo_fits_J142 at hev
        refine lv_iconst (v := (0 : Int32)) hx hb dX11_fits_142 (by decide) ?_
        exact J143 x4 (0 : Int32) ls hev (lv_sub hl [0, 1, 2, 3] rfl)
      have J135 : ∀ (x4 : Int32) (s0 : Int32) (s1 : Int32), ∀ (ls : Array Slot), f_Mo_fits_J135 (f_Mo_fits_L5 vT_people vT_triedMany fT_tries x1 x2 k) k vT_people vT_triedMany fT_tries x1 x2 x4 s0 s1 = some o3 → lv_has ls 7 [(0, .ref aT), (1, .int x1), (2, .int x2), (4, .int x4)] → W p l e R s m ar below meth c H [] 0 0 Q (F0 m 135 ls [.int s0, .int s1]) := by
        intro x4 s0 s1 ls hev hl
        unfold f_Mo_fits_J135 at hev
        refine lv_icmp_ne (tgt := 142) hx hb dX11_fits_135 (by decide) (fun c2 => ?_) (fun c2 => ?_)
        · replace hev := x_f c2 hev
          exact J142 x4 ls hev (lv_sub hl [0, 1, 2, 3] rfl)
        · replace hev := x_t c2 hev
          refine lv_iconst (v := (1 : Int32)) hx hb dX11_fits_138 (by decide) ?_
          refine lv_goto (tgt := 143) hx hb dX11_fits_139 (by decide) ?_
          exact J143 x4 (1 : Int32) ls hev (lv_sub hl [0, 1, 2, 3] rfl)
      have J109 : ∀ (x3 : Int32) (x4 : Int32) (x5 : Int32) (s0 : Int32), ∀ (ls : Array Slot), f_Mo_fits_J109 (f_Mo_fits_L5 vT_people vT_triedMany fT_tries x1 x2 k) k vT_people vT_triedMany fT_tries x1 x2 x3 x4 x5 s0 = some o3 → lv_has ls 7 [(0, .ref aT), (1, .int x1), (2, .int x2), (3, .int x3), (4, .int x4), (5, .int x5)] → W p l e R s m ar below meth c H [] 0 0 Q (F0 m 109 ls [.int s0]) := by
        intro x3 x4 x5 s0 ls hev hl
        unfold f_Mo_fits_J109 at hev
        refine lv_istore (lv' := [(6, .int s0), (0, .ref aT), (1, .int x1), (2, .int x2), (3, .int x3), (4, .int x4), (5, .int x5)]) hx hb dX11_fits_109 hl (by decide) rfl (fun ls hl => ?_)
        refine lv_iload_n hx hb dX11_fits_111 rfl (lv_at hl 4 rfl) ?_
        refine lv_if_eq (tgt := 142) hx hb dX11_fits_112 (by decide) (fun c3 => ?_) (fun c3 => ?_)
        · replace hev := x_t c3 hev
          exact J142 x4 ls hev (lv_sub hl [1, 2, 3, 5] rfl)
        · replace hev := x_f c3 hev
          refine lv_iload hx hb dX11_fits_115 (lv_at hl 0 rfl) ?_
          refine lv_aload_n hx hb dX11_fits_117 rfl (lv_at hl 1 rfl) ?_
          refine va_get (D := G.1) (ci := 7) (v := .ref aT_tries) (C := RX11) (T := TX11) (N := 34) hx hb hts i11 hown hK hP 0 rfl rfl 32 (by decide) (hw _ u1119) (fun _ h9 => h9) rfl dX11_fits_118 ?_
          refine lv_iload hx hb dX11_fits_121 (lv_at hl 6 rfl) ?_
          refine lv_iconst (v := (4 : Int32)) hx hb dX11_fits_123 (by decide) ?_
          refine lv_iadd hx hb dX11_fits_124 ?_
          refine lv_topi (fun y4 ey4 => ?_)
          replace hev := x_lt hev y4 ey4
          obtain ⟨h5, hev⟩ := x_ld hev
          refine va_iald hx hb hK hP 1 0 rfl rfl h5 dX11_fits_125 ?_
          refine lv_topi (fun v6 ev6 => ?_)
          replace hev := hev v6 ev6
          refine lv_iconst (v := (1 : Int32)) hx hb dX11_fits_126 (by decide) ?_
          refine lv_icmp_ne (tgt := 134) hx hb dX11_fits_127 (by decide) (fun c7 => ?_) (fun c7 => ?_)
          · replace hev := x_f c7 hev
            refine lv_iconst (v := (0 : Int32)) hx hb dX11_fits_134 (by decide) ?_
            exact J135 x4 (0 : Int32) s0 ls hev (lv_sub hl [1, 2, 3, 5] rfl)
          · replace hev := x_t c7 hev
            refine lv_iconst (v := (1 : Int32)) hx hb dX11_fits_130 (by decide) ?_
            refine lv_goto (tgt := 135) hx hb dX11_fits_131 (by decide) ?_
            exact J135 x4 (1 : Int32) s0 ls hev (lv_sub hl [1, 2, 3, 5] rfl)
      have J108 : ∀ (x3 : Int32) (x4 : Int32) (x5 : Int32), ∀ (ls : Array Slot), f_Mo_fits_J108 (f_Mo_fits_L5 vT_people vT_triedMany fT_tries x1 x2 k) k vT_people vT_triedMany fT_tries x1 x2 x3 x4 x5 = some o3 → lv_has ls 7 [(0, .ref aT), (1, .int x1), (2, .int x2), (3, .int x3), (4, .int x4), (5, .int x5)] → W p l e R s m ar below meth c H [] 0 0 Q (F0 m 108 ls []) := by
        intro x3 x4 x5 ls hev hl
        unfold f_Mo_fits_J108 at hev
        refine lv_iconst (v := (0 : Int32)) hx hb dX11_fits_108 (by decide) ?_
        exact J109 x3 x4 x5 (0 : Int32) ls hev (lv_sub hl [0, 1, 2, 3, 4, 5] rfl)
      refine lv_iload hx hb dX11_fits_5 (lv_at hl 4 rfl) ?_
      refine lv_aload_n hx hb dX11_fits_7 rfl (lv_at hl 0 rfl) ?_
      refine va_get (D := G.1) (ci := 7) (v := .int vT_triedMany) (C := RX11) (T := TX11) (N := 34) hx hb hts i11 hown hK hP 0 rfl rfl 33 (by decide) (hw _ u1120) (fun _ h9 => h9) rfl dX11_fits_8 ?_
      refine lv_icmp_ge (tgt := 150) hx hb dX11_fits_11 (by decide) (fun c8 => ?_) (fun c8 => ?_)
      · replace hev := x_t c8 hev
        cases hev
        exact hex ls (lv_sub hl [3] rfl)
      · replace hev := x_f c8 hev
        refine lv_iconst (v := (5 : Int32)) hx hb dX11_fits_14 (by decide) ?_
        refine lv_iload hx hb dX11_fits_15 (lv_at hl 4 rfl) ?_
        refine lv_imul hx hb dX11_fits_17 ?_
        refine lv_topi (fun y9 ey9 => ?_)
        replace hev := x_lt hev y9 ey9
        refine lv_istore (lv' := [(5, .int y9), (0, .ref aT), (1, .int x1), (2, .int x2), (3, .int x3), (4, .int x4)]) hx hb dX11_fits_18 hl (by decide) rfl (fun ls hl => ?_)
        refine lv_aload_n hx hb dX11_fits_20 rfl (lv_at hl 1 rfl) ?_
        refine lv_iload_n hx hb dX11_fits_21 rfl (lv_at hl 2 rfl) ?_
        refine lv_aload_n hx hb dX11_fits_22 rfl (lv_at hl 1 rfl) ?_
        refine va_get (D := G.1) (ci := 7) (v := .ref aT_tries) (C := RX11) (T := TX11) (N := 34) hx hb hts i11 hown hK hP 0 rfl rfl 32 (by decide) (hw _ u1119) (fun _ h9 => h9) rfl dX11_fits_23 ?_
        refine lv_iload hx hb dX11_fits_26 (lv_at hl 0 rfl) ?_
        obtain ⟨h10, hev⟩ := x_ld hev
        refine va_iald hx hb hK hP 1 0 rfl rfl h10 dX11_fits_28 ?_
        refine lv_topi (fun v11 ev11 => ?_)
        replace hev := hev v11 ev11
        refine lv_aload_n hx hb dX11_fits_29 rfl (lv_at hl 1 rfl) ?_
        refine va_get (D := G.1) (ci := 7) (v := .ref aT_tries) (C := RX11) (T := TX11) (N := 34) hx hb hts i11 hown hK hP 0 rfl rfl 32 (by decide) (hw _ u1119) (fun _ h9 => h9) rfl dX11_fits_30 ?_
        refine lv_iload hx hb dX11_fits_33 (lv_at hl 0 rfl) ?_
        refine lv_iconst (v := (1 : Int32)) hx hb dX11_fits_35 (by decide) ?_
        refine lv_iadd hx hb dX11_fits_36 ?_
        refine lv_topi (fun y12 ey12 => ?_)
        replace hev := x_lt hev y12 ey12
        obtain ⟨h13, hev⟩ := x_ld hev
        refine va_iald hx hb hK hP 1 0 rfl rfl h13 dX11_fits_37 ?_
        refine lv_topi (fun v14 ev14 => ?_)
        replace hev := hev v14 ev14
        refine lv_aload_n hx hb dX11_fits_38 rfl (lv_at hl 1 rfl) ?_
        refine va_get (D := G.1) (ci := 7) (v := .ref aT_tries) (C := RX11) (T := TX11) (N := 34) hx hb hts i11 hown hK hP 0 rfl rfl 32 (by decide) (hw _ u1119) (fun _ h9 => h9) rfl dX11_fits_39 ?_
        refine lv_iload hx hb dX11_fits_42 (lv_at hl 0 rfl) ?_
        refine lv_iconst (v := (2 : Int32)) hx hb dX11_fits_44 (by decide) ?_
        refine lv_iadd hx hb dX11_fits_45 ?_
        refine lv_topi (fun y15 ey15 => ?_)
        replace hev := x_lt hev y15 ey15
        obtain ⟨h16, hev⟩ := x_ld hev
        refine va_iald hx hb hK hP 1 0 rfl rfl h16 dX11_fits_46 ?_
        refine lv_topi (fun v17 ev17 => ?_)
        replace hev := hev v17 ev17
        refine lv_aload_n hx hb dX11_fits_47 rfl (lv_at hl 1 rfl) ?_
        refine va_get (D := G.1) (ci := 7) (v := .ref aT_tries) (C := RX11) (T := TX11) (N := 34) hx hb hts i11 hown hK hP 0 rfl rfl 32 (by decide) (hw _ u1119) (fun _ h9 => h9) rfl dX11_fits_48 ?_
        refine lv_iload hx hb dX11_fits_51 (lv_at hl 0 rfl) ?_
        refine lv_iconst (v := (3 : Int32)) hx hb dX11_fits_53 (by decide) ?_
        refine lv_iadd hx hb dX11_fits_54 ?_
        refine lv_topi (fun y18 ey18 => ?_)
        replace hev := x_lt hev y18 ey18
        obtain ⟨h19, hev⟩ := x_ld hev
        refine va_iald hx hb hK hP 1 0 rfl rfl h19 dX11_fits_55 ?_
        refine lv_topi (fun v20 ev20 => ?_)
        replace hev := hev v20 ev20
        obtain ⟨y21, hq, hev⟩ := x_bd hev
        refine roV X hKK hR (st1 := [.int y21]) (c_Mo_wasSo l G aT aT_text aT_read aT_spells aT_pasts aT_keptStates aT_keptDeeds aT_isKept aT_fars aT_queue aT_later aT_onWay aT_row aT_princes aT_tries vT_length vT_readMany vT_people vT_toldDay vT_toldBroken vT_many vT_now vT_deeds vT_pastMany vT_at vT_place vT_end vT_readPeople vT_readSpells vT_lifted vT_queued vT_laterMany vT_rowMany vT_princeMany vT_triedMany x1 v11 v14 v17 v20 y21 hq) K_X11_wasSo u1506 (x_Psub hP [0] rfl) rfl (q0 := 0) rfl (by decide) ⟨Nat.zero_le _, Nat.zero_le _⟩ rfl hl.1 rfl (Nat.le_of_ble_eq_true rfl) rfl dX11_fits_56 ?_
        refine lv_if_eq (tgt := 108) hx hb dX11_fits_59 (by decide) (fun c22 => ?_) (fun c22 => ?_)
        · replace hev := x_t c22 hev
          exact J108 x3 x4 y9 ls hev (lv_sub hl [1, 2, 3, 4, 5, 0] rfl)
        · replace hev := x_f c22 hev
          refine lv_aload_n hx hb dX11_fits_62 rfl (lv_at hl 1 rfl) ?_
          refine lv_iload_n hx hb dX11_fits_63 rfl (lv_at hl 3 rfl) ?_
          refine lv_aload_n hx hb dX11_fits_64 rfl (lv_at hl 1 rfl) ?_
          refine va_get (D := G.1) (ci := 7) (v := .ref aT_tries) (C := RX11) (T := TX11) (N := 34) hx hb hts i11 hown hK hP 0 rfl rfl 32 (by decide) (hw _ u1119) (fun _ h9 => h9) rfl dX11_fits_65 ?_
          refine lv_iload hx hb dX11_fits_68 (lv_at hl 0 rfl) ?_
          obtain ⟨h23, hev⟩ := x_ld hev
          refine va_iald hx hb hK hP 1 0 rfl rfl h23 dX11_fits_70 ?_
          refine lv_topi (fun v24 ev24 => ?_)
          replace hev := hev v24 ev24
          refine lv_aload_n hx hb dX11_fits_71 rfl (lv_at hl 1 rfl) ?_
          refine va_get (D := G.1) (ci := 7) (v := .ref aT_tries) (C := RX11) (T := TX11) (N := 34) hx hb hts i11 hown hK hP 0 rfl rfl 32 (by decide) (hw _ u1119) (fun _ h9 => h9) rfl dX11_fits_72 ?_
          refine lv_iload hx hb dX11_fits_75 (lv_at hl 0 rfl) ?_
          refine lv_iconst (v := (1 : Int32)) hx hb dX11_fits_77 (by decide) ?_
          refine lv_iadd hx hb dX11_fits_78 ?_
          refine lv_topi (fun y25 ey25 => ?_)
          replace hev := x_lt hev y25 ey25
          obtain ⟨h26, hev⟩ := x_ld hev
          refine va_iald hx hb hK hP 1 0 rfl rfl h26 dX11_fits_79 ?_
          refine lv_topi (fun v27 ev27 => ?_)
          replace hev := hev v27 ev27
          refine lv_aload_n hx hb dX11_fits_80 rfl (lv_at hl 1 rfl) ?_
          refine va_get (D := G.1) (ci := 7) (v := .ref aT_tries) (C := RX11) (T := TX11) (N := 34) hx hb hts i11 hown hK hP 0 rfl rfl 32 (by decide) (hw _ u1119) (fun _ h9 => h9) rfl dX11_fits_81 ?_
          refine lv_iload hx hb dX11_fits_84 (lv_at hl 0 rfl) ?_
          refine lv_iconst (v := (2 : Int32)) hx hb dX11_fits_86 (by decide) ?_
          refine lv_iadd hx hb dX11_fits_87 ?_
          refine lv_topi (fun y28 ey28 => ?_)
          replace hev := x_lt hev y28 ey28
          obtain ⟨h29, hev⟩ := x_ld hev
          refine va_iald hx hb hK hP 1 0 rfl rfl h29 dX11_fits_88 ?_
          refine lv_topi (fun v30 ev30 => ?_)
          replace hev := hev v30 ev30
          refine lv_aload_n hx hb dX11_fits_89 rfl (lv_at hl 1 rfl) ?_
          refine va_get (D := G.1) (ci := 7) (v := .ref aT_tries) (C := RX11) (T := TX11) (N := 34) hx hb hts i11 hown hK hP 0 rfl rfl 32 (by decide) (hw _ u1119) (fun _ h9 => h9) rfl dX11_fits_90 ?_
          refine lv_iload hx hb dX11_fits_93 (lv_at hl 0 rfl) ?_
          refine lv_iconst (v := (3 : Int32)) hx hb dX11_fits_95 (by decide) ?_
          refine lv_iadd hx hb dX11_fits_96 ?_
          refine lv_topi (fun y31 ey31 => ?_)
          replace hev := x_lt hev y31 ey31
          obtain ⟨h32, hev⟩ := x_ld hev
          refine va_iald hx hb hK hP 1 0 rfl rfl h32 dX11_fits_97 ?_
          refine lv_topi (fun v33 ev33 => ?_)
          replace hev := hev v33 ev33
          obtain ⟨y34, hq, hev⟩ := x_bd hev
          refine roV X hKK hR (st1 := [.int y34]) (c_Mo_wasSo l G aT aT_text aT_read aT_spells aT_pasts aT_keptStates aT_keptDeeds aT_isKept aT_fars aT_queue aT_later aT_onWay aT_row aT_princes aT_tries vT_length vT_readMany vT_people vT_toldDay vT_toldBroken vT_many vT_now vT_deeds vT_pastMany vT_at vT_place vT_end vT_readPeople vT_readSpells vT_lifted vT_queued vT_laterMany vT_rowMany vT_princeMany vT_triedMany x2 v24 v27 v30 v33 y34 hq) K_X11_wasSo u1506 (x_Psub hP [0] rfl) rfl (q0 := 0) rfl (by decide) ⟨Nat.zero_le _, Nat.zero_le _⟩ rfl hl.1 rfl (Nat.le_of_ble_eq_true rfl) rfl dX11_fits_98 ?_
          refine lv_if_eq (tgt := 108) hx hb dX11_fits_101 (by decide) (fun c35 => ?_) (fun c35 => ?_)
          · replace hev := x_t c35 hev
            exact J108 x3 x4 y9 ls hev (lv_sub hl [1, 2, 3, 4, 5, 0] rfl)
          · replace hev := x_f c35 hev
            refine lv_iconst (v := (1 : Int32)) hx hb dX11_fits_104 (by decide) ?_
            refine lv_goto (tgt := 109) hx hb dX11_fits_105 (by decide) ?_
            exact J109 x3 x4 y9 (1 : Int32) ls hev (lv_sub hl [1, 2, 3, 4, 5, 0] rfl)
  obtain ⟨y36, hq, hev⟩ := x_bd hev
  refine L5 p1 p2 k (1 : Int32) (0 : Int32) y36 hq (fun ls hl => ?_) ls (lv_sub hl [2, 3, 4, 1, 0] rfl)
  refine lv_iload_n hx hb dX11_fits_150 rfl (lv_at hl 0 rfl) ?_
  exact ret _ _ _ dX11_fits_151 ((show narrow _ (.int y36) = .int (y36 &&& 1) from rfl).trans (congrArg Value.int (Option.some.inj hev)))
def f_Mo_mayBe_J178 (k : Nat) (vT_people : Int32) (vT_triedMany : Int32) (fT_tries : Nat → Int32) (x1 : Int32) (x2 : Int32) : Option (Int32) := if x1 = 0 then (some x2) else some (-4 : Int32)
def f_Mo_mayBe_J80 (rec : Int32 → Int32 → Int32 → Option (Int32 × Int32)) (k : Nat) (vT_people : Int32) (vT_triedMany : Int32) (fT_tries : Nat → Int32) (x1 : Int32) (x3 : Int32) (x4 : Int32) (x5 : Int32) (s0 : Int32) (s1 : Int32) : Option (Int32 × Int32) := x_L ((s1 + s0)) (fun y5 => x_L (x5 + (1 : Int32)) (fun y6 => rec y5 x3 y6))
def f_Mo_mayBe_J62 (rec : Int32 → Int32 → Int32 → Option (Int32 × Int32)) (k : Nat) (vT_people : Int32) (vT_triedMany : Int32) (fT_tries : Nat → Int32) (x1 : Int32) (x2 : Int32) (x4 : Int32) (x5 : Int32) (s0 : Int32) : Option (Int32 × Int32) := x_B (f_Mo_fits k vT_people vT_triedMany fT_tries x5 x5) (fun y7 => if y7 = 0 then (f_Mo_mayBe_J80 rec k vT_people vT_triedMany fT_tries x1 s0 x4 x5 (0 : Int32) x2) else f_Mo_mayBe_J80 rec k vT_people vT_triedMany fT_tries x1 s0 x4 x5 (1 : Int32) x2)
def f_Mo_mayBe_J61 (rec : Int32 → Int32 → Int32 → Option (Int32 × Int32)) (k : Nat) (vT_people : Int32) (vT_triedMany : Int32) (fT_tries : Nat → Int32) (x1 : Int32) (x2 : Int32) (x3 : Int32) (x4 : Int32) (x5 : Int32) : Option (Int32 × Int32) := f_Mo_mayBe_J62 rec k vT_people vT_triedMany fT_tries x1 x2 x4 x5 x3
def f_Mo_mayBe_L28 (vT_people : Int32) (vT_triedMany : Int32) (fT_tries : Nat → Int32) (x1 : Int32) (x4 : Int32) : Nat → Int32 → Int32 → Int32 → Option (Int32 × Int32)
  | 0, _, _, _ => none
  | k + 1, x2, x3, x5 => if x4 ≤ x5 then (some (x2, x3)) else if x2 = 0 then (x_B (f_Mo_fits k vT_people vT_triedMany fT_tries x5 x5) (fun y11 => if y11 = 0 then (f_Mo_mayBe_J61 (f_Mo_mayBe_L28 vT_people vT_triedMany fT_tries x1 x4 k) k vT_people vT_triedMany fT_tries x1 x2 x3 x4 x5) else f_Mo_mayBe_J62 (f_Mo_mayBe_L28 vT_people vT_triedMany fT_tries x1 x4 k) k vT_people vT_triedMany fT_tries x1 x2 x4 x5 (((20 : Int32) * x5) + x5))) else f_Mo_mayBe_J61 (f_Mo_mayBe_L28 vT_people vT_triedMany fT_tries x1 x4 k) k vT_people vT_triedMany fT_tries x1 x2 x3 x4 x5
def f_Mo_mayBe_J156 (rec : Int32 → Int32 → Int32 → Option (Int32 × Int32)) (k : Nat) (vT_people : Int32) (vT_triedMany : Int32) (fT_tries : Nat → Int32) (x1 : Int32) (x3 : Int32) (x4 : Int32) (x5 : Int32) (x6 : Int32) (s0 : Int32) (s1 : Int32) : Option (Int32 × Int32) := x_L ((s1 + s0)) (fun y17 => x_L (x6 + (1 : Int32)) (fun y18 => rec y17 x3 y18))
def f_Mo_mayBe_J138 (rec : Int32 → Int32 → Int32 → Option (Int32 × Int32)) (k : Nat) (vT_people : Int32) (vT_triedMany : Int32) (fT_tries : Nat → Int32) (x1 : Int32) (x2 : Int32) (x4 : Int32) (x5 : Int32) (x6 : Int32) (s0 : Int32) : Option (Int32 × Int32) := x_B (f_Mo_fits k vT_people vT_triedMany fT_tries x5 x6) (fun y19 => if y19 = 0 then (f_Mo_mayBe_J156 rec k vT_people vT_triedMany fT_tries x1 s0 x4 x5 x6 (0 : Int32) x2) else f_Mo_mayBe_J156 rec k vT_people vT_triedMany fT_tries x1 s0 x4 x5 x6 (1 : Int32) x2)
def f_Mo_mayBe_J137 (rec : Int32 → Int32 → Int32 → Option (Int32 × Int32)) (k : Nat) (vT_people : Int32) (vT_triedMany : Int32) (fT_tries : Nat → Int32) (x1 : Int32) (x2 : Int32) (x3 : Int32) (x4 : Int32) (x5 : Int32) (x6 : Int32) : Option (Int32 × Int32) := f_Mo_mayBe_J138 rec k vT_people vT_triedMany fT_tries x1 x2 x4 x5 x6 x3
def f_Mo_mayBe_L104 (vT_people : Int32) (vT_triedMany : Int32) (fT_tries : Nat → Int32) (x1 : Int32) (x4 : Int32) (x5 : Int32) : Nat → Int32 → Int32 → Int32 → Option (Int32 × Int32)
  | 0, _, _, _ => none
  | k + 1, x2, x3, x6 => if x4 ≤ x6 then (some (x2, x3)) else if x2 = 0 then (x_B (f_Mo_fits k vT_people vT_triedMany fT_tries x5 x6) (fun y23 => if y23 = 0 then (f_Mo_mayBe_J137 (f_Mo_mayBe_L104 vT_people vT_triedMany fT_tries x1 x4 x5 k) k vT_people vT_triedMany fT_tries x1 x2 x3 x4 x5 x6) else f_Mo_mayBe_J138 (f_Mo_mayBe_L104 vT_people vT_triedMany fT_tries x1 x4 x5 k) k vT_people vT_triedMany fT_tries x1 x2 x4 x5 x6 (((20 : Int32) * x5) + x6))) else f_Mo_mayBe_J137 (f_Mo_mayBe_L104 vT_people vT_triedMany fT_tries x1 x4 x5 k) k vT_people vT_triedMany fT_tries x1 x2 x3 x4 x5 x6
def f_Mo_mayBe_L91 (vT_people : Int32) (vT_triedMany : Int32) (fT_tries : Nat → Int32) (x1 : Int32) (x4 : Int32) : Nat → Int32 → Int32 → Int32 → Option (Int32 × Int32)
  | 0, _, _, _ => none
  | k + 1, x2, x3, x5 => if x4 ≤ x5 then (some (x2, x3)) else x_L ((x5 + (1 : Int32))) (fun y16 => x_B (f_Mo_mayBe_L104 vT_people vT_triedMany fT_tries x1 x4 x5 k x2 x3 y16) (fun ⟨y25, y26⟩ => x_L (x5 + (1 : Int32)) (fun y27 => (f_Mo_mayBe_L91 vT_people vT_triedMany fT_tries x1 x4 k) y25 y26 y27)))
def f_Mo_mayBe (k : Nat) (vT_people : Int32) (vT_triedMany : Int32) (fT_tries : Nat → Int32) (p1 : Int32) : Option (Int32) := x_B (f_Mo_in ((p1).toInt64) (0 : Int64) (4 : Int64)) (fun y2 => if y2 = 0 then (some (-3 : Int32)) else x_B (f_Mo_termMany vT_people) (fun y4 => x_B (f_Mo_mayBe_L28 vT_people vT_triedMany fT_tries p1 y4 k (0 : Int32) (-1 : Int32) (0 : Int32)) (fun ⟨y13, y14⟩ => x_B (f_Mo_mayBe_L91 vT_people vT_triedMany fT_tries p1 y4 k y13 y14 (0 : Int32)) (fun ⟨y28, y29⟩ => if p1 = 0 then (f_Mo_mayBe_J178 k vT_people vT_triedMany fT_tries p1 y28) else if y28 = 0 then (f_Mo_mayBe_J178 k vT_people vT_triedMany fT_tries p1 y28) else x_L ((y29 / (20 : Int32))) (fun y32 => x_L ((y29 - y29 / (20 : Int32) * (20 : Int32))) (fun y33 => if p1 = (1 : Int32) then (x_B (f_Mo_termOf vT_people y32) (fun y41 => some y41)) else if p1 = (2 : Int32) then (x_B (f_Mo_numberOf vT_people y32) (fun y40 => some y40)) else if y32 = y33 then (some (-1 : Int32)) else if p1 = (3 : Int32) then (x_B (f_Mo_termOf vT_people y33) (fun y39 => some y39)) else x_B (f_Mo_numberOf vT_people y33) (fun y38 => some y38)))))))
set_option maxHeartbeats 8000000 in
set_option maxRecDepth 100000 in
theorem c_Mo_mayBe (l : Launch) (G : GG) (aT aT_text aT_read aT_spells aT_pasts aT_keptStates aT_keptDeeds aT_isKept aT_fars aT_queue aT_later aT_onWay aT_row aT_princes aT_tries : Nat) (vT_length : Int32) (vT_readMany : Int32) (vT_people : Int32) (vT_toldDay : Int32) (vT_toldBroken : Int32) (vT_many : Int32) (vT_now : Int32) (vT_deeds : Int32) (vT_pastMany : Int32) (vT_at : Int32) (vT_place : Int32) (vT_end : Int32) (vT_readPeople : Int32) (vT_readSpells : Int32) (vT_lifted : Int32) (vT_queued : Int32) (vT_laterMany : Int32) (vT_rowMany : Int32) (vT_princeMany : Int32) (vT_triedMany : Int32) (fT_tries : Nat → Int32) (k : Nat) (p1 : Int32) (r0 : Int32) (hev : f_Mo_mayBe k vT_people vT_triedMany fT_tries p1 = some r0) : RO l G yX11_mayBe cX11_mayBe 7 (some .int) 3 [.ref aT, .int p1] [(aT, .inr (7, [.ref aT_text, .int vT_length, .ref aT_read, .int vT_readMany, .int vT_people, .int vT_toldDay, .int vT_toldBroken, .ref aT_spells, .int vT_many, .int vT_now, .int vT_deeds, .ref aT_pasts, .int vT_pastMany, .ref aT_keptStates, .ref aT_keptDeeds, .ref aT_isKept, .int vT_at, .int vT_place, .int vT_end, .int vT_readPeople, .int vT_readSpells, .int vT_lifted, .ref aT_fars, .ref aT_queue, .int vT_queued, .ref aT_later, .int vT_laterMany, .ref aT_onWay, .ref aT_row, .int vT_rowMany, .ref aT_princes, .int vT_princeMany, .ref aT_tries, .int vT_triedMany])), (aT_tries, .inl (G.2.1, 40, .inl fT_tries))] (some (.int r0)) := by
  refine RO_of (by decide) (Nat.le_of_ble_eq_true rfl) ?_
  intro p e s m ar below meth c R Q H ls X hR hP hKK hS0 hl ret
  generalize hrs : r0 = rs at hev ret
  have hl : lv_has ls 7 [(0, .ref aT), (1, .int p1)] := hl
  obtain ⟨hx, hb, hml, hown, hts, hT⟩ := id X
  have hK := hKK.1
  have hw : ∀ w ∈ T0, w.before ar s = true := fun w h => hts w (hT w h)
  have J178 : ∀ (x1 : Int32) (x2 : Int32), ∀ (ls : Array Slot), f_Mo_mayBe_J178 k vT_people vT_triedMany fT_tries x1 x2 = some rs → lv_has ls 7 [(1, .int x1), (2, .int x2)] → W p l e R s m ar below meth c H [] 0 0 Q (F0 m 178 ls []) := by
    intro x1 x2 ls hev hl
    unfold f_Mo_mayBe_J178 at hev
    refine lv_iload_n hx hb dX11_mayBe_178 rfl (lv_at hl 0 rfl) ?_
    refine lv_if_ne (tgt := 186) hx hb dX11_mayBe_179 (by decide) (fun c1 => ?_) (fun c1 => ?_)
    · replace hev := x_f c1 hev
      refine lv_bipush (v := (-4 : Int32)) hx hb dX11_mayBe_186 (by decide) ?_
      exact ret _ _ _ dX11_mayBe_188 ((show narrow _ (.int (-4 : Int32)) = .int (-4 : Int32) from rfl).trans (congrArg Value.int (Option.some.inj hev)))
    · replace hev := x_t c1 hev
      refine lv_iload_n hx hb dX11_mayBe_182 rfl (lv_at hl 1 rfl) ?_
      refine lv_goto (tgt := 188) hx hb dX11_mayBe_183 (by decide) ?_
      exact ret _ _ _ dX11_mayBe_188 ((show narrow _ (.int x2) = .int x2 from rfl).trans (congrArg Value.int (Option.some.inj hev)))
  unfold f_Mo_mayBe at hev
  refine lv_iload_n hx hb dX11_mayBe_0 rfl (lv_at hl 1 rfl) ?_
  refine lv_i2l hx hb dX11_mayBe_1 rfl ?_
  refine lv_lconst (v := (0 : Int64)) hx hb dX11_mayBe_2 (by decide) ?_
  refine lv_ldc2 (v := (4 : Int64)) hx hb hown (hw _ u1237) dX11_mayBe_3 ?_
  obtain ⟨y2, hq, hev⟩ := x_bd hev
  refine roS X hKK hR (st1 := [.int y2]) (c_Mo_in l G ((p1).toInt64) (0 : Int64) (4 : Int64) y2 hq) K_X11_in u1196 (x_Psub hP [] rfl) (by decide) ⟨Nat.zero_le _, Nat.zero_le _⟩ rfl hl.1 rfl (Nat.le_of_ble_eq_true rfl) rfl dX11_mayBe_6 ?_
  refine lv_if_ne (tgt := 15) hx hb dX11_mayBe_9 (by decide) (fun c3 => ?_) (fun c3 => ?_)
  · replace hev := x_f c3 hev
    refine lv_iconst (v := (0 : Int32)) hx hb dX11_mayBe_15 (by decide) ?_
    refine lv_istore_n (lv' := [(2, .int (0 : Int32)), (0, .ref aT), (1, .int p1)]) hx hb dX11_mayBe_16 rfl hl (by decide) rfl (fun ls hl => ?_)
    refine lv_iconst (v := (-1 : Int32)) hx hb dX11_mayBe_17 (by decide) ?_
    refine lv_istore_n (lv' := [(3, .int (-1 : Int32)), (2, .int (0 : Int32)), (0, .ref aT), (1, .int p1)]) hx hb dX11_mayBe_18 rfl hl (by decide) rfl (fun ls hl => ?_)
    refine lv_aload_n hx hb dX11_mayBe_19 rfl (lv_at hl 2 rfl) ?_
    obtain ⟨y4, hq, hev⟩ := x_bd hev
    refine roV X hKK hR (st1 := [.int y4]) (c_Mo_termMany l G aT aT_text aT_read aT_spells aT_pasts aT_keptStates aT_keptDeeds aT_isKept aT_fars aT_queue aT_later aT_onWay aT_row aT_princes aT_tries vT_length vT_readMany vT_people vT_toldDay vT_toldBroken vT_many vT_now vT_deeds vT_pastMany vT_at vT_place vT_end vT_readPeople vT_readSpells vT_lifted vT_queued vT_laterMany vT_rowMany vT_princeMany vT_triedMany y4 hq) K_X11_termMany u1498 (x_Psub hP [0] rfl) rfl (q0 := 0) rfl (by decide) ⟨Nat.zero_le _, Nat.zero_le _⟩ rfl hl.1 rfl (Nat.le_of_ble_eq_true rfl) rfl dX11_mayBe_20 ?_
    refine lv_istore (lv' := [(4, .int y4), (3, .int (-1 : Int32)), (2, .int (0 : Int32)), (0, .ref aT), (1, .int p1)]) hx hb dX11_mayBe_23 hl (by decide) rfl (fun ls hl => ?_)
    refine lv_iconst (v := (0 : Int32)) hx hb dX11_mayBe_25 (by decide) ?_
    refine lv_istore (lv' := [(5, .int (0 : Int32)), (4, .int y4), (3, .int (-1 : Int32)), (2, .int (0 : Int32)), (0, .ref aT), (1, .int p1)]) hx hb dX11_mayBe_26 hl (by decide) rfl (fun ls hl => ?_)
    have L28 : ∀ (x1 : Int32) (x4 : Int32), ∀ (k : Nat) (x2 : Int32) (x3 : Int32) (x5 : Int32) (o2 : Int32) (o3 : Int32), f_Mo_mayBe_L28 vT_people vT_triedMany fT_tries x1 x4 k x2 x3 x5 = some (o2, o3) → (∀ (ls : Array Slot), lv_has ls 7 [(0, .ref aT), (1, .int x1), (2, .int o2), (3, .int o3), (4, .int x4)] → W p l e R s m ar below meth c H [] 0 0 Q (F0 m 88 ls [])) → ∀ (ls : Array Slot), lv_has ls 7 [(0, .ref aT), (1, .int x1), (2, .int x2), (3, .int x3), (4, .int x4), (5, .int x5)] → W p l e R s m ar below meth c H [] 0 0 Q (F0 m 28 ls []) := by
      intro x1 x4 k
      induction k with
      | zero => intro x2 x3 x5 o2 o3 hev; rw [f_Mo_mayBe_L28] at hev; cases hev
      | succ k ih =>
        intro x2 x3 x5 o2 o3 hev hex ls hl
        rw [f_Mo_mayBe_L28] at hev
        have J80 : ∀ (x3 : Int32) (x5 : Int32) (s0 : Int32) (s1 : Int32), ∀ (ls : Array Slot), f_Mo_mayBe_J80 (f_Mo_mayBe_L28 vT_people vT_triedMany fT_tries x1 x4 k) k vT_people vT_triedMany fT_tries x1 x3 x4 x5 s0 s1 = some (o2, o3) → lv_has ls 7 [(0, .ref aT), (1, .int x1), (3, .int x3), (4, .int x4), (5, .int x5)] → W p l e R s m ar below meth c H [] 0 0 Q (F0 m 80 ls [.int s0, .int s1]) := by
          intro x3 x5 s0 s1 ls hev hl
          unfold f_Mo_mayBe_J80 at hev
          refine lv_iadd hx hb dX11_mayBe_80 ?_
          refine lv_topi (fun y5 ey5 => ?_)
          replace hev := x_lt hev y5 ey5
          refine lv_istore_n (lv' := [(2, .int y5), (0, .ref aT), (1, .int x1), (3, .int x3), (4, .int x4), (5, .int x5)]) hx hb dX11_mayBe_81 rfl hl (by decide) rfl (fun ls hl => ?_)
          obtain ⟨y6, ey6⟩ : ∃ y : Int32, y = x5 + (1 : Int32) := ⟨_, rfl⟩
          refine lv_iinc (v := y6) (lv' := [(5, .int y6), (2, .int y5), (0, .ref aT), (1, .int x1), (3, .int x3), (4, .int x4)]) hx hb dX11_mayBe_82 hl (k := 5) rfl (by rw [ey6]; rfl) (by decide) rfl (fun ls hl => ?_)
          replace hev := x_lt hev y6 ey6
          refine lv_goto (tgt := 28) hx hb dX11_mayBe_85 (by decide) ?_
          exact ih y5 x3 y6 _ _ hev hex ls (lv_sub hl [2, 3, 1, 4, 5, 0] rfl)
        have J62 : ∀ (x2 : Int32) (x5 : Int32) (s0 : Int32), ∀ (ls : Array Slot), f_Mo_mayBe_J62 (f_Mo_mayBe_L28 vT_people vT_triedMany fT_tries x1 x4 k) k vT_people vT_triedMany fT_tries x1 x2 x4 x5 s0 = some (o2, o3) → lv_has ls 7 [(0, .ref aT), (1, .int x1), (2, .int x2), (4, .int x4), (5, .int x5)] → W p l e R s m ar below meth c H [] 0 0 Q (F0 m 62 ls [.int s0]) := by
          intro x2 x5 s0 ls hev hl
          unfold f_Mo_mayBe_J62 at hev
          refine lv_istore_n (lv' := [(3, .int s0), (0, .ref aT), (1, .int x1), (2, .int x2), (4, .int x4), (5, .int x5)]) hx hb dX11_mayBe_62 rfl hl (by decide) rfl (fun ls hl => ?_)
          refine lv_iload_n hx hb dX11_mayBe_63 rfl (lv_at hl 3 rfl) ?_
          refine lv_aload_n hx hb dX11_mayBe_64 rfl (lv_at hl 1 rfl) ?_
          refine lv_iload hx hb dX11_mayBe_65 (lv_at hl 5 rfl) ?_
          refine lv_iload hx hb dX11_mayBe_67 (lv_at hl 5 rfl) ?_
          obtain ⟨y7, hq, hev⟩ := x_bd hev
          refine roV X hKK hR (st1 := [.int y7, .int x2]) (c_Mo_fits l G aT aT_text aT_read aT_spells aT_pasts aT_keptStates aT_keptDeeds aT_isKept aT_fars aT_queue aT_later aT_onWay aT_row aT_princes aT_tries vT_length vT_readMany vT_people vT_toldDay vT_toldBroken vT_many vT_now vT_deeds vT_pastMany vT_at vT_place vT_end vT_readPeople vT_readSpells vT_lifted vT_queued vT_laterMany vT_rowMany vT_princeMany vT_triedMany fT_tries k x5 x5 y7 hq) K_X11_fits u1502 (x_Psub hP [0, 1] rfl) rfl (q0 := 0) rfl (by decide) ⟨Nat.zero_le _, Nat.zero_le _⟩ rfl hl.1 rfl (Nat.le_of_ble_eq_true rfl) rfl dX11_mayBe_69 ?_
          refine lv_if_eq (tgt := 79) hx hb dX11_mayBe_72 (by decide) (fun c8 => ?_) (fun c8 => ?_)
          · replace hev := x_t c8 hev
            refine lv_iconst (v := (0 : Int32)) hx hb dX11_mayBe_79 (by decide) ?_
            exact J80 s0 x5 (0 : Int32) x2 ls hev (lv_sub hl [1, 2, 0, 4, 5] rfl)
          · replace hev := x_f c8 hev
            refine lv_iconst (v := (1 : Int32)) hx hb dX11_mayBe_75 (by decide) ?_
            refine lv_goto (tgt := 80) hx hb dX11_mayBe_76 (by decide) ?_
            exact J80 s0 x5 (1 : Int32) x2 ls hev (lv_sub hl [1, 2, 0, 4, 5] rfl)
        have J61 : ∀ (x2 : Int32) (x3 : Int32) (x5 : Int32), ∀ (ls : Array Slot), f_Mo_mayBe_J61 (f_Mo_mayBe_L28 vT_people vT_triedMany fT_tries x1 x4 k) k vT_people vT_triedMany fT_tries x1 x2 x3 x4 x5 = some (o2, o3) → lv_has ls 7 [(0, .ref aT), (1, .int x1), (2, .int x2), (3, .int x3), (4, .int x4), (5, .int x5)] → W p l e R s m ar below meth c H [] 0 0 Q (F0 m 61 ls []) := by
          intro x2 x3 x5 ls hev hl
          unfold f_Mo_mayBe_J61 at hev
          refine lv_iload_n hx hb dX11_mayBe_61 rfl (lv_at hl 3 rfl) ?_
          exact J62 x2 x5 x3 ls hev (lv_sub hl [0, 1, 2, 4, 5] rfl)
        refine lv_iload hx hb dX11_mayBe_28 (lv_at hl 5 rfl) ?_
        refine lv_iload hx hb dX11_mayBe_30 (lv_at hl 4 rfl) ?_
        refine lv_icmp_ge (tgt := 88) hx hb dX11_mayBe_32 (by decide) (fun c9 => ?_) (fun c9 => ?_)
        · replace hev := x_t c9 hev
          cases hev
          exact hex ls (lv_sub hl [0, 1, 2, 3, 4] rfl)
        · replace hev := x_f c9 hev
          refine lv_iload_n hx hb dX11_mayBe_35 rfl (lv_at hl 2 rfl) ?_
          refine lv_if_ne (tgt := 61) hx hb dX11_mayBe_36 (by decide) (fun c10 => ?_) (fun c10 => ?_)
          · replace hev := x_f c10 hev
            exact J61 x2 x3 x5 ls hev (lv_sub hl [0, 1, 2, 3, 4, 5] rfl)
          · replace hev := x_t c10 hev
            refine lv_aload_n hx hb dX11_mayBe_39 rfl (lv_at hl 0 rfl) ?_
            refine lv_iload hx hb dX11_mayBe_40 (lv_at hl 5 rfl) ?_
            refine lv_iload hx hb dX11_mayBe_42 (lv_at hl 5 rfl) ?_
            obtain ⟨y11, hq, hev⟩ := x_bd hev
            refine roV X hKK hR (st1 := [.int y11]) (c_Mo_fits l G aT aT_text aT_read aT_spells aT_pasts aT_keptStates aT_keptDeeds aT_isKept aT_fars aT_queue aT_later aT_onWay aT_row aT_princes aT_tries vT_length vT_readMany vT_people vT_toldDay vT_toldBroken vT_many vT_now vT_deeds vT_pastMany vT_at vT_place vT_end vT_readPeople vT_readSpells vT_lifted vT_queued vT_laterMany vT_rowMany vT_princeMany vT_triedMany fT_tries k x5 x5 y11 hq) K_X11_fits u1502 (x_Psub hP [0, 1] rfl) rfl (q0 := 0) rfl (by decide) ⟨Nat.zero_le _, Nat.zero_le _⟩ rfl hl.1 rfl (Nat.le_of_ble_eq_true rfl) rfl dX11_mayBe_44 ?_
            refine lv_if_eq (tgt := 61) hx hb dX11_mayBe_47 (by decide) (fun c12 => ?_) (fun c12 => ?_)
            · replace hev := x_t c12 hev
              exact J61 x2 x3 x5 ls hev (lv_sub hl [0, 1, 2, 3, 4, 5] rfl)
            · replace hev := x_f c12 hev
              refine lv_bipush (v := (20 : Int32)) hx hb dX11_mayBe_50 (by decide) ?_
              refine lv_iload hx hb dX11_mayBe_52 (lv_at hl 5 rfl) ?_
              refine lv_imul hx hb dX11_mayBe_54 ?_
              refine lv_iload hx hb dX11_mayBe_55 (lv_at hl 5 rfl) ?_
              refine lv_iadd hx hb dX11_mayBe_57 ?_
              refine lv_goto (tgt := 62) hx hb dX11_mayBe_58 (by decide) ?_
              exact J62 x2 x5 (((20 : Int32) * x5) + x5) ls hev (lv_sub hl [0, 1, 2, 4, 5] rfl)
    obtain ⟨⟨y13, y14⟩, hq, hev⟩ := x_bd hev
    refine L28 p1 y4 k (0 : Int32) (-1 : Int32) (0 : Int32) y13 y14 hq (fun ls hl => ?_) ls (lv_sub hl [4, 5, 3, 2, 1, 0] rfl)
    refine lv_iconst (v := (0 : Int32)) hx hb dX11_mayBe_88 (by decide) ?_
    refine lv_istore (lv' := [(5, .int (0 : Int32)), (0, .ref aT), (1, .int p1), (2, .int y13), (3, .int y14), (4, .int y4)]) hx hb dX11_mayBe_89 hl (by decide) rfl (fun ls hl => ?_)
    have L91 : ∀ (x1 : Int32) (x4 : Int32), ∀ (k : Nat) (x2 : Int32) (x3 : Int32) (x5 : Int32) (o2 : Int32) (o3 : Int32), f_Mo_mayBe_L91 vT_people vT_triedMany fT_tries x1 x4 k x2 x3 x5 = some (o2, o3) → (∀ (ls : Array Slot), lv_has ls 7 [(0, .ref aT), (1, .int x1), (2, .int o2), (3, .int o3)] → W p l e R s m ar below meth c H [] 0 0 Q (F0 m 170 ls [])) → ∀ (ls : Array Slot), lv_has ls 7 [(0, .ref aT), (1, .int x1), (2, .int x2), (3, .int x3), (4, .int x4), (5, .int x5)] → W p l e R s m ar below meth c H [] 0 0 Q (F0 m 91 ls []) := by
      intro x1 x4 k
      induction k with
      | zero => intro x2 x3 x5 o2 o3 hev; rw [f_Mo_mayBe_L91] at hev; cases hev
      | succ k ih =>
        intro x2 x3 x5 o2 o3 hev hex ls hl
        rw [f_Mo_mayBe_L91] at hev
        refine lv_iload hx hb dX11_mayBe_91 (lv_at hl 5 rfl) ?_
        refine lv_iload hx hb dX11_mayBe_93 (lv_at hl 4 rfl) ?_
        refine lv_icmp_ge (tgt := 170) hx hb dX11_mayBe_95 (by decide) (fun c15 => ?_) (fun c15 => ?_)
        · replace hev := x_t c15 hev
          cases hev
          exact hex ls (lv_sub hl [0, 1, 2, 3] rfl)
        · replace hev := x_f c15 hev
          refine lv_iload hx hb dX11_mayBe_98 (lv_at hl 5 rfl) ?_
          refine lv_iconst (v := (1 : Int32)) hx hb dX11_mayBe_100 (by decide) ?_
          refine lv_iadd hx hb dX11_mayBe_101 ?_
          refine lv_topi (fun y16 ey16 => ?_)
          replace hev := x_lt hev y16 ey16
          refine lv_istore (lv' := [(6, .int y16), (0, .ref aT), (1, .int x1), (2, .int x2), (3, .int x3), (4, .int x4), (5, .int x5)]) hx hb dX11_mayBe_102 hl (by decide) rfl (fun ls hl => ?_)
          have L104 : ∀ (x1 : Int32) (x4 : Int32) (x5 : Int32), ∀ (k : Nat) (x2 : Int32) (x3 : Int32) (x6 : Int32) (o2 : Int32) (o3 : Int32), f_Mo_mayBe_L104 vT_people vT_triedMany fT_tries x1 x4 x5 k x2 x3 x6 = some (o2, o3) → (∀ (ls : Array Slot), lv_has ls 7 [(0, .ref aT), (1, .int x1), (2, .int o2), (3, .int o3), (4, .int x4), (5, .int x5)] → W p l e R s m ar below meth c H [] 0 0 Q (F0 m 164 ls [])) → ∀ (ls : Array Slot), lv_has ls 7 [(0, .ref aT), (1, .int x1), (2, .int x2), (3, .int x3), (4, .int x4), (5, .int x5), (6, .int x6)] → W p l e R s m ar below meth c H [] 0 0 Q (F0 m 104 ls []) := by
            intro x1 x4 x5 k
            induction k with
            | zero => intro x2 x3 x6 o2 o3 hev; rw [f_Mo_mayBe_L104] at hev; cases hev
            | succ k ih =>
              intro x2 x3 x6 o2 o3 hev hex ls hl
              rw [f_Mo_mayBe_L104] at hev
              have J156 : ∀ (x3 : Int32) (x6 : Int32) (s0 : Int32) (s1 : Int32), ∀ (ls : Array Slot), f_Mo_mayBe_J156 (f_Mo_mayBe_L104 vT_people vT_triedMany fT_tries x1 x4 x5 k) k vT_people vT_triedMany fT_tries x1 x3 x4 x5 x6 s0 s1 = some (o2, o3) → lv_has ls 7 [(0, .ref aT), (1, .int x1), (3, .int x3), (4, .int x4), (5, .int x5), (6, .int x6)] → W p l e R s m ar below meth c H [] 0 0 Q (F0 m 156 ls [.int s0, .int s1]) := by
                intro x3 x6 s0 s1 ls hev hl
                unfold f_Mo_mayBe_J156 at hev
                refine lv_iadd hx hb dX11_mayBe_156 ?_
                refine lv_topi (fun y17 ey17 => ?_)
                replace hev := x_lt hev y17 ey17
                refine lv_istore_n (lv' := [(2, .int y17), (0, .ref aT), (1, .int x1), (3, .int x3), (4, .int x4), (5, .int x5), (6, .int x6)]) hx hb dX11_mayBe_157 rfl hl (by decide) rfl (fun ls hl => ?_)
                obtain ⟨y18, ey18⟩ : ∃ y : Int32, y = x6 + (1 : Int32) := ⟨_, rfl⟩
                refine lv_iinc (v := y18) (lv' := [(6, .int y18), (2, .int y17), (0, .ref aT), (1, .int x1), (3, .int x3), (4, .int x4), (5, .int x5)]) hx hb dX11_mayBe_158 hl (k := 6) rfl (by rw [ey18]; rfl) (by decide) rfl (fun ls hl => ?_)
                replace hev := x_lt hev y18 ey18
                refine lv_goto (tgt := 104) hx hb dX11_mayBe_161 (by decide) ?_
                exact ih y17 x3 y18 _ _ hev hex ls (lv_sub hl [2, 3, 1, 4, 5, 6, 0] rfl)
              have J138 : ∀ (x2 : Int32) (x6 : Int32) (s0 : Int32), ∀ (ls : Array Slot), f_Mo_mayBe_J138 (f_Mo_mayBe_L104 vT_people vT_triedMany fT_tries x1 x4 x5 k) k vT_people vT_triedMany fT_tries x1 x2 x4 x5 x6 s0 = some (o2, o3) → lv_has ls 7 [(0, .ref aT), (1, .int x1), (2, .int x2), (4, .int x4), (5, .int x5), (6, .int x6)] → W p l e R s m ar below meth c H [] 0 0 Q (F0 m 138 ls [.int s0]) := by
                intro x2 x6 s0 ls hev hl
                unfold f_Mo_mayBe_J138 at hev
                refine lv_istore_n (lv' := [(3, .int s0), (0, .ref aT), (1, .int x1), (2, .int x2), (4, .int x4), (5, .int x5), (6, .int x6)]) hx hb dX11_mayBe_138 rfl hl (by decide) rfl (fun ls hl => ?_)
                refine lv_iload_n hx hb dX11_mayBe_139 rfl (lv_at hl 3 rfl) ?_
                refine lv_aload_n hx hb dX11_mayBe_140 rfl (lv_at hl 1 rfl) ?_
                refine lv_iload hx hb dX11_mayBe_141 (lv_at hl 5 rfl) ?_
                refine lv_iload hx hb dX11_mayBe_143 (lv_at hl 6 rfl) ?_
                obtain ⟨y19, hq, hev⟩ := x_bd hev
                refine roV X hKK hR (st1 := [.int y19, .int x2]) (c_Mo_fits l G aT aT_text aT_read aT_spells aT_pasts aT_keptStates aT_keptDeeds aT_isKept aT_fars aT_queue aT_later aT_onWay aT_row aT_princes aT_tries vT_length vT_readMany vT_people vT_toldDay vT_toldBroken vT_many vT_now vT_deeds vT_pastMany vT_at vT_place vT_end vT_readPeople vT_readSpells vT_lifted vT_queued vT_laterMany vT_rowMany vT_princeMany vT_triedMany fT_tries k x5 x6 y19 hq) K_X11_fits u1502 (x_Psub hP [0, 1] rfl) rfl (q0 := 0) rfl (by decide) ⟨Nat.zero_le _, Nat.zero_le _⟩ rfl hl.1 rfl (Nat.le_of_ble_eq_true rfl) rfl dX11_mayBe_145 ?_
                refine lv_if_eq (tgt := 155) hx hb dX11_mayBe_148 (by decide) (fun c20 => ?_) (fun c20 => ?_)
                · replace hev := x_t c20 hev
                  refine lv_iconst (v := (0 : Int32)) hx hb dX11_mayBe_155 (by decide) ?_
                  exact J156 s0 x6 (0 : Int32) x2 ls hev (lv_sub hl [1, 2, 0, 4, 5, 6] rfl)
                · replace hev := x_f c20 hev
                  refine lv_iconst (v := (1 : Int32)) hx hb dX11_mayBe_151 (by decide) ?_
                  refine lv_goto (tgt := 156) hx hb dX11_mayBe_152 (by decide) ?_
                  exact J156 s0 x6 (1 : Int32) x2 ls hev (lv_sub hl [1, 2, 0, 4, 5, 6] rfl)
              have J137 : ∀ (x2 : Int32) (x3 : Int32) (x6 : Int32), ∀ (ls : Array Slot), f_Mo_mayBe_J137 (f_Mo_mayBe_L104 vT_people vT_triedMany fT_tries x1 x4 x5 k) k vT_people vT_triedMany fT_tries x1 x2 x3 x4 x5 x6 = some (o2, o3) → lv_has ls 7 [(0, .ref aT), (1, .int x1), (2, .int x2), (3, .int x3), (4, .int x4), (5, .int x5), (6, .int x6)] → W p l e R s m ar below meth c H [] 0 0 Q (F0 m 137 ls []) := by
                intro x2 x3 x6 ls hev hl
                unfold f_Mo_mayBe_J137 at hev
                refine lv_iload_n hx hb dX11_mayBe_137 rfl (lv_at hl 3 rfl) ?_
                exact J138 x2 x6 x3 ls hev (lv_sub hl [0, 1, 2, 4, 5, 6] rfl)
              refine lv_iload hx hb dX11_mayBe_104 (lv_at hl 6 rfl) ?_
              refine lv_iload hx hb dX11_mayBe_106 (lv_at hl 4 rfl) ?_
              refine lv_icmp_ge (tgt := 164) hx hb dX11_mayBe_108 (by decide) (fun c21 => ?_) (fun c21 => ?_)
              · replace hev := x_t c21 hev
                cases hev
                exact hex ls (lv_sub hl [0, 1, 2, 3, 4, 5] rfl)
              · replace hev := x_f c21 hev
                refine lv_iload_n hx hb dX11_mayBe_111 rfl (lv_at hl 2 rfl) ?_
                refine lv_if_ne (tgt := 137) hx hb dX11_mayBe_112 (by decide) (fun c22 => ?_) (fun c22 => ?_)
                · replace hev := x_f c22 hev
                  exact J137 x2 x3 x6 ls hev (lv_sub hl [0, 1, 2, 3, 4, 5, 6] rfl)
                · replace hev := x_t c22 hev
                  refine lv_aload_n hx hb dX11_mayBe_115 rfl (lv_at hl 0 rfl) ?_
                  refine lv_iload hx hb dX11_mayBe_116 (lv_at hl 5 rfl) ?_
                  refine lv_iload hx hb dX11_mayBe_118 (lv_at hl 6 rfl) ?_
                  obtain ⟨y23, hq, hev⟩ := x_bd hev
                  refine roV X hKK hR (st1 := [.int y23]) (c_Mo_fits l G aT aT_text aT_read aT_spells aT_pasts aT_keptStates aT_keptDeeds aT_isKept aT_fars aT_queue aT_later aT_onWay aT_row aT_princes aT_tries vT_length vT_readMany vT_people vT_toldDay vT_toldBroken vT_many vT_now vT_deeds vT_pastMany vT_at vT_place vT_end vT_readPeople vT_readSpells vT_lifted vT_queued vT_laterMany vT_rowMany vT_princeMany vT_triedMany fT_tries k x5 x6 y23 hq) K_X11_fits u1502 (x_Psub hP [0, 1] rfl) rfl (q0 := 0) rfl (by decide) ⟨Nat.zero_le _, Nat.zero_le _⟩ rfl hl.1 rfl (Nat.le_of_ble_eq_true rfl) rfl dX11_mayBe_120 ?_
                  refine lv_if_eq (tgt := 137) hx hb dX11_mayBe_123 (by decide) (fun c24 => ?_) (fun c24 => ?_)
                  · replace hev := x_t c24 hev
                    exact J137 x2 x3 x6 ls hev (lv_sub hl [0, 1, 2, 3, 4, 5, 6] rfl)
                  · replace hev := x_f c24 hev
                    refine lv_bipush (v := (20 : Int32)) hx hb dX11_mayBe_126 (by decide) ?_
                    refine lv_iload hx hb dX11_mayBe_128 (lv_at hl 5 rfl) ?_
                    refine lv_imul hx hb dX11_mayBe_130 ?_
                    refine lv_iload hx hb dX11_mayBe_131 (lv_at hl 6 rfl) ?_
                    refine lv_iadd hx hb dX11_mayBe_133 ?_
                    refine lv_goto (tgt := 138) hx hb dX11_mayBe_134 (by decide) ?_
                    exact J138 x2 x6 (((20 : Int32) * x5) + x6) ls hev (lv_sub hl [0, 1, 2, 4, 5, 6] rfl)
          obtain ⟨⟨y25, y26⟩, hq, hev⟩ := x_bd hev
          refine L104 x1 x4 x5 k x2 x3 y16 y25 y26 hq (fun ls hl => ?_) ls (lv_sub hl [1, 2, 3, 4, 5, 6, 0] rfl)
          obtain ⟨y27, ey27⟩ : ∃ y : Int32, y = x5 + (1 : Int32) := ⟨_, rfl⟩
          refine lv_iinc (v := y27) (lv' := [(5, .int y27), (0, .ref aT), (1, .int x1), (2, .int y25), (3, .int y26), (4, .int x4)]) hx hb dX11_mayBe_164 hl (k := 5) rfl (by rw [ey27]; rfl) (by decide) rfl (fun ls hl => ?_)
          replace hev := x_lt hev y27 ey27
          refine lv_goto (tgt := 91) hx hb dX11_mayBe_167 (by decide) ?_
          exact ih y25 y26 y27 _ _ hev hex ls (lv_sub hl [1, 2, 3, 4, 5, 0] rfl)
    obtain ⟨⟨y28, y29⟩, hq, hev⟩ := x_bd hev
    refine L91 p1 y4 k y13 y14 (0 : Int32) y28 y29 hq (fun ls hl => ?_) ls (lv_sub hl [1, 2, 3, 4, 5, 0] rfl)
    refine lv_iload_n hx hb dX11_mayBe_170 rfl (lv_at hl 1 rfl) ?_
    refine lv_if_eq (tgt := 178) hx hb dX11_mayBe_171 (by decide) (fun c30 => ?_) (fun c30 => ?_)
    · replace hev := x_t c30 hev
      exact J178 p1 y28 ls hev (lv_sub hl [1, 2] rfl)
    · replace hev := x_f c30 hev
      refine lv_iload_n hx hb dX11_mayBe_174 rfl (lv_at hl 2 rfl) ?_
      refine lv_if_ne (tgt := 189) hx hb dX11_mayBe_175 (by decide) (fun c31 => ?_) (fun c31 => ?_)
      · replace hev := x_f c31 hev
        refine lv_iload_n hx hb dX11_mayBe_189 rfl (lv_at hl 3 rfl) ?_
        refine lv_bipush (v := (20 : Int32)) hx hb dX11_mayBe_190 (by decide) ?_
        refine lv_idiv hx hb dX11_mayBe_192 (by decide) ?_
        refine lv_topi (fun y32 ey32 => ?_)
        replace hev := x_lt hev y32 ey32
        refine lv_istore (lv' := [(5, .int y32), (0, .ref aT), (1, .int p1), (2, .int y28), (3, .int y29)]) hx hb dX11_mayBe_193 hl (by decide) rfl (fun ls hl => ?_)
        refine lv_iload_n hx hb dX11_mayBe_195 rfl (lv_at hl 4 rfl) ?_
        refine lv_bipush (v := (20 : Int32)) hx hb dX11_mayBe_196 (by decide) ?_
        refine lv_irem hx hb dX11_mayBe_198 (by decide) ?_
        refine lv_topi (fun y33 ey33 => ?_)
        replace hev := x_lt hev y33 ey33
        refine lv_istore (lv' := [(6, .int y33), (5, .int y32), (0, .ref aT), (1, .int p1), (2, .int y28), (3, .int y29)]) hx hb dX11_mayBe_199 hl (by decide) rfl (fun ls hl => ?_)
        refine lv_iload_n hx hb dX11_mayBe_201 rfl (lv_at hl 3 rfl) ?_
        refine lv_iconst (v := (1 : Int32)) hx hb dX11_mayBe_202 (by decide) ?_
        refine lv_icmp_ne (tgt := 215) hx hb dX11_mayBe_203 (by decide) (fun c34 => ?_) (fun c34 => ?_)
        · replace hev := x_f c34 hev
          refine lv_iload_n hx hb dX11_mayBe_215 rfl (lv_at hl 3 rfl) ?_
          refine lv_iconst (v := (2 : Int32)) hx hb dX11_mayBe_216 (by decide) ?_
          refine lv_icmp_ne (tgt := 229) hx hb dX11_mayBe_217 (by decide) (fun c35 => ?_) (fun c35 => ?_)
          · replace hev := x_f c35 hev
            refine lv_iload hx hb dX11_mayBe_229 (lv_at hl 1 rfl) ?_
            refine lv_iload hx hb dX11_mayBe_231 (lv_at hl 0 rfl) ?_
            refine lv_icmp_ne (tgt := 240) hx hb dX11_mayBe_233 (by decide) (fun c36 => ?_) (fun c36 => ?_)
            · replace hev := x_f c36 hev
              refine lv_iload_n hx hb dX11_mayBe_240 rfl (lv_at hl 3 rfl) ?_
              refine lv_iconst (v := (3 : Int32)) hx hb dX11_mayBe_241 (by decide) ?_
              refine lv_icmp_ne (tgt := 254) hx hb dX11_mayBe_242 (by decide) (fun c37 => ?_) (fun c37 => ?_)
              · replace hev := x_f c37 hev
                refine lv_aload_n hx hb dX11_mayBe_254 rfl (lv_at hl 2 rfl) ?_
                refine lv_iload hx hb dX11_mayBe_255 (lv_at hl 0 rfl) ?_
                obtain ⟨y38, hq, hev⟩ := x_bd hev
                refine roV X hKK hR (st1 := [.int y38]) (c_Mo_numberOf l G aT aT_text aT_read aT_spells aT_pasts aT_keptStates aT_keptDeeds aT_isKept aT_fars aT_queue aT_later aT_onWay aT_row aT_princes aT_tries vT_length vT_readMany vT_people vT_toldDay vT_toldBroken vT_many vT_now vT_deeds vT_pastMany vT_at vT_place vT_end vT_readPeople vT_readSpells vT_lifted vT_queued vT_laterMany vT_rowMany vT_princeMany vT_triedMany y33 y38 hq) K_X11_numberOf u1510 (x_Psub hP [0] rfl) rfl (q0 := 0) rfl (by decide) ⟨Nat.zero_le _, Nat.zero_le _⟩ rfl hl.1 rfl (Nat.le_of_ble_eq_true rfl) rfl dX11_mayBe_257 ?_
                exact ret _ _ _ dX11_mayBe_260 ((show narrow _ (.int y38) = .int y38 from rfl).trans (congrArg Value.int (Option.some.inj hev)))
              · replace hev := x_t c37 hev
                refine lv_aload_n hx hb dX11_mayBe_245 rfl (lv_at hl 2 rfl) ?_
                refine lv_iload hx hb dX11_mayBe_246 (lv_at hl 0 rfl) ?_
                obtain ⟨y39, hq, hev⟩ := x_bd hev
                refine roV X hKK hR (st1 := [.int y39]) (c_Mo_termOf l G aT aT_text aT_read aT_spells aT_pasts aT_keptStates aT_keptDeeds aT_isKept aT_fars aT_queue aT_later aT_onWay aT_row aT_princes aT_tries vT_length vT_readMany vT_people vT_toldDay vT_toldBroken vT_many vT_now vT_deeds vT_pastMany vT_at vT_place vT_end vT_readPeople vT_readSpells vT_lifted vT_queued vT_laterMany vT_rowMany vT_princeMany vT_triedMany y33 y39 hq) K_X11_termOf u1514 (x_Psub hP [0] rfl) rfl (q0 := 0) rfl (by decide) ⟨Nat.zero_le _, Nat.zero_le _⟩ rfl hl.1 rfl (Nat.le_of_ble_eq_true rfl) rfl dX11_mayBe_248 ?_
                refine lv_goto (tgt := 260) hx hb dX11_mayBe_251 (by decide) ?_
                exact ret _ _ _ dX11_mayBe_260 ((show narrow _ (.int y39) = .int y39 from rfl).trans (congrArg Value.int (Option.some.inj hev)))
            · replace hev := x_t c36 hev
              refine lv_iconst (v := (-1 : Int32)) hx hb dX11_mayBe_236 (by decide) ?_
              refine lv_goto (tgt := 260) hx hb dX11_mayBe_237 (by decide) ?_
              exact ret _ _ _ dX11_mayBe_260 ((show narrow _ (.int (-1 : Int32)) = .int (-1 : Int32) from rfl).trans (congrArg Value.int (Option.some.inj hev)))
          · replace hev := x_t c35 hev
            refine lv_aload_n hx hb dX11_mayBe_220 rfl (lv_at hl 2 rfl) ?_
            refine lv_iload hx hb dX11_mayBe_221 (lv_at hl 1 rfl) ?_
            obtain ⟨y40, hq, hev⟩ := x_bd hev
            refine roV X hKK hR (st1 := [.int y40]) (c_Mo_numberOf l G aT aT_text aT_read aT_spells aT_pasts aT_keptStates aT_keptDeeds aT_isKept aT_fars aT_queue aT_later aT_onWay aT_row aT_princes aT_tries vT_length vT_readMany vT_people vT_toldDay vT_toldBroken vT_many vT_now vT_deeds vT_pastMany vT_at vT_place vT_end vT_readPeople vT_readSpells vT_lifted vT_queued vT_laterMany vT_rowMany vT_princeMany vT_triedMany y32 y40 hq) K_X11_numberOf u1510 (x_Psub hP [0] rfl) rfl (q0 := 0) rfl (by decide) ⟨Nat.zero_le _, Nat.zero_le _⟩ rfl hl.1 rfl (Nat.le_of_ble_eq_true rfl) rfl dX11_mayBe_223 ?_
            refine lv_goto (tgt := 260) hx hb dX11_mayBe_226 (by decide) ?_
            exact ret _ _ _ dX11_mayBe_260 ((show narrow _ (.int y40) = .int y40 from rfl).trans (congrArg Value.int (Option.some.inj hev)))
        · replace hev := x_t c34 hev
          refine lv_aload_n hx hb dX11_mayBe_206 rfl (lv_at hl 2 rfl) ?_
          refine lv_iload hx hb dX11_mayBe_207 (lv_at hl 1 rfl) ?_
          obtain ⟨y41, hq, hev⟩ := x_bd hev
          refine roV X hKK hR (st1 := [.int y41]) (c_Mo_termOf l G aT aT_text aT_read aT_spells aT_pasts aT_keptStates aT_keptDeeds aT_isKept aT_fars aT_queue aT_later aT_onWay aT_row aT_princes aT_tries vT_length vT_readMany vT_people vT_toldDay vT_toldBroken vT_many vT_now vT_deeds vT_pastMany vT_at vT_place vT_end vT_readPeople vT_readSpells vT_lifted vT_queued vT_laterMany vT_rowMany vT_princeMany vT_triedMany y32 y41 hq) K_X11_termOf u1514 (x_Psub hP [0] rfl) rfl (q0 := 0) rfl (by decide) ⟨Nat.zero_le _, Nat.zero_le _⟩ rfl hl.1 rfl (Nat.le_of_ble_eq_true rfl) rfl dX11_mayBe_209 ?_
          refine lv_goto (tgt := 260) hx hb dX11_mayBe_212 (by decide) ?_
          exact ret _ _ _ dX11_mayBe_260 ((show narrow _ (.int y41) = .int y41 from rfl).trans (congrArg Value.int (Option.some.inj hev)))
      · replace hev := x_t c31 hev
        exact J178 p1 y28 ls hev (lv_sub hl [1, 2] rfl)
  · replace hev := x_t c3 hev
    refine lv_bipush (v := (-3 : Int32)) hx hb dX11_mayBe_12 (by decide) ?_
    exact ret _ _ _ dX11_mayBe_14 ((show narrow _ (.int (-3 : Int32)) = .int (-3 : Int32) from rfl).trans (congrArg Value.int (Option.some.inj hev)))
def f_Mo_next_J178 (rec : Int32 → Int32 → Int32 → Option (Int32)) (k : Nat) (vT_people : Int32) (vT_triedMany : Int32) (fT_tries : Nat → Int32) (x1 : Int32) (x3 : Int32) (x4 : Int32) (s0 : Int32) : Option (Int32) := x_L (x4 + (1 : Int32)) (fun y2 => rec x1 s0 y2)
def f_Mo_next_J165 (rec : Int32 → Int32 → Int32 → Option (Int32)) (k : Nat) (vT_people : Int32) (vT_triedMany : Int32) (fT_tries : Nat → Int32) (x2 : Int32) (x3 : Int32) (x4 : Int32) (x7 : Int32) (s0 : Int32) : Option (Int32) := if x2 ≤ x7 then (f_Mo_next_J178 rec k vT_people vT_triedMany fT_tries s0 x3 x4 x2) else f_Mo_next_J178 rec k vT_people vT_triedMany fT_tries s0 x3 x4 x7
def f_Mo_next_J164 (rec : Int32 → Int32 → Int32 → Option (Int32)) (k : Nat) (vT_people : Int32) (vT_triedMany : Int32) (fT_tries : Nat → Int32) (x1 : Int32) (x2 : Int32) (x3 : Int32) (x4 : Int32) (x7 : Int32) : Option (Int32) := f_Mo_next_J165 rec k vT_people vT_triedMany fT_tries x2 x3 x4 x7 x1
def f_Mo_next_J146 (rec : Int32 → Int32 → Int32 → Option (Int32)) (k : Nat) (vT_people : Int32) (vT_triedMany : Int32) (fT_tries : Nat → Int32) (x1 : Int32) (x2 : Int32) (x3 : Int32) (x4 : Int32) (x6 : Int32) (s0 : Int32) : Option (Int32) := if x6 ≤ 0 then (f_Mo_next_J164 rec k vT_people vT_triedMany fT_tries x1 x2 x3 x4 s0) else if x2 ≤ s0 then (f_Mo_next_J164 rec k vT_people vT_triedMany fT_tries x1 x2 x3 x4 s0) else f_Mo_next_J165 rec k vT_people vT_triedMany fT_tries x2 x3 x4 s0 x4
def f_Mo_next_J111 (rec : Int32 → Int32 → Int32 → Option (Int32 × Int32)) (k : Nat) (vT_people : Int32) (vT_triedMany : Int32) (fT_tries : Nat → Int32) (x1 : Int32) (x2 : Int32) (x3 : Int32) (x4 : Int32) (x6 : Int32) (x7 : Int32) (x8 : Int32) (s0 : Int32) (s1 : Int32) : Option (Int32 × Int32) := x_L ((s1 + s0)) (fun y8 => x_L (x8 + (1 : Int32)) (fun y9 => rec y8 x6 y9))
def f_Mo_next_J110 (rec : Int32 → Int32 → Int32 → Option (Int32 × Int32)) (k : Nat) (vT_people : Int32) (vT_triedMany : Int32) (fT_tries : Nat → Int32) (x1 : Int32) (x2 : Int32) (x3 : Int32) (x4 : Int32) (x6 : Int32) (x7 : Int32) (x8 : Int32) (s0 : Int32) : Option (Int32 × Int32) := f_Mo_next_J111 rec k vT_people vT_triedMany fT_tries x1 x2 x3 x4 x6 x7 x8 (0 : Int32) s0
def f_Mo_next_J68 (rec : Int32 → Int32 → Int32 → Option (Int32 × Int32)) (k : Nat) (vT_people : Int32) (vT_triedMany : Int32) (fT_tries : Nat → Int32) (x1 : Int32) (x2 : Int32) (x3 : Int32) (x4 : Int32) (x5 : Int32) (x7 : Int32) (x8 : Int32) (x9 : Int32) (s0 : Int32) (s1 : Int32) : Option (Int32 × Int32) := x_L ((s1 + s0)) (fun y10 => if x9 = 0 then (f_Mo_next_J110 rec k vT_people vT_triedMany fT_tries x1 x2 x3 x4 y10 x7 x8 x5) else x_B (f_Mo_wasSo vT_people x7 (-1 : Int32) (0 : Int32) x4 (0 : Int32)) (fun y12 => if y12 = 0 then (f_Mo_next_J110 rec k vT_people vT_triedMany fT_tries x1 x2 x3 x4 y10 x7 x8 x5) else x_B (f_Mo_wasSo vT_people x8 (-1 : Int32) (0 : Int32) x4 (0 : Int32)) (fun y14 => if y14 = 0 then (f_Mo_next_J110 rec k vT_people vT_triedMany fT_tries x1 x2 x3 x4 y10 x7 x8 x5) else f_Mo_next_J111 rec k vT_people vT_triedMany fT_tries x1 x2 x3 x4 y10 x7 x8 (1 : Int32) x5)))
def f_Mo_next_L40 (vT_people : Int32) (vT_triedMany : Int32) (fT_tries : Nat → Int32) (x1 : Int32) (x2 : Int32) (x3 : Int32) (x4 : Int32) (x7 : Int32) : Nat → Int32 → Int32 → Int32 → Option (Int32 × Int32)
  | 0, _, _, _ => none
  | k + 1, x5, x6, x8 => if x3 ≤ x8 then (some (x5, x6)) else x_B (f_Mo_fits k vT_people vT_triedMany fT_tries x7 x8) (fun y17 => if y17 = 0 then (f_Mo_next_J68 (f_Mo_next_L40 vT_people vT_triedMany fT_tries x1 x2 x3 x4 x7 k) k vT_people vT_triedMany fT_tries x1 x2 x3 x4 x5 x7 x8 y17 (0 : Int32) x6) else f_Mo_next_J68 (f_Mo_next_L40 vT_people vT_triedMany fT_tries x1 x2 x3 x4 x7 k) k vT_people vT_triedMany fT_tries x1 x2 x3 x4 x5 x7 x8 y17 (1 : Int32) x6)
def f_Mo_next_L30 (vT_people : Int32) (vT_triedMany : Int32) (fT_tries : Nat → Int32) (x1 : Int32) (x2 : Int32) (x3 : Int32) (x4 : Int32) : Nat → Int32 → Int32 → Int32 → Option (Int32 × Int32)
  | 0, _, _, _ => none
  | k + 1, x5, x6, x7 => if x3 ≤ x7 then (some (x5, x6)) else x_B (f_Mo_next_L40 vT_people vT_triedMany fT_tries x1 x2 x3 x4 x7 k x5 x6 x7) (fun ⟨y19, y20⟩ => x_L (x7 + (1 : Int32)) (fun y21 => (f_Mo_next_L30 vT_people vT_triedMany fT_tries x1 x2 x3 x4 k) y19 y20 y21))
def f_Mo_next_L14 (vT_people : Int32) (vT_triedMany : Int32) (fT_tries : Nat → Int32) (x3 : Int32) : Nat → Int32 → Int32 → Int32 → Option (Int32)
  | 0, _, _, _ => none
  | k + 1, x1, x2, x4 => if (7 : Int32) ≤ x4 then (some x1) else x_B (f_Mo_next_L30 vT_people vT_triedMany fT_tries x1 x2 x3 x4 k (0 : Int32) (0 : Int32) (0 : Int32)) (fun ⟨y22, y23⟩ => if y22 ≤ (y23 - y22) then (f_Mo_next_J146 (f_Mo_next_L14 vT_people vT_triedMany fT_tries x3 k) k vT_people vT_triedMany fT_tries x1 x2 x3 x4 y23 (y23 - y22)) else f_Mo_next_J146 (f_Mo_next_L14 vT_people vT_triedMany fT_tries x3 k) k vT_people vT_triedMany fT_tries x1 x2 x3 x4 y23 y22)
def f_Mo_next (k : Nat) (vT_people : Int32) (vT_triedMany : Int32) (fT_tries : Nat → Int32) : Option (Int32) := x_B (f_Mo_termMany vT_people) (fun y1 => x_B (f_Mo_next_L14 vT_people vT_triedMany fT_tries y1 k (-1 : Int32) (999 : Int32) (0 : Int32)) (fun y25 => some y25))
set_option maxHeartbeats 8000000 in
set_option maxRecDepth 100000 in
theorem c_Mo_next (l : Launch) (G : GG) (aT aT_text aT_read aT_spells aT_pasts aT_keptStates aT_keptDeeds aT_isKept aT_fars aT_queue aT_later aT_onWay aT_row aT_princes aT_tries : Nat) (vT_length : Int32) (vT_readMany : Int32) (vT_people : Int32) (vT_toldDay : Int32) (vT_toldBroken : Int32) (vT_many : Int32) (vT_now : Int32) (vT_deeds : Int32) (vT_pastMany : Int32) (vT_at : Int32) (vT_place : Int32) (vT_end : Int32) (vT_readPeople : Int32) (vT_readSpells : Int32) (vT_lifted : Int32) (vT_queued : Int32) (vT_laterMany : Int32) (vT_rowMany : Int32) (vT_princeMany : Int32) (vT_triedMany : Int32) (fT_tries : Nat → Int32) (k : Nat) (r0 : Int32) (hev : f_Mo_next k vT_people vT_triedMany fT_tries = some r0) : RO l G yX11_next cX11_next 10 (some .int) 3 [.ref aT] [(aT, .inr (7, [.ref aT_text, .int vT_length, .ref aT_read, .int vT_readMany, .int vT_people, .int vT_toldDay, .int vT_toldBroken, .ref aT_spells, .int vT_many, .int vT_now, .int vT_deeds, .ref aT_pasts, .int vT_pastMany, .ref aT_keptStates, .ref aT_keptDeeds, .ref aT_isKept, .int vT_at, .int vT_place, .int vT_end, .int vT_readPeople, .int vT_readSpells, .int vT_lifted, .ref aT_fars, .ref aT_queue, .int vT_queued, .ref aT_later, .int vT_laterMany, .ref aT_onWay, .ref aT_row, .int vT_rowMany, .ref aT_princes, .int vT_princeMany, .ref aT_tries, .int vT_triedMany])), (aT_tries, .inl (G.2.1, 40, .inl fT_tries))] (some (.int r0)) := by
  refine RO_of (by decide) (Nat.le_of_ble_eq_true rfl) ?_
  intro p e s m ar below meth c R Q H ls X hR hP hKK hS0 hl ret
  generalize hrs : r0 = rs at hev ret
  have hl : lv_has ls 10 [(0, .ref aT)] := hl
  obtain ⟨hx, hb, hml, hown, hts, hT⟩ := id X
  have hK := hKK.1
  have hw : ∀ w ∈ T0, w.before ar s = true := fun w h => hts w (hT w h)
  unfold f_Mo_next at hev
  refine lv_iconst (v := (-1 : Int32)) hx hb dX11_next_0 (by decide) ?_
  refine lv_istore_n (lv' := [(1, .int (-1 : Int32)), (0, .ref aT)]) hx hb dX11_next_1 rfl hl (by decide) rfl (fun ls hl => ?_)
  refine lv_sipush (v := (999 : Int32)) hx hb dX11_next_2 (by decide) ?_
  refine lv_istore_n (lv' := [(2, .int (999 : Int32)), (1, .int (-1 : Int32)), (0, .ref aT)]) hx hb dX11_next_5 rfl hl (by decide) rfl (fun ls hl => ?_)
  refine lv_aload_n hx hb dX11_next_6 rfl (lv_at hl 2 rfl) ?_
  obtain ⟨y1, hq, hev⟩ := x_bd hev
  refine roV X hKK hR (st1 := [.int y1]) (c_Mo_termMany l G aT aT_text aT_read aT_spells aT_pasts aT_keptStates aT_keptDeeds aT_isKept aT_fars aT_queue aT_later aT_onWay aT_row aT_princes aT_tries vT_length vT_readMany vT_people vT_toldDay vT_toldBroken vT_many vT_now vT_deeds vT_pastMany vT_at vT_place vT_end vT_readPeople vT_readSpells vT_lifted vT_queued vT_laterMany vT_rowMany vT_princeMany vT_triedMany y1 hq) K_X11_termMany u1498 (x_Psub hP [0] rfl) rfl (q0 := 0) rfl (by decide) ⟨Nat.zero_le _, Nat.zero_le _⟩ rfl hl.1 rfl (Nat.le_of_ble_eq_true rfl) rfl dX11_next_7 ?_
  refine lv_istore_n (lv' := [(3, .int y1), (2, .int (999 : Int32)), (1, .int (-1 : Int32)), (0, .ref aT)]) hx hb dX11_next_10 rfl hl (by decide) rfl (fun ls hl => ?_)
  refine lv_iconst (v := (0 : Int32)) hx hb dX11_next_11 (by decide) ?_
  refine lv_istore (lv' := [(4, .int (0 : Int32)), (3, .int y1), (2, .int (999 : Int32)), (1, .int (-1 : Int32)), (0, .ref aT)]) hx hb dX11_next_12 hl (by decide) rfl (fun ls hl => ?_)
  have L14 : ∀ (x3 : Int32), ∀ (k : Nat) (x1 : Int32) (x2 : Int32) (x4 : Int32) (o1 : Int32), f_Mo_next_L14 vT_people vT_triedMany fT_tries x3 k x1 x2 x4 = some o1 → (∀ (ls : Array Slot), lv_has ls 10 [(1, .int o1)] → W p l e R s m ar below meth c H [] 0 0 Q (F0 m 185 ls [])) → ∀ (ls : Array Slot), lv_has ls 10 [(0, .ref aT), (1, .int x1), (2, .int x2), (3, .int x3), (4, .int x4)] → W p l e R s m ar below meth c H [] 0 0 Q (F0 m 14 ls []) := by
    intro x3 k
    induction k with
    | zero => intro x1 x2 x4 o1 hev; rw [f_Mo_next_L14] at hev; cases hev
    | succ k ih =>
      intro x1 x2 x4 o1 hev hex ls hl
      rw [f_Mo_next_L14] at hev
      have J178 : ∀ (x1 : Int32) (x4 : Int32) (s0 : Int32), ∀ (ls : Array Slot), f_Mo_next_J178 (f_Mo_next_L14 vT_people vT_triedMany fT_tries x3 k) k vT_people vT_triedMany fT_tries x1 x3 x4 s0 = some o1 → lv_has ls 10 [(0, .ref aT), (1, .int x1), (3, .int x3), (4, .int x4)] → W p l e R s m ar below meth c H [] 0 0 Q (F0 m 178 ls [.int s0]) := by
        intro x1 x4 s0 ls hev hl
        unfold f_Mo_next_J178 at hev
        refine lv_istore_n (lv' := [(2, .int s0), (0, .ref aT), (1, .int x1), (3, .int x3), (4, .int x4)]) hx hb dX11_next_178 rfl hl (by decide) rfl (fun ls hl => ?_)
        obtain ⟨y2, ey2⟩ : ∃ y : Int32, y = x4 + (1 : Int32) := ⟨_, rfl⟩
        refine lv_iinc (v := y2) (lv' := [(4, .int y2), (2, .int s0), (0, .ref aT), (1, .int x1), (3, .int x3)]) hx hb dX11_next_179 hl (k := 4) rfl (by rw [ey2]; rfl) (by decide) rfl (fun ls hl => ?_)
        replace hev := x_lt hev y2 ey2
        refine lv_goto (tgt := 14) hx hb dX11_next_182 (by decide) ?_
        exact ih x1 s0 y2 _ hev hex ls (lv_sub hl [2, 3, 1, 4, 0] rfl)
      have J165 : ∀ (x2 : Int32) (x4 : Int32) (x7 : Int32) (s0 : Int32), ∀ (ls : Array Slot), f_Mo_next_J165 (f_Mo_next_L14 vT_people vT_triedMany fT_tries x3 k) k vT_people vT_triedMany fT_tries x2 x3 x4 x7 s0 = some o1 → lv_has ls 10 [(0, .ref aT), (2, .int x2), (3, .int x3), (4, .int x4), (7, .int x7)] → W p l e R s m ar below meth c H [] 0 0 Q (F0 m 165 ls [.int s0]) := by
        intro x2 x4 x7 s0 ls hev hl
        unfold f_Mo_next_J165 at hev
        refine lv_istore_n (lv' := [(1, .int s0), (0, .ref aT), (2, .int x2), (3, .int x3), (4, .int x4), (7, .int x7)]) hx hb dX11_next_165 rfl hl (by decide) rfl (fun ls hl => ?_)
        refine lv_iload hx hb dX11_next_166 (lv_at hl 5 rfl) ?_
        refine lv_iload_n hx hb dX11_next_168 rfl (lv_at hl 2 rfl) ?_
        refine lv_icmp_ge (tgt := 177) hx hb dX11_next_169 (by decide) (fun c3 => ?_) (fun c3 => ?_)
        · replace hev := x_t c3 hev
          refine lv_iload_n hx hb dX11_next_177 rfl (lv_at hl 2 rfl) ?_
          exact J178 s0 x4 x2 ls hev (lv_sub hl [1, 0, 3, 4] rfl)
        · replace hev := x_f c3 hev
          refine lv_iload hx hb dX11_next_172 (lv_at hl 5 rfl) ?_
          refine lv_goto (tgt := 178) hx hb dX11_next_174 (by decide) ?_
          exact J178 s0 x4 x7 ls hev (lv_sub hl [1, 0, 3, 4] rfl)
      have J164 : ∀ (x1 : Int32) (x2 : Int32) (x4 : Int32) (x7 : Int32), ∀ (ls : Array Slot), f_Mo_next_J164 (f_Mo_next_L14 vT_people vT_triedMany fT_tries x3 k) k vT_people vT_triedMany fT_tries x1 x2 x3 x4 x7 = some o1 → lv_has ls 10 [(0, .ref aT), (1, .int x1), (2, .int x2), (3, .int x3), (4, .int x4), (7, .int x7)] → W p l e R s m ar below meth c H [] 0 0 Q (F0 m 164 ls []) := by
        intro x1 x2 x4 x7 ls hev hl
        unfold f_Mo_next_J164 at hev
        refine lv_iload_n hx hb dX11_next_164 rfl (lv_at hl 1 rfl) ?_
        exact J165 x2 x4 x7 x1 ls hev (lv_sub hl [0, 2, 3, 4, 5] rfl)
      have J146 : ∀ (x1 : Int32) (x2 : Int32) (x4 : Int32) (x6 : Int32) (s0 : Int32), ∀ (ls : Array Slot), f_Mo_next_J146 (f_Mo_next_L14 vT_people vT_triedMany fT_tries x3 k) k vT_people vT_triedMany fT_tries x1 x2 x3 x4 x6 s0 = some o1 → lv_has ls 10 [(0, .ref aT), (1, .int x1), (2, .int x2), (3, .int x3), (4, .int x4), (6, .int x6)] → W p l e R s m ar below meth c H [] 0 0 Q (F0 m 146 ls [.int s0]) := by
        intro x1 x2 x4 x6 s0 ls hev hl
        unfold f_Mo_next_J146 at hev
        refine lv_istore (lv' := [(7, .int s0), (0, .ref aT), (1, .int x1), (2, .int x2), (3, .int x3), (4, .int x4), (6, .int x6)]) hx hb dX11_next_146 hl (by decide) rfl (fun ls hl => ?_)
        refine lv_iload hx hb dX11_next_148 (lv_at hl 6 rfl) ?_
        refine lv_if_le (tgt := 164) hx hb dX11_next_150 (by decide) (fun c4 => ?_) (fun c4 => ?_)
        · replace hev := x_t c4 hev
          exact J164 x1 x2 x4 s0 ls hev (lv_sub hl [1, 2, 3, 4, 5, 0] rfl)
        · replace hev := x_f c4 hev
          refine lv_iload hx hb dX11_next_153 (lv_at hl 0 rfl) ?_
          refine lv_iload_n hx hb dX11_next_155 rfl (lv_at hl 3 rfl) ?_
          refine lv_icmp_ge (tgt := 164) hx hb dX11_next_156 (by decide) (fun c5 => ?_) (fun c5 => ?_)
          · replace hev := x_t c5 hev
            exact J164 x1 x2 x4 s0 ls hev (lv_sub hl [1, 2, 3, 4, 5, 0] rfl)
          · replace hev := x_f c5 hev
            refine lv_iload hx hb dX11_next_159 (lv_at hl 5 rfl) ?_
            refine lv_goto (tgt := 165) hx hb dX11_next_161 (by decide) ?_
            exact J165 x2 x4 s0 x4 ls hev (lv_sub hl [1, 3, 4, 5, 0] rfl)
      refine lv_iload hx hb dX11_next_14 (lv_at hl 4 rfl) ?_
      refine lv_bipush (v := (7 : Int32)) hx hb dX11_next_16 (by decide) ?_
      refine lv_icmp_ge (tgt := 185) hx hb dX11_next_18 (by decide) (fun c6 => ?_) (fun c6 => ?_)
      · replace hev := x_t c6 hev
        cases hev
        exact hex ls (lv_sub hl [1] rfl)
      · replace hev := x_f c6 hev
        refine lv_iconst (v := (0 : Int32)) hx hb dX11_next_21 (by decide) ?_
        refine lv_istore (lv' := [(5, .int (0 : Int32)), (0, .ref aT), (1, .int x1), (2, .int x2), (3, .int x3), (4, .int x4)]) hx hb dX11_next_22 hl (by decide) rfl (fun ls hl => ?_)
        refine lv_iconst (v := (0 : Int32)) hx hb dX11_next_24 (by decide) ?_
        refine lv_istore (lv' := [(6, .int (0 : Int32)), (5, .int (0 : Int32)), (0, .ref aT), (1, .int x1), (2, .int x2), (3, .int x3), (4, .int x4)]) hx hb dX11_next_25 hl (by decide) rfl (fun ls hl => ?_)
        refine lv_iconst (v := (0 : Int32)) hx hb dX11_next_27 (by decide) ?_
        refine lv_istore (lv' := [(7, .int (0 : Int32)), (6, .int (0 : Int32)), (5, .int (0 : Int32)), (0, .ref aT), (1, .int x1), (2, .int x2), (3, .int x3), (4, .int x4)]) hx hb dX11_next_28 hl (by decide) rfl (fun ls hl => ?_)
        have L30 : ∀ (x1 : Int32) (x2 : Int32) (x3 : Int32) (x4 : Int32), ∀ (k : Nat) (x5 : Int32) (x6 : Int32) (x7 : Int32) (o5 : Int32) (o6 : Int32), f_Mo_next_L30 vT_people vT_triedMany fT_tries x1 x2 x3 x4 k x5 x6 x7 = some (o5, o6) → (∀ (ls : Array Slot), lv_has ls 10 [(0, .ref aT), (1, .int x1), (2, .int x2), (3, .int x3), (4, .int x4), (5, .int o5), (6, .int o6)] → W p l e R s m ar below meth c H [] 0 0 Q (F0 m 126 ls [])) → ∀ (ls : Array Slot), lv_has ls 10 [(0, .ref aT), (1, .int x1), (2, .int x2), (3, .int x3), (4, .int x4), (5, .int x5), (6, .int x6), (7, .int x7)] → W p l e R s m ar below meth c H [] 0 0 Q (F0 m 30 ls []) := by
          intro x1 x2 x3 x4 k
          induction k with
          | zero => intro x5 x6 x7 o5 o6 hev; rw [f_Mo_next_L30] at hev; cases hev
          | succ k ih =>
            intro x5 x6 x7 o5 o6 hev hex ls hl
            rw [f_Mo_next_L30] at hev
            refine lv_iload hx hb dX11_next_30 (lv_at hl 7 rfl) ?_
            refine lv_iload_n hx hb dX11_next_32 rfl (lv_at hl 3 rfl) ?_
            refine lv_icmp_ge (tgt := 126) hx hb dX11_next_33 (by decide) (fun c7 => ?_) (fun c7 => ?_)
            · replace hev := x_t c7 hev
              cases hev
              exact hex ls (lv_sub hl [0, 1, 2, 3, 4, 5, 6] rfl)
            · replace hev := x_f c7 hev
              refine lv_iload hx hb dX11_next_36 (lv_at hl 7 rfl) ?_
              refine lv_istore (lv' := [(8, .int x7), (0, .ref aT), (1, .int x1), (2, .int x2), (3, .int x3), (4, .int x4), (5, .int x5), (6, .int x6), (7, .int x7)]) hx hb dX11_next_38 hl (by decide) rfl (fun ls hl => ?_)
              have L40 : ∀ (x1 : Int32) (x2 : Int32) (x3 : Int32) (x4 : Int32) (x7 : Int32), ∀ (k : Nat) (x5 : Int32) (x6 : Int32) (x8 : Int32) (o5 : Int32) (o6 : Int32), f_Mo_next_L40 vT_people vT_triedMany fT_tries x1 x2 x3 x4 x7 k x5 x6 x8 = some (o5, o6) → (∀ (ls : Array Slot), lv_has ls 10 [(0, .ref aT), (1, .int x1), (2, .int x2), (3, .int x3), (4, .int x4), (5, .int o5), (6, .int o6), (7, .int x7)] → W p l e R s m ar below meth c H [] 0 0 Q (F0 m 120 ls [])) → ∀ (ls : Array Slot), lv_has ls 10 [(0, .ref aT), (1, .int x1), (2, .int x2), (3, .int x3), (4, .int x4), (5, .int x5), (6, .int x6), (7, .int x7), (8, .int x8)] → W p l e R s m ar below meth c H [] 0 0 Q (F0 m 40 ls []) := by
                intro x1 x2 x3 x4 x7 k
                induction k with
                | zero => intro x5 x6 x8 o5 o6 hev; rw [f_Mo_next_L40] at hev; cases hev
                | succ k ih =>
                  intro x5 x6 x8 o5 o6 hev hex ls hl
                  rw [f_Mo_next_L40] at hev
                  have J111 : ∀ (x6 : Int32) (x8 : Int32) (s0 : Int32) (s1 : Int32), ∀ (ls : Array Slot), f_Mo_next_J111 (f_Mo_next_L40 vT_people vT_triedMany fT_tries x1 x2 x3 x4 x7 k) k vT_people vT_triedMany fT_tries x1 x2 x3 x4 x6 x7 x8 s0 s1 = some (o5, o6) → lv_has ls 10 [(0, .ref aT), (1, .int x1), (2, .int x2), (3, .int x3), (4, .int x4), (6, .int x6), (7, .int x7), (8, .int x8)] → W p l e R s m ar below meth c H [] 0 0 Q (F0 m 111 ls [.int s0, .int s1]) := by
                    intro x6 x8 s0 s1 ls hev hl
                    unfold f_Mo_next_J111 at hev
                    refine lv_iadd hx hb dX11_next_111 ?_
                    refine lv_topi (fun y8 ey8 => ?_)
                    replace hev := x_lt hev y8 ey8
                    refine lv_istore (lv' := [(5, .int y8), (0, .ref aT), (1, .int x1), (2, .int x2), (3, .int x3), (4, .int x4), (6, .int x6), (7, .int x7), (8, .int x8)]) hx hb dX11_next_112 hl (by decide) rfl (fun ls hl => ?_)
                    obtain ⟨y9, ey9⟩ : ∃ y : Int32, y = x8 + (1 : Int32) := ⟨_, rfl⟩
                    refine lv_iinc (v := y9) (lv' := [(8, .int y9), (5, .int y8), (0, .ref aT), (1, .int x1), (2, .int x2), (3, .int x3), (4, .int x4), (6, .int x6), (7, .int x7)]) hx hb dX11_next_114 hl (k := 8) rfl (by rw [ey9]; rfl) (by decide) rfl (fun ls hl => ?_)
                    replace hev := x_lt hev y9 ey9
                    refine lv_goto (tgt := 40) hx hb dX11_next_117 (by decide) ?_
                    exact ih y8 x6 y9 _ _ hev hex ls (lv_sub hl [2, 3, 4, 5, 6, 1, 7, 8, 0] rfl)
                  have J110 : ∀ (x6 : Int32) (x8 : Int32) (s0 : Int32), ∀ (ls : Array Slot), f_Mo_next_J110 (f_Mo_next_L40 vT_people vT_triedMany fT_tries x1 x2 x3 x4 x7 k) k vT_people vT_triedMany fT_tries x1 x2 x3 x4 x6 x7 x8 s0 = some (o5, o6) → lv_has ls 10 [(0, .ref aT), (1, .int x1), (2, .int x2), (3, .int x3), (4, .int x4), (6, .int x6), (7, .int x7), (8, .int x8)] → W p l e R s m ar below meth c H [] 0 0 Q (F0 m 110 ls [.int s0]) := by
                    intro x6 x8 s0 ls hev hl
                    unfold f_Mo_next_J110 at hev
                    refine lv_iconst (v := (0 : Int32)) hx hb dX11_next_110 (by decide) ?_
                    exact J111 x6 x8 (0 : Int32) s0 ls hev (lv_sub hl [0, 1, 2, 3, 4, 5, 6, 7] rfl)
                  have J68 : ∀ (x5 : Int32) (x8 : Int32) (x9 : Int32) (s0 : Int32) (s1 : Int32), ∀ (ls : Array Slot), f_Mo_next_J68 (f_Mo_next_L40 vT_people vT_triedMany fT_tries x1 x2 x3 x4 x7 k) k vT_people vT_triedMany fT_tries x1 x2 x3 x4 x5 x7 x8 x9 s0 s1 = some (o5, o6) → lv_has ls 10 [(0, .ref aT), (1, .int x1), (2, .int x2), (3, .int x3), (4, .int x4), (5, .int x5), (7, .int x7), (8, .int x8), (9, .int x9)] → W p l e R s m ar below meth c H [] 0 0 Q (F0 m 68 ls [.int s0, .int s1]) := by
                    intro x5 x8 x9 s0 s1 ls hev hl
                    unfold f_Mo_next_J68 at hev
                    refine lv_iadd hx hb dX11_next_68 ?_
                    refine lv_topi (fun y10 ey10 => ?_)
                    replace hev := x_lt hev y10 ey10
                    refine lv_istore (lv' := [(6, .int y10), (0, .ref aT), (1, .int x1), (2, .int x2), (3, .int x3), (4, .int x4), (5, .int x5), (7, .int x7), (8, .int x8), (9, .int x9)]) hx hb dX11_next_69 hl (by decide) rfl (fun ls hl => ?_)
                    refine lv_iload hx hb dX11_next_71 (lv_at hl 6 rfl) ?_
                    refine lv_iload hx hb dX11_next_73 (lv_at hl 9 rfl) ?_
                    refine lv_if_eq (tgt := 110) hx hb dX11_next_75 (by decide) (fun c11 => ?_) (fun c11 => ?_)
                    · replace hev := x_t c11 hev
                      exact J110 y10 x8 x5 ls hev (lv_sub hl [1, 2, 3, 4, 5, 0, 7, 8] rfl)
                    · replace hev := x_f c11 hev
                      refine lv_aload_n hx hb dX11_next_78 rfl (lv_at hl 1 rfl) ?_
                      refine lv_iload hx hb dX11_next_79 (lv_at hl 7 rfl) ?_
                      refine lv_iconst (v := (-1 : Int32)) hx hb dX11_next_81 (by decide) ?_
                      refine lv_iconst (v := (0 : Int32)) hx hb dX11_next_82 (by decide) ?_
                      refine lv_iload hx hb dX11_next_83 (lv_at hl 5 rfl) ?_
                      refine lv_iconst (v := (0 : Int32)) hx hb dX11_next_85 (by decide) ?_
                      obtain ⟨y12, hq, hev⟩ := x_bd hev
                      refine roV X hKK hR (st1 := [.int y12, .int x5]) (c_Mo_wasSo l G aT aT_text aT_read aT_spells aT_pasts aT_keptStates aT_keptDeeds aT_isKept aT_fars aT_queue aT_later aT_onWay aT_row aT_princes aT_tries vT_length vT_readMany vT_people vT_toldDay vT_toldBroken vT_many vT_now vT_deeds vT_pastMany vT_at vT_place vT_end vT_readPeople vT_readSpells vT_lifted vT_queued vT_laterMany vT_rowMany vT_princeMany vT_triedMany x7 (-1 : Int32) (0 : Int32) x4 (0 : Int32) y12 hq) K_X11_wasSo u1506 (x_Psub hP [0] rfl) rfl (q0 := 0) rfl (by decide) ⟨Nat.zero_le _, Nat.zero_le _⟩ rfl hl.1 rfl (Nat.le_of_ble_eq_true rfl) rfl dX11_next_86 ?_
                      refine lv_if_eq (tgt := 110) hx hb dX11_next_89 (by decide) (fun c13 => ?_) (fun c13 => ?_)
                      · replace hev := x_t c13 hev
                        exact J110 y10 x8 x5 ls hev (lv_sub hl [1, 2, 3, 4, 5, 0, 7, 8] rfl)
                      · replace hev := x_f c13 hev
                        refine lv_aload_n hx hb dX11_next_92 rfl (lv_at hl 1 rfl) ?_
                        refine lv_iload hx hb dX11_next_93 (lv_at hl 8 rfl) ?_
                        refine lv_iconst (v := (-1 : Int32)) hx hb dX11_next_95 (by decide) ?_
                        refine lv_iconst (v := (0 : Int32)) hx hb dX11_next_96 (by decide) ?_
                        refine lv_iload hx hb dX11_next_97 (lv_at hl 5 rfl) ?_
                        refine lv_iconst (v := (0 : Int32)) hx hb dX11_next_99 (by decide) ?_
                        obtain ⟨y14, hq, hev⟩ := x_bd hev
                        refine roV X hKK hR (st1 := [.int y14, .int x5]) (c_Mo_wasSo l G aT aT_text aT_read aT_spells aT_pasts aT_keptStates aT_keptDeeds aT_isKept aT_fars aT_queue aT_later aT_onWay aT_row aT_princes aT_tries vT_length vT_readMany vT_people vT_toldDay vT_toldBroken vT_many vT_now vT_deeds vT_pastMany vT_at vT_place vT_end vT_readPeople vT_readSpells vT_lifted vT_queued vT_laterMany vT_rowMany vT_princeMany vT_triedMany x8 (-1 : Int32) (0 : Int32) x4 (0 : Int32) y14 hq) K_X11_wasSo u1506 (x_Psub hP [0] rfl) rfl (q0 := 0) rfl (by decide) ⟨Nat.zero_le _, Nat.zero_le _⟩ rfl hl.1 rfl (Nat.le_of_ble_eq_true rfl) rfl dX11_next_100 ?_
                        refine lv_if_eq (tgt := 110) hx hb dX11_next_103 (by decide) (fun c15 => ?_) (fun c15 => ?_)
                        · replace hev := x_t c15 hev
                          exact J110 y10 x8 x5 ls hev (lv_sub hl [1, 2, 3, 4, 5, 0, 7, 8] rfl)
                        · replace hev := x_f c15 hev
                          refine lv_iconst (v := (1 : Int32)) hx hb dX11_next_106 (by decide) ?_
                          refine lv_goto (tgt := 111) hx hb dX11_next_107 (by decide) ?_
                          exact J111 y10 x8 (1 : Int32) x5 ls hev (lv_sub hl [1, 2, 3, 4, 5, 0, 7, 8] rfl)
                  refine lv_iload hx hb dX11_next_40 (lv_at hl 8 rfl) ?_
                  refine lv_iload_n hx hb dX11_next_42 rfl (lv_at hl 3 rfl) ?_
                  refine lv_icmp_ge (tgt := 120) hx hb dX11_next_43 (by decide) (fun c16 => ?_) (fun c16 => ?_)
                  · replace hev := x_t c16 hev
                    cases hev
                    exact hex ls (lv_sub hl [0, 1, 2, 3, 4, 5, 6, 7] rfl)
                  · replace hev := x_f c16 hev
                    refine lv_aload_n hx hb dX11_next_46 rfl (lv_at hl 0 rfl) ?_
                    refine lv_iload hx hb dX11_next_47 (lv_at hl 7 rfl) ?_
                    refine lv_iload hx hb dX11_next_49 (lv_at hl 8 rfl) ?_
                    obtain ⟨y17, hq, hev⟩ := x_bd hev
                    refine roV X hKK hR (st1 := [.int y17]) (c_Mo_fits l G aT aT_text aT_read aT_spells aT_pasts aT_keptStates aT_keptDeeds aT_isKept aT_fars aT_queue aT_later aT_onWay aT_row aT_princes aT_tries vT_length vT_readMany vT_people vT_toldDay vT_toldBroken vT_many vT_now vT_deeds vT_pastMany vT_at vT_place vT_end vT_readPeople vT_readSpells vT_lifted vT_queued vT_laterMany vT_rowMany vT_princeMany vT_triedMany fT_tries k x7 x8 y17 hq) K_X11_fits u1502 (x_Psub hP [0, 1] rfl) rfl (q0 := 0) rfl (by decide) ⟨Nat.zero_le _, Nat.zero_le _⟩ rfl hl.1 rfl (Nat.le_of_ble_eq_true rfl) rfl dX11_next_51 ?_
                    refine lv_istore (lv' := [(9, .int y17), (0, .ref aT), (1, .int x1), (2, .int x2), (3, .int x3), (4, .int x4), (5, .int x5), (6, .int x6), (7, .int x7), (8, .int x8)]) hx hb dX11_next_54 hl (by decide) rfl (fun ls hl => ?_)
                    refine lv_iload hx hb dX11_next_56 (lv_at hl 7 rfl) ?_
                    refine lv_iload hx hb dX11_next_58 (lv_at hl 0 rfl) ?_
                    refine lv_if_eq (tgt := 67) hx hb dX11_next_60 (by decide) (fun c18 => ?_) (fun c18 => ?_)
                    · replace hev := x_t c18 hev
                      refine lv_iconst (v := (0 : Int32)) hx hb dX11_next_67 (by decide) ?_
                      exact J68 x5 x8 y17 (0 : Int32) x6 ls hev (lv_sub hl [1, 2, 3, 4, 5, 6, 8, 9, 0] rfl)
                    · replace hev := x_f c18 hev
                      refine lv_iconst (v := (1 : Int32)) hx hb dX11_next_63 (by decide) ?_
                      refine lv_goto (tgt := 68) hx hb dX11_next_64 (by decide) ?_
                      exact J68 x5 x8 y17 (1 : Int32) x6 ls hev (lv_sub hl [1, 2, 3, 4, 5, 6, 8, 9, 0] rfl)
              obtain ⟨⟨y19, y20⟩, hq, hev⟩ := x_bd hev
              refine L40 x1 x2 x3 x4 x7 k x5 x6 x7 y19 y20 hq (fun ls hl => ?_) ls (lv_sub hl [1, 2, 3, 4, 5, 6, 7, 8, 0] rfl)
              obtain ⟨y21, ey21⟩ : ∃ y : Int32, y = x7 + (1 : Int32) := ⟨_, rfl⟩
              refine lv_iinc (v := y21) (lv' := [(7, .int y21), (0, .ref aT), (1, .int x1), (2, .int x2), (3, .int x3), (4, .int x4), (5, .int y19), (6, .int y20)]) hx hb dX11_next_120 hl (k := 7) rfl (by rw [ey21]; rfl) (by decide) rfl (fun ls hl => ?_)
              replace hev := x_lt hev y21 ey21
              refine lv_goto (tgt := 30) hx hb dX11_next_123 (by decide) ?_
              exact ih y19 y20 y21 _ _ hev hex ls (lv_sub hl [1, 2, 3, 4, 5, 6, 7, 0] rfl)
        obtain ⟨⟨y22, y23⟩, hq, hev⟩ := x_bd hev
        refine L30 x1 x2 x3 x4 k (0 : Int32) (0 : Int32) (0 : Int32) y22 y23 hq (fun ls hl => ?_) ls (lv_sub hl [3, 4, 5, 6, 7, 2, 1, 0] rfl)
        refine lv_iload hx hb dX11_next_126 (lv_at hl 5 rfl) ?_
        refine lv_iload hx hb dX11_next_128 (lv_at hl 6 rfl) ?_
        refine lv_iload hx hb dX11_next_130 (lv_at hl 5 rfl) ?_
        refine lv_isub hx hb dX11_next_132 ?_
        refine lv_icmp_le (tgt := 141) hx hb dX11_next_133 (by decide) (fun c24 => ?_) (fun c24 => ?_)
        · replace hev := x_t c24 hev
          refine lv_iload hx hb dX11_next_141 (lv_at hl 6 rfl) ?_
          refine lv_iload hx hb dX11_next_143 (lv_at hl 5 rfl) ?_
          refine lv_isub hx hb dX11_next_145 ?_
          exact J146 x1 x2 x4 y23 (y23 - y22) ls hev (lv_sub hl [0, 1, 2, 3, 4, 6] rfl)
        · replace hev := x_f c24 hev
          refine lv_iload hx hb dX11_next_136 (lv_at hl 5 rfl) ?_
          refine lv_goto (tgt := 146) hx hb dX11_next_138 (by decide) ?_
          exact J146 x1 x2 x4 y23 y22 ls hev (lv_sub hl [0, 1, 2, 3, 4, 6] rfl)
  obtain ⟨y25, hq, hev⟩ := x_bd hev
  refine L14 y1 k (-1 : Int32) (999 : Int32) (0 : Int32) y25 hq (fun ls hl => ?_) ls (lv_sub hl [4, 3, 2, 1, 0] rfl)
  refine lv_iload_n hx hb dX11_next_185 rfl (lv_at hl 0 rfl) ?_
  exact ret _ _ _ dX11_next_186 ((show narrow _ (.int y25) = .int y25 from rfl).trans (congrArg Value.int (Option.some.inj hev)))
