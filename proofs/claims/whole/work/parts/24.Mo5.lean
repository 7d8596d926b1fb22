def f_Mo_as_J62 (k : Nat) (vT_many : Int32) (vT_now : Int32) (fT_spells : Nat → Int32) (x1 : Int32) (s0 : Int32) : Option (Int32) := if s0 = 0 then (some (-4 : Int32)) else x_B (f_Mo_soMany k fT_spells vT_now x1 (21 : Int32)) (fun y2 => some y2)
def f_Mo_as_J57 (k : Nat) (vT_many : Int32) (vT_now : Int32) (fT_spells : Nat → Int32) (x1 : Int32) : Option (Int32) := f_Mo_as_J62 k vT_many vT_now fT_spells x1 (1 : Int32)
def f_Mo_as_J50 (k : Nat) (vT_many : Int32) (vT_now : Int32) (fT_spells : Nat → Int32) (x1 : Int32) (x2 : Int32) (x3 : Int32) : Option (Int32) := if x2 = (x3 + (2 : Int32)) then (f_Mo_as_J57 k vT_many vT_now fT_spells x1) else f_Mo_as_J62 k vT_many vT_now fT_spells x1 (0 : Int32)
def f_Mo_as (k : Nat) (vT_many : Int32) (vT_now : Int32) (fT_spells : Nat → Int32) (p1 : Int32) (p2 : Int32) : Option (Int32) := x_B (f_Mo_isSpell vT_many p1) (fun y4 => if y4 = 0 then (some (-2 : Int32)) else x_B (f_Mo_in ((p2).toInt64) (0 : Int64) (5 : Int64)) (fun y6 => if y6 = 0 then (some (-3 : Int32)) else x_L (((10 : Int32) * p1)) (fun y8 => x_I 50 fT_spells y8 (fun v10 => if p2 = 0 then (f_Mo_as_J57 k vT_many vT_now fT_spells p1) else if p2 = (1 : Int32) then (if v10 = (3 : Int32) then (f_Mo_as_J50 k vT_many vT_now fT_spells p1 p2 v10) else f_Mo_as_J57 k vT_many vT_now fT_spells p1) else f_Mo_as_J50 k vT_many vT_now fT_spells p1 p2 v10))))
set_option maxHeartbeats 8000000 in
set_option maxRecDepth 100000 in
theorem c_Mo_as (l : Launch) (G : GG) (aT aT_text aT_read aT_spells aT_pasts aT_keptStates aT_keptDeeds aT_isKept aT_fars aT_queue aT_later aT_onWay aT_row aT_princes aT_tries : Nat) (vT_length : Int32) (vT_readMany : Int32) (vT_people : Int32) (vT_toldDay : Int32) (vT_toldBroken : Int32) (vT_many : Int32) (vT_now : Int32) (vT_deeds : Int32) (vT_pastMany : Int32) (vT_at : Int32) (vT_place : Int32) (vT_end : Int32) (vT_readPeople : Int32) (vT_readSpells : Int32) (vT_lifted : Int32) (vT_queued : Int32) (vT_laterMany : Int32) (vT_rowMany : Int32) (vT_princeMany : Int32) (vT_triedMany : Int32) (fT_spells : Nat → Int32) (k : Nat) (p1 : Int32) (p2 : Int32) (r0 : Int32) (hev : f_Mo_as k vT_many vT_now fT_spells p1 p2 = some r0) : RO l G yX11_as cX11_as 5 (some .int) 3 [.ref aT, .int p1, .int p2] [(aT, .inr (7, [.ref aT_text, .int vT_length, .ref aT_read, .int vT_readMany, .int vT_people, .int vT_toldDay, .int vT_toldBroken, .ref aT_spells, .int vT_many, .int vT_now, .int vT_deeds, .ref aT_pasts, .int vT_pastMany, .ref aT_keptStates, .ref aT_keptDeeds, .ref aT_isKept, .int vT_at, .int vT_place, .int vT_end, .int vT_readPeople, .int vT_readSpells, .int vT_lifted, .ref aT_fars, .ref aT_queue, .int vT_queued, .ref aT_later, .int vT_laterMany, .ref aT_onWay, .ref aT_row, .int vT_rowMany, .ref aT_princes, .int vT_princeMany, .ref aT_tries, .int vT_triedMany])), (aT_spells, .inl (G.2.1, 50, .inl fT_spells))] (some (.int r0)) := by
  refine RO_of (by decide) (Nat.le_of_ble_eq_true rfl) ?_
  intro p e s m ar below meth c R Q H ls X hR hP hKK hS0 hl ret
  generalize hrs : r0 = rs at hev ret
  have hl : lv_has ls 5 [(0, .ref aT), (1, .int p1), (2, .int p2)] := hl
  obtain ⟨hx, hb, hml, hown, hts, hT⟩ := id X
  have hK := hKK.1
  have hw : ∀ w ∈ T0, w.before ar s = true := fun w h => hts w (hT w h)
  have i11 := fun w h => hT w (inT11 w h)
  have J62 : ∀ (x1 : Int32) (s0 : Int32), ∀ (ls : Array Slot), f_Mo_as_J62 k vT_many vT_now fT_spells x1 s0 = some rs → lv_has ls 5 [(0, .ref aT), (1, .int x1)] → W p l e R s m ar below meth c H [] 0 0 Q (F0 m 62 ls [.int s0]) := by
    intro x1 s0 ls hev hl
    unfold f_Mo_as_J62 at hev
    refine lv_istore (lv' := [(4, .int s0), (0, .ref aT), (1, .int x1)]) hx hb dX11_as_62 hl (by decide) rfl (fun ls hl => ?_)
    refine lv_iload hx hb dX11_as_64 (lv_at hl 0 rfl) ?_
    refine lv_if_eq (tgt := 83) hx hb dX11_as_66 (by decide) (fun c1 => ?_) (fun c1 => ?_)
    · replace hev := x_t c1 hev
      refine lv_bipush (v := (-4 : Int32)) hx hb dX11_as_83 (by decide) ?_
      exact ret _ _ _ dX11_as_85 ((show narrow _ (.int (-4 : Int32)) = .int (-4 : Int32) from rfl).trans (congrArg Value.int (Option.some.inj hev)))
    · replace hev := x_f c1 hev
      refine lv_aload_n hx hb dX11_as_69 rfl (lv_at hl 1 rfl) ?_
      refine lv_aload_n hx hb dX11_as_70 rfl (lv_at hl 1 rfl) ?_
      refine va_get (D := G.1) (ci := 7) (v := .int vT_now) (C := RX11) (T := TX11) (N := 34) hx hb hts i11 hown hK hP 0 rfl rfl 9 (by decide) (hw _ u1096) (fun _ h9 => h9) rfl dX11_as_71 ?_
      refine lv_iload_n hx hb dX11_as_74 rfl (lv_at hl 2 rfl) ?_
      refine lv_bipush (v := (21 : Int32)) hx hb dX11_as_75 (by decide) ?_
      obtain ⟨y2, hq, hev⟩ := x_bd hev
      refine roV X hKK hR (st1 := [.int y2]) (c_Mo_soMany l G aT aT_text aT_read aT_spells aT_pasts aT_keptStates aT_keptDeeds aT_isKept aT_fars aT_queue aT_later aT_onWay aT_row aT_princes aT_tries vT_length vT_readMany vT_people vT_toldDay vT_toldBroken vT_many vT_now vT_deeds vT_pastMany vT_at vT_place vT_end vT_readPeople vT_readSpells vT_lifted vT_queued vT_laterMany vT_rowMany vT_princeMany vT_triedMany fT_spells k vT_now x1 (21 : Int32) y2 hq) K_X11_soMany u1327 (x_Psub hP [0, 1] rfl) rfl (q0 := 0) rfl (by decide) ⟨Nat.zero_le _, Nat.zero_le _⟩ rfl hl.1 rfl (Nat.le_of_ble_eq_true rfl) rfl dX11_as_77 ?_
      refine lv_goto (tgt := 85) hx hb dX11_as_80 (by decide) ?_
      exact ret _ _ _ dX11_as_85 ((show narrow _ (.int y2) = .int y2 from rfl).trans (congrArg Value.int (Option.some.inj hev)))
  have J57 : ∀ (x1 : Int32), ∀ (ls : Array Slot), f_Mo_as_J57 k vT_many vT_now fT_spells x1 = some rs → lv_has ls 5 [(0, .ref aT), (1, .int x1)] → W p l e R s m ar below meth c H [] 0 0 Q (F0 m 57 ls []) := by
    intro x1 ls hev hl
    unfold f_Mo_as_J57 at hev
    refine lv_iconst (v := (1 : Int32)) hx hb dX11_as_57 (by decide) ?_
    refine lv_goto (tgt := 62) hx hb dX11_as_58 (by decide) ?_
    exact J62 x1 (1 : Int32) ls hev (lv_sub hl [0, 1] rfl)
  have J50 : ∀ (x1 : Int32) (x2 : Int32) (x3 : Int32), ∀ (ls : Array Slot), f_Mo_as_J50 k vT_many vT_now fT_spells x1 x2 x3 = some rs → lv_has ls 5 [(0, .ref aT), (1, .int x1), (2, .int x2), (3, .int x3)] → W p l e R s m ar below meth c H [] 0 0 Q (F0 m 50 ls []) := by
    intro x1 x2 x3 ls hev hl
    unfold f_Mo_as_J50 at hev
    refine lv_iload_n hx hb dX11_as_50 rfl (lv_at hl 2 rfl) ?_
    refine lv_iload_n hx hb dX11_as_51 rfl (lv_at hl 3 rfl) ?_
    refine lv_iconst (v := (2 : Int32)) hx hb dX11_as_52 (by decide) ?_
    refine lv_iadd hx hb dX11_as_53 ?_
    refine lv_icmp_ne (tgt := 61) hx hb dX11_as_54 (by decide) (fun c3 => ?_) (fun c3 => ?_)
    · replace hev := x_f c3 hev
      refine lv_iconst (v := (0 : Int32)) hx hb dX11_as_61 (by decide) ?_
      exact J62 x1 (0 : Int32) ls hev (lv_sub hl [0, 1] rfl)
    · replace hev := x_t c3 hev
      exact J57 x1 ls hev (lv_sub hl [0, 1] rfl)
  unfold f_Mo_as at hev
  refine lv_aload_n hx hb dX11_as_0 rfl (lv_at hl 0 rfl) ?_
  refine lv_iload_n hx hb dX11_as_1 rfl (lv_at hl 1 rfl) ?_
  obtain ⟨y4, hq, hev⟩ := x_bd hev
  refine roV X hKK hR (st1 := [.int y4]) (c_Mo_isSpell l G aT aT_text aT_read aT_spells aT_pasts aT_keptStates aT_keptDeeds aT_isKept aT_fars aT_queue aT_later aT_onWay aT_row aT_princes aT_tries vT_length vT_readMany vT_people vT_toldDay vT_toldBroken vT_many vT_now vT_deeds vT_pastMany vT_at vT_place vT_end vT_readPeople vT_readSpells vT_lifted vT_queued vT_laterMany vT_rowMany vT_princeMany vT_triedMany p1 y4 hq) K_X11_isSpell u1297 (x_Psub hP [0] rfl) rfl (q0 := 0) rfl (by decide) ⟨Nat.zero_le _, Nat.zero_le _⟩ rfl hl.1 rfl (Nat.le_of_ble_eq_true rfl) rfl dX11_as_2 ?_
  refine lv_if_ne (tgt := 11) hx hb dX11_as_5 (by decide) (fun c5 => ?_) (fun c5 => ?_)
  · replace hev := x_f c5 hev
    refine lv_iload_n hx hb dX11_as_11 rfl (lv_at hl 2 rfl) ?_
    refine lv_i2l hx hb dX11_as_12 rfl ?_
    refine lv_lconst (v := (0 : Int64)) hx hb dX11_as_13 (by decide) ?_
    refine lv_ldc2 (v := (5 : Int64)) hx hb hown (hw _ u1326) dX11_as_14 ?_
    obtain ⟨y6, hq, hev⟩ := x_bd hev
    refine roS X hKK hR (st1 := [.int y6]) (c_Mo_in l G ((p2).toInt64) (0 : Int64) (5 : Int64) y6 hq) K_X11_in u1196 (x_Psub hP [] rfl) (by decide) ⟨Nat.zero_le _, Nat.zero_le _⟩ rfl hl.1 rfl (Nat.le_of_ble_eq_true rfl) rfl dX11_as_17 ?_
    refine lv_if_ne (tgt := 26) hx hb dX11_as_20 (by decide) (fun c7 => ?_) (fun c7 => ?_)
    · replace hev := x_f c7 hev
      refine lv_aload_n hx hb dX11_as_26 rfl (lv_at hl 0 rfl) ?_
      refine va_get (D := G.1) (ci := 7) (v := .ref aT_spells) (C := RX11) (T := TX11) (N := 34) hx hb hts i11 hown hK hP 0 rfl rfl 7 (by decide) (hw _ u1094) (fun _ h9 => h9) rfl dX11_as_27 ?_
      refine lv_bipush (v := (10 : Int32)) hx hb dX11_as_30 (by decide) ?_
      refine lv_iload_n hx hb dX11_as_32 rfl (lv_at hl 1 rfl) ?_
      refine lv_imul hx hb dX11_as_33 ?_
      refine lv_topi (fun y8 ey8 => ?_)
      replace hev := x_lt hev y8 ey8
      obtain ⟨h9, hev⟩ := x_ld hev
      refine va_iald hx hb hK hP 1 0 rfl rfl h9 dX11_as_34 ?_
      refine lv_topi (fun v10 ev10 => ?_)
      replace hev := hev v10 ev10
      refine lv_istore_n (lv' := [(3, .int v10), (0, .ref aT), (1, .int p1), (2, .int p2)]) hx hb dX11_as_35 rfl hl (by decide) rfl (fun ls hl => ?_)
      refine lv_iload_n hx hb dX11_as_36 rfl (lv_at hl 3 rfl) ?_
      refine lv_if_eq (tgt := 57) hx hb dX11_as_37 (by decide) (fun c11 => ?_) (fun c11 => ?_)
      · replace hev := x_t c11 hev
        exact J57 p1 ls hev (lv_sub hl [1, 2] rfl)
      · replace hev := x_f c11 hev
        refine lv_iload_n hx hb dX11_as_40 rfl (lv_at hl 3 rfl) ?_
        refine lv_iconst (v := (1 : Int32)) hx hb dX11_as_41 (by decide) ?_
        refine lv_icmp_ne (tgt := 50) hx hb dX11_as_42 (by decide) (fun c12 => ?_) (fun c12 => ?_)
        · replace hev := x_f c12 hev
          exact J50 p1 p2 v10 ls hev (lv_sub hl [1, 2, 3, 0] rfl)
        · replace hev := x_t c12 hev
          refine lv_iload_n hx hb dX11_as_45 rfl (lv_at hl 0 rfl) ?_
          refine lv_iconst (v := (3 : Int32)) hx hb dX11_as_46 (by decide) ?_
          refine lv_icmp_ne (tgt := 57) hx hb dX11_as_47 (by decide) (fun c13 => ?_) (fun c13 => ?_)
          · replace hev := x_f c13 hev
            exact J57 p1 ls hev (lv_sub hl [1, 2] rfl)
          · replace hev := x_t c13 hev
            exact J50 p1 p2 v10 ls hev (lv_sub hl [1, 2, 3, 0] rfl)
    · replace hev := x_t c7 hev
      refine lv_bipush (v := (-3 : Int32)) hx hb dX11_as_23 (by decide) ?_
      exact ret _ _ _ dX11_as_25 ((show narrow _ (.int (-3 : Int32)) = .int (-3 : Int32) from rfl).trans (congrArg Value.int (Option.some.inj hev)))
  · replace hev := x_t c5 hev
    refine lv_bipush (v := (-2 : Int32)) hx hb dX11_as_8 (by decide) ?_
    exact ret _ _ _ dX11_as_10 ((show narrow _ (.int (-2 : Int32)) = .int (-2 : Int32) from rfl).trans (congrArg Value.int (Option.some.inj hev)))
def f_Mo_laidBy_J141 (k : Nat) (vT_many : Int32) (fT_spells : Nat → Int32) (x3 : Int32) (x4 : Int32) : Option (Int32) := if x3 < x4 then (some (2 : Int32)) else some (1 : Int32)
def f_Mo_laidBy_J117 (rec : Int32 → Int32 → Int32 → Int32 → Option (Int32 × Int32 × Int32)) (k : Nat) (vT_many : Int32) (fT_spells : Nat → Int32) (x1 : Int32) (x2 : Int32) (x3 : Int32) (x5 : Int32) (s0 : Int32) (s1 : Int32) : Option (Int32 × Int32 × Int32) := x_L ((s1 + s0)) (fun y4 => x_L (x5 + (1 : Int32)) (fun y5 => rec x2 x3 y4 y5))
def f_Mo_laidBy_J93 (rec : Int32 → Int32 → Int32 → Int32 → Option (Int32 × Int32 × Int32)) (k : Nat) (vT_many : Int32) (fT_spells : Nat → Int32) (x1 : Int32) (x2 : Int32) (x4 : Int32) (x5 : Int32) (x6 : Int32) (s0 : Int32) (s1 : Int32) : Option (Int32 × Int32 × Int32) := x_L ((s1 + s0)) (fun y6 => x_B (f_Mo_in ((x6).toInt64) (3 : Int64) (6 : Int64)) (fun y7 => if y7 = 0 then (f_Mo_laidBy_J117 rec k vT_many fT_spells x1 x2 y6 x5 (0 : Int32) x4) else f_Mo_laidBy_J117 rec k vT_many fT_spells x1 x2 y6 x5 (1 : Int32) x4))
def f_Mo_laidBy_J88 (rec : Int32 → Int32 → Int32 → Int32 → Option (Int32 × Int32 × Int32)) (k : Nat) (vT_many : Int32) (fT_spells : Nat → Int32) (x1 : Int32) (x2 : Int32) (x4 : Int32) (x5 : Int32) (x6 : Int32) (s0 : Int32) : Option (Int32 × Int32 × Int32) := f_Mo_laidBy_J93 rec k vT_many fT_spells x1 x2 x4 x5 x6 (1 : Int32) s0
def f_Mo_laidBy_J72 (rec : Int32 → Int32 → Int32 → Int32 → Option (Int32 × Int32 × Int32)) (k : Nat) (vT_many : Int32) (fT_spells : Nat → Int32) (x1 : Int32) (x3 : Int32) (x4 : Int32) (x5 : Int32) (x6 : Int32) (s0 : Int32) (s1 : Int32) : Option (Int32 × Int32 × Int32) := x_L ((s1 + s0)) (fun y9 => if x6 = (2 : Int32) then (f_Mo_laidBy_J88 rec k vT_many fT_spells x1 y9 x4 x5 x6 x3) else if x6 = (7 : Int32) then (f_Mo_laidBy_J88 rec k vT_many fT_spells x1 y9 x4 x5 x6 x3) else f_Mo_laidBy_J93 rec k vT_many fT_spells x1 y9 x4 x5 x6 (0 : Int32) x3)
def f_Mo_laidBy_J67 (rec : Int32 → Int32 → Int32 → Int32 → Option (Int32 × Int32 × Int32)) (k : Nat) (vT_many : Int32) (fT_spells : Nat → Int32) (x1 : Int32) (x3 : Int32) (x4 : Int32) (x5 : Int32) (x6 : Int32) (s0 : Int32) : Option (Int32 × Int32 × Int32) := f_Mo_laidBy_J72 rec k vT_many fT_spells x1 x3 x4 x5 x6 (1 : Int32) s0
def f_Mo_laidBy_L21 (vT_many : Int32) (fT_spells : Nat → Int32) (x1 : Int32) : Nat → Int32 → Int32 → Int32 → Int32 → Option (Int32 × Int32 × Int32)
  | 0, _, _, _, _ => none
  | k + 1, x2, x3, x4, x5 => x_L ((((10 : Int32) * x1) + (2 : Int32))) (fun y12 => x_I 50 fT_spells y12 (fun v14 => if v14 ≤ x5 then (some (x2, x3, x4)) else x_L (((((10 : Int32) * x1) + (3 : Int32)) + ((2 : Int32) * x5))) (fun y16 => x_I 50 fT_spells y16 (fun v18 => if v18 = 0 then (f_Mo_laidBy_J67 (f_Mo_laidBy_L21 vT_many fT_spells x1 k) k vT_many fT_spells x1 x3 x4 x5 v18 x2) else if v18 = (1 : Int32) then (f_Mo_laidBy_J67 (f_Mo_laidBy_L21 vT_many fT_spells x1 k) k vT_many fT_spells x1 x3 x4 x5 v18 x2) else f_Mo_laidBy_J72 (f_Mo_laidBy_L21 vT_many fT_spells x1 k) k vT_many fT_spells x1 x3 x4 x5 v18 (0 : Int32) x2))))
def f_Mo_laidBy (k : Nat) (vT_many : Int32) (fT_spells : Nat → Int32) (p1 : Int32) : Option (Int32) := x_B (f_Mo_isSpell vT_many p1) (fun y2 => if y2 = 0 then (some (-2 : Int32)) else x_B (f_Mo_laidBy_L21 vT_many fT_spells p1 k (0 : Int32) (0 : Int32) (0 : Int32) (0 : Int32)) (fun ⟨y21, y22, y23⟩ => if y21 < y22 then (f_Mo_laidBy_J141 k vT_many fT_spells y22 y23) else if y21 < y23 then (f_Mo_laidBy_J141 k vT_many fT_spells y22 y23) else some (0 : Int32)))
set_option maxHeartbeats 8000000 in
set_option maxRecDepth 100000 in
theorem c_Mo_laidBy (l : Launch) (G : GG) (aT aT_text aT_read aT_spells aT_pasts aT_keptStates aT_keptDeeds aT_isKept aT_fars aT_queue aT_later aT_onWay aT_row aT_princes aT_tries : Nat) (vT_length : Int32) (vT_readMany : Int32) (vT_people : Int32) (vT_toldDay : Int32) (vT_toldBroken : Int32) (vT_many : Int32) (vT_now : Int32) (vT_deeds : Int32) (vT_pastMany : Int32) (vT_at : Int32) (vT_place : Int32) (vT_end : Int32) (vT_readPeople : Int32) (vT_readSpells : Int32) (vT_lifted : Int32) (vT_queued : Int32) (vT_laterMany : Int32) (vT_rowMany : Int32) (vT_princeMany : Int32) (vT_triedMany : Int32) (fT_spells : Nat → Int32) (k : Nat) (p1 : Int32) (r0 : Int32) (hev : f_Mo_laidBy k vT_many fT_spells p1 = some r0) : RO l G yX11_laidBy cX11_laidBy 7 (some .int) 2 [.ref aT, .int p1] [(aT, .inr (7, [.ref aT_text, .int vT_length, .ref aT_read, .int vT_readMany, .int vT_people, .int vT_toldDay, .int vT_toldBroken, .ref aT_spells, .int vT_many, .int vT_now, .int vT_deeds, .ref aT_pasts, .int vT_pastMany, .ref aT_keptStates, .ref aT_keptDeeds, .ref aT_isKept, .int vT_at, .int vT_place, .int vT_end, .int vT_readPeople, .int vT_readSpells, .int vT_lifted, .ref aT_fars, .ref aT_queue, .int vT_queued, .ref aT_later, .int vT_laterMany, .ref aT_onWay, .ref aT_row, .int vT_rowMany, .ref aT_princes, .int vT_princeMany, .ref aT_tries, .int vT_triedMany])), (aT_spells, .inl (G.2.1, 50, .inl fT_spells))] (some (.int r0)) := by
  refine RO_of (by decide) (Nat.le_of_ble_eq_true rfl) ?_
  intro p e s m ar below meth c R Q H ls X hR hP hKK hS0 hl ret
  generalize hrs : r0 = rs at hev ret
  have hl : lv_has ls 7 [(0, .ref aT), (1, .int p1)] := hl
  obtain ⟨hx, hb, hml, hown, hts, hT⟩ := id X
  have hK := hKK.1
  have hw : ∀ w ∈ T0, w.before ar s = true := fun w h => hts w (hT w h)
  have i11 := fun w h => hT w (inT11 w h)
  have J141 : ∀ (x3 : Int32) (x4 : Int32), ∀ (ls : Array Slot), f_Mo_laidBy_J141 k vT_many fT_spells x3 x4 = some rs → lv_has ls 7 [(3, .int x3), (4, .int x4)] → W p l e R s m ar below meth c H [] 0 0 Q (F0 m 141 ls []) := by
    intro x3 x4 ls hev hl
    unfold f_Mo_laidBy_J141 at hev
    refine lv_iload_n hx hb dX11_laidBy_141 rfl (lv_at hl 0 rfl) ?_
    refine lv_iload hx hb dX11_laidBy_142 (lv_at hl 1 rfl) ?_
    refine lv_icmp_lt (tgt := 151) hx hb dX11_laidBy_144 (by decide) (fun c1 => ?_) (fun c1 => ?_)
    · replace hev := x_t c1 hev
      refine lv_iconst (v := (2 : Int32)) hx hb dX11_laidBy_151 (by decide) ?_
      exact ret _ _ _ dX11_laidBy_152 ((show narrow _ (.int (2 : Int32)) = .int (2 : Int32) from rfl).trans (congrArg Value.int (Option.some.inj hev)))
    · replace hev := x_f c1 hev
      refine lv_iconst (v := (1 : Int32)) hx hb dX11_laidBy_147 (by decide) ?_
      refine lv_goto (tgt := 152) hx hb dX11_laidBy_148 (by decide) ?_
      exact ret _ _ _ dX11_laidBy_152 ((show narrow _ (.int (1 : Int32)) = .int (1 : Int32) from rfl).trans (congrArg Value.int (Option.some.inj hev)))
  unfold f_Mo_laidBy at hev
  refine lv_aload_n hx hb dX11_laidBy_0 rfl (lv_at hl 0 rfl) ?_
  refine lv_iload_n hx hb dX11_laidBy_1 rfl (lv_at hl 1 rfl) ?_
  obtain ⟨y2, hq, hev⟩ := x_bd hev
  refine roV X hKK hR (st1 := [.int y2]) (c_Mo_isSpell l G aT aT_text aT_read aT_spells aT_pasts aT_keptStates aT_keptDeeds aT_isKept aT_fars aT_queue aT_later aT_onWay aT_row aT_princes aT_tries vT_length vT_readMany vT_people vT_toldDay vT_toldBroken vT_many vT_now vT_deeds vT_pastMany vT_at vT_place vT_end vT_readPeople vT_readSpells vT_lifted vT_queued vT_laterMany vT_rowMany vT_princeMany vT_triedMany p1 y2 hq) K_X11_isSpell u1297 (x_Psub hP [0] rfl) rfl (q0 := 0) rfl (by decide) ⟨Nat.zero_le _, Nat.zero_le _⟩ rfl hl.1 rfl (Nat.le_of_ble_eq_true rfl) rfl dX11_laidBy_2 ?_
  refine lv_if_ne (tgt := 11) hx hb dX11_laidBy_5 (by decide) (fun c3 => ?_) (fun c3 => ?_)
  · replace hev := x_f c3 hev
    refine lv_iconst (v := (0 : Int32)) hx hb dX11_laidBy_11 (by decide) ?_
    refine lv_istore_n (lv' := [(2, .int (0 : Int32)), (0, .ref aT), (1, .int p1)]) hx hb dX11_laidBy_12 rfl hl (by decide) rfl (fun ls hl => ?_)
    refine lv_iconst (v := (0 : Int32)) hx hb dX11_laidBy_13 (by decide) ?_
    refine lv_istore_n (lv' := [(3, .int (0 : Int32)), (2, .int (0 : Int32)), (0, .ref aT), (1, .int p1)]) hx hb dX11_laidBy_14 rfl hl (by decide) rfl (fun ls hl => ?_)
    refine lv_iconst (v := (0 : Int32)) hx hb dX11_laidBy_15 (by decide) ?_
    refine lv_istore (lv' := [(4, .int (0 : Int32)), (3, .int (0 : Int32)), (2, .int (0 : Int32)), (0, .ref aT), (1, .int p1)]) hx hb dX11_laidBy_16 hl (by decide) rfl (fun ls hl => ?_)
    refine lv_iconst (v := (0 : Int32)) hx hb dX11_laidBy_18 (by decide) ?_
    refine lv_istore (lv' := [(5, .int (0 : Int32)), (4, .int (0 : Int32)), (3, .int (0 : Int32)), (2, .int (0 : Int32)), (0, .ref aT), (1, .int p1)]) hx hb dX11_laidBy_19 hl (by decide) rfl (fun ls hl => ?_)
    have L21 : ∀ (x1 : Int32), ∀ (k : Nat) (x2 : Int32) (x3 : Int32) (x4 : Int32) (x5 : Int32) (o2 : Int32) (o3 : Int32) (o4 : Int32), f_Mo_laidBy_L21 vT_many fT_spells x1 k x2 x3 x4 x5 = some (o2, o3, o4) → (∀ (ls : Array Slot), lv_has ls 7 [(2, .int o2), (3, .int o3), (4, .int o4)] → W p l e R s m ar below meth c H [] 0 0 Q (F0 m 126 ls [])) → ∀ (ls : Array Slot), lv_has ls 7 [(0, .ref aT), (1, .int x1), (2, .int x2), (3, .int x3), (4, .int x4), (5, .int x5)] → W p l e R s m ar below meth c H [] 0 0 Q (F0 m 21 ls []) := by
      intro x1 k
      induction k with
      | zero => intro x2 x3 x4 x5 o2 o3 o4 hev; rw [f_Mo_laidBy_L21] at hev; cases hev
      | succ k ih =>
        intro x2 x3 x4 x5 o2 o3 o4 hev hex ls hl
        rw [f_Mo_laidBy_L21] at hev
        have J117 : ∀ (x2 : Int32) (x3 : Int32) (x5 : Int32) (s0 : Int32) (s1 : Int32), ∀ (ls : Array Slot), f_Mo_laidBy_J117 (f_Mo_laidBy_L21 vT_many fT_spells x1 k) k vT_many fT_spells x1 x2 x3 x5 s0 s1 = some (o2, o3, o4) → lv_has ls 7 [(0, .ref aT), (1, .int x1), (2, .int x2), (3, .int x3), (5, .int x5)] → W p l e R s m ar below meth c H [] 0 0 Q (F0 m 117 ls [.int s0, .int s1]) := by
          intro x2 x3 x5 s0 s1 ls hev hl
          unfold f_Mo_laidBy_J117 at hev
          refine lv_iadd hx hb dX11_laidBy_117 ?_
          refine lv_topi (fun y4 ey4 => ?_)
          replace hev := x_lt hev y4 ey4
          refine lv_istore (lv' := [(4, .int y4), (0, .ref aT), (1, .int x1), (2, .int x2), (3, .int x3), (5, .int x5)]) hx hb dX11_laidBy_118 hl (by decide) rfl (fun ls hl => ?_)
          obtain ⟨y5, ey5⟩ : ∃ y : Int32, y = x5 + (1 : Int32) := ⟨_, rfl⟩
          refine lv_iinc (v := y5) (lv' := [(5, .int y5), (4, .int y4), (0, .ref aT), (1, .int x1), (2, .int x2), (3, .int x3)]) hx hb dX11_laidBy_120 hl (k := 5) rfl (by rw [ey5]; rfl) (by decide) rfl (fun ls hl => ?_)
          replace hev := x_lt hev y5 ey5
          refine lv_goto (tgt := 21) hx hb dX11_laidBy_123 (by decide) ?_
          exact ih x2 x3 y4 y5 _ _ _ hev hex ls (lv_sub hl [2, 3, 4, 5, 1, 0] rfl)
        have J93 : ∀ (x2 : Int32) (x4 : Int32) (x5 : Int32) (x6 : Int32) (s0 : Int32) (s1 : Int32), ∀ (ls : Array Slot), f_Mo_laidBy_J93 (f_Mo_laidBy_L21 vT_many fT_spells x1 k) k vT_many fT_spells x1 x2 x4 x5 x6 s0 s1 = some (o2, o3, o4) → lv_has ls 7 [(0, .ref aT), (1, .int x1), (2, .int x2), (4, .int x4), (5, .int x5), (6, .int x6)] → W p l e R s m ar below meth c H [] 0 0 Q (F0 m 93 ls [.int s0, .int s1]) := by
          intro x2 x4 x5 x6 s0 s1 ls hev hl
          unfold f_Mo_laidBy_J93 at hev
          refine lv_iadd hx hb dX11_laidBy_93 ?_
          refine lv_topi (fun y6 ey6 => ?_)
          replace hev := x_lt hev y6 ey6
          refine lv_istore_n (lv' := [(3, .int y6), (0, .ref aT), (1, .int x1), (2, .int x2), (4, .int x4), (5, .int x5), (6, .int x6)]) hx hb dX11_laidBy_94 rfl hl (by decide) rfl (fun ls hl => ?_)
          refine lv_iload hx hb dX11_laidBy_95 (lv_at hl 4 rfl) ?_
          refine lv_iload hx hb dX11_laidBy_97 (lv_at hl 6 rfl) ?_
          refine lv_i2l hx hb dX11_laidBy_99 rfl ?_
          refine lv_ldc2 (v := (3 : Int64)) hx hb hown (hw _ u1335) dX11_laidBy_100 ?_
          refine lv_ldc2 (v := (6 : Int64)) hx hb hown (hw _ u1336) dX11_laidBy_103 ?_
          obtain ⟨y7, hq, hev⟩ := x_bd hev
          refine roS X hKK hR (st1 := [.int y7, .int x4]) (c_Mo_in l G ((x6).toInt64) (3 : Int64) (6 : Int64) y7 hq) K_X11_in u1196 (x_Psub hP [] rfl) (by decide) ⟨Nat.zero_le _, Nat.zero_le _⟩ rfl hl.1 rfl (Nat.le_of_ble_eq_true rfl) rfl dX11_laidBy_106 ?_
          refine lv_if_eq (tgt := 116) hx hb dX11_laidBy_109 (by decide) (fun c8 => ?_) (fun c8 => ?_)
          · replace hev := x_t c8 hev
            refine lv_iconst (v := (0 : Int32)) hx hb dX11_laidBy_116 (by decide) ?_
            exact J117 x2 y6 x5 (0 : Int32) x4 ls hev (lv_sub hl [1, 2, 3, 0, 5] rfl)
          · replace hev := x_f c8 hev
            refine lv_iconst (v := (1 : Int32)) hx hb dX11_laidBy_112 (by decide) ?_
            refine lv_goto (tgt := 117) hx hb dX11_laidBy_113 (by decide) ?_
            exact J117 x2 y6 x5 (1 : Int32) x4 ls hev (lv_sub hl [1, 2, 3, 0, 5] rfl)
        have J88 : ∀ (x2 : Int32) (x4 : Int32) (x5 : Int32) (x6 : Int32) (s0 : Int32), ∀ (ls : Array Slot), f_Mo_laidBy_J88 (f_Mo_laidBy_L21 vT_many fT_spells x1 k) k vT_many fT_spells x1 x2 x4 x5 x6 s0 = some (o2, o3, o4) → lv_has ls 7 [(0, .ref aT), (1, .int x1), (2, .int x2), (4, .int x4), (5, .int x5), (6, .int x6)] → W p l e R s m ar below meth c H [] 0 0 Q (F0 m 88 ls [.int s0]) := by
          intro x2 x4 x5 x6 s0 ls hev hl
          unfold f_Mo_laidBy_J88 at hev
          refine lv_iconst (v := (1 : Int32)) hx hb dX11_laidBy_88 (by decide) ?_
          refine lv_goto (tgt := 93) hx hb dX11_laidBy_89 (by decide) ?_
          exact J93 x2 x4 x5 x6 (1 : Int32) s0 ls hev (lv_sub hl [0, 1, 2, 3, 4, 5] rfl)
        have J72 : ∀ (x3 : Int32) (x4 : Int32) (x5 : Int32) (x6 : Int32) (s0 : Int32) (s1 : Int32), ∀ (ls : Array Slot), f_Mo_laidBy_J72 (f_Mo_laidBy_L21 vT_many fT_spells x1 k) k vT_many fT_spells x1 x3 x4 x5 x6 s0 s1 = some (o2, o3, o4) → lv_has ls 7 [(0, .ref aT), (1, .int x1), (3, .int x3), (4, .int x4), (5, .int x5), (6, .int x6)] → W p l e R s m ar below meth c H [] 0 0 Q (F0 m 72 ls [.int s0, .int s1]) := by
          intro x3 x4 x5 x6 s0 s1 ls hev hl
          unfold f_Mo_laidBy_J72 at hev
          refine lv_iadd hx hb dX11_laidBy_72 ?_
          refine lv_topi (fun y9 ey9 => ?_)
          replace hev := x_lt hev y9 ey9
          refine lv_istore_n (lv' := [(2, .int y9), (0, .ref aT), (1, .int x1), (3, .int x3), (4, .int x4), (5, .int x5), (6, .int x6)]) hx hb dX11_laidBy_73 rfl hl (by decide) rfl (fun ls hl => ?_)
          refine lv_iload_n hx hb dX11_laidBy_74 rfl (lv_at hl 3 rfl) ?_
          refine lv_iload hx hb dX11_laidBy_75 (lv_at hl 6 rfl) ?_
          refine lv_iconst (v := (2 : Int32)) hx hb dX11_laidBy_77 (by decide) ?_
          refine lv_icmp_eq (tgt := 88) hx hb dX11_laidBy_78 (by decide) (fun c10 => ?_) (fun c10 => ?_)
          · replace hev := x_t c10 hev
            exact J88 y9 x4 x5 x6 x3 ls hev (lv_sub hl [1, 2, 0, 4, 5, 6] rfl)
          · replace hev := x_f c10 hev
            refine lv_iload hx hb dX11_laidBy_81 (lv_at hl 6 rfl) ?_
            refine lv_bipush (v := (7 : Int32)) hx hb dX11_laidBy_83 (by decide) ?_
            refine lv_icmp_ne (tgt := 92) hx hb dX11_laidBy_85 (by decide) (fun c11 => ?_) (fun c11 => ?_)
            · replace hev := x_f c11 hev
              refine lv_iconst (v := (0 : Int32)) hx hb dX11_laidBy_92 (by decide) ?_
              exact J93 y9 x4 x5 x6 (0 : Int32) x3 ls hev (lv_sub hl [1, 2, 0, 4, 5, 6] rfl)
            · replace hev := x_t c11 hev
              exact J88 y9 x4 x5 x6 x3 ls hev (lv_sub hl [1, 2, 0, 4, 5, 6] rfl)
        have J67 : ∀ (x3 : Int32) (x4 : Int32) (x5 : Int32) (x6 : Int32) (s0 : Int32), ∀ (ls : Array Slot), f_Mo_laidBy_J67 (f_Mo_laidBy_L21 vT_many fT_spells x1 k) k vT_many fT_spells x1 x3 x4 x5 x6 s0 = some (o2, o3, o4) → lv_has ls 7 [(0, .ref aT), (1, .int x1), (3, .int x3), (4, .int x4), (5, .int x5), (6, .int x6)] → W p l e R s m ar below meth c H [] 0 0 Q (F0 m 67 ls [.int s0]) := by
          intro x3 x4 x5 x6 s0 ls hev hl
          unfold f_Mo_laidBy_J67 at hev
          refine lv_iconst (v := (1 : Int32)) hx hb dX11_laidBy_67 (by decide) ?_
          refine lv_goto (tgt := 72) hx hb dX11_laidBy_68 (by decide) ?_
          exact J72 x3 x4 x5 x6 (1 : Int32) s0 ls hev (lv_sub hl [0, 1, 2, 3, 4, 5] rfl)
        refine lv_iload hx hb dX11_laidBy_21 (lv_at hl 5 rfl) ?_
        refine lv_aload_n hx hb dX11_laidBy_23 rfl (lv_at hl 0 rfl) ?_
        refine va_get (D := G.1) (ci := 7) (v := .ref aT_spells) (C := RX11) (T := TX11) (N := 34) hx hb hts i11 hown hK hP 0 rfl rfl 7 (by decide) (hw _ u1094) (fun _ h9 => h9) rfl dX11_laidBy_24 ?_
        refine lv_bipush (v := (10 : Int32)) hx hb dX11_laidBy_27 (by decide) ?_
        refine lv_iload_n hx hb dX11_laidBy_29 rfl (lv_at hl 1 rfl) ?_
        refine lv_imul hx hb dX11_laidBy_30 ?_
        refine lv_iconst (v := (2 : Int32)) hx hb dX11_laidBy_31 (by decide) ?_
        refine lv_iadd hx hb dX11_laidBy_32 ?_
        refine lv_topi (fun y12 ey12 => ?_)
        replace hev := x_lt hev y12 ey12
        obtain ⟨h13, hev⟩ := x_ld hev
        refine va_iald hx hb hK hP 1 0 rfl rfl h13 dX11_laidBy_33 ?_
        refine lv_topi (fun v14 ev14 => ?_)
        replace hev := hev v14 ev14
        refine lv_icmp_ge (tgt := 126) hx hb dX11_laidBy_34 (by decide) (fun c15 => ?_) (fun c15 => ?_)
        · replace hev := x_t c15 hev
          cases hev
          exact hex ls (lv_sub hl [2, 3, 4] rfl)
        · replace hev := x_f c15 hev
          refine lv_aload_n hx hb dX11_laidBy_37 rfl (lv_at hl 0 rfl) ?_
          refine va_get (D := G.1) (ci := 7) (v := .ref aT_spells) (C := RX11) (T := TX11) (N := 34) hx hb hts i11 hown hK hP 0 rfl rfl 7 (by decide) (hw _ u1094) (fun _ h9 => h9) rfl dX11_laidBy_38 ?_
          refine lv_bipush (v := (10 : Int32)) hx hb dX11_laidBy_41 (by decide) ?_
          refine lv_iload_n hx hb dX11_laidBy_43 rfl (lv_at hl 1 rfl) ?_
          refine lv_imul hx hb dX11_laidBy_44 ?_
          refine lv_iconst (v := (3 : Int32)) hx hb dX11_laidBy_45 (by decide) ?_
          refine lv_iadd hx hb dX11_laidBy_46 ?_
          refine lv_iconst (v := (2 : Int32)) hx hb dX11_laidBy_47 (by decide) ?_
          refine lv_iload hx hb dX11_laidBy_48 (lv_at hl 5 rfl) ?_
          refine lv_imul hx hb dX11_laidBy_50 ?_
          refine lv_iadd hx hb dX11_laidBy_51 ?_
          refine lv_topi (fun y16 ey16 => ?_)
          replace hev := x_lt hev y16 ey16
          obtain ⟨h17, hev⟩ := x_ld hev
          refine va_iald hx hb hK hP 1 0 rfl rfl h17 dX11_laidBy_52 ?_
          refine lv_topi (fun v18 ev18 => ?_)
          replace hev := hev v18 ev18
          refine lv_istore (lv' := [(6, .int v18), (0, .ref aT), (1, .int x1), (2, .int x2), (3, .int x3), (4, .int x4), (5, .int x5)]) hx hb dX11_laidBy_53 hl (by decide) rfl (fun ls hl => ?_)
          refine lv_iload_n hx hb dX11_laidBy_55 rfl (lv_at hl 3 rfl) ?_
          refine lv_iload hx hb dX11_laidBy_56 (lv_at hl 0 rfl) ?_
          refine lv_if_eq (tgt := 67) hx hb dX11_laidBy_58 (by decide) (fun c19 => ?_) (fun c19 => ?_)
          · replace hev := x_t c19 hev
            exact J67 x3 x4 x5 v18 x2 ls hev (lv_sub hl [1, 2, 4, 5, 6, 0] rfl)
          · replace hev := x_f c19 hev
            refine lv_iload hx hb dX11_laidBy_61 (lv_at hl 0 rfl) ?_
            refine lv_iconst (v := (1 : Int32)) hx hb dX11_laidBy_63 (by decide) ?_
            refine lv_icmp_ne (tgt := 71) hx hb dX11_laidBy_64 (by decide) (fun c20 => ?_) (fun c20 => ?_)
            · replace hev := x_f c20 hev
              refine lv_iconst (v := (0 : Int32)) hx hb dX11_laidBy_71 (by decide) ?_
              exact J72 x3 x4 x5 v18 (0 : Int32) x2 ls hev (lv_sub hl [1, 2, 4, 5, 6, 0] rfl)
            · replace hev := x_t c20 hev
              exact J67 x3 x4 x5 v18 x2 ls hev (lv_sub hl [1, 2, 4, 5, 6, 0] rfl)
    obtain ⟨⟨y21, y22, y23⟩, hq, hev⟩ := x_bd hev
    refine L21 p1 k (0 : Int32) (0 : Int32) (0 : Int32) (0 : Int32) y21 y22 y23 hq (fun ls hl => ?_) ls (lv_sub hl [4, 5, 3, 2, 1, 0] rfl)
    refine lv_iload_n hx hb dX11_laidBy_126 rfl (lv_at hl 0 rfl) ?_
    refine lv_iload_n hx hb dX11_laidBy_127 rfl (lv_at hl 1 rfl) ?_
    refine lv_icmp_lt (tgt := 141) hx hb dX11_laidBy_128 (by decide) (fun c24 => ?_) (fun c24 => ?_)
    · replace hev := x_t c24 hev
      exact J141 y22 y23 ls hev (lv_sub hl [1, 2] rfl)
    · replace hev := x_f c24 hev
      refine lv_iload_n hx hb dX11_laidBy_131 rfl (lv_at hl 0 rfl) ?_
      refine lv_iload hx hb dX11_laidBy_132 (lv_at hl 2 rfl) ?_
      refine lv_icmp_lt (tgt := 141) hx hb dX11_laidBy_134 (by decide) (fun c25 => ?_) (fun c25 => ?_)
      · replace hev := x_t c25 hev
        exact J141 y22 y23 ls hev (lv_sub hl [1, 2] rfl)
      · replace hev := x_f c25 hev
        refine lv_iconst (v := (0 : Int32)) hx hb dX11_laidBy_137 (by decide) ?_
        refine lv_goto (tgt := 152) hx hb dX11_laidBy_138 (by decide) ?_
        exact ret _ _ _ dX11_laidBy_152 ((show narrow _ (.int (0 : Int32)) = .int (0 : Int32) from rfl).trans (congrArg Value.int (Option.some.inj hev)))
  · replace hev := x_t c3 hev
    refine lv_bipush (v := (-2 : Int32)) hx hb dX11_laidBy_8 (by decide) ?_
    exact ret _ _ _ dX11_laidBy_10 ((show narrow _ (.int (-2 : Int32)) = .int (-2 : Int32) from rfl).trans (congrArg Value.int (Option.some.inj hev)))
def f_Mo_deedOf_J61 (vT_people : Int32) (x1 : Int32) (x2 : Int32) (x3 : Int32) : Option (Int32) := if x2 = 0 then (some (((7 : Int32) * x1) + x3)) else if x2 = (1 : Int32) then (some (((7 : Int32) * x1) + (3 : Int32))) else if x2 = (2 : Int32) then (some ((((7 : Int32) * x1) + (4 : Int32)) + x3)) else if x2 = (3 : Int32) then (some (((7 : Int32) * x1) + (6 : Int32))) else some (21 : Int32)
def f_Mo_deedOf_J43 (vT_people : Int32) (x1 : Int32) (x2 : Int32) (x3 : Int32) : Option (Int32) := if x2 = (2 : Int32) then (x_B (f_Mo_in ((x3).toInt64) (0 : Int64) (1 : Int64)) (fun y6 => if y6 = 0 then (some (-2 : Int32)) else f_Mo_deedOf_J61 vT_people x1 x2 x3)) else f_Mo_deedOf_J61 vT_people x1 x2 x3
def f_Mo_deedOf (vT_people : Int32) (p1 : Int32) (p2 : Int32) (p3 : Int32) : Option (Int32) := x_B (f_Mo_isPerson vT_people p1) (fun y8 => if y8 = 0 then (some (-2 : Int32)) else x_B (f_Mo_in ((p2).toInt64) (0 : Int64) (4 : Int64)) (fun y10 => if y10 = 0 then (some (-3 : Int32)) else if p2 = 0 then (x_B (f_Mo_isPerson vT_people p3) (fun y13 => if y13 = 0 then (some (-2 : Int32)) else if p3 = p1 then (some (-2 : Int32)) else f_Mo_deedOf_J43 vT_people p1 p2 p3)) else f_Mo_deedOf_J43 vT_people p1 p2 p3))
set_option maxHeartbeats 8000000 in
set_option maxRecDepth 100000 in
theorem c_Mo_deedOf (l : Launch) (G : GG) (aT aT_text aT_read aT_spells aT_pasts aT_keptStates aT_keptDeeds aT_isKept aT_fars aT_queue aT_later aT_onWay aT_row aT_princes aT_tries : Nat) (vT_length : Int32) (vT_readMany : Int32) (vT_people : Int32) (vT_toldDay : Int32) (vT_toldBroken : Int32) (vT_many : Int32) (vT_now : Int32) (vT_deeds : Int32) (vT_pastMany : Int32) (vT_at : Int32) (vT_place : Int32) (vT_end : Int32) (vT_readPeople : Int32) (vT_readSpells : Int32) (vT_lifted : Int32) (vT_queued : Int32) (vT_laterMany : Int32) (vT_rowMany : Int32) (vT_princeMany : Int32) (vT_triedMany : Int32) (p1 : Int32) (p2 : Int32) (p3 : Int32) (r0 : Int32) (hev : f_Mo_deedOf vT_people p1 p2 p3 = some r0) : RO l G yX11_deedOf cX11_deedOf 4 (some .int) 2 [.ref aT, .int p1, .int p2, .int p3] [(aT, .inr (7, [.ref aT_text, .int vT_length, .ref aT_read, .int vT_readMany, .int vT_people, .int vT_toldDay, .int vT_toldBroken, .ref aT_spells, .int vT_many, .int vT_now, .int vT_deeds, .ref aT_pasts, .int vT_pastMany, .ref aT_keptStates, .ref aT_keptDeeds, .ref aT_isKept, .int vT_at, .int vT_place, .int vT_end, .int vT_readPeople, .int vT_readSpells, .int vT_lifted, .ref aT_fars, .ref aT_queue, .int vT_queued, .ref aT_later, .int vT_laterMany, .ref aT_onWay, .ref aT_row, .int vT_rowMany, .ref aT_princes, .int vT_princeMany, .ref aT_tries, .int vT_triedMany]))] (some (.int r0)) := by
  refine RO_of (by decide) (Nat.le_of_ble_eq_true rfl) ?_
  intro p e s m ar below meth c R Q H ls X hR hP hKK hS0 hl ret
  generalize hrs : r0 = rs at hev ret
  have hl : lv_has ls 4 [(0, .ref aT), (1, .int p1), (2, .int p2), (3, .int p3)] := hl
  obtain ⟨hx, hb, hml, hown, hts, hT⟩ := id X
  have hK := hKK.1
  have hw : ∀ w ∈ T0, w.before ar s = true := fun w h => hts w (hT w h)
  have J61 : ∀ (x1 : Int32) (x2 : Int32) (x3 : Int32), ∀ (ls : Array Slot), f_Mo_deedOf_J61 vT_people x1 x2 x3 = some rs → lv_has ls 4 [(1, .int x1), (2, .int x2), (3, .int x3)] → W p l e R s m ar below meth c H [] 0 0 Q (F0 m 61 ls []) := by
    intro x1 x2 x3 ls hev hl
    unfold f_Mo_deedOf_J61 at hev
    refine lv_iload_n hx hb dX11_deedOf_61 rfl (lv_at hl 1 rfl) ?_
    refine lv_if_ne (tgt := 74) hx hb dX11_deedOf_62 (by decide) (fun c1 => ?_) (fun c1 => ?_)
    · replace hev := x_f c1 hev
      refine lv_iload_n hx hb dX11_deedOf_74 rfl (lv_at hl 1 rfl) ?_
      refine lv_iconst (v := (1 : Int32)) hx hb dX11_deedOf_75 (by decide) ?_
      refine lv_icmp_ne (tgt := 88) hx hb dX11_deedOf_76 (by decide) (fun c2 => ?_) (fun c2 => ?_)
      · replace hev := x_f c2 hev
        refine lv_iload_n hx hb dX11_deedOf_88 rfl (lv_at hl 1 rfl) ?_
        refine lv_iconst (v := (2 : Int32)) hx hb dX11_deedOf_89 (by decide) ?_
        refine lv_icmp_ne (tgt := 104) hx hb dX11_deedOf_90 (by decide) (fun c3 => ?_) (fun c3 => ?_)
        · replace hev := x_f c3 hev
          refine lv_iload_n hx hb dX11_deedOf_104 rfl (lv_at hl 1 rfl) ?_
          refine lv_iconst (v := (3 : Int32)) hx hb dX11_deedOf_105 (by decide) ?_
          refine lv_icmp_ne (tgt := 119) hx hb dX11_deedOf_106 (by decide) (fun c4 => ?_) (fun c4 => ?_)
          · replace hev := x_f c4 hev
            refine lv_bipush (v := (21 : Int32)) hx hb dX11_deedOf_119 (by decide) ?_
            exact ret _ _ _ dX11_deedOf_121 ((show narrow _ (.int (21 : Int32)) = .int (21 : Int32) from rfl).trans (congrArg Value.int (Option.some.inj hev)))
          · replace hev := x_t c4 hev
            refine lv_bipush (v := (7 : Int32)) hx hb dX11_deedOf_109 (by decide) ?_
            refine lv_iload_n hx hb dX11_deedOf_111 rfl (lv_at hl 0 rfl) ?_
            refine lv_imul hx hb dX11_deedOf_112 ?_
            refine lv_bipush (v := (6 : Int32)) hx hb dX11_deedOf_113 (by decide) ?_
            refine lv_iadd hx hb dX11_deedOf_115 ?_
            refine lv_goto (tgt := 121) hx hb dX11_deedOf_116 (by decide) ?_
            exact ret _ _ _ dX11_deedOf_121 ((show narrow _ (.int (((7 : Int32) * x1) + (6 : Int32))) = .int (((7 : Int32) * x1) + (6 : Int32)) from rfl).trans (congrArg Value.int (Option.some.inj hev)))
        · replace hev := x_t c3 hev
          refine lv_bipush (v := (7 : Int32)) hx hb dX11_deedOf_93 (by decide) ?_
          refine lv_iload_n hx hb dX11_deedOf_95 rfl (lv_at hl 0 rfl) ?_
          refine lv_imul hx hb dX11_deedOf_96 ?_
          refine lv_iconst (v := (4 : Int32)) hx hb dX11_deedOf_97 (by decide) ?_
          refine lv_iadd hx hb dX11_deedOf_98 ?_
          refine lv_iload_n hx hb dX11_deedOf_99 rfl (lv_at hl 2 rfl) ?_
          refine lv_iadd hx hb dX11_deedOf_100 ?_
          refine lv_goto (tgt := 121) hx hb dX11_deedOf_101 (by decide) ?_
          exact ret _ _ _ dX11_deedOf_121 ((show narrow _ (.int ((((7 : Int32) * x1) + (4 : Int32)) + x3)) = .int ((((7 : Int32) * x1) + (4 : Int32)) + x3) from rfl).trans (congrArg Value.int (Option.some.inj hev)))
      · replace hev := x_t c2 hev
        refine lv_bipush (v := (7 : Int32)) hx hb dX11_deedOf_79 (by decide) ?_
        refine lv_iload_n hx hb dX11_deedOf_81 rfl (lv_at hl 0 rfl) ?_
        refine lv_imul hx hb dX11_deedOf_82 ?_
        refine lv_iconst (v := (3 : Int32)) hx hb dX11_deedOf_83 (by decide) ?_
        refine lv_iadd hx hb dX11_deedOf_84 ?_
        refine lv_goto (tgt := 121) hx hb dX11_deedOf_85 (by decide) ?_
        exact ret _ _ _ dX11_deedOf_121 ((show narrow _ (.int (((7 : Int32) * x1) + (3 : Int32))) = .int (((7 : Int32) * x1) + (3 : Int32)) from rfl).trans (congrArg Value.int (Option.some.inj hev)))
    · replace hev := x_t c1 hev
      refine lv_bipush (v := (7 : Int32)) hx hb dX11_deedOf_65 (by decide) ?_
      refine lv_iload_n hx hb dX11_deedOf_67 rfl (lv_at hl 0 rfl) ?_
      refine lv_imul hx hb dX11_deedOf_68 ?_
      refine lv_iload_n hx hb dX11_deedOf_69 rfl (lv_at hl 2 rfl) ?_
      refine lv_iadd hx hb dX11_deedOf_70 ?_
      refine lv_goto (tgt := 121) hx hb dX11_deedOf_71 (by decide) ?_
      exact ret _ _ _ dX11_deedOf_121 ((show narrow _ (.int (((7 : Int32) * x1) + x3)) = .int (((7 : Int32) * x1) + x3) from rfl).trans (congrArg Value.int (Option.some.inj hev)))
  have J43 : ∀ (x1 : Int32) (x2 : Int32) (x3 : Int32), ∀ (ls : Array Slot), f_Mo_deedOf_J43 vT_people x1 x2 x3 = some rs → lv_has ls 4 [(1, .int x1), (2, .int x2), (3, .int x3)] → W p l e R s m ar below meth c H [] 0 0 Q (F0 m 43 ls []) := by
    intro x1 x2 x3 ls hev hl
    unfold f_Mo_deedOf_J43 at hev
    refine lv_iload_n hx hb dX11_deedOf_43 rfl (lv_at hl 1 rfl) ?_
    refine lv_iconst (v := (2 : Int32)) hx hb dX11_deedOf_44 (by decide) ?_
    refine lv_icmp_ne (tgt := 61) hx hb dX11_deedOf_45 (by decide) (fun c5 => ?_) (fun c5 => ?_)
    · replace hev := x_f c5 hev
      exact J61 x1 x2 x3 ls hev (lv_sub hl [0, 1, 2] rfl)
    · replace hev := x_t c5 hev
      refine lv_iload_n hx hb dX11_deedOf_48 rfl (lv_at hl 2 rfl) ?_
      refine lv_i2l hx hb dX11_deedOf_49 rfl ?_
      refine lv_lconst (v := (0 : Int64)) hx hb dX11_deedOf_50 (by decide) ?_
      refine lv_lconst (v := (1 : Int64)) hx hb dX11_deedOf_51 (by decide) ?_
      obtain ⟨y6, hq, hev⟩ := x_bd hev
      refine roS X hKK hR (st1 := [.int y6]) (c_Mo_in l G ((x3).toInt64) (0 : Int64) (1 : Int64) y6 hq) K_X11_in u1196 (x_Psub hP [] rfl) (by decide) ⟨Nat.zero_le _, Nat.zero_le _⟩ rfl hl.1 rfl (Nat.le_of_ble_eq_true rfl) rfl dX11_deedOf_52 ?_
      refine lv_if_ne (tgt := 61) hx hb dX11_deedOf_55 (by decide) (fun c7 => ?_) (fun c7 => ?_)
      · replace hev := x_f c7 hev
        exact J61 x1 x2 x3 ls hev (lv_sub hl [0, 1, 2] rfl)
      · replace hev := x_t c7 hev
        refine lv_bipush (v := (-2 : Int32)) hx hb dX11_deedOf_58 (by decide) ?_
        exact ret _ _ _ dX11_deedOf_60 ((show narrow _ (.int (-2 : Int32)) = .int (-2 : Int32) from rfl).trans (congrArg Value.int (Option.some.inj hev)))
  unfold f_Mo_deedOf at hev
  refine lv_aload_n hx hb dX11_deedOf_0 rfl (lv_at hl 0 rfl) ?_
  refine lv_iload_n hx hb dX11_deedOf_1 rfl (lv_at hl 1 rfl) ?_
  obtain ⟨y8, hq, hev⟩ := x_bd hev
  refine roV X hKK hR (st1 := [.int y8]) (c_Mo_isPerson l G aT aT_text aT_read aT_spells aT_pasts aT_keptStates aT_keptDeeds aT_isKept aT_fars aT_queue aT_later aT_onWay aT_row aT_princes aT_tries vT_length vT_readMany vT_people vT_toldDay vT_toldBroken vT_many vT_now vT_deeds vT_pastMany vT_at vT_place vT_end vT_readPeople vT_readSpells vT_lifted vT_queued vT_laterMany vT_rowMany vT_princeMany vT_triedMany p1 y8 hq) K_X11_isPerson u1278 (x_Psub hP [0] rfl) rfl (q0 := 0) rfl (by decide) ⟨Nat.zero_le _, Nat.zero_le _⟩ rfl hl.1 rfl (Nat.le_of_ble_eq_true rfl) rfl dX11_deedOf_2 ?_
  refine lv_if_ne (tgt := 11) hx hb dX11_deedOf_5 (by decide) (fun c9 => ?_) (fun c9 => ?_)
  · replace hev := x_f c9 hev
    refine lv_iload_n hx hb dX11_deedOf_11 rfl (lv_at hl 2 rfl) ?_
    refine lv_i2l hx hb dX11_deedOf_12 rfl ?_
    refine lv_lconst (v := (0 : Int64)) hx hb dX11_deedOf_13 (by decide) ?_
    refine lv_ldc2 (v := (4 : Int64)) hx hb hown (hw _ u1237) dX11_deedOf_14 ?_
    obtain ⟨y10, hq, hev⟩ := x_bd hev
    refine roS X hKK hR (st1 := [.int y10]) (c_Mo_in l G ((p2).toInt64) (0 : Int64) (4 : Int64) y10 hq) K_X11_in u1196 (x_Psub hP [] rfl) (by decide) ⟨Nat.zero_le _, Nat.zero_le _⟩ rfl hl.1 rfl (Nat.le_of_ble_eq_true rfl) rfl dX11_deedOf_17 ?_
    refine lv_if_ne (tgt := 26) hx hb dX11_deedOf_20 (by decide) (fun c11 => ?_) (fun c11 => ?_)
    · replace hev := x_f c11 hev
      refine lv_iload_n hx hb dX11_deedOf_26 rfl (lv_at hl 2 rfl) ?_
      refine lv_if_ne (tgt := 43) hx hb dX11_deedOf_27 (by decide) (fun c12 => ?_) (fun c12 => ?_)
      · replace hev := x_f c12 hev
        exact J43 p1 p2 p3 ls hev (lv_sub hl [1, 2, 3] rfl)
      · replace hev := x_t c12 hev
        refine lv_aload_n hx hb dX11_deedOf_30 rfl (lv_at hl 0 rfl) ?_
        refine lv_iload_n hx hb dX11_deedOf_31 rfl (lv_at hl 3 rfl) ?_
        obtain ⟨y13, hq, hev⟩ := x_bd hev
        refine roV X hKK hR (st1 := [.int y13]) (c_Mo_isPerson l G aT aT_text aT_read aT_spells aT_pasts aT_keptStates aT_keptDeeds aT_isKept aT_fars aT_queue aT_later aT_onWay aT_row aT_princes aT_tries vT_length vT_readMany vT_people vT_toldDay vT_toldBroken vT_many vT_now vT_deeds vT_pastMany vT_at vT_place vT_end vT_readPeople vT_readSpells vT_lifted vT_queued vT_laterMany vT_rowMany vT_princeMany vT_triedMany p3 y13 hq) K_X11_isPerson u1278 (x_Psub hP [0] rfl) rfl (q0 := 0) rfl (by decide) ⟨Nat.zero_le _, Nat.zero_le _⟩ rfl hl.1 rfl (Nat.le_of_ble_eq_true rfl) rfl dX11_deedOf_32 ?_
        refine lv_if_eq (tgt := 58) hx hb dX11_deedOf_35 (by decide) (fun c14 => ?_) (fun c14 => ?_)
        · replace hev := x_t c14 hev
          refine lv_bipush (v := (-2 : Int32)) hx hb dX11_deedOf_58 (by decide) ?_
          exact ret _ _ _ dX11_deedOf_60 ((show narrow _ (.int (-2 : Int32)) = .int (-2 : Int32) from rfl).trans (congrArg Value.int (Option.some.inj hev)))
        · replace hev := x_f c14 hev
          refine lv_iload_n hx hb dX11_deedOf_38 rfl (lv_at hl 3 rfl) ?_
          refine lv_iload_n hx hb dX11_deedOf_39 rfl (lv_at hl 1 rfl) ?_
          refine lv_icmp_eq (tgt := 58) hx hb dX11_deedOf_40 (by decide) (fun c15 => ?_) (fun c15 => ?_)
          · replace hev := x_t c15 hev
            refine lv_bipush (v := (-2 : Int32)) hx hb dX11_deedOf_58 (by decide) ?_
            exact ret _ _ _ dX11_deedOf_60 ((show narrow _ (.int (-2 : Int32)) = .int (-2 : Int32) from rfl).trans (congrArg Value.int (Option.some.inj hev)))
          · replace hev := x_f c15 hev
            exact J43 p1 p2 p3 ls hev (lv_sub hl [1, 2, 3] rfl)
    · replace hev := x_t c11 hev
      refine lv_bipush (v := (-3 : Int32)) hx hb dX11_deedOf_23 (by decide) ?_
      exact ret _ _ _ dX11_deedOf_25 ((show narrow _ (.int (-3 : Int32)) = .int (-3 : Int32) from rfl).trans (congrArg Value.int (Option.some.inj hev)))
  · replace hev := x_t c9 hev
    refine lv_bipush (v := (-2 : Int32)) hx hb dX11_deedOf_8 (by decide) ?_
    exact ret _ _ _ dX11_deedOf_10 ((show narrow _ (.int (-2 : Int32)) = .int (-2 : Int32) from rfl).trans (congrArg Value.int (Option.some.inj hev)))
def f_Mo_can (k : Nat) (vT_many : Int32) (vT_now : Int32) (vT_people : Int32) (fT_spells : Nat → Int32) (p1 : Int32) (p2 : Int32) (p3 : Int32) : Option (Int32) := x_B (f_Mo_deedOf vT_people p1 p2 p3) (fun y1 => if 0 ≤ y1 then (x_B (f_Mo_canDo k vT_many vT_people fT_spells vT_now y1) (fun y3 => if y3 = 0 then (some (0 : Int32)) else some (1 : Int32))) else some y1)
set_option maxHeartbeats 8000000 in
set_option maxRecDepth 100000 in
theorem c_Mo_can (l : Launch) (G : GG) (aT aT_text aT_read aT_spells aT_pasts aT_keptStates aT_keptDeeds aT_isKept aT_fars aT_queue aT_later aT_onWay aT_row aT_princes aT_tries : Nat) (vT_length : Int32) (vT_readMany : Int32) (vT_people : Int32) (vT_toldDay : Int32) (vT_toldBroken : Int32) (vT_many : Int32) (vT_now : Int32) (vT_deeds : Int32) (vT_pastMany : Int32) (vT_at : Int32) (vT_place : Int32) (vT_end : Int32) (vT_readPeople : Int32) (vT_readSpells : Int32) (vT_lifted : Int32) (vT_queued : Int32) (vT_laterMany : Int32) (vT_rowMany : Int32) (vT_princeMany : Int32) (vT_triedMany : Int32) (fT_spells : Nat → Int32) (k : Nat) (p1 : Int32) (p2 : Int32) (p3 : Int32) (r0 : Int32) (hev : f_Mo_can k vT_many vT_now vT_people fT_spells p1 p2 p3 = some r0) : RO l G yX11_can cX11_can 5 (some .int) 3 [.ref aT, .int p1, .int p2, .int p3] [(aT, .inr (7, [.ref aT_text, .int vT_length, .ref aT_read, .int vT_readMany, .int vT_people, .int vT_toldDay, .int vT_toldBroken, .ref aT_spells, .int vT_many, .int vT_now, .int vT_deeds, .ref aT_pasts, .int vT_pastMany, .ref aT_keptStates, .ref aT_keptDeeds, .ref aT_isKept, .int vT_at, .int vT_place, .int vT_end, .int vT_readPeople, .int vT_readSpells, .int vT_lifted, .ref aT_fars, .ref aT_queue, .int vT_queued, .ref aT_later, .int vT_laterMany, .ref aT_onWay, .ref aT_row, .int vT_rowMany, .ref aT_princes, .int vT_princeMany, .ref aT_tries, .int vT_triedMany])), (aT_spells, .inl (G.2.1, 50, .inl fT_spells))] (some (.int r0)) := by
  refine RO_of (by decide) (Nat.le_of_ble_eq_true rfl) ?_
  intro p e s m ar below meth c R Q H ls X hR hP hKK hS0 hl ret
  generalize hrs : r0 = rs at hev ret
  have hl : lv_has ls 5 [(0, .ref aT), (1, .int p1), (2, .int p2), (3, .int p3)] := hl
  obtain ⟨hx, hb, hml, hown, hts, hT⟩ := id X
  have hK := hKK.1
  have hw : ∀ w ∈ T0, w.before ar s = true := fun w h => hts w (hT w h)
  have i11 := fun w h => hT w (inT11 w h)
  unfold f_Mo_can at hev
  refine lv_aload_n hx hb dX11_can_0 rfl (lv_at hl 0 rfl) ?_
  refine lv_iload_n hx hb dX11_can_1 rfl (lv_at hl 1 rfl) ?_
  refine lv_iload_n hx hb dX11_can_2 rfl (lv_at hl 2 rfl) ?_
  refine lv_iload_n hx hb dX11_can_3 rfl (lv_at hl 3 rfl) ?_
  obtain ⟨y1, hq, hev⟩ := x_bd hev
  refine roV X hKK hR (st1 := [.int y1]) (c_Mo_deedOf l G aT aT_text aT_read aT_spells aT_pasts aT_keptStates aT_keptDeeds aT_isKept aT_fars aT_queue aT_later aT_onWay aT_row aT_princes aT_tries vT_length vT_readMany vT_people vT_toldDay vT_toldBroken vT_many vT_now vT_deeds vT_pastMany vT_at vT_place vT_end vT_readPeople vT_readSpells vT_lifted vT_queued vT_laterMany vT_rowMany vT_princeMany vT_triedMany p1 p2 p3 y1 hq) K_X11_deedOf u1341 (x_Psub hP [0] rfl) rfl (q0 := 0) rfl (by decide) ⟨Nat.zero_le _, Nat.zero_le _⟩ rfl hl.1 rfl (Nat.le_of_ble_eq_true rfl) rfl dX11_can_4 ?_
  refine lv_istore (lv' := [(4, .int y1), (0, .ref aT), (1, .int p1), (2, .int p2), (3, .int p3)]) hx hb dX11_can_7 hl (by decide) rfl (fun ls hl => ?_)
  refine lv_iload hx hb dX11_can_9 (lv_at hl 0 rfl) ?_
  refine lv_if_ge (tgt := 19) hx hb dX11_can_11 (by decide) (fun c2 => ?_) (fun c2 => ?_)
  · replace hev := x_t c2 hev
    refine lv_aload_n hx hb dX11_can_19 rfl (lv_at hl 1 rfl) ?_
    refine lv_aload_n hx hb dX11_can_20 rfl (lv_at hl 1 rfl) ?_
    refine va_get (D := G.1) (ci := 7) (v := .int vT_now) (C := RX11) (T := TX11) (N := 34) hx hb hts i11 hown hK hP 0 rfl rfl 9 (by decide) (hw _ u1096) (fun _ h9 => h9) rfl dX11_can_21 ?_
    refine lv_iload hx hb dX11_can_24 (lv_at hl 0 rfl) ?_
    obtain ⟨y3, hq, hev⟩ := x_bd hev
    refine roV X hKK hR (st1 := [.int y3]) (c_Mo_canDo l G aT aT_text aT_read aT_spells aT_pasts aT_keptStates aT_keptDeeds aT_isKept aT_fars aT_queue aT_later aT_onWay aT_row aT_princes aT_tries vT_length vT_readMany vT_people vT_toldDay vT_toldBroken vT_many vT_now vT_deeds vT_pastMany vT_at vT_place vT_end vT_readPeople vT_readSpells vT_lifted vT_queued vT_laterMany vT_rowMany vT_princeMany vT_triedMany fT_spells k vT_now y1 y3 hq) K_X11_canDo u1345 (x_Psub hP [0, 1] rfl) rfl (q0 := 0) rfl (by decide) ⟨Nat.zero_le _, Nat.zero_le _⟩ rfl hl.1 rfl (Nat.le_of_ble_eq_true rfl) rfl dX11_can_26 ?_
    refine lv_if_eq (tgt := 36) hx hb dX11_can_29 (by decide) (fun c4 => ?_) (fun c4 => ?_)
    · replace hev := x_t c4 hev
      refine lv_iconst (v := (0 : Int32)) hx hb dX11_can_36 (by decide) ?_
      exact ret _ _ _ dX11_can_37 ((show narrow _ (.int (0 : Int32)) = .int (0 : Int32) from rfl).trans (congrArg Value.int (Option.some.inj hev)))
    · replace hev := x_f c4 hev
      refine lv_iconst (v := (1 : Int32)) hx hb dX11_can_32 (by decide) ?_
      refine lv_goto (tgt := 37) hx hb dX11_can_33 (by decide) ?_
      exact ret _ _ _ dX11_can_37 ((show narrow _ (.int (1 : Int32)) = .int (1 : Int32) from rfl).trans (congrArg Value.int (Option.some.inj hev)))
  · replace hev := x_f c2 hev
    refine lv_iload hx hb dX11_can_14 (lv_at hl 0 rfl) ?_
    refine lv_goto (tgt := 37) hx hb dX11_can_16 (by decide) ?_
    exact ret _ _ _ dX11_can_37 ((show narrow _ (.int y1) = .int y1 from rfl).trans (congrArg Value.int (Option.some.inj hev)))
def f_Mo_act_J106 (k : Nat) (vT_deeds : Int32) (vT_lifted : Int32) (vT_many : Int32) (vT_now : Int32) (vT_pastMany : Int32) (vT_people : Int32) (fT_pasts : Nat → Int32) (fT_spells : Nat → Int32) (x4 : Int32) (s0 : Int32) (s1 : Int32) : Option (Int32 × Int32 × Int32 × Int32 × Int32 × (Nat → Int32)) := x_L ((s1 - s0)) (fun y1 => x_C 8 y1 (x_L ((y1 + (1 : Int32))) (fun y3 => x_B (f_Mo_behind k vT_lifted vT_many fT_spells vT_now x4) (fun ⟨y4, w5⟩ => x_L ((vT_deeds + (1 : Int32))) (fun y6 => some (w5, y6, w5, y4, y3, (upd fT_pasts (y1).toNatClampNeg vT_now)))))))
def f_Mo_act_J87 (k : Nat) (vT_deeds : Int32) (vT_lifted : Int32) (vT_many : Int32) (vT_now : Int32) (vT_pastMany : Int32) (vT_people : Int32) (fT_pasts : Nat → Int32) (fT_spells : Nat → Int32) (x4 : Int32) : Option (Int32 × Int32 × Int32 × Int32 × Int32 × (Nat → Int32)) := if vT_pastMany = (8 : Int32) then (f_Mo_act_J106 k vT_deeds vT_lifted vT_many vT_now vT_pastMany vT_people fT_pasts fT_spells x4 (1 : Int32) vT_pastMany) else f_Mo_act_J106 k vT_deeds vT_lifted vT_many vT_now vT_pastMany vT_people fT_pasts fT_spells x4 (0 : Int32) vT_pastMany
def f_Mo_act_L49 (vT_deeds : Int32) (vT_lifted : Int32) (vT_many : Int32) (vT_now : Int32) (vT_pastMany : Int32) (vT_people : Int32) (fT_spells : Nat → Int32) (x4 : Int32) : Nat → Int32 → (Nat → Int32) → Option ((Nat → Int32))
  | 0, _, _ => none
  | k + 1, x5, fT_pasts => if (7 : Int32) ≤ x5 then (some fT_pasts) else if vT_pastMany = (8 : Int32) then (x_L ((x5 + (1 : Int32))) (fun y15 => x_I 8 fT_pasts y15 (fun v17 => x_C 8 x5 (x_L (x5 + (1 : Int32)) (fun y19 => (f_Mo_act_L49 vT_deeds vT_lifted vT_many vT_now vT_pastMany vT_people fT_spells x4 k) y19 (upd fT_pasts (x5).toNatClampNeg v17)))))) else some fT_pasts
def f_Mo_act (k : Nat) (vT_deeds : Int32) (vT_lifted : Int32) (vT_many : Int32) (vT_now : Int32) (vT_pastMany : Int32) (vT_people : Int32) (fT_pasts : Nat → Int32) (fT_spells : Nat → Int32) (p1 : Int32) (p2 : Int32) (p3 : Int32) : Option (Int32 × Int32 × Int32 × Int32 × Int32 × (Nat → Int32)) := x_B (f_Mo_deedOf vT_people p1 p2 p3) (fun y8 => if 0 ≤ y8 then (x_B (f_Mo_canDo k vT_many vT_people fT_spells vT_now y8) (fun y10 => if y10 = 0 then (some ((-4 : Int32), vT_deeds, vT_lifted, vT_now, vT_pastMany, fT_pasts)) else if vT_deeds = (9999 : Int32) then (some ((-5 : Int32), vT_deeds, vT_lifted, vT_now, vT_pastMany, fT_pasts)) else x_B (f_Mo_act_L49 vT_deeds vT_lifted vT_many vT_now vT_pastMany vT_people fT_spells y8 k (0 : Int32) fT_pasts) (fun w20 => f_Mo_act_J87 k vT_deeds vT_lifted vT_many vT_now vT_pastMany vT_people w20 fT_spells y8))) else some (y8, vT_deeds, vT_lifted, vT_now, vT_pastMany, fT_pasts))
set_option maxHeartbeats 8000000 in
set_option maxRecDepth 100000 in
theorem c_Mo_act (l : Launch) (G : GG) (aT aT_text aT_read aT_spells aT_pasts aT_keptStates aT_keptDeeds aT_isKept aT_fars aT_queue aT_later aT_onWay aT_row aT_princes aT_tries : Nat) (vT_length : Int32) (vT_readMany : Int32) (vT_people : Int32) (vT_toldDay : Int32) (vT_toldBroken : Int32) (vT_many : Int32) (vT_now : Int32) (vT_deeds : Int32) (vT_pastMany : Int32) (vT_at : Int32) (vT_place : Int32) (vT_end : Int32) (vT_readPeople : Int32) (vT_readSpells : Int32) (vT_lifted : Int32) (vT_queued : Int32) (vT_laterMany : Int32) (vT_rowMany : Int32) (vT_princeMany : Int32) (vT_triedMany : Int32) (fT_spells : Nat → Int32) (fT_pasts : Nat → Int32) (k : Nat) (p1 : Int32) (p2 : Int32) (p3 : Int32) (r0 : Int32) (wvT_deeds : Int32) (wvT_lifted : Int32) (wvT_now : Int32) (wvT_pastMany : Int32) (wfT_pasts : Nat → Int32) (hev : f_Mo_act k vT_deeds vT_lifted vT_many vT_now vT_pastMany vT_people fT_pasts fT_spells p1 p2 p3 = some (r0, wvT_deeds, wvT_lifted, wvT_now, wvT_pastMany, wfT_pasts)) : RW l G yX11_act cX11_act 6 (some .int) 4 [.ref aT, .int p1, .int p2, .int p3] [(aT, .inr (7, [.ref aT_text, .int vT_length, .ref aT_read, .int vT_readMany, .int vT_people, .int vT_toldDay, .int vT_toldBroken, .ref aT_spells, .int vT_many, .int vT_now, .int vT_deeds, .ref aT_pasts, .int vT_pastMany, .ref aT_keptStates, .ref aT_keptDeeds, .ref aT_isKept, .int vT_at, .int vT_place, .int vT_end, .int vT_readPeople, .int vT_readSpells, .int vT_lifted, .ref aT_fars, .ref aT_queue, .int vT_queued, .ref aT_later, .int vT_laterMany, .ref aT_onWay, .ref aT_row, .int vT_rowMany, .ref aT_princes, .int vT_princeMany, .ref aT_tries, .int vT_triedMany])), (aT_spells, .inl (G.2.1, 50, .inl fT_spells)), (aT_pasts, .inl (G.2.1, 8, .inl fT_pasts))] (some (.int r0)) [(aT, .inr (7, [.ref aT_text, .int vT_length, .ref aT_read, .int vT_readMany, .int vT_people, .int vT_toldDay, .int vT_toldBroken, .ref aT_spells, .int vT_many, .int wvT_now, .int wvT_deeds, .ref aT_pasts, .int wvT_pastMany, .ref aT_keptStates, .ref aT_keptDeeds, .ref aT_isKept, .int vT_at, .int vT_place, .int vT_end, .int vT_readPeople, .int vT_readSpells, .int wvT_lifted, .ref aT_fars, .ref aT_queue, .int vT_queued, .ref aT_later, .int vT_laterMany, .ref aT_onWay, .ref aT_row, .int vT_rowMany, .ref aT_princes, .int vT_princeMany, .ref aT_tries, .int vT_triedMany])), (aT_spells, .inl (G.2.1, 50, .inl fT_spells)), (aT_pasts, .inl (G.2.1, 8, .inl wfT_pasts))] 0 0 := by
  refine RW_of (by decide) (Nat.le_of_ble_eq_true rfl) ?_
  intro p e s m ar below meth c R Q A ls X hR hRc hin hP hKK hD hS hA hAb hl ret
  obtain ⟨rs, hrs⟩ : ∃ q, q = (r0, wvT_deeds, wvT_lifted, wvT_now, wvT_pastMany, wfT_pasts) := ⟨_, rfl⟩
  rw [← hrs] at hev
  have ret2 : ∀ (pc : Nat) (ls : Array Slot) (H : Heap) (lo : List Loc) (v r1 : Int32) (zvT_deeds : Int32) (zvT_lifted : Int32) (zvT_now : Int32) (zvT_pastMany : Int32) (zfT_pasts : Nat → Int32), (r1, zvT_deeds, zvT_lifted, zvT_now, zvT_pastMany, zfT_pasts) = rs → decode cX11_act pc = .ok (.ireturn, 1) → narrow .int (.int v) = .int r1 → va_P G.1 classes [(aT, .inr (7, [.ref aT_text, .int vT_length, .ref aT_read, .int vT_readMany, .int vT_people, .int vT_toldDay, .int vT_toldBroken, .ref aT_spells, .int vT_many, .int zvT_now, .int zvT_deeds, .ref aT_pasts, .int zvT_pastMany, .ref aT_keptStates, .ref aT_keptDeeds, .ref aT_isKept, .int vT_at, .int vT_place, .int vT_end, .int vT_readPeople, .int vT_readSpells, .int zvT_lifted, .ref aT_fars, .ref aT_queue, .int vT_queued, .ref aT_later, .int vT_laterMany, .ref aT_onWay, .ref aT_row, .int vT_rowMany, .ref aT_princes, .int vT_princeMany, .ref aT_tries, .int vT_triedMany])), (aT_spells, .inl (G.2.1, 50, .inl fT_spells)), (aT_pasts, .inl (G.2.1, 8, .inl zfT_pasts))] H → va_D A [(aT, .inr (7, [.ref aT_text, .int vT_length, .ref aT_read, .int vT_readMany, .int vT_people, .int vT_toldDay, .int vT_toldBroken, .ref aT_spells, .int vT_many, .int zvT_now, .int zvT_deeds, .ref aT_pasts, .int zvT_pastMany, .ref aT_keptStates, .ref aT_keptDeeds, .ref aT_isKept, .int vT_at, .int vT_place, .int vT_end, .int vT_readPeople, .int vT_readSpells, .int zvT_lifted, .ref aT_fars, .ref aT_queue, .int vT_queued, .ref aT_later, .int vT_laterMany, .ref aT_onWay, .ref aT_row, .int vT_rowMany, .ref aT_princes, .int vT_princeMany, .ref aT_tries, .int vT_triedMany])), (aT_spells, .inl (G.2.1, 50, .inl fT_spells)), (aT_pasts, .inl (G.2.1, 8, .inl zfT_pasts))] → va_S A s.heap H lo → W p l e R s m ar below meth c H lo 0 0 Q (F0 m pc ls [.int v]) := by
    intro pc ls H lo v r1 zvT_deeds zvT_lifted zvT_now zvT_pastMany zfT_pasts he hd hn h1 h2 h3
    have he := he.trans hrs
    cases he
    exact ret.1 _ _ _ _ _ _ _ rfl rfl hd hn h1 h2 h3
  clear ret hrs
  have hl : lv_has ls 6 [(0, .ref aT), (1, .int p1), (2, .int p2), (3, .int p3)] := hl
  obtain ⟨hx, hb, hml, hown, hts, hT⟩ := id X
  have hK := hKK.1
  have hw : ∀ w ∈ T0, w.before ar s = true := fun w h => hts w (hT w h)
  have i11 := fun w h => hT w (inT11 w h)
  have J106 : ∀ (vT_deeds : Int32) (vT_lifted : Int32) (vT_now : Int32) (vT_pastMany : Int32) (fT_pasts : Nat → Int32) (x4 : Int32) (s0 : Int32) (s1 : Int32), ∀ (H : Heap) (lo : List Loc), va_P G.1 classes [(aT, .inr (7, [.ref aT_text, .int vT_length, .ref aT_read, .int vT_readMany, .int vT_people, .int vT_toldDay, .int vT_toldBroken, .ref aT_spells, .int vT_many, .int vT_now, .int vT_deeds, .ref aT_pasts, .int vT_pastMany, .ref aT_keptStates, .ref aT_keptDeeds, .ref aT_isKept, .int vT_at, .int vT_place, .int vT_end, .int vT_readPeople, .int vT_readSpells, .int vT_lifted, .ref aT_fars, .ref aT_queue, .int vT_queued, .ref aT_later, .int vT_laterMany, .ref aT_onWay, .ref aT_row, .int vT_rowMany, .ref aT_princes, .int vT_princeMany, .ref aT_tries, .int vT_triedMany])), (aT_spells, .inl (G.2.1, 50, .inl fT_spells)), (aT_pasts, .inl (G.2.1, 8, .inl fT_pasts))] H → va_D A [(aT, .inr (7, [.ref aT_text, .int vT_length, .ref aT_read, .int vT_readMany, .int vT_people, .int vT_toldDay, .int vT_toldBroken, .ref aT_spells, .int vT_many, .int vT_now, .int vT_deeds, .ref aT_pasts, .int vT_pastMany, .ref aT_keptStates, .ref aT_keptDeeds, .ref aT_isKept, .int vT_at, .int vT_place, .int vT_end, .int vT_readPeople, .int vT_readSpells, .int vT_lifted, .ref aT_fars, .ref aT_queue, .int vT_queued, .ref aT_later, .int vT_laterMany, .ref aT_onWay, .ref aT_row, .int vT_rowMany, .ref aT_princes, .int vT_princeMany, .ref aT_tries, .int vT_triedMany])), (aT_spells, .inl (G.2.1, 50, .inl fT_spells)), (aT_pasts, .inl (G.2.1, 8, .inl fT_pasts))] → va_S A s.heap H lo → ∀ (ls : Array Slot), f_Mo_act_J106 k vT_deeds vT_lifted vT_many vT_now vT_pastMany vT_people fT_pasts fT_spells x4 s0 s1 = some rs → lv_has ls 6 [(0, .ref aT), (4, .int x4)] → W p l e R s m ar below meth c H lo 0 0 Q (F0 m 106 ls [.int s0, .int s1, .ref aT]) := by
    intro vT_deeds vT_lifted vT_now vT_pastMany fT_pasts x4 s0 s1 H lo hP hD hS ls hev hl
    unfold f_Mo_act_J106 at hev
    refine lv_isub hx hb dX11_act_106 ?_
    refine lv_topi (fun y1 ey1 => ?_)
    replace hev := x_lt hev y1 ey1
    refine va_put (D := G.1) (ci := 7) (v := .int y1) (ty := .int) (C := RX11) (T := TX11) (N := 34) hx hb hts i11 tyX11 tyX11_ok nmX11 hown hK hP hD hS 0 rfl rfl 12 (by decide) (hw _ u1099) (fun _ h9 => h9) rfl (by decide +kernel) rfl rfl (Nat.le_of_ble_eq_true rfl) dX11_act_107 (fun H lo hP hD hS => ?_)
    refine lv_aload_n hx hb dX11_act_110 rfl (lv_at hl 0 rfl) ?_
    refine va_get (D := G.1) (ci := 7) (v := .ref aT_pasts) (C := RX11) (T := TX11) (N := 34) hx hb hts i11 hown hK hP 0 rfl rfl 11 (by decide) (hw _ u1098) (fun _ h9 => h9) rfl dX11_act_111 ?_
    refine lv_aload_n hx hb dX11_act_114 rfl (lv_at hl 0 rfl) ?_
    refine va_get (D := G.1) (ci := 7) (v := .int y1) (C := RX11) (T := TX11) (N := 34) hx hb hts i11 hown hK hP 0 rfl rfl 12 (by decide) (hw _ u1099) (fun _ h9 => h9) rfl dX11_act_115 ?_
    refine lv_aload_n hx hb dX11_act_118 rfl (lv_at hl 0 rfl) ?_
    refine va_get (D := G.1) (ci := 7) (v := .int vT_now) (C := RX11) (T := TX11) (N := 34) hx hb hts i11 hown hK hP 0 rfl rfl 9 (by decide) (hw _ u1096) (fun _ h9 => h9) rfl dX11_act_119 ?_
    obtain ⟨h2, hev⟩ := x_ck hev
    refine va_iast hx hb hK hP hD hS 2 0 rfl rfl h2 dX11_act_122 (fun H lo hP hD hS => ?_)
    refine lv_aload_n hx hb dX11_act_123 rfl (lv_at hl 0 rfl) ?_
    refine lv_dup hx hb dX11_act_124 rfl ?_
    refine va_get (D := G.1) (ci := 7) (v := .int y1) (C := RX11) (T := TX11) (N := 34) hx hb hts i11 hown hK hP 0 rfl rfl 12 (by decide) (hw _ u1099) (fun _ h9 => h9) rfl dX11_act_125 ?_
    refine lv_iconst (v := (1 : Int32)) hx hb dX11_act_128 (by decide) ?_
    refine lv_iadd hx hb dX11_act_129 ?_
    refine lv_topi (fun y3 ey3 => ?_)
    replace hev := x_lt hev y3 ey3
    refine va_put (D := G.1) (ci := 7) (v := .int y3) (ty := .int) (C := RX11) (T := TX11) (N := 34) hx hb hts i11 tyX11 tyX11_ok nmX11 hown hK hP hD hS 0 rfl rfl 12 (by decide) (hw _ u1099) (fun _ h9 => h9) rfl (by decide +kernel) rfl rfl (Nat.le_of_ble_eq_true rfl) dX11_act_130 (fun H lo hP hD hS => ?_)
    refine lv_aload_n hx hb dX11_act_133 rfl (lv_at hl 0 rfl) ?_
    refine lv_aload_n hx hb dX11_act_134 rfl (lv_at hl 0 rfl) ?_
    refine lv_aload_n hx hb dX11_act_135 rfl (lv_at hl 0 rfl) ?_
    refine va_get (D := G.1) (ci := 7) (v := .int vT_now) (C := RX11) (T := TX11) (N := 34) hx hb hts i11 hown hK hP 0 rfl rfl 9 (by decide) (hw _ u1096) (fun _ h9 => h9) rfl dX11_act_136 ?_
    refine lv_iload hx hb dX11_act_139 (lv_at hl 1 rfl) ?_
    obtain ⟨⟨y4, w5⟩, hq, hev⟩ := x_bd hev
    refine rgV X (KK_at hKK hS hAb) hR (st1 := [.int y4, .ref aT]) (ws2 := [(aT, .inr (7, [.ref aT_text, .int vT_length, .ref aT_read, .int vT_readMany, .int vT_people, .int vT_toldDay, .int vT_toldBroken, .ref aT_spells, .int vT_many, .int vT_now, .int vT_deeds, .ref aT_pasts, .int y3, .ref aT_keptStates, .ref aT_keptDeeds, .ref aT_isKept, .int vT_at, .int vT_place, .int vT_end, .int vT_readPeople, .int vT_readSpells, .int w5, .ref aT_fars, .ref aT_queue, .int vT_queued, .ref aT_later, .int vT_laterMany, .ref aT_onWay, .ref aT_row, .int vT_rowMany, .ref aT_princes, .int vT_princeMany, .ref aT_tries, .int vT_triedMany])), (aT_spells, .inl (G.2.1, 50, .inl fT_spells)), (aT_pasts, .inl (G.2.1, 8, .inl (upd fT_pasts (y1).toNatClampNeg vT_now)))]) (c_Mo_behind l G aT aT_text aT_read aT_spells aT_pasts aT_keptStates aT_keptDeeds aT_isKept aT_fars aT_queue aT_later aT_onWay aT_row aT_princes aT_tries vT_length vT_readMany vT_people vT_toldDay vT_toldBroken vT_many vT_now vT_deeds y3 vT_at vT_place vT_end vT_readPeople vT_readSpells vT_lifted vT_queued vT_laterMany vT_rowMany vT_princeMany vT_triedMany fT_spells k vT_now x4 y4 w5 hq) K_X11_behind u1353 hP hD hS hA hAb [0, 1] rfl (sbC rfl (sbC rfl sb0)) (mgN 0 rfl rfl (mgN 1 rfl rfl (mgK (by decide) (mg0)))) rfl (q0 := 0) rfl (by decide) ⟨Nat.zero_le _, Nat.zero_le _⟩ rfl hl.1 rfl (Nat.le_of_ble_eq_true rfl) rfl dX11_act_141 (fun H lo hP hD hS => ?_)
    refine va_put (D := G.1) (ci := 7) (v := .int y4) (ty := .int) (C := RX11) (T := TX11) (N := 34) hx hb hts i11 tyX11 tyX11_ok nmX11 hown hK hP hD hS 0 rfl rfl 9 (by decide) (hw _ u1096) (fun _ h9 => h9) rfl (by decide +kernel) rfl rfl (Nat.le_of_ble_eq_true rfl) dX11_act_144 (fun H lo hP hD hS => ?_)
    refine lv_aload_n hx hb dX11_act_147 rfl (lv_at hl 0 rfl) ?_
    refine lv_dup hx hb dX11_act_148 rfl ?_
    refine va_get (D := G.1) (ci := 7) (v := .int vT_deeds) (C := RX11) (T := TX11) (N := 34) hx hb hts i11 hown hK hP 0 rfl rfl 10 (by decide) (hw _ u1097) (fun _ h9 => h9) rfl dX11_act_149 ?_
    refine lv_iconst (v := (1 : Int32)) hx hb dX11_act_152 (by decide) ?_
    refine lv_iadd hx hb dX11_act_153 ?_
    refine lv_topi (fun y6 ey6 => ?_)
    replace hev := x_lt hev y6 ey6
    refine va_put (D := G.1) (ci := 7) (v := .int y6) (ty := .int) (C := RX11) (T := TX11) (N := 34) hx hb hts i11 tyX11 tyX11_ok nmX11 hown hK hP hD hS 0 rfl rfl 10 (by decide) (hw _ u1097) (fun _ h9 => h9) rfl (by decide +kernel) rfl rfl (Nat.le_of_ble_eq_true rfl) dX11_act_154 (fun H lo hP hD hS => ?_)
    refine lv_aload_n hx hb dX11_act_157 rfl (lv_at hl 0 rfl) ?_
    refine va_get (D := G.1) (ci := 7) (v := .int w5) (C := RX11) (T := TX11) (N := 34) hx hb hts i11 hown hK hP 0 rfl rfl 21 (by decide) (hw _ u1108) (fun _ h9 => h9) rfl dX11_act_158 ?_
    exact ret2 _ _ _ _ w5 w5 y6 w5 y4 y3 (upd fT_pasts (y1).toNatClampNeg vT_now) (Option.some.inj hev) dX11_act_161 (show narrow _ (.int w5) = .int w5 from rfl) hP hD hS
  have J87 : ∀ (vT_deeds : Int32) (vT_lifted : Int32) (vT_now : Int32) (vT_pastMany : Int32) (fT_pasts : Nat → Int32) (x4 : Int32), ∀ (H : Heap) (lo : List Loc), va_P G.1 classes [(aT, .inr (7, [.ref aT_text, .int vT_length, .ref aT_read, .int vT_readMany, .int vT_people, .int vT_toldDay, .int vT_toldBroken, .ref aT_spells, .int vT_many, .int vT_now, .int vT_deeds, .ref aT_pasts, .int vT_pastMany, .ref aT_keptStates, .ref aT_keptDeeds, .ref aT_isKept, .int vT_at, .int vT_place, .int vT_end, .int vT_readPeople, .int vT_readSpells, .int vT_lifted, .ref aT_fars, .ref aT_queue, .int vT_queued, .ref aT_later, .int vT_laterMany, .ref aT_onWay, .ref aT_row, .int vT_rowMany, .ref aT_princes, .int vT_princeMany, .ref aT_tries, .int vT_triedMany])), (aT_spells, .inl (G.2.1, 50, .inl fT_spells)), (aT_pasts, .inl (G.2.1, 8, .inl fT_pasts))] H → va_D A [(aT, .inr (7, [.ref aT_text, .int vT_length, .ref aT_read, .int vT_readMany, .int vT_people, .int vT_toldDay, .int vT_toldBroken, .ref aT_spells, .int vT_many, .int vT_now, .int vT_deeds, .ref aT_pasts, .int vT_pastMany, .ref aT_keptStates, .ref aT_keptDeeds, .ref aT_isKept, .int vT_at, .int vT_place, .int vT_end, .int vT_readPeople, .int vT_readSpells, .int vT_lifted, .ref aT_fars, .ref aT_queue, .int vT_queued, .ref aT_later, .int vT_laterMany, .ref aT_onWay, .ref aT_row, .int vT_rowMany, .ref aT_princes, .int vT_princeMany, .ref aT_tries, .int vT_triedMany])), (aT_spells, .inl (G.2.1, 50, .inl fT_spells)), (aT_pasts, .inl (G.2.1, 8, .inl fT_pasts))] → va_S A s.heap H lo → ∀ (ls : Array Slot), f_Mo_act_J87 k vT_deeds vT_lifted vT_many vT_now vT_pastMany vT_people fT_pasts fT_spells x4 = some rs → lv_has ls 6 [(0, .ref aT), (4, .int x4)] → W p l e R s m ar below meth c H lo 0 0 Q (F0 m 87 ls []) := by
    intro vT_deeds vT_lifted vT_now vT_pastMany fT_pasts x4 H lo hP hD hS ls hev hl
    unfold f_Mo_act_J87 at hev
    refine lv_aload_n hx hb dX11_act_87 rfl (lv_at hl 0 rfl) ?_
    refine lv_dup hx hb dX11_act_88 rfl ?_
    refine va_get (D := G.1) (ci := 7) (v := .int vT_pastMany) (C := RX11) (T := TX11) (N := 34) hx hb hts i11 hown hK hP 0 rfl rfl 12 (by decide) (hw _ u1099) (fun _ h9 => h9) rfl dX11_act_89 ?_
    refine lv_aload_n hx hb dX11_act_92 rfl (lv_at hl 0 rfl) ?_
    refine va_get (D := G.1) (ci := 7) (v := .int vT_pastMany) (C := RX11) (T := TX11) (N := 34) hx hb hts i11 hown hK hP 0 rfl rfl 12 (by decide) (hw _ u1099) (fun _ h9 => h9) rfl dX11_act_93 ?_
    refine lv_bipush (v := (8 : Int32)) hx hb dX11_act_96 (by decide) ?_
    refine lv_icmp_ne (tgt := 105) hx hb dX11_act_98 (by decide) (fun c7 => ?_) (fun c7 => ?_)
    · replace hev := x_f c7 hev
      refine lv_iconst (v := (0 : Int32)) hx hb dX11_act_105 (by decide) ?_
      exact J106 vT_deeds vT_lifted vT_now vT_pastMany fT_pasts x4 (0 : Int32) vT_pastMany _ _ hP hD hS ls hev (lv_sub hl [0, 1] rfl)
    · replace hev := x_t c7 hev
      refine lv_iconst (v := (1 : Int32)) hx hb dX11_act_101 (by decide) ?_
      refine lv_goto (tgt := 106) hx hb dX11_act_102 (by decide) ?_
      exact J106 vT_deeds vT_lifted vT_now vT_pastMany fT_pasts x4 (1 : Int32) vT_pastMany _ _ hP hD hS ls hev (lv_sub hl [0, 1] rfl)
  unfold f_Mo_act at hev
  refine lv_aload_n hx hb dX11_act_0 rfl (lv_at hl 0 rfl) ?_
  refine lv_iload_n hx hb dX11_act_1 rfl (lv_at hl 1 rfl) ?_
  refine lv_iload_n hx hb dX11_act_2 rfl (lv_at hl 2 rfl) ?_
  refine lv_iload_n hx hb dX11_act_3 rfl (lv_at hl 3 rfl) ?_
  obtain ⟨y8, hq, hev⟩ := x_bd hev
  refine roV X (KK_at hKK hS hAb) hR (st1 := [.int y8]) (c_Mo_deedOf l G aT aT_text aT_read aT_spells aT_pasts aT_keptStates aT_keptDeeds aT_isKept aT_fars aT_queue aT_later aT_onWay aT_row aT_princes aT_tries vT_length vT_readMany vT_people vT_toldDay vT_toldBroken vT_many vT_now vT_deeds vT_pastMany vT_at vT_place vT_end vT_readPeople vT_readSpells vT_lifted vT_queued vT_laterMany vT_rowMany vT_princeMany vT_triedMany p1 p2 p3 y8 hq) K_X11_deedOf u1341 (x_Psub hP [0] rfl) rfl (q0 := 0) rfl (by decide) ⟨Nat.zero_le _, Nat.zero_le _⟩ rfl hl.1 rfl (Nat.le_of_ble_eq_true rfl) rfl dX11_act_4 ?_
  refine lv_istore (lv' := [(4, .int y8), (0, .ref aT), (1, .int p1), (2, .int p2), (3, .int p3)]) hx hb dX11_act_7 hl (by decide) rfl (fun ls hl => ?_)
  refine lv_iload hx hb dX11_act_9 (lv_at hl 0 rfl) ?_
  refine lv_if_ge (tgt := 17) hx hb dX11_act_11 (by decide) (fun c9 => ?_) (fun c9 => ?_)
  · replace hev := x_t c9 hev
    refine lv_aload_n hx hb dX11_act_17 rfl (lv_at hl 1 rfl) ?_
    refine lv_aload_n hx hb dX11_act_18 rfl (lv_at hl 1 rfl) ?_
    refine va_get (D := G.1) (ci := 7) (v := .int vT_now) (C := RX11) (T := TX11) (N := 34) hx hb hts i11 hown hK hP 0 rfl rfl 9 (by decide) (hw _ u1096) (fun _ h9 => h9) rfl dX11_act_19 ?_
    refine lv_iload hx hb dX11_act_22 (lv_at hl 0 rfl) ?_
    obtain ⟨y10, hq, hev⟩ := x_bd hev
    refine roV X (KK_at hKK hS hAb) hR (st1 := [.int y10]) (c_Mo_canDo l G aT aT_text aT_read aT_spells aT_pasts aT_keptStates aT_keptDeeds aT_isKept aT_fars aT_queue aT_later aT_onWay aT_row aT_princes aT_tries vT_length vT_readMany vT_people vT_toldDay vT_toldBroken vT_many vT_now vT_deeds vT_pastMany vT_at vT_place vT_end vT_readPeople vT_readSpells vT_lifted vT_queued vT_laterMany vT_rowMany vT_princeMany vT_triedMany fT_spells k vT_now y8 y10 hq) K_X11_canDo u1345 (x_Psub hP [0, 1] rfl) rfl (q0 := 0) rfl (by decide) ⟨Nat.zero_le _, Nat.zero_le _⟩ rfl hl.1 rfl (Nat.le_of_ble_eq_true rfl) rfl dX11_act_24 ?_
    refine lv_if_ne (tgt := 33) hx hb dX11_act_27 (by decide) (fun c11 => ?_) (fun c11 => ?_)
    · replace hev := x_f c11 hev
      refine lv_aload_n hx hb dX11_act_33 rfl (lv_at hl 1 rfl) ?_
      refine va_get (D := G.1) (ci := 7) (v := .int vT_deeds) (C := RX11) (T := TX11) (N := 34) hx hb hts i11 hown hK hP 0 rfl rfl 10 (by decide) (hw _ u1097) (fun _ h9 => h9) rfl dX11_act_34 ?_
      refine lv_sipush (v := (9999 : Int32)) hx hb dX11_act_37 (by decide) ?_
      refine lv_icmp_ne (tgt := 46) hx hb dX11_act_40 (by decide) (fun c12 => ?_) (fun c12 => ?_)
      · replace hev := x_f c12 hev
        refine lv_iconst (v := (0 : Int32)) hx hb dX11_act_46 (by decide) ?_
        refine lv_istore (lv' := [(5, .int (0 : Int32)), (4, .int y8), (0, .ref aT), (1, .int p1), (2, .int p2), (3, .int p3)]) hx hb dX11_act_47 hl (by decide) rfl (fun ls hl => ?_)
        have L49 : ∀ (vT_deeds : Int32) (vT_lifted : Int32) (vT_now : Int32) (vT_pastMany : Int32) (x4 : Int32), ∀ (k : Nat) (x5 : Int32) (fT_pasts : Nat → Int32) (ofT_pasts : Nat → Int32), f_Mo_act_L49 vT_deeds vT_lifted vT_many vT_now vT_pastMany vT_people fT_spells x4 k x5 fT_pasts = some ofT_pasts → (∀ (H : Heap) (lo : List Loc), va_P G.1 classes [(aT, .inr (7, [.ref aT_text, .int vT_length, .ref aT_read, .int vT_readMany, .int vT_people, .int vT_toldDay, .int vT_toldBroken, .ref aT_spells, .int vT_many, .int vT_now, .int vT_deeds, .ref aT_pasts, .int vT_pastMany, .ref aT_keptStates, .ref aT_keptDeeds, .ref aT_isKept, .int vT_at, .int vT_place, .int vT_end, .int vT_readPeople, .int vT_readSpells, .int vT_lifted, .ref aT_fars, .ref aT_queue, .int vT_queued, .ref aT_later, .int vT_laterMany, .ref aT_onWay, .ref aT_row, .int vT_rowMany, .ref aT_princes, .int vT_princeMany, .ref aT_tries, .int vT_triedMany])), (aT_spells, .inl (G.2.1, 50, .inl fT_spells)), (aT_pasts, .inl (G.2.1, 8, .inl ofT_pasts))] H → va_D A [(aT, .inr (7, [.ref aT_text, .int vT_length, .ref aT_read, .int vT_readMany, .int vT_people, .int vT_toldDay, .int vT_toldBroken, .ref aT_spells, .int vT_many, .int vT_now, .int vT_deeds, .ref aT_pasts, .int vT_pastMany, .ref aT_keptStates, .ref aT_keptDeeds, .ref aT_isKept, .int vT_at, .int vT_place, .int vT_end, .int vT_readPeople, .int vT_readSpells, .int vT_lifted, .ref aT_fars, .ref aT_queue, .int vT_queued, .ref aT_later, .int vT_laterMany, .ref aT_onWay, .ref aT_row, .int vT_rowMany, .ref aT_princes, .int vT_princeMany, .ref aT_tries, .int vT_triedMany])), (aT_spells, .inl (G.2.1, 50, .inl fT_spells)), (aT_pasts, .inl (G.2.1, 8, .inl ofT_pasts))] → va_S A s.heap H lo → ∀ (ls : Array Slot), lv_has ls 6 [(0, .ref aT), (4, .int x4)] → W p l e R s m ar below meth c H lo 0 0 Q (F0 m 87 ls [])) → ∀ (H : Heap) (lo : List Loc), va_P G.1 classes [(aT, .inr (7, [.ref aT_text, .int vT_length, .ref aT_read, .int vT_readMany, .int vT_people, .int vT_toldDay, .int vT_toldBroken, .ref aT_spells, .int vT_many, .int vT_now, .int vT_deeds, .ref aT_pasts, .int vT_pastMany, .ref aT_keptStates, .ref aT_keptDeeds, .ref aT_isKept, .int vT_at, .int vT_place, .int vT_end, .int vT_readPeople, .int vT_readSpells, .int vT_lifted, .ref aT_fars, .ref aT_queue, .int vT_queued, .ref aT_later, .int vT_laterMany, .ref aT_onWay, .ref aT_row, .int vT_rowMany, .ref aT_princes, .int vT_princeMany, .ref aT_tries, .int vT_triedMany])), (aT_spells, .inl (G.2.1, 50, .inl fT_spells)), (aT_pasts, .inl (G.2.1, 8, .inl fT_pasts))] H → va_D A [(aT, .inr (7, [.ref aT_text, .int vT_length, .ref aT_read, .int vT_readMany, .int vT_people, .int vT_toldDay, .int vT_toldBroken, .ref aT_spells, .int vT_many, .int vT_now, .int vT_deeds, .ref aT_pasts, .int vT_pastMany, .ref aT_keptStates, .ref aT_keptDeeds, .ref aT_isKept, .int vT_at, .int vT_place, .int vT_end, .int vT_readPeople, .int vT_readSpells, .int vT_lifted, .ref aT_fars, .ref aT_queue, .int vT_queued, .ref aT_later, .int vT_laterMany, .ref aT_onWay, .ref aT_row, .int vT_rowMany, .ref aT_princes, .int vT_princeMany, .ref aT_tries, .int vT_triedMany])), (aT_spells, .inl (G.2.1, 50, .inl fT_spells)), (aT_pasts, .inl (G.2.1, 8, .inl fT_pasts))] → va_S A s.heap H lo → ∀ (ls : Array Slot), lv_has ls 6 [(0, .ref aT), (4, .int x4), (5, .int x5)] → W p l e R s m ar below meth c H lo 0 0 Q (F0 m 49 ls []) := by
          intro vT_deeds vT_lifted vT_now vT_pastMany x4 k
          induction k with
          | zero => intro x5 fT_pasts ofT_pasts hev; rw [f_Mo_act_L49] at hev; cases hev
          | succ k ih =>
            intro x5 fT_pasts ofT_pasts hev hex H lo hP hD hS ls hl
            rw [f_Mo_act_L49] at hev
            refine lv_iload hx hb dX11_act_49 (lv_at hl 2 rfl) ?_
            refine lv_bipush (v := (7 : Int32)) hx hb dX11_act_51 (by decide) ?_
            refine lv_icmp_ge (tgt := 87) hx hb dX11_act_53 (by decide) (fun c13 => ?_) (fun c13 => ?_)
            · replace hev := x_t c13 hev
              cases hev
              exact hex _ _ hP hD hS ls (lv_sub hl [0, 1] rfl)
            · replace hev := x_f c13 hev
              refine lv_aload_n hx hb dX11_act_56 rfl (lv_at hl 0 rfl) ?_
              refine va_get (D := G.1) (ci := 7) (v := .int vT_pastMany) (C := RX11) (T := TX11) (N := 34) hx hb hts i11 hown hK hP 0 rfl rfl 12 (by decide) (hw _ u1099) (fun _ h9 => h9) rfl dX11_act_57 ?_
              refine lv_bipush (v := (8 : Int32)) hx hb dX11_act_60 (by decide) ?_
              refine lv_icmp_ne (tgt := 87) hx hb dX11_act_62 (by decide) (fun c14 => ?_) (fun c14 => ?_)
              · replace hev := x_f c14 hev
                cases hev
                exact hex _ _ hP hD hS ls (lv_sub hl [0, 1] rfl)
              · replace hev := x_t c14 hev
                refine lv_aload_n hx hb dX11_act_65 rfl (lv_at hl 0 rfl) ?_
                refine va_get (D := G.1) (ci := 7) (v := .ref aT_pasts) (C := RX11) (T := TX11) (N := 34) hx hb hts i11 hown hK hP 0 rfl rfl 11 (by decide) (hw _ u1098) (fun _ h9 => h9) rfl dX11_act_66 ?_
                refine lv_iload hx hb dX11_act_69 (lv_at hl 2 rfl) ?_
                refine lv_aload_n hx hb dX11_act_71 rfl (lv_at hl 0 rfl) ?_
                refine va_get (D := G.1) (ci := 7) (v := .ref aT_pasts) (C := RX11) (T := TX11) (N := 34) hx hb hts i11 hown hK hP 0 rfl rfl 11 (by decide) (hw _ u1098) (fun _ h9 => h9) rfl dX11_act_72 ?_
                refine lv_iload hx hb dX11_act_75 (lv_at hl 2 rfl) ?_
                refine lv_iconst (v := (1 : Int32)) hx hb dX11_act_77 (by decide) ?_
                refine lv_iadd hx hb dX11_act_78 ?_
                refine lv_topi (fun y15 ey15 => ?_)
                replace hev := x_lt hev y15 ey15
                obtain ⟨h16, hev⟩ := x_ld hev
                refine va_iald hx hb hK hP 2 0 rfl rfl h16 dX11_act_79 ?_
                refine lv_topi (fun v17 ev17 => ?_)
                replace hev := hev v17 ev17
                obtain ⟨h18, hev⟩ := x_ck hev
                refine va_iast hx hb hK hP hD hS 2 0 rfl rfl h18 dX11_act_80 (fun H lo hP hD hS => ?_)
                obtain ⟨y19, ey19⟩ : ∃ y : Int32, y = x5 + (1 : Int32) := ⟨_, rfl⟩
                refine lv_iinc (v := y19) (lv' := [(5, .int y19), (0, .ref aT), (4, .int x4)]) hx hb dX11_act_81 hl (k := 2) rfl (by rw [ey19]; rfl) (by decide) rfl (fun ls hl => ?_)
                replace hev := x_lt hev y19 ey19
                refine lv_goto (tgt := 49) hx hb dX11_act_84 (by decide) ?_
                exact ih y19 (upd fT_pasts (x5).toNatClampNeg v17) _ hev hex _ _ hP hD hS ls (lv_sub hl [1, 2, 0] rfl)
        obtain ⟨w20, hq, hev⟩ := x_bd hev
        refine L49 vT_deeds vT_lifted vT_now vT_pastMany y8 k (0 : Int32) fT_pasts w20 hq (fun H lo hP hD hS ls hl => ?_) _ _ hP hD hS ls (lv_sub hl [2, 1, 0] rfl)
        exact J87 vT_deeds vT_lifted vT_now vT_pastMany w20 y8 _ _ hP hD hS ls hev (lv_sub hl [0, 1] rfl)
      · replace hev := x_t c12 hev
        refine lv_bipush (v := (-5 : Int32)) hx hb dX11_act_43 (by decide) ?_
        exact ret2 _ _ _ _ (-5 : Int32) (-5 : Int32) vT_deeds vT_lifted vT_now vT_pastMany fT_pasts (Option.some.inj hev) dX11_act_45 (show narrow _ (.int (-5 : Int32)) = .int (-5 : Int32) from rfl) hP hD hS
    · replace hev := x_t c11 hev
      refine lv_bipush (v := (-4 : Int32)) hx hb dX11_act_30 (by decide) ?_
      exact ret2 _ _ _ _ (-4 : Int32) (-4 : Int32) vT_deeds vT_lifted vT_now vT_pastMany fT_pasts (Option.some.inj hev) dX11_act_32 (show narrow _ (.int (-4 : Int32)) = .int (-4 : Int32) from rfl) hP hD hS
  · replace hev := x_f c9 hev
    refine lv_iload hx hb dX11_act_14 (lv_at hl 0 rfl) ?_
    exact ret2 _ _ _ _ y8 y8 vT_deeds vT_lifted vT_now vT_pastMany fT_pasts (Option.some.inj hev) dX11_act_16 (show narrow _ (.int y8) = .int y8 from rfl) hP hD hS
def f_Mo_undo (vT_deeds : Int32) (vT_now : Int32) (vT_pastMany : Int32) (fT_pasts : Nat → Int32) : Option (Int32 × Int32 × Int32 × Int32) := if vT_pastMany = 0 then (some ((-4 : Int32), vT_deeds, vT_now, vT_pastMany)) else x_L ((vT_pastMany - (1 : Int32))) (fun y2 => x_I 8 fT_pasts y2 (fun v4 => x_L ((vT_deeds - (1 : Int32))) (fun y5 => some (y2, y5, v4, y2))))
set_option maxHeartbeats 8000000 in
set_option maxRecDepth 100000 in
theorem c_Mo_undo (l : Launch) (G : GG) (aT aT_text aT_read aT_spells aT_pasts aT_keptStates aT_keptDeeds aT_isKept aT_fars aT_queue aT_later aT_onWay aT_row aT_princes aT_tries : Nat) (vT_length : Int32) (vT_readMany : Int32) (vT_people : Int32) (vT_toldDay : Int32) (vT_toldBroken : Int32) (vT_many : Int32) (vT_now : Int32) (vT_deeds : Int32) (vT_pastMany : Int32) (vT_at : Int32) (vT_place : Int32) (vT_end : Int32) (vT_readPeople : Int32) (vT_readSpells : Int32) (vT_lifted : Int32) (vT_queued : Int32) (vT_laterMany : Int32) (vT_rowMany : Int32) (vT_princeMany : Int32) (vT_triedMany : Int32) (fT_pasts : Nat → Int32) (r0 : Int32) (wvT_deeds : Int32) (wvT_now : Int32) (wvT_pastMany : Int32) (hev : f_Mo_undo vT_deeds vT_now vT_pastMany fT_pasts = some (r0, wvT_deeds, wvT_now, wvT_pastMany)) : RW l G yX11_undo cX11_undo 1 (some .int) 0 [.ref aT] [(aT, .inr (7, [.ref aT_text, .int vT_length, .ref aT_read, .int vT_readMany, .int vT_people, .int vT_toldDay, .int vT_toldBroken, .ref aT_spells, .int vT_many, .int vT_now, .int vT_deeds, .ref aT_pasts, .int vT_pastMany, .ref aT_keptStates, .ref aT_keptDeeds, .ref aT_isKept, .int vT_at, .int vT_place, .int vT_end, .int vT_readPeople, .int vT_readSpells, .int vT_lifted, .ref aT_fars, .ref aT_queue, .int vT_queued, .ref aT_later, .int vT_laterMany, .ref aT_onWay, .ref aT_row, .int vT_rowMany, .ref aT_princes, .int vT_princeMany, .ref aT_tries, .int vT_triedMany])), (aT_pasts, .inl (G.2.1, 8, .inl fT_pasts))] (some (.int r0)) [(aT, .inr (7, [.ref aT_text, .int vT_length, .ref aT_read, .int vT_readMany, .int vT_people, .int vT_toldDay, .int vT_toldBroken, .ref aT_spells, .int vT_many, .int wvT_now, .int wvT_deeds, .ref aT_pasts, .int wvT_pastMany, .ref aT_keptStates, .ref aT_keptDeeds, .ref aT_isKept, .int vT_at, .int vT_place, .int vT_end, .int vT_readPeople, .int vT_readSpells, .int vT_lifted, .ref aT_fars, .ref aT_queue, .int vT_queued, .ref aT_later, .int vT_laterMany, .ref aT_onWay, .ref aT_row, .int vT_rowMany, .ref aT_princes, .int vT_princeMany, .ref aT_tries, .int vT_triedMany])), (aT_pasts, .inl (G.2.1, 8, .inl fT_pasts))] 0 0 := by
  refine RW_of (by decide) (Nat.le_of_ble_eq_true rfl) ?_
  intro p e s m ar below meth c R Q A ls X hR hRc hin hP hKK hD hS hA hAb hl ret
  obtain ⟨rs, hrs⟩ : ∃ q, q = (r0, wvT_deeds, wvT_now, wvT_pastMany) := ⟨_, rfl⟩
  rw [← hrs] at hev
  have ret2 : ∀ (pc : Nat) (ls : Array Slot) (H : Heap) (lo : List Loc) (v r1 : Int32) (zvT_deeds : Int32) (zvT_now : Int32) (zvT_pastMany : Int32), (r1, zvT_deeds, zvT_now, zvT_pastMany) = rs → decode cX11_undo pc = .ok (.ireturn, 1) → narrow .int (.int v) = .int r1 → va_P G.1 classes [(aT, .inr (7, [.ref aT_text, .int vT_length, .ref aT_read, .int vT_readMany, .int vT_people, .int vT_toldDay, .int vT_toldBroken, .ref aT_spells, .int vT_many, .int zvT_now, .int zvT_deeds, .ref aT_pasts, .int zvT_pastMany, .ref aT_keptStates, .ref aT_keptDeeds, .ref aT_isKept, .int vT_at, .int vT_place, .int vT_end, .int vT_readPeople, .int vT_readSpells, .int vT_lifted, .ref aT_fars, .ref aT_queue, .int vT_queued, .ref aT_later, .int vT_laterMany, .ref aT_onWay, .ref aT_row, .int vT_rowMany, .ref aT_princes, .int vT_princeMany, .ref aT_tries, .int vT_triedMany])), (aT_pasts, .inl (G.2.1, 8, .inl fT_pasts))] H → va_D A [(aT, .inr (7, [.ref aT_text, .int vT_length, .ref aT_read, .int vT_readMany, .int vT_people, .int vT_toldDay, .int vT_toldBroken, .ref aT_spells, .int vT_many, .int zvT_now, .int zvT_deeds, .ref aT_pasts, .int zvT_pastMany, .ref aT_keptStates, .ref aT_keptDeeds, .ref aT_isKept, .int vT_at, .int vT_place, .int vT_end, .int vT_readPeople, .int vT_readSpells, .int vT_lifted, .ref aT_fars, .ref aT_queue, .int vT_queued, .ref aT_later, .int vT_laterMany, .ref aT_onWay, .ref aT_row, .int vT_rowMany, .ref aT_princes, .int vT_princeMany, .ref aT_tries, .int vT_triedMany])), (aT_pasts, .inl (G.2.1, 8, .inl fT_pasts))] → va_S A s.heap H lo → W p l e R s m ar below meth c H lo 0 0 Q (F0 m pc ls [.int v]) := by
    intro pc ls H lo v r1 zvT_deeds zvT_now zvT_pastMany he hd hn h1 h2 h3
    have he := he.trans hrs
    cases he
    exact ret.1 _ _ _ _ _ _ _ rfl rfl hd hn h1 h2 h3
  clear ret hrs
  have hl : lv_has ls 1 [(0, .ref aT)] := hl
  obtain ⟨hx, hb, hml, hown, hts, hT⟩ := id X
  have hK := hKK.1
  have hw : ∀ w ∈ T0, w.before ar s = true := fun w h => hts w (hT w h)
  have i11 := fun w h => hT w (inT11 w h)
  unfold f_Mo_undo at hev
  refine lv_aload_n hx hb dX11_undo_0 rfl (lv_at hl 0 rfl) ?_
  refine va_get (D := G.1) (ci := 7) (v := .int vT_pastMany) (C := RX11) (T := TX11) (N := 34) hx hb hts i11 hown hK hP 0 rfl rfl 12 (by decide) (hw _ u1099) (fun _ h9 => h9) rfl dX11_undo_1 ?_
  refine lv_if_ne (tgt := 10) hx hb dX11_undo_4 (by decide) (fun c1 => ?_) (fun c1 => ?_)
  · replace hev := x_f c1 hev
    refine lv_aload_n hx hb dX11_undo_10 rfl (lv_at hl 0 rfl) ?_
    refine lv_dup hx hb dX11_undo_11 rfl ?_
    refine va_get (D := G.1) (ci := 7) (v := .int vT_pastMany) (C := RX11) (T := TX11) (N := 34) hx hb hts i11 hown hK hP 0 rfl rfl 12 (by decide) (hw _ u1099) (fun _ h9 => h9) rfl dX11_undo_12 ?_
    refine lv_iconst (v := (1 : Int32)) hx hb dX11_undo_15 (by decide) ?_
    refine lv_isub hx hb dX11_undo_16 ?_
    refine lv_topi (fun y2 ey2 => ?_)
    replace hev := x_lt hev y2 ey2
    refine va_put (D := G.1) (ci := 7) (v := .int y2) (ty := .int) (C := RX11) (T := TX11) (N := 34) hx hb hts i11 tyX11 tyX11_ok nmX11 hown hK hP hD hS 0 rfl rfl 12 (by decide) (hw _ u1099) (fun _ h9 => h9) rfl (by decide +kernel) rfl rfl (Nat.le_of_ble_eq_true rfl) dX11_undo_17 (fun H lo hP hD hS => ?_)
    refine lv_aload_n hx hb dX11_undo_20 rfl (lv_at hl 0 rfl) ?_
    refine lv_aload_n hx hb dX11_undo_21 rfl (lv_at hl 0 rfl) ?_
    refine va_get (D := G.1) (ci := 7) (v := .ref aT_pasts) (C := RX11) (T := TX11) (N := 34) hx hb hts i11 hown hK hP 0 rfl rfl 11 (by decide) (hw _ u1098) (fun _ h9 => h9) rfl dX11_undo_22 ?_
    refine lv_aload_n hx hb dX11_undo_25 rfl (lv_at hl 0 rfl) ?_
    refine va_get (D := G.1) (ci := 7) (v := .int y2) (C := RX11) (T := TX11) (N := 34) hx hb hts i11 hown hK hP 0 rfl rfl 12 (by decide) (hw _ u1099) (fun _ h9 => h9) rfl dX11_undo_26 ?_
    obtain ⟨h3, hev⟩ := x_ld hev
    refine va_iald hx hb hK hP 1 0 rfl rfl h3 dX11_undo_29 ?_
    refine lv_topi (fun v4 ev4 => ?_)
    replace hev := hev v4 ev4
    refine va_put (D := G.1) (ci := 7) (v := .int v4) (ty := .int) (C := RX11) (T := TX11) (N := 34) hx hb hts i11 tyX11 tyX11_ok nmX11 hown hK hP hD hS 0 rfl rfl 9 (by decide) (hw _ u1096) (fun _ h9 => h9) rfl (by decide +kernel) rfl rfl (Nat.le_of_ble_eq_true rfl) dX11_undo_30 (fun H lo hP hD hS => ?_)
    refine lv_aload_n hx hb dX11_undo_33 rfl (lv_at hl 0 rfl) ?_
    refine lv_dup hx hb dX11_undo_34 rfl ?_
    refine va_get (D := G.1) (ci := 7) (v := .int vT_deeds) (C := RX11) (T := TX11) (N := 34) hx hb hts i11 hown hK hP 0 rfl rfl 10 (by decide) (hw _ u1097) (fun _ h9 => h9) rfl dX11_undo_35 ?_
    refine lv_iconst (v := (1 : Int32)) hx hb dX11_undo_38 (by decide) ?_
    refine lv_isub hx hb dX11_undo_39 ?_
    refine lv_topi (fun y5 ey5 => ?_)
    replace hev := x_lt hev y5 ey5
    refine va_put (D := G.1) (ci := 7) (v := .int y5) (ty := .int) (C := RX11) (T := TX11) (N := 34) hx hb hts i11 tyX11 tyX11_ok nmX11 hown hK hP hD hS 0 rfl rfl 10 (by decide) (hw _ u1097) (fun _ h9 => h9) rfl (by decide +kernel) rfl rfl (Nat.le_of_ble_eq_true rfl) dX11_undo_40 (fun H lo hP hD hS => ?_)
    refine lv_aload_n hx hb dX11_undo_43 rfl (lv_at hl 0 rfl) ?_
    refine va_get (D := G.1) (ci := 7) (v := .int y2) (C := RX11) (T := TX11) (N := 34) hx hb hts i11 hown hK hP 0 rfl rfl 12 (by decide) (hw _ u1099) (fun _ h9 => h9) rfl dX11_undo_44 ?_
    exact ret2 _ _ _ _ y2 y2 y5 v4 y2 (Option.some.inj hev) dX11_undo_47 (show narrow _ (.int y2) = .int y2 from rfl) hP hD hS
  · replace hev := x_t c1 hev
    refine lv_bipush (v := (-4 : Int32)) hx hb dX11_undo_7 (by decide) ?_
    exact ret2 _ _ _ _ (-4 : Int32) (-4 : Int32) vT_deeds vT_now vT_pastMany (Option.some.inj hev) dX11_undo_9 (show narrow _ (.int (-4 : Int32)) = .int (-4 : Int32) from rfl) hP hD hS
def f_Mo_keep (vT_deeds : Int32) (vT_now : Int32) (fT_isKept : Nat → Int32) (fT_keptDeeds : Nat → Int32) (fT_keptStates : Nat → Int32) (p1 : Int32) : Option (Int32 × (Nat → Int32) × (Nat → Int32) × (Nat → Int32)) := x_B (f_Mo_in ((p1).toInt64) (0 : Int64) (1 : Int64)) (fun y1 => if y1 = 0 then (some ((-2 : Int32), fT_isKept, fT_keptDeeds, fT_keptStates)) else x_C 2 p1 (x_C 2 p1 (x_C 2 p1 (some (vT_deeds, (upd fT_isKept (p1).toNatClampNeg (vp_nar .boolean (1 : Int32))), (upd fT_keptDeeds (p1).toNatClampNeg vT_deeds), (upd fT_keptStates (p1).toNatClampNeg vT_now))))))
set_option maxHeartbeats 8000000 in
set_option maxRecDepth 100000 in
theorem c_Mo_keep (l : Launch) (G : GG) (aT aT_text aT_read aT_spells aT_pasts aT_keptStates aT_keptDeeds aT_isKept aT_fars aT_queue aT_later aT_onWay aT_row aT_princes aT_tries : Nat) (vT_length : Int32) (vT_readMany : Int32) (vT_people : Int32) (vT_toldDay : Int32) (vT_toldBroken : Int32) (vT_many : Int32) (vT_now : Int32) (vT_deeds : Int32) (vT_pastMany : Int32) (vT_at : Int32) (vT_place : Int32) (vT_end : Int32) (vT_readPeople : Int32) (vT_readSpells : Int32) (vT_lifted : Int32) (vT_queued : Int32) (vT_laterMany : Int32) (vT_rowMany : Int32) (vT_princeMany : Int32) (vT_triedMany : Int32) (fT_keptStates : Nat → Int32) (fT_keptDeeds : Nat → Int32) (fT_isKept : Nat → Int32) (p1 : Int32) (r0 : Int32) (wfT_isKept : Nat → Int32) (wfT_keptDeeds : Nat → Int32) (wfT_keptStates : Nat → Int32) (hev : f_Mo_keep vT_deeds vT_now fT_isKept fT_keptDeeds fT_keptStates p1 = some (r0, wfT_isKept, wfT_keptDeeds, wfT_keptStates)) : RW l G yX11_keep cX11_keep 2 (some .int) 1 [.ref aT, .int p1] [(aT, .inr (7, [.ref aT_text, .int vT_length, .ref aT_read, .int vT_readMany, .int vT_people, .int vT_toldDay, .int vT_toldBroken, .ref aT_spells, .int vT_many, .int vT_now, .int vT_deeds, .ref aT_pasts, .int vT_pastMany, .ref aT_keptStates, .ref aT_keptDeeds, .ref aT_isKept, .int vT_at, .int vT_place, .int vT_end, .int vT_readPeople, .int vT_readSpells, .int vT_lifted, .ref aT_fars, .ref aT_queue, .int vT_queued, .ref aT_later, .int vT_laterMany, .ref aT_onWay, .ref aT_row, .int vT_rowMany, .ref aT_princes, .int vT_princeMany, .ref aT_tries, .int vT_triedMany])), (aT_keptStates, .inl (G.2.1, 2, .inl fT_keptStates)), (aT_keptDeeds, .inl (G.2.1, 2, .inl fT_keptDeeds)), (aT_isKept, .inl (G.2.2.2.1, 2, .inl fT_isKept))] (some (.int r0)) [(aT, .inr (7, [.ref aT_text, .int vT_length, .ref aT_read, .int vT_readMany, .int vT_people, .int vT_toldDay, .int vT_toldBroken, .ref aT_spells, .int vT_many, .int vT_now, .int vT_deeds, .ref aT_pasts, .int vT_pastMany, .ref aT_keptStates, .ref aT_keptDeeds, .ref aT_isKept, .int vT_at, .int vT_place, .int vT_end, .int vT_readPeople, .int vT_readSpells, .int vT_lifted, .ref aT_fars, .ref aT_queue, .int vT_queued, .ref aT_later, .int vT_laterMany, .ref aT_onWay, .ref aT_row, .int vT_rowMany, .ref aT_princes, .int vT_princeMany, .ref aT_tries, .int vT_triedMany])), (aT_keptStates, .inl (G.2.1, 2, .inl wfT_keptStates)), (aT_keptDeeds, .inl (G.2.1, 2, .inl wfT_keptDeeds)), (aT_isKept, .inl (G.2.2.2.1, 2, .inl wfT_isKept))] 0 0 := by
  refine RW_of (by decide) (Nat.le_of_ble_eq_true rfl) ?_
  intro p e s m ar below meth c R Q A ls X hR hRc hin hP hKK hD hS hA hAb hl ret
  obtain ⟨rs, hrs⟩ : ∃ q, q = (r0, wfT_isKept, wfT_keptDeeds, wfT_keptStates) := ⟨_, rfl⟩
  rw [← hrs] at hev
  have ret2 : ∀ (pc : Nat) (ls : Array Slot) (H : Heap) (lo : List Loc) (v r1 : Int32) (zfT_isKept : Nat → Int32) (zfT_keptDeeds : Nat → Int32) (zfT_keptStates : Nat → Int32), (r1, zfT_isKept, zfT_keptDeeds, zfT_keptStates) = rs → decode cX11_keep pc = .ok (.ireturn, 1) → narrow .int (.int v) = .int r1 → va_P G.1 classes [(aT, .inr (7, [.ref aT_text, .int vT_length, .ref aT_read, .int vT_readMany, .int vT_people, .int vT_toldDay, .int vT_toldBroken, .ref aT_spells, .int vT_many, .int vT_now, .int vT_deeds, .ref aT_pasts, .int vT_pastMany, .ref aT_keptStates, .ref aT_keptDeeds, .ref aT_isKept, .int vT_at, .int vT_place, .int vT_end, .int vT_readPeople, .int vT_readSpells, .int vT_lifted, .ref aT_fars, .ref aT_queue, .int vT_queued, .ref aT_later, .int vT_laterMany, .ref aT_onWay, .ref aT_row, .int vT_rowMany, .ref aT_princes, .int vT_princeMany, .ref aT_tries, .int vT_triedMany])), (aT_keptStates, .inl (G.2.1, 2, .inl zfT_keptStates)), (aT_keptDeeds, .inl (G.2.1, 2, .inl zfT_keptDeeds)), (aT_isKept, .inl (G.2.2.2.1, 2, .inl zfT_isKept))] H → va_D A [(aT, .inr (7, [.ref aT_text, .int vT_length, .ref aT_read, .int vT_readMany, .int vT_people, .int vT_toldDay, .int vT_toldBroken, .ref aT_spells, .int vT_many, .int vT_now, .int vT_deeds, .ref aT_pasts, .int vT_pastMany, .ref aT_keptStates, .ref aT_keptDeeds, .ref aT_isKept, .int vT_at, .int vT_place, .int vT_end, .int vT_readPeople, .int vT_readSpells, .int vT_lifted, .ref aT_fars, .ref aT_queue, .int vT_queued, .ref aT_later, .int vT_laterMany, .ref aT_onWay, .ref aT_row, .int vT_rowMany, .ref aT_princes, .int vT_princeMany, .ref aT_tries, .int vT_triedMany])), (aT_keptStates, .inl (G.2.1, 2, .inl zfT_keptStates)), (aT_keptDeeds, .inl (G.2.1, 2, .inl zfT_keptDeeds)), (aT_isKept, .inl (G.2.2.2.1, 2, .inl zfT_isKept))] → va_S A s.heap H lo → W p l e R s m ar below meth c H lo 0 0 Q (F0 m pc ls [.int v]) := by
    intro pc ls H lo v r1 zfT_isKept zfT_keptDeeds zfT_keptStates he hd hn h1 h2 h3
    have he := he.trans hrs
    cases he
    exact ret.1 _ _ _ _ _ _ _ rfl rfl hd hn h1 h2 h3
  clear ret hrs
  have hl : lv_has ls 2 [(0, .ref aT), (1, .int p1)] := hl
  obtain ⟨hx, hb, hml, hown, hts, hT⟩ := id X
  have hK := hKK.1
  have hw : ∀ w ∈ T0, w.before ar s = true := fun w h => hts w (hT w h)
  have i11 := fun w h => hT w (inT11 w h)
  unfold f_Mo_keep at hev
  refine lv_iload_n hx hb dX11_keep_0 rfl (lv_at hl 1 rfl) ?_
  refine lv_i2l hx hb dX11_keep_1 rfl ?_
  refine lv_lconst (v := (0 : Int64)) hx hb dX11_keep_2 (by decide) ?_
  refine lv_lconst (v := (1 : Int64)) hx hb dX11_keep_3 (by decide) ?_
  obtain ⟨y1, hq, hev⟩ := x_bd hev
  refine roS X (KK_at hKK hS hAb) hR (st1 := [.int y1]) (c_Mo_in l G ((p1).toInt64) (0 : Int64) (1 : Int64) y1 hq) K_X11_in u1196 (x_Psub hP [] rfl) (by decide) ⟨Nat.zero_le _, Nat.zero_le _⟩ rfl hl.1 rfl (Nat.le_of_ble_eq_true rfl) rfl dX11_keep_4 ?_
  refine lv_if_ne (tgt := 13) hx hb dX11_keep_7 (by decide) (fun c2 => ?_) (fun c2 => ?_)
  · replace hev := x_f c2 hev
    refine lv_aload_n hx hb dX11_keep_13 rfl (lv_at hl 0 rfl) ?_
    refine va_get (D := G.1) (ci := 7) (v := .ref aT_keptStates) (C := RX11) (T := TX11) (N := 34) hx hb hts i11 hown hK hP 0 rfl rfl 13 (by decide) (hw _ u1100) (fun _ h9 => h9) rfl dX11_keep_14 ?_
    refine lv_iload_n hx hb dX11_keep_17 rfl (lv_at hl 1 rfl) ?_
    refine lv_aload_n hx hb dX11_keep_18 rfl (lv_at hl 0 rfl) ?_
    refine va_get (D := G.1) (ci := 7) (v := .int vT_now) (C := RX11) (T := TX11) (N := 34) hx hb hts i11 hown hK hP 0 rfl rfl 9 (by decide) (hw _ u1096) (fun _ h9 => h9) rfl dX11_keep_19 ?_
    obtain ⟨h3, hev⟩ := x_ck hev
    refine va_iast hx hb hK hP hD hS 1 0 rfl rfl h3 dX11_keep_22 (fun H lo hP hD hS => ?_)
    refine lv_aload_n hx hb dX11_keep_23 rfl (lv_at hl 0 rfl) ?_
    refine va_get (D := G.1) (ci := 7) (v := .ref aT_keptDeeds) (C := RX11) (T := TX11) (N := 34) hx hb hts i11 hown hK hP 0 rfl rfl 14 (by decide) (hw _ u1101) (fun _ h9 => h9) rfl dX11_keep_24 ?_
    refine lv_iload_n hx hb dX11_keep_27 rfl (lv_at hl 1 rfl) ?_
    refine lv_aload_n hx hb dX11_keep_28 rfl (lv_at hl 0 rfl) ?_
    refine va_get (D := G.1) (ci := 7) (v := .int vT_deeds) (C := RX11) (T := TX11) (N := 34) hx hb hts i11 hown hK hP 0 rfl rfl 10 (by decide) (hw _ u1097) (fun _ h9 => h9) rfl dX11_keep_29 ?_
    obtain ⟨h4, hev⟩ := x_ck hev
    refine va_iast hx hb hK hP hD hS 2 0 rfl rfl h4 dX11_keep_32 (fun H lo hP hD hS => ?_)
    refine lv_aload_n hx hb dX11_keep_33 rfl (lv_at hl 0 rfl) ?_
    refine va_get (D := G.1) (ci := 7) (v := .ref aT_isKept) (C := RX11) (T := TX11) (N := 34) hx hb hts i11 hown hK hP 0 rfl rfl 15 (by decide) (hw _ u1102) (fun _ h9 => h9) rfl dX11_keep_34 ?_
    refine lv_iload_n hx hb dX11_keep_37 rfl (lv_at hl 1 rfl) ?_
    refine lv_iconst (v := (1 : Int32)) hx hb dX11_keep_38 (by decide) ?_
    obtain ⟨h5, hev⟩ := x_ck hev
    refine va_zast hx hb hK hP hD hS 3 2 rfl rfl h5 dX11_keep_39 (fun H lo hP hD hS => ?_)
    refine lv_aload_n hx hb dX11_keep_40 rfl (lv_at hl 0 rfl) ?_
    refine va_get (D := G.1) (ci := 7) (v := .int vT_deeds) (C := RX11) (T := TX11) (N := 34) hx hb hts i11 hown hK hP 0 rfl rfl 10 (by decide) (hw _ u1097) (fun _ h9 => h9) rfl dX11_keep_41 ?_
    exact ret2 _ _ _ _ vT_deeds vT_deeds (upd fT_isKept (p1).toNatClampNeg (vp_nar .boolean (1 : Int32))) (upd fT_keptDeeds (p1).toNatClampNeg vT_deeds) (upd fT_keptStates (p1).toNatClampNeg vT_now) (Option.some.inj hev) dX11_keep_44 (show narrow _ (.int vT_deeds) = .int vT_deeds from rfl) hP hD hS
  · replace hev := x_t c2 hev
    refine lv_bipush (v := (-2 : Int32)) hx hb dX11_keep_10 (by decide) ?_
    exact ret2 _ _ _ _ (-2 : Int32) (-2 : Int32) fT_isKept fT_keptDeeds fT_keptStates (Option.some.inj hev) dX11_keep_12 (show narrow _ (.int (-2 : Int32)) = .int (-2 : Int32) from rfl) hP hD hS
