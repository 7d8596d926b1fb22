def f_Tm_maskOf_J54 (x1 : Int32) : Option (Int32) := some ((1 : Int32) <<< (((5 : Int32) + x1) &&& 31))
def f_Tm_maskOf (p0 : Int32) (p1 : Int32) : Option (Int32) := if p0 = (1 : Int32) then (some ((1 : Int32) <<< (((7 : Int32) + p1) &&& 31))) else if p0 = (2 : Int32) then (some (57344 : Int32)) else if p0 = (3 : Int32) then (some ((1 : Int32) <<< (p1 &&& 31))) else if p0 = (4 : Int32) then (some ((1 : Int32) <<< (p1 &&& 31))) else if p0 = (5 : Int32) then (f_Tm_maskOf_J54 p1) else if p0 = (6 : Int32) then (f_Tm_maskOf_J54 p1) else some (0 : Int32)
set_option maxHeartbeats 8000000 in
set_option maxRecDepth 100000 in
theorem c_Tm_maskOf (l : Launch) (G : GG) (p0 : Int32) (p1 : Int32) (r0 : Int32) (hev : f_Tm_maskOf p0 p1 = some r0) : RO l G yX7_maskOf cX7_maskOf 2 (some .int) 0 [.int p0, .int p1] [] (some (.int r0)) := by
  refine RO_of (by decide) (Nat.le_of_ble_eq_true rfl) ?_
  intro p e s m ar below meth c R Q H ls X hR hP hKK hS0 hl ret
  generalize hrs : r0 = rs at hev ret
  have hl : lv_has ls 2 [(0, .int p0), (1, .int p1)] := hl
  obtain ⟨hx, hb, hml, hown, hts, hT⟩ := id X
  have hK := hKK.1
  have hw : ∀ w ∈ T0, w.before ar s = true := fun w h => hts w (hT w h)
  have J54 : ∀ (x1 : Int32), ∀ (ls : Array Slot), f_Tm_maskOf_J54 x1 = some rs → lv_has ls 2 [(1, .int x1)] → W p l e R s m ar below meth c H [] 0 0 Q (F0 m 54 ls []) := by
    intro x1 ls hev hl
    unfold f_Tm_maskOf_J54 at hev
    refine lv_iconst (v := (1 : Int32)) hx hb dX7_maskOf_54 (by decide) ?_
    refine lv_iconst (v := (5 : Int32)) hx hb dX7_maskOf_55 (by decide) ?_
    refine lv_iload_n hx hb dX7_maskOf_56 rfl (lv_at hl 0 rfl) ?_
    refine lv_iadd hx hb dX7_maskOf_57 ?_
    refine lv_ishl hx hb dX7_maskOf_58 ?_
    exact ret _ _ _ dX7_maskOf_59 ((show narrow _ (.int ((1 : Int32) <<< (((5 : Int32) + x1) &&& 31))) = .int ((1 : Int32) <<< (((5 : Int32) + x1) &&& 31)) from rfl).trans (congrArg Value.int (Option.some.inj hev)))
  unfold f_Tm_maskOf at hev
  refine lv_iload_n hx hb dX7_maskOf_0 rfl (lv_at hl 0 rfl) ?_
  by_cases c1 : p0 = (1 : Int32)
  · replace hev := x_t c1 hev
    refine lv_tableIn (tgt := 40) hx hb dX7_maskOf_1 (by rw [c1]; decide) (by rw [c1]; decide) (by rw [c1]; rfl) (by decide) ?_
    refine lv_iconst (v := (1 : Int32)) hx hb dX7_maskOf_40 (by decide) ?_
    refine lv_bipush (v := (7 : Int32)) hx hb dX7_maskOf_41 (by decide) ?_
    refine lv_iload_n hx hb dX7_maskOf_43 rfl (lv_at hl 1 rfl) ?_
    refine lv_iadd hx hb dX7_maskOf_44 ?_
    refine lv_ishl hx hb dX7_maskOf_45 ?_
    exact ret _ _ _ dX7_maskOf_46 ((show narrow _ (.int ((1 : Int32) <<< (((7 : Int32) + p1) &&& 31))) = .int ((1 : Int32) <<< (((7 : Int32) + p1) &&& 31)) from rfl).trans (congrArg Value.int (Option.some.inj hev)))
  replace hev := x_f c1 hev
  by_cases c2 : p0 = (2 : Int32)
  · replace hev := x_t c2 hev
    refine lv_tableIn (tgt := 47) hx hb dX7_maskOf_1 (by rw [c2]; decide) (by rw [c2]; decide) (by rw [c2]; rfl) (by decide) ?_
    refine lv_ldc (v := (57344 : Int32)) hx hb hown (hw _ u378) dX7_maskOf_47 ?_
    exact ret _ _ _ dX7_maskOf_49 ((show narrow _ (.int (57344 : Int32)) = .int (57344 : Int32) from rfl).trans (congrArg Value.int (Option.some.inj hev)))
  replace hev := x_f c2 hev
  by_cases c3 : p0 = (3 : Int32)
  · replace hev := x_t c3 hev
    refine lv_tableIn (tgt := 50) hx hb dX7_maskOf_1 (by rw [c3]; decide) (by rw [c3]; decide) (by rw [c3]; rfl) (by decide) ?_
    refine lv_iconst (v := (1 : Int32)) hx hb dX7_maskOf_50 (by decide) ?_
    refine lv_iload_n hx hb dX7_maskOf_51 rfl (lv_at hl 1 rfl) ?_
    refine lv_ishl hx hb dX7_maskOf_52 ?_
    exact ret _ _ _ dX7_maskOf_53 ((show narrow _ (.int ((1 : Int32) <<< (p1 &&& 31))) = .int ((1 : Int32) <<< (p1 &&& 31)) from rfl).trans (congrArg Value.int (Option.some.inj hev)))
  replace hev := x_f c3 hev
  by_cases c4 : p0 = (4 : Int32)
  · replace hev := x_t c4 hev
    refine lv_tableIn (tgt := 50) hx hb dX7_maskOf_1 (by rw [c4]; decide) (by rw [c4]; decide) (by rw [c4]; rfl) (by decide) ?_
    refine lv_iconst (v := (1 : Int32)) hx hb dX7_maskOf_50 (by decide) ?_
    refine lv_iload_n hx hb dX7_maskOf_51 rfl (lv_at hl 1 rfl) ?_
    refine lv_ishl hx hb dX7_maskOf_52 ?_
    exact ret _ _ _ dX7_maskOf_53 ((show narrow _ (.int ((1 : Int32) <<< (p1 &&& 31))) = .int ((1 : Int32) <<< (p1 &&& 31)) from rfl).trans (congrArg Value.int (Option.some.inj hev)))
  replace hev := x_f c4 hev
  by_cases c5 : p0 = (5 : Int32)
  · replace hev := x_t c5 hev
    refine lv_tableIn (tgt := 54) hx hb dX7_maskOf_1 (by rw [c5]; decide) (by rw [c5]; decide) (by rw [c5]; rfl) (by decide) ?_
    exact J54 p1 ls hev (lv_sub hl [1] rfl)
  replace hev := x_f c5 hev
  by_cases c6 : p0 = (6 : Int32)
  · replace hev := x_t c6 hev
    refine lv_tableIn (tgt := 54) hx hb dX7_maskOf_1 (by rw [c6]; decide) (by rw [c6]; decide) (by rw [c6]; rfl) (by decide) ?_
    exact J54 p1 ls hev (lv_sub hl [1] rfl)
  replace hev := x_f c6 hev
  refine lv_tableOut (tgt := 60) hx hb dX7_maskOf_1 (by have q0 : p0.toInt ≠ 1 := x_ne c1; have q1 : p0.toInt ≠ 2 := x_ne c2; have q2 : p0.toInt ≠ 3 := x_ne c3; have q3 : p0.toInt ≠ 4 := x_ne c4; have q4 : p0.toInt ≠ 5 := x_ne c5; have q5 : p0.toInt ≠ 6 := x_ne c6; omega) (by decide) ?_
  refine lv_iconst (v := (0 : Int32)) hx hb dX7_maskOf_60 (by decide) ?_
  exact ret _ _ _ dX7_maskOf_61 ((show narrow _ (.int (0 : Int32)) = .int (0 : Int32) from rfl).trans (congrArg Value.int (Option.some.inj hev)))
def f_Tm_valueOf_J43 (x0 : Int32) (x1 : Int32) : Option (Int32) := x_B (f_Tm_maskOf x0 x1) (fun y1 => some y1)
def f_Tm_valueOf (p0 : Int32) (p1 : Int32) : Option (Int32) := if p0 = (2 : Int32) then (some (p1 <<< ((13 : Int32) &&& 31))) else if p0 = (3 : Int32) then (f_Tm_valueOf_J43 p0 p1) else if p0 = (4 : Int32) then (some (0 : Int32)) else if p0 = (5 : Int32) then (f_Tm_valueOf_J43 p0 p1) else if p0 = (6 : Int32) then (some (0 : Int32)) else f_Tm_valueOf_J43 p0 p1
set_option maxHeartbeats 8000000 in
set_option maxRecDepth 100000 in
theorem c_Tm_valueOf (l : Launch) (G : GG) (p0 : Int32) (p1 : Int32) (r0 : Int32) (hev : f_Tm_valueOf p0 p1 = some r0) : RO l G yX7_valueOf cX7_valueOf 2 (some .int) 1 [.int p0, .int p1] [] (some (.int r0)) := by
  refine RO_of (by decide) (Nat.le_of_ble_eq_true rfl) ?_
  intro p e s m ar below meth c R Q H ls X hR hP hKK hS0 hl ret
  generalize hrs : r0 = rs at hev ret
  have hl : lv_has ls 2 [(0, .int p0), (1, .int p1)] := hl
  obtain ⟨hx, hb, hml, hown, hts, hT⟩ := id X
  have hK := hKK.1
  have hw : ∀ w ∈ T0, w.before ar s = true := fun w h => hts w (hT w h)
  have J43 : ∀ (x0 : Int32) (x1 : Int32), ∀ (ls : Array Slot), f_Tm_valueOf_J43 x0 x1 = some rs → lv_has ls 2 [(0, .int x0), (1, .int x1)] → W p l e R s m ar below meth c H [] 0 0 Q (F0 m 43 ls []) := by
    intro x0 x1 ls hev hl
    unfold f_Tm_valueOf_J43 at hev
    refine lv_iload_n hx hb dX7_valueOf_43 rfl (lv_at hl 0 rfl) ?_
    refine lv_iload_n hx hb dX7_valueOf_44 rfl (lv_at hl 1 rfl) ?_
    obtain ⟨y1, hq, hev⟩ := x_bd hev
    refine roS X hKK hR (st1 := [.int y1]) (c_Tm_maskOf l G x0 x1 y1 hq) K_X7_maskOf u382 (x_Psub hP [] rfl) (by decide) ⟨Nat.zero_le _, Nat.zero_le _⟩ rfl hl.1 rfl (Nat.le_of_ble_eq_true rfl) rfl dX7_valueOf_45 ?_
    exact ret _ _ _ dX7_valueOf_48 ((show narrow _ (.int y1) = .int y1 from rfl).trans (congrArg Value.int (Option.some.inj hev)))
  unfold f_Tm_valueOf at hev
  refine lv_iload_n hx hb dX7_valueOf_0 rfl (lv_at hl 0 rfl) ?_
  by_cases c2 : p0 = (2 : Int32)
  · replace hev := x_t c2 hev
    refine lv_tableIn (tgt := 36) hx hb dX7_valueOf_1 (by rw [c2]; decide) (by rw [c2]; decide) (by rw [c2]; rfl) (by decide) ?_
    refine lv_iload_n hx hb dX7_valueOf_36 rfl (lv_at hl 1 rfl) ?_
    refine lv_bipush (v := (13 : Int32)) hx hb dX7_valueOf_37 (by decide) ?_
    refine lv_ishl hx hb dX7_valueOf_39 ?_
    exact ret _ _ _ dX7_valueOf_40 ((show narrow _ (.int (p1 <<< ((13 : Int32) &&& 31))) = .int (p1 <<< ((13 : Int32) &&& 31)) from rfl).trans (congrArg Value.int (Option.some.inj hev)))
  replace hev := x_f c2 hev
  by_cases c3 : p0 = (3 : Int32)
  · replace hev := x_t c3 hev
    refine lv_tableIn (tgt := 43) hx hb dX7_valueOf_1 (by rw [c3]; decide) (by rw [c3]; decide) (by rw [c3]; rfl) (by decide) ?_
    exact J43 p0 p1 ls hev (lv_sub hl [0, 1] rfl)
  replace hev := x_f c3 hev
  by_cases c4 : p0 = (4 : Int32)
  · replace hev := x_t c4 hev
    refine lv_tableIn (tgt := 41) hx hb dX7_valueOf_1 (by rw [c4]; decide) (by rw [c4]; decide) (by rw [c4]; rfl) (by decide) ?_
    refine lv_iconst (v := (0 : Int32)) hx hb dX7_valueOf_41 (by decide) ?_
    exact ret _ _ _ dX7_valueOf_42 ((show narrow _ (.int (0 : Int32)) = .int (0 : Int32) from rfl).trans (congrArg Value.int (Option.some.inj hev)))
  replace hev := x_f c4 hev
  by_cases c5 : p0 = (5 : Int32)
  · replace hev := x_t c5 hev
    refine lv_tableIn (tgt := 43) hx hb dX7_valueOf_1 (by rw [c5]; decide) (by rw [c5]; decide) (by rw [c5]; rfl) (by decide) ?_
    exact J43 p0 p1 ls hev (lv_sub hl [0, 1] rfl)
  replace hev := x_f c5 hev
  by_cases c6 : p0 = (6 : Int32)
  · replace hev := x_t c6 hev
    refine lv_tableIn (tgt := 41) hx hb dX7_valueOf_1 (by rw [c6]; decide) (by rw [c6]; decide) (by rw [c6]; rfl) (by decide) ?_
    refine lv_iconst (v := (0 : Int32)) hx hb dX7_valueOf_41 (by decide) ?_
    exact ret _ _ _ dX7_valueOf_42 ((show narrow _ (.int (0 : Int32)) = .int (0 : Int32) from rfl).trans (congrArg Value.int (Option.some.inj hev)))
  replace hev := x_f c6 hev
  refine lv_tableOut (tgt := 43) hx hb dX7_valueOf_1 (by have q0 : p0.toInt ≠ 2 := x_ne c2; have q1 : p0.toInt ≠ 3 := x_ne c3; have q2 : p0.toInt ≠ 4 := x_ne c4; have q3 : p0.toInt ≠ 5 := x_ne c5; have q4 : p0.toInt ≠ 6 := x_ne c6; omega) (by decide) ?_
  exact J43 p0 p1 ls hev (lv_sub hl [0, 1] rfl)
def f_Tm_isSo (p0 : Int32) (p1 : Int32) (p2 : Int32) : Option (Int32) := if p0 = 0 then (some (0 : Int32)) else if p0 = (7 : Int32) then (x_B (f_St_asked p2) (fun y6 => if y6 < p1 then (some (0 : Int32)) else some (1 : Int32))) else x_B (f_Tm_maskOf p0 p1) (fun y3 => x_B (f_Tm_valueOf p0 p1) (fun y4 => if (p2 &&& y3) = y4 then (some (1 : Int32)) else some (0 : Int32)))
set_option maxHeartbeats 8000000 in
set_option maxRecDepth 100000 in
theorem c_Tm_isSo (l : Launch) (G : GG) (p0 : Int32) (p1 : Int32) (p2 : Int32) (r0 : Int32) (hev : f_Tm_isSo p0 p1 p2 = some r0) : RO l G yX7_isSo cX7_isSo 3 (some .boolean) 2 [.int p0, .int p1, .int p2] [] (some (.int r0)) := by
  refine RO_of (by decide) (Nat.le_of_ble_eq_true rfl) ?_
  intro p e s m ar below meth c R Q H ls X hR hP hKK hS0 hl ret
  generalize hrs : r0 = rs at hev ret
  have hl : lv_has ls 3 [(0, .int p0), (1, .int p1), (2, .int p2)] := hl
  obtain ⟨hx, hb, hml, hown, hts, hT⟩ := id X
  have hK := hKK.1
  have hw : ∀ w ∈ T0, w.before ar s = true := fun w h => hts w (hT w h)
  unfold f_Tm_isSo at hev
  refine lv_iload_n hx hb dX7_isSo_0 rfl (lv_at hl 0 rfl) ?_
  refine lv_if_ne (tgt := 6) hx hb dX7_isSo_1 (by decide) (fun c1 => ?_) (fun c1 => ?_)
  · replace hev := x_f c1 hev
    refine lv_iload_n hx hb dX7_isSo_6 rfl (lv_at hl 0 rfl) ?_
    refine lv_bipush (v := (7 : Int32)) hx hb dX7_isSo_7 (by decide) ?_
    refine lv_icmp_ne (tgt := 26) hx hb dX7_isSo_9 (by decide) (fun c2 => ?_) (fun c2 => ?_)
    · replace hev := x_f c2 hev
      refine lv_iload_n hx hb dX7_isSo_26 rfl (lv_at hl 2 rfl) ?_
      refine lv_iload_n hx hb dX7_isSo_27 rfl (lv_at hl 0 rfl) ?_
      refine lv_iload_n hx hb dX7_isSo_28 rfl (lv_at hl 1 rfl) ?_
      obtain ⟨y3, hq, hev⟩ := x_bd hev
      refine roS X hKK hR (st1 := [.int y3, .int p2]) (c_Tm_maskOf l G p0 p1 y3 hq) K_X7_maskOf u382 (x_Psub hP [] rfl) (by decide) ⟨Nat.zero_le _, Nat.zero_le _⟩ rfl hl.1 rfl (Nat.le_of_ble_eq_true rfl) rfl dX7_isSo_29 ?_
      refine lv_iand hx hb dX7_isSo_32 ?_
      refine lv_iload_n hx hb dX7_isSo_33 rfl (lv_at hl 0 rfl) ?_
      refine lv_iload_n hx hb dX7_isSo_34 rfl (lv_at hl 1 rfl) ?_
      obtain ⟨y4, hq, hev⟩ := x_bd hev
      refine roS X hKK hR (st1 := [.int y4, .int (p2 &&& y3)]) (c_Tm_valueOf l G p0 p1 y4 hq) K_X7_valueOf u694 (x_Psub hP [] rfl) (by decide) ⟨Nat.zero_le _, Nat.zero_le _⟩ rfl hl.1 rfl (Nat.le_of_ble_eq_true rfl) rfl dX7_isSo_35 ?_
      refine lv_icmp_ne (tgt := 45) hx hb dX7_isSo_38 (by decide) (fun c5 => ?_) (fun c5 => ?_)
      · replace hev := x_f c5 hev
        refine lv_iconst (v := (0 : Int32)) hx hb dX7_isSo_45 (by decide) ?_
        exact ret _ _ _ dX7_isSo_46 ((show narrow _ (.int (0 : Int32)) = .int (0 : Int32) from nb0).trans (congrArg Value.int (Option.some.inj hev)))
      · replace hev := x_t c5 hev
        refine lv_iconst (v := (1 : Int32)) hx hb dX7_isSo_41 (by decide) ?_
        refine lv_goto (tgt := 46) hx hb dX7_isSo_42 (by decide) ?_
        exact ret _ _ _ dX7_isSo_46 ((show narrow _ (.int (1 : Int32)) = .int (1 : Int32) from nb1).trans (congrArg Value.int (Option.some.inj hev)))
    · replace hev := x_t c2 hev
      refine lv_iload_n hx hb dX7_isSo_12 rfl (lv_at hl 2 rfl) ?_
      obtain ⟨y6, hq, hev⟩ := x_bd hev
      refine roS X hKK hR (st1 := [.int y6]) (c_St_asked l G p2 y6 hq) K_X6_asked u691 (x_Psub hP [] rfl) (by decide) ⟨Nat.zero_le _, Nat.zero_le _⟩ rfl hl.1 rfl (Nat.le_of_ble_eq_true rfl) rfl dX7_isSo_13 ?_
      refine lv_iload_n hx hb dX7_isSo_16 rfl (lv_at hl 1 rfl) ?_
      refine lv_icmp_lt (tgt := 24) hx hb dX7_isSo_17 (by decide) (fun c7 => ?_) (fun c7 => ?_)
      · replace hev := x_t c7 hev
        refine lv_iconst (v := (0 : Int32)) hx hb dX7_isSo_24 (by decide) ?_
        exact ret _ _ _ dX7_isSo_25 ((show narrow _ (.int (0 : Int32)) = .int (0 : Int32) from nb0).trans (congrArg Value.int (Option.some.inj hev)))
      · replace hev := x_f c7 hev
        refine lv_iconst (v := (1 : Int32)) hx hb dX7_isSo_20 (by decide) ?_
        refine lv_goto (tgt := 25) hx hb dX7_isSo_21 (by decide) ?_
        exact ret _ _ _ dX7_isSo_25 ((show narrow _ (.int (1 : Int32)) = .int (1 : Int32) from nb1).trans (congrArg Value.int (Option.some.inj hev)))
  · replace hev := x_t c1 hev
    refine lv_iconst (v := (0 : Int32)) hx hb dX7_isSo_4 (by decide) ?_
    exact ret _ _ _ dX7_isSo_5 ((show narrow _ (.int (0 : Int32)) = .int (0 : Int32) from nb0).trans (congrArg Value.int (Option.some.inj hev)))
def f_Tm_lover (p0 : Int32) : Option (Int32) := if p0 = (0 : Int32) then (some (0 : Int32)) else if p0 = (1 : Int32) then (some (0 : Int32)) else if p0 = (2 : Int32) then (some (1 : Int32)) else if p0 = (3 : Int32) then (some (2 : Int32)) else if p0 = (4 : Int32) then (some (2 : Int32)) else if p0 = (5 : Int32) then (some (2 : Int32)) else if p0 = (6 : Int32) then (some (2 : Int32)) else if p0 = (7 : Int32) then (some (1 : Int32)) else some (2 : Int32)
set_option maxHeartbeats 8000000 in
set_option maxRecDepth 100000 in
theorem c_Tm_lover (l : Launch) (G : GG) (p0 : Int32) (r0 : Int32) (hev : f_Tm_lover p0 = some r0) : RO l G yX7_lover cX7_lover 1 (some .int) 0 [.int p0] [] (some (.int r0)) := by
  refine RO_of (by decide) (Nat.le_of_ble_eq_true rfl) ?_
  intro p e s m ar below meth c R Q H ls X hR hP hKK hS0 hl ret
  generalize hrs : r0 = rs at hev ret
  have hl : lv_has ls 1 [(0, .int p0)] := hl
  obtain ⟨hx, hb, hml, hown, hts, hT⟩ := id X
  have hK := hKK.1
  have hw : ∀ w ∈ T0, w.before ar s = true := fun w h => hts w (hT w h)
  unfold f_Tm_lover at hev
  refine lv_iload_n hx hb dX7_lover_0 rfl (lv_at hl 0 rfl) ?_
  by_cases c1 : p0 = (0 : Int32)
  · replace hev := x_t c1 hev
    refine lv_tableIn (tgt := 48) hx hb dX7_lover_1 (by rw [c1]; decide) (by rw [c1]; decide) (by rw [c1]; rfl) (by decide) ?_
    refine lv_iconst (v := (0 : Int32)) hx hb dX7_lover_48 (by decide) ?_
    exact ret _ _ _ dX7_lover_49 ((show narrow _ (.int (0 : Int32)) = .int (0 : Int32) from rfl).trans (congrArg Value.int (Option.some.inj hev)))
  replace hev := x_f c1 hev
  by_cases c2 : p0 = (1 : Int32)
  · replace hev := x_t c2 hev
    refine lv_tableIn (tgt := 48) hx hb dX7_lover_1 (by rw [c2]; decide) (by rw [c2]; decide) (by rw [c2]; rfl) (by decide) ?_
    refine lv_iconst (v := (0 : Int32)) hx hb dX7_lover_48 (by decide) ?_
    exact ret _ _ _ dX7_lover_49 ((show narrow _ (.int (0 : Int32)) = .int (0 : Int32) from rfl).trans (congrArg Value.int (Option.some.inj hev)))
  replace hev := x_f c2 hev
  by_cases c3 : p0 = (2 : Int32)
  · replace hev := x_t c3 hev
    refine lv_tableIn (tgt := 50) hx hb dX7_lover_1 (by rw [c3]; decide) (by rw [c3]; decide) (by rw [c3]; rfl) (by decide) ?_
    refine lv_iconst (v := (1 : Int32)) hx hb dX7_lover_50 (by decide) ?_
    exact ret _ _ _ dX7_lover_51 ((show narrow _ (.int (1 : Int32)) = .int (1 : Int32) from rfl).trans (congrArg Value.int (Option.some.inj hev)))
  replace hev := x_f c3 hev
  by_cases c4 : p0 = (3 : Int32)
  · replace hev := x_t c4 hev
    refine lv_tableIn (tgt := 52) hx hb dX7_lover_1 (by rw [c4]; decide) (by rw [c4]; decide) (by rw [c4]; rfl) (by decide) ?_
    refine lv_iconst (v := (2 : Int32)) hx hb dX7_lover_52 (by decide) ?_
    exact ret _ _ _ dX7_lover_53 ((show narrow _ (.int (2 : Int32)) = .int (2 : Int32) from rfl).trans (congrArg Value.int (Option.some.inj hev)))
  replace hev := x_f c4 hev
  by_cases c5 : p0 = (4 : Int32)
  · replace hev := x_t c5 hev
    refine lv_tableIn (tgt := 52) hx hb dX7_lover_1 (by rw [c5]; decide) (by rw [c5]; decide) (by rw [c5]; rfl) (by decide) ?_
    refine lv_iconst (v := (2 : Int32)) hx hb dX7_lover_52 (by decide) ?_
    exact ret _ _ _ dX7_lover_53 ((show narrow _ (.int (2 : Int32)) = .int (2 : Int32) from rfl).trans (congrArg Value.int (Option.some.inj hev)))
  replace hev := x_f c5 hev
  by_cases c6 : p0 = (5 : Int32)
  · replace hev := x_t c6 hev
    refine lv_tableIn (tgt := 52) hx hb dX7_lover_1 (by rw [c6]; decide) (by rw [c6]; decide) (by rw [c6]; rfl) (by decide) ?_
    refine lv_iconst (v := (2 : Int32)) hx hb dX7_lover_52 (by decide) ?_
    exact ret _ _ _ dX7_lover_53 ((show narrow _ (.int (2 : Int32)) = .int (2 : Int32) from rfl).trans (congrArg Value.int (Option.some.inj hev)))
  replace hev := x_f c6 hev
  by_cases c7 : p0 = (6 : Int32)
  · replace hev := x_t c7 hev
    refine lv_tableIn (tgt := 52) hx hb dX7_lover_1 (by rw [c7]; decide) (by rw [c7]; decide) (by rw [c7]; rfl) (by decide) ?_
    refine lv_iconst (v := (2 : Int32)) hx hb dX7_lover_52 (by decide) ?_
    exact ret _ _ _ dX7_lover_53 ((show narrow _ (.int (2 : Int32)) = .int (2 : Int32) from rfl).trans (congrArg Value.int (Option.some.inj hev)))
  replace hev := x_f c7 hev
  by_cases c8 : p0 = (7 : Int32)
  · replace hev := x_t c8 hev
    refine lv_tableIn (tgt := 50) hx hb dX7_lover_1 (by rw [c8]; decide) (by rw [c8]; decide) (by rw [c8]; rfl) (by decide) ?_
    refine lv_iconst (v := (1 : Int32)) hx hb dX7_lover_50 (by decide) ?_
    exact ret _ _ _ dX7_lover_51 ((show narrow _ (.int (1 : Int32)) = .int (1 : Int32) from rfl).trans (congrArg Value.int (Option.some.inj hev)))
  replace hev := x_f c8 hev
  refine lv_tableOut (tgt := 52) hx hb dX7_lover_1 (by have q0 : p0.toInt ≠ 0 := x_ne c1; have q1 : p0.toInt ≠ 1 := x_ne c2; have q2 : p0.toInt ≠ 2 := x_ne c3; have q3 : p0.toInt ≠ 3 := x_ne c4; have q4 : p0.toInt ≠ 4 := x_ne c5; have q5 : p0.toInt ≠ 5 := x_ne c6; have q6 : p0.toInt ≠ 6 := x_ne c7; have q7 : p0.toInt ≠ 7 := x_ne c8; omega) (by decide) ?_
  refine lv_iconst (v := (2 : Int32)) hx hb dX7_lover_52 (by decide) ?_
  exact ret _ _ _ dX7_lover_53 ((show narrow _ (.int (2 : Int32)) = .int (2 : Int32) from rfl).trans (congrArg Value.int (Option.some.inj hev)))
