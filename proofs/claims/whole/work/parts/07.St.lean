def f_St_weepers (p0 : Int32) : Option (Int32) := some ((p0 >>> ((7 : Int32) &&& 31)) &&& (7 : Int32))
set_option maxHeartbeats 8000000 in
set_option maxRecDepth 100000 in
theorem c_St_weepers (l : Launch) (G : GG) (p0 : Int32) (r0 : Int32) (hev : f_St_weepers p0 = some r0) : RO l G yX6_weepers cX6_weepers 1 (some .int) 0 [.int p0] [] (some (.int r0)) := by
  refine RO_of (by decide) (Nat.le_of_ble_eq_true rfl) ?_
  intro p e s m ar below meth c R Q H ls X hR hP hKK hS0 hl ret
  generalize hrs : r0 = rs at hev ret
  have hl : lv_has ls 1 [(0, .int p0)] := hl
  obtain ⟨hx, hb, hml, hown, hts, hT⟩ := id X
  have hK := hKK.1
  have hw : ∀ w ∈ T0, w.before ar s = true := fun w h => hts w (hT w h)
  unfold f_St_weepers at hev
  refine lv_iload_n hx hb dX6_weepers_0 rfl (lv_at hl 0 rfl) ?_
  refine lv_bipush (v := (7 : Int32)) hx hb dX6_weepers_1 (by decide) ?_
  refine lv_ishr hx hb dX6_weepers_3 ?_
  refine lv_bipush (v := (7 : Int32)) hx hb dX6_weepers_4 (by decide) ?_
  refine lv_iand hx hb dX6_weepers_6 ?_
  exact ret _ _ _ dX6_weepers_7 ((show narrow _ (.int ((p0 >>> ((7 : Int32) &&& 31)) &&& (7 : Int32))) = .int ((p0 >>> ((7 : Int32) &&& 31)) &&& (7 : Int32)) from rfl).trans (congrArg Value.int (Option.some.inj hev)))
def f_St_asked (p0 : Int32) : Option (Int32) := some ((p0 >>> ((10 : Int32) &&& 31)) &&& (7 : Int32))
set_option maxHeartbeats 8000000 in
set_option maxRecDepth 100000 in
theorem c_St_asked (l : Launch) (G : GG) (p0 : Int32) (r0 : Int32) (hev : f_St_asked p0 = some r0) : RO l G yX6_asked cX6_asked 1 (some .int) 0 [.int p0] [] (some (.int r0)) := by
  refine RO_of (by decide) (Nat.le_of_ble_eq_true rfl) ?_
  intro p e s m ar below meth c R Q H ls X hR hP hKK hS0 hl ret
  generalize hrs : r0 = rs at hev ret
  have hl : lv_has ls 1 [(0, .int p0)] := hl
  obtain ⟨hx, hb, hml, hown, hts, hT⟩ := id X
  have hK := hKK.1
  have hw : ∀ w ∈ T0, w.before ar s = true := fun w h => hts w (hT w h)
  unfold f_St_asked at hev
  refine lv_iload_n hx hb dX6_asked_0 rfl (lv_at hl 0 rfl) ?_
  refine lv_bipush (v := (10 : Int32)) hx hb dX6_asked_1 (by decide) ?_
  refine lv_ishr hx hb dX6_asked_3 ?_
  refine lv_bipush (v := (7 : Int32)) hx hb dX6_asked_4 (by decide) ?_
  refine lv_iand hx hb dX6_asked_6 ?_
  exact ret _ _ _ dX6_asked_7 ((show narrow _ (.int ((p0 >>> ((10 : Int32) &&& 31)) &&& (7 : Int32))) = .int ((p0 >>> ((10 : Int32) &&& 31)) &&& (7 : Int32)) from rfl).trans (congrArg Value.int (Option.some.inj hev)))
def f_St_nextDay_J21 (x0 : Int32) (s0 : Int32) : Option (Int32) := some ((x0 &&& (-58241 : Int32)) ||| (s0 <<< ((13 : Int32) &&& 31)))
def f_St_nextDay (p0 : Int32) : Option (Int32) := x_L (((p0 >>> ((13 : Int32) &&& 31)) &&& (7 : Int32))) (fun y1 => if y1 < (6 : Int32) then (f_St_nextDay_J21 p0 (y1 + (1 : Int32))) else f_St_nextDay_J21 p0 (0 : Int32))
set_option maxHeartbeats 8000000 in
set_option maxRecDepth 100000 in
theorem c_St_nextDay (l : Launch) (G : GG) (p0 : Int32) (r0 : Int32) (hev : f_St_nextDay p0 = some r0) : RO l G yX6_nextDay cX6_nextDay 3 (some .int) 0 [.int p0] [] (some (.int r0)) := by
  refine RO_of (by decide) (Nat.le_of_ble_eq_true rfl) ?_
  intro p e s m ar below meth c R Q H ls X hR hP hKK hS0 hl ret
  generalize hrs : r0 = rs at hev ret
  have hl : lv_has ls 3 [(0, .int p0)] := hl
  obtain ⟨hx, hb, hml, hown, hts, hT⟩ := id X
  have hK := hKK.1
  have hw : ∀ w ∈ T0, w.before ar s = true := fun w h => hts w (hT w h)
  have J21 : ∀ (x0 : Int32) (s0 : Int32), ∀ (ls : Array Slot), f_St_nextDay_J21 x0 s0 = some rs → lv_has ls 3 [(0, .int x0)] → W p l e R s m ar below meth c H [] 0 0 Q (F0 m 21 ls [.int s0]) := by
    intro x0 s0 ls hev hl
    unfold f_St_nextDay_J21 at hev
    refine lv_istore_n (lv' := [(2, .int s0), (0, .int x0)]) hx hb dX6_nextDay_21 rfl hl (by decide) rfl (fun ls hl => ?_)
    refine lv_iload_n hx hb dX6_nextDay_22 rfl (lv_at hl 1 rfl) ?_
    refine lv_ldc (v := (-58241 : Int32)) hx hb hown (hw _ u743) dX6_nextDay_23 ?_
    refine lv_iand hx hb dX6_nextDay_25 ?_
    refine lv_iload_n hx hb dX6_nextDay_26 rfl (lv_at hl 0 rfl) ?_
    refine lv_bipush (v := (13 : Int32)) hx hb dX6_nextDay_27 (by decide) ?_
    refine lv_ishl hx hb dX6_nextDay_29 ?_
    refine lv_ior hx hb dX6_nextDay_30 ?_
    exact ret _ _ _ dX6_nextDay_31 ((show narrow _ (.int ((x0 &&& (-58241 : Int32)) ||| (s0 <<< ((13 : Int32) &&& 31)))) = .int ((x0 &&& (-58241 : Int32)) ||| (s0 <<< ((13 : Int32) &&& 31))) from rfl).trans (congrArg Value.int (Option.some.inj hev)))
  unfold f_St_nextDay at hev
  refine lv_iload_n hx hb dX6_nextDay_0 rfl (lv_at hl 0 rfl) ?_
  refine lv_bipush (v := (13 : Int32)) hx hb dX6_nextDay_1 (by decide) ?_
  refine lv_ishr hx hb dX6_nextDay_3 ?_
  refine lv_bipush (v := (7 : Int32)) hx hb dX6_nextDay_4 (by decide) ?_
  refine lv_iand hx hb dX6_nextDay_6 ?_
  refine lv_topi (fun y1 ey1 => ?_)
  replace hev := x_lt hev y1 ey1
  refine lv_istore_n (lv' := [(1, .int y1), (0, .int p0)]) hx hb dX6_nextDay_7 rfl hl (by decide) rfl (fun ls hl => ?_)
  refine lv_iload_n hx hb dX6_nextDay_8 rfl (lv_at hl 0 rfl) ?_
  refine lv_bipush (v := (6 : Int32)) hx hb dX6_nextDay_9 (by decide) ?_
  refine lv_icmp_lt (tgt := 18) hx hb dX6_nextDay_11 (by decide) (fun c2 => ?_) (fun c2 => ?_)
  · replace hev := x_t c2 hev
    refine lv_iload_n hx hb dX6_nextDay_18 rfl (lv_at hl 0 rfl) ?_
    refine lv_iconst (v := (1 : Int32)) hx hb dX6_nextDay_19 (by decide) ?_
    refine lv_iadd hx hb dX6_nextDay_20 ?_
    exact J21 p0 (y1 + (1 : Int32)) ls hev (lv_sub hl [1] rfl)
  · replace hev := x_f c2 hev
    refine lv_iconst (v := (0 : Int32)) hx hb dX6_nextDay_14 (by decide) ?_
    refine lv_goto (tgt := 21) hx hb dX6_nextDay_15 (by decide) ?_
    exact J21 p0 (0 : Int32) ls hev (lv_sub hl [1] rfl)
def f_St_of (p0 : Int32) : Option (Int32) := some (p0 &&& (65535 : Int32))
set_option maxHeartbeats 8000000 in
set_option maxRecDepth 100000 in
theorem c_St_of (l : Launch) (G : GG) (p0 : Int32) (r0 : Int32) (hev : f_St_of p0 = some r0) : RO l G yX6_of cX6_of 1 (some .int) 0 [.int p0] [] (some (.int r0)) := by
  refine RO_of (by decide) (Nat.le_of_ble_eq_true rfl) ?_
  intro p e s m ar below meth c R Q H ls X hR hP hKK hS0 hl ret
  generalize hrs : r0 = rs at hev ret
  have hl : lv_has ls 1 [(0, .int p0)] := hl
  obtain ⟨hx, hb, hml, hown, hts, hT⟩ := id X
  have hK := hKK.1
  have hw : ∀ w ∈ T0, w.before ar s = true := fun w h => hts w (hT w h)
  unfold f_St_of at hev
  refine lv_iload_n hx hb dX6_of_0 rfl (lv_at hl 0 rfl) ?_
  refine lv_ldc (v := (65535 : Int32)) hx hb hown (hw _ u763) dX6_of_1 ?_
  refine lv_iand hx hb dX6_of_3 ?_
  exact ret _ _ _ dX6_of_4 ((show narrow _ (.int (p0 &&& (65535 : Int32))) = .int (p0 &&& (65535 : Int32)) from rfl).trans (congrArg Value.int (Option.some.inj hev)))
def f_St_lifted (p0 : Int32) : Option (Int32) := some ((p0 >>> ((16 : Int32) &&& 31)) &&& (31 : Int32))
set_option maxHeartbeats 8000000 in
set_option maxRecDepth 100000 in
theorem c_St_lifted (l : Launch) (G : GG) (p0 : Int32) (r0 : Int32) (hev : f_St_lifted p0 = some r0) : RO l G yX6_lifted cX6_lifted 1 (some .int) 0 [.int p0] [] (some (.int r0)) := by
  refine RO_of (by decide) (Nat.le_of_ble_eq_true rfl) ?_
  intro p e s m ar below meth c R Q H ls X hR hP hKK hS0 hl ret
  generalize hrs : r0 = rs at hev ret
  have hl : lv_has ls 1 [(0, .int p0)] := hl
  obtain ⟨hx, hb, hml, hown, hts, hT⟩ := id X
  have hK := hKK.1
  have hw : ∀ w ∈ T0, w.before ar s = true := fun w h => hts w (hT w h)
  unfold f_St_lifted at hev
  refine lv_iload_n hx hb dX6_lifted_0 rfl (lv_at hl 0 rfl) ?_
  refine lv_bipush (v := (16 : Int32)) hx hb dX6_lifted_1 (by decide) ?_
  refine lv_ishr hx hb dX6_lifted_3 ?_
  refine lv_bipush (v := (31 : Int32)) hx hb dX6_lifted_4 (by decide) ?_
  refine lv_iand hx hb dX6_lifted_6 ?_
  exact ret _ _ _ dX6_lifted_7 ((show narrow _ (.int ((p0 >>> ((16 : Int32) &&& 31)) &&& (31 : Int32))) = .int ((p0 >>> ((16 : Int32) &&& 31)) &&& (31 : Int32)) from rfl).trans (congrArg Value.int (Option.some.inj hev)))
def f_St_holding (p0 : Int32) : Option (Int32) := some (p0 &&& (31 : Int32))
set_option maxHeartbeats 8000000 in
set_option maxRecDepth 100000 in
theorem c_St_holding (l : Launch) (G : GG) (p0 : Int32) (r0 : Int32) (hev : f_St_holding p0 = some r0) : RO l G yX6_holding cX6_holding 1 (some .int) 0 [.int p0] [] (some (.int r0)) := by
  refine RO_of (by decide) (Nat.le_of_ble_eq_true rfl) ?_
  intro p e s m ar below meth c R Q H ls X hR hP hKK hS0 hl ret
  generalize hrs : r0 = rs at hev ret
  have hl : lv_has ls 1 [(0, .int p0)] := hl
  obtain ⟨hx, hb, hml, hown, hts, hT⟩ := id X
  have hK := hKK.1
  have hw : ∀ w ∈ T0, w.before ar s = true := fun w h => hts w (hT w h)
  unfold f_St_holding at hev
  refine lv_iload_n hx hb dX6_holding_0 rfl (lv_at hl 0 rfl) ?_
  refine lv_bipush (v := (31 : Int32)) hx hb dX6_holding_1 (by decide) ?_
  refine lv_iand hx hb dX6_holding_3 ?_
  exact ret _ _ _ dX6_holding_4 ((show narrow _ (.int (p0 &&& (31 : Int32))) = .int (p0 &&& (31 : Int32)) from rfl).trans (congrArg Value.int (Option.some.inj hev)))
def f_St_day (p0 : Int32) : Option (Int32) := some ((p0 >>> ((13 : Int32) &&& 31)) &&& (7 : Int32))
set_option maxHeartbeats 8000000 in
set_option maxRecDepth 100000 in
theorem c_St_day (l : Launch) (G : GG) (p0 : Int32) (r0 : Int32) (hev : f_St_day p0 = some r0) : RO l G yX6_day cX6_day 1 (some .int) 0 [.int p0] [] (some (.int r0)) := by
  refine RO_of (by decide) (Nat.le_of_ble_eq_true rfl) ?_
  intro p e s m ar below meth c R Q H ls X hR hP hKK hS0 hl ret
  generalize hrs : r0 = rs at hev ret
  have hl : lv_has ls 1 [(0, .int p0)] := hl
  obtain ⟨hx, hb, hml, hown, hts, hT⟩ := id X
  have hK := hKK.1
  have hw : ∀ w ∈ T0, w.before ar s = true := fun w h => hts w (hT w h)
  unfold f_St_day at hev
  refine lv_iload_n hx hb dX6_day_0 rfl (lv_at hl 0 rfl) ?_
  refine lv_bipush (v := (13 : Int32)) hx hb dX6_day_1 (by decide) ?_
  refine lv_ishr hx hb dX6_day_3 ?_
  refine lv_bipush (v := (7 : Int32)) hx hb dX6_day_4 (by decide) ?_
  refine lv_iand hx hb dX6_day_6 ?_
  exact ret _ _ _ dX6_day_7 ((show narrow _ (.int ((p0 >>> ((13 : Int32) &&& 31)) &&& (7 : Int32))) = .int ((p0 >>> ((13 : Int32) &&& 31)) &&& (7 : Int32)) from rfl).trans (congrArg Value.int (Option.some.inj hev)))
def f_St_broken (p0 : Int32) : Option (Int32) := some ((p0 >>> ((5 : Int32) &&& 31)) &&& (3 : Int32))
set_option maxHeartbeats 8000000 in
set_option maxRecDepth 100000 in
theorem c_St_broken (l : Launch) (G : GG) (p0 : Int32) (r0 : Int32) (hev : f_St_broken p0 = some r0) : RO l G yX6_broken cX6_broken 1 (some .int) 0 [.int p0] [] (some (.int r0)) := by
  refine RO_of (by decide) (Nat.le_of_ble_eq_true rfl) ?_
  intro p e s m ar below meth c R Q H ls X hR hP hKK hS0 hl ret
  generalize hrs : r0 = rs at hev ret
  have hl : lv_has ls 1 [(0, .int p0)] := hl
  obtain ⟨hx, hb, hml, hown, hts, hT⟩ := id X
  have hK := hKK.1
  have hw : ∀ w ∈ T0, w.before ar s = true := fun w h => hts w (hT w h)
  unfold f_St_broken at hev
  refine lv_iload_n hx hb dX6_broken_0 rfl (lv_at hl 0 rfl) ?_
  refine lv_iconst (v := (5 : Int32)) hx hb dX6_broken_1 (by decide) ?_
  refine lv_ishr hx hb dX6_broken_2 ?_
  refine lv_iconst (v := (3 : Int32)) hx hb dX6_broken_3 (by decide) ?_
  refine lv_iand hx hb dX6_broken_4 ?_
  exact ret _ _ _ dX6_broken_5 ((show narrow _ (.int ((p0 >>> ((5 : Int32) &&& 31)) &&& (3 : Int32))) = .int ((p0 >>> ((5 : Int32) &&& 31)) &&& (3 : Int32)) from rfl).trans (congrArg Value.int (Option.some.inj hev)))
