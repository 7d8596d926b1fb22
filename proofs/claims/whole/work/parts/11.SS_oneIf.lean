def f_SS_oneIf (p0 : Int32) : Option (Int32) := if p0 = 0 then (some (0 : Int32)) else some (1 : Int32)
set_option maxHeartbeats 8000000 in
set_option maxRecDepth 100000 in
theorem c_SS_oneIf (l : Launch) (G : GG) (p0 : Int32) (r0 : Int32) (hev : f_SS_oneIf p0 = some r0) : RO l G yX10_oneIf cX10_oneIf 1 (some .int) 0 [.int p0] [] (some (.int r0)) := by
  refine RO_of (by decide) (Nat.le_of_ble_eq_true rfl) ?_
  intro p e s m ar below meth c R Q H ls X hR hP hKK hS0 hl ret
  generalize hrs : r0 = rs at hev ret
  have hl : lv_has ls 1 [(0, .int p0)] := hl
  obtain ⟨hx, hb, hml, hown, hts, hT⟩ := id X
  have hK := hKK.1
  have hw : ∀ w ∈ T0, w.before ar s = true := fun w h => hts w (hT w h)
  unfold f_SS_oneIf at hev
  refine lv_iload_n hx hb dX10_oneIf_0 rfl (lv_at hl 0 rfl) ?_
  refine lv_if_eq (tgt := 8) hx hb dX10_oneIf_1 (by decide) (fun c1 => ?_) (fun c1 => ?_)
  · replace hev := x_t c1 hev
    refine lv_iconst (v := (0 : Int32)) hx hb dX10_oneIf_8 (by decide) ?_
    exact ret _ _ _ dX10_oneIf_9 ((show narrow _ (.int (0 : Int32)) = .int (0 : Int32) from rfl).trans (congrArg Value.int (Option.some.inj hev)))
  · replace hev := x_f c1 hev
    refine lv_iconst (v := (1 : Int32)) hx hb dX10_oneIf_4 (by decide) ?_
    refine lv_goto (tgt := 9) hx hb dX10_oneIf_5 (by decide) ?_
    exact ret _ _ _ dX10_oneIf_9 ((show narrow _ (.int (1 : Int32)) = .int (1 : Int32) from rfl).trans (congrArg Value.int (Option.some.inj hev)))
