def f_Rd_isSmall (p0 : Int32) : Option (Int32) := if p0 < (97 : Int32) then (some (0 : Int32)) else if (122 : Int32) < p0 then (some (0 : Int32)) else some (1 : Int32)
set_option maxHeartbeats 8000000 in
set_option maxRecDepth 100000 in
theorem c_Rd_isSmall (l : Launch) (G : GG) (p0 : Int32) (r0 : Int32) (hev : f_Rd_isSmall p0 = some r0) : RO l G yX2_isSmall cX2_isSmall 1 (some .boolean) 0 [.int p0] [] (some (.int r0)) := by
  refine RO_of (by decide) (Nat.le_of_ble_eq_true rfl) ?_
  intro p e s m ar below meth c R Q H ls X hR hP hKK hS0 hl ret
  generalize hrs : r0 = rs at hev ret
  have hl : lv_has ls 1 [(0, .int p0)] := hl
  obtain ⟨hx, hb, hml, hown, hts, hT⟩ := id X
  have hK := hKK.1
  have hw : ∀ w ∈ T0, w.before ar s = true := fun w h => hts w (hT w h)
  unfold f_Rd_isSmall at hev
  refine lv_iload_n hx hb dX2_isSmall_0 rfl (lv_at hl 0 rfl) ?_
  refine lv_bipush (v := (97 : Int32)) hx hb dX2_isSmall_1 (by decide) ?_
  refine lv_icmp_lt (tgt := 16) hx hb dX2_isSmall_3 (by decide) (fun c1 => ?_) (fun c1 => ?_)
  · replace hev := x_t c1 hev
    refine lv_iconst (v := (0 : Int32)) hx hb dX2_isSmall_16 (by decide) ?_
    exact ret _ _ _ dX2_isSmall_17 ((show narrow _ (.int (0 : Int32)) = .int (0 : Int32) from nb0).trans (congrArg Value.int (Option.some.inj hev)))
  · replace hev := x_f c1 hev
    refine lv_iload_n hx hb dX2_isSmall_6 rfl (lv_at hl 0 rfl) ?_
    refine lv_bipush (v := (122 : Int32)) hx hb dX2_isSmall_7 (by decide) ?_
    refine lv_icmp_gt (tgt := 16) hx hb dX2_isSmall_9 (by decide) (fun c2 => ?_) (fun c2 => ?_)
    · replace hev := x_t c2 hev
      refine lv_iconst (v := (0 : Int32)) hx hb dX2_isSmall_16 (by decide) ?_
      exact ret _ _ _ dX2_isSmall_17 ((show narrow _ (.int (0 : Int32)) = .int (0 : Int32) from nb0).trans (congrArg Value.int (Option.some.inj hev)))
    · replace hev := x_f c2 hev
      refine lv_iconst (v := (1 : Int32)) hx hb dX2_isSmall_12 (by decide) ?_
      refine lv_goto (tgt := 17) hx hb dX2_isSmall_13 (by decide) ?_
      exact ret _ _ _ dX2_isSmall_17 ((show narrow _ (.int (1 : Int32)) = .int (1 : Int32) from nb1).trans (congrArg Value.int (Option.some.inj hev)))
def f_Rd_isDigit (p0 : Int32) : Option (Int32) := if p0 < (48 : Int32) then (some (0 : Int32)) else if (57 : Int32) < p0 then (some (0 : Int32)) else some (1 : Int32)
set_option maxHeartbeats 8000000 in
set_option maxRecDepth 100000 in
theorem c_Rd_isDigit (l : Launch) (G : GG) (p0 : Int32) (r0 : Int32) (hev : f_Rd_isDigit p0 = some r0) : RO l G yX2_isDigit cX2_isDigit 1 (some .boolean) 0 [.int p0] [] (some (.int r0)) := by
  refine RO_of (by decide) (Nat.le_of_ble_eq_true rfl) ?_
  intro p e s m ar below meth c R Q H ls X hR hP hKK hS0 hl ret
  generalize hrs : r0 = rs at hev ret
  have hl : lv_has ls 1 [(0, .int p0)] := hl
  obtain ⟨hx, hb, hml, hown, hts, hT⟩ := id X
  have hK := hKK.1
  have hw : ∀ w ∈ T0, w.before ar s = true := fun w h => hts w (hT w h)
  unfold f_Rd_isDigit at hev
  refine lv_iload_n hx hb dX2_isDigit_0 rfl (lv_at hl 0 rfl) ?_
  refine lv_bipush (v := (48 : Int32)) hx hb dX2_isDigit_1 (by decide) ?_
  refine lv_icmp_lt (tgt := 16) hx hb dX2_isDigit_3 (by decide) (fun c1 => ?_) (fun c1 => ?_)
  · replace hev := x_t c1 hev
    refine lv_iconst (v := (0 : Int32)) hx hb dX2_isDigit_16 (by decide) ?_
    exact ret _ _ _ dX2_isDigit_17 ((show narrow _ (.int (0 : Int32)) = .int (0 : Int32) from nb0).trans (congrArg Value.int (Option.some.inj hev)))
  · replace hev := x_f c1 hev
    refine lv_iload_n hx hb dX2_isDigit_6 rfl (lv_at hl 0 rfl) ?_
    refine lv_bipush (v := (57 : Int32)) hx hb dX2_isDigit_7 (by decide) ?_
    refine lv_icmp_gt (tgt := 16) hx hb dX2_isDigit_9 (by decide) (fun c2 => ?_) (fun c2 => ?_)
    · replace hev := x_t c2 hev
      refine lv_iconst (v := (0 : Int32)) hx hb dX2_isDigit_16 (by decide) ?_
      exact ret _ _ _ dX2_isDigit_17 ((show narrow _ (.int (0 : Int32)) = .int (0 : Int32) from nb0).trans (congrArg Value.int (Option.some.inj hev)))
    · replace hev := x_f c2 hev
      refine lv_iconst (v := (1 : Int32)) hx hb dX2_isDigit_12 (by decide) ?_
      refine lv_goto (tgt := 17) hx hb dX2_isDigit_13 (by decide) ?_
      exact ret _ _ _ dX2_isDigit_17 ((show narrow _ (.int (1 : Int32)) = .int (1 : Int32) from nb1).trans (congrArg Value.int (Option.some.inj hev)))
def f_Rd_endOfToken_L63 (nT_text_items : Nat) (vT_text_size : Int32) (fT_text_items : Nat → Int32) : Nat → Int32 → Option (Int32)
  | 0, _ => none
  | k + 1, x2 => x_B (f_Rw_size vT_text_size) (fun y8 => if y8 ≤ x2 then (some x2) else x_B (f_Rw_at nT_text_items vT_text_size fT_text_items x2) (fun y10 => x_B (f_Rd_isDigit y10) (fun y11 => if y11 = 0 then (some x2) else x_L (x2 + (1 : Int32)) (fun y13 => (f_Rd_endOfToken_L63 nT_text_items vT_text_size fT_text_items k) y13))))
def f_Rd_endOfToken_L18 (nT_text_items : Nat) (vT_text_size : Int32) (fT_text_items : Nat → Int32) : Nat → Int32 → Option (Int32)
  | 0, _ => none
  | k + 1, x2 => x_B (f_Rw_size vT_text_size) (fun y15 => if y15 ≤ x2 then (some x2) else x_B (f_Rw_at nT_text_items vT_text_size fT_text_items x2) (fun y17 => x_B (f_Rd_isSmall y17) (fun y18 => if y18 = 0 then (some x2) else x_L (x2 + (1 : Int32)) (fun y20 => (f_Rd_endOfToken_L18 nT_text_items vT_text_size fT_text_items k) y20))))
def f_Rd_endOfToken (k : Nat) (nT_text_items : Nat) (vT_text_size : Int32) (fT_text_items : Nat → Int32) (p1 : Int32) : Option (Int32) := x_L ((p1 + (1 : Int32))) (fun y1 => x_B (f_Rw_at nT_text_items vT_text_size fT_text_items p1) (fun y2 => x_B (f_Rd_isSmall y2) (fun y3 => if y3 = 0 then (x_B (f_Rw_at nT_text_items vT_text_size fT_text_items p1) (fun y5 => x_B (f_Rd_isDigit y5) (fun y6 => if y6 = 0 then (some y1) else x_B (f_Rd_endOfToken_L63 nT_text_items vT_text_size fT_text_items k y1) (fun y14 => some y14)))) else x_B (f_Rd_endOfToken_L18 nT_text_items vT_text_size fT_text_items k y1) (fun y21 => some y21))))
set_option maxHeartbeats 8000000 in
set_option maxRecDepth 100000 in
theorem c_Rd_endOfToken (l : Launch) (G : GG) (aT aT_text aT_codes aT_places aT_draft aT_text_items : Nat) (vT_at : Int32) (vT_lines : Int32) (vT_text_size : Int32) (fT_text_items : Nat → Int32) (nT_text_items : Nat) (k : Nat) (p1 : Int32) (r0 : Int32) (hev : f_Rd_endOfToken k nT_text_items vT_text_size fT_text_items p1 = some r0) : RO l G yX2_endOfToken cX2_endOfToken 3 (some .int) 1 [.ref aT, .int p1] [(aT, .inr (0, [.ref aT_text, .ref aT_codes, .ref aT_places, .ref aT_draft, .int vT_at, .int vT_lines])), (aT_text, .inr (1, [.ref aT_text_items, .int vT_text_size])), (aT_text_items, .inl (G.2.1, nT_text_items, .inl fT_text_items))] (some (.int r0)) := by
  refine RO_of (by decide) (Nat.le_of_ble_eq_true rfl) ?_
  intro p e s m ar below meth c R Q H ls X hR hP hKK hS0 hl ret
  generalize hrs : r0 = rs at hev ret
  have hl : lv_has ls 3 [(0, .ref aT), (1, .int p1)] := hl
  obtain ⟨hx, hb, hml, hown, hts, hT⟩ := id X
  have hK := hKK.1
  have hw : ∀ w ∈ T0, w.before ar s = true := fun w h => hts w (hT w h)
  have i2 := fun w h => hT w (inT2 w h)
  unfold f_Rd_endOfToken at hev
  refine lv_iload_n hx hb dX2_endOfToken_0 rfl (lv_at hl 1 rfl) ?_
  refine lv_iconst (v := (1 : Int32)) hx hb dX2_endOfToken_1 (by decide) ?_
  refine lv_iadd hx hb dX2_endOfToken_2 ?_
  refine lv_topi (fun y1 ey1 => ?_)
  replace hev := x_lt hev y1 ey1
  refine lv_istore_n (lv' := [(2, .int y1), (0, .ref aT), (1, .int p1)]) hx hb dX2_endOfToken_3 rfl hl (by decide) rfl (fun ls hl => ?_)
  refine lv_aload_n hx hb dX2_endOfToken_4 rfl (lv_at hl 1 rfl) ?_
  refine va_get (D := G.1) (ci := 0) (v := .ref aT_text) (C := RX2) (T := TX2) (N := 6) hx hb hts i2 hown hK hP 0 rfl rfl 0 (by decide) (hw _ u172) (fun _ h9 => h9) rfl dX2_endOfToken_5 ?_
  refine lv_iload_n hx hb dX2_endOfToken_8 rfl (lv_at hl 2 rfl) ?_
  obtain ⟨y2, hq, hev⟩ := x_bd hev
  refine roV X hKK hR (st1 := [.int y2]) (c_Rw_at l G aT_text aT_text_items vT_text_size fT_text_items nT_text_items p1 y2 hq) K_X3_at u501 (x_Psub hP [1, 2] rfl) rfl (q0 := 0) rfl (by decide) ⟨Nat.zero_le _, Nat.zero_le _⟩ rfl hl.1 rfl (Nat.le_of_ble_eq_true rfl) rfl dX2_endOfToken_9 ?_
  obtain ⟨y3, hq, hev⟩ := x_bd hev
  refine roS X hKK hR (st1 := [.int y3]) (c_Rd_isSmall l G y2 y3 hq) K_X2_isSmall u505 (x_Psub hP [] rfl) (by decide) ⟨Nat.zero_le _, Nat.zero_le _⟩ rfl hl.1 rfl (Nat.le_of_ble_eq_true rfl) rfl dX2_endOfToken_12 ?_
  refine lv_if_eq (tgt := 49) hx hb dX2_endOfToken_15 (by decide) (fun c4 => ?_) (fun c4 => ?_)
  · replace hev := x_t c4 hev
    refine lv_aload_n hx hb dX2_endOfToken_49 rfl (lv_at hl 1 rfl) ?_
    refine va_get (D := G.1) (ci := 0) (v := .ref aT_text) (C := RX2) (T := TX2) (N := 6) hx hb hts i2 hown hK hP 0 rfl rfl 0 (by decide) (hw _ u172) (fun _ h9 => h9) rfl dX2_endOfToken_50 ?_
    refine lv_iload_n hx hb dX2_endOfToken_53 rfl (lv_at hl 2 rfl) ?_
    obtain ⟨y5, hq, hev⟩ := x_bd hev
    refine roV X hKK hR (st1 := [.int y5]) (c_Rw_at l G aT_text aT_text_items vT_text_size fT_text_items nT_text_items p1 y5 hq) K_X3_at u501 (x_Psub hP [1, 2] rfl) rfl (q0 := 0) rfl (by decide) ⟨Nat.zero_le _, Nat.zero_le _⟩ rfl hl.1 rfl (Nat.le_of_ble_eq_true rfl) rfl dX2_endOfToken_54 ?_
    obtain ⟨y6, hq, hev⟩ := x_bd hev
    refine roS X hKK hR (st1 := [.int y6]) (c_Rd_isDigit l G y5 y6 hq) K_X2_isDigit u508 (x_Psub hP [] rfl) (by decide) ⟨Nat.zero_le _, Nat.zero_le _⟩ rfl hl.1 rfl (Nat.le_of_ble_eq_true rfl) rfl dX2_endOfToken_57 ?_
    refine lv_if_eq (tgt := 94) hx hb dX2_endOfToken_60 (by decide) (fun c7 => ?_) (fun c7 => ?_)
    · replace hev := x_t c7 hev
      refine lv_iload_n hx hb dX2_endOfToken_94 rfl (lv_at hl 0 rfl) ?_
      exact ret _ _ _ dX2_endOfToken_95 ((show narrow _ (.int y1) = .int y1 from rfl).trans (congrArg Value.int (Option.some.inj hev)))
    · replace hev := x_f c7 hev
      have L63 : ∀ (k : Nat) (x2 : Int32) (o2 : Int32), f_Rd_endOfToken_L63 nT_text_items vT_text_size fT_text_items k x2 = some o2 → (∀ (ls : Array Slot), lv_has ls 3 [(2, .int o2)] → W p l e R s m ar below meth c H [] 0 0 Q (F0 m 94 ls [])) → ∀ (ls : Array Slot), lv_has ls 3 [(0, .ref aT), (2, .int x2)] → W p l e R s m ar below meth c H [] 0 0 Q (F0 m 63 ls []) := by
        intro k
        induction k with
        | zero => intro x2 o2 hev; rw [f_Rd_endOfToken_L63] at hev; cases hev
        | succ k ih =>
          intro x2 o2 hev hex ls hl
          rw [f_Rd_endOfToken_L63] at hev
          refine lv_iload_n hx hb dX2_endOfToken_63 rfl (lv_at hl 1 rfl) ?_
          refine lv_aload_n hx hb dX2_endOfToken_64 rfl (lv_at hl 0 rfl) ?_
          refine va_get (D := G.1) (ci := 0) (v := .ref aT_text) (C := RX2) (T := TX2) (N := 6) hx hb hts i2 hown hK hP 0 rfl rfl 0 (by decide) (hw _ u172) (fun _ h9 => h9) rfl dX2_endOfToken_65 ?_
          obtain ⟨y8, hq, hev⟩ := x_bd hev
          refine roV X hKK hR (st1 := [.int y8, .int x2]) (c_Rw_size l G aT_text aT_text_items vT_text_size y8 hq) K_X3_size u496 (x_Psub hP [1] rfl) rfl (q0 := 0) rfl (by decide) ⟨Nat.zero_le _, Nat.zero_le _⟩ rfl hl.1 rfl (Nat.le_of_ble_eq_true rfl) rfl dX2_endOfToken_68 ?_
          refine lv_icmp_ge (tgt := 94) hx hb dX2_endOfToken_71 (by decide) (fun c9 => ?_) (fun c9 => ?_)
          · replace hev := x_t c9 hev
            cases hev
            exact hex ls (lv_sub hl [1] rfl)
          · replace hev := x_f c9 hev
            refine lv_aload_n hx hb dX2_endOfToken_74 rfl (lv_at hl 0 rfl) ?_
            refine va_get (D := G.1) (ci := 0) (v := .ref aT_text) (C := RX2) (T := TX2) (N := 6) hx hb hts i2 hown hK hP 0 rfl rfl 0 (by decide) (hw _ u172) (fun _ h9 => h9) rfl dX2_endOfToken_75 ?_
            refine lv_iload_n hx hb dX2_endOfToken_78 rfl (lv_at hl 1 rfl) ?_
            obtain ⟨y10, hq, hev⟩ := x_bd hev
            refine roV X hKK hR (st1 := [.int y10]) (c_Rw_at l G aT_text aT_text_items vT_text_size fT_text_items nT_text_items x2 y10 hq) K_X3_at u501 (x_Psub hP [1, 2] rfl) rfl (q0 := 0) rfl (by decide) ⟨Nat.zero_le _, Nat.zero_le _⟩ rfl hl.1 rfl (Nat.le_of_ble_eq_true rfl) rfl dX2_endOfToken_79 ?_
            obtain ⟨y11, hq, hev⟩ := x_bd hev
            refine roS X hKK hR (st1 := [.int y11]) (c_Rd_isDigit l G y10 y11 hq) K_X2_isDigit u508 (x_Psub hP [] rfl) (by decide) ⟨Nat.zero_le _, Nat.zero_le _⟩ rfl hl.1 rfl (Nat.le_of_ble_eq_true rfl) rfl dX2_endOfToken_82 ?_
            refine lv_if_eq (tgt := 94) hx hb dX2_endOfToken_85 (by decide) (fun c12 => ?_) (fun c12 => ?_)
            · replace hev := x_t c12 hev
              cases hev
              exact hex ls (lv_sub hl [1] rfl)
            · replace hev := x_f c12 hev
              obtain ⟨y13, ey13⟩ : ∃ y : Int32, y = x2 + (1 : Int32) := ⟨_, rfl⟩
              refine lv_iinc (v := y13) (lv' := [(2, .int y13), (0, .ref aT)]) hx hb dX2_endOfToken_88 hl (k := 1) rfl (by rw [ey13]; rfl) (by decide) rfl (fun ls hl => ?_)
              replace hev := x_lt hev y13 ey13
              refine lv_goto (tgt := 63) hx hb dX2_endOfToken_91 (by decide) ?_
              exact ih y13 _ hev hex ls (lv_sub hl [1, 0] rfl)
      obtain ⟨y14, hq, hev⟩ := x_bd hev
      refine L63 k y1 y14 hq (fun ls hl => ?_) ls (lv_sub hl [1, 0] rfl)
      refine lv_iload_n hx hb dX2_endOfToken_94 rfl (lv_at hl 0 rfl) ?_
      exact ret _ _ _ dX2_endOfToken_95 ((show narrow _ (.int y14) = .int y14 from rfl).trans (congrArg Value.int (Option.some.inj hev)))
  · replace hev := x_f c4 hev
    have L18 : ∀ (k : Nat) (x2 : Int32) (o2 : Int32), f_Rd_endOfToken_L18 nT_text_items vT_text_size fT_text_items k x2 = some o2 → (∀ (ls : Array Slot), lv_has ls 3 [(2, .int o2)] → W p l e R s m ar below meth c H [] 0 0 Q (F0 m 94 ls [])) → ∀ (ls : Array Slot), lv_has ls 3 [(0, .ref aT), (2, .int x2)] → W p l e R s m ar below meth c H [] 0 0 Q (F0 m 18 ls []) := by
      intro k
      induction k with
      | zero => intro x2 o2 hev; rw [f_Rd_endOfToken_L18] at hev; cases hev
      | succ k ih =>
        intro x2 o2 hev hex ls hl
        rw [f_Rd_endOfToken_L18] at hev
        refine lv_iload_n hx hb dX2_endOfToken_18 rfl (lv_at hl 1 rfl) ?_
        refine lv_aload_n hx hb dX2_endOfToken_19 rfl (lv_at hl 0 rfl) ?_
        refine va_get (D := G.1) (ci := 0) (v := .ref aT_text) (C := RX2) (T := TX2) (N := 6) hx hb hts i2 hown hK hP 0 rfl rfl 0 (by decide) (hw _ u172) (fun _ h9 => h9) rfl dX2_endOfToken_20 ?_
        obtain ⟨y15, hq, hev⟩ := x_bd hev
        refine roV X hKK hR (st1 := [.int y15, .int x2]) (c_Rw_size l G aT_text aT_text_items vT_text_size y15 hq) K_X3_size u496 (x_Psub hP [1] rfl) rfl (q0 := 0) rfl (by decide) ⟨Nat.zero_le _, Nat.zero_le _⟩ rfl hl.1 rfl (Nat.le_of_ble_eq_true rfl) rfl dX2_endOfToken_23 ?_
        refine lv_icmp_ge (tgt := 94) hx hb dX2_endOfToken_26 (by decide) (fun c16 => ?_) (fun c16 => ?_)
        · replace hev := x_t c16 hev
          cases hev
          exact hex ls (lv_sub hl [1] rfl)
        · replace hev := x_f c16 hev
          refine lv_aload_n hx hb dX2_endOfToken_29 rfl (lv_at hl 0 rfl) ?_
          refine va_get (D := G.1) (ci := 0) (v := .ref aT_text) (C := RX2) (T := TX2) (N := 6) hx hb hts i2 hown hK hP 0 rfl rfl 0 (by decide) (hw _ u172) (fun _ h9 => h9) rfl dX2_endOfToken_30 ?_
          refine lv_iload_n hx hb dX2_endOfToken_33 rfl (lv_at hl 1 rfl) ?_
          obtain ⟨y17, hq, hev⟩ := x_bd hev
          refine roV X hKK hR (st1 := [.int y17]) (c_Rw_at l G aT_text aT_text_items vT_text_size fT_text_items nT_text_items x2 y17 hq) K_X3_at u501 (x_Psub hP [1, 2] rfl) rfl (q0 := 0) rfl (by decide) ⟨Nat.zero_le _, Nat.zero_le _⟩ rfl hl.1 rfl (Nat.le_of_ble_eq_true rfl) rfl dX2_endOfToken_34 ?_
          obtain ⟨y18, hq, hev⟩ := x_bd hev
          refine roS X hKK hR (st1 := [.int y18]) (c_Rd_isSmall l G y17 y18 hq) K_X2_isSmall u505 (x_Psub hP [] rfl) (by decide) ⟨Nat.zero_le _, Nat.zero_le _⟩ rfl hl.1 rfl (Nat.le_of_ble_eq_true rfl) rfl dX2_endOfToken_37 ?_
          refine lv_if_eq (tgt := 94) hx hb dX2_endOfToken_40 (by decide) (fun c19 => ?_) (fun c19 => ?_)
          · replace hev := x_t c19 hev
            cases hev
            exact hex ls (lv_sub hl [1] rfl)
          · replace hev := x_f c19 hev
            obtain ⟨y20, ey20⟩ : ∃ y : Int32, y = x2 + (1 : Int32) := ⟨_, rfl⟩
            refine lv_iinc (v := y20) (lv' := [(2, .int y20), (0, .ref aT)]) hx hb dX2_endOfToken_43 hl (k := 1) rfl (by rw [ey20]; rfl) (by decide) rfl (fun ls hl => ?_)
            replace hev := x_lt hev y20 ey20
            refine lv_goto (tgt := 18) hx hb dX2_endOfToken_46 (by decide) ?_
            exact ih y20 _ hev hex ls (lv_sub hl [1, 0] rfl)
    obtain ⟨y21, hq, hev⟩ := x_bd hev
    refine L18 k y1 y21 hq (fun ls hl => ?_) ls (lv_sub hl [1, 0] rfl)
    refine lv_iload_n hx hb dX2_endOfToken_94 rfl (lv_at hl 0 rfl) ?_
    exact ret _ _ _ dX2_endOfToken_95 ((show narrow _ (.int y21) = .int y21 from rfl).trans (congrArg Value.int (Option.some.inj hev)))
def f_Rd_lastNumberBehind_J106 (vT_draft_people : Int32) (vT_draft_spells : Int32) : Option (Int32) := x_B (f_To_spells vT_draft_spells) (fun y1 => some y1)
def f_Rd_lastNumberBehind_J86 (vT_draft_people : Int32) (vT_draft_spells : Int32) : Option (Int32) := x_B (f_To_people vT_draft_people) (fun y2 => some (y2 - (1 : Int32)))
def f_Rd_lastNumberBehind (vT_draft_people : Int32) (vT_draft_spells : Int32) (p1 : Int32) : Option (Int32) := if p1 = (12 : Int32) then (some (3 : Int32)) else if p1 = (13 : Int32) then (f_Rd_lastNumberBehind_J86 vT_draft_people vT_draft_spells) else if p1 = (14 : Int32) then (f_Rd_lastNumberBehind_J86 vT_draft_people vT_draft_spells) else if p1 = (15 : Int32) then (f_Rd_lastNumberBehind_J86 vT_draft_people vT_draft_spells) else if p1 = (16 : Int32) then (x_B (f_To_spells vT_draft_spells) (fun y8 => some (y8 - (1 : Int32)))) else if p1 = (17 : Int32) then (some (1 : Int32)) else if p1 = (18 : Int32) then (some (1 : Int32)) else if p1 = (19 : Int32) then (some (1 : Int32)) else if p1 = (20 : Int32) then (f_Rd_lastNumberBehind_J106 vT_draft_people vT_draft_spells) else if p1 = (21 : Int32) then (f_Rd_lastNumberBehind_J86 vT_draft_people vT_draft_spells) else if p1 = (22 : Int32) then (f_Rd_lastNumberBehind_J86 vT_draft_people vT_draft_spells) else if p1 = (23 : Int32) then (some (6 : Int32)) else if p1 = (24 : Int32) then (f_Rd_lastNumberBehind_J106 vT_draft_people vT_draft_spells) else if p1 = (25 : Int32) then (f_Rd_lastNumberBehind_J106 vT_draft_people vT_draft_spells) else if p1 = (26 : Int32) then (some (1 : Int32)) else if p1 = (27 : Int32) then (some (1 : Int32)) else if p1 = (28 : Int32) then (some (7 : Int32)) else some (1 : Int32)
set_option maxHeartbeats 8000000 in
set_option maxRecDepth 100000 in
theorem c_Rd_lastNumberBehind (l : Launch) (G : GG) (aT aT_text aT_codes aT_places aT_draft aT_draft_kinds aT_draft_targets aT_draft_wakes aT_draft_terms aT_draft_sorts aT_draft_numbers : Nat) (vT_at : Int32) (vT_lines : Int32) (vT_draft_people : Int32) (vT_draft_spells : Int32) (vT_draft_day : Int32) (vT_draft_broken : Int32) (p1 : Int32) (r0 : Int32) (hev : f_Rd_lastNumberBehind vT_draft_people vT_draft_spells p1 = some r0) : RO l G yX2_lastNumberBehind cX2_lastNumberBehind 2 (some .int) 1 [.ref aT, .int p1] [(aT, .inr (0, [.ref aT_text, .ref aT_codes, .ref aT_places, .ref aT_draft, .int vT_at, .int vT_lines])), (aT_draft, .inr (4, [.int vT_draft_people, .int vT_draft_spells, .int vT_draft_day, .int vT_draft_broken, .ref aT_draft_kinds, .ref aT_draft_targets, .ref aT_draft_wakes, .ref aT_draft_terms, .ref aT_draft_sorts, .ref aT_draft_numbers]))] (some (.int r0)) := by
  refine RO_of (by decide) (Nat.le_of_ble_eq_true rfl) ?_
  intro p e s m ar below meth c R Q H ls X hR hP hKK hS0 hl ret
  generalize hrs : r0 = rs at hev ret
  have hl : lv_has ls 2 [(0, .ref aT), (1, .int p1)] := hl
  obtain ⟨hx, hb, hml, hown, hts, hT⟩ := id X
  have hK := hKK.1
  have hw : ∀ w ∈ T0, w.before ar s = true := fun w h => hts w (hT w h)
  have i2 := fun w h => hT w (inT2 w h)
  have J106 : ∀ (ls : Array Slot), f_Rd_lastNumberBehind_J106 vT_draft_people vT_draft_spells = some rs → lv_has ls 2 [(0, .ref aT)] → W p l e R s m ar below meth c H [] 0 0 Q (F0 m 106 ls []) := by
    intro  ls hev hl
    unfold f_Rd_lastNumberBehind_J106 at hev
    refine lv_aload_n hx hb dX2_lastNumberBehind_106 rfl (lv_at hl 0 rfl) ?_
    refine va_get (D := G.1) (ci := 0) (v := .ref aT_draft) (C := RX2) (T := TX2) (N := 6) hx hb hts i2 hown hK hP 0 rfl rfl 3 (by decide) (hw _ u175) (fun _ h9 => h9) rfl dX2_lastNumberBehind_107 ?_
    obtain ⟨y1, hq, hev⟩ := x_bd hev
    refine roV X hKK hR (st1 := [.int y1]) (c_To_spells l G aT_draft aT_draft_kinds aT_draft_targets aT_draft_wakes aT_draft_terms aT_draft_sorts aT_draft_numbers vT_draft_people vT_draft_spells vT_draft_day vT_draft_broken y1 hq) K_X8_spells u598 (x_Psub hP [1] rfl) rfl (q0 := 0) rfl (by decide) ⟨Nat.zero_le _, Nat.zero_le _⟩ rfl hl.1 rfl (Nat.le_of_ble_eq_true rfl) rfl dX2_lastNumberBehind_110 ?_
    exact ret _ _ _ dX2_lastNumberBehind_113 ((show narrow _ (.int y1) = .int y1 from rfl).trans (congrArg Value.int (Option.some.inj hev)))
  have J86 : ∀ (ls : Array Slot), f_Rd_lastNumberBehind_J86 vT_draft_people vT_draft_spells = some rs → lv_has ls 2 [(0, .ref aT)] → W p l e R s m ar below meth c H [] 0 0 Q (F0 m 86 ls []) := by
    intro  ls hev hl
    unfold f_Rd_lastNumberBehind_J86 at hev
    refine lv_aload_n hx hb dX2_lastNumberBehind_86 rfl (lv_at hl 0 rfl) ?_
    refine va_get (D := G.1) (ci := 0) (v := .ref aT_draft) (C := RX2) (T := TX2) (N := 6) hx hb hts i2 hown hK hP 0 rfl rfl 3 (by decide) (hw _ u175) (fun _ h9 => h9) rfl dX2_lastNumberBehind_87 ?_
    obtain ⟨y2, hq, hev⟩ := x_bd hev
    refine roV X hKK hR (st1 := [.int y2]) (c_To_people l G aT_draft aT_draft_kinds aT_draft_targets aT_draft_wakes aT_draft_terms aT_draft_sorts aT_draft_numbers vT_draft_people vT_draft_spells vT_draft_day vT_draft_broken y2 hq) K_X8_people u597 (x_Psub hP [1] rfl) rfl (q0 := 0) rfl (by decide) ⟨Nat.zero_le _, Nat.zero_le _⟩ rfl hl.1 rfl (Nat.le_of_ble_eq_true rfl) rfl dX2_lastNumberBehind_90 ?_
    refine lv_iconst (v := (1 : Int32)) hx hb dX2_lastNumberBehind_93 (by decide) ?_
    refine lv_isub hx hb dX2_lastNumberBehind_94 ?_
    exact ret _ _ _ dX2_lastNumberBehind_95 ((show narrow _ (.int (y2 - (1 : Int32))) = .int (y2 - (1 : Int32)) from rfl).trans (congrArg Value.int (Option.some.inj hev)))
  unfold f_Rd_lastNumberBehind at hev
  refine lv_iload_n hx hb dX2_lastNumberBehind_0 rfl (lv_at hl 1 rfl) ?_
  by_cases c3 : p1 = (12 : Int32)
  · replace hev := x_t c3 hev
    refine lv_tableIn (tgt := 84) hx hb dX2_lastNumberBehind_1 (by rw [c3]; decide) (by rw [c3]; decide) (by rw [c3]; rfl) (by decide) ?_
    refine lv_iconst (v := (3 : Int32)) hx hb dX2_lastNumberBehind_84 (by decide) ?_
    exact ret _ _ _ dX2_lastNumberBehind_85 ((show narrow _ (.int (3 : Int32)) = .int (3 : Int32) from rfl).trans (congrArg Value.int (Option.some.inj hev)))
  replace hev := x_f c3 hev
  by_cases c4 : p1 = (13 : Int32)
  · replace hev := x_t c4 hev
    refine lv_tableIn (tgt := 86) hx hb dX2_lastNumberBehind_1 (by rw [c4]; decide) (by rw [c4]; decide) (by rw [c4]; rfl) (by decide) ?_
    exact J86  ls hev (lv_sub hl [0] rfl)
  replace hev := x_f c4 hev
  by_cases c5 : p1 = (14 : Int32)
  · replace hev := x_t c5 hev
    refine lv_tableIn (tgt := 86) hx hb dX2_lastNumberBehind_1 (by rw [c5]; decide) (by rw [c5]; decide) (by rw [c5]; rfl) (by decide) ?_
    exact J86  ls hev (lv_sub hl [0] rfl)
  replace hev := x_f c5 hev
  by_cases c6 : p1 = (15 : Int32)
  · replace hev := x_t c6 hev
    refine lv_tableIn (tgt := 86) hx hb dX2_lastNumberBehind_1 (by rw [c6]; decide) (by rw [c6]; decide) (by rw [c6]; rfl) (by decide) ?_
    exact J86  ls hev (lv_sub hl [0] rfl)
  replace hev := x_f c6 hev
  by_cases c7 : p1 = (16 : Int32)
  · replace hev := x_t c7 hev
    refine lv_tableIn (tgt := 96) hx hb dX2_lastNumberBehind_1 (by rw [c7]; decide) (by rw [c7]; decide) (by rw [c7]; rfl) (by decide) ?_
    refine lv_aload_n hx hb dX2_lastNumberBehind_96 rfl (lv_at hl 0 rfl) ?_
    refine va_get (D := G.1) (ci := 0) (v := .ref aT_draft) (C := RX2) (T := TX2) (N := 6) hx hb hts i2 hown hK hP 0 rfl rfl 3 (by decide) (hw _ u175) (fun _ h9 => h9) rfl dX2_lastNumberBehind_97 ?_
    obtain ⟨y8, hq, hev⟩ := x_bd hev
    refine roV X hKK hR (st1 := [.int y8]) (c_To_spells l G aT_draft aT_draft_kinds aT_draft_targets aT_draft_wakes aT_draft_terms aT_draft_sorts aT_draft_numbers vT_draft_people vT_draft_spells vT_draft_day vT_draft_broken y8 hq) K_X8_spells u598 (x_Psub hP [1] rfl) rfl (q0 := 0) rfl (by decide) ⟨Nat.zero_le _, Nat.zero_le _⟩ rfl hl.1 rfl (Nat.le_of_ble_eq_true rfl) rfl dX2_lastNumberBehind_100 ?_
    refine lv_iconst (v := (1 : Int32)) hx hb dX2_lastNumberBehind_103 (by decide) ?_
    refine lv_isub hx hb dX2_lastNumberBehind_104 ?_
    exact ret _ _ _ dX2_lastNumberBehind_105 ((show narrow _ (.int (y8 - (1 : Int32))) = .int (y8 - (1 : Int32)) from rfl).trans (congrArg Value.int (Option.some.inj hev)))
  replace hev := x_f c7 hev
  by_cases c9 : p1 = (17 : Int32)
  · replace hev := x_t c9 hev
    refine lv_tableIn (tgt := 120) hx hb dX2_lastNumberBehind_1 (by rw [c9]; decide) (by rw [c9]; decide) (by rw [c9]; rfl) (by decide) ?_
    refine lv_iconst (v := (1 : Int32)) hx hb dX2_lastNumberBehind_120 (by decide) ?_
    exact ret _ _ _ dX2_lastNumberBehind_121 ((show narrow _ (.int (1 : Int32)) = .int (1 : Int32) from rfl).trans (congrArg Value.int (Option.some.inj hev)))
  replace hev := x_f c9 hev
  by_cases c10 : p1 = (18 : Int32)
  · replace hev := x_t c10 hev
    refine lv_tableIn (tgt := 120) hx hb dX2_lastNumberBehind_1 (by rw [c10]; decide) (by rw [c10]; decide) (by rw [c10]; rfl) (by decide) ?_
    refine lv_iconst (v := (1 : Int32)) hx hb dX2_lastNumberBehind_120 (by decide) ?_
    exact ret _ _ _ dX2_lastNumberBehind_121 ((show narrow _ (.int (1 : Int32)) = .int (1 : Int32) from rfl).trans (congrArg Value.int (Option.some.inj hev)))
  replace hev := x_f c10 hev
  by_cases c11 : p1 = (19 : Int32)
  · replace hev := x_t c11 hev
    refine lv_tableIn (tgt := 120) hx hb dX2_lastNumberBehind_1 (by rw [c11]; decide) (by rw [c11]; decide) (by rw [c11]; rfl) (by decide) ?_
    refine lv_iconst (v := (1 : Int32)) hx hb dX2_lastNumberBehind_120 (by decide) ?_
    exact ret _ _ _ dX2_lastNumberBehind_121 ((show narrow _ (.int (1 : Int32)) = .int (1 : Int32) from rfl).trans (congrArg Value.int (Option.some.inj hev)))
  replace hev := x_f c11 hev
  by_cases c12 : p1 = (20 : Int32)
  · replace hev := x_t c12 hev
    refine lv_tableIn (tgt := 106) hx hb dX2_lastNumberBehind_1 (by rw [c12]; decide) (by rw [c12]; decide) (by rw [c12]; rfl) (by decide) ?_
    exact J106  ls hev (lv_sub hl [0] rfl)
  replace hev := x_f c12 hev
  by_cases c13 : p1 = (21 : Int32)
  · replace hev := x_t c13 hev
    refine lv_tableIn (tgt := 86) hx hb dX2_lastNumberBehind_1 (by rw [c13]; decide) (by rw [c13]; decide) (by rw [c13]; rfl) (by decide) ?_
    exact J86  ls hev (lv_sub hl [0] rfl)
  replace hev := x_f c13 hev
  by_cases c14 : p1 = (22 : Int32)
  · replace hev := x_t c14 hev
    refine lv_tableIn (tgt := 86) hx hb dX2_lastNumberBehind_1 (by rw [c14]; decide) (by rw [c14]; decide) (by rw [c14]; rfl) (by decide) ?_
    exact J86  ls hev (lv_sub hl [0] rfl)
  replace hev := x_f c14 hev
  by_cases c15 : p1 = (23 : Int32)
  · replace hev := x_t c15 hev
    refine lv_tableIn (tgt := 114) hx hb dX2_lastNumberBehind_1 (by rw [c15]; decide) (by rw [c15]; decide) (by rw [c15]; rfl) (by decide) ?_
    refine lv_bipush (v := (6 : Int32)) hx hb dX2_lastNumberBehind_114 (by decide) ?_
    exact ret _ _ _ dX2_lastNumberBehind_116 ((show narrow _ (.int (6 : Int32)) = .int (6 : Int32) from rfl).trans (congrArg Value.int (Option.some.inj hev)))
  replace hev := x_f c15 hev
  by_cases c16 : p1 = (24 : Int32)
  · replace hev := x_t c16 hev
    refine lv_tableIn (tgt := 106) hx hb dX2_lastNumberBehind_1 (by rw [c16]; decide) (by rw [c16]; decide) (by rw [c16]; rfl) (by decide) ?_
    exact J106  ls hev (lv_sub hl [0] rfl)
  replace hev := x_f c16 hev
  by_cases c17 : p1 = (25 : Int32)
  · replace hev := x_t c17 hev
    refine lv_tableIn (tgt := 106) hx hb dX2_lastNumberBehind_1 (by rw [c17]; decide) (by rw [c17]; decide) (by rw [c17]; rfl) (by decide) ?_
    exact J106  ls hev (lv_sub hl [0] rfl)
  replace hev := x_f c17 hev
  by_cases c18 : p1 = (26 : Int32)
  · replace hev := x_t c18 hev
    refine lv_tableIn (tgt := 120) hx hb dX2_lastNumberBehind_1 (by rw [c18]; decide) (by rw [c18]; decide) (by rw [c18]; rfl) (by decide) ?_
    refine lv_iconst (v := (1 : Int32)) hx hb dX2_lastNumberBehind_120 (by decide) ?_
    exact ret _ _ _ dX2_lastNumberBehind_121 ((show narrow _ (.int (1 : Int32)) = .int (1 : Int32) from rfl).trans (congrArg Value.int (Option.some.inj hev)))
  replace hev := x_f c18 hev
  by_cases c19 : p1 = (27 : Int32)
  · replace hev := x_t c19 hev
    refine lv_tableIn (tgt := 120) hx hb dX2_lastNumberBehind_1 (by rw [c19]; decide) (by rw [c19]; decide) (by rw [c19]; rfl) (by decide) ?_
    refine lv_iconst (v := (1 : Int32)) hx hb dX2_lastNumberBehind_120 (by decide) ?_
    exact ret _ _ _ dX2_lastNumberBehind_121 ((show narrow _ (.int (1 : Int32)) = .int (1 : Int32) from rfl).trans (congrArg Value.int (Option.some.inj hev)))
  replace hev := x_f c19 hev
  by_cases c20 : p1 = (28 : Int32)
  · replace hev := x_t c20 hev
    refine lv_tableIn (tgt := 117) hx hb dX2_lastNumberBehind_1 (by rw [c20]; decide) (by rw [c20]; decide) (by rw [c20]; rfl) (by decide) ?_
    refine lv_bipush (v := (7 : Int32)) hx hb dX2_lastNumberBehind_117 (by decide) ?_
    exact ret _ _ _ dX2_lastNumberBehind_119 ((show narrow _ (.int (7 : Int32)) = .int (7 : Int32) from rfl).trans (congrArg Value.int (Option.some.inj hev)))
  replace hev := x_f c20 hev
  refine lv_tableOut (tgt := 120) hx hb dX2_lastNumberBehind_1 (by have q0 : p1.toInt ≠ 12 := x_ne c3; have q1 : p1.toInt ≠ 13 := x_ne c4; have q2 : p1.toInt ≠ 14 := x_ne c5; have q3 : p1.toInt ≠ 15 := x_ne c6; have q4 : p1.toInt ≠ 16 := x_ne c7; have q5 : p1.toInt ≠ 17 := x_ne c9; have q6 : p1.toInt ≠ 18 := x_ne c10; have q7 : p1.toInt ≠ 19 := x_ne c11; have q8 : p1.toInt ≠ 20 := x_ne c12; have q9 : p1.toInt ≠ 21 := x_ne c13; have q10 : p1.toInt ≠ 22 := x_ne c14; have q11 : p1.toInt ≠ 23 := x_ne c15; have q12 : p1.toInt ≠ 24 := x_ne c16; have q13 : p1.toInt ≠ 25 := x_ne c17; have q14 : p1.toInt ≠ 26 := x_ne c18; have q15 : p1.toInt ≠ 27 := x_ne c19; have q16 : p1.toInt ≠ 28 := x_ne c20; omega) (by decide) ?_
  refine lv_iconst (v := (1 : Int32)) hx hb dX2_lastNumberBehind_120 (by decide) ?_
  exact ret _ _ _ dX2_lastNumberBehind_121 ((show narrow _ (.int (1 : Int32)) = .int (1 : Int32) from rfl).trans (congrArg Value.int (Option.some.inj hev)))
def f_Rd_takeNumberBehind_J29 (nT_codes_items : Nat) (vT_at : Int32) (vT_codes_size : Int32) (vT_draft_people : Int32) (vT_draft_spells : Int32) (fT_codes_items : Nat → Int32) (x1 : Int32) (x2 : Int32) (s0 : Int32) : Option (Int32 × Int32) := if x2 < s0 then (some ((-1 : Int32), vT_at)) else if (9 : Int32) < x2 then (some ((-1 : Int32), vT_at)) else x_B (f_Rd_lastNumberBehind vT_draft_people vT_draft_spells x1) (fun y3 => if x2 ≤ y3 then (x_L ((vT_at + (1 : Int32))) (fun y5 => some (x2, y5))) else some ((-1 : Int32), vT_at))
def f_Rd_takeNumberBehind_J24 (nT_codes_items : Nat) (vT_at : Int32) (vT_codes_size : Int32) (vT_draft_people : Int32) (vT_draft_spells : Int32) (fT_codes_items : Nat → Int32) (x1 : Int32) (x2 : Int32) : Option (Int32 × Int32) := f_Rd_takeNumberBehind_J29 nT_codes_items vT_at vT_codes_size vT_draft_people vT_draft_spells fT_codes_items x1 x2 (1 : Int32)
def f_Rd_takeNumberBehind (nT_codes_items : Nat) (vT_at : Int32) (vT_codes_size : Int32) (vT_draft_people : Int32) (vT_draft_spells : Int32) (fT_codes_items : Nat → Int32) (p1 : Int32) : Option (Int32 × Int32) := x_B (f_Rw_at nT_codes_items vT_codes_size fT_codes_items vT_at) (fun y6 => if p1 = (12 : Int32) then (f_Rd_takeNumberBehind_J24 nT_codes_items vT_at vT_codes_size vT_draft_people vT_draft_spells fT_codes_items p1 y6) else if p1 = (28 : Int32) then (f_Rd_takeNumberBehind_J24 nT_codes_items vT_at vT_codes_size vT_draft_people vT_draft_spells fT_codes_items p1 y6) else f_Rd_takeNumberBehind_J29 nT_codes_items vT_at vT_codes_size vT_draft_people vT_draft_spells fT_codes_items p1 y6 (0 : Int32))
set_option maxHeartbeats 8000000 in
set_option maxRecDepth 100000 in
theorem c_Rd_takeNumberBehind (l : Launch) (G : GG) (aT aT_text aT_codes aT_places aT_draft aT_codes_items aT_draft_kinds aT_draft_targets aT_draft_wakes aT_draft_terms aT_draft_sorts aT_draft_numbers : Nat) (vT_at : Int32) (vT_lines : Int32) (vT_codes_size : Int32) (vT_draft_people : Int32) (vT_draft_spells : Int32) (vT_draft_day : Int32) (vT_draft_broken : Int32) (fT_codes_items : Nat → Int32) (nT_codes_items : Nat) (p1 : Int32) (r0 : Int32) (wvT_at : Int32) (hev : f_Rd_takeNumberBehind nT_codes_items vT_at vT_codes_size vT_draft_people vT_draft_spells fT_codes_items p1 = some (r0, wvT_at)) : RW l G yX2_takeNumberBehind cX2_takeNumberBehind 4 (some .int) 2 [.ref aT, .int p1] [(aT, .inr (0, [.ref aT_text, .ref aT_codes, .ref aT_places, .ref aT_draft, .int vT_at, .int vT_lines])), (aT_codes, .inr (1, [.ref aT_codes_items, .int vT_codes_size])), (aT_draft, .inr (4, [.int vT_draft_people, .int vT_draft_spells, .int vT_draft_day, .int vT_draft_broken, .ref aT_draft_kinds, .ref aT_draft_targets, .ref aT_draft_wakes, .ref aT_draft_terms, .ref aT_draft_sorts, .ref aT_draft_numbers])), (aT_codes_items, .inl (G.2.1, nT_codes_items, .inl fT_codes_items))] (some (.int r0)) [(aT, .inr (0, [.ref aT_text, .ref aT_codes, .ref aT_places, .ref aT_draft, .int wvT_at, .int vT_lines])), (aT_codes, .inr (1, [.ref aT_codes_items, .int vT_codes_size])), (aT_draft, .inr (4, [.int vT_draft_people, .int vT_draft_spells, .int vT_draft_day, .int vT_draft_broken, .ref aT_draft_kinds, .ref aT_draft_targets, .ref aT_draft_wakes, .ref aT_draft_terms, .ref aT_draft_sorts, .ref aT_draft_numbers])), (aT_codes_items, .inl (G.2.1, nT_codes_items, .inl fT_codes_items))] 0 0 := by
  refine RW_of (by decide) (Nat.le_of_ble_eq_true rfl) ?_
  intro p e s m ar below meth c R Q A ls X hR hRc hin hP hKK hD hS hA hAb hl ret
  obtain ⟨rs, hrs⟩ : ∃ q, q = (r0, wvT_at) := ⟨_, rfl⟩
  rw [← hrs] at hev
  have ret2 : ∀ (pc : Nat) (ls : Array Slot) (H : Heap) (lo : List Loc) (v r1 : Int32) (zvT_at : Int32), (r1, zvT_at) = rs → decode cX2_takeNumberBehind pc = .ok (.ireturn, 1) → narrow .int (.int v) = .int r1 → va_P G.1 classes [(aT, .inr (0, [.ref aT_text, .ref aT_codes, .ref aT_places, .ref aT_draft, .int zvT_at, .int vT_lines])), (aT_codes, .inr (1, [.ref aT_codes_items, .int vT_codes_size])), (aT_draft, .inr (4, [.int vT_draft_people, .int vT_draft_spells, .int vT_draft_day, .int vT_draft_broken, .ref aT_draft_kinds, .ref aT_draft_targets, .ref aT_draft_wakes, .ref aT_draft_terms, .ref aT_draft_sorts, .ref aT_draft_numbers])), (aT_codes_items, .inl (G.2.1, nT_codes_items, .inl fT_codes_items))] H → va_D A [(aT, .inr (0, [.ref aT_text, .ref aT_codes, .ref aT_places, .ref aT_draft, .int zvT_at, .int vT_lines])), (aT_codes, .inr (1, [.ref aT_codes_items, .int vT_codes_size])), (aT_draft, .inr (4, [.int vT_draft_people, .int vT_draft_spells, .int vT_draft_day, .int vT_draft_broken, .ref aT_draft_kinds, .ref aT_draft_targets, .ref aT_draft_wakes, .ref aT_draft_terms, .ref aT_draft_sorts, .ref aT_draft_numbers])), (aT_codes_items, .inl (G.2.1, nT_codes_items, .inl fT_codes_items))] → va_S A s.heap H lo → W p l e R s m ar below meth c H lo 0 0 Q (F0 m pc ls [.int v]) := by
    intro pc ls H lo v r1 zvT_at he hd hn h1 h2 h3
    have he := he.trans hrs
    cases he
    exact ret.1 _ _ _ _ _ _ _ rfl rfl hd hn h1 h2 h3
  clear ret hrs
  have hl : lv_has ls 4 [(0, .ref aT), (1, .int p1)] := hl
  obtain ⟨hx, hb, hml, hown, hts, hT⟩ := id X
  have hK := hKK.1
  have hw : ∀ w ∈ T0, w.before ar s = true := fun w h => hts w (hT w h)
  have i2 := fun w h => hT w (inT2 w h)
  have J29 : ∀ (vT_at : Int32) (x1 : Int32) (x2 : Int32) (s0 : Int32), ∀ (H : Heap) (lo : List Loc), va_P G.1 classes [(aT, .inr (0, [.ref aT_text, .ref aT_codes, .ref aT_places, .ref aT_draft, .int vT_at, .int vT_lines])), (aT_codes, .inr (1, [.ref aT_codes_items, .int vT_codes_size])), (aT_draft, .inr (4, [.int vT_draft_people, .int vT_draft_spells, .int vT_draft_day, .int vT_draft_broken, .ref aT_draft_kinds, .ref aT_draft_targets, .ref aT_draft_wakes, .ref aT_draft_terms, .ref aT_draft_sorts, .ref aT_draft_numbers])), (aT_codes_items, .inl (G.2.1, nT_codes_items, .inl fT_codes_items))] H → va_D A [(aT, .inr (0, [.ref aT_text, .ref aT_codes, .ref aT_places, .ref aT_draft, .int vT_at, .int vT_lines])), (aT_codes, .inr (1, [.ref aT_codes_items, .int vT_codes_size])), (aT_draft, .inr (4, [.int vT_draft_people, .int vT_draft_spells, .int vT_draft_day, .int vT_draft_broken, .ref aT_draft_kinds, .ref aT_draft_targets, .ref aT_draft_wakes, .ref aT_draft_terms, .ref aT_draft_sorts, .ref aT_draft_numbers])), (aT_codes_items, .inl (G.2.1, nT_codes_items, .inl fT_codes_items))] → va_S A s.heap H lo → ∀ (ls : Array Slot), f_Rd_takeNumberBehind_J29 nT_codes_items vT_at vT_codes_size vT_draft_people vT_draft_spells fT_codes_items x1 x2 s0 = some rs → lv_has ls 4 [(0, .ref aT), (1, .int x1), (2, .int x2)] → W p l e R s m ar below meth c H lo 0 0 Q (F0 m 29 ls [.int s0]) := by
    intro vT_at x1 x2 s0 H lo hP hD hS ls hev hl
    unfold f_Rd_takeNumberBehind_J29 at hev
    refine lv_istore_n (lv' := [(3, .int s0), (0, .ref aT), (1, .int x1), (2, .int x2)]) hx hb dX2_takeNumberBehind_29 rfl hl (by decide) rfl (fun ls hl => ?_)
    refine lv_iload_n hx hb dX2_takeNumberBehind_30 rfl (lv_at hl 3 rfl) ?_
    refine lv_iload_n hx hb dX2_takeNumberBehind_31 rfl (lv_at hl 0 rfl) ?_
    refine lv_icmp_lt (tgt := 50) hx hb dX2_takeNumberBehind_32 (by decide) (fun c1 => ?_) (fun c1 => ?_)
    · replace hev := x_t c1 hev
      refine lv_iconst (v := (-1 : Int32)) hx hb dX2_takeNumberBehind_50 (by decide) ?_
      exact ret2 _ _ _ _ (-1 : Int32) (-1 : Int32) vT_at (Option.some.inj hev) dX2_takeNumberBehind_51 (show narrow _ (.int (-1 : Int32)) = .int (-1 : Int32) from rfl) hP hD hS
    · replace hev := x_f c1 hev
      refine lv_iload_n hx hb dX2_takeNumberBehind_35 rfl (lv_at hl 3 rfl) ?_
      refine lv_bipush (v := (9 : Int32)) hx hb dX2_takeNumberBehind_36 (by decide) ?_
      refine lv_icmp_gt (tgt := 50) hx hb dX2_takeNumberBehind_38 (by decide) (fun c2 => ?_) (fun c2 => ?_)
      · replace hev := x_t c2 hev
        refine lv_iconst (v := (-1 : Int32)) hx hb dX2_takeNumberBehind_50 (by decide) ?_
        exact ret2 _ _ _ _ (-1 : Int32) (-1 : Int32) vT_at (Option.some.inj hev) dX2_takeNumberBehind_51 (show narrow _ (.int (-1 : Int32)) = .int (-1 : Int32) from rfl) hP hD hS
      · replace hev := x_f c2 hev
        refine lv_iload_n hx hb dX2_takeNumberBehind_41 rfl (lv_at hl 3 rfl) ?_
        refine lv_aload_n hx hb dX2_takeNumberBehind_42 rfl (lv_at hl 1 rfl) ?_
        refine lv_iload_n hx hb dX2_takeNumberBehind_43 rfl (lv_at hl 2 rfl) ?_
        obtain ⟨y3, hq, hev⟩ := x_bd hev
        refine roV X (KK_at hKK hS hAb) hR (st1 := [.int y3, .int x2]) (c_Rd_lastNumberBehind l G aT aT_text aT_codes aT_places aT_draft aT_draft_kinds aT_draft_targets aT_draft_wakes aT_draft_terms aT_draft_sorts aT_draft_numbers vT_at vT_lines vT_draft_people vT_draft_spells vT_draft_day vT_draft_broken x1 y3 hq) K_X2_lastNumberBehind u593 (x_Psub hP [0, 2] rfl) rfl (q0 := 0) rfl (by decide) ⟨Nat.zero_le _, Nat.zero_le _⟩ rfl hl.1 rfl (Nat.le_of_ble_eq_true rfl) rfl dX2_takeNumberBehind_44 ?_
        refine lv_icmp_le (tgt := 52) hx hb dX2_takeNumberBehind_47 (by decide) (fun c4 => ?_) (fun c4 => ?_)
        · replace hev := x_t c4 hev
          refine lv_aload_n hx hb dX2_takeNumberBehind_52 rfl (lv_at hl 1 rfl) ?_
          refine lv_dup hx hb dX2_takeNumberBehind_53 rfl ?_
          refine va_get (D := G.1) (ci := 0) (v := .int vT_at) (C := RX2) (T := TX2) (N := 6) hx hb hts i2 hown hK hP 0 rfl rfl 4 (by decide) (hw _ u176) (fun _ h9 => h9) rfl dX2_takeNumberBehind_54 ?_
          refine lv_iconst (v := (1 : Int32)) hx hb dX2_takeNumberBehind_57 (by decide) ?_
          refine lv_iadd hx hb dX2_takeNumberBehind_58 ?_
          refine lv_topi (fun y5 ey5 => ?_)
          replace hev := x_lt hev y5 ey5
          refine va_put (D := G.1) (ci := 0) (v := .int y5) (ty := .int) (C := RX2) (T := TX2) (N := 6) hx hb hts i2 tyX2 tyX2_ok nmX2 hown hK hP hD hS 0 rfl rfl 4 (by decide) (hw _ u176) (fun _ h9 => h9) rfl (by decide +kernel) rfl rfl (Nat.le_of_ble_eq_true rfl) dX2_takeNumberBehind_59 (fun H lo hP hD hS => ?_)
          refine lv_iload_n hx hb dX2_takeNumberBehind_62 rfl (lv_at hl 3 rfl) ?_
          exact ret2 _ _ _ _ x2 x2 y5 (Option.some.inj hev) dX2_takeNumberBehind_63 (show narrow _ (.int x2) = .int x2 from rfl) hP hD hS
        · replace hev := x_f c4 hev
          refine lv_iconst (v := (-1 : Int32)) hx hb dX2_takeNumberBehind_50 (by decide) ?_
          exact ret2 _ _ _ _ (-1 : Int32) (-1 : Int32) vT_at (Option.some.inj hev) dX2_takeNumberBehind_51 (show narrow _ (.int (-1 : Int32)) = .int (-1 : Int32) from rfl) hP hD hS
  have J24 : ∀ (vT_at : Int32) (x1 : Int32) (x2 : Int32), ∀ (H : Heap) (lo : List Loc), va_P G.1 classes [(aT, .inr (0, [.ref aT_text, .ref aT_codes, .ref aT_places, .ref aT_draft, .int vT_at, .int vT_lines])), (aT_codes, .inr (1, [.ref aT_codes_items, .int vT_codes_size])), (aT_draft, .inr (4, [.int vT_draft_people, .int vT_draft_spells, .int vT_draft_day, .int vT_draft_broken, .ref aT_draft_kinds, .ref aT_draft_targets, .ref aT_draft_wakes, .ref aT_draft_terms, .ref aT_draft_sorts, .ref aT_draft_numbers])), (aT_codes_items, .inl (G.2.1, nT_codes_items, .inl fT_codes_items))] H → va_D A [(aT, .inr (0, [.ref aT_text, .ref aT_codes, .ref aT_places, .ref aT_draft, .int vT_at, .int vT_lines])), (aT_codes, .inr (1, [.ref aT_codes_items, .int vT_codes_size])), (aT_draft, .inr (4, [.int vT_draft_people, .int vT_draft_spells, .int vT_draft_day, .int vT_draft_broken, .ref aT_draft_kinds, .ref aT_draft_targets, .ref aT_draft_wakes, .ref aT_draft_terms, .ref aT_draft_sorts, .ref aT_draft_numbers])), (aT_codes_items, .inl (G.2.1, nT_codes_items, .inl fT_codes_items))] → va_S A s.heap H lo → ∀ (ls : Array Slot), f_Rd_takeNumberBehind_J24 nT_codes_items vT_at vT_codes_size vT_draft_people vT_draft_spells fT_codes_items x1 x2 = some rs → lv_has ls 4 [(0, .ref aT), (1, .int x1), (2, .int x2)] → W p l e R s m ar below meth c H lo 0 0 Q (F0 m 24 ls []) := by
    intro vT_at x1 x2 H lo hP hD hS ls hev hl
    unfold f_Rd_takeNumberBehind_J24 at hev
    refine lv_iconst (v := (1 : Int32)) hx hb dX2_takeNumberBehind_24 (by decide) ?_
    refine lv_goto (tgt := 29) hx hb dX2_takeNumberBehind_25 (by decide) ?_
    exact J29 vT_at x1 x2 (1 : Int32) _ _ hP hD hS ls hev (lv_sub hl [0, 1, 2] rfl)
  unfold f_Rd_takeNumberBehind at hev
  refine lv_aload_n hx hb dX2_takeNumberBehind_0 rfl (lv_at hl 0 rfl) ?_
  refine va_get (D := G.1) (ci := 0) (v := .ref aT_codes) (C := RX2) (T := TX2) (N := 6) hx hb hts i2 hown hK hP 0 rfl rfl 1 (by decide) (hw _ u173) (fun _ h9 => h9) rfl dX2_takeNumberBehind_1 ?_
  refine lv_aload_n hx hb dX2_takeNumberBehind_4 rfl (lv_at hl 0 rfl) ?_
  refine va_get (D := G.1) (ci := 0) (v := .int vT_at) (C := RX2) (T := TX2) (N := 6) hx hb hts i2 hown hK hP 0 rfl rfl 4 (by decide) (hw _ u176) (fun _ h9 => h9) rfl dX2_takeNumberBehind_5 ?_
  obtain ⟨y6, hq, hev⟩ := x_bd hev
  refine roV X (KK_at hKK hS hAb) hR (st1 := [.int y6]) (c_Rw_at l G aT_codes aT_codes_items vT_codes_size fT_codes_items nT_codes_items vT_at y6 hq) K_X3_at u501 (x_Psub hP [1, 3] rfl) rfl (q0 := 0) rfl (by decide) ⟨Nat.zero_le _, Nat.zero_le _⟩ rfl hl.1 rfl (Nat.le_of_ble_eq_true rfl) rfl dX2_takeNumberBehind_8 ?_
  refine lv_istore_n (lv' := [(2, .int y6), (0, .ref aT), (1, .int p1)]) hx hb dX2_takeNumberBehind_11 rfl hl (by decide) rfl (fun ls hl => ?_)
  refine lv_iload_n hx hb dX2_takeNumberBehind_12 rfl (lv_at hl 2 rfl) ?_
  refine lv_bipush (v := (12 : Int32)) hx hb dX2_takeNumberBehind_13 (by decide) ?_
  refine lv_icmp_eq (tgt := 24) hx hb dX2_takeNumberBehind_15 (by decide) (fun c7 => ?_) (fun c7 => ?_)
  · replace hev := x_t c7 hev
    exact J24 vT_at p1 y6 _ _ hP hD hS ls hev (lv_sub hl [1, 2, 0] rfl)
  · replace hev := x_f c7 hev
    refine lv_iload_n hx hb dX2_takeNumberBehind_18 rfl (lv_at hl 2 rfl) ?_
    refine lv_bipush (v := (28 : Int32)) hx hb dX2_takeNumberBehind_19 (by decide) ?_
    refine lv_icmp_ne (tgt := 28) hx hb dX2_takeNumberBehind_21 (by decide) (fun c8 => ?_) (fun c8 => ?_)
    · replace hev := x_f c8 hev
      refine lv_iconst (v := (0 : Int32)) hx hb dX2_takeNumberBehind_28 (by decide) ?_
      exact J29 vT_at p1 y6 (0 : Int32) _ _ hP hD hS ls hev (lv_sub hl [1, 2, 0] rfl)
    · replace hev := x_t c8 hev
      exact J24 vT_at p1 y6 _ _ hP hD hS ls hev (lv_sub hl [1, 2, 0] rfl)
def f_Rd_takes (nT_codes_items : Nat) (vT_at : Int32) (vT_codes_size : Int32) (fT_codes_items : Nat → Int32) (p1 : Int32) : Option (Int32 × Int32) := x_B (f_Rw_at nT_codes_items vT_codes_size fT_codes_items vT_at) (fun y1 => if y1 = p1 then (x_L ((vT_at + (1 : Int32))) (fun y3 => some ((1 : Int32), y3))) else some ((0 : Int32), vT_at))
set_option maxHeartbeats 8000000 in
set_option maxRecDepth 100000 in
theorem c_Rd_takes (l : Launch) (G : GG) (aT aT_text aT_codes aT_places aT_draft aT_codes_items : Nat) (vT_at : Int32) (vT_lines : Int32) (vT_codes_size : Int32) (fT_codes_items : Nat → Int32) (nT_codes_items : Nat) (p1 : Int32) (r0 : Int32) (wvT_at : Int32) (hev : f_Rd_takes nT_codes_items vT_at vT_codes_size fT_codes_items p1 = some (r0, wvT_at)) : RW l G yX2_takes cX2_takes 2 (some .boolean) 1 [.ref aT, .int p1] [(aT, .inr (0, [.ref aT_text, .ref aT_codes, .ref aT_places, .ref aT_draft, .int vT_at, .int vT_lines])), (aT_codes, .inr (1, [.ref aT_codes_items, .int vT_codes_size])), (aT_codes_items, .inl (G.2.1, nT_codes_items, .inl fT_codes_items))] (some (.int r0)) [(aT, .inr (0, [.ref aT_text, .ref aT_codes, .ref aT_places, .ref aT_draft, .int wvT_at, .int vT_lines])), (aT_codes, .inr (1, [.ref aT_codes_items, .int vT_codes_size])), (aT_codes_items, .inl (G.2.1, nT_codes_items, .inl fT_codes_items))] 0 0 := by
  refine RW_of (by decide) (Nat.le_of_ble_eq_true rfl) ?_
  intro p e s m ar below meth c R Q A ls X hR hRc hin hP hKK hD hS hA hAb hl ret
  obtain ⟨rs, hrs⟩ : ∃ q, q = (r0, wvT_at) := ⟨_, rfl⟩
  rw [← hrs] at hev
  have ret2 : ∀ (pc : Nat) (ls : Array Slot) (H : Heap) (lo : List Loc) (v r1 : Int32) (zvT_at : Int32), (r1, zvT_at) = rs → decode cX2_takes pc = .ok (.ireturn, 1) → narrow .boolean (.int v) = .int r1 → va_P G.1 classes [(aT, .inr (0, [.ref aT_text, .ref aT_codes, .ref aT_places, .ref aT_draft, .int zvT_at, .int vT_lines])), (aT_codes, .inr (1, [.ref aT_codes_items, .int vT_codes_size])), (aT_codes_items, .inl (G.2.1, nT_codes_items, .inl fT_codes_items))] H → va_D A [(aT, .inr (0, [.ref aT_text, .ref aT_codes, .ref aT_places, .ref aT_draft, .int zvT_at, .int vT_lines])), (aT_codes, .inr (1, [.ref aT_codes_items, .int vT_codes_size])), (aT_codes_items, .inl (G.2.1, nT_codes_items, .inl fT_codes_items))] → va_S A s.heap H lo → W p l e R s m ar below meth c H lo 0 0 Q (F0 m pc ls [.int v]) := by
    intro pc ls H lo v r1 zvT_at he hd hn h1 h2 h3
    have he := he.trans hrs
    cases he
    exact ret.1 _ _ _ _ _ _ _ rfl rfl hd hn h1 h2 h3
  clear ret hrs
  have hl : lv_has ls 2 [(0, .ref aT), (1, .int p1)] := hl
  obtain ⟨hx, hb, hml, hown, hts, hT⟩ := id X
  have hK := hKK.1
  have hw : ∀ w ∈ T0, w.before ar s = true := fun w h => hts w (hT w h)
  have i2 := fun w h => hT w (inT2 w h)
  unfold f_Rd_takes at hev
  refine lv_aload_n hx hb dX2_takes_0 rfl (lv_at hl 0 rfl) ?_
  refine va_get (D := G.1) (ci := 0) (v := .ref aT_codes) (C := RX2) (T := TX2) (N := 6) hx hb hts i2 hown hK hP 0 rfl rfl 1 (by decide) (hw _ u173) (fun _ h9 => h9) rfl dX2_takes_1 ?_
  refine lv_aload_n hx hb dX2_takes_4 rfl (lv_at hl 0 rfl) ?_
  refine va_get (D := G.1) (ci := 0) (v := .int vT_at) (C := RX2) (T := TX2) (N := 6) hx hb hts i2 hown hK hP 0 rfl rfl 4 (by decide) (hw _ u176) (fun _ h9 => h9) rfl dX2_takes_5 ?_
  obtain ⟨y1, hq, hev⟩ := x_bd hev
  refine roV X (KK_at hKK hS hAb) hR (st1 := [.int y1]) (c_Rw_at l G aT_codes aT_codes_items vT_codes_size fT_codes_items nT_codes_items vT_at y1 hq) K_X3_at u501 (x_Psub hP [1, 2] rfl) rfl (q0 := 0) rfl (by decide) ⟨Nat.zero_le _, Nat.zero_le _⟩ rfl hl.1 rfl (Nat.le_of_ble_eq_true rfl) rfl dX2_takes_8 ?_
  refine lv_iload_n hx hb dX2_takes_11 rfl (lv_at hl 1 rfl) ?_
  refine lv_icmp_eq (tgt := 17) hx hb dX2_takes_12 (by decide) (fun c2 => ?_) (fun c2 => ?_)
  · replace hev := x_t c2 hev
    refine lv_aload_n hx hb dX2_takes_17 rfl (lv_at hl 0 rfl) ?_
    refine lv_dup hx hb dX2_takes_18 rfl ?_
    refine va_get (D := G.1) (ci := 0) (v := .int vT_at) (C := RX2) (T := TX2) (N := 6) hx hb hts i2 hown hK hP 0 rfl rfl 4 (by decide) (hw _ u176) (fun _ h9 => h9) rfl dX2_takes_19 ?_
    refine lv_iconst (v := (1 : Int32)) hx hb dX2_takes_22 (by decide) ?_
    refine lv_iadd hx hb dX2_takes_23 ?_
    refine lv_topi (fun y3 ey3 => ?_)
    replace hev := x_lt hev y3 ey3
    refine va_put (D := G.1) (ci := 0) (v := .int y3) (ty := .int) (C := RX2) (T := TX2) (N := 6) hx hb hts i2 tyX2 tyX2_ok nmX2 hown hK hP hD hS 0 rfl rfl 4 (by decide) (hw _ u176) (fun _ h9 => h9) rfl (by decide +kernel) rfl rfl (Nat.le_of_ble_eq_true rfl) dX2_takes_24 (fun H lo hP hD hS => ?_)
    refine lv_iconst (v := (1 : Int32)) hx hb dX2_takes_27 (by decide) ?_
    exact ret2 _ _ _ _ (1 : Int32) (1 : Int32) y3 (Option.some.inj hev) dX2_takes_28 (show narrow _ (.int (1 : Int32)) = .int (1 : Int32) from nb1) hP hD hS
  · replace hev := x_f c2 hev
    refine lv_iconst (v := (0 : Int32)) hx hb dX2_takes_15 (by decide) ?_
    exact ret2 _ _ _ _ (0 : Int32) (0 : Int32) vT_at (Option.some.inj hev) dX2_takes_16 (show narrow _ (.int (0 : Int32)) = .int (0 : Int32) from nb0) hP hD hS
def f_Rd_readTerm (nT_codes_items : Nat) (vT_at : Int32) (vT_codes_size : Int32) (vT_draft_people : Int32) (vT_draft_spells : Int32) (fT_codes_items : Nat → Int32) (fT_draft_numbers : Nat → Int32) (fT_draft_sorts : Nat → Int32) (fT_draft_terms : Nat → Int32) : Option (Int32 × Int32 × (Nat → Int32) × (Nat → Int32) × (Nat → Int32)) := x_B (f_Rw_at nT_codes_items vT_codes_size fT_codes_items vT_at) (fun y1 => if y1 < (21 : Int32) then (some ((0 : Int32), vT_at, fT_draft_numbers, fT_draft_sorts, fT_draft_terms)) else if y1 ≤ (28 : Int32) then (x_L ((vT_at + (1 : Int32))) (fun y4 => x_B (f_Rd_takeNumberBehind nT_codes_items y4 vT_codes_size vT_draft_people vT_draft_spells fT_codes_items y1) (fun ⟨y5, w6⟩ => if y5 = (-1 : Int32) then (some ((0 : Int32), w6, fT_draft_numbers, fT_draft_sorts, fT_draft_terms)) else x_B (f_To_addTerm vT_draft_spells fT_draft_numbers fT_draft_sorts fT_draft_terms (y1 - (21 : Int32)) y5) (fun ⟨w8, w9, w10⟩ => some ((1 : Int32), w6, w8, w9, w10))))) else some ((0 : Int32), vT_at, fT_draft_numbers, fT_draft_sorts, fT_draft_terms))
set_option maxHeartbeats 8000000 in
set_option maxRecDepth 100000 in
theorem c_Rd_readTerm (l : Launch) (G : GG) (aT aT_text aT_codes aT_places aT_draft aT_codes_items aT_draft_kinds aT_draft_targets aT_draft_wakes aT_draft_terms aT_draft_sorts aT_draft_numbers : Nat) (vT_at : Int32) (vT_lines : Int32) (vT_codes_size : Int32) (vT_draft_people : Int32) (vT_draft_spells : Int32) (vT_draft_day : Int32) (vT_draft_broken : Int32) (fT_codes_items : Nat → Int32) (nT_codes_items : Nat) (fT_draft_terms : Nat → Int32) (fT_draft_sorts : Nat → Int32) (fT_draft_numbers : Nat → Int32) (r0 : Int32) (wvT_at : Int32) (wfT_draft_numbers : Nat → Int32) (wfT_draft_sorts : Nat → Int32) (wfT_draft_terms : Nat → Int32) (hev : f_Rd_readTerm nT_codes_items vT_at vT_codes_size vT_draft_people vT_draft_spells fT_codes_items fT_draft_numbers fT_draft_sorts fT_draft_terms = some (r0, wvT_at, wfT_draft_numbers, wfT_draft_sorts, wfT_draft_terms)) : RW l G yX2_readTerm cX2_readTerm 3 (some .boolean) 3 [.ref aT] [(aT, .inr (0, [.ref aT_text, .ref aT_codes, .ref aT_places, .ref aT_draft, .int vT_at, .int vT_lines])), (aT_codes, .inr (1, [.ref aT_codes_items, .int vT_codes_size])), (aT_draft, .inr (4, [.int vT_draft_people, .int vT_draft_spells, .int vT_draft_day, .int vT_draft_broken, .ref aT_draft_kinds, .ref aT_draft_targets, .ref aT_draft_wakes, .ref aT_draft_terms, .ref aT_draft_sorts, .ref aT_draft_numbers])), (aT_codes_items, .inl (G.2.1, nT_codes_items, .inl fT_codes_items)), (aT_draft_terms, .inl (G.2.1, 5, .inl fT_draft_terms)), (aT_draft_sorts, .inl (G.2.1, 15, .inl fT_draft_sorts)), (aT_draft_numbers, .inl (G.2.1, 15, .inl fT_draft_numbers))] (some (.int r0)) [(aT, .inr (0, [.ref aT_text, .ref aT_codes, .ref aT_places, .ref aT_draft, .int wvT_at, .int vT_lines])), (aT_codes, .inr (1, [.ref aT_codes_items, .int vT_codes_size])), (aT_draft, .inr (4, [.int vT_draft_people, .int vT_draft_spells, .int vT_draft_day, .int vT_draft_broken, .ref aT_draft_kinds, .ref aT_draft_targets, .ref aT_draft_wakes, .ref aT_draft_terms, .ref aT_draft_sorts, .ref aT_draft_numbers])), (aT_codes_items, .inl (G.2.1, nT_codes_items, .inl fT_codes_items)), (aT_draft_terms, .inl (G.2.1, 5, .inl wfT_draft_terms)), (aT_draft_sorts, .inl (G.2.1, 15, .inl wfT_draft_sorts)), (aT_draft_numbers, .inl (G.2.1, 15, .inl wfT_draft_numbers))] 0 0 := by
  refine RW_of (by decide) (Nat.le_of_ble_eq_true rfl) ?_
  intro p e s m ar below meth c R Q A ls X hR hRc hin hP hKK hD hS hA hAb hl ret
  obtain ⟨rs, hrs⟩ : ∃ q, q = (r0, wvT_at, wfT_draft_numbers, wfT_draft_sorts, wfT_draft_terms) := ⟨_, rfl⟩
  rw [← hrs] at hev
  have ret2 : ∀ (pc : Nat) (ls : Array Slot) (H : Heap) (lo : List Loc) (v r1 : Int32) (zvT_at : Int32) (zfT_draft_numbers : Nat → Int32) (zfT_draft_sorts : Nat → Int32) (zfT_draft_terms : Nat → Int32), (r1, zvT_at, zfT_draft_numbers, zfT_draft_sorts, zfT_draft_terms) = rs → decode cX2_readTerm pc = .ok (.ireturn, 1) → narrow .boolean (.int v) = .int r1 → va_P G.1 classes [(aT, .inr (0, [.ref aT_text, .ref aT_codes, .ref aT_places, .ref aT_draft, .int zvT_at, .int vT_lines])), (aT_codes, .inr (1, [.ref aT_codes_items, .int vT_codes_size])), (aT_draft, .inr (4, [.int vT_draft_people, .int vT_draft_spells, .int vT_draft_day, .int vT_draft_broken, .ref aT_draft_kinds, .ref aT_draft_targets, .ref aT_draft_wakes, .ref aT_draft_terms, .ref aT_draft_sorts, .ref aT_draft_numbers])), (aT_codes_items, .inl (G.2.1, nT_codes_items, .inl fT_codes_items)), (aT_draft_terms, .inl (G.2.1, 5, .inl zfT_draft_terms)), (aT_draft_sorts, .inl (G.2.1, 15, .inl zfT_draft_sorts)), (aT_draft_numbers, .inl (G.2.1, 15, .inl zfT_draft_numbers))] H → va_D A [(aT, .inr (0, [.ref aT_text, .ref aT_codes, .ref aT_places, .ref aT_draft, .int zvT_at, .int vT_lines])), (aT_codes, .inr (1, [.ref aT_codes_items, .int vT_codes_size])), (aT_draft, .inr (4, [.int vT_draft_people, .int vT_draft_spells, .int vT_draft_day, .int vT_draft_broken, .ref aT_draft_kinds, .ref aT_draft_targets, .ref aT_draft_wakes, .ref aT_draft_terms, .ref aT_draft_sorts, .ref aT_draft_numbers])), (aT_codes_items, .inl (G.2.1, nT_codes_items, .inl fT_codes_items)), (aT_draft_terms, .inl (G.2.1, 5, .inl zfT_draft_terms)), (aT_draft_sorts, .inl (G.2.1, 15, .inl zfT_draft_sorts)), (aT_draft_numbers, .inl (G.2.1, 15, .inl zfT_draft_numbers))] → va_S A s.heap H lo → W p l e R s m ar below meth c H lo 0 0 Q (F0 m pc ls [.int v]) := by
    intro pc ls H lo v r1 zvT_at zfT_draft_numbers zfT_draft_sorts zfT_draft_terms he hd hn h1 h2 h3
    have he := he.trans hrs
    cases he
    exact ret.1 _ _ _ _ _ _ _ rfl rfl hd hn h1 h2 h3
  clear ret hrs
  have hl : lv_has ls 3 [(0, .ref aT)] := hl
  obtain ⟨hx, hb, hml, hown, hts, hT⟩ := id X
  have hK := hKK.1
  have hw : ∀ w ∈ T0, w.before ar s = true := fun w h => hts w (hT w h)
  have i2 := fun w h => hT w (inT2 w h)
  unfold f_Rd_readTerm at hev
  refine lv_aload_n hx hb dX2_readTerm_0 rfl (lv_at hl 0 rfl) ?_
  refine va_get (D := G.1) (ci := 0) (v := .ref aT_codes) (C := RX2) (T := TX2) (N := 6) hx hb hts i2 hown hK hP 0 rfl rfl 1 (by decide) (hw _ u173) (fun _ h9 => h9) rfl dX2_readTerm_1 ?_
  refine lv_aload_n hx hb dX2_readTerm_4 rfl (lv_at hl 0 rfl) ?_
  refine va_get (D := G.1) (ci := 0) (v := .int vT_at) (C := RX2) (T := TX2) (N := 6) hx hb hts i2 hown hK hP 0 rfl rfl 4 (by decide) (hw _ u176) (fun _ h9 => h9) rfl dX2_readTerm_5 ?_
  obtain ⟨y1, hq, hev⟩ := x_bd hev
  refine roV X (KK_at hKK hS hAb) hR (st1 := [.int y1]) (c_Rw_at l G aT_codes aT_codes_items vT_codes_size fT_codes_items nT_codes_items vT_at y1 hq) K_X3_at u501 (x_Psub hP [1, 3] rfl) rfl (q0 := 0) rfl (by decide) ⟨Nat.zero_le _, Nat.zero_le _⟩ rfl hl.1 rfl (Nat.le_of_ble_eq_true rfl) rfl dX2_readTerm_8 ?_
  refine lv_istore_n (lv' := [(1, .int y1), (0, .ref aT)]) hx hb dX2_readTerm_11 rfl hl (by decide) rfl (fun ls hl => ?_)
  refine lv_iload_n hx hb dX2_readTerm_12 rfl (lv_at hl 0 rfl) ?_
  refine lv_bipush (v := (21 : Int32)) hx hb dX2_readTerm_13 (by decide) ?_
  refine lv_icmp_lt (tgt := 24) hx hb dX2_readTerm_15 (by decide) (fun c2 => ?_) (fun c2 => ?_)
  · replace hev := x_t c2 hev
    refine lv_iconst (v := (0 : Int32)) hx hb dX2_readTerm_24 (by decide) ?_
    exact ret2 _ _ _ _ (0 : Int32) (0 : Int32) vT_at fT_draft_numbers fT_draft_sorts fT_draft_terms (Option.some.inj hev) dX2_readTerm_25 (show narrow _ (.int (0 : Int32)) = .int (0 : Int32) from nb0) hP hD hS
  · replace hev := x_f c2 hev
    refine lv_iload_n hx hb dX2_readTerm_18 rfl (lv_at hl 0 rfl) ?_
    refine lv_bipush (v := (28 : Int32)) hx hb dX2_readTerm_19 (by decide) ?_
    refine lv_icmp_le (tgt := 26) hx hb dX2_readTerm_21 (by decide) (fun c3 => ?_) (fun c3 => ?_)
    · replace hev := x_t c3 hev
      refine lv_aload_n hx hb dX2_readTerm_26 rfl (lv_at hl 1 rfl) ?_
      refine lv_dup hx hb dX2_readTerm_27 rfl ?_
      refine va_get (D := G.1) (ci := 0) (v := .int vT_at) (C := RX2) (T := TX2) (N := 6) hx hb hts i2 hown hK hP 0 rfl rfl 4 (by decide) (hw _ u176) (fun _ h9 => h9) rfl dX2_readTerm_28 ?_
      refine lv_iconst (v := (1 : Int32)) hx hb dX2_readTerm_31 (by decide) ?_
      refine lv_iadd hx hb dX2_readTerm_32 ?_
      refine lv_topi (fun y4 ey4 => ?_)
      replace hev := x_lt hev y4 ey4
      refine va_put (D := G.1) (ci := 0) (v := .int y4) (ty := .int) (C := RX2) (T := TX2) (N := 6) hx hb hts i2 tyX2 tyX2_ok nmX2 hown hK hP hD hS 0 rfl rfl 4 (by decide) (hw _ u176) (fun _ h9 => h9) rfl (by decide +kernel) rfl rfl (Nat.le_of_ble_eq_true rfl) dX2_readTerm_33 (fun H lo hP hD hS => ?_)
      refine lv_aload_n hx hb dX2_readTerm_36 rfl (lv_at hl 1 rfl) ?_
      refine lv_iload_n hx hb dX2_readTerm_37 rfl (lv_at hl 0 rfl) ?_
      obtain ⟨⟨y5, w6⟩, hq, hev⟩ := x_bd hev
      refine rgV X (KK_at hKK hS hAb) hR (st1 := [.int y5]) (ws2 := [(aT, .inr (0, [.ref aT_text, .ref aT_codes, .ref aT_places, .ref aT_draft, .int w6, .int vT_lines])), (aT_codes, .inr (1, [.ref aT_codes_items, .int vT_codes_size])), (aT_draft, .inr (4, [.int vT_draft_people, .int vT_draft_spells, .int vT_draft_day, .int vT_draft_broken, .ref aT_draft_kinds, .ref aT_draft_targets, .ref aT_draft_wakes, .ref aT_draft_terms, .ref aT_draft_sorts, .ref aT_draft_numbers])), (aT_codes_items, .inl (G.2.1, nT_codes_items, .inl fT_codes_items)), (aT_draft_terms, .inl (G.2.1, 5, .inl fT_draft_terms)), (aT_draft_sorts, .inl (G.2.1, 15, .inl fT_draft_sorts)), (aT_draft_numbers, .inl (G.2.1, 15, .inl fT_draft_numbers))]) (c_Rd_takeNumberBehind l G aT aT_text aT_codes aT_places aT_draft aT_codes_items aT_draft_kinds aT_draft_targets aT_draft_wakes aT_draft_terms aT_draft_sorts aT_draft_numbers y4 vT_lines vT_codes_size vT_draft_people vT_draft_spells vT_draft_day vT_draft_broken fT_codes_items nT_codes_items y1 y5 w6 hq) K_X2_takeNumberBehind u589 hP hD hS hA hAb [0, 1, 2, 3] rfl (sbC rfl (sbC rfl (sbC rfl (sbC rfl sb0)))) (mgN 0 rfl rfl (mgN 1 rfl rfl (mgN 2 rfl rfl (mgN 3 rfl rfl (mgK (by decide) (mgK (by decide) (mgK (by decide) (mg0)))))))) rfl (q0 := 0) rfl (by decide) ⟨Nat.zero_le _, Nat.zero_le _⟩ rfl hl.1 rfl (Nat.le_of_ble_eq_true rfl) rfl dX2_readTerm_38 (fun H lo hP hD hS => ?_)
      refine lv_istore_n (lv' := [(2, .int y5), (1, .int y1), (0, .ref aT)]) hx hb dX2_readTerm_41 rfl hl (by decide) rfl (fun ls hl => ?_)
      refine lv_iload_n hx hb dX2_readTerm_42 rfl (lv_at hl 0 rfl) ?_
      refine lv_iconst (v := (-1 : Int32)) hx hb dX2_readTerm_43 (by decide) ?_
      refine lv_icmp_ne (tgt := 49) hx hb dX2_readTerm_44 (by decide) (fun c7 => ?_) (fun c7 => ?_)
      · replace hev := x_f c7 hev
        refine lv_aload_n hx hb dX2_readTerm_49 rfl (lv_at hl 2 rfl) ?_
        refine va_get (D := G.1) (ci := 0) (v := .ref aT_draft) (C := RX2) (T := TX2) (N := 6) hx hb hts i2 hown hK hP 0 rfl rfl 3 (by decide) (hw _ u175) (fun _ h9 => h9) rfl dX2_readTerm_50 ?_
        refine lv_iload_n hx hb dX2_readTerm_53 rfl (lv_at hl 1 rfl) ?_
        refine lv_bipush (v := (21 : Int32)) hx hb dX2_readTerm_54 (by decide) ?_
        refine lv_isub hx hb dX2_readTerm_56 ?_
        refine lv_iload_n hx hb dX2_readTerm_57 rfl (lv_at hl 0 rfl) ?_
        obtain ⟨⟨w8, w9, w10⟩, hq, hev⟩ := x_bd hev
        refine rgV X (KK_at hKK hS hAb) hR (st1 := []) (ws2 := [(aT, .inr (0, [.ref aT_text, .ref aT_codes, .ref aT_places, .ref aT_draft, .int w6, .int vT_lines])), (aT_codes, .inr (1, [.ref aT_codes_items, .int vT_codes_size])), (aT_draft, .inr (4, [.int vT_draft_people, .int vT_draft_spells, .int vT_draft_day, .int vT_draft_broken, .ref aT_draft_kinds, .ref aT_draft_targets, .ref aT_draft_wakes, .ref aT_draft_terms, .ref aT_draft_sorts, .ref aT_draft_numbers])), (aT_codes_items, .inl (G.2.1, nT_codes_items, .inl fT_codes_items)), (aT_draft_terms, .inl (G.2.1, 5, .inl w10)), (aT_draft_sorts, .inl (G.2.1, 15, .inl w9)), (aT_draft_numbers, .inl (G.2.1, 15, .inl w8))]) (c_To_addTerm l G aT_draft aT_draft_kinds aT_draft_targets aT_draft_wakes aT_draft_terms aT_draft_sorts aT_draft_numbers vT_draft_people vT_draft_spells vT_draft_day vT_draft_broken fT_draft_terms fT_draft_sorts fT_draft_numbers (y1 - (21 : Int32)) y5 w8 w9 w10 hq) K_X8_addTerm u612 hP hD hS hA hAb [2, 4, 5, 6] rfl (sbC rfl (sbC rfl (sbC rfl (sbC rfl sb0)))) (mgK (by decide) (mgK (by decide) (mgN 0 rfl rfl (mgK (by decide) (mgN 1 rfl rfl (mgN 2 rfl rfl (mgN 3 rfl rfl (mg0)))))))) rfl (q0 := 0) rfl (by decide) ⟨Nat.zero_le _, Nat.zero_le _⟩ rfl hl.1 rfl (Nat.le_of_ble_eq_true rfl) rfl dX2_readTerm_58 (fun H lo hP hD hS => ?_)
        refine lv_iconst (v := (1 : Int32)) hx hb dX2_readTerm_61 (by decide) ?_
        exact ret2 _ _ _ _ (1 : Int32) (1 : Int32) w6 w8 w9 w10 (Option.some.inj hev) dX2_readTerm_62 (show narrow _ (.int (1 : Int32)) = .int (1 : Int32) from nb1) hP hD hS
      · replace hev := x_t c7 hev
        refine lv_iconst (v := (0 : Int32)) hx hb dX2_readTerm_47 (by decide) ?_
        exact ret2 _ _ _ _ (0 : Int32) (0 : Int32) w6 fT_draft_numbers fT_draft_sorts fT_draft_terms (Option.some.inj hev) dX2_readTerm_48 (show narrow _ (.int (0 : Int32)) = .int (0 : Int32) from nb0) hP hD hS
    · replace hev := x_f c3 hev
      refine lv_iconst (v := (0 : Int32)) hx hb dX2_readTerm_24 (by decide) ?_
      exact ret2 _ _ _ _ (0 : Int32) (0 : Int32) vT_at fT_draft_numbers fT_draft_sorts fT_draft_terms (Option.some.inj hev) dX2_readTerm_25 (show narrow _ (.int (0 : Int32)) = .int (0 : Int32) from nb0) hP hD hS
def f_Rd_readSpell_J116 (k : Nat) (nT_codes_items : Nat) (vT_at : Int32) (vT_codes_size : Int32) (vT_draft_people : Int32) (vT_draft_spells : Int32) (fT_codes_items : Nat → Int32) (fT_draft_kinds : Nat → Int32) (fT_draft_numbers : Nat → Int32) (fT_draft_sorts : Nat → Int32) (fT_draft_targets : Nat → Int32) (fT_draft_terms : Nat → Int32) (fT_draft_wakes : Nat → Int32) (x3 : Int32) : Option (Int32 × Int32 × Int32 × (Nat → Int32) × (Nat → Int32) × (Nat → Int32) × (Nat → Int32) × (Nat → Int32) × (Nat → Int32)) := x_B (f_To_endSpell vT_draft_spells fT_draft_wakes x3) (fun ⟨w1, w2⟩ => some ((1 : Int32), vT_at, w1, fT_draft_kinds, fT_draft_numbers, fT_draft_sorts, fT_draft_targets, fT_draft_terms, w2))
def f_Rd_readSpell_J91 (k : Nat) (nT_codes_items : Nat) (vT_at : Int32) (vT_codes_size : Int32) (vT_draft_people : Int32) (vT_draft_spells : Int32) (fT_codes_items : Nat → Int32) (fT_draft_kinds : Nat → Int32) (fT_draft_numbers : Nat → Int32) (fT_draft_sorts : Nat → Int32) (fT_draft_targets : Nat → Int32) (fT_draft_terms : Nat → Int32) (fT_draft_wakes : Nat → Int32) : Option (Int32 × Int32 × Int32 × (Nat → Int32) × (Nat → Int32) × (Nat → Int32) × (Nat → Int32) × (Nat → Int32) × (Nat → Int32)) := x_B (f_Rd_takes nT_codes_items vT_at vT_codes_size fT_codes_items (20 : Int32)) (fun ⟨y3, w4⟩ => if y3 = 0 then (f_Rd_readSpell_J116 k nT_codes_items w4 vT_codes_size vT_draft_people vT_draft_spells fT_codes_items fT_draft_kinds fT_draft_numbers fT_draft_sorts fT_draft_targets fT_draft_terms fT_draft_wakes (-1 : Int32)) else x_B (f_Rd_takeNumberBehind nT_codes_items w4 vT_codes_size vT_draft_people vT_draft_spells fT_codes_items (20 : Int32)) (fun ⟨y6, w7⟩ => if y6 = (-1 : Int32) then (some ((0 : Int32), w7, vT_draft_spells, fT_draft_kinds, fT_draft_numbers, fT_draft_sorts, fT_draft_targets, fT_draft_terms, fT_draft_wakes)) else f_Rd_readSpell_J116 k nT_codes_items w7 vT_codes_size vT_draft_people vT_draft_spells fT_codes_items fT_draft_kinds fT_draft_numbers fT_draft_sorts fT_draft_targets fT_draft_terms fT_draft_wakes y6))
def f_Rd_readSpell_J76 (rec : Int32 → Int32 → (Nat → Int32) → (Nat → Int32) → (Nat → Int32) → Option ((Int32 × (Nat → Int32) × (Nat → Int32) × (Nat → Int32)) ⊕ (Int32 × Int32 × Int32 × (Nat → Int32) × (Nat → Int32) × (Nat → Int32) × (Nat → Int32) × (Nat → Int32) × (Nat → Int32)))) (k : Nat) (nT_codes_items : Nat) (vT_at : Int32) (vT_codes_size : Int32) (vT_draft_people : Int32) (vT_draft_spells : Int32) (fT_codes_items : Nat → Int32) (fT_draft_kinds : Nat → Int32) (fT_draft_numbers : Nat → Int32) (fT_draft_sorts : Nat → Int32) (fT_draft_targets : Nat → Int32) (fT_draft_terms : Nat → Int32) (fT_draft_wakes : Nat → Int32) (x3 : Int32) : Option ((Int32 × (Nat → Int32) × (Nat → Int32) × (Nat → Int32)) ⊕ (Int32 × Int32 × Int32 × (Nat → Int32) × (Nat → Int32) × (Nat → Int32) × (Nat → Int32) × (Nat → Int32) × (Nat → Int32))) := x_B (f_Rd_readTerm nT_codes_items vT_at vT_codes_size vT_draft_people vT_draft_spells fT_codes_items fT_draft_numbers fT_draft_sorts fT_draft_terms) (fun ⟨y22, w23, w24, w25, w26⟩ => if y22 = 0 then (some (.inr ((0 : Int32), w23, vT_draft_spells, fT_draft_kinds, w24, w25, fT_draft_targets, w26, fT_draft_wakes))) else x_L (x3 + (1 : Int32)) (fun y28 => rec y28 w23 w24 w25 w26))
def f_Rd_readSpell_L58 (nT_codes_items : Nat) (vT_codes_size : Int32) (vT_draft_people : Int32) (vT_draft_spells : Int32) (fT_codes_items : Nat → Int32) (fT_draft_kinds : Nat → Int32) (fT_draft_targets : Nat → Int32) (fT_draft_wakes : Nat → Int32) : Nat → Int32 → Int32 → (Nat → Int32) → (Nat → Int32) → (Nat → Int32) → Option ((Int32 × (Nat → Int32) × (Nat → Int32) × (Nat → Int32)) ⊕ (Int32 × Int32 × Int32 × (Nat → Int32) × (Nat → Int32) × (Nat → Int32) × (Nat → Int32) × (Nat → Int32) × (Nat → Int32)))
  | 0, _, _, _, _, _ => none
  | k + 1, x3, vT_at, fT_draft_numbers, fT_draft_sorts, fT_draft_terms => if (3 : Int32) ≤ x3 then (some (.inl (vT_at, fT_draft_numbers, fT_draft_sorts, fT_draft_terms))) else if x3 = 0 then (f_Rd_readSpell_J76 (f_Rd_readSpell_L58 nT_codes_items vT_codes_size vT_draft_people vT_draft_spells fT_codes_items fT_draft_kinds fT_draft_targets fT_draft_wakes k) k nT_codes_items vT_at vT_codes_size vT_draft_people vT_draft_spells fT_codes_items fT_draft_kinds fT_draft_numbers fT_draft_sorts fT_draft_targets fT_draft_terms fT_draft_wakes x3) else x_B (f_Rd_takes nT_codes_items vT_at vT_codes_size fT_codes_items (19 : Int32)) (fun ⟨y31, w32⟩ => if y31 = 0 then (some (.inl (w32, fT_draft_numbers, fT_draft_sorts, fT_draft_terms))) else f_Rd_readSpell_J76 (f_Rd_readSpell_L58 nT_codes_items vT_codes_size vT_draft_people vT_draft_spells fT_codes_items fT_draft_kinds fT_draft_targets fT_draft_wakes k) k nT_codes_items w32 vT_codes_size vT_draft_people vT_draft_spells fT_codes_items fT_draft_kinds fT_draft_numbers fT_draft_sorts fT_draft_targets fT_draft_terms fT_draft_wakes x3)
def f_Rd_readSpell (k : Nat) (nT_codes_items : Nat) (vT_at : Int32) (vT_codes_size : Int32) (vT_draft_people : Int32) (vT_draft_spells : Int32) (fT_codes_items : Nat → Int32) (fT_draft_kinds : Nat → Int32) (fT_draft_numbers : Nat → Int32) (fT_draft_sorts : Nat → Int32) (fT_draft_targets : Nat → Int32) (fT_draft_terms : Nat → Int32) (fT_draft_wakes : Nat → Int32) (p1 : Int32) : Option (Int32 × Int32 × Int32 × (Nat → Int32) × (Nat → Int32) × (Nat → Int32) × (Nat → Int32) × (Nat → Int32) × (Nat → Int32)) := x_B (f_To_isFull vT_draft_spells) (fun y9 => if y9 = 0 then (x_L ((vT_at + (1 : Int32))) (fun y11 => x_B (f_Rd_takeNumberBehind nT_codes_items y11 vT_codes_size vT_draft_people vT_draft_spells fT_codes_items p1) (fun ⟨y12, w13⟩ => if y12 = (-1 : Int32) then (some ((0 : Int32), w13, vT_draft_spells, fT_draft_kinds, fT_draft_numbers, fT_draft_sorts, fT_draft_targets, fT_draft_terms, fT_draft_wakes)) else x_B (f_Rd_takes nT_codes_items w13 vT_codes_size fT_codes_items (18 : Int32)) (fun ⟨y15, w16⟩ => if y15 = 0 then (some ((0 : Int32), w16, vT_draft_spells, fT_draft_kinds, fT_draft_numbers, fT_draft_sorts, fT_draft_targets, fT_draft_terms, fT_draft_wakes)) else x_B (f_To_beginSpell vT_draft_spells fT_draft_kinds fT_draft_targets fT_draft_terms fT_draft_wakes (p1 - (13 : Int32)) y12) (fun ⟨w18, w19, w20, w21⟩ => x_S (f_Rd_readSpell_L58 nT_codes_items vT_codes_size vT_draft_people vT_draft_spells fT_codes_items w18 w19 w21 k (0 : Int32) w16 fT_draft_numbers fT_draft_sorts w20) (fun ⟨w34, w35, w36, w37⟩ => f_Rd_readSpell_J91 k nT_codes_items w34 vT_codes_size vT_draft_people vT_draft_spells fT_codes_items w18 w35 w36 w19 w37 w21) (fun r9 => some r9)))))) else some ((0 : Int32), vT_at, vT_draft_spells, fT_draft_kinds, fT_draft_numbers, fT_draft_sorts, fT_draft_targets, fT_draft_terms, fT_draft_wakes))
set_option maxHeartbeats 8000000 in
set_option maxRecDepth 100000 in
theorem c_Rd_readSpell (l : Launch) (G : GG) (aT aT_text aT_codes aT_places aT_draft aT_draft_kinds aT_draft_targets aT_draft_wakes aT_draft_terms aT_draft_sorts aT_draft_numbers aT_codes_items : Nat) (vT_at : Int32) (vT_lines : Int32) (vT_draft_people : Int32) (vT_draft_spells : Int32) (vT_draft_day : Int32) (vT_draft_broken : Int32) (vT_codes_size : Int32) (fT_codes_items : Nat → Int32) (nT_codes_items : Nat) (fT_draft_kinds : Nat → Int32) (fT_draft_targets : Nat → Int32) (fT_draft_terms : Nat → Int32) (fT_draft_wakes : Nat → Int32) (fT_draft_sorts : Nat → Int32) (fT_draft_numbers : Nat → Int32) (k : Nat) (p1 : Int32) (r0 : Int32) (wvT_at : Int32) (wvT_draft_spells : Int32) (wfT_draft_kinds : Nat → Int32) (wfT_draft_numbers : Nat → Int32) (wfT_draft_sorts : Nat → Int32) (wfT_draft_targets : Nat → Int32) (wfT_draft_terms : Nat → Int32) (wfT_draft_wakes : Nat → Int32) (hev : f_Rd_readSpell k nT_codes_items vT_at vT_codes_size vT_draft_people vT_draft_spells fT_codes_items fT_draft_kinds fT_draft_numbers fT_draft_sorts fT_draft_targets fT_draft_terms fT_draft_wakes p1 = some (r0, wvT_at, wvT_draft_spells, wfT_draft_kinds, wfT_draft_numbers, wfT_draft_sorts, wfT_draft_targets, wfT_draft_terms, wfT_draft_wakes)) : RW l G yX2_readSpell cX2_readSpell 4 (some .boolean) 4 [.ref aT, .int p1] [(aT, .inr (0, [.ref aT_text, .ref aT_codes, .ref aT_places, .ref aT_draft, .int vT_at, .int vT_lines])), (aT_draft, .inr (4, [.int vT_draft_people, .int vT_draft_spells, .int vT_draft_day, .int vT_draft_broken, .ref aT_draft_kinds, .ref aT_draft_targets, .ref aT_draft_wakes, .ref aT_draft_terms, .ref aT_draft_sorts, .ref aT_draft_numbers])), (aT_codes, .inr (1, [.ref aT_codes_items, .int vT_codes_size])), (aT_codes_items, .inl (G.2.1, nT_codes_items, .inl fT_codes_items)), (aT_draft_kinds, .inl (G.2.1, 5, .inl fT_draft_kinds)), (aT_draft_targets, .inl (G.2.1, 5, .inl fT_draft_targets)), (aT_draft_terms, .inl (G.2.1, 5, .inl fT_draft_terms)), (aT_draft_wakes, .inl (G.2.1, 5, .inl fT_draft_wakes)), (aT_draft_sorts, .inl (G.2.1, 15, .inl fT_draft_sorts)), (aT_draft_numbers, .inl (G.2.1, 15, .inl fT_draft_numbers))] (some (.int r0)) [(aT, .inr (0, [.ref aT_text, .ref aT_codes, .ref aT_places, .ref aT_draft, .int wvT_at, .int vT_lines])), (aT_draft, .inr (4, [.int vT_draft_people, .int wvT_draft_spells, .int vT_draft_day, .int vT_draft_broken, .ref aT_draft_kinds, .ref aT_draft_targets, .ref aT_draft_wakes, .ref aT_draft_terms, .ref aT_draft_sorts, .ref aT_draft_numbers])), (aT_codes, .inr (1, [.ref aT_codes_items, .int vT_codes_size])), (aT_codes_items, .inl (G.2.1, nT_codes_items, .inl fT_codes_items)), (aT_draft_kinds, .inl (G.2.1, 5, .inl wfT_draft_kinds)), (aT_draft_targets, .inl (G.2.1, 5, .inl wfT_draft_targets)), (aT_draft_terms, .inl (G.2.1, 5, .inl wfT_draft_terms)), (aT_draft_wakes, .inl (G.2.1, 5, .inl wfT_draft_wakes)), (aT_draft_sorts, .inl (G.2.1, 15, .inl wfT_draft_sorts)), (aT_draft_numbers, .inl (G.2.1, 15, .inl wfT_draft_numbers))] 0 0 := by
  refine RW_of (by decide) (Nat.le_of_ble_eq_true rfl) ?_
  intro p e s m ar below meth c R Q A ls X hR hRc hin hP hKK hD hS hA hAb hl ret
  obtain ⟨rs, hrs⟩ : ∃ q, q = (r0, wvT_at, wvT_draft_spells, wfT_draft_kinds, wfT_draft_numbers, wfT_draft_sorts, wfT_draft_targets, wfT_draft_terms, wfT_draft_wakes) := ⟨_, rfl⟩
  rw [← hrs] at hev
  have ret2 : ∀ (pc : Nat) (ls : Array Slot) (H : Heap) (lo : List Loc) (v r1 : Int32) (zvT_at : Int32) (zvT_draft_spells : Int32) (zfT_draft_kinds : Nat → Int32) (zfT_draft_numbers : Nat → Int32) (zfT_draft_sorts : Nat → Int32) (zfT_draft_targets : Nat → Int32) (zfT_draft_terms : Nat → Int32) (zfT_draft_wakes : Nat → Int32), (r1, zvT_at, zvT_draft_spells, zfT_draft_kinds, zfT_draft_numbers, zfT_draft_sorts, zfT_draft_targets, zfT_draft_terms, zfT_draft_wakes) = rs → decode cX2_readSpell pc = .ok (.ireturn, 1) → narrow .boolean (.int v) = .int r1 → va_P G.1 classes [(aT, .inr (0, [.ref aT_text, .ref aT_codes, .ref aT_places, .ref aT_draft, .int zvT_at, .int vT_lines])), (aT_draft, .inr (4, [.int vT_draft_people, .int zvT_draft_spells, .int vT_draft_day, .int vT_draft_broken, .ref aT_draft_kinds, .ref aT_draft_targets, .ref aT_draft_wakes, .ref aT_draft_terms, .ref aT_draft_sorts, .ref aT_draft_numbers])), (aT_codes, .inr (1, [.ref aT_codes_items, .int vT_codes_size])), (aT_codes_items, .inl (G.2.1, nT_codes_items, .inl fT_codes_items)), (aT_draft_kinds, .inl (G.2.1, 5, .inl zfT_draft_kinds)), (aT_draft_targets, .inl (G.2.1, 5, .inl zfT_draft_targets)), (aT_draft_terms, .inl (G.2.1, 5, .inl zfT_draft_terms)), (aT_draft_wakes, .inl (G.2.1, 5, .inl zfT_draft_wakes)), (aT_draft_sorts, .inl (G.2.1, 15, .inl zfT_draft_sorts)), (aT_draft_numbers, .inl (G.2.1, 15, .inl zfT_draft_numbers))] H → va_D A [(aT, .inr (0, [.ref aT_text, .ref aT_codes, .ref aT_places, .ref aT_draft, .int zvT_at, .int vT_lines])), (aT_draft, .inr (4, [.int vT_draft_people, .int zvT_draft_spells, .int vT_draft_day, .int vT_draft_broken, .ref aT_draft_kinds, .ref aT_draft_targets, .ref aT_draft_wakes, .ref aT_draft_terms, .ref aT_draft_sorts, .ref aT_draft_numbers])), (aT_codes, .inr (1, [.ref aT_codes_items, .int vT_codes_size])), (aT_codes_items, .inl (G.2.1, nT_codes_items, .inl fT_codes_items)), (aT_draft_kinds, .inl (G.2.1, 5, .inl zfT_draft_kinds)), (aT_draft_targets, .inl (G.2.1, 5, .inl zfT_draft_targets)), (aT_draft_terms, .inl (G.2.1, 5, .inl zfT_draft_terms)), (aT_draft_wakes, .inl (G.2.1, 5, .inl zfT_draft_wakes)), (aT_draft_sorts, .inl (G.2.1, 15, .inl zfT_draft_sorts)), (aT_draft_numbers, .inl (G.2.1, 15, .inl zfT_draft_numbers))] → va_S A s.heap H lo → W p l e R s m ar below meth c H lo 0 0 Q (F0 m pc ls [.int v]) := by
    intro pc ls H lo v r1 zvT_at zvT_draft_spells zfT_draft_kinds zfT_draft_numbers zfT_draft_sorts zfT_draft_targets zfT_draft_terms zfT_draft_wakes he hd hn h1 h2 h3
    have he := he.trans hrs
    cases he
    exact ret.1 _ _ _ _ _ _ _ rfl rfl hd hn h1 h2 h3
  clear ret hrs
  have hl : lv_has ls 4 [(0, .ref aT), (1, .int p1)] := hl
  obtain ⟨hx, hb, hml, hown, hts, hT⟩ := id X
  have hK := hKK.1
  have hw : ∀ w ∈ T0, w.before ar s = true := fun w h => hts w (hT w h)
  have i2 := fun w h => hT w (inT2 w h)
  have J116 : ∀ (vT_at : Int32) (vT_draft_spells : Int32) (fT_draft_kinds : Nat → Int32) (fT_draft_numbers : Nat → Int32) (fT_draft_sorts : Nat → Int32) (fT_draft_targets : Nat → Int32) (fT_draft_terms : Nat → Int32) (fT_draft_wakes : Nat → Int32) (x3 : Int32), ∀ (H : Heap) (lo : List Loc), va_P G.1 classes [(aT, .inr (0, [.ref aT_text, .ref aT_codes, .ref aT_places, .ref aT_draft, .int vT_at, .int vT_lines])), (aT_draft, .inr (4, [.int vT_draft_people, .int vT_draft_spells, .int vT_draft_day, .int vT_draft_broken, .ref aT_draft_kinds, .ref aT_draft_targets, .ref aT_draft_wakes, .ref aT_draft_terms, .ref aT_draft_sorts, .ref aT_draft_numbers])), (aT_codes, .inr (1, [.ref aT_codes_items, .int vT_codes_size])), (aT_codes_items, .inl (G.2.1, nT_codes_items, .inl fT_codes_items)), (aT_draft_kinds, .inl (G.2.1, 5, .inl fT_draft_kinds)), (aT_draft_targets, .inl (G.2.1, 5, .inl fT_draft_targets)), (aT_draft_terms, .inl (G.2.1, 5, .inl fT_draft_terms)), (aT_draft_wakes, .inl (G.2.1, 5, .inl fT_draft_wakes)), (aT_draft_sorts, .inl (G.2.1, 15, .inl fT_draft_sorts)), (aT_draft_numbers, .inl (G.2.1, 15, .inl fT_draft_numbers))] H → va_D A [(aT, .inr (0, [.ref aT_text, .ref aT_codes, .ref aT_places, .ref aT_draft, .int vT_at, .int vT_lines])), (aT_draft, .inr (4, [.int vT_draft_people, .int vT_draft_spells, .int vT_draft_day, .int vT_draft_broken, .ref aT_draft_kinds, .ref aT_draft_targets, .ref aT_draft_wakes, .ref aT_draft_terms, .ref aT_draft_sorts, .ref aT_draft_numbers])), (aT_codes, .inr (1, [.ref aT_codes_items, .int vT_codes_size])), (aT_codes_items, .inl (G.2.1, nT_codes_items, .inl fT_codes_items)), (aT_draft_kinds, .inl (G.2.1, 5, .inl fT_draft_kinds)), (aT_draft_targets, .inl (G.2.1, 5, .inl fT_draft_targets)), (aT_draft_terms, .inl (G.2.1, 5, .inl fT_draft_terms)), (aT_draft_wakes, .inl (G.2.1, 5, .inl fT_draft_wakes)), (aT_draft_sorts, .inl (G.2.1, 15, .inl fT_draft_sorts)), (aT_draft_numbers, .inl (G.2.1, 15, .inl fT_draft_numbers))] → va_S A s.heap H lo → ∀ (ls : Array Slot), f_Rd_readSpell_J116 k nT_codes_items vT_at vT_codes_size vT_draft_people vT_draft_spells fT_codes_items fT_draft_kinds fT_draft_numbers fT_draft_sorts fT_draft_targets fT_draft_terms fT_draft_wakes x3 = some rs → lv_has ls 4 [(0, .ref aT), (3, .int x3)] → W p l e R s m ar below meth c H lo 0 0 Q (F0 m 116 ls []) := by
    intro vT_at vT_draft_spells fT_draft_kinds fT_draft_numbers fT_draft_sorts fT_draft_targets fT_draft_terms fT_draft_wakes x3 H lo hP hD hS ls hev hl
    unfold f_Rd_readSpell_J116 at hev
    refine lv_aload_n hx hb dX2_readSpell_116 rfl (lv_at hl 0 rfl) ?_
    refine va_get (D := G.1) (ci := 0) (v := .ref aT_draft) (C := RX2) (T := TX2) (N := 6) hx hb hts i2 hown hK hP 0 rfl rfl 3 (by decide) (hw _ u175) (fun _ h9 => h9) rfl dX2_readSpell_117 ?_
    refine lv_iload_n hx hb dX2_readSpell_120 rfl (lv_at hl 1 rfl) ?_
    obtain ⟨⟨w1, w2⟩, hq, hev⟩ := x_bd hev
    refine rgV X (KK_at hKK hS hAb) hR (st1 := []) (ws2 := [(aT, .inr (0, [.ref aT_text, .ref aT_codes, .ref aT_places, .ref aT_draft, .int vT_at, .int vT_lines])), (aT_draft, .inr (4, [.int vT_draft_people, .int w1, .int vT_draft_day, .int vT_draft_broken, .ref aT_draft_kinds, .ref aT_draft_targets, .ref aT_draft_wakes, .ref aT_draft_terms, .ref aT_draft_sorts, .ref aT_draft_numbers])), (aT_codes, .inr (1, [.ref aT_codes_items, .int vT_codes_size])), (aT_codes_items, .inl (G.2.1, nT_codes_items, .inl fT_codes_items)), (aT_draft_kinds, .inl (G.2.1, 5, .inl fT_draft_kinds)), (aT_draft_targets, .inl (G.2.1, 5, .inl fT_draft_targets)), (aT_draft_terms, .inl (G.2.1, 5, .inl fT_draft_terms)), (aT_draft_wakes, .inl (G.2.1, 5, .inl w2)), (aT_draft_sorts, .inl (G.2.1, 15, .inl fT_draft_sorts)), (aT_draft_numbers, .inl (G.2.1, 15, .inl fT_draft_numbers))]) (c_To_endSpell l G aT_draft aT_draft_kinds aT_draft_targets aT_draft_wakes aT_draft_terms aT_draft_sorts aT_draft_numbers vT_draft_people vT_draft_spells vT_draft_day vT_draft_broken fT_draft_wakes x3 w1 w2 hq) K_X8_endSpell u616 hP hD hS hA hAb [1, 7] rfl (sbC rfl (sbC rfl sb0)) (mgK (by decide) (mgN 0 rfl rfl (mgK (by decide) (mgK (by decide) (mgK (by decide) (mgK (by decide) (mgK (by decide) (mgN 1 rfl rfl (mgK (by decide) (mgK (by decide) (mg0))))))))))) rfl (q0 := 0) rfl (by decide) ⟨Nat.zero_le _, Nat.zero_le _⟩ rfl hl.1 rfl (Nat.le_of_ble_eq_true rfl) rfl dX2_readSpell_121 (fun H lo hP hD hS => ?_)
    refine lv_iconst (v := (1 : Int32)) hx hb dX2_readSpell_124 (by decide) ?_
    exact ret2 _ _ _ _ (1 : Int32) (1 : Int32) vT_at w1 fT_draft_kinds fT_draft_numbers fT_draft_sorts fT_draft_targets fT_draft_terms w2 (Option.some.inj hev) dX2_readSpell_125 (show narrow _ (.int (1 : Int32)) = .int (1 : Int32) from nb1) hP hD hS
  have J91 : ∀ (vT_at : Int32) (vT_draft_spells : Int32) (fT_draft_kinds : Nat → Int32) (fT_draft_numbers : Nat → Int32) (fT_draft_sorts : Nat → Int32) (fT_draft_targets : Nat → Int32) (fT_draft_terms : Nat → Int32) (fT_draft_wakes : Nat → Int32), ∀ (H : Heap) (lo : List Loc), va_P G.1 classes [(aT, .inr (0, [.ref aT_text, .ref aT_codes, .ref aT_places, .ref aT_draft, .int vT_at, .int vT_lines])), (aT_draft, .inr (4, [.int vT_draft_people, .int vT_draft_spells, .int vT_draft_day, .int vT_draft_broken, .ref aT_draft_kinds, .ref aT_draft_targets, .ref aT_draft_wakes, .ref aT_draft_terms, .ref aT_draft_sorts, .ref aT_draft_numbers])), (aT_codes, .inr (1, [.ref aT_codes_items, .int vT_codes_size])), (aT_codes_items, .inl (G.2.1, nT_codes_items, .inl fT_codes_items)), (aT_draft_kinds, .inl (G.2.1, 5, .inl fT_draft_kinds)), (aT_draft_targets, .inl (G.2.1, 5, .inl fT_draft_targets)), (aT_draft_terms, .inl (G.2.1, 5, .inl fT_draft_terms)), (aT_draft_wakes, .inl (G.2.1, 5, .inl fT_draft_wakes)), (aT_draft_sorts, .inl (G.2.1, 15, .inl fT_draft_sorts)), (aT_draft_numbers, .inl (G.2.1, 15, .inl fT_draft_numbers))] H → va_D A [(aT, .inr (0, [.ref aT_text, .ref aT_codes, .ref aT_places, .ref aT_draft, .int vT_at, .int vT_lines])), (aT_draft, .inr (4, [.int vT_draft_people, .int vT_draft_spells, .int vT_draft_day, .int vT_draft_broken, .ref aT_draft_kinds, .ref aT_draft_targets, .ref aT_draft_wakes, .ref aT_draft_terms, .ref aT_draft_sorts, .ref aT_draft_numbers])), (aT_codes, .inr (1, [.ref aT_codes_items, .int vT_codes_size])), (aT_codes_items, .inl (G.2.1, nT_codes_items, .inl fT_codes_items)), (aT_draft_kinds, .inl (G.2.1, 5, .inl fT_draft_kinds)), (aT_draft_targets, .inl (G.2.1, 5, .inl fT_draft_targets)), (aT_draft_terms, .inl (G.2.1, 5, .inl fT_draft_terms)), (aT_draft_wakes, .inl (G.2.1, 5, .inl fT_draft_wakes)), (aT_draft_sorts, .inl (G.2.1, 15, .inl fT_draft_sorts)), (aT_draft_numbers, .inl (G.2.1, 15, .inl fT_draft_numbers))] → va_S A s.heap H lo → ∀ (ls : Array Slot), f_Rd_readSpell_J91 k nT_codes_items vT_at vT_codes_size vT_draft_people vT_draft_spells fT_codes_items fT_draft_kinds fT_draft_numbers fT_draft_sorts fT_draft_targets fT_draft_terms fT_draft_wakes = some rs → lv_has ls 4 [(0, .ref aT)] → W p l e R s m ar below meth c H lo 0 0 Q (F0 m 91 ls []) := by
    intro vT_at vT_draft_spells fT_draft_kinds fT_draft_numbers fT_draft_sorts fT_draft_targets fT_draft_terms fT_draft_wakes H lo hP hD hS ls hev hl
    unfold f_Rd_readSpell_J91 at hev
    refine lv_iconst (v := (-1 : Int32)) hx hb dX2_readSpell_91 (by decide) ?_
    refine lv_istore_n (lv' := [(3, .int (-1 : Int32)), (0, .ref aT)]) hx hb dX2_readSpell_92 rfl hl (by decide) rfl (fun ls hl => ?_)
    refine lv_aload_n hx hb dX2_readSpell_93 rfl (lv_at hl 1 rfl) ?_
    refine lv_bipush (v := (20 : Int32)) hx hb dX2_readSpell_94 (by decide) ?_
    obtain ⟨⟨y3, w4⟩, hq, hev⟩ := x_bd hev
    refine rgV X (KK_at hKK hS hAb) hR (st1 := [.int y3]) (ws2 := [(aT, .inr (0, [.ref aT_text, .ref aT_codes, .ref aT_places, .ref aT_draft, .int w4, .int vT_lines])), (aT_draft, .inr (4, [.int vT_draft_people, .int vT_draft_spells, .int vT_draft_day, .int vT_draft_broken, .ref aT_draft_kinds, .ref aT_draft_targets, .ref aT_draft_wakes, .ref aT_draft_terms, .ref aT_draft_sorts, .ref aT_draft_numbers])), (aT_codes, .inr (1, [.ref aT_codes_items, .int vT_codes_size])), (aT_codes_items, .inl (G.2.1, nT_codes_items, .inl fT_codes_items)), (aT_draft_kinds, .inl (G.2.1, 5, .inl fT_draft_kinds)), (aT_draft_targets, .inl (G.2.1, 5, .inl fT_draft_targets)), (aT_draft_terms, .inl (G.2.1, 5, .inl fT_draft_terms)), (aT_draft_wakes, .inl (G.2.1, 5, .inl fT_draft_wakes)), (aT_draft_sorts, .inl (G.2.1, 15, .inl fT_draft_sorts)), (aT_draft_numbers, .inl (G.2.1, 15, .inl fT_draft_numbers))]) (c_Rd_takes l G aT aT_text aT_codes aT_places aT_draft aT_codes_items vT_at vT_lines vT_codes_size fT_codes_items nT_codes_items (20 : Int32) y3 w4 hq) K_X2_takes u599 hP hD hS hA hAb [0, 2, 3] rfl (sbC rfl (sbC rfl (sbC rfl sb0))) (mgN 0 rfl rfl (mgK (by decide) (mgN 1 rfl rfl (mgN 2 rfl rfl (mgK (by decide) (mgK (by decide) (mgK (by decide) (mgK (by decide) (mgK (by decide) (mgK (by decide) (mg0))))))))))) rfl (q0 := 0) rfl (by decide) ⟨Nat.zero_le _, Nat.zero_le _⟩ rfl hl.1 rfl (Nat.le_of_ble_eq_true rfl) rfl dX2_readSpell_96 (fun H lo hP hD hS => ?_)
    refine lv_if_eq (tgt := 116) hx hb dX2_readSpell_99 (by decide) (fun c5 => ?_) (fun c5 => ?_)
    · replace hev := x_t c5 hev
      exact J116 w4 vT_draft_spells fT_draft_kinds fT_draft_numbers fT_draft_sorts fT_draft_targets fT_draft_terms fT_draft_wakes (-1 : Int32) _ _ hP hD hS ls hev (lv_sub hl [1, 0] rfl)
    · replace hev := x_f c5 hev
      refine lv_aload_n hx hb dX2_readSpell_102 rfl (lv_at hl 1 rfl) ?_
      refine lv_bipush (v := (20 : Int32)) hx hb dX2_readSpell_103 (by decide) ?_
      obtain ⟨⟨y6, w7⟩, hq, hev⟩ := x_bd hev
      refine rgV X (KK_at hKK hS hAb) hR (st1 := [.int y6]) (ws2 := [(aT, .inr (0, [.ref aT_text, .ref aT_codes, .ref aT_places, .ref aT_draft, .int w7, .int vT_lines])), (aT_draft, .inr (4, [.int vT_draft_people, .int vT_draft_spells, .int vT_draft_day, .int vT_draft_broken, .ref aT_draft_kinds, .ref aT_draft_targets, .ref aT_draft_wakes, .ref aT_draft_terms, .ref aT_draft_sorts, .ref aT_draft_numbers])), (aT_codes, .inr (1, [.ref aT_codes_items, .int vT_codes_size])), (aT_codes_items, .inl (G.2.1, nT_codes_items, .inl fT_codes_items)), (aT_draft_kinds, .inl (G.2.1, 5, .inl fT_draft_kinds)), (aT_draft_targets, .inl (G.2.1, 5, .inl fT_draft_targets)), (aT_draft_terms, .inl (G.2.1, 5, .inl fT_draft_terms)), (aT_draft_wakes, .inl (G.2.1, 5, .inl fT_draft_wakes)), (aT_draft_sorts, .inl (G.2.1, 15, .inl fT_draft_sorts)), (aT_draft_numbers, .inl (G.2.1, 15, .inl fT_draft_numbers))]) (c_Rd_takeNumberBehind l G aT aT_text aT_codes aT_places aT_draft aT_codes_items aT_draft_kinds aT_draft_targets aT_draft_wakes aT_draft_terms aT_draft_sorts aT_draft_numbers w4 vT_lines vT_codes_size vT_draft_people vT_draft_spells vT_draft_day vT_draft_broken fT_codes_items nT_codes_items (20 : Int32) y6 w7 hq) K_X2_takeNumberBehind u589 hP hD hS hA hAb [0, 2, 1, 3] rfl (sbC rfl (sbC rfl (sbC rfl (sbC rfl sb0)))) (mgN 0 rfl rfl (mgN 2 rfl rfl (mgN 1 rfl rfl (mgN 3 rfl rfl (mgK (by decide) (mgK (by decide) (mgK (by decide) (mgK (by decide) (mgK (by decide) (mgK (by decide) (mg0))))))))))) rfl (q0 := 0) rfl (by decide) ⟨Nat.zero_le _, Nat.zero_le _⟩ rfl hl.1 rfl (Nat.le_of_ble_eq_true rfl) rfl dX2_readSpell_105 (fun H lo hP hD hS => ?_)
      refine lv_istore_n (lv' := [(3, .int y6), (0, .ref aT)]) hx hb dX2_readSpell_108 rfl hl (by decide) rfl (fun ls hl => ?_)
      refine lv_iload_n hx hb dX2_readSpell_109 rfl (lv_at hl 0 rfl) ?_
      refine lv_iconst (v := (-1 : Int32)) hx hb dX2_readSpell_110 (by decide) ?_
      refine lv_icmp_ne (tgt := 116) hx hb dX2_readSpell_111 (by decide) (fun c8 => ?_) (fun c8 => ?_)
      · replace hev := x_f c8 hev
        exact J116 w7 vT_draft_spells fT_draft_kinds fT_draft_numbers fT_draft_sorts fT_draft_targets fT_draft_terms fT_draft_wakes y6 _ _ hP hD hS ls hev (lv_sub hl [1, 0] rfl)
      · replace hev := x_t c8 hev
        refine lv_iconst (v := (0 : Int32)) hx hb dX2_readSpell_114 (by decide) ?_
        exact ret2 _ _ _ _ (0 : Int32) (0 : Int32) w7 vT_draft_spells fT_draft_kinds fT_draft_numbers fT_draft_sorts fT_draft_targets fT_draft_terms fT_draft_wakes (Option.some.inj hev) dX2_readSpell_115 (show narrow _ (.int (0 : Int32)) = .int (0 : Int32) from nb0) hP hD hS
  unfold f_Rd_readSpell at hev
  refine lv_aload_n hx hb dX2_readSpell_0 rfl (lv_at hl 0 rfl) ?_
  refine va_get (D := G.1) (ci := 0) (v := .ref aT_draft) (C := RX2) (T := TX2) (N := 6) hx hb hts i2 hown hK hP 0 rfl rfl 3 (by decide) (hw _ u175) (fun _ h9 => h9) rfl dX2_readSpell_1 ?_
  obtain ⟨y9, hq, hev⟩ := x_bd hev
  refine roV X (KK_at hKK hS hAb) hR (st1 := [.int y9]) (c_To_isFull l G aT_draft aT_draft_kinds aT_draft_targets aT_draft_wakes aT_draft_terms aT_draft_sorts aT_draft_numbers vT_draft_people vT_draft_spells vT_draft_day vT_draft_broken y9 hq) K_X8_isFull u585 (x_Psub hP [1] rfl) rfl (q0 := 0) rfl (by decide) ⟨Nat.zero_le _, Nat.zero_le _⟩ rfl hl.1 rfl (Nat.le_of_ble_eq_true rfl) rfl dX2_readSpell_4 ?_
  refine lv_if_eq (tgt := 12) hx hb dX2_readSpell_7 (by decide) (fun c10 => ?_) (fun c10 => ?_)
  · replace hev := x_t c10 hev
    refine lv_aload_n hx hb dX2_readSpell_12 rfl (lv_at hl 0 rfl) ?_
    refine lv_dup hx hb dX2_readSpell_13 rfl ?_
    refine va_get (D := G.1) (ci := 0) (v := .int vT_at) (C := RX2) (T := TX2) (N := 6) hx hb hts i2 hown hK hP 0 rfl rfl 4 (by decide) (hw _ u176) (fun _ h9 => h9) rfl dX2_readSpell_14 ?_
    refine lv_iconst (v := (1 : Int32)) hx hb dX2_readSpell_17 (by decide) ?_
    refine lv_iadd hx hb dX2_readSpell_18 ?_
    refine lv_topi (fun y11 ey11 => ?_)
    replace hev := x_lt hev y11 ey11
    refine va_put (D := G.1) (ci := 0) (v := .int y11) (ty := .int) (C := RX2) (T := TX2) (N := 6) hx hb hts i2 tyX2 tyX2_ok nmX2 hown hK hP hD hS 0 rfl rfl 4 (by decide) (hw _ u176) (fun _ h9 => h9) rfl (by decide +kernel) rfl rfl (Nat.le_of_ble_eq_true rfl) dX2_readSpell_19 (fun H lo hP hD hS => ?_)
    refine lv_aload_n hx hb dX2_readSpell_22 rfl (lv_at hl 0 rfl) ?_
    refine lv_iload_n hx hb dX2_readSpell_23 rfl (lv_at hl 1 rfl) ?_
    obtain ⟨⟨y12, w13⟩, hq, hev⟩ := x_bd hev
    refine rgV X (KK_at hKK hS hAb) hR (st1 := [.int y12]) (ws2 := [(aT, .inr (0, [.ref aT_text, .ref aT_codes, .ref aT_places, .ref aT_draft, .int w13, .int vT_lines])), (aT_draft, .inr (4, [.int vT_draft_people, .int vT_draft_spells, .int vT_draft_day, .int vT_draft_broken, .ref aT_draft_kinds, .ref aT_draft_targets, .ref aT_draft_wakes, .ref aT_draft_terms, .ref aT_draft_sorts, .ref aT_draft_numbers])), (aT_codes, .inr (1, [.ref aT_codes_items, .int vT_codes_size])), (aT_codes_items, .inl (G.2.1, nT_codes_items, .inl fT_codes_items)), (aT_draft_kinds, .inl (G.2.1, 5, .inl fT_draft_kinds)), (aT_draft_targets, .inl (G.2.1, 5, .inl fT_draft_targets)), (aT_draft_terms, .inl (G.2.1, 5, .inl fT_draft_terms)), (aT_draft_wakes, .inl (G.2.1, 5, .inl fT_draft_wakes)), (aT_draft_sorts, .inl (G.2.1, 15, .inl fT_draft_sorts)), (aT_draft_numbers, .inl (G.2.1, 15, .inl fT_draft_numbers))]) (c_Rd_takeNumberBehind l G aT aT_text aT_codes aT_places aT_draft aT_codes_items aT_draft_kinds aT_draft_targets aT_draft_wakes aT_draft_terms aT_draft_sorts aT_draft_numbers y11 vT_lines vT_codes_size vT_draft_people vT_draft_spells vT_draft_day vT_draft_broken fT_codes_items nT_codes_items p1 y12 w13 hq) K_X2_takeNumberBehind u589 hP hD hS hA hAb [0, 2, 1, 3] rfl (sbC rfl (sbC rfl (sbC rfl (sbC rfl sb0)))) (mgN 0 rfl rfl (mgN 2 rfl rfl (mgN 1 rfl rfl (mgN 3 rfl rfl (mgK (by decide) (mgK (by decide) (mgK (by decide) (mgK (by decide) (mgK (by decide) (mgK (by decide) (mg0))))))))))) rfl (q0 := 0) rfl (by decide) ⟨Nat.zero_le _, Nat.zero_le _⟩ rfl hl.1 rfl (Nat.le_of_ble_eq_true rfl) rfl dX2_readSpell_24 (fun H lo hP hD hS => ?_)
    refine lv_istore_n (lv' := [(2, .int y12), (0, .ref aT), (1, .int p1)]) hx hb dX2_readSpell_27 rfl hl (by decide) rfl (fun ls hl => ?_)
    refine lv_iload_n hx hb dX2_readSpell_28 rfl (lv_at hl 0 rfl) ?_
    refine lv_iconst (v := (-1 : Int32)) hx hb dX2_readSpell_29 (by decide) ?_
    refine lv_icmp_eq (tgt := 42) hx hb dX2_readSpell_30 (by decide) (fun c14 => ?_) (fun c14 => ?_)
    · replace hev := x_t c14 hev
      refine lv_iconst (v := (0 : Int32)) hx hb dX2_readSpell_42 (by decide) ?_
      exact ret2 _ _ _ _ (0 : Int32) (0 : Int32) w13 vT_draft_spells fT_draft_kinds fT_draft_numbers fT_draft_sorts fT_draft_targets fT_draft_terms fT_draft_wakes (Option.some.inj hev) dX2_readSpell_43 (show narrow _ (.int (0 : Int32)) = .int (0 : Int32) from nb0) hP hD hS
    · replace hev := x_f c14 hev
      refine lv_aload_n hx hb dX2_readSpell_33 rfl (lv_at hl 1 rfl) ?_
      refine lv_bipush (v := (18 : Int32)) hx hb dX2_readSpell_34 (by decide) ?_
      obtain ⟨⟨y15, w16⟩, hq, hev⟩ := x_bd hev
      refine rgV X (KK_at hKK hS hAb) hR (st1 := [.int y15]) (ws2 := [(aT, .inr (0, [.ref aT_text, .ref aT_codes, .ref aT_places, .ref aT_draft, .int w16, .int vT_lines])), (aT_draft, .inr (4, [.int vT_draft_people, .int vT_draft_spells, .int vT_draft_day, .int vT_draft_broken, .ref aT_draft_kinds, .ref aT_draft_targets, .ref aT_draft_wakes, .ref aT_draft_terms, .ref aT_draft_sorts, .ref aT_draft_numbers])), (aT_codes, .inr (1, [.ref aT_codes_items, .int vT_codes_size])), (aT_codes_items, .inl (G.2.1, nT_codes_items, .inl fT_codes_items)), (aT_draft_kinds, .inl (G.2.1, 5, .inl fT_draft_kinds)), (aT_draft_targets, .inl (G.2.1, 5, .inl fT_draft_targets)), (aT_draft_terms, .inl (G.2.1, 5, .inl fT_draft_terms)), (aT_draft_wakes, .inl (G.2.1, 5, .inl fT_draft_wakes)), (aT_draft_sorts, .inl (G.2.1, 15, .inl fT_draft_sorts)), (aT_draft_numbers, .inl (G.2.1, 15, .inl fT_draft_numbers))]) (c_Rd_takes l G aT aT_text aT_codes aT_places aT_draft aT_codes_items w13 vT_lines vT_codes_size fT_codes_items nT_codes_items (18 : Int32) y15 w16 hq) K_X2_takes u599 hP hD hS hA hAb [0, 2, 3] rfl (sbC rfl (sbC rfl (sbC rfl sb0))) (mgN 0 rfl rfl (mgK (by decide) (mgN 1 rfl rfl (mgN 2 rfl rfl (mgK (by decide) (mgK (by decide) (mgK (by decide) (mgK (by decide) (mgK (by decide) (mgK (by decide) (mg0))))))))))) rfl (q0 := 0) rfl (by decide) ⟨Nat.zero_le _, Nat.zero_le _⟩ rfl hl.1 rfl (Nat.le_of_ble_eq_true rfl) rfl dX2_readSpell_36 (fun H lo hP hD hS => ?_)
      refine lv_if_ne (tgt := 44) hx hb dX2_readSpell_39 (by decide) (fun c17 => ?_) (fun c17 => ?_)
      · replace hev := x_f c17 hev
        refine lv_aload_n hx hb dX2_readSpell_44 rfl (lv_at hl 1 rfl) ?_
        refine va_get (D := G.1) (ci := 0) (v := .ref aT_draft) (C := RX2) (T := TX2) (N := 6) hx hb hts i2 hown hK hP 0 rfl rfl 3 (by decide) (hw _ u175) (fun _ h9 => h9) rfl dX2_readSpell_45 ?_
        refine lv_iload_n hx hb dX2_readSpell_48 rfl (lv_at hl 2 rfl) ?_
        refine lv_bipush (v := (13 : Int32)) hx hb dX2_readSpell_49 (by decide) ?_
        refine lv_isub hx hb dX2_readSpell_51 ?_
        refine lv_iload_n hx hb dX2_readSpell_52 rfl (lv_at hl 0 rfl) ?_
        obtain ⟨⟨w18, w19, w20, w21⟩, hq, hev⟩ := x_bd hev
        refine rgV X (KK_at hKK hS hAb) hR (st1 := []) (ws2 := [(aT, .inr (0, [.ref aT_text, .ref aT_codes, .ref aT_places, .ref aT_draft, .int w16, .int vT_lines])), (aT_draft, .inr (4, [.int vT_draft_people, .int vT_draft_spells, .int vT_draft_day, .int vT_draft_broken, .ref aT_draft_kinds, .ref aT_draft_targets, .ref aT_draft_wakes, .ref aT_draft_terms, .ref aT_draft_sorts, .ref aT_draft_numbers])), (aT_codes, .inr (1, [.ref aT_codes_items, .int vT_codes_size])), (aT_codes_items, .inl (G.2.1, nT_codes_items, .inl fT_codes_items)), (aT_draft_kinds, .inl (G.2.1, 5, .inl w18)), (aT_draft_targets, .inl (G.2.1, 5, .inl w19)), (aT_draft_terms, .inl (G.2.1, 5, .inl w20)), (aT_draft_wakes, .inl (G.2.1, 5, .inl w21)), (aT_draft_sorts, .inl (G.2.1, 15, .inl fT_draft_sorts)), (aT_draft_numbers, .inl (G.2.1, 15, .inl fT_draft_numbers))]) (c_To_beginSpell l G aT_draft aT_draft_kinds aT_draft_targets aT_draft_wakes aT_draft_terms aT_draft_sorts aT_draft_numbers vT_draft_people vT_draft_spells vT_draft_day vT_draft_broken fT_draft_kinds fT_draft_targets fT_draft_terms fT_draft_wakes (p1 - (13 : Int32)) y12 w18 w19 w20 w21 hq) K_X8_beginSpell u603 hP hD hS hA hAb [1, 4, 5, 6, 7] rfl (sbC rfl (sbC rfl (sbC rfl (sbC rfl (sbC rfl sb0))))) (mgK (by decide) (mgN 0 rfl rfl (mgK (by decide) (mgK (by decide) (mgN 1 rfl rfl (mgN 2 rfl rfl (mgN 3 rfl rfl (mgN 4 rfl rfl (mgK (by decide) (mgK (by decide) (mg0))))))))))) rfl (q0 := 0) rfl (by decide) ⟨Nat.zero_le _, Nat.zero_le _⟩ rfl hl.1 rfl (Nat.le_of_ble_eq_true rfl) rfl dX2_readSpell_53 (fun H lo hP hD hS => ?_)
        refine lv_iconst (v := (0 : Int32)) hx hb dX2_readSpell_56 (by decide) ?_
        refine lv_istore_n (lv' := [(3, .int (0 : Int32)), (2, .int y12), (0, .ref aT), (1, .int p1)]) hx hb dX2_readSpell_57 rfl hl (by decide) rfl (fun ls hl => ?_)
        have L58 : ∀ (vT_draft_spells : Int32) (fT_draft_kinds : Nat → Int32) (fT_draft_targets : Nat → Int32) (fT_draft_wakes : Nat → Int32), ∀ (k : Nat) (x3 : Int32) (vT_at : Int32) (fT_draft_numbers : Nat → Int32) (fT_draft_sorts : Nat → Int32) (fT_draft_terms : Nat → Int32) (out : (Int32 × (Nat → Int32) × (Nat → Int32) × (Nat → Int32)) ⊕ (Int32 × Int32 × Int32 × (Nat → Int32) × (Nat → Int32) × (Nat → Int32) × (Nat → Int32) × (Nat → Int32) × (Nat → Int32))), f_Rd_readSpell_L58 nT_codes_items vT_codes_size vT_draft_people vT_draft_spells fT_codes_items fT_draft_kinds fT_draft_targets fT_draft_wakes k x3 vT_at fT_draft_numbers fT_draft_sorts fT_draft_terms = some out → (∀ (ovT_at : Int32) (ofT_draft_numbers : Nat → Int32) (ofT_draft_sorts : Nat → Int32) (ofT_draft_terms : Nat → Int32), out = .inl (ovT_at, ofT_draft_numbers, ofT_draft_sorts, ofT_draft_terms) → ∀ (H : Heap) (lo : List Loc), va_P G.1 classes [(aT, .inr (0, [.ref aT_text, .ref aT_codes, .ref aT_places, .ref aT_draft, .int ovT_at, .int vT_lines])), (aT_draft, .inr (4, [.int vT_draft_people, .int vT_draft_spells, .int vT_draft_day, .int vT_draft_broken, .ref aT_draft_kinds, .ref aT_draft_targets, .ref aT_draft_wakes, .ref aT_draft_terms, .ref aT_draft_sorts, .ref aT_draft_numbers])), (aT_codes, .inr (1, [.ref aT_codes_items, .int vT_codes_size])), (aT_codes_items, .inl (G.2.1, nT_codes_items, .inl fT_codes_items)), (aT_draft_kinds, .inl (G.2.1, 5, .inl fT_draft_kinds)), (aT_draft_targets, .inl (G.2.1, 5, .inl fT_draft_targets)), (aT_draft_terms, .inl (G.2.1, 5, .inl ofT_draft_terms)), (aT_draft_wakes, .inl (G.2.1, 5, .inl fT_draft_wakes)), (aT_draft_sorts, .inl (G.2.1, 15, .inl ofT_draft_sorts)), (aT_draft_numbers, .inl (G.2.1, 15, .inl ofT_draft_numbers))] H → va_D A [(aT, .inr (0, [.ref aT_text, .ref aT_codes, .ref aT_places, .ref aT_draft, .int ovT_at, .int vT_lines])), (aT_draft, .inr (4, [.int vT_draft_people, .int vT_draft_spells, .int vT_draft_day, .int vT_draft_broken, .ref aT_draft_kinds, .ref aT_draft_targets, .ref aT_draft_wakes, .ref aT_draft_terms, .ref aT_draft_sorts, .ref aT_draft_numbers])), (aT_codes, .inr (1, [.ref aT_codes_items, .int vT_codes_size])), (aT_codes_items, .inl (G.2.1, nT_codes_items, .inl fT_codes_items)), (aT_draft_kinds, .inl (G.2.1, 5, .inl fT_draft_kinds)), (aT_draft_targets, .inl (G.2.1, 5, .inl fT_draft_targets)), (aT_draft_terms, .inl (G.2.1, 5, .inl ofT_draft_terms)), (aT_draft_wakes, .inl (G.2.1, 5, .inl fT_draft_wakes)), (aT_draft_sorts, .inl (G.2.1, 15, .inl ofT_draft_sorts)), (aT_draft_numbers, .inl (G.2.1, 15, .inl ofT_draft_numbers))] → va_S A s.heap H lo → ∀ (ls : Array Slot), lv_has ls 4 [(0, .ref aT)] → W p l e R s m ar below meth c H lo 0 0 Q (F0 m 91 ls [])) → (∀ v, out = .inr v → v = rs) → ∀ (H : Heap) (lo : List Loc), va_P G.1 classes [(aT, .inr (0, [.ref aT_text, .ref aT_codes, .ref aT_places, .ref aT_draft, .int vT_at, .int vT_lines])), (aT_draft, .inr (4, [.int vT_draft_people, .int vT_draft_spells, .int vT_draft_day, .int vT_draft_broken, .ref aT_draft_kinds, .ref aT_draft_targets, .ref aT_draft_wakes, .ref aT_draft_terms, .ref aT_draft_sorts, .ref aT_draft_numbers])), (aT_codes, .inr (1, [.ref aT_codes_items, .int vT_codes_size])), (aT_codes_items, .inl (G.2.1, nT_codes_items, .inl fT_codes_items)), (aT_draft_kinds, .inl (G.2.1, 5, .inl fT_draft_kinds)), (aT_draft_targets, .inl (G.2.1, 5, .inl fT_draft_targets)), (aT_draft_terms, .inl (G.2.1, 5, .inl fT_draft_terms)), (aT_draft_wakes, .inl (G.2.1, 5, .inl fT_draft_wakes)), (aT_draft_sorts, .inl (G.2.1, 15, .inl fT_draft_sorts)), (aT_draft_numbers, .inl (G.2.1, 15, .inl fT_draft_numbers))] H → va_D A [(aT, .inr (0, [.ref aT_text, .ref aT_codes, .ref aT_places, .ref aT_draft, .int vT_at, .int vT_lines])), (aT_draft, .inr (4, [.int vT_draft_people, .int vT_draft_spells, .int vT_draft_day, .int vT_draft_broken, .ref aT_draft_kinds, .ref aT_draft_targets, .ref aT_draft_wakes, .ref aT_draft_terms, .ref aT_draft_sorts, .ref aT_draft_numbers])), (aT_codes, .inr (1, [.ref aT_codes_items, .int vT_codes_size])), (aT_codes_items, .inl (G.2.1, nT_codes_items, .inl fT_codes_items)), (aT_draft_kinds, .inl (G.2.1, 5, .inl fT_draft_kinds)), (aT_draft_targets, .inl (G.2.1, 5, .inl fT_draft_targets)), (aT_draft_terms, .inl (G.2.1, 5, .inl fT_draft_terms)), (aT_draft_wakes, .inl (G.2.1, 5, .inl fT_draft_wakes)), (aT_draft_sorts, .inl (G.2.1, 15, .inl fT_draft_sorts)), (aT_draft_numbers, .inl (G.2.1, 15, .inl fT_draft_numbers))] → va_S A s.heap H lo → ∀ (ls : Array Slot), lv_has ls 4 [(0, .ref aT), (3, .int x3)] → W p l e R s m ar below meth c H lo 0 0 Q (F0 m 58 ls []) := by
          intro vT_draft_spells fT_draft_kinds fT_draft_targets fT_draft_wakes k
          induction k with
          | zero => intro x3 vT_at fT_draft_numbers fT_draft_sorts fT_draft_terms out hev; rw [f_Rd_readSpell_L58] at hev; cases hev
          | succ k ih =>
            intro x3 vT_at fT_draft_numbers fT_draft_sorts fT_draft_terms out hev hex hret H lo hP hD hS ls hl
            rw [f_Rd_readSpell_L58] at hev
            have J76 : ∀ (vT_at : Int32) (fT_draft_numbers : Nat → Int32) (fT_draft_sorts : Nat → Int32) (fT_draft_terms : Nat → Int32) (x3 : Int32), ∀ (H : Heap) (lo : List Loc), va_P G.1 classes [(aT, .inr (0, [.ref aT_text, .ref aT_codes, .ref aT_places, .ref aT_draft, .int vT_at, .int vT_lines])), (aT_draft, .inr (4, [.int vT_draft_people, .int vT_draft_spells, .int vT_draft_day, .int vT_draft_broken, .ref aT_draft_kinds, .ref aT_draft_targets, .ref aT_draft_wakes, .ref aT_draft_terms, .ref aT_draft_sorts, .ref aT_draft_numbers])), (aT_codes, .inr (1, [.ref aT_codes_items, .int vT_codes_size])), (aT_codes_items, .inl (G.2.1, nT_codes_items, .inl fT_codes_items)), (aT_draft_kinds, .inl (G.2.1, 5, .inl fT_draft_kinds)), (aT_draft_targets, .inl (G.2.1, 5, .inl fT_draft_targets)), (aT_draft_terms, .inl (G.2.1, 5, .inl fT_draft_terms)), (aT_draft_wakes, .inl (G.2.1, 5, .inl fT_draft_wakes)), (aT_draft_sorts, .inl (G.2.1, 15, .inl fT_draft_sorts)), (aT_draft_numbers, .inl (G.2.1, 15, .inl fT_draft_numbers))] H → va_D A [(aT, .inr (0, [.ref aT_text, .ref aT_codes, .ref aT_places, .ref aT_draft, .int vT_at, .int vT_lines])), (aT_draft, .inr (4, [.int vT_draft_people, .int vT_draft_spells, .int vT_draft_day, .int vT_draft_broken, .ref aT_draft_kinds, .ref aT_draft_targets, .ref aT_draft_wakes, .ref aT_draft_terms, .ref aT_draft_sorts, .ref aT_draft_numbers])), (aT_codes, .inr (1, [.ref aT_codes_items, .int vT_codes_size])), (aT_codes_items, .inl (G.2.1, nT_codes_items, .inl fT_codes_items)), (aT_draft_kinds, .inl (G.2.1, 5, .inl fT_draft_kinds)), (aT_draft_targets, .inl (G.2.1, 5, .inl fT_draft_targets)), (aT_draft_terms, .inl (G.2.1, 5, .inl fT_draft_terms)), (aT_draft_wakes, .inl (G.2.1, 5, .inl fT_draft_wakes)), (aT_draft_sorts, .inl (G.2.1, 15, .inl fT_draft_sorts)), (aT_draft_numbers, .inl (G.2.1, 15, .inl fT_draft_numbers))] → va_S A s.heap H lo → ∀ (ls : Array Slot), f_Rd_readSpell_J76 (f_Rd_readSpell_L58 nT_codes_items vT_codes_size vT_draft_people vT_draft_spells fT_codes_items fT_draft_kinds fT_draft_targets fT_draft_wakes k) k nT_codes_items vT_at vT_codes_size vT_draft_people vT_draft_spells fT_codes_items fT_draft_kinds fT_draft_numbers fT_draft_sorts fT_draft_targets fT_draft_terms fT_draft_wakes x3 = some out → lv_has ls 4 [(0, .ref aT), (3, .int x3)] → W p l e R s m ar below meth c H lo 0 0 Q (F0 m 76 ls []) := by
              intro vT_at fT_draft_numbers fT_draft_sorts fT_draft_terms x3 H lo hP hD hS ls hev hl
              unfold f_Rd_readSpell_J76 at hev
              refine lv_aload_n hx hb dX2_readSpell_76 rfl (lv_at hl 0 rfl) ?_
              obtain ⟨⟨y22, w23, w24, w25, w26⟩, hq, hev⟩ := x_bd hev
              refine rgV X (KK_at hKK hS hAb) hR (st1 := [.int y22]) (ws2 := [(aT, .inr (0, [.ref aT_text, .ref aT_codes, .ref aT_places, .ref aT_draft, .int w23, .int vT_lines])), (aT_draft, .inr (4, [.int vT_draft_people, .int vT_draft_spells, .int vT_draft_day, .int vT_draft_broken, .ref aT_draft_kinds, .ref aT_draft_targets, .ref aT_draft_wakes, .ref aT_draft_terms, .ref aT_draft_sorts, .ref aT_draft_numbers])), (aT_codes, .inr (1, [.ref aT_codes_items, .int vT_codes_size])), (aT_codes_items, .inl (G.2.1, nT_codes_items, .inl fT_codes_items)), (aT_draft_kinds, .inl (G.2.1, 5, .inl fT_draft_kinds)), (aT_draft_targets, .inl (G.2.1, 5, .inl fT_draft_targets)), (aT_draft_terms, .inl (G.2.1, 5, .inl w26)), (aT_draft_wakes, .inl (G.2.1, 5, .inl fT_draft_wakes)), (aT_draft_sorts, .inl (G.2.1, 15, .inl w25)), (aT_draft_numbers, .inl (G.2.1, 15, .inl w24))]) (c_Rd_readTerm l G aT aT_text aT_codes aT_places aT_draft aT_codes_items aT_draft_kinds aT_draft_targets aT_draft_wakes aT_draft_terms aT_draft_sorts aT_draft_numbers vT_at vT_lines vT_codes_size vT_draft_people vT_draft_spells vT_draft_day vT_draft_broken fT_codes_items nT_codes_items fT_draft_terms fT_draft_sorts fT_draft_numbers y22 w23 w24 w25 w26 hq) K_X2_readTerm u608 hP hD hS hA hAb [0, 2, 1, 3, 6, 8, 9] rfl (sbC rfl (sbC rfl (sbC rfl (sbC rfl (sbC rfl (sbC rfl (sbC rfl sb0))))))) (mgN 0 rfl rfl (mgN 2 rfl rfl (mgN 1 rfl rfl (mgN 3 rfl rfl (mgK (by decide) (mgK (by decide) (mgN 4 rfl rfl (mgK (by decide) (mgN 5 rfl rfl (mgN 6 rfl rfl (mg0))))))))))) rfl (q0 := 0) rfl (by decide) ⟨Nat.zero_le _, Nat.zero_le _⟩ rfl hl.1 rfl (Nat.le_of_ble_eq_true rfl) rfl dX2_readSpell_77 (fun H lo hP hD hS => ?_)
              refine lv_if_ne (tgt := 85) hx hb dX2_readSpell_80 (by decide) (fun c27 => ?_) (fun c27 => ?_)
              · replace hev := x_f c27 hev
                obtain ⟨y28, ey28⟩ : ∃ y : Int32, y = x3 + (1 : Int32) := ⟨_, rfl⟩
                refine lv_iinc (v := y28) (lv' := [(3, .int y28), (0, .ref aT)]) hx hb dX2_readSpell_85 hl (k := 1) rfl (by rw [ey28]; rfl) (by decide) rfl (fun ls hl => ?_)
                replace hev := x_lt hev y28 ey28
                refine lv_goto (tgt := 58) hx hb dX2_readSpell_88 (by decide) ?_
                exact ih y28 w23 w24 w25 w26 _ hev hex hret _ _ hP hD hS ls (lv_sub hl [1, 0] rfl)
              · replace hev := x_t c27 hev
                refine lv_iconst (v := (0 : Int32)) hx hb dX2_readSpell_83 (by decide) ?_
                exact ret2 _ _ _ _ (0 : Int32) (0 : Int32) w23 vT_draft_spells fT_draft_kinds w24 w25 fT_draft_targets w26 fT_draft_wakes (hret _ (Option.some.inj hev).symm) dX2_readSpell_84 (show narrow _ (.int (0 : Int32)) = .int (0 : Int32) from nb0) hP hD hS
            refine lv_iload_n hx hb dX2_readSpell_58 rfl (lv_at hl 1 rfl) ?_
            refine lv_iconst (v := (3 : Int32)) hx hb dX2_readSpell_59 (by decide) ?_
            refine lv_icmp_ge (tgt := 91) hx hb dX2_readSpell_60 (by decide) (fun c29 => ?_) (fun c29 => ?_)
            · replace hev := x_t c29 hev
              exact hex vT_at fT_draft_numbers fT_draft_sorts fT_draft_terms (Option.some.inj hev).symm _ _ hP hD hS ls (lv_sub hl [0] rfl)
            · replace hev := x_f c29 hev
              refine lv_iload_n hx hb dX2_readSpell_63 rfl (lv_at hl 1 rfl) ?_
              refine lv_if_eq (tgt := 76) hx hb dX2_readSpell_64 (by decide) (fun c30 => ?_) (fun c30 => ?_)
              · replace hev := x_t c30 hev
                exact J76 vT_at fT_draft_numbers fT_draft_sorts fT_draft_terms x3 _ _ hP hD hS ls hev (lv_sub hl [0, 1] rfl)
              · replace hev := x_f c30 hev
                refine lv_aload_n hx hb dX2_readSpell_67 rfl (lv_at hl 0 rfl) ?_
                refine lv_bipush (v := (19 : Int32)) hx hb dX2_readSpell_68 (by decide) ?_
                obtain ⟨⟨y31, w32⟩, hq, hev⟩ := x_bd hev
                refine rgV X (KK_at hKK hS hAb) hR (st1 := [.int y31]) (ws2 := [(aT, .inr (0, [.ref aT_text, .ref aT_codes, .ref aT_places, .ref aT_draft, .int w32, .int vT_lines])), (aT_draft, .inr (4, [.int vT_draft_people, .int vT_draft_spells, .int vT_draft_day, .int vT_draft_broken, .ref aT_draft_kinds, .ref aT_draft_targets, .ref aT_draft_wakes, .ref aT_draft_terms, .ref aT_draft_sorts, .ref aT_draft_numbers])), (aT_codes, .inr (1, [.ref aT_codes_items, .int vT_codes_size])), (aT_codes_items, .inl (G.2.1, nT_codes_items, .inl fT_codes_items)), (aT_draft_kinds, .inl (G.2.1, 5, .inl fT_draft_kinds)), (aT_draft_targets, .inl (G.2.1, 5, .inl fT_draft_targets)), (aT_draft_terms, .inl (G.2.1, 5, .inl fT_draft_terms)), (aT_draft_wakes, .inl (G.2.1, 5, .inl fT_draft_wakes)), (aT_draft_sorts, .inl (G.2.1, 15, .inl fT_draft_sorts)), (aT_draft_numbers, .inl (G.2.1, 15, .inl fT_draft_numbers))]) (c_Rd_takes l G aT aT_text aT_codes aT_places aT_draft aT_codes_items vT_at vT_lines vT_codes_size fT_codes_items nT_codes_items (19 : Int32) y31 w32 hq) K_X2_takes u599 hP hD hS hA hAb [0, 2, 3] rfl (sbC rfl (sbC rfl (sbC rfl sb0))) (mgN 0 rfl rfl (mgK (by decide) (mgN 1 rfl rfl (mgN 2 rfl rfl (mgK (by decide) (mgK (by decide) (mgK (by decide) (mgK (by decide) (mgK (by decide) (mgK (by decide) (mg0))))))))))) rfl (q0 := 0) rfl (by decide) ⟨Nat.zero_le _, Nat.zero_le _⟩ rfl hl.1 rfl (Nat.le_of_ble_eq_true rfl) rfl dX2_readSpell_70 (fun H lo hP hD hS => ?_)
                refine lv_if_eq (tgt := 91) hx hb dX2_readSpell_73 (by decide) (fun c33 => ?_) (fun c33 => ?_)
                · replace hev := x_t c33 hev
                  exact hex w32 fT_draft_numbers fT_draft_sorts fT_draft_terms (Option.some.inj hev).symm _ _ hP hD hS ls (lv_sub hl [0] rfl)
                · replace hev := x_f c33 hev
                  exact J76 w32 fT_draft_numbers fT_draft_sorts fT_draft_terms x3 _ _ hP hD hS ls hev (lv_sub hl [0, 1] rfl)
        rcases x_sd hev with ⟨q9, hq, hev⟩ | ⟨q9, hq, hev⟩
        · refine L58 vT_draft_spells w18 w19 w21 k (0 : Int32) w16 fT_draft_numbers fT_draft_sorts w20 (.inl q9) hq ?_ (fun v he => by cases he) _ _ hP hD hS ls (lv_sub hl [2, 0] rfl)
          intro w34 w35 w36 w37 he H lo hP hD hS ls hl
          have he := Sum.inl.inj he
          subst he
          exact J91 w34 vT_draft_spells w18 w35 w36 w19 w37 w21 _ _ hP hD hS ls hev (lv_sub hl [0] rfl)
        · refine L58 vT_draft_spells w18 w19 w21 k (0 : Int32) w16 fT_draft_numbers fT_draft_sorts w20 (.inr q9) hq (fun _ _ _ _ he => by cases he) (fun v he => ?_) _ _ hP hD hS ls (lv_sub hl [2, 0] rfl)
          rw [← Sum.inr.inj he]
          exact Option.some.inj hev
      · replace hev := x_t c17 hev
        refine lv_iconst (v := (0 : Int32)) hx hb dX2_readSpell_42 (by decide) ?_
        exact ret2 _ _ _ _ (0 : Int32) (0 : Int32) w16 vT_draft_spells fT_draft_kinds fT_draft_numbers fT_draft_sorts fT_draft_targets fT_draft_terms fT_draft_wakes (Option.some.inj hev) dX2_readSpell_43 (show narrow _ (.int (0 : Int32)) = .int (0 : Int32) from nb0) hP hD hS
  · replace hev := x_f c10 hev
    refine lv_iconst (v := (0 : Int32)) hx hb dX2_readSpell_10 (by decide) ?_
    exact ret2 _ _ _ _ (0 : Int32) (0 : Int32) vT_at vT_draft_spells fT_draft_kinds fT_draft_numbers fT_draft_sorts fT_draft_targets fT_draft_terms fT_draft_wakes (Option.some.inj hev) dX2_readSpell_11 (show narrow _ (.int (0 : Int32)) = .int (0 : Int32) from nb0) hP hD hS
