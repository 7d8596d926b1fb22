def f_SS_inLine_J169 (k : Nat) (nT_princes_items : Nat) (vT_princes_size : Int32) (vT_rules_deedCount : Int32) (vT_rules_spells : Int32) (vT_state : Int32) (fT_princes_items : Nat → Int32) (fT_rules_askings : Nat → Int32) (fT_rules_bars : Nat → Int32) (fT_rules_bits : Nat → Int32) (fT_rules_kisses : Nat → Int32) (fT_rules_kissesNeeded : Nat → Int32) (fT_rules_masks : Nat → Int32) (fT_rules_sorts : Nat → Int32) (fT_rules_values : Nat → Int32) (fT_rules_wakings : Nat → Int32) (x1 : Int32) (x3 : Int32) (x4 : Int32) : Option (Int32) := if x1 = 0 then (some x3) else some x4
def f_SS_inLine_J163 (rec : Int32 → Int32 → Int32 → Int32 → Option (Int32 × Int32)) (k : Nat) (nT_princes_items : Nat) (vT_princes_size : Int32) (vT_rules_deedCount : Int32) (vT_rules_spells : Int32) (vT_state : Int32) (fT_princes_items : Nat → Int32) (fT_rules_askings : Nat → Int32) (fT_rules_bars : Nat → Int32) (fT_rules_bits : Nat → Int32) (fT_rules_kisses : Nat → Int32) (fT_rules_kissesNeeded : Nat → Int32) (fT_rules_masks : Nat → Int32) (fT_rules_sorts : Nat → Int32) (fT_rules_values : Nat → Int32) (fT_rules_wakings : Nat → Int32) (x1 : Int32) (x2 : Int32) (x3 : Int32) (x4 : Int32) (x5 : Int32) : Option (Int32 × Int32) := x_L (x5 + (1 : Int32)) (fun y4 => rec x2 x3 x4 y4)
def f_SS_inLine_J119 (rec : Int32 → Int32 → Int32 → Int32 → Option (Int32 × Int32)) (k : Nat) (nT_princes_items : Nat) (vT_princes_size : Int32) (vT_rules_deedCount : Int32) (vT_rules_spells : Int32) (vT_state : Int32) (fT_princes_items : Nat → Int32) (fT_rules_askings : Nat → Int32) (fT_rules_bars : Nat → Int32) (fT_rules_bits : Nat → Int32) (fT_rules_kisses : Nat → Int32) (fT_rules_kissesNeeded : Nat → Int32) (fT_rules_masks : Nat → Int32) (fT_rules_sorts : Nat → Int32) (fT_rules_values : Nat → Int32) (fT_rules_wakings : Nat → Int32) (x1 : Int32) (x2 : Int32) (x3 : Int32) (x4 : Int32) (x5 : Int32) : Option (Int32 × Int32) := x_B (f_Rw_at nT_princes_items vT_princes_size fT_princes_items x5) (fun y5 => x_B (f_Ru_after k vT_rules_deedCount vT_rules_spells fT_rules_askings fT_rules_bars fT_rules_bits fT_rules_kisses fT_rules_kissesNeeded fT_rules_masks fT_rules_sorts fT_rules_values fT_rules_wakings x2 (y5 >>> ((3 : Int32) &&& 31))) (fun y6 => if y6 = (-1 : Int32) then (f_SS_inLine_J163 rec k nT_princes_items vT_princes_size vT_rules_deedCount vT_rules_spells vT_state fT_princes_items fT_rules_askings fT_rules_bars fT_rules_bits fT_rules_kisses fT_rules_kissesNeeded fT_rules_masks fT_rules_sorts fT_rules_values fT_rules_wakings x1 x2 x3 x4 x5) else x_B (f_St_of y6) (fun y8 => x_B (f_St_lifted y6) (fun y9 => x_B (f_bitCount y9) (fun y10 => x_L ((x3 + y10)) (fun y11 => f_SS_inLine_J163 rec k nT_princes_items vT_princes_size vT_rules_deedCount vT_rules_spells vT_state fT_princes_items fT_rules_askings fT_rules_bars fT_rules_bits fT_rules_kisses fT_rules_kissesNeeded fT_rules_masks fT_rules_sorts fT_rules_values fT_rules_wakings x1 y8 y11 x4 x5))))))
def f_SS_inLine_L60 (nT_princes_items : Nat) (vT_princes_size : Int32) (vT_rules_deedCount : Int32) (vT_rules_spells : Int32) (vT_state : Int32) (fT_princes_items : Nat → Int32) (fT_rules_askings : Nat → Int32) (fT_rules_bars : Nat → Int32) (fT_rules_bits : Nat → Int32) (fT_rules_kisses : Nat → Int32) (fT_rules_kissesNeeded : Nat → Int32) (fT_rules_masks : Nat → Int32) (fT_rules_sorts : Nat → Int32) (fT_rules_values : Nat → Int32) (fT_rules_wakings : Nat → Int32) (x1 : Int32) (x5 : Int32) (x6 : Int32) : Nat → Int32 → Int32 → Int32 → Int32 → Option (Int32 × Int32 × Int32)
  | 0, _, _, _, _ => none
  | k + 1, x2, x3, x4, x7 => if (6 : Int32) ≤ x7 then (some (x2, x3, x4)) else x_B (f_St_day x2) (fun y18 => if y18 = x6 then (some (x2, x3, x4)) else x_B (f_Ru_nightDeed vT_rules_deedCount) (fun y20 => x_B (f_Ru_after k vT_rules_deedCount vT_rules_spells fT_rules_askings fT_rules_bars fT_rules_bits fT_rules_kisses fT_rules_kissesNeeded fT_rules_masks fT_rules_sorts fT_rules_values fT_rules_wakings x2 y20) (fun y21 => x_B (f_St_of y21) (fun y22 => x_B (f_St_lifted y21) (fun y23 => x_B (f_bitCount y23) (fun y24 => x_L ((x3 + y24)) (fun y25 => x_L (x4 + (1 : Int32)) (fun y26 => x_L (x7 + (1 : Int32)) (fun y27 => (f_SS_inLine_L60 nT_princes_items vT_princes_size vT_rules_deedCount vT_rules_spells vT_state fT_princes_items fT_rules_askings fT_rules_bars fT_rules_bits fT_rules_kisses fT_rules_kissesNeeded fT_rules_masks fT_rules_sorts fT_rules_values fT_rules_wakings x1 x5 x6 k) y22 y25 y26 y27)))))))))
def f_SS_inLine_L25 (nT_princes_items : Nat) (vT_princes_size : Int32) (vT_rules_deedCount : Int32) (vT_rules_spells : Int32) (vT_state : Int32) (fT_princes_items : Nat → Int32) (fT_rules_askings : Nat → Int32) (fT_rules_bars : Nat → Int32) (fT_rules_bits : Nat → Int32) (fT_rules_kisses : Nat → Int32) (fT_rules_kissesNeeded : Nat → Int32) (fT_rules_masks : Nat → Int32) (fT_rules_sorts : Nat → Int32) (fT_rules_values : Nat → Int32) (fT_rules_wakings : Nat → Int32) (x1 : Int32) : Nat → Int32 → Int32 → Int32 → Int32 → Option (Int32 × Int32)
  | 0, _, _, _, _ => none
  | k + 1, x2, x3, x4, x5 => if (5 : Int32) ≤ x5 then (some (x3, x4)) else x_B (f_Rw_size vT_princes_size) (fun y13 => if y13 ≤ x5 then (some (x3, x4)) else x_B (f_Rw_at nT_princes_items vT_princes_size fT_princes_items x5) (fun y15 => x_L ((y15 &&& (7 : Int32))) (fun y16 => x_B (f_SS_inLine_L60 nT_princes_items vT_princes_size vT_rules_deedCount vT_rules_spells vT_state fT_princes_items fT_rules_askings fT_rules_bars fT_rules_bits fT_rules_kisses fT_rules_kissesNeeded fT_rules_masks fT_rules_sorts fT_rules_values fT_rules_wakings x1 x5 y16 k x2 x3 x4 (0 : Int32)) (fun ⟨y28, y29, y30⟩ => f_SS_inLine_J119 (f_SS_inLine_L25 nT_princes_items vT_princes_size vT_rules_deedCount vT_rules_spells vT_state fT_princes_items fT_rules_askings fT_rules_bars fT_rules_bits fT_rules_kisses fT_rules_kissesNeeded fT_rules_masks fT_rules_sorts fT_rules_values fT_rules_wakings x1 k) k nT_princes_items vT_princes_size vT_rules_deedCount vT_rules_spells vT_state fT_princes_items fT_rules_askings fT_rules_bars fT_rules_bits fT_rules_kisses fT_rules_kissesNeeded fT_rules_masks fT_rules_sorts fT_rules_values fT_rules_wakings x1 y28 y29 y30 x5))))
def f_SS_inLine (k : Nat) (nT_princes_items : Nat) (vT_princes_size : Int32) (vT_rules_deedCount : Int32) (vT_rules_spells : Int32) (vT_state : Int32) (fT_princes_items : Nat → Int32) (fT_rules_askings : Nat → Int32) (fT_rules_bars : Nat → Int32) (fT_rules_bits : Nat → Int32) (fT_rules_kisses : Nat → Int32) (fT_rules_kissesNeeded : Nat → Int32) (fT_rules_masks : Nat → Int32) (fT_rules_sorts : Nat → Int32) (fT_rules_values : Nat → Int32) (fT_rules_wakings : Nat → Int32) (p1 : Int32) : Option (Int32) := if p1 < 0 then (some (-3 : Int32)) else if p1 ≤ (1 : Int32) then (x_B (f_SS_inLine_L25 nT_princes_items vT_princes_size vT_rules_deedCount vT_rules_spells vT_state fT_princes_items fT_rules_askings fT_rules_bars fT_rules_bits fT_rules_kisses fT_rules_kissesNeeded fT_rules_masks fT_rules_sorts fT_rules_values fT_rules_wakings p1 k vT_state (0 : Int32) (0 : Int32) (0 : Int32)) (fun ⟨y31, y32⟩ => f_SS_inLine_J169 k nT_princes_items vT_princes_size vT_rules_deedCount vT_rules_spells vT_state fT_princes_items fT_rules_askings fT_rules_bars fT_rules_bits fT_rules_kisses fT_rules_kissesNeeded fT_rules_masks fT_rules_sorts fT_rules_values fT_rules_wakings p1 y31 y32)) else some (-3 : Int32)
set_option maxHeartbeats 8000000 in
set_option maxRecDepth 100000 in
theorem c_SS_inLine (l : Launch) (G : GG) (aT aT_text aT_told aT_reader aT_rules aT_fromNow aT_whatIf aT_trials aT_undoable aT_keptStates aT_keptDeeds aT_row aT_princes aT_princes_items aT_rules_masks aT_rules_values aT_rules_askings aT_rules_kissesNeeded aT_rules_wakings aT_rules_binders aT_rules_curses aT_rules_doers aT_rules_sorts aT_rules_whichs aT_rules_bars aT_rules_bits aT_rules_kisses : Nat) (vT_state : Int32) (vT_deeds : Int32) (vT_princes_size : Int32) (vT_rules_people : Int32) (vT_rules_spells : Int32) (vT_rules_deedCount : Int32) (fT_princes_items : Nat → Int32) (nT_princes_items : Nat) (fT_rules_bars : Nat → Int32) (fT_rules_sorts : Nat → Int32) (fT_rules_kisses : Nat → Int32) (fT_rules_masks : Nat → Int32) (fT_rules_values : Nat → Int32) (fT_rules_askings : Nat → Int32) (fT_rules_kissesNeeded : Nat → Int32) (fT_rules_wakings : Nat → Int32) (fT_rules_bits : Nat → Int32) (k : Nat) (p1 : Int32) (r0 : Int32) (hev : f_SS_inLine k nT_princes_items vT_princes_size vT_rules_deedCount vT_rules_spells vT_state fT_princes_items fT_rules_askings fT_rules_bars fT_rules_bits fT_rules_kisses fT_rules_kissesNeeded fT_rules_masks fT_rules_sorts fT_rules_values fT_rules_wakings p1 = some r0) : RO l G yX10_inLine cX10_inLine 9 (some .int) 2 [.ref aT, .int p1] [(aT, .inr (6, [.ref aT_text, .ref aT_told, .ref aT_reader, .ref aT_rules, .ref aT_fromNow, .ref aT_whatIf, .ref aT_trials, .ref aT_undoable, .ref aT_keptStates, .ref aT_keptDeeds, .ref aT_row, .ref aT_princes, .int vT_state, .int vT_deeds])), (aT_princes, .inr (1, [.ref aT_princes_items, .int vT_princes_size])), (aT_rules, .inr (2, [.int vT_rules_people, .int vT_rules_spells, .int vT_rules_deedCount, .ref aT_rules_masks, .ref aT_rules_values, .ref aT_rules_askings, .ref aT_rules_kissesNeeded, .ref aT_rules_wakings, .ref aT_rules_binders, .ref aT_rules_curses, .ref aT_rules_doers, .ref aT_rules_sorts, .ref aT_rules_whichs, .ref aT_rules_bars, .ref aT_rules_bits, .ref aT_rules_kisses])), (aT_princes_items, .inl (G.2.1, nT_princes_items, .inl fT_princes_items)), (aT_rules_bars, .inl (G.2.1, 19, .inl fT_rules_bars)), (aT_rules_sorts, .inl (G.2.1, 19, .inl fT_rules_sorts)), (aT_rules_kisses, .inl (G.2.1, 19, .inl fT_rules_kisses)), (aT_rules_masks, .inl (G.2.1, 5, .inl fT_rules_masks)), (aT_rules_values, .inl (G.2.1, 5, .inl fT_rules_values)), (aT_rules_askings, .inl (G.2.1, 5, .inl fT_rules_askings)), (aT_rules_kissesNeeded, .inl (G.2.1, 5, .inl fT_rules_kissesNeeded)), (aT_rules_wakings, .inl (G.2.1, 5, .inl fT_rules_wakings)), (aT_rules_bits, .inl (G.2.1, 19, .inl fT_rules_bits))] (some (.int r0)) := by
  refine RO_of (by decide) (Nat.le_of_ble_eq_true rfl) ?_
  intro p e s m ar below meth c R Q H ls X hR hP hKK hS0 hl ret
  generalize hrs : r0 = rs at hev ret
  have hl : lv_has ls 9 [(0, .ref aT), (1, .int p1)] := hl
  obtain ⟨hx, hb, hml, hown, hts, hT⟩ := id X
  have hK := hKK.1
  have hw : ∀ w ∈ T0, w.before ar s = true := fun w h => hts w (hT w h)
  have i10 := fun w h => hT w (inT10 w h)
  have J169 : ∀ (x1 : Int32) (x3 : Int32) (x4 : Int32), ∀ (ls : Array Slot), f_SS_inLine_J169 k nT_princes_items vT_princes_size vT_rules_deedCount vT_rules_spells vT_state fT_princes_items fT_rules_askings fT_rules_bars fT_rules_bits fT_rules_kisses fT_rules_kissesNeeded fT_rules_masks fT_rules_sorts fT_rules_values fT_rules_wakings x1 x3 x4 = some rs → lv_has ls 9 [(1, .int x1), (3, .int x3), (4, .int x4)] → W p l e R s m ar below meth c H [] 0 0 Q (F0 m 169 ls []) := by
    intro x1 x3 x4 ls hev hl
    unfold f_SS_inLine_J169 at hev
    refine lv_iload_n hx hb dX10_inLine_169 rfl (lv_at hl 0 rfl) ?_
    refine lv_if_ne (tgt := 177) hx hb dX10_inLine_170 (by decide) (fun c1 => ?_) (fun c1 => ?_)
    · replace hev := x_f c1 hev
      refine lv_iload hx hb dX10_inLine_177 (lv_at hl 2 rfl) ?_
      exact ret _ _ _ dX10_inLine_179 ((show narrow _ (.int x4) = .int x4 from rfl).trans (congrArg Value.int (Option.some.inj hev)))
    · replace hev := x_t c1 hev
      refine lv_iload_n hx hb dX10_inLine_173 rfl (lv_at hl 1 rfl) ?_
      refine lv_goto (tgt := 179) hx hb dX10_inLine_174 (by decide) ?_
      exact ret _ _ _ dX10_inLine_179 ((show narrow _ (.int x3) = .int x3 from rfl).trans (congrArg Value.int (Option.some.inj hev)))
  unfold f_SS_inLine at hev
  refine lv_iload_n hx hb dX10_inLine_0 rfl (lv_at hl 1 rfl) ?_
  refine lv_if_lt (tgt := 9) hx hb dX10_inLine_1 (by decide) (fun c2 => ?_) (fun c2 => ?_)
  · replace hev := x_t c2 hev
    refine lv_bipush (v := (-3 : Int32)) hx hb dX10_inLine_9 (by decide) ?_
    exact ret _ _ _ dX10_inLine_11 ((show narrow _ (.int (-3 : Int32)) = .int (-3 : Int32) from rfl).trans (congrArg Value.int (Option.some.inj hev)))
  · replace hev := x_f c2 hev
    refine lv_iload_n hx hb dX10_inLine_4 rfl (lv_at hl 1 rfl) ?_
    refine lv_iconst (v := (1 : Int32)) hx hb dX10_inLine_5 (by decide) ?_
    refine lv_icmp_le (tgt := 12) hx hb dX10_inLine_6 (by decide) (fun c3 => ?_) (fun c3 => ?_)
    · replace hev := x_t c3 hev
      refine lv_aload_n hx hb dX10_inLine_12 rfl (lv_at hl 0 rfl) ?_
      refine va_get (D := G.1) (ci := 6) (v := .int vT_state) (C := RX10) (T := TX10) (N := 14) hx hb hts i10 hown hK hP 0 rfl rfl 12 (by decide) (hw _ u429) (fun _ h9 => h9) rfl dX10_inLine_13 ?_
      refine lv_istore_n (lv' := [(2, .int vT_state), (0, .ref aT), (1, .int p1)]) hx hb dX10_inLine_16 rfl hl (by decide) rfl (fun ls hl => ?_)
      refine lv_iconst (v := (0 : Int32)) hx hb dX10_inLine_17 (by decide) ?_
      refine lv_istore_n (lv' := [(3, .int (0 : Int32)), (2, .int vT_state), (0, .ref aT), (1, .int p1)]) hx hb dX10_inLine_18 rfl hl (by decide) rfl (fun ls hl => ?_)
      refine lv_iconst (v := (0 : Int32)) hx hb dX10_inLine_19 (by decide) ?_
      refine lv_istore (lv' := [(4, .int (0 : Int32)), (3, .int (0 : Int32)), (2, .int vT_state), (0, .ref aT), (1, .int p1)]) hx hb dX10_inLine_20 hl (by decide) rfl (fun ls hl => ?_)
      refine lv_iconst (v := (0 : Int32)) hx hb dX10_inLine_22 (by decide) ?_
      refine lv_istore (lv' := [(5, .int (0 : Int32)), (4, .int (0 : Int32)), (3, .int (0 : Int32)), (2, .int vT_state), (0, .ref aT), (1, .int p1)]) hx hb dX10_inLine_23 hl (by decide) rfl (fun ls hl => ?_)
      have L25 : ∀ (x1 : Int32), ∀ (k : Nat) (x2 : Int32) (x3 : Int32) (x4 : Int32) (x5 : Int32) (o3 : Int32) (o4 : Int32), f_SS_inLine_L25 nT_princes_items vT_princes_size vT_rules_deedCount vT_rules_spells vT_state fT_princes_items fT_rules_askings fT_rules_bars fT_rules_bits fT_rules_kisses fT_rules_kissesNeeded fT_rules_masks fT_rules_sorts fT_rules_values fT_rules_wakings x1 k x2 x3 x4 x5 = some (o3, o4) → (∀ (ls : Array Slot), lv_has ls 9 [(1, .int x1), (3, .int o3), (4, .int o4)] → W p l e R s m ar below meth c H [] 0 0 Q (F0 m 169 ls [])) → ∀ (ls : Array Slot), lv_has ls 9 [(0, .ref aT), (1, .int x1), (2, .int x2), (3, .int x3), (4, .int x4), (5, .int x5)] → W p l e R s m ar below meth c H [] 0 0 Q (F0 m 25 ls []) := by
        intro x1 k
        induction k with
        | zero => intro x2 x3 x4 x5 o3 o4 hev; rw [f_SS_inLine_L25] at hev; cases hev
        | succ k ih =>
          intro x2 x3 x4 x5 o3 o4 hev hex ls hl
          rw [f_SS_inLine_L25] at hev
          have J163 : ∀ (x2 : Int32) (x3 : Int32) (x4 : Int32) (x5 : Int32), ∀ (ls : Array Slot), f_SS_inLine_J163 (f_SS_inLine_L25 nT_princes_items vT_princes_size vT_rules_deedCount vT_rules_spells vT_state fT_princes_items fT_rules_askings fT_rules_bars fT_rules_bits fT_rules_kisses fT_rules_kissesNeeded fT_rules_masks fT_rules_sorts fT_rules_values fT_rules_wakings x1 k) k nT_princes_items vT_princes_size vT_rules_deedCount vT_rules_spells vT_state fT_princes_items fT_rules_askings fT_rules_bars fT_rules_bits fT_rules_kisses fT_rules_kissesNeeded fT_rules_masks fT_rules_sorts fT_rules_values fT_rules_wakings x1 x2 x3 x4 x5 = some (o3, o4) → lv_has ls 9 [(0, .ref aT), (1, .int x1), (2, .int x2), (3, .int x3), (4, .int x4), (5, .int x5)] → W p l e R s m ar below meth c H [] 0 0 Q (F0 m 163 ls []) := by
            intro x2 x3 x4 x5 ls hev hl
            unfold f_SS_inLine_J163 at hev
            obtain ⟨y4, ey4⟩ : ∃ y : Int32, y = x5 + (1 : Int32) := ⟨_, rfl⟩
            refine lv_iinc (v := y4) (lv' := [(5, .int y4), (0, .ref aT), (1, .int x1), (2, .int x2), (3, .int x3), (4, .int x4)]) hx hb dX10_inLine_163 hl (k := 5) rfl (by rw [ey4]; rfl) (by decide) rfl (fun ls hl => ?_)
            replace hev := x_lt hev y4 ey4
            refine lv_goto (tgt := 25) hx hb dX10_inLine_166 (by decide) ?_
            exact ih x2 x3 x4 y4 _ _ hev hex ls (lv_sub hl [1, 2, 3, 4, 5, 0] rfl)
          have J119 : ∀ (x2 : Int32) (x3 : Int32) (x4 : Int32) (x5 : Int32), ∀ (ls : Array Slot), f_SS_inLine_J119 (f_SS_inLine_L25 nT_princes_items vT_princes_size vT_rules_deedCount vT_rules_spells vT_state fT_princes_items fT_rules_askings fT_rules_bars fT_rules_bits fT_rules_kisses fT_rules_kissesNeeded fT_rules_masks fT_rules_sorts fT_rules_values fT_rules_wakings x1 k) k nT_princes_items vT_princes_size vT_rules_deedCount vT_rules_spells vT_state fT_princes_items fT_rules_askings fT_rules_bars fT_rules_bits fT_rules_kisses fT_rules_kissesNeeded fT_rules_masks fT_rules_sorts fT_rules_values fT_rules_wakings x1 x2 x3 x4 x5 = some (o3, o4) → lv_has ls 9 [(0, .ref aT), (1, .int x1), (2, .int x2), (3, .int x3), (4, .int x4), (5, .int x5)] → W p l e R s m ar below meth c H [] 0 0 Q (F0 m 119 ls []) := by
            intro x2 x3 x4 x5 ls hev hl
            unfold f_SS_inLine_J119 at hev
            refine lv_aload_n hx hb dX10_inLine_119 rfl (lv_at hl 0 rfl) ?_
            refine va_get (D := G.1) (ci := 6) (v := .ref aT_rules) (C := RX10) (T := TX10) (N := 14) hx hb hts i10 hown hK hP 0 rfl rfl 3 (by decide) (hw _ u420) (fun _ h9 => h9) rfl dX10_inLine_120 ?_
            refine lv_iload_n hx hb dX10_inLine_123 rfl (lv_at hl 2 rfl) ?_
            refine lv_aload_n hx hb dX10_inLine_124 rfl (lv_at hl 0 rfl) ?_
            refine va_get (D := G.1) (ci := 6) (v := .ref aT_princes) (C := RX10) (T := TX10) (N := 14) hx hb hts i10 hown hK hP 0 rfl rfl 11 (by decide) (hw _ u428) (fun _ h9 => h9) rfl dX10_inLine_125 ?_
            refine lv_iload hx hb dX10_inLine_128 (lv_at hl 5 rfl) ?_
            obtain ⟨y5, hq, hev⟩ := x_bd hev
            refine roV X hKK hR (st1 := [.int y5, .int x2, .ref aT_rules]) (c_Rw_at l G aT_princes aT_princes_items vT_princes_size fT_princes_items nT_princes_items x5 y5 hq) K_X3_at u771 (x_Psub hP [1, 3] rfl) rfl (q0 := 0) rfl (by decide) ⟨Nat.zero_le _, Nat.zero_le _⟩ rfl hl.1 rfl (Nat.le_of_ble_eq_true rfl) rfl dX10_inLine_130 ?_
            refine lv_iconst (v := (3 : Int32)) hx hb dX10_inLine_133 (by decide) ?_
            refine lv_ishr hx hb dX10_inLine_134 ?_
            obtain ⟨y6, hq, hev⟩ := x_bd hev
            refine roV X hKK hR (st1 := [.int y6]) (c_Ru_after l G aT_rules aT_rules_masks aT_rules_values aT_rules_askings aT_rules_kissesNeeded aT_rules_wakings aT_rules_binders aT_rules_curses aT_rules_doers aT_rules_sorts aT_rules_whichs aT_rules_bars aT_rules_bits aT_rules_kisses vT_rules_people vT_rules_spells vT_rules_deedCount fT_rules_bars fT_rules_sorts fT_rules_kisses fT_rules_masks fT_rules_values fT_rules_askings fT_rules_kissesNeeded fT_rules_wakings fT_rules_bits k x2 (y5 >>> ((3 : Int32) &&& 31)) y6 hq) K_X4_after u735 (x_Psub hP [2, 4, 5, 6, 7, 8, 9, 10, 11, 12] rfl) rfl (q0 := 0) rfl (by decide) ⟨Nat.zero_le _, Nat.zero_le _⟩ rfl hl.1 rfl (Nat.le_of_ble_eq_true rfl) rfl dX10_inLine_135 ?_
            refine lv_istore (lv' := [(7, .int y6), (0, .ref aT), (1, .int x1), (2, .int x2), (3, .int x3), (4, .int x4), (5, .int x5)]) hx hb dX10_inLine_138 hl (by decide) rfl (fun ls hl => ?_)
            refine lv_iload hx hb dX10_inLine_140 (lv_at hl 0 rfl) ?_
            refine lv_iconst (v := (-1 : Int32)) hx hb dX10_inLine_142 (by decide) ?_
            refine lv_icmp_eq (tgt := 163) hx hb dX10_inLine_143 (by decide) (fun c7 => ?_) (fun c7 => ?_)
            · replace hev := x_t c7 hev
              exact J163 x2 x3 x4 x5 ls hev (lv_sub hl [1, 2, 3, 4, 5, 6] rfl)
            · replace hev := x_f c7 hev
              refine lv_iload hx hb dX10_inLine_146 (lv_at hl 0 rfl) ?_
              obtain ⟨y8, hq, hev⟩ := x_bd hev
              refine roS X hKK hR (st1 := [.int y8]) (c_St_of l G y6 y8 hq) K_X6_of u760 (x_Psub hP [] rfl) (by decide) ⟨Nat.zero_le _, Nat.zero_le _⟩ rfl hl.1 rfl (Nat.le_of_ble_eq_true rfl) rfl dX10_inLine_148 ?_
              refine lv_istore_n (lv' := [(2, .int y8), (7, .int y6), (0, .ref aT), (1, .int x1), (3, .int x3), (4, .int x4), (5, .int x5)]) hx hb dX10_inLine_151 rfl hl (by decide) rfl (fun ls hl => ?_)
              refine lv_iload_n hx hb dX10_inLine_152 rfl (lv_at hl 4 rfl) ?_
              refine lv_iload hx hb dX10_inLine_153 (lv_at hl 1 rfl) ?_
              obtain ⟨y9, hq, hev⟩ := x_bd hev
              refine roS X hKK hR (st1 := [.int y9, .int x3]) (c_St_lifted l G y6 y9 hq) K_X6_lifted u764 (x_Psub hP [] rfl) (by decide) ⟨Nat.zero_le _, Nat.zero_le _⟩ rfl hl.1 rfl (Nat.le_of_ble_eq_true rfl) rfl dX10_inLine_155 ?_
              obtain ⟨y10, hq, hev⟩ := x_bd hev
              refine roS X hKK hR (st1 := [.int y10, .int x3]) (c_bitCount l G y9 y10 hq) K_J6_bitCount_0f7a4 u890 (x_Psub hP [] rfl) (by decide) ⟨Nat.zero_le _, Nat.zero_le _⟩ rfl hl.1 rfl (Nat.le_of_ble_eq_true rfl) rfl dX10_inLine_158 ?_
              refine lv_iadd hx hb dX10_inLine_161 ?_
              refine lv_topi (fun y11 ey11 => ?_)
              replace hev := x_lt hev y11 ey11
              refine lv_istore_n (lv' := [(3, .int y11), (2, .int y8), (7, .int y6), (0, .ref aT), (1, .int x1), (4, .int x4), (5, .int x5)]) hx hb dX10_inLine_162 rfl hl (by decide) rfl (fun ls hl => ?_)
              exact J163 y8 y11 x4 x5 ls hev (lv_sub hl [3, 4, 1, 0, 5, 6] rfl)
          refine lv_iload hx hb dX10_inLine_25 (lv_at hl 5 rfl) ?_
          refine lv_iconst (v := (5 : Int32)) hx hb dX10_inLine_27 (by decide) ?_
          refine lv_icmp_ge (tgt := 169) hx hb dX10_inLine_28 (by decide) (fun c12 => ?_) (fun c12 => ?_)
          · replace hev := x_t c12 hev
            cases hev
            exact hex ls (lv_sub hl [1, 3, 4] rfl)
          · replace hev := x_f c12 hev
            refine lv_iload hx hb dX10_inLine_31 (lv_at hl 5 rfl) ?_
            refine lv_aload_n hx hb dX10_inLine_33 rfl (lv_at hl 0 rfl) ?_
            refine va_get (D := G.1) (ci := 6) (v := .ref aT_princes) (C := RX10) (T := TX10) (N := 14) hx hb hts i10 hown hK hP 0 rfl rfl 11 (by decide) (hw _ u428) (fun _ h9 => h9) rfl dX10_inLine_34 ?_
            obtain ⟨y13, hq, hev⟩ := x_bd hev
            refine roV X hKK hR (st1 := [.int y13, .int x5]) (c_Rw_size l G aT_princes aT_princes_items vT_princes_size y13 hq) K_X3_size u468 (x_Psub hP [1] rfl) rfl (q0 := 0) rfl (by decide) ⟨Nat.zero_le _, Nat.zero_le _⟩ rfl hl.1 rfl (Nat.le_of_ble_eq_true rfl) rfl dX10_inLine_37 ?_
            refine lv_icmp_ge (tgt := 169) hx hb dX10_inLine_40 (by decide) (fun c14 => ?_) (fun c14 => ?_)
            · replace hev := x_t c14 hev
              cases hev
              exact hex ls (lv_sub hl [1, 3, 4] rfl)
            · replace hev := x_f c14 hev
              refine lv_aload_n hx hb dX10_inLine_43 rfl (lv_at hl 0 rfl) ?_
              refine va_get (D := G.1) (ci := 6) (v := .ref aT_princes) (C := RX10) (T := TX10) (N := 14) hx hb hts i10 hown hK hP 0 rfl rfl 11 (by decide) (hw _ u428) (fun _ h9 => h9) rfl dX10_inLine_44 ?_
              refine lv_iload hx hb dX10_inLine_47 (lv_at hl 5 rfl) ?_
              obtain ⟨y15, hq, hev⟩ := x_bd hev
              refine roV X hKK hR (st1 := [.int y15]) (c_Rw_at l G aT_princes aT_princes_items vT_princes_size fT_princes_items nT_princes_items x5 y15 hq) K_X3_at u771 (x_Psub hP [1, 3] rfl) rfl (q0 := 0) rfl (by decide) ⟨Nat.zero_le _, Nat.zero_le _⟩ rfl hl.1 rfl (Nat.le_of_ble_eq_true rfl) rfl dX10_inLine_49 ?_
              refine lv_bipush (v := (7 : Int32)) hx hb dX10_inLine_52 (by decide) ?_
              refine lv_iand hx hb dX10_inLine_54 ?_
              refine lv_topi (fun y16 ey16 => ?_)
              replace hev := x_lt hev y16 ey16
              refine lv_istore (lv' := [(6, .int y16), (0, .ref aT), (1, .int x1), (2, .int x2), (3, .int x3), (4, .int x4), (5, .int x5)]) hx hb dX10_inLine_55 hl (by decide) rfl (fun ls hl => ?_)
              refine lv_iconst (v := (0 : Int32)) hx hb dX10_inLine_57 (by decide) ?_
              refine lv_istore (lv' := [(7, .int (0 : Int32)), (6, .int y16), (0, .ref aT), (1, .int x1), (2, .int x2), (3, .int x3), (4, .int x4), (5, .int x5)]) hx hb dX10_inLine_58 hl (by decide) rfl (fun ls hl => ?_)
              have L60 : ∀ (x1 : Int32) (x5 : Int32) (x6 : Int32), ∀ (k : Nat) (x2 : Int32) (x3 : Int32) (x4 : Int32) (x7 : Int32) (o2 : Int32) (o3 : Int32) (o4 : Int32), f_SS_inLine_L60 nT_princes_items vT_princes_size vT_rules_deedCount vT_rules_spells vT_state fT_princes_items fT_rules_askings fT_rules_bars fT_rules_bits fT_rules_kisses fT_rules_kissesNeeded fT_rules_masks fT_rules_sorts fT_rules_values fT_rules_wakings x1 x5 x6 k x2 x3 x4 x7 = some (o2, o3, o4) → (∀ (ls : Array Slot), lv_has ls 9 [(0, .ref aT), (1, .int x1), (2, .int o2), (3, .int o3), (4, .int o4), (5, .int x5)] → W p l e R s m ar below meth c H [] 0 0 Q (F0 m 119 ls [])) → ∀ (ls : Array Slot), lv_has ls 9 [(0, .ref aT), (1, .int x1), (2, .int x2), (3, .int x3), (4, .int x4), (5, .int x5), (6, .int x6), (7, .int x7)] → W p l e R s m ar below meth c H [] 0 0 Q (F0 m 60 ls []) := by
                intro x1 x5 x6 k
                induction k with
                | zero => intro x2 x3 x4 x7 o2 o3 o4 hev; rw [f_SS_inLine_L60] at hev; cases hev
                | succ k ih =>
                  intro x2 x3 x4 x7 o2 o3 o4 hev hex ls hl
                  rw [f_SS_inLine_L60] at hev
                  refine lv_iload hx hb dX10_inLine_60 (lv_at hl 7 rfl) ?_
                  refine lv_bipush (v := (6 : Int32)) hx hb dX10_inLine_62 (by decide) ?_
                  refine lv_icmp_ge (tgt := 119) hx hb dX10_inLine_64 (by decide) (fun c17 => ?_) (fun c17 => ?_)
                  · replace hev := x_t c17 hev
                    cases hev
                    exact hex ls (lv_sub hl [0, 1, 2, 3, 4, 5] rfl)
                  · replace hev := x_f c17 hev
                    refine lv_iload_n hx hb dX10_inLine_67 rfl (lv_at hl 2 rfl) ?_
                    obtain ⟨y18, hq, hev⟩ := x_bd hev
                    refine roS X hKK hR (st1 := [.int y18]) (c_St_day l G x2 y18 hq) K_X6_day u981 (x_Psub hP [] rfl) (by decide) ⟨Nat.zero_le _, Nat.zero_le _⟩ rfl hl.1 rfl (Nat.le_of_ble_eq_true rfl) rfl dX10_inLine_68 ?_
                    refine lv_iload hx hb dX10_inLine_71 (lv_at hl 6 rfl) ?_
                    refine lv_icmp_eq (tgt := 119) hx hb dX10_inLine_73 (by decide) (fun c19 => ?_) (fun c19 => ?_)
                    · replace hev := x_t c19 hev
                      cases hev
                      exact hex ls (lv_sub hl [0, 1, 2, 3, 4, 5] rfl)
                    · replace hev := x_f c19 hev
                      refine lv_aload_n hx hb dX10_inLine_76 rfl (lv_at hl 0 rfl) ?_
                      refine va_get (D := G.1) (ci := 6) (v := .ref aT_rules) (C := RX10) (T := TX10) (N := 14) hx hb hts i10 hown hK hP 0 rfl rfl 3 (by decide) (hw _ u420) (fun _ h9 => h9) rfl dX10_inLine_77 ?_
                      refine lv_iload_n hx hb dX10_inLine_80 rfl (lv_at hl 2 rfl) ?_
                      refine lv_aload_n hx hb dX10_inLine_81 rfl (lv_at hl 0 rfl) ?_
                      refine va_get (D := G.1) (ci := 6) (v := .ref aT_rules) (C := RX10) (T := TX10) (N := 14) hx hb hts i10 hown hK hP 0 rfl rfl 3 (by decide) (hw _ u420) (fun _ h9 => h9) rfl dX10_inLine_82 ?_
                      obtain ⟨y20, hq, hev⟩ := x_bd hev
                      refine roV X hKK hR (st1 := [.int y20, .int x2, .ref aT_rules]) (c_Ru_nightDeed l G aT_rules aT_rules_masks aT_rules_values aT_rules_askings aT_rules_kissesNeeded aT_rules_wakings aT_rules_binders aT_rules_curses aT_rules_doers aT_rules_sorts aT_rules_whichs aT_rules_bars aT_rules_bits aT_rules_kisses vT_rules_people vT_rules_spells vT_rules_deedCount y20 hq) K_X4_nightDeed u984 (x_Psub hP [2] rfl) rfl (q0 := 0) rfl (by decide) ⟨Nat.zero_le _, Nat.zero_le _⟩ rfl hl.1 rfl (Nat.le_of_ble_eq_true rfl) rfl dX10_inLine_85 ?_
                      obtain ⟨y21, hq, hev⟩ := x_bd hev
                      refine roV X hKK hR (st1 := [.int y21]) (c_Ru_after l G aT_rules aT_rules_masks aT_rules_values aT_rules_askings aT_rules_kissesNeeded aT_rules_wakings aT_rules_binders aT_rules_curses aT_rules_doers aT_rules_sorts aT_rules_whichs aT_rules_bars aT_rules_bits aT_rules_kisses vT_rules_people vT_rules_spells vT_rules_deedCount fT_rules_bars fT_rules_sorts fT_rules_kisses fT_rules_masks fT_rules_values fT_rules_askings fT_rules_kissesNeeded fT_rules_wakings fT_rules_bits k x2 y20 y21 hq) K_X4_after u735 (x_Psub hP [2, 4, 5, 6, 7, 8, 9, 10, 11, 12] rfl) rfl (q0 := 0) rfl (by decide) ⟨Nat.zero_le _, Nat.zero_le _⟩ rfl hl.1 rfl (Nat.le_of_ble_eq_true rfl) rfl dX10_inLine_88 ?_
                      refine lv_istore (lv' := [(8, .int y21), (0, .ref aT), (1, .int x1), (2, .int x2), (3, .int x3), (4, .int x4), (5, .int x5), (6, .int x6), (7, .int x7)]) hx hb dX10_inLine_91 hl (by decide) rfl (fun ls hl => ?_)
                      refine lv_iload hx hb dX10_inLine_93 (lv_at hl 0 rfl) ?_
                      obtain ⟨y22, hq, hev⟩ := x_bd hev
                      refine roS X hKK hR (st1 := [.int y22]) (c_St_of l G y21 y22 hq) K_X6_of u760 (x_Psub hP [] rfl) (by decide) ⟨Nat.zero_le _, Nat.zero_le _⟩ rfl hl.1 rfl (Nat.le_of_ble_eq_true rfl) rfl dX10_inLine_95 ?_
                      refine lv_istore_n (lv' := [(2, .int y22), (8, .int y21), (0, .ref aT), (1, .int x1), (3, .int x3), (4, .int x4), (5, .int x5), (6, .int x6), (7, .int x7)]) hx hb dX10_inLine_98 rfl hl (by decide) rfl (fun ls hl => ?_)
                      refine lv_iload_n hx hb dX10_inLine_99 rfl (lv_at hl 4 rfl) ?_
                      refine lv_iload hx hb dX10_inLine_100 (lv_at hl 1 rfl) ?_
                      obtain ⟨y23, hq, hev⟩ := x_bd hev
                      refine roS X hKK hR (st1 := [.int y23, .int x3]) (c_St_lifted l G y21 y23 hq) K_X6_lifted u764 (x_Psub hP [] rfl) (by decide) ⟨Nat.zero_le _, Nat.zero_le _⟩ rfl hl.1 rfl (Nat.le_of_ble_eq_true rfl) rfl dX10_inLine_102 ?_
                      obtain ⟨y24, hq, hev⟩ := x_bd hev
                      refine roS X hKK hR (st1 := [.int y24, .int x3]) (c_bitCount l G y23 y24 hq) K_J6_bitCount_0f7a4 u890 (x_Psub hP [] rfl) (by decide) ⟨Nat.zero_le _, Nat.zero_le _⟩ rfl hl.1 rfl (Nat.le_of_ble_eq_true rfl) rfl dX10_inLine_105 ?_
                      refine lv_iadd hx hb dX10_inLine_108 ?_
                      refine lv_topi (fun y25 ey25 => ?_)
                      replace hev := x_lt hev y25 ey25
                      refine lv_istore_n (lv' := [(3, .int y25), (2, .int y22), (8, .int y21), (0, .ref aT), (1, .int x1), (4, .int x4), (5, .int x5), (6, .int x6), (7, .int x7)]) hx hb dX10_inLine_109 rfl hl (by decide) rfl (fun ls hl => ?_)
                      obtain ⟨y26, ey26⟩ : ∃ y : Int32, y = x4 + (1 : Int32) := ⟨_, rfl⟩
                      refine lv_iinc (v := y26) (lv' := [(4, .int y26), (3, .int y25), (2, .int y22), (8, .int y21), (0, .ref aT), (1, .int x1), (5, .int x5), (6, .int x6), (7, .int x7)]) hx hb dX10_inLine_110 hl (k := 5) rfl (by rw [ey26]; rfl) (by decide) rfl (fun ls hl => ?_)
                      replace hev := x_lt hev y26 ey26
                      obtain ⟨y27, ey27⟩ : ∃ y : Int32, y = x7 + (1 : Int32) := ⟨_, rfl⟩
                      refine lv_iinc (v := y27) (lv' := [(7, .int y27), (4, .int y26), (3, .int y25), (2, .int y22), (8, .int y21), (0, .ref aT), (1, .int x1), (5, .int x5), (6, .int x6)]) hx hb dX10_inLine_113 hl (k := 8) rfl (by rw [ey27]; rfl) (by decide) rfl (fun ls hl => ?_)
                      replace hev := x_lt hev y27 ey27
                      refine lv_goto (tgt := 60) hx hb dX10_inLine_116 (by decide) ?_
                      exact ih y22 y25 y26 y27 _ _ _ hev hex ls (lv_sub hl [5, 6, 3, 2, 1, 7, 8, 0] rfl)
              obtain ⟨⟨y28, y29, y30⟩, hq, hev⟩ := x_bd hev
              refine L60 x1 x5 y16 k x2 x3 x4 (0 : Int32) y28 y29 y30 hq (fun ls hl => ?_) ls (lv_sub hl [2, 3, 4, 5, 6, 7, 1, 0] rfl)
              exact J119 y28 y29 y30 x5 ls hev (lv_sub hl [0, 1, 2, 3, 4, 5] rfl)
      obtain ⟨⟨y31, y32⟩, hq, hev⟩ := x_bd hev
      refine L25 p1 k vT_state (0 : Int32) (0 : Int32) (0 : Int32) y31 y32 hq (fun ls hl => ?_) ls (lv_sub hl [4, 5, 3, 2, 1, 0] rfl)
      exact J169 p1 y31 y32 ls hev (lv_sub hl [0, 1, 2] rfl)
    · replace hev := x_f c3 hev
      refine lv_bipush (v := (-3 : Int32)) hx hb dX10_inLine_9 (by decide) ?_
      exact ret _ _ _ dX10_inLine_11 ((show narrow _ (.int (-3 : Int32)) = .int (-3 : Int32) from rfl).trans (congrArg Value.int (Option.some.inj hev)))
def f_SS_tried_J19 (nT_trials_trials_items : Nat) (vT_told_people : Int32) (vT_trials_lifted : Int32) (vT_trials_trials_size : Int32) (fT_trials_trials_items : Nat → Int32) (x1 : Int32) (x2 : Int32) (x3 : Int32) (x4 : Int32) (x5 : Int32) : Option (Int32 × Int32 × Int32 × (Nat → Int32)) := x_B (f_To_everybody vT_told_people) (fun y1 => if (x2 &&& (y1 ^^^ (-1 : Int32))) = 0 then (if x4 < 0 then (some ((-2 : Int32), vT_trials_lifted, vT_trials_trials_size, fT_trials_trials_items)) else if x4 < (4 : Int32) then (if x3 < 0 then (some ((-3 : Int32), vT_trials_lifted, vT_trials_trials_size, fT_trials_trials_items)) else if (6 : Int32) < x3 then (some ((-3 : Int32), vT_trials_lifted, vT_trials_trials_size, fT_trials_trials_items)) else if x5 < 0 then (some ((-3 : Int32), vT_trials_lifted, vT_trials_trials_size, fT_trials_trials_items)) else if x5 ≤ (1 : Int32) then (x_B (f_Tr_packed x1 x2 x3 x4) (fun y9 => x_B (f_Tr_add nT_trials_trials_items vT_trials_lifted vT_trials_trials_size fT_trials_trials_items y9 x5) (fun ⟨y10, w11, w12, w13⟩ => if y10 = 0 then (some ((-5 : Int32), w11, w12, w13)) else x_B (f_Tr_size w12) (fun y15 => some (y15, w11, w12, w13))))) else some ((-3 : Int32), vT_trials_lifted, vT_trials_trials_size, fT_trials_trials_items)) else some ((-2 : Int32), vT_trials_lifted, vT_trials_trials_size, fT_trials_trials_items)) else some ((-2 : Int32), vT_trials_lifted, vT_trials_trials_size, fT_trials_trials_items))
def f_SS_tried (nT_trials_trials_items : Nat) (vT_told_people : Int32) (vT_trials_lifted : Int32) (vT_trials_trials_size : Int32) (fT_trials_trials_items : Nat → Int32) (p1 : Int32) (p2 : Int32) (p3 : Int32) (p4 : Int32) (p5 : Int32) : Option (Int32 × Int32 × Int32 × (Nat → Int32)) := if p1 = (-1 : Int32) then (f_SS_tried_J19 nT_trials_trials_items vT_told_people vT_trials_lifted vT_trials_trials_size fT_trials_trials_items p1 p2 p3 p4 p5) else x_B (f_To_hasPerson vT_told_people p1) (fun y17 => if y17 = 0 then (some ((-2 : Int32), vT_trials_lifted, vT_trials_trials_size, fT_trials_trials_items)) else f_SS_tried_J19 nT_trials_trials_items vT_told_people vT_trials_lifted vT_trials_trials_size fT_trials_trials_items p1 p2 p3 p4 p5)
set_option maxHeartbeats 8000000 in
set_option maxRecDepth 100000 in
theorem c_SS_tried (l : Launch) (G : GG) (aT aT_text aT_told aT_reader aT_rules aT_fromNow aT_whatIf aT_trials aT_undoable aT_keptStates aT_keptDeeds aT_row aT_princes aT_told_kinds aT_told_targets aT_told_wakes aT_told_terms aT_told_sorts aT_told_numbers aT_trials_trials aT_trials_so aT_trials_trials_items : Nat) (vT_state : Int32) (vT_deeds : Int32) (vT_told_people : Int32) (vT_told_spells : Int32) (vT_told_day : Int32) (vT_told_broken : Int32) (vT_trials_lifted : Int32) (vT_trials_people : Int32) (vT_trials_trials_size : Int32) (fT_trials_trials_items : Nat → Int32) (nT_trials_trials_items : Nat) (p1 : Int32) (p2 : Int32) (p3 : Int32) (p4 : Int32) (p5 : Int32) (r0 : Int32) (wvT_trials_lifted : Int32) (wvT_trials_trials_size : Int32) (wfT_trials_trials_items : Nat → Int32) (hev : f_SS_tried nT_trials_trials_items vT_told_people vT_trials_lifted vT_trials_trials_size fT_trials_trials_items p1 p2 p3 p4 p5 = some (r0, wvT_trials_lifted, wvT_trials_trials_size, wfT_trials_trials_items)) : RW l G yX10_tried cX10_tried 7 (some .int) 2 [.ref aT, .int p1, .int p2, .int p3, .int p4, .int p5] [(aT, .inr (6, [.ref aT_text, .ref aT_told, .ref aT_reader, .ref aT_rules, .ref aT_fromNow, .ref aT_whatIf, .ref aT_trials, .ref aT_undoable, .ref aT_keptStates, .ref aT_keptDeeds, .ref aT_row, .ref aT_princes, .int vT_state, .int vT_deeds])), (aT_told, .inr (4, [.int vT_told_people, .int vT_told_spells, .int vT_told_day, .int vT_told_broken, .ref aT_told_kinds, .ref aT_told_targets, .ref aT_told_wakes, .ref aT_told_terms, .ref aT_told_sorts, .ref aT_told_numbers])), (aT_trials, .inr (5, [.ref aT_trials_trials, .int vT_trials_lifted, .ref aT_trials_so, .int vT_trials_people])), (aT_trials_trials, .inr (1, [.ref aT_trials_trials_items, .int vT_trials_trials_size])), (aT_trials_trials_items, .inl (G.2.1, nT_trials_trials_items, .inl fT_trials_trials_items))] (some (.int r0)) [(aT, .inr (6, [.ref aT_text, .ref aT_told, .ref aT_reader, .ref aT_rules, .ref aT_fromNow, .ref aT_whatIf, .ref aT_trials, .ref aT_undoable, .ref aT_keptStates, .ref aT_keptDeeds, .ref aT_row, .ref aT_princes, .int vT_state, .int vT_deeds])), (aT_told, .inr (4, [.int vT_told_people, .int vT_told_spells, .int vT_told_day, .int vT_told_broken, .ref aT_told_kinds, .ref aT_told_targets, .ref aT_told_wakes, .ref aT_told_terms, .ref aT_told_sorts, .ref aT_told_numbers])), (aT_trials, .inr (5, [.ref aT_trials_trials, .int wvT_trials_lifted, .ref aT_trials_so, .int vT_trials_people])), (aT_trials_trials, .inr (1, [.ref aT_trials_trials_items, .int wvT_trials_trials_size])), (aT_trials_trials_items, .inl (G.2.1, nT_trials_trials_items, .inl wfT_trials_trials_items))] 0 0 := by
  refine RW_of (by decide) (Nat.le_of_ble_eq_true rfl) ?_
  intro p e s m ar below meth c R Q A ls X hR hRc hin hP hKK hD hS hA hAb hl ret
  obtain ⟨rs, hrs⟩ : ∃ q, q = (r0, wvT_trials_lifted, wvT_trials_trials_size, wfT_trials_trials_items) := ⟨_, rfl⟩
  rw [← hrs] at hev
  have ret2 : ∀ (pc : Nat) (ls : Array Slot) (H : Heap) (lo : List Loc) (v r1 : Int32) (zvT_trials_lifted : Int32) (zvT_trials_trials_size : Int32) (zfT_trials_trials_items : Nat → Int32), (r1, zvT_trials_lifted, zvT_trials_trials_size, zfT_trials_trials_items) = rs → decode cX10_tried pc = .ok (.ireturn, 1) → narrow .int (.int v) = .int r1 → va_P G.1 classes [(aT, .inr (6, [.ref aT_text, .ref aT_told, .ref aT_reader, .ref aT_rules, .ref aT_fromNow, .ref aT_whatIf, .ref aT_trials, .ref aT_undoable, .ref aT_keptStates, .ref aT_keptDeeds, .ref aT_row, .ref aT_princes, .int vT_state, .int vT_deeds])), (aT_told, .inr (4, [.int vT_told_people, .int vT_told_spells, .int vT_told_day, .int vT_told_broken, .ref aT_told_kinds, .ref aT_told_targets, .ref aT_told_wakes, .ref aT_told_terms, .ref aT_told_sorts, .ref aT_told_numbers])), (aT_trials, .inr (5, [.ref aT_trials_trials, .int zvT_trials_lifted, .ref aT_trials_so, .int vT_trials_people])), (aT_trials_trials, .inr (1, [.ref aT_trials_trials_items, .int zvT_trials_trials_size])), (aT_trials_trials_items, .inl (G.2.1, nT_trials_trials_items, .inl zfT_trials_trials_items))] H → va_D A [(aT, .inr (6, [.ref aT_text, .ref aT_told, .ref aT_reader, .ref aT_rules, .ref aT_fromNow, .ref aT_whatIf, .ref aT_trials, .ref aT_undoable, .ref aT_keptStates, .ref aT_keptDeeds, .ref aT_row, .ref aT_princes, .int vT_state, .int vT_deeds])), (aT_told, .inr (4, [.int vT_told_people, .int vT_told_spells, .int vT_told_day, .int vT_told_broken, .ref aT_told_kinds, .ref aT_told_targets, .ref aT_told_wakes, .ref aT_told_terms, .ref aT_told_sorts, .ref aT_told_numbers])), (aT_trials, .inr (5, [.ref aT_trials_trials, .int zvT_trials_lifted, .ref aT_trials_so, .int vT_trials_people])), (aT_trials_trials, .inr (1, [.ref aT_trials_trials_items, .int zvT_trials_trials_size])), (aT_trials_trials_items, .inl (G.2.1, nT_trials_trials_items, .inl zfT_trials_trials_items))] → va_S A s.heap H lo → W p l e R s m ar below meth c H lo 0 0 Q (F0 m pc ls [.int v]) := by
    intro pc ls H lo v r1 zvT_trials_lifted zvT_trials_trials_size zfT_trials_trials_items he hd hn h1 h2 h3
    have he := he.trans hrs
    cases he
    exact ret.1 _ _ _ _ _ _ _ rfl rfl hd hn h1 h2 h3
  clear ret hrs
  have hl : lv_has ls 7 [(0, .ref aT), (1, .int p1), (2, .int p2), (3, .int p3), (4, .int p4), (5, .int p5)] := hl
  obtain ⟨hx, hb, hml, hown, hts, hT⟩ := id X
  have hK := hKK.1
  have hw : ∀ w ∈ T0, w.before ar s = true := fun w h => hts w (hT w h)
  have i10 := fun w h => hT w (inT10 w h)
  have J19 : ∀ (vT_trials_lifted : Int32) (vT_trials_trials_size : Int32) (fT_trials_trials_items : Nat → Int32) (x1 : Int32) (x2 : Int32) (x3 : Int32) (x4 : Int32) (x5 : Int32), ∀ (H : Heap) (lo : List Loc), va_P G.1 classes [(aT, .inr (6, [.ref aT_text, .ref aT_told, .ref aT_reader, .ref aT_rules, .ref aT_fromNow, .ref aT_whatIf, .ref aT_trials, .ref aT_undoable, .ref aT_keptStates, .ref aT_keptDeeds, .ref aT_row, .ref aT_princes, .int vT_state, .int vT_deeds])), (aT_told, .inr (4, [.int vT_told_people, .int vT_told_spells, .int vT_told_day, .int vT_told_broken, .ref aT_told_kinds, .ref aT_told_targets, .ref aT_told_wakes, .ref aT_told_terms, .ref aT_told_sorts, .ref aT_told_numbers])), (aT_trials, .inr (5, [.ref aT_trials_trials, .int vT_trials_lifted, .ref aT_trials_so, .int vT_trials_people])), (aT_trials_trials, .inr (1, [.ref aT_trials_trials_items, .int vT_trials_trials_size])), (aT_trials_trials_items, .inl (G.2.1, nT_trials_trials_items, .inl fT_trials_trials_items))] H → va_D A [(aT, .inr (6, [.ref aT_text, .ref aT_told, .ref aT_reader, .ref aT_rules, .ref aT_fromNow, .ref aT_whatIf, .ref aT_trials, .ref aT_undoable, .ref aT_keptStates, .ref aT_keptDeeds, .ref aT_row, .ref aT_princes, .int vT_state, .int vT_deeds])), (aT_told, .inr (4, [.int vT_told_people, .int vT_told_spells, .int vT_told_day, .int vT_told_broken, .ref aT_told_kinds, .ref aT_told_targets, .ref aT_told_wakes, .ref aT_told_terms, .ref aT_told_sorts, .ref aT_told_numbers])), (aT_trials, .inr (5, [.ref aT_trials_trials, .int vT_trials_lifted, .ref aT_trials_so, .int vT_trials_people])), (aT_trials_trials, .inr (1, [.ref aT_trials_trials_items, .int vT_trials_trials_size])), (aT_trials_trials_items, .inl (G.2.1, nT_trials_trials_items, .inl fT_trials_trials_items))] → va_S A s.heap H lo → ∀ (ls : Array Slot), f_SS_tried_J19 nT_trials_trials_items vT_told_people vT_trials_lifted vT_trials_trials_size fT_trials_trials_items x1 x2 x3 x4 x5 = some rs → lv_has ls 7 [(0, .ref aT), (1, .int x1), (2, .int x2), (3, .int x3), (4, .int x4), (5, .int x5)] → W p l e R s m ar below meth c H lo 0 0 Q (F0 m 19 ls []) := by
    intro vT_trials_lifted vT_trials_trials_size fT_trials_trials_items x1 x2 x3 x4 x5 H lo hP hD hS ls hev hl
    unfold f_SS_tried_J19 at hev
    refine lv_iload_n hx hb dX10_tried_19 rfl (lv_at hl 2 rfl) ?_
    refine lv_aload_n hx hb dX10_tried_20 rfl (lv_at hl 0 rfl) ?_
    refine va_get (D := G.1) (ci := 6) (v := .ref aT_told) (C := RX10) (T := TX10) (N := 14) hx hb hts i10 hown hK hP 0 rfl rfl 1 (by decide) (hw _ u418) (fun _ h9 => h9) rfl dX10_tried_21 ?_
    obtain ⟨y1, hq, hev⟩ := x_bd hev
    refine roV X (KK_at hKK hS hAb) hR (st1 := [.int y1, .int x2]) (c_To_everybody l G aT_told aT_told_kinds aT_told_targets aT_told_wakes aT_told_terms aT_told_sorts aT_told_numbers vT_told_people vT_told_spells vT_told_day vT_told_broken y1 hq) K_X8_everybody u793 (x_Psub hP [1] rfl) rfl (q0 := 0) rfl (by decide) ⟨Nat.zero_le _, Nat.zero_le _⟩ rfl hl.1 rfl (Nat.le_of_ble_eq_true rfl) rfl dX10_tried_24 ?_
    refine lv_iconst (v := (-1 : Int32)) hx hb dX10_tried_27 (by decide) ?_
    refine lv_ixor hx hb dX10_tried_28 ?_
    refine lv_iand hx hb dX10_tried_29 ?_
    refine lv_if_ne (tgt := 44) hx hb dX10_tried_30 (by decide) (fun c2 => ?_) (fun c2 => ?_)
    · replace hev := x_f c2 hev
      refine lv_bipush (v := (-2 : Int32)) hx hb dX10_tried_44 (by decide) ?_
      exact ret2 _ _ _ _ (-2 : Int32) (-2 : Int32) vT_trials_lifted vT_trials_trials_size fT_trials_trials_items (Option.some.inj hev) dX10_tried_46 (show narrow _ (.int (-2 : Int32)) = .int (-2 : Int32) from rfl) hP hD hS
    · replace hev := x_t c2 hev
      refine lv_iload hx hb dX10_tried_33 (lv_at hl 4 rfl) ?_
      refine lv_if_lt (tgt := 44) hx hb dX10_tried_35 (by decide) (fun c3 => ?_) (fun c3 => ?_)
      · replace hev := x_t c3 hev
        refine lv_bipush (v := (-2 : Int32)) hx hb dX10_tried_44 (by decide) ?_
        exact ret2 _ _ _ _ (-2 : Int32) (-2 : Int32) vT_trials_lifted vT_trials_trials_size fT_trials_trials_items (Option.some.inj hev) dX10_tried_46 (show narrow _ (.int (-2 : Int32)) = .int (-2 : Int32) from rfl) hP hD hS
      · replace hev := x_f c3 hev
        refine lv_iload hx hb dX10_tried_38 (lv_at hl 4 rfl) ?_
        refine lv_iconst (v := (4 : Int32)) hx hb dX10_tried_40 (by decide) ?_
        refine lv_icmp_lt (tgt := 47) hx hb dX10_tried_41 (by decide) (fun c4 => ?_) (fun c4 => ?_)
        · replace hev := x_t c4 hev
          refine lv_iload_n hx hb dX10_tried_47 rfl (lv_at hl 3 rfl) ?_
          refine lv_if_lt (tgt := 68) hx hb dX10_tried_48 (by decide) (fun c5 => ?_) (fun c5 => ?_)
          · replace hev := x_t c5 hev
            refine lv_bipush (v := (-3 : Int32)) hx hb dX10_tried_68 (by decide) ?_
            exact ret2 _ _ _ _ (-3 : Int32) (-3 : Int32) vT_trials_lifted vT_trials_trials_size fT_trials_trials_items (Option.some.inj hev) dX10_tried_70 (show narrow _ (.int (-3 : Int32)) = .int (-3 : Int32) from rfl) hP hD hS
          · replace hev := x_f c5 hev
            refine lv_iload_n hx hb dX10_tried_51 rfl (lv_at hl 3 rfl) ?_
            refine lv_bipush (v := (6 : Int32)) hx hb dX10_tried_52 (by decide) ?_
            refine lv_icmp_gt (tgt := 68) hx hb dX10_tried_54 (by decide) (fun c6 => ?_) (fun c6 => ?_)
            · replace hev := x_t c6 hev
              refine lv_bipush (v := (-3 : Int32)) hx hb dX10_tried_68 (by decide) ?_
              exact ret2 _ _ _ _ (-3 : Int32) (-3 : Int32) vT_trials_lifted vT_trials_trials_size fT_trials_trials_items (Option.some.inj hev) dX10_tried_70 (show narrow _ (.int (-3 : Int32)) = .int (-3 : Int32) from rfl) hP hD hS
            · replace hev := x_f c6 hev
              refine lv_iload hx hb dX10_tried_57 (lv_at hl 5 rfl) ?_
              refine lv_if_lt (tgt := 68) hx hb dX10_tried_59 (by decide) (fun c7 => ?_) (fun c7 => ?_)
              · replace hev := x_t c7 hev
                refine lv_bipush (v := (-3 : Int32)) hx hb dX10_tried_68 (by decide) ?_
                exact ret2 _ _ _ _ (-3 : Int32) (-3 : Int32) vT_trials_lifted vT_trials_trials_size fT_trials_trials_items (Option.some.inj hev) dX10_tried_70 (show narrow _ (.int (-3 : Int32)) = .int (-3 : Int32) from rfl) hP hD hS
              · replace hev := x_f c7 hev
                refine lv_iload hx hb dX10_tried_62 (lv_at hl 5 rfl) ?_
                refine lv_iconst (v := (1 : Int32)) hx hb dX10_tried_64 (by decide) ?_
                refine lv_icmp_le (tgt := 71) hx hb dX10_tried_65 (by decide) (fun c8 => ?_) (fun c8 => ?_)
                · replace hev := x_t c8 hev
                  refine lv_iload_n hx hb dX10_tried_71 rfl (lv_at hl 1 rfl) ?_
                  refine lv_iload_n hx hb dX10_tried_72 rfl (lv_at hl 2 rfl) ?_
                  refine lv_iload_n hx hb dX10_tried_73 rfl (lv_at hl 3 rfl) ?_
                  refine lv_iload hx hb dX10_tried_74 (lv_at hl 4 rfl) ?_
                  obtain ⟨y9, hq, hev⟩ := x_bd hev
                  refine roS X (KK_at hKK hS hAb) hR (st1 := [.int y9]) (c_Tr_packed l G x1 x2 x3 x4 y9 hq) K_X9_packed u989 (x_Psub hP [] rfl) (by decide) ⟨Nat.zero_le _, Nat.zero_le _⟩ rfl hl.1 rfl (Nat.le_of_ble_eq_true rfl) rfl dX10_tried_76 ?_
                  refine lv_istore (lv' := [(6, .int y9), (0, .ref aT), (1, .int x1), (2, .int x2), (3, .int x3), (4, .int x4), (5, .int x5)]) hx hb dX10_tried_79 hl (by decide) rfl (fun ls hl => ?_)
                  refine lv_aload_n hx hb dX10_tried_81 rfl (lv_at hl 1 rfl) ?_
                  refine va_get (D := G.1) (ci := 6) (v := .ref aT_trials) (C := RX10) (T := TX10) (N := 14) hx hb hts i10 hown hK hP 0 rfl rfl 6 (by decide) (hw _ u423) (fun _ h9 => h9) rfl dX10_tried_82 ?_
                  refine lv_iload hx hb dX10_tried_85 (lv_at hl 0 rfl) ?_
                  refine lv_iload hx hb dX10_tried_87 (lv_at hl 6 rfl) ?_
                  obtain ⟨⟨y10, w11, w12, w13⟩, hq, hev⟩ := x_bd hev
                  refine rgV X (KK_at hKK hS hAb) hR (st1 := [.int y10]) (ws2 := [(aT, .inr (6, [.ref aT_text, .ref aT_told, .ref aT_reader, .ref aT_rules, .ref aT_fromNow, .ref aT_whatIf, .ref aT_trials, .ref aT_undoable, .ref aT_keptStates, .ref aT_keptDeeds, .ref aT_row, .ref aT_princes, .int vT_state, .int vT_deeds])), (aT_told, .inr (4, [.int vT_told_people, .int vT_told_spells, .int vT_told_day, .int vT_told_broken, .ref aT_told_kinds, .ref aT_told_targets, .ref aT_told_wakes, .ref aT_told_terms, .ref aT_told_sorts, .ref aT_told_numbers])), (aT_trials, .inr (5, [.ref aT_trials_trials, .int w11, .ref aT_trials_so, .int vT_trials_people])), (aT_trials_trials, .inr (1, [.ref aT_trials_trials_items, .int w12])), (aT_trials_trials_items, .inl (G.2.1, nT_trials_trials_items, .inl w13))]) (c_Tr_add l G aT_trials aT_trials_trials aT_trials_so aT_trials_trials_items vT_trials_lifted vT_trials_people vT_trials_trials_size fT_trials_trials_items nT_trials_trials_items y9 x5 y10 w11 w12 w13 hq) K_X9_add u992 hP hD hS hA hAb [2, 3, 4] rfl (sbC rfl (sbC rfl (sbC rfl sb0))) (mgK (by decide) (mgK (by decide) (mgN 0 rfl rfl (mgN 1 rfl rfl (mgN 2 rfl rfl (mg0)))))) rfl (q0 := 0) rfl (by decide) ⟨Nat.zero_le _, Nat.zero_le _⟩ rfl hl.1 rfl (Nat.le_of_ble_eq_true rfl) rfl dX10_tried_89 (fun H lo hP hD hS => ?_)
                  refine lv_if_eq (tgt := 105) hx hb dX10_tried_92 (by decide) (fun c14 => ?_) (fun c14 => ?_)
                  · replace hev := x_t c14 hev
                    refine lv_bipush (v := (-5 : Int32)) hx hb dX10_tried_105 (by decide) ?_
                    exact ret2 _ _ _ _ (-5 : Int32) (-5 : Int32) w11 w12 w13 (Option.some.inj hev) dX10_tried_107 (show narrow _ (.int (-5 : Int32)) = .int (-5 : Int32) from rfl) hP hD hS
                  · replace hev := x_f c14 hev
                    refine lv_aload_n hx hb dX10_tried_95 rfl (lv_at hl 1 rfl) ?_
                    refine va_get (D := G.1) (ci := 6) (v := .ref aT_trials) (C := RX10) (T := TX10) (N := 14) hx hb hts i10 hown hK hP 0 rfl rfl 6 (by decide) (hw _ u423) (fun _ h9 => h9) rfl dX10_tried_96 ?_
                    obtain ⟨y15, hq, hev⟩ := x_bd hev
                    refine roV X (KK_at hKK hS hAb) hR (st1 := [.int y15]) (c_Tr_size l G aT_trials aT_trials_trials aT_trials_so aT_trials_trials_items w11 vT_trials_people w12 y15 hq) K_X9_size u998 (x_Psub hP [2, 3] rfl) rfl (q0 := 0) rfl (by decide) ⟨Nat.zero_le _, Nat.zero_le _⟩ rfl hl.1 rfl (Nat.le_of_ble_eq_true rfl) rfl dX10_tried_99 ?_
                    refine lv_goto (tgt := 107) hx hb dX10_tried_102 (by decide) ?_
                    exact ret2 _ _ _ _ y15 y15 w11 w12 w13 (Option.some.inj hev) dX10_tried_107 (show narrow _ (.int y15) = .int y15 from rfl) hP hD hS
                · replace hev := x_f c8 hev
                  refine lv_bipush (v := (-3 : Int32)) hx hb dX10_tried_68 (by decide) ?_
                  exact ret2 _ _ _ _ (-3 : Int32) (-3 : Int32) vT_trials_lifted vT_trials_trials_size fT_trials_trials_items (Option.some.inj hev) dX10_tried_70 (show narrow _ (.int (-3 : Int32)) = .int (-3 : Int32) from rfl) hP hD hS
        · replace hev := x_f c4 hev
          refine lv_bipush (v := (-2 : Int32)) hx hb dX10_tried_44 (by decide) ?_
          exact ret2 _ _ _ _ (-2 : Int32) (-2 : Int32) vT_trials_lifted vT_trials_trials_size fT_trials_trials_items (Option.some.inj hev) dX10_tried_46 (show narrow _ (.int (-2 : Int32)) = .int (-2 : Int32) from rfl) hP hD hS
  unfold f_SS_tried at hev
  refine lv_iload_n hx hb dX10_tried_0 rfl (lv_at hl 1 rfl) ?_
  refine lv_iconst (v := (-1 : Int32)) hx hb dX10_tried_1 (by decide) ?_
  refine lv_icmp_eq (tgt := 19) hx hb dX10_tried_2 (by decide) (fun c16 => ?_) (fun c16 => ?_)
  · replace hev := x_t c16 hev
    exact J19 vT_trials_lifted vT_trials_trials_size fT_trials_trials_items p1 p2 p3 p4 p5 _ _ hP hD hS ls hev (lv_sub hl [0, 1, 2, 3, 4, 5] rfl)
  · replace hev := x_f c16 hev
    refine lv_aload_n hx hb dX10_tried_5 rfl (lv_at hl 0 rfl) ?_
    refine va_get (D := G.1) (ci := 6) (v := .ref aT_told) (C := RX10) (T := TX10) (N := 14) hx hb hts i10 hown hK hP 0 rfl rfl 1 (by decide) (hw _ u418) (fun _ h9 => h9) rfl dX10_tried_6 ?_
    refine lv_iload_n hx hb dX10_tried_9 rfl (lv_at hl 1 rfl) ?_
    obtain ⟨y17, hq, hev⟩ := x_bd hev
    refine roV X (KK_at hKK hS hAb) hR (st1 := [.int y17]) (c_To_hasPerson l G aT_told aT_told_kinds aT_told_targets aT_told_wakes aT_told_terms aT_told_sorts aT_told_numbers vT_told_people vT_told_spells vT_told_day vT_told_broken p1 y17 hq) K_X8_hasPerson u654 (x_Psub hP [1] rfl) rfl (q0 := 0) rfl (by decide) ⟨Nat.zero_le _, Nat.zero_le _⟩ rfl hl.1 rfl (Nat.le_of_ble_eq_true rfl) rfl dX10_tried_10 ?_
    refine lv_if_ne (tgt := 19) hx hb dX10_tried_13 (by decide) (fun c18 => ?_) (fun c18 => ?_)
    · replace hev := x_f c18 hev
      exact J19 vT_trials_lifted vT_trials_trials_size fT_trials_trials_items p1 p2 p3 p4 p5 _ _ hP hD hS ls hev (lv_sub hl [0, 1, 2, 3, 4, 5] rfl)
    · replace hev := x_t c18 hev
      refine lv_bipush (v := (-2 : Int32)) hx hb dX10_tried_16 (by decide) ?_
      exact ret2 _ _ _ _ (-2 : Int32) (-2 : Int32) vT_trials_lifted vT_trials_trials_size fT_trials_trials_items (Option.some.inj hev) dX10_tried_18 (show narrow _ (.int (-2 : Int32)) = .int (-2 : Int32) from rfl) hP hD hS
def f_SS_forget (vT_trials_lifted : Int32) (vT_trials_trials_size : Int32) : Option (Int32 × Int32 × Int32) := x_B (f_Tr_empty vT_trials_lifted vT_trials_trials_size) (fun ⟨y1, w2, w3⟩ => some (y1, w2, w3))
set_option maxHeartbeats 8000000 in
set_option maxRecDepth 100000 in
theorem c_SS_forget (l : Launch) (G : GG) (aT aT_text aT_told aT_reader aT_rules aT_fromNow aT_whatIf aT_trials aT_undoable aT_keptStates aT_keptDeeds aT_row aT_princes aT_trials_trials aT_trials_so aT_trials_trials_items : Nat) (vT_state : Int32) (vT_deeds : Int32) (vT_trials_lifted : Int32) (vT_trials_people : Int32) (vT_trials_trials_size : Int32) (r0 : Int32) (wvT_trials_lifted : Int32) (wvT_trials_trials_size : Int32) (hev : f_SS_forget vT_trials_lifted vT_trials_trials_size = some (r0, wvT_trials_lifted, wvT_trials_trials_size)) : RW l G yX10_forget cX10_forget 1 (some .int) 2 [.ref aT] [(aT, .inr (6, [.ref aT_text, .ref aT_told, .ref aT_reader, .ref aT_rules, .ref aT_fromNow, .ref aT_whatIf, .ref aT_trials, .ref aT_undoable, .ref aT_keptStates, .ref aT_keptDeeds, .ref aT_row, .ref aT_princes, .int vT_state, .int vT_deeds])), (aT_trials, .inr (5, [.ref aT_trials_trials, .int vT_trials_lifted, .ref aT_trials_so, .int vT_trials_people])), (aT_trials_trials, .inr (1, [.ref aT_trials_trials_items, .int vT_trials_trials_size]))] (some (.int r0)) [(aT, .inr (6, [.ref aT_text, .ref aT_told, .ref aT_reader, .ref aT_rules, .ref aT_fromNow, .ref aT_whatIf, .ref aT_trials, .ref aT_undoable, .ref aT_keptStates, .ref aT_keptDeeds, .ref aT_row, .ref aT_princes, .int vT_state, .int vT_deeds])), (aT_trials, .inr (5, [.ref aT_trials_trials, .int wvT_trials_lifted, .ref aT_trials_so, .int vT_trials_people])), (aT_trials_trials, .inr (1, [.ref aT_trials_trials_items, .int wvT_trials_trials_size]))] 0 0 := by
  refine RW_of (by decide) (Nat.le_of_ble_eq_true rfl) ?_
  intro p e s m ar below meth c R Q A ls X hR hRc hin hP hKK hD hS hA hAb hl ret
  obtain ⟨rs, hrs⟩ : ∃ q, q = (r0, wvT_trials_lifted, wvT_trials_trials_size) := ⟨_, rfl⟩
  rw [← hrs] at hev
  have ret2 : ∀ (pc : Nat) (ls : Array Slot) (H : Heap) (lo : List Loc) (v r1 : Int32) (zvT_trials_lifted : Int32) (zvT_trials_trials_size : Int32), (r1, zvT_trials_lifted, zvT_trials_trials_size) = rs → decode cX10_forget pc = .ok (.ireturn, 1) → narrow .int (.int v) = .int r1 → va_P G.1 classes [(aT, .inr (6, [.ref aT_text, .ref aT_told, .ref aT_reader, .ref aT_rules, .ref aT_fromNow, .ref aT_whatIf, .ref aT_trials, .ref aT_undoable, .ref aT_keptStates, .ref aT_keptDeeds, .ref aT_row, .ref aT_princes, .int vT_state, .int vT_deeds])), (aT_trials, .inr (5, [.ref aT_trials_trials, .int zvT_trials_lifted, .ref aT_trials_so, .int vT_trials_people])), (aT_trials_trials, .inr (1, [.ref aT_trials_trials_items, .int zvT_trials_trials_size]))] H → va_D A [(aT, .inr (6, [.ref aT_text, .ref aT_told, .ref aT_reader, .ref aT_rules, .ref aT_fromNow, .ref aT_whatIf, .ref aT_trials, .ref aT_undoable, .ref aT_keptStates, .ref aT_keptDeeds, .ref aT_row, .ref aT_princes, .int vT_state, .int vT_deeds])), (aT_trials, .inr (5, [.ref aT_trials_trials, .int zvT_trials_lifted, .ref aT_trials_so, .int vT_trials_people])), (aT_trials_trials, .inr (1, [.ref aT_trials_trials_items, .int zvT_trials_trials_size]))] → va_S A s.heap H lo → W p l e R s m ar below meth c H lo 0 0 Q (F0 m pc ls [.int v]) := by
    intro pc ls H lo v r1 zvT_trials_lifted zvT_trials_trials_size he hd hn h1 h2 h3
    have he := he.trans hrs
    cases he
    exact ret.1 _ _ _ _ _ _ _ rfl rfl hd hn h1 h2 h3
  clear ret hrs
  have hl : lv_has ls 1 [(0, .ref aT)] := hl
  obtain ⟨hx, hb, hml, hown, hts, hT⟩ := id X
  have hK := hKK.1
  have hw : ∀ w ∈ T0, w.before ar s = true := fun w h => hts w (hT w h)
  have i10 := fun w h => hT w (inT10 w h)
  unfold f_SS_forget at hev
  refine lv_aload_n hx hb dX10_forget_0 rfl (lv_at hl 0 rfl) ?_
  refine va_get (D := G.1) (ci := 6) (v := .ref aT_trials) (C := RX10) (T := TX10) (N := 14) hx hb hts i10 hown hK hP 0 rfl rfl 6 (by decide) (hw _ u423) (fun _ h9 => h9) rfl dX10_forget_1 ?_
  obtain ⟨⟨y1, w2, w3⟩, hq, hev⟩ := x_bd hev
  refine rgV X (KK_at hKK hS hAb) hR (st1 := [.int y1]) (ws2 := [(aT, .inr (6, [.ref aT_text, .ref aT_told, .ref aT_reader, .ref aT_rules, .ref aT_fromNow, .ref aT_whatIf, .ref aT_trials, .ref aT_undoable, .ref aT_keptStates, .ref aT_keptDeeds, .ref aT_row, .ref aT_princes, .int vT_state, .int vT_deeds])), (aT_trials, .inr (5, [.ref aT_trials_trials, .int w2, .ref aT_trials_so, .int vT_trials_people])), (aT_trials_trials, .inr (1, [.ref aT_trials_trials_items, .int w3]))]) (c_Tr_empty l G aT_trials aT_trials_trials aT_trials_so aT_trials_trials_items vT_trials_lifted vT_trials_people vT_trials_trials_size y1 w2 w3 hq) K_X9_empty u412 hP hD hS hA hAb [1, 2] rfl (sbC rfl (sbC rfl sb0)) (mgK (by decide) (mgN 0 rfl rfl (mgN 1 rfl rfl (mg0)))) rfl (q0 := 0) rfl (by decide) ⟨Nat.zero_le _, Nat.zero_le _⟩ rfl hl.1 rfl (Nat.le_of_ble_eq_true rfl) rfl dX10_forget_4 (fun H lo hP hD hS => ?_)
  exact ret2 _ _ _ _ y1 y1 w2 w3 (Option.some.inj hev) dX10_forget_7 (show narrow _ (.int y1) = .int y1 from rfl) hP hD hS
def f_SS_mayBe (k : Nat) (nT_trials_trials_items : Nat) (vT_told_people : Int32) (vT_trials_lifted : Int32) (vT_trials_people : Int32) (vT_trials_trials_size : Int32) (fT_trials_so : Nat → Int32) (fT_trials_trials_items : Nat → Int32) (p1 : Int32) : Option (Int32 × Int32 × (Nat → Int32)) := if p1 < 0 then (some ((-3 : Int32), vT_trials_people, fT_trials_so)) else if p1 ≤ (4 : Int32) then (x_B (f_To_people vT_told_people) (fun y3 => x_B (f_Tr_weigh k nT_trials_trials_items vT_trials_people vT_trials_trials_size fT_trials_so fT_trials_trials_items y3) (fun ⟨w4, w5⟩ => if p1 = 0 then (x_B (f_Tr_howMany k vT_trials_lifted w4 w5) (fun y19 => some (y19, w4, w5))) else x_B (f_Tr_firstTerm k vT_trials_lifted w4 w5) (fun y7 => if y7 = (-1 : Int32) then (some ((-4 : Int32), w4, w5)) else x_B (f_Tr_secondTerm k vT_trials_lifted w4 w5 y7) (fun y9 => if p1 = (1 : Int32) then (x_B (f_Tr_sortOf w4 y7) (fun y11 => some (y11, w4, w5))) else if p1 = (2 : Int32) then (x_B (f_Tr_numberOf w4 y7) (fun y13 => some (y13, w4, w5))) else if p1 = (3 : Int32) then (if y9 = (-1 : Int32) then (some ((-1 : Int32), w4, w5)) else x_B (f_Tr_sortOf w4 y9) (fun y16 => some (y16, w4, w5))) else if y9 = (-1 : Int32) then (some ((-1 : Int32), w4, w5)) else x_B (f_Tr_numberOf w4 y9) (fun y18 => some (y18, w4, w5))))))) else some ((-3 : Int32), vT_trials_people, fT_trials_so)
set_option maxHeartbeats 8000000 in
set_option maxRecDepth 100000 in
theorem c_SS_mayBe (l : Launch) (G : GG) (aT aT_text aT_told aT_reader aT_rules aT_fromNow aT_whatIf aT_trials aT_undoable aT_keptStates aT_keptDeeds aT_row aT_princes aT_told_kinds aT_told_targets aT_told_wakes aT_told_terms aT_told_sorts aT_told_numbers aT_trials_trials aT_trials_so aT_trials_trials_items : Nat) (vT_state : Int32) (vT_deeds : Int32) (vT_told_people : Int32) (vT_told_spells : Int32) (vT_told_day : Int32) (vT_told_broken : Int32) (vT_trials_lifted : Int32) (vT_trials_people : Int32) (vT_trials_trials_size : Int32) (fT_trials_so : Nat → Int32) (fT_trials_trials_items : Nat → Int32) (nT_trials_trials_items : Nat) (k : Nat) (p1 : Int32) (r0 : Int32) (wvT_trials_people : Int32) (wfT_trials_so : Nat → Int32) (hev : f_SS_mayBe k nT_trials_trials_items vT_told_people vT_trials_lifted vT_trials_people vT_trials_trials_size fT_trials_so fT_trials_trials_items p1 = some (r0, wvT_trials_people, wfT_trials_so)) : RW l G yX10_mayBe cX10_mayBe 4 (some .int) 4 [.ref aT, .int p1] [(aT, .inr (6, [.ref aT_text, .ref aT_told, .ref aT_reader, .ref aT_rules, .ref aT_fromNow, .ref aT_whatIf, .ref aT_trials, .ref aT_undoable, .ref aT_keptStates, .ref aT_keptDeeds, .ref aT_row, .ref aT_princes, .int vT_state, .int vT_deeds])), (aT_told, .inr (4, [.int vT_told_people, .int vT_told_spells, .int vT_told_day, .int vT_told_broken, .ref aT_told_kinds, .ref aT_told_targets, .ref aT_told_wakes, .ref aT_told_terms, .ref aT_told_sorts, .ref aT_told_numbers])), (aT_trials, .inr (5, [.ref aT_trials_trials, .int vT_trials_lifted, .ref aT_trials_so, .int vT_trials_people])), (aT_trials_trials, .inr (1, [.ref aT_trials_trials_items, .int vT_trials_trials_size])), (aT_trials_so, .inl (G.2.1, 17, .inl fT_trials_so)), (aT_trials_trials_items, .inl (G.2.1, nT_trials_trials_items, .inl fT_trials_trials_items))] (some (.int r0)) [(aT, .inr (6, [.ref aT_text, .ref aT_told, .ref aT_reader, .ref aT_rules, .ref aT_fromNow, .ref aT_whatIf, .ref aT_trials, .ref aT_undoable, .ref aT_keptStates, .ref aT_keptDeeds, .ref aT_row, .ref aT_princes, .int vT_state, .int vT_deeds])), (aT_told, .inr (4, [.int vT_told_people, .int vT_told_spells, .int vT_told_day, .int vT_told_broken, .ref aT_told_kinds, .ref aT_told_targets, .ref aT_told_wakes, .ref aT_told_terms, .ref aT_told_sorts, .ref aT_told_numbers])), (aT_trials, .inr (5, [.ref aT_trials_trials, .int vT_trials_lifted, .ref aT_trials_so, .int wvT_trials_people])), (aT_trials_trials, .inr (1, [.ref aT_trials_trials_items, .int vT_trials_trials_size])), (aT_trials_so, .inl (G.2.1, 17, .inl wfT_trials_so)), (aT_trials_trials_items, .inl (G.2.1, nT_trials_trials_items, .inl fT_trials_trials_items))] 0 0 := by
  refine RW_of (by decide) (Nat.le_of_ble_eq_true rfl) ?_
  intro p e s m ar below meth c R Q A ls X hR hRc hin hP hKK hD hS hA hAb hl ret
  obtain ⟨rs, hrs⟩ : ∃ q, q = (r0, wvT_trials_people, wfT_trials_so) := ⟨_, rfl⟩
  rw [← hrs] at hev
  have ret2 : ∀ (pc : Nat) (ls : Array Slot) (H : Heap) (lo : List Loc) (v r1 : Int32) (zvT_trials_people : Int32) (zfT_trials_so : Nat → Int32), (r1, zvT_trials_people, zfT_trials_so) = rs → decode cX10_mayBe pc = .ok (.ireturn, 1) → narrow .int (.int v) = .int r1 → va_P G.1 classes [(aT, .inr (6, [.ref aT_text, .ref aT_told, .ref aT_reader, .ref aT_rules, .ref aT_fromNow, .ref aT_whatIf, .ref aT_trials, .ref aT_undoable, .ref aT_keptStates, .ref aT_keptDeeds, .ref aT_row, .ref aT_princes, .int vT_state, .int vT_deeds])), (aT_told, .inr (4, [.int vT_told_people, .int vT_told_spells, .int vT_told_day, .int vT_told_broken, .ref aT_told_kinds, .ref aT_told_targets, .ref aT_told_wakes, .ref aT_told_terms, .ref aT_told_sorts, .ref aT_told_numbers])), (aT_trials, .inr (5, [.ref aT_trials_trials, .int vT_trials_lifted, .ref aT_trials_so, .int zvT_trials_people])), (aT_trials_trials, .inr (1, [.ref aT_trials_trials_items, .int vT_trials_trials_size])), (aT_trials_so, .inl (G.2.1, 17, .inl zfT_trials_so)), (aT_trials_trials_items, .inl (G.2.1, nT_trials_trials_items, .inl fT_trials_trials_items))] H → va_D A [(aT, .inr (6, [.ref aT_text, .ref aT_told, .ref aT_reader, .ref aT_rules, .ref aT_fromNow, .ref aT_whatIf, .ref aT_trials, .ref aT_undoable, .ref aT_keptStates, .ref aT_keptDeeds, .ref aT_row, .ref aT_princes, .int vT_state, .int vT_deeds])), (aT_told, .inr (4, [.int vT_told_people, .int vT_told_spells, .int vT_told_day, .int vT_told_broken, .ref aT_told_kinds, .ref aT_told_targets, .ref aT_told_wakes, .ref aT_told_terms, .ref aT_told_sorts, .ref aT_told_numbers])), (aT_trials, .inr (5, [.ref aT_trials_trials, .int vT_trials_lifted, .ref aT_trials_so, .int zvT_trials_people])), (aT_trials_trials, .inr (1, [.ref aT_trials_trials_items, .int vT_trials_trials_size])), (aT_trials_so, .inl (G.2.1, 17, .inl zfT_trials_so)), (aT_trials_trials_items, .inl (G.2.1, nT_trials_trials_items, .inl fT_trials_trials_items))] → va_S A s.heap H lo → W p l e R s m ar below meth c H lo 0 0 Q (F0 m pc ls [.int v]) := by
    intro pc ls H lo v r1 zvT_trials_people zfT_trials_so he hd hn h1 h2 h3
    have he := he.trans hrs
    cases he
    exact ret.1 _ _ _ _ _ _ _ rfl rfl hd hn h1 h2 h3
  clear ret hrs
  have hl : lv_has ls 4 [(0, .ref aT), (1, .int p1)] := hl
  obtain ⟨hx, hb, hml, hown, hts, hT⟩ := id X
  have hK := hKK.1
  have hw : ∀ w ∈ T0, w.before ar s = true := fun w h => hts w (hT w h)
  have i10 := fun w h => hT w (inT10 w h)
  unfold f_SS_mayBe at hev
  refine lv_iload_n hx hb dX10_mayBe_0 rfl (lv_at hl 1 rfl) ?_
  refine lv_if_lt (tgt := 9) hx hb dX10_mayBe_1 (by decide) (fun c1 => ?_) (fun c1 => ?_)
  · replace hev := x_t c1 hev
    refine lv_bipush (v := (-3 : Int32)) hx hb dX10_mayBe_9 (by decide) ?_
    exact ret2 _ _ _ _ (-3 : Int32) (-3 : Int32) vT_trials_people fT_trials_so (Option.some.inj hev) dX10_mayBe_11 (show narrow _ (.int (-3 : Int32)) = .int (-3 : Int32) from rfl) hP hD hS
  · replace hev := x_f c1 hev
    refine lv_iload_n hx hb dX10_mayBe_4 rfl (lv_at hl 1 rfl) ?_
    refine lv_iconst (v := (4 : Int32)) hx hb dX10_mayBe_5 (by decide) ?_
    refine lv_icmp_le (tgt := 12) hx hb dX10_mayBe_6 (by decide) (fun c2 => ?_) (fun c2 => ?_)
    · replace hev := x_t c2 hev
      refine lv_aload_n hx hb dX10_mayBe_12 rfl (lv_at hl 0 rfl) ?_
      refine va_get (D := G.1) (ci := 6) (v := .ref aT_trials) (C := RX10) (T := TX10) (N := 14) hx hb hts i10 hown hK hP 0 rfl rfl 6 (by decide) (hw _ u423) (fun _ h9 => h9) rfl dX10_mayBe_13 ?_
      refine lv_aload_n hx hb dX10_mayBe_16 rfl (lv_at hl 0 rfl) ?_
      refine va_get (D := G.1) (ci := 6) (v := .ref aT_told) (C := RX10) (T := TX10) (N := 14) hx hb hts i10 hown hK hP 0 rfl rfl 1 (by decide) (hw _ u418) (fun _ h9 => h9) rfl dX10_mayBe_17 ?_
      obtain ⟨y3, hq, hev⟩ := x_bd hev
      refine roV X (KK_at hKK hS hAb) hR (st1 := [.int y3, .ref aT_trials]) (c_To_people l G aT_told aT_told_kinds aT_told_targets aT_told_wakes aT_told_terms aT_told_sorts aT_told_numbers vT_told_people vT_told_spells vT_told_day vT_told_broken y3 hq) K_X8_people u1010 (x_Psub hP [1] rfl) rfl (q0 := 0) rfl (by decide) ⟨Nat.zero_le _, Nat.zero_le _⟩ rfl hl.1 rfl (Nat.le_of_ble_eq_true rfl) rfl dX10_mayBe_20 ?_
      obtain ⟨⟨w4, w5⟩, hq, hev⟩ := x_bd hev
      refine rgV X (KK_at hKK hS hAb) hR (st1 := []) (ws2 := [(aT, .inr (6, [.ref aT_text, .ref aT_told, .ref aT_reader, .ref aT_rules, .ref aT_fromNow, .ref aT_whatIf, .ref aT_trials, .ref aT_undoable, .ref aT_keptStates, .ref aT_keptDeeds, .ref aT_row, .ref aT_princes, .int vT_state, .int vT_deeds])), (aT_told, .inr (4, [.int vT_told_people, .int vT_told_spells, .int vT_told_day, .int vT_told_broken, .ref aT_told_kinds, .ref aT_told_targets, .ref aT_told_wakes, .ref aT_told_terms, .ref aT_told_sorts, .ref aT_told_numbers])), (aT_trials, .inr (5, [.ref aT_trials_trials, .int vT_trials_lifted, .ref aT_trials_so, .int w4])), (aT_trials_trials, .inr (1, [.ref aT_trials_trials_items, .int vT_trials_trials_size])), (aT_trials_so, .inl (G.2.1, 17, .inl w5)), (aT_trials_trials_items, .inl (G.2.1, nT_trials_trials_items, .inl fT_trials_trials_items))]) (c_Tr_weigh l G aT_trials aT_trials_trials aT_trials_so aT_trials_trials_items vT_trials_lifted vT_trials_people vT_trials_trials_size fT_trials_so fT_trials_trials_items nT_trials_trials_items k y3 w4 w5 hq) K_X9_weigh u1011 hP hD hS hA hAb [2, 3, 4, 5] rfl (sbC rfl (sbC rfl (sbC rfl (sbC rfl sb0)))) (mgK (by decide) (mgK (by decide) (mgN 0 rfl rfl (mgN 1 rfl rfl (mgN 2 rfl rfl (mgN 3 rfl rfl (mg0))))))) rfl (q0 := 0) rfl (by decide) ⟨Nat.zero_le _, Nat.zero_le _⟩ rfl hl.1 rfl (Nat.le_of_ble_eq_true rfl) rfl dX10_mayBe_23 (fun H lo hP hD hS => ?_)
      refine lv_iload_n hx hb dX10_mayBe_26 rfl (lv_at hl 1 rfl) ?_
      refine lv_if_ne (tgt := 38) hx hb dX10_mayBe_27 (by decide) (fun c6 => ?_) (fun c6 => ?_)
      · replace hev := x_f c6 hev
        refine lv_aload_n hx hb dX10_mayBe_38 rfl (lv_at hl 0 rfl) ?_
        refine va_get (D := G.1) (ci := 6) (v := .ref aT_trials) (C := RX10) (T := TX10) (N := 14) hx hb hts i10 hown hK hP 0 rfl rfl 6 (by decide) (hw _ u423) (fun _ h9 => h9) rfl dX10_mayBe_39 ?_
        obtain ⟨y7, hq, hev⟩ := x_bd hev
        refine roV X (KK_at hKK hS hAb) hR (st1 := [.int y7]) (c_Tr_firstTerm l G aT_trials aT_trials_trials aT_trials_so vT_trials_lifted w4 w5 k y7 hq) K_X9_firstTerm u1042 (x_Psub hP [2, 4] rfl) rfl (q0 := 0) rfl (by decide) ⟨Nat.zero_le _, Nat.zero_le _⟩ rfl hl.1 rfl (Nat.le_of_ble_eq_true rfl) rfl dX10_mayBe_42 ?_
        refine lv_istore_n (lv' := [(2, .int y7), (0, .ref aT), (1, .int p1)]) hx hb dX10_mayBe_45 rfl hl (by decide) rfl (fun ls hl => ?_)
        refine lv_iload_n hx hb dX10_mayBe_46 rfl (lv_at hl 0 rfl) ?_
        refine lv_iconst (v := (-1 : Int32)) hx hb dX10_mayBe_47 (by decide) ?_
        refine lv_icmp_ne (tgt := 54) hx hb dX10_mayBe_48 (by decide) (fun c8 => ?_) (fun c8 => ?_)
        · replace hev := x_f c8 hev
          refine lv_aload_n hx hb dX10_mayBe_54 rfl (lv_at hl 1 rfl) ?_
          refine va_get (D := G.1) (ci := 6) (v := .ref aT_trials) (C := RX10) (T := TX10) (N := 14) hx hb hts i10 hown hK hP 0 rfl rfl 6 (by decide) (hw _ u423) (fun _ h9 => h9) rfl dX10_mayBe_55 ?_
          refine lv_iload_n hx hb dX10_mayBe_58 rfl (lv_at hl 0 rfl) ?_
          obtain ⟨y9, hq, hev⟩ := x_bd hev
          refine roV X (KK_at hKK hS hAb) hR (st1 := [.int y9]) (c_Tr_secondTerm l G aT_trials aT_trials_trials aT_trials_so vT_trials_lifted w4 w5 k y7 y9 hq) K_X9_secondTerm u1050 (x_Psub hP [2, 4] rfl) rfl (q0 := 0) rfl (by decide) ⟨Nat.zero_le _, Nat.zero_le _⟩ rfl hl.1 rfl (Nat.le_of_ble_eq_true rfl) rfl dX10_mayBe_59 ?_
          refine lv_istore_n (lv' := [(3, .int y9), (2, .int y7), (0, .ref aT), (1, .int p1)]) hx hb dX10_mayBe_62 rfl hl (by decide) rfl (fun ls hl => ?_)
          refine lv_iload_n hx hb dX10_mayBe_63 rfl (lv_at hl 3 rfl) ?_
          by_cases c10 : p1 = (1 : Int32)
          · replace hev := x_t c10 hev
            refine lv_tableIn (tgt := 92) hx hb dX10_mayBe_64 (by rw [c10]; decide) (by rw [c10]; decide) (by rw [c10]; rfl) (by decide) ?_
            refine lv_aload_n hx hb dX10_mayBe_92 rfl (lv_at hl 2 rfl) ?_
            refine va_get (D := G.1) (ci := 6) (v := .ref aT_trials) (C := RX10) (T := TX10) (N := 14) hx hb hts i10 hown hK hP 0 rfl rfl 6 (by decide) (hw _ u423) (fun _ h9 => h9) rfl dX10_mayBe_93 ?_
            refine lv_iload_n hx hb dX10_mayBe_96 rfl (lv_at hl 1 rfl) ?_
            obtain ⟨y11, hq, hev⟩ := x_bd hev
            refine roV X (KK_at hKK hS hAb) hR (st1 := [.int y11]) (c_Tr_sortOf l G aT_trials aT_trials_trials aT_trials_so vT_trials_lifted w4 y7 y11 hq) K_X9_sortOf u1054 (x_Psub hP [2] rfl) rfl (q0 := 0) rfl (by decide) ⟨Nat.zero_le _, Nat.zero_le _⟩ rfl hl.1 rfl (Nat.le_of_ble_eq_true rfl) rfl dX10_mayBe_97 ?_
            exact ret2 _ _ _ _ y11 y11 w4 w5 (Option.some.inj hev) dX10_mayBe_100 (show narrow _ (.int y11) = .int y11 from rfl) hP hD hS
          replace hev := x_f c10 hev
          by_cases c12 : p1 = (2 : Int32)
          · replace hev := x_t c12 hev
            refine lv_tableIn (tgt := 101) hx hb dX10_mayBe_64 (by rw [c12]; decide) (by rw [c12]; decide) (by rw [c12]; rfl) (by decide) ?_
            refine lv_aload_n hx hb dX10_mayBe_101 rfl (lv_at hl 2 rfl) ?_
            refine va_get (D := G.1) (ci := 6) (v := .ref aT_trials) (C := RX10) (T := TX10) (N := 14) hx hb hts i10 hown hK hP 0 rfl rfl 6 (by decide) (hw _ u423) (fun _ h9 => h9) rfl dX10_mayBe_102 ?_
            refine lv_iload_n hx hb dX10_mayBe_105 rfl (lv_at hl 1 rfl) ?_
            obtain ⟨y13, hq, hev⟩ := x_bd hev
            refine roV X (KK_at hKK hS hAb) hR (st1 := [.int y13]) (c_Tr_numberOf l G aT_trials aT_trials_trials aT_trials_so vT_trials_lifted w4 y7 y13 hq) K_X9_numberOf u1055 (x_Psub hP [2] rfl) rfl (q0 := 0) rfl (by decide) ⟨Nat.zero_le _, Nat.zero_le _⟩ rfl hl.1 rfl (Nat.le_of_ble_eq_true rfl) rfl dX10_mayBe_106 ?_
            exact ret2 _ _ _ _ y13 y13 w4 w5 (Option.some.inj hev) dX10_mayBe_109 (show narrow _ (.int y13) = .int y13 from rfl) hP hD hS
          replace hev := x_f c12 hev
          by_cases c14 : p1 = (3 : Int32)
          · replace hev := x_t c14 hev
            refine lv_tableIn (tgt := 110) hx hb dX10_mayBe_64 (by rw [c14]; decide) (by rw [c14]; decide) (by rw [c14]; rfl) (by decide) ?_
            refine lv_iload_n hx hb dX10_mayBe_110 rfl (lv_at hl 0 rfl) ?_
            refine lv_iconst (v := (-1 : Int32)) hx hb dX10_mayBe_111 (by decide) ?_
            refine lv_icmp_ne (tgt := 119) hx hb dX10_mayBe_112 (by decide) (fun c15 => ?_) (fun c15 => ?_)
            · replace hev := x_f c15 hev
              refine lv_aload_n hx hb dX10_mayBe_119 rfl (lv_at hl 2 rfl) ?_
              refine va_get (D := G.1) (ci := 6) (v := .ref aT_trials) (C := RX10) (T := TX10) (N := 14) hx hb hts i10 hown hK hP 0 rfl rfl 6 (by decide) (hw _ u423) (fun _ h9 => h9) rfl dX10_mayBe_120 ?_
              refine lv_iload_n hx hb dX10_mayBe_123 rfl (lv_at hl 0 rfl) ?_
              obtain ⟨y16, hq, hev⟩ := x_bd hev
              refine roV X (KK_at hKK hS hAb) hR (st1 := [.int y16]) (c_Tr_sortOf l G aT_trials aT_trials_trials aT_trials_so vT_trials_lifted w4 y9 y16 hq) K_X9_sortOf u1054 (x_Psub hP [2] rfl) rfl (q0 := 0) rfl (by decide) ⟨Nat.zero_le _, Nat.zero_le _⟩ rfl hl.1 rfl (Nat.le_of_ble_eq_true rfl) rfl dX10_mayBe_124 ?_
              exact ret2 _ _ _ _ y16 y16 w4 w5 (Option.some.inj hev) dX10_mayBe_127 (show narrow _ (.int y16) = .int y16 from rfl) hP hD hS
            · replace hev := x_t c15 hev
              refine lv_iconst (v := (-1 : Int32)) hx hb dX10_mayBe_115 (by decide) ?_
              refine lv_goto (tgt := 127) hx hb dX10_mayBe_116 (by decide) ?_
              exact ret2 _ _ _ _ (-1 : Int32) (-1 : Int32) w4 w5 (Option.some.inj hev) dX10_mayBe_127 (show narrow _ (.int (-1 : Int32)) = .int (-1 : Int32) from rfl) hP hD hS
          replace hev := x_f c14 hev
          refine lv_tableOut (tgt := 128) hx hb dX10_mayBe_64 (by have q0 : p1.toInt ≠ 1 := x_ne c10; have q1 : p1.toInt ≠ 2 := x_ne c12; have q2 : p1.toInt ≠ 3 := x_ne c14; omega) (by decide) ?_
          refine lv_iload_n hx hb dX10_mayBe_128 rfl (lv_at hl 0 rfl) ?_
          refine lv_iconst (v := (-1 : Int32)) hx hb dX10_mayBe_129 (by decide) ?_
          refine lv_icmp_ne (tgt := 137) hx hb dX10_mayBe_130 (by decide) (fun c17 => ?_) (fun c17 => ?_)
          · replace hev := x_f c17 hev
            refine lv_aload_n hx hb dX10_mayBe_137 rfl (lv_at hl 2 rfl) ?_
            refine va_get (D := G.1) (ci := 6) (v := .ref aT_trials) (C := RX10) (T := TX10) (N := 14) hx hb hts i10 hown hK hP 0 rfl rfl 6 (by decide) (hw _ u423) (fun _ h9 => h9) rfl dX10_mayBe_138 ?_
            refine lv_iload_n hx hb dX10_mayBe_141 rfl (lv_at hl 0 rfl) ?_
            obtain ⟨y18, hq, hev⟩ := x_bd hev
            refine roV X (KK_at hKK hS hAb) hR (st1 := [.int y18]) (c_Tr_numberOf l G aT_trials aT_trials_trials aT_trials_so vT_trials_lifted w4 y9 y18 hq) K_X9_numberOf u1055 (x_Psub hP [2] rfl) rfl (q0 := 0) rfl (by decide) ⟨Nat.zero_le _, Nat.zero_le _⟩ rfl hl.1 rfl (Nat.le_of_ble_eq_true rfl) rfl dX10_mayBe_142 ?_
            exact ret2 _ _ _ _ y18 y18 w4 w5 (Option.some.inj hev) dX10_mayBe_145 (show narrow _ (.int y18) = .int y18 from rfl) hP hD hS
          · replace hev := x_t c17 hev
            refine lv_iconst (v := (-1 : Int32)) hx hb dX10_mayBe_133 (by decide) ?_
            refine lv_goto (tgt := 145) hx hb dX10_mayBe_134 (by decide) ?_
            exact ret2 _ _ _ _ (-1 : Int32) (-1 : Int32) w4 w5 (Option.some.inj hev) dX10_mayBe_145 (show narrow _ (.int (-1 : Int32)) = .int (-1 : Int32) from rfl) hP hD hS
        · replace hev := x_t c8 hev
          refine lv_bipush (v := (-4 : Int32)) hx hb dX10_mayBe_51 (by decide) ?_
          exact ret2 _ _ _ _ (-4 : Int32) (-4 : Int32) w4 w5 (Option.some.inj hev) dX10_mayBe_53 (show narrow _ (.int (-4 : Int32)) = .int (-4 : Int32) from rfl) hP hD hS
      · replace hev := x_t c6 hev
        refine lv_aload_n hx hb dX10_mayBe_30 rfl (lv_at hl 0 rfl) ?_
        refine va_get (D := G.1) (ci := 6) (v := .ref aT_trials) (C := RX10) (T := TX10) (N := 14) hx hb hts i10 hown hK hP 0 rfl rfl 6 (by decide) (hw _ u423) (fun _ h9 => h9) rfl dX10_mayBe_31 ?_
        obtain ⟨y19, hq, hev⟩ := x_bd hev
        refine roV X (KK_at hKK hS hAb) hR (st1 := [.int y19]) (c_Tr_howMany l G aT_trials aT_trials_trials aT_trials_so vT_trials_lifted w4 w5 k y19 hq) K_X9_howMany u1034 (x_Psub hP [2, 4] rfl) rfl (q0 := 0) rfl (by decide) ⟨Nat.zero_le _, Nat.zero_le _⟩ rfl hl.1 rfl (Nat.le_of_ble_eq_true rfl) rfl dX10_mayBe_34 ?_
        exact ret2 _ _ _ _ y19 y19 w4 w5 (Option.some.inj hev) dX10_mayBe_37 (show narrow _ (.int y19) = .int y19 from rfl) hP hD hS
    · replace hev := x_f c2 hev
      refine lv_bipush (v := (-3 : Int32)) hx hb dX10_mayBe_9 (by decide) ?_
      exact ret2 _ _ _ _ (-3 : Int32) (-3 : Int32) vT_trials_people fT_trials_so (Option.some.inj hev) dX10_mayBe_11 (show narrow _ (.int (-3 : Int32)) = .int (-3 : Int32) from rfl) hP hD hS
def f_SS_next (k : Nat) (nT_trials_trials_items : Nat) (vT_told_people : Int32) (vT_trials_lifted : Int32) (vT_trials_people : Int32) (vT_trials_trials_size : Int32) (fT_trials_so : Nat → Int32) (fT_trials_trials_items : Nat → Int32) : Option (Int32 × Int32 × (Nat → Int32)) := x_B (f_To_people vT_told_people) (fun y1 => x_B (f_Tr_weigh k nT_trials_trials_items vT_trials_people vT_trials_trials_size fT_trials_so fT_trials_trials_items y1) (fun ⟨w2, w3⟩ => x_B (f_Tr_bestDay k vT_trials_lifted w2 w3) (fun y4 => some (y4, w2, w3))))
set_option maxHeartbeats 8000000 in
set_option maxRecDepth 100000 in
theorem c_SS_next (l : Launch) (G : GG) (aT aT_text aT_told aT_reader aT_rules aT_fromNow aT_whatIf aT_trials aT_undoable aT_keptStates aT_keptDeeds aT_row aT_princes aT_told_kinds aT_told_targets aT_told_wakes aT_told_terms aT_told_sorts aT_told_numbers aT_trials_trials aT_trials_so aT_trials_trials_items : Nat) (vT_state : Int32) (vT_deeds : Int32) (vT_told_people : Int32) (vT_told_spells : Int32) (vT_told_day : Int32) (vT_told_broken : Int32) (vT_trials_lifted : Int32) (vT_trials_people : Int32) (vT_trials_trials_size : Int32) (fT_trials_so : Nat → Int32) (fT_trials_trials_items : Nat → Int32) (nT_trials_trials_items : Nat) (k : Nat) (r0 : Int32) (wvT_trials_people : Int32) (wfT_trials_so : Nat → Int32) (hev : f_SS_next k nT_trials_trials_items vT_told_people vT_trials_lifted vT_trials_people vT_trials_trials_size fT_trials_so fT_trials_trials_items = some (r0, wvT_trials_people, wfT_trials_so)) : RW l G yX10_next cX10_next 1 (some .int) 5 [.ref aT] [(aT, .inr (6, [.ref aT_text, .ref aT_told, .ref aT_reader, .ref aT_rules, .ref aT_fromNow, .ref aT_whatIf, .ref aT_trials, .ref aT_undoable, .ref aT_keptStates, .ref aT_keptDeeds, .ref aT_row, .ref aT_princes, .int vT_state, .int vT_deeds])), (aT_told, .inr (4, [.int vT_told_people, .int vT_told_spells, .int vT_told_day, .int vT_told_broken, .ref aT_told_kinds, .ref aT_told_targets, .ref aT_told_wakes, .ref aT_told_terms, .ref aT_told_sorts, .ref aT_told_numbers])), (aT_trials, .inr (5, [.ref aT_trials_trials, .int vT_trials_lifted, .ref aT_trials_so, .int vT_trials_people])), (aT_trials_trials, .inr (1, [.ref aT_trials_trials_items, .int vT_trials_trials_size])), (aT_trials_so, .inl (G.2.1, 17, .inl fT_trials_so)), (aT_trials_trials_items, .inl (G.2.1, nT_trials_trials_items, .inl fT_trials_trials_items))] (some (.int r0)) [(aT, .inr (6, [.ref aT_text, .ref aT_told, .ref aT_reader, .ref aT_rules, .ref aT_fromNow, .ref aT_whatIf, .ref aT_trials, .ref aT_undoable, .ref aT_keptStates, .ref aT_keptDeeds, .ref aT_row, .ref aT_princes, .int vT_state, .int vT_deeds])), (aT_told, .inr (4, [.int vT_told_people, .int vT_told_spells, .int vT_told_day, .int vT_told_broken, .ref aT_told_kinds, .ref aT_told_targets, .ref aT_told_wakes, .ref aT_told_terms, .ref aT_told_sorts, .ref aT_told_numbers])), (aT_trials, .inr (5, [.ref aT_trials_trials, .int vT_trials_lifted, .ref aT_trials_so, .int wvT_trials_people])), (aT_trials_trials, .inr (1, [.ref aT_trials_trials_items, .int vT_trials_trials_size])), (aT_trials_so, .inl (G.2.1, 17, .inl wfT_trials_so)), (aT_trials_trials_items, .inl (G.2.1, nT_trials_trials_items, .inl fT_trials_trials_items))] 0 0 := by
  refine RW_of (by decide) (Nat.le_of_ble_eq_true rfl) ?_
  intro p e s m ar below meth c R Q A ls X hR hRc hin hP hKK hD hS hA hAb hl ret
  obtain ⟨rs, hrs⟩ : ∃ q, q = (r0, wvT_trials_people, wfT_trials_so) := ⟨_, rfl⟩
  rw [← hrs] at hev
  have ret2 : ∀ (pc : Nat) (ls : Array Slot) (H : Heap) (lo : List Loc) (v r1 : Int32) (zvT_trials_people : Int32) (zfT_trials_so : Nat → Int32), (r1, zvT_trials_people, zfT_trials_so) = rs → decode cX10_next pc = .ok (.ireturn, 1) → narrow .int (.int v) = .int r1 → va_P G.1 classes [(aT, .inr (6, [.ref aT_text, .ref aT_told, .ref aT_reader, .ref aT_rules, .ref aT_fromNow, .ref aT_whatIf, .ref aT_trials, .ref aT_undoable, .ref aT_keptStates, .ref aT_keptDeeds, .ref aT_row, .ref aT_princes, .int vT_state, .int vT_deeds])), (aT_told, .inr (4, [.int vT_told_people, .int vT_told_spells, .int vT_told_day, .int vT_told_broken, .ref aT_told_kinds, .ref aT_told_targets, .ref aT_told_wakes, .ref aT_told_terms, .ref aT_told_sorts, .ref aT_told_numbers])), (aT_trials, .inr (5, [.ref aT_trials_trials, .int vT_trials_lifted, .ref aT_trials_so, .int zvT_trials_people])), (aT_trials_trials, .inr (1, [.ref aT_trials_trials_items, .int vT_trials_trials_size])), (aT_trials_so, .inl (G.2.1, 17, .inl zfT_trials_so)), (aT_trials_trials_items, .inl (G.2.1, nT_trials_trials_items, .inl fT_trials_trials_items))] H → va_D A [(aT, .inr (6, [.ref aT_text, .ref aT_told, .ref aT_reader, .ref aT_rules, .ref aT_fromNow, .ref aT_whatIf, .ref aT_trials, .ref aT_undoable, .ref aT_keptStates, .ref aT_keptDeeds, .ref aT_row, .ref aT_princes, .int vT_state, .int vT_deeds])), (aT_told, .inr (4, [.int vT_told_people, .int vT_told_spells, .int vT_told_day, .int vT_told_broken, .ref aT_told_kinds, .ref aT_told_targets, .ref aT_told_wakes, .ref aT_told_terms, .ref aT_told_sorts, .ref aT_told_numbers])), (aT_trials, .inr (5, [.ref aT_trials_trials, .int vT_trials_lifted, .ref aT_trials_so, .int zvT_trials_people])), (aT_trials_trials, .inr (1, [.ref aT_trials_trials_items, .int vT_trials_trials_size])), (aT_trials_so, .inl (G.2.1, 17, .inl zfT_trials_so)), (aT_trials_trials_items, .inl (G.2.1, nT_trials_trials_items, .inl fT_trials_trials_items))] → va_S A s.heap H lo → W p l e R s m ar below meth c H lo 0 0 Q (F0 m pc ls [.int v]) := by
    intro pc ls H lo v r1 zvT_trials_people zfT_trials_so he hd hn h1 h2 h3
    have he := he.trans hrs
    cases he
    exact ret.1 _ _ _ _ _ _ _ rfl rfl hd hn h1 h2 h3
  clear ret hrs
  have hl : lv_has ls 1 [(0, .ref aT)] := hl
  obtain ⟨hx, hb, hml, hown, hts, hT⟩ := id X
  have hK := hKK.1
  have hw : ∀ w ∈ T0, w.before ar s = true := fun w h => hts w (hT w h)
  have i10 := fun w h => hT w (inT10 w h)
  unfold f_SS_next at hev
  refine lv_aload_n hx hb dX10_next_0 rfl (lv_at hl 0 rfl) ?_
  refine va_get (D := G.1) (ci := 6) (v := .ref aT_trials) (C := RX10) (T := TX10) (N := 14) hx hb hts i10 hown hK hP 0 rfl rfl 6 (by decide) (hw _ u423) (fun _ h9 => h9) rfl dX10_next_1 ?_
  refine lv_aload_n hx hb dX10_next_4 rfl (lv_at hl 0 rfl) ?_
  refine va_get (D := G.1) (ci := 6) (v := .ref aT_told) (C := RX10) (T := TX10) (N := 14) hx hb hts i10 hown hK hP 0 rfl rfl 1 (by decide) (hw _ u418) (fun _ h9 => h9) rfl dX10_next_5 ?_
  obtain ⟨y1, hq, hev⟩ := x_bd hev
  refine roV X (KK_at hKK hS hAb) hR (st1 := [.int y1, .ref aT_trials]) (c_To_people l G aT_told aT_told_kinds aT_told_targets aT_told_wakes aT_told_terms aT_told_sorts aT_told_numbers vT_told_people vT_told_spells vT_told_day vT_told_broken y1 hq) K_X8_people u1010 (x_Psub hP [1] rfl) rfl (q0 := 0) rfl (by decide) ⟨Nat.zero_le _, Nat.zero_le _⟩ rfl hl.1 rfl (Nat.le_of_ble_eq_true rfl) rfl dX10_next_8 ?_
  obtain ⟨⟨w2, w3⟩, hq, hev⟩ := x_bd hev
  refine rgV X (KK_at hKK hS hAb) hR (st1 := []) (ws2 := [(aT, .inr (6, [.ref aT_text, .ref aT_told, .ref aT_reader, .ref aT_rules, .ref aT_fromNow, .ref aT_whatIf, .ref aT_trials, .ref aT_undoable, .ref aT_keptStates, .ref aT_keptDeeds, .ref aT_row, .ref aT_princes, .int vT_state, .int vT_deeds])), (aT_told, .inr (4, [.int vT_told_people, .int vT_told_spells, .int vT_told_day, .int vT_told_broken, .ref aT_told_kinds, .ref aT_told_targets, .ref aT_told_wakes, .ref aT_told_terms, .ref aT_told_sorts, .ref aT_told_numbers])), (aT_trials, .inr (5, [.ref aT_trials_trials, .int vT_trials_lifted, .ref aT_trials_so, .int w2])), (aT_trials_trials, .inr (1, [.ref aT_trials_trials_items, .int vT_trials_trials_size])), (aT_trials_so, .inl (G.2.1, 17, .inl w3)), (aT_trials_trials_items, .inl (G.2.1, nT_trials_trials_items, .inl fT_trials_trials_items))]) (c_Tr_weigh l G aT_trials aT_trials_trials aT_trials_so aT_trials_trials_items vT_trials_lifted vT_trials_people vT_trials_trials_size fT_trials_so fT_trials_trials_items nT_trials_trials_items k y1 w2 w3 hq) K_X9_weigh u1011 hP hD hS hA hAb [2, 3, 4, 5] rfl (sbC rfl (sbC rfl (sbC rfl (sbC rfl sb0)))) (mgK (by decide) (mgK (by decide) (mgN 0 rfl rfl (mgN 1 rfl rfl (mgN 2 rfl rfl (mgN 3 rfl rfl (mg0))))))) rfl (q0 := 0) rfl (by decide) ⟨Nat.zero_le _, Nat.zero_le _⟩ rfl hl.1 rfl (Nat.le_of_ble_eq_true rfl) rfl dX10_next_11 (fun H lo hP hD hS => ?_)
  refine lv_aload_n hx hb dX10_next_14 rfl (lv_at hl 0 rfl) ?_
  refine va_get (D := G.1) (ci := 6) (v := .ref aT_trials) (C := RX10) (T := TX10) (N := 14) hx hb hts i10 hown hK hP 0 rfl rfl 6 (by decide) (hw _ u423) (fun _ h9 => h9) rfl dX10_next_15 ?_
  obtain ⟨y4, hq, hev⟩ := x_bd hev
  refine roV X (KK_at hKK hS hAb) hR (st1 := [.int y4]) (c_Tr_bestDay l G aT_trials aT_trials_trials aT_trials_so vT_trials_lifted w2 w3 k y4 hq) K_X9_bestDay u1060 (x_Psub hP [2, 4] rfl) rfl (q0 := 0) rfl (by decide) ⟨Nat.zero_le _, Nat.zero_le _⟩ rfl hl.1 rfl (Nat.le_of_ble_eq_true rfl) rfl dX10_next_18 ?_
  exact ret2 _ _ _ _ y4 y4 w2 w3 (Option.some.inj hev) dX10_next_21 (show narrow _ (.int y4) = .int y4 from rfl) hP hD hS
