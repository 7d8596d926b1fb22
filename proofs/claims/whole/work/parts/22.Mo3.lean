def f_Mo_tell_L108 (vT_many : Int32) (vT_people : Int32) (vT_toldBroken : Int32) (vT_toldDay : Int32) (fT_read : Nat → Int32) (x1 : Int32) : Nat → Int32 → (Nat → Int32) → Option ((Nat → Int32))
  | 0, _, _ => none
  | k + 1, x3, fT_spells => if (10 : Int32) ≤ x3 then (some fT_spells) else x_L ((x1 + x3)) (fun y2 => x_I 120 fT_read y2 (fun v4 => x_C 50 (((10 : Int32) * vT_many) + x3) (x_L (x3 + (1 : Int32)) (fun y6 => (f_Mo_tell_L108 vT_many vT_people vT_toldBroken vT_toldDay fT_read x1 k) y6 (upd fT_spells ((((10 : Int32) * vT_many) + x3)).toNatClampNeg v4)))))
def f_Mo_tell_J106 (k : Nat) (vT_many : Int32) (vT_people : Int32) (vT_toldBroken : Int32) (vT_toldDay : Int32) (fT_read : Nat → Int32) (fT_spells : Nat → Int32) (x1 : Int32) : Option (Int32 × Int32 × Int32 × Int32 × (Nat → Int32)) := x_B (f_Mo_tell_L108 vT_many vT_people vT_toldBroken vT_toldDay fT_read x1 k (0 : Int32) fT_spells) (fun w7 => x_I 120 fT_read x1 (fun v9 => x_L ((v9 - (1 : Int32))) (fun y10 => x_C 50 ((10 : Int32) * vT_many) (x_L ((vT_many + (1 : Int32))) (fun y12 => some (y12, vT_people, vT_toldBroken, vT_toldDay, (upd w7 (((10 : Int32) * vT_many)).toNatClampNeg y10)))))))
def f_Mo_tell (k : Nat) (vT_many : Int32) (vT_people : Int32) (vT_toldBroken : Int32) (vT_toldDay : Int32) (fT_read : Nat → Int32) (fT_spells : Nat → Int32) (p1 : Int32) : Option (Int32 × Int32 × Int32 × Int32 × (Nat → Int32)) := x_L ((p1 + (1 : Int32))) (fun y13 => x_I 120 fT_read y13 (fun v15 => x_I 120 fT_read p1 (fun v17 => if v17 = (0 : Int32) then (some ((0 : Int32), v15, (0 : Int32), (0 : Int32), fT_spells)) else if v17 = (1 : Int32) then (f_Mo_tell_J106 k vT_many vT_people vT_toldBroken vT_toldDay fT_read fT_spells p1) else if v17 = (2 : Int32) then (f_Mo_tell_J106 k vT_many vT_people vT_toldBroken vT_toldDay fT_read fT_spells p1) else if v17 = (3 : Int32) then (f_Mo_tell_J106 k vT_many vT_people vT_toldBroken vT_toldDay fT_read fT_spells p1) else if v17 = (4 : Int32) then (f_Mo_tell_J106 k vT_many vT_people vT_toldBroken vT_toldDay fT_read fT_spells p1) else if v17 = (5 : Int32) then (some (vT_many, vT_people, vT_toldBroken, v15, fT_spells)) else if v17 = (6 : Int32) then (x_L ((vT_toldBroken ||| ((1 : Int32) <<< (v15 &&& 31)))) (fun y25 => some (vT_many, vT_people, y25, vT_toldDay, fT_spells))) else if v17 = (7 : Int32) then (some ((0 : Int32), vT_people, vT_toldBroken, vT_toldDay, fT_spells)) else f_Mo_tell_J106 k vT_many vT_people vT_toldBroken vT_toldDay fT_read fT_spells p1)))
set_option maxHeartbeats 8000000 in
set_option maxRecDepth 100000 in
theorem c_Mo_tell (l : Launch) (G : GG) (aT aT_text aT_read aT_spells aT_pasts aT_keptStates aT_keptDeeds aT_isKept aT_fars aT_queue aT_later aT_onWay aT_row aT_princes aT_tries : Nat) (vT_length : Int32) (vT_readMany : Int32) (vT_people : Int32) (vT_toldDay : Int32) (vT_toldBroken : Int32) (vT_many : Int32) (vT_now : Int32) (vT_deeds : Int32) (vT_pastMany : Int32) (vT_at : Int32) (vT_place : Int32) (vT_end : Int32) (vT_readPeople : Int32) (vT_readSpells : Int32) (vT_lifted : Int32) (vT_queued : Int32) (vT_laterMany : Int32) (vT_rowMany : Int32) (vT_princeMany : Int32) (vT_triedMany : Int32) (fT_read : Nat → Int32) (fT_spells : Nat → Int32) (k : Nat) (p1 : Int32) (wvT_many : Int32) (wvT_people : Int32) (wvT_toldBroken : Int32) (wvT_toldDay : Int32) (wfT_spells : Nat → Int32) (hev : f_Mo_tell k vT_many vT_people vT_toldBroken vT_toldDay fT_read fT_spells p1 = some (wvT_many, wvT_people, wvT_toldBroken, wvT_toldDay, wfT_spells)) : RW l G yX11_tell cX11_tell 4 none 0 [.ref aT, .int p1] [(aT, .inr (7, [.ref aT_text, .int vT_length, .ref aT_read, .int vT_readMany, .int vT_people, .int vT_toldDay, .int vT_toldBroken, .ref aT_spells, .int vT_many, .int vT_now, .int vT_deeds, .ref aT_pasts, .int vT_pastMany, .ref aT_keptStates, .ref aT_keptDeeds, .ref aT_isKept, .int vT_at, .int vT_place, .int vT_end, .int vT_readPeople, .int vT_readSpells, .int vT_lifted, .ref aT_fars, .ref aT_queue, .int vT_queued, .ref aT_later, .int vT_laterMany, .ref aT_onWay, .ref aT_row, .int vT_rowMany, .ref aT_princes, .int vT_princeMany, .ref aT_tries, .int vT_triedMany])), (aT_read, .inl (G.2.1, 120, .inl fT_read)), (aT_spells, .inl (G.2.1, 50, .inl fT_spells))] none [(aT, .inr (7, [.ref aT_text, .int vT_length, .ref aT_read, .int vT_readMany, .int wvT_people, .int wvT_toldDay, .int wvT_toldBroken, .ref aT_spells, .int wvT_many, .int vT_now, .int vT_deeds, .ref aT_pasts, .int vT_pastMany, .ref aT_keptStates, .ref aT_keptDeeds, .ref aT_isKept, .int vT_at, .int vT_place, .int vT_end, .int vT_readPeople, .int vT_readSpells, .int vT_lifted, .ref aT_fars, .ref aT_queue, .int vT_queued, .ref aT_later, .int vT_laterMany, .ref aT_onWay, .ref aT_row, .int vT_rowMany, .ref aT_princes, .int vT_princeMany, .ref aT_tries, .int vT_triedMany])), (aT_read, .inl (G.2.1, 120, .inl fT_read)), (aT_spells, .inl (G.2.1, 50, .inl wfT_spells))] 0 0 := by
  refine RW_of (by decide) (Nat.le_of_ble_eq_true rfl) ?_
  intro p e s m ar below meth c R Q A ls X hR hRc hin hP hKK hD hS hA hAb hl ret
  obtain ⟨rs, hrs⟩ : ∃ q, q = (wvT_many, wvT_people, wvT_toldBroken, wvT_toldDay, wfT_spells) := ⟨_, rfl⟩
  rw [← hrs] at hev
  have ret2 : ∀ (pc : Nat) (ls : Array Slot) (H : Heap) (lo : List Loc) (zvT_many : Int32) (zvT_people : Int32) (zvT_toldBroken : Int32) (zvT_toldDay : Int32) (zfT_spells : Nat → Int32), (zvT_many, zvT_people, zvT_toldBroken, zvT_toldDay, zfT_spells) = rs → decode cX11_tell pc = .ok (.return_, 1) → va_P G.1 classes [(aT, .inr (7, [.ref aT_text, .int vT_length, .ref aT_read, .int vT_readMany, .int zvT_people, .int zvT_toldDay, .int zvT_toldBroken, .ref aT_spells, .int zvT_many, .int vT_now, .int vT_deeds, .ref aT_pasts, .int vT_pastMany, .ref aT_keptStates, .ref aT_keptDeeds, .ref aT_isKept, .int vT_at, .int vT_place, .int vT_end, .int vT_readPeople, .int vT_readSpells, .int vT_lifted, .ref aT_fars, .ref aT_queue, .int vT_queued, .ref aT_later, .int vT_laterMany, .ref aT_onWay, .ref aT_row, .int vT_rowMany, .ref aT_princes, .int vT_princeMany, .ref aT_tries, .int vT_triedMany])), (aT_read, .inl (G.2.1, 120, .inl fT_read)), (aT_spells, .inl (G.2.1, 50, .inl zfT_spells))] H → va_D A [(aT, .inr (7, [.ref aT_text, .int vT_length, .ref aT_read, .int vT_readMany, .int zvT_people, .int zvT_toldDay, .int zvT_toldBroken, .ref aT_spells, .int zvT_many, .int vT_now, .int vT_deeds, .ref aT_pasts, .int vT_pastMany, .ref aT_keptStates, .ref aT_keptDeeds, .ref aT_isKept, .int vT_at, .int vT_place, .int vT_end, .int vT_readPeople, .int vT_readSpells, .int vT_lifted, .ref aT_fars, .ref aT_queue, .int vT_queued, .ref aT_later, .int vT_laterMany, .ref aT_onWay, .ref aT_row, .int vT_rowMany, .ref aT_princes, .int vT_princeMany, .ref aT_tries, .int vT_triedMany])), (aT_read, .inl (G.2.1, 120, .inl fT_read)), (aT_spells, .inl (G.2.1, 50, .inl zfT_spells))] → va_S A s.heap H lo → W p l e R s m ar below meth c H lo 0 0 Q (F0 m pc ls []) := by
    intro pc ls H lo zvT_many zvT_people zvT_toldBroken zvT_toldDay zfT_spells he hd h1 h2 h3
    have he := he.trans hrs
    cases he
    exact ret.2.1 _ _ _ _ rfl rfl hd h1 h2 h3
  clear ret hrs
  have hl : lv_has ls 4 [(0, .ref aT), (1, .int p1)] := hl
  obtain ⟨hx, hb, hml, hown, hts, hT⟩ := id X
  have hK := hKK.1
  have hw : ∀ w ∈ T0, w.before ar s = true := fun w h => hts w (hT w h)
  have i11 := fun w h => hT w (inT11 w h)
  have J106 : ∀ (vT_many : Int32) (vT_people : Int32) (vT_toldBroken : Int32) (vT_toldDay : Int32) (fT_spells : Nat → Int32) (x1 : Int32), ∀ (H : Heap) (lo : List Loc), va_P G.1 classes [(aT, .inr (7, [.ref aT_text, .int vT_length, .ref aT_read, .int vT_readMany, .int vT_people, .int vT_toldDay, .int vT_toldBroken, .ref aT_spells, .int vT_many, .int vT_now, .int vT_deeds, .ref aT_pasts, .int vT_pastMany, .ref aT_keptStates, .ref aT_keptDeeds, .ref aT_isKept, .int vT_at, .int vT_place, .int vT_end, .int vT_readPeople, .int vT_readSpells, .int vT_lifted, .ref aT_fars, .ref aT_queue, .int vT_queued, .ref aT_later, .int vT_laterMany, .ref aT_onWay, .ref aT_row, .int vT_rowMany, .ref aT_princes, .int vT_princeMany, .ref aT_tries, .int vT_triedMany])), (aT_read, .inl (G.2.1, 120, .inl fT_read)), (aT_spells, .inl (G.2.1, 50, .inl fT_spells))] H → va_D A [(aT, .inr (7, [.ref aT_text, .int vT_length, .ref aT_read, .int vT_readMany, .int vT_people, .int vT_toldDay, .int vT_toldBroken, .ref aT_spells, .int vT_many, .int vT_now, .int vT_deeds, .ref aT_pasts, .int vT_pastMany, .ref aT_keptStates, .ref aT_keptDeeds, .ref aT_isKept, .int vT_at, .int vT_place, .int vT_end, .int vT_readPeople, .int vT_readSpells, .int vT_lifted, .ref aT_fars, .ref aT_queue, .int vT_queued, .ref aT_later, .int vT_laterMany, .ref aT_onWay, .ref aT_row, .int vT_rowMany, .ref aT_princes, .int vT_princeMany, .ref aT_tries, .int vT_triedMany])), (aT_read, .inl (G.2.1, 120, .inl fT_read)), (aT_spells, .inl (G.2.1, 50, .inl fT_spells))] → va_S A s.heap H lo → ∀ (ls : Array Slot), f_Mo_tell_J106 k vT_many vT_people vT_toldBroken vT_toldDay fT_read fT_spells x1 = some rs → lv_has ls 4 [(0, .ref aT), (1, .int x1)] → W p l e R s m ar below meth c H lo 0 0 Q (F0 m 106 ls []) := by
    intro vT_many vT_people vT_toldBroken vT_toldDay fT_spells x1 H lo hP hD hS ls hev hl
    unfold f_Mo_tell_J106 at hev
    refine lv_iconst (v := (0 : Int32)) hx hb dX11_tell_106 (by decide) ?_
    refine lv_istore_n (lv' := [(3, .int (0 : Int32)), (0, .ref aT), (1, .int x1)]) hx hb dX11_tell_107 rfl hl (by decide) rfl (fun ls hl => ?_)
    have L108 : ∀ (vT_many : Int32) (vT_people : Int32) (vT_toldBroken : Int32) (vT_toldDay : Int32) (x1 : Int32), ∀ (k : Nat) (x3 : Int32) (fT_spells : Nat → Int32) (ofT_spells : Nat → Int32), f_Mo_tell_L108 vT_many vT_people vT_toldBroken vT_toldDay fT_read x1 k x3 fT_spells = some ofT_spells → (∀ (H : Heap) (lo : List Loc), va_P G.1 classes [(aT, .inr (7, [.ref aT_text, .int vT_length, .ref aT_read, .int vT_readMany, .int vT_people, .int vT_toldDay, .int vT_toldBroken, .ref aT_spells, .int vT_many, .int vT_now, .int vT_deeds, .ref aT_pasts, .int vT_pastMany, .ref aT_keptStates, .ref aT_keptDeeds, .ref aT_isKept, .int vT_at, .int vT_place, .int vT_end, .int vT_readPeople, .int vT_readSpells, .int vT_lifted, .ref aT_fars, .ref aT_queue, .int vT_queued, .ref aT_later, .int vT_laterMany, .ref aT_onWay, .ref aT_row, .int vT_rowMany, .ref aT_princes, .int vT_princeMany, .ref aT_tries, .int vT_triedMany])), (aT_read, .inl (G.2.1, 120, .inl fT_read)), (aT_spells, .inl (G.2.1, 50, .inl ofT_spells))] H → va_D A [(aT, .inr (7, [.ref aT_text, .int vT_length, .ref aT_read, .int vT_readMany, .int vT_people, .int vT_toldDay, .int vT_toldBroken, .ref aT_spells, .int vT_many, .int vT_now, .int vT_deeds, .ref aT_pasts, .int vT_pastMany, .ref aT_keptStates, .ref aT_keptDeeds, .ref aT_isKept, .int vT_at, .int vT_place, .int vT_end, .int vT_readPeople, .int vT_readSpells, .int vT_lifted, .ref aT_fars, .ref aT_queue, .int vT_queued, .ref aT_later, .int vT_laterMany, .ref aT_onWay, .ref aT_row, .int vT_rowMany, .ref aT_princes, .int vT_princeMany, .ref aT_tries, .int vT_triedMany])), (aT_read, .inl (G.2.1, 120, .inl fT_read)), (aT_spells, .inl (G.2.1, 50, .inl ofT_spells))] → va_S A s.heap H lo → ∀ (ls : Array Slot), lv_has ls 4 [(0, .ref aT), (1, .int x1)] → W p l e R s m ar below meth c H lo 0 0 Q (F0 m 142 ls [])) → ∀ (H : Heap) (lo : List Loc), va_P G.1 classes [(aT, .inr (7, [.ref aT_text, .int vT_length, .ref aT_read, .int vT_readMany, .int vT_people, .int vT_toldDay, .int vT_toldBroken, .ref aT_spells, .int vT_many, .int vT_now, .int vT_deeds, .ref aT_pasts, .int vT_pastMany, .ref aT_keptStates, .ref aT_keptDeeds, .ref aT_isKept, .int vT_at, .int vT_place, .int vT_end, .int vT_readPeople, .int vT_readSpells, .int vT_lifted, .ref aT_fars, .ref aT_queue, .int vT_queued, .ref aT_later, .int vT_laterMany, .ref aT_onWay, .ref aT_row, .int vT_rowMany, .ref aT_princes, .int vT_princeMany, .ref aT_tries, .int vT_triedMany])), (aT_read, .inl (G.2.1, 120, .inl fT_read)), (aT_spells, .inl (G.2.1, 50, .inl fT_spells))] H → va_D A [(aT, .inr (7, [.ref aT_text, .int vT_length, .ref aT_read, .int vT_readMany, .int vT_people, .int vT_toldDay, .int vT_toldBroken, .ref aT_spells, .int vT_many, .int vT_now, .int vT_deeds, .ref aT_pasts, .int vT_pastMany, .ref aT_keptStates, .ref aT_keptDeeds, .ref aT_isKept, .int vT_at, .int vT_place, .int vT_end, .int vT_readPeople, .int vT_readSpells, .int vT_lifted, .ref aT_fars, .ref aT_queue, .int vT_queued, .ref aT_later, .int vT_laterMany, .ref aT_onWay, .ref aT_row, .int vT_rowMany, .ref aT_princes, .int vT_princeMany, .ref aT_tries, .int vT_triedMany])), (aT_read, .inl (G.2.1, 120, .inl fT_read)), (aT_spells, .inl (G.2.1, 50, .inl fT_spells))] → va_S A s.heap H lo → ∀ (ls : Array Slot), lv_has ls 4 [(0, .ref aT), (1, .int x1), (3, .int x3)] → W p l e R s m ar below meth c H lo 0 0 Q (F0 m 108 ls []) := by
      intro vT_many vT_people vT_toldBroken vT_toldDay x1 k
      induction k with
      | zero => intro x3 fT_spells ofT_spells hev; rw [f_Mo_tell_L108] at hev; cases hev
      | succ k ih =>
        intro x3 fT_spells ofT_spells hev hex H lo hP hD hS ls hl
        rw [f_Mo_tell_L108] at hev
        refine lv_iload_n hx hb dX11_tell_108 rfl (lv_at hl 2 rfl) ?_
        refine lv_bipush (v := (10 : Int32)) hx hb dX11_tell_109 (by decide) ?_
        refine lv_icmp_ge (tgt := 142) hx hb dX11_tell_111 (by decide) (fun c1 => ?_) (fun c1 => ?_)
        · replace hev := x_t c1 hev
          cases hev
          exact hex _ _ hP hD hS ls (lv_sub hl [0, 1] rfl)
        · replace hev := x_f c1 hev
          refine lv_aload_n hx hb dX11_tell_114 rfl (lv_at hl 0 rfl) ?_
          refine va_get (D := G.1) (ci := 7) (v := .ref aT_spells) (C := RX11) (T := TX11) (N := 34) hx hb hts i11 hown hK hP 0 rfl rfl 7 (by decide) (hw _ u1094) (fun _ h9 => h9) rfl dX11_tell_115 ?_
          refine lv_bipush (v := (10 : Int32)) hx hb dX11_tell_118 (by decide) ?_
          refine lv_aload_n hx hb dX11_tell_120 rfl (lv_at hl 0 rfl) ?_
          refine va_get (D := G.1) (ci := 7) (v := .int vT_many) (C := RX11) (T := TX11) (N := 34) hx hb hts i11 hown hK hP 0 rfl rfl 8 (by decide) (hw _ u1095) (fun _ h9 => h9) rfl dX11_tell_121 ?_
          refine lv_imul hx hb dX11_tell_124 ?_
          refine lv_iload_n hx hb dX11_tell_125 rfl (lv_at hl 2 rfl) ?_
          refine lv_iadd hx hb dX11_tell_126 ?_
          refine lv_aload_n hx hb dX11_tell_127 rfl (lv_at hl 0 rfl) ?_
          refine va_get (D := G.1) (ci := 7) (v := .ref aT_read) (C := RX11) (T := TX11) (N := 34) hx hb hts i11 hown hK hP 0 rfl rfl 2 (by decide) (hw _ u1089) (fun _ h9 => h9) rfl dX11_tell_128 ?_
          refine lv_iload_n hx hb dX11_tell_131 rfl (lv_at hl 1 rfl) ?_
          refine lv_iload_n hx hb dX11_tell_132 rfl (lv_at hl 2 rfl) ?_
          refine lv_iadd hx hb dX11_tell_133 ?_
          refine lv_topi (fun y2 ey2 => ?_)
          replace hev := x_lt hev y2 ey2
          obtain ⟨h3, hev⟩ := x_ld hev
          refine va_iald hx hb hK hP 1 0 rfl rfl h3 dX11_tell_134 ?_
          refine lv_topi (fun v4 ev4 => ?_)
          replace hev := hev v4 ev4
          obtain ⟨h5, hev⟩ := x_ck hev
          refine va_iast hx hb hK hP hD hS 2 0 rfl rfl h5 dX11_tell_135 (fun H lo hP hD hS => ?_)
          obtain ⟨y6, ey6⟩ : ∃ y : Int32, y = x3 + (1 : Int32) := ⟨_, rfl⟩
          refine lv_iinc (v := y6) (lv' := [(3, .int y6), (0, .ref aT), (1, .int x1)]) hx hb dX11_tell_136 hl (k := 2) rfl (by rw [ey6]; rfl) (by decide) rfl (fun ls hl => ?_)
          replace hev := x_lt hev y6 ey6
          refine lv_goto (tgt := 108) hx hb dX11_tell_139 (by decide) ?_
          exact ih y6 (upd fT_spells ((((10 : Int32) * vT_many) + x3)).toNatClampNeg v4) _ hev hex _ _ hP hD hS ls (lv_sub hl [1, 2, 0] rfl)
    obtain ⟨w7, hq, hev⟩ := x_bd hev
    refine L108 vT_many vT_people vT_toldBroken vT_toldDay x1 k (0 : Int32) fT_spells w7 hq (fun H lo hP hD hS ls hl => ?_) _ _ hP hD hS ls (lv_sub hl [1, 2, 0] rfl)
    refine lv_aload_n hx hb dX11_tell_142 rfl (lv_at hl 0 rfl) ?_
    refine va_get (D := G.1) (ci := 7) (v := .ref aT_spells) (C := RX11) (T := TX11) (N := 34) hx hb hts i11 hown hK hP 0 rfl rfl 7 (by decide) (hw _ u1094) (fun _ h9 => h9) rfl dX11_tell_143 ?_
    refine lv_bipush (v := (10 : Int32)) hx hb dX11_tell_146 (by decide) ?_
    refine lv_aload_n hx hb dX11_tell_148 rfl (lv_at hl 0 rfl) ?_
    refine va_get (D := G.1) (ci := 7) (v := .int vT_many) (C := RX11) (T := TX11) (N := 34) hx hb hts i11 hown hK hP 0 rfl rfl 8 (by decide) (hw _ u1095) (fun _ h9 => h9) rfl dX11_tell_149 ?_
    refine lv_imul hx hb dX11_tell_152 ?_
    refine lv_aload_n hx hb dX11_tell_153 rfl (lv_at hl 0 rfl) ?_
    refine va_get (D := G.1) (ci := 7) (v := .ref aT_read) (C := RX11) (T := TX11) (N := 34) hx hb hts i11 hown hK hP 0 rfl rfl 2 (by decide) (hw _ u1089) (fun _ h9 => h9) rfl dX11_tell_154 ?_
    refine lv_iload_n hx hb dX11_tell_157 rfl (lv_at hl 1 rfl) ?_
    obtain ⟨h8, hev⟩ := x_ld hev
    refine va_iald hx hb hK hP 1 0 rfl rfl h8 dX11_tell_158 ?_
    refine lv_topi (fun v9 ev9 => ?_)
    replace hev := hev v9 ev9
    refine lv_iconst (v := (1 : Int32)) hx hb dX11_tell_159 (by decide) ?_
    refine lv_isub hx hb dX11_tell_160 ?_
    refine lv_topi (fun y10 ey10 => ?_)
    replace hev := x_lt hev y10 ey10
    obtain ⟨h11, hev⟩ := x_ck hev
    refine va_iast hx hb hK hP hD hS 2 0 rfl rfl h11 dX11_tell_161 (fun H lo hP hD hS => ?_)
    refine lv_aload_n hx hb dX11_tell_162 rfl (lv_at hl 0 rfl) ?_
    refine lv_dup hx hb dX11_tell_163 rfl ?_
    refine va_get (D := G.1) (ci := 7) (v := .int vT_many) (C := RX11) (T := TX11) (N := 34) hx hb hts i11 hown hK hP 0 rfl rfl 8 (by decide) (hw _ u1095) (fun _ h9 => h9) rfl dX11_tell_164 ?_
    refine lv_iconst (v := (1 : Int32)) hx hb dX11_tell_167 (by decide) ?_
    refine lv_iadd hx hb dX11_tell_168 ?_
    refine lv_topi (fun y12 ey12 => ?_)
    replace hev := x_lt hev y12 ey12
    refine va_put (D := G.1) (ci := 7) (v := .int y12) (ty := .int) (C := RX11) (T := TX11) (N := 34) hx hb hts i11 tyX11 tyX11_ok nmX11 hown hK hP hD hS 0 rfl rfl 8 (by decide) (hw _ u1095) (fun _ h9 => h9) rfl (by decide +kernel) rfl rfl (Nat.le_of_ble_eq_true rfl) dX11_tell_169 (fun H lo hP hD hS => ?_)
    exact ret2 _ _ _ _ y12 vT_people vT_toldBroken vT_toldDay (upd w7 (((10 : Int32) * vT_many)).toNatClampNeg y10) (Option.some.inj hev) dX11_tell_172 hP hD hS
  unfold f_Mo_tell at hev
  refine lv_aload_n hx hb dX11_tell_0 rfl (lv_at hl 0 rfl) ?_
  refine va_get (D := G.1) (ci := 7) (v := .ref aT_read) (C := RX11) (T := TX11) (N := 34) hx hb hts i11 hown hK hP 0 rfl rfl 2 (by decide) (hw _ u1089) (fun _ h9 => h9) rfl dX11_tell_1 ?_
  refine lv_iload_n hx hb dX11_tell_4 rfl (lv_at hl 1 rfl) ?_
  refine lv_iconst (v := (1 : Int32)) hx hb dX11_tell_5 (by decide) ?_
  refine lv_iadd hx hb dX11_tell_6 ?_
  refine lv_topi (fun y13 ey13 => ?_)
  replace hev := x_lt hev y13 ey13
  obtain ⟨h14, hev⟩ := x_ld hev
  refine va_iald hx hb hK hP 1 0 rfl rfl h14 dX11_tell_7 ?_
  refine lv_topi (fun v15 ev15 => ?_)
  replace hev := hev v15 ev15
  refine lv_istore_n (lv' := [(2, .int v15), (0, .ref aT), (1, .int p1)]) hx hb dX11_tell_8 rfl hl (by decide) rfl (fun ls hl => ?_)
  refine lv_aload_n hx hb dX11_tell_9 rfl (lv_at hl 1 rfl) ?_
  refine va_get (D := G.1) (ci := 7) (v := .ref aT_read) (C := RX11) (T := TX11) (N := 34) hx hb hts i11 hown hK hP 0 rfl rfl 2 (by decide) (hw _ u1089) (fun _ h9 => h9) rfl dX11_tell_10 ?_
  refine lv_iload_n hx hb dX11_tell_13 rfl (lv_at hl 2 rfl) ?_
  obtain ⟨h16, hev⟩ := x_ld hev
  refine va_iald hx hb hK hP 1 0 rfl rfl h16 dX11_tell_14 ?_
  refine lv_topi (fun v17 ev17 => ?_)
  replace hev := hev v17 ev17
  by_cases c18 : v17 = (0 : Int32)
  · replace hev := x_t c18 hev
    refine lv_tableIn (tgt := 60) hx hb dX11_tell_15 (by rw [c18]; decide) (by rw [c18]; decide) (by rw [c18]; rfl) (by decide) ?_
    refine lv_aload_n hx hb dX11_tell_60 rfl (lv_at hl 1 rfl) ?_
    refine lv_iload_n hx hb dX11_tell_61 rfl (lv_at hl 0 rfl) ?_
    refine va_put (D := G.1) (ci := 7) (v := .int v15) (ty := .int) (C := RX11) (T := TX11) (N := 34) hx hb hts i11 tyX11 tyX11_ok nmX11 hown hK hP hD hS 0 rfl rfl 4 (by decide) (hw _ u1091) (fun _ h9 => h9) rfl (by decide +kernel) rfl rfl (Nat.le_of_ble_eq_true rfl) dX11_tell_62 (fun H lo hP hD hS => ?_)
    refine lv_aload_n hx hb dX11_tell_65 rfl (lv_at hl 1 rfl) ?_
    refine lv_iconst (v := (0 : Int32)) hx hb dX11_tell_66 (by decide) ?_
    refine va_put (D := G.1) (ci := 7) (v := .int (0 : Int32)) (ty := .int) (C := RX11) (T := TX11) (N := 34) hx hb hts i11 tyX11 tyX11_ok nmX11 hown hK hP hD hS 0 rfl rfl 8 (by decide) (hw _ u1095) (fun _ h9 => h9) rfl (by decide +kernel) rfl rfl (Nat.le_of_ble_eq_true rfl) dX11_tell_67 (fun H lo hP hD hS => ?_)
    refine lv_aload_n hx hb dX11_tell_70 rfl (lv_at hl 1 rfl) ?_
    refine lv_iconst (v := (0 : Int32)) hx hb dX11_tell_71 (by decide) ?_
    refine va_put (D := G.1) (ci := 7) (v := .int (0 : Int32)) (ty := .int) (C := RX11) (T := TX11) (N := 34) hx hb hts i11 tyX11 tyX11_ok nmX11 hown hK hP hD hS 0 rfl rfl 5 (by decide) (hw _ u1092) (fun _ h9 => h9) rfl (by decide +kernel) rfl rfl (Nat.le_of_ble_eq_true rfl) dX11_tell_72 (fun H lo hP hD hS => ?_)
    refine lv_aload_n hx hb dX11_tell_75 rfl (lv_at hl 1 rfl) ?_
    refine lv_iconst (v := (0 : Int32)) hx hb dX11_tell_76 (by decide) ?_
    refine va_put (D := G.1) (ci := 7) (v := .int (0 : Int32)) (ty := .int) (C := RX11) (T := TX11) (N := 34) hx hb hts i11 tyX11 tyX11_ok nmX11 hown hK hP hD hS 0 rfl rfl 6 (by decide) (hw _ u1093) (fun _ h9 => h9) rfl (by decide +kernel) rfl rfl (Nat.le_of_ble_eq_true rfl) dX11_tell_77 (fun H lo hP hD hS => ?_)
    exact ret2 _ _ _ _ (0 : Int32) v15 (0 : Int32) (0 : Int32) fT_spells (Option.some.inj hev) dX11_tell_80 hP hD hS
  replace hev := x_f c18 hev
  by_cases c19 : v17 = (1 : Int32)
  · replace hev := x_t c19 hev
    refine lv_tableIn (tgt := 106) hx hb dX11_tell_15 (by rw [c19]; decide) (by rw [c19]; decide) (by rw [c19]; rfl) (by decide) ?_
    exact J106 vT_many vT_people vT_toldBroken vT_toldDay fT_spells p1 _ _ hP hD hS ls hev (lv_sub hl [1, 2] rfl)
  replace hev := x_f c19 hev
  by_cases c20 : v17 = (2 : Int32)
  · replace hev := x_t c20 hev
    refine lv_tableIn (tgt := 106) hx hb dX11_tell_15 (by rw [c20]; decide) (by rw [c20]; decide) (by rw [c20]; rfl) (by decide) ?_
    exact J106 vT_many vT_people vT_toldBroken vT_toldDay fT_spells p1 _ _ hP hD hS ls hev (lv_sub hl [1, 2] rfl)
  replace hev := x_f c20 hev
  by_cases c21 : v17 = (3 : Int32)
  · replace hev := x_t c21 hev
    refine lv_tableIn (tgt := 106) hx hb dX11_tell_15 (by rw [c21]; decide) (by rw [c21]; decide) (by rw [c21]; rfl) (by decide) ?_
    exact J106 vT_many vT_people vT_toldBroken vT_toldDay fT_spells p1 _ _ hP hD hS ls hev (lv_sub hl [1, 2] rfl)
  replace hev := x_f c21 hev
  by_cases c22 : v17 = (4 : Int32)
  · replace hev := x_t c22 hev
    refine lv_tableIn (tgt := 106) hx hb dX11_tell_15 (by rw [c22]; decide) (by rw [c22]; decide) (by rw [c22]; rfl) (by decide) ?_
    exact J106 vT_many vT_people vT_toldBroken vT_toldDay fT_spells p1 _ _ hP hD hS ls hev (lv_sub hl [1, 2] rfl)
  replace hev := x_f c22 hev
  by_cases c23 : v17 = (5 : Int32)
  · replace hev := x_t c23 hev
    refine lv_tableIn (tgt := 81) hx hb dX11_tell_15 (by rw [c23]; decide) (by rw [c23]; decide) (by rw [c23]; rfl) (by decide) ?_
    refine lv_aload_n hx hb dX11_tell_81 rfl (lv_at hl 1 rfl) ?_
    refine lv_iload_n hx hb dX11_tell_82 rfl (lv_at hl 0 rfl) ?_
    refine va_put (D := G.1) (ci := 7) (v := .int v15) (ty := .int) (C := RX11) (T := TX11) (N := 34) hx hb hts i11 tyX11 tyX11_ok nmX11 hown hK hP hD hS 0 rfl rfl 5 (by decide) (hw _ u1092) (fun _ h9 => h9) rfl (by decide +kernel) rfl rfl (Nat.le_of_ble_eq_true rfl) dX11_tell_83 (fun H lo hP hD hS => ?_)
    exact ret2 _ _ _ _ vT_many vT_people vT_toldBroken v15 fT_spells (Option.some.inj hev) dX11_tell_86 hP hD hS
  replace hev := x_f c23 hev
  by_cases c24 : v17 = (6 : Int32)
  · replace hev := x_t c24 hev
    refine lv_tableIn (tgt := 87) hx hb dX11_tell_15 (by rw [c24]; decide) (by rw [c24]; decide) (by rw [c24]; rfl) (by decide) ?_
    refine lv_aload_n hx hb dX11_tell_87 rfl (lv_at hl 1 rfl) ?_
    refine lv_dup hx hb dX11_tell_88 rfl ?_
    refine va_get (D := G.1) (ci := 7) (v := .int vT_toldBroken) (C := RX11) (T := TX11) (N := 34) hx hb hts i11 hown hK hP 0 rfl rfl 6 (by decide) (hw _ u1093) (fun _ h9 => h9) rfl dX11_tell_89 ?_
    refine lv_iconst (v := (1 : Int32)) hx hb dX11_tell_92 (by decide) ?_
    refine lv_iload_n hx hb dX11_tell_93 rfl (lv_at hl 0 rfl) ?_
    refine lv_ishl hx hb dX11_tell_94 ?_
    refine lv_ior hx hb dX11_tell_95 ?_
    refine lv_topi (fun y25 ey25 => ?_)
    replace hev := x_lt hev y25 ey25
    refine va_put (D := G.1) (ci := 7) (v := .int y25) (ty := .int) (C := RX11) (T := TX11) (N := 34) hx hb hts i11 tyX11 tyX11_ok nmX11 hown hK hP hD hS 0 rfl rfl 6 (by decide) (hw _ u1093) (fun _ h9 => h9) rfl (by decide +kernel) rfl rfl (Nat.le_of_ble_eq_true rfl) dX11_tell_96 (fun H lo hP hD hS => ?_)
    exact ret2 _ _ _ _ vT_many vT_people y25 vT_toldDay fT_spells (Option.some.inj hev) dX11_tell_99 hP hD hS
  replace hev := x_f c24 hev
  by_cases c26 : v17 = (7 : Int32)
  · replace hev := x_t c26 hev
    refine lv_tableIn (tgt := 100) hx hb dX11_tell_15 (by rw [c26]; decide) (by rw [c26]; decide) (by rw [c26]; rfl) (by decide) ?_
    refine lv_aload_n hx hb dX11_tell_100 rfl (lv_at hl 1 rfl) ?_
    refine lv_iconst (v := (0 : Int32)) hx hb dX11_tell_101 (by decide) ?_
    refine va_put (D := G.1) (ci := 7) (v := .int (0 : Int32)) (ty := .int) (C := RX11) (T := TX11) (N := 34) hx hb hts i11 tyX11 tyX11_ok nmX11 hown hK hP hD hS 0 rfl rfl 8 (by decide) (hw _ u1095) (fun _ h9 => h9) rfl (by decide +kernel) rfl rfl (Nat.le_of_ble_eq_true rfl) dX11_tell_102 (fun H lo hP hD hS => ?_)
    exact ret2 _ _ _ _ (0 : Int32) vT_people vT_toldBroken vT_toldDay fT_spells (Option.some.inj hev) dX11_tell_105 hP hD hS
  replace hev := x_f c26 hev
  refine lv_tableOut (tgt := 106) hx hb dX11_tell_15 (by have q0 : v17.toInt ≠ 0 := x_ne c18; have q1 : v17.toInt ≠ 1 := x_ne c19; have q2 : v17.toInt ≠ 2 := x_ne c20; have q3 : v17.toInt ≠ 3 := x_ne c21; have q4 : v17.toInt ≠ 4 := x_ne c22; have q5 : v17.toInt ≠ 5 := x_ne c23; have q6 : v17.toInt ≠ 6 := x_ne c24; have q7 : v17.toInt ≠ 7 := x_ne c26; omega) (by decide) ?_
  exact J106 vT_many vT_people vT_toldBroken vT_toldDay fT_spells p1 _ _ hP hD hS ls hev (lv_sub hl [1, 2] rfl)
def f_Mo_land_L13 (vT_at : Int32) (vT_deeds : Int32) (vT_end : Int32) (vT_length : Int32) (vT_now : Int32) (vT_pastMany : Int32) (vT_place : Int32) (vT_princeMany : Int32) (vT_readMany : Int32) (vT_readPeople : Int32) (vT_readSpells : Int32) (vT_rowMany : Int32) (vT_triedMany : Int32) (fT_isKept : Nat → Int32) (fT_read : Nat → Int32) (fT_text : Nat → Int32) : Nat → Int32 → Int32 → Int32 → Int32 → Int32 → (Nat → Int32) → Option (Int32 × Int32 × Int32 × Int32 × (Nat → Int32))
  | 0, _, _, _, _, _, _ => none
  | k + 1, x1, vT_many, vT_people, vT_toldBroken, vT_toldDay, fT_spells => if vT_readMany ≤ x1 then (some (vT_many, vT_people, vT_toldBroken, vT_toldDay, fT_spells)) else x_B (f_Mo_tell k vT_many vT_people vT_toldBroken vT_toldDay fT_read fT_spells ((10 : Int32) * x1)) (fun ⟨w11, w12, w13, w14, w15⟩ => x_L (x1 + (1 : Int32)) (fun y16 => (f_Mo_land_L13 vT_at vT_deeds vT_end vT_length vT_now vT_pastMany vT_place vT_princeMany vT_readMany vT_readPeople vT_readSpells vT_rowMany vT_triedMany fT_isKept fT_read fT_text k) y16 w11 w12 w13 w14 w15))
def f_Mo_land (k : Nat) (vT_at : Int32) (vT_deeds : Int32) (vT_end : Int32) (vT_length : Int32) (vT_many : Int32) (vT_now : Int32) (vT_pastMany : Int32) (vT_people : Int32) (vT_place : Int32) (vT_princeMany : Int32) (vT_readMany : Int32) (vT_readPeople : Int32) (vT_readSpells : Int32) (vT_rowMany : Int32) (vT_toldBroken : Int32) (vT_toldDay : Int32) (vT_triedMany : Int32) (fT_isKept : Nat → Int32) (fT_read : Nat → Int32) (fT_spells : Nat → Int32) (fT_text : Nat → Int32) : Option (Int32 × Int32 × Int32 × Int32 × Int32 × Int32 × Int32 × Int32 × Int32 × Int32 × Int32 × Int32 × Int32 × Int32 × Int32 × Int32 × Int32 × Int32 × (Nat → Int32) × (Nat → Int32) × (Nat → Int32)) := x_B (f_Mo_fault k vT_at vT_end vT_length vT_many vT_people vT_place vT_readMany vT_readPeople vT_readSpells fT_read fT_text) (fun ⟨y1, w2, w3, w4, w5, w6, w7, w8⟩ => if y1 = (-1 : Int32) then (x_B (f_Mo_land_L13 w2 vT_deeds w3 vT_length vT_now vT_pastMany w4 vT_princeMany w5 w6 w7 vT_rowMany vT_triedMany fT_isKept w8 fT_text k (0 : Int32) vT_many vT_people vT_toldBroken vT_toldDay fT_spells) (fun ⟨w17, w18, w19, w20, w21⟩ => x_L ((((((1 : Int32) <<< (w17 &&& 31)) - (1 : Int32)) ||| (w19 <<< ((5 : Int32) &&& 31))) ||| (w20 <<< ((13 : Int32) &&& 31)))) (fun y22 => x_C 2 (0 : Int32) (x_C 2 (1 : Int32) (some (w5, w2, (0 : Int32), w3, (0 : Int32), w17, y22, (0 : Int32), w18, w4, (0 : Int32), w5, w6, w7, (0 : Int32), w19, w20, (0 : Int32), (upd (upd fT_isKept ((0 : Int32)).toNatClampNeg (vp_nar .boolean (0 : Int32))) ((1 : Int32)).toNatClampNeg (vp_nar .boolean (0 : Int32))), w8, w21)))))) else some ((-4 : Int32), w2, vT_deeds, w3, vT_length, vT_many, vT_now, vT_pastMany, vT_people, w4, vT_princeMany, w5, w6, w7, vT_rowMany, vT_toldBroken, vT_toldDay, vT_triedMany, fT_isKept, w8, fT_spells))
set_option maxHeartbeats 8000000 in
set_option maxRecDepth 100000 in
theorem c_Mo_land (l : Launch) (G : GG) (aT aT_text aT_read aT_spells aT_pasts aT_keptStates aT_keptDeeds aT_isKept aT_fars aT_queue aT_later aT_onWay aT_row aT_princes aT_tries : Nat) (vT_length : Int32) (vT_readMany : Int32) (vT_people : Int32) (vT_toldDay : Int32) (vT_toldBroken : Int32) (vT_many : Int32) (vT_now : Int32) (vT_deeds : Int32) (vT_pastMany : Int32) (vT_at : Int32) (vT_place : Int32) (vT_end : Int32) (vT_readPeople : Int32) (vT_readSpells : Int32) (vT_lifted : Int32) (vT_queued : Int32) (vT_laterMany : Int32) (vT_rowMany : Int32) (vT_princeMany : Int32) (vT_triedMany : Int32) (fT_text : Nat → Int32) (fT_read : Nat → Int32) (fT_spells : Nat → Int32) (fT_isKept : Nat → Int32) (k : Nat) (r0 : Int32) (wvT_at : Int32) (wvT_deeds : Int32) (wvT_end : Int32) (wvT_length : Int32) (wvT_many : Int32) (wvT_now : Int32) (wvT_pastMany : Int32) (wvT_people : Int32) (wvT_place : Int32) (wvT_princeMany : Int32) (wvT_readMany : Int32) (wvT_readPeople : Int32) (wvT_readSpells : Int32) (wvT_rowMany : Int32) (wvT_toldBroken : Int32) (wvT_toldDay : Int32) (wvT_triedMany : Int32) (wfT_isKept : Nat → Int32) (wfT_read : Nat → Int32) (wfT_spells : Nat → Int32) (hev : f_Mo_land k vT_at vT_deeds vT_end vT_length vT_many vT_now vT_pastMany vT_people vT_place vT_princeMany vT_readMany vT_readPeople vT_readSpells vT_rowMany vT_toldBroken vT_toldDay vT_triedMany fT_isKept fT_read fT_spells fT_text = some (r0, wvT_at, wvT_deeds, wvT_end, wvT_length, wvT_many, wvT_now, wvT_pastMany, wvT_people, wvT_place, wvT_princeMany, wvT_readMany, wvT_readPeople, wvT_readSpells, wvT_rowMany, wvT_toldBroken, wvT_toldDay, wvT_triedMany, wfT_isKept, wfT_read, wfT_spells)) : RW l G yX11_land cX11_land 2 (some .int) 8 [.ref aT] [(aT, .inr (7, [.ref aT_text, .int vT_length, .ref aT_read, .int vT_readMany, .int vT_people, .int vT_toldDay, .int vT_toldBroken, .ref aT_spells, .int vT_many, .int vT_now, .int vT_deeds, .ref aT_pasts, .int vT_pastMany, .ref aT_keptStates, .ref aT_keptDeeds, .ref aT_isKept, .int vT_at, .int vT_place, .int vT_end, .int vT_readPeople, .int vT_readSpells, .int vT_lifted, .ref aT_fars, .ref aT_queue, .int vT_queued, .ref aT_later, .int vT_laterMany, .ref aT_onWay, .ref aT_row, .int vT_rowMany, .ref aT_princes, .int vT_princeMany, .ref aT_tries, .int vT_triedMany])), (aT_text, .inl (G.2.1, 240, .inl fT_text)), (aT_read, .inl (G.2.1, 120, .inl fT_read)), (aT_spells, .inl (G.2.1, 50, .inl fT_spells)), (aT_isKept, .inl (G.2.2.2.1, 2, .inl fT_isKept))] (some (.int r0)) [(aT, .inr (7, [.ref aT_text, .int wvT_length, .ref aT_read, .int wvT_readMany, .int wvT_people, .int wvT_toldDay, .int wvT_toldBroken, .ref aT_spells, .int wvT_many, .int wvT_now, .int wvT_deeds, .ref aT_pasts, .int wvT_pastMany, .ref aT_keptStates, .ref aT_keptDeeds, .ref aT_isKept, .int wvT_at, .int wvT_place, .int wvT_end, .int wvT_readPeople, .int wvT_readSpells, .int vT_lifted, .ref aT_fars, .ref aT_queue, .int vT_queued, .ref aT_later, .int vT_laterMany, .ref aT_onWay, .ref aT_row, .int wvT_rowMany, .ref aT_princes, .int wvT_princeMany, .ref aT_tries, .int wvT_triedMany])), (aT_text, .inl (G.2.1, 240, .inl fT_text)), (aT_read, .inl (G.2.1, 120, .inl wfT_read)), (aT_spells, .inl (G.2.1, 50, .inl wfT_spells)), (aT_isKept, .inl (G.2.2.2.1, 2, .inl wfT_isKept))] 0 0 := by
  refine RW_of (by decide) (Nat.le_of_ble_eq_true rfl) ?_
  intro p e s m ar below meth c R Q A ls X hR hRc hin hP hKK hD hS hA hAb hl ret
  obtain ⟨rs, hrs⟩ : ∃ q, q = (r0, wvT_at, wvT_deeds, wvT_end, wvT_length, wvT_many, wvT_now, wvT_pastMany, wvT_people, wvT_place, wvT_princeMany, wvT_readMany, wvT_readPeople, wvT_readSpells, wvT_rowMany, wvT_toldBroken, wvT_toldDay, wvT_triedMany, wfT_isKept, wfT_read, wfT_spells) := ⟨_, rfl⟩
  rw [← hrs] at hev
  have ret2 : ∀ (pc : Nat) (ls : Array Slot) (H : Heap) (lo : List Loc) (v r1 : Int32) (zvT_at : Int32) (zvT_deeds : Int32) (zvT_end : Int32) (zvT_length : Int32) (zvT_many : Int32) (zvT_now : Int32) (zvT_pastMany : Int32) (zvT_people : Int32) (zvT_place : Int32) (zvT_princeMany : Int32) (zvT_readMany : Int32) (zvT_readPeople : Int32) (zvT_readSpells : Int32) (zvT_rowMany : Int32) (zvT_toldBroken : Int32) (zvT_toldDay : Int32) (zvT_triedMany : Int32) (zfT_isKept : Nat → Int32) (zfT_read : Nat → Int32) (zfT_spells : Nat → Int32), (r1, zvT_at, zvT_deeds, zvT_end, zvT_length, zvT_many, zvT_now, zvT_pastMany, zvT_people, zvT_place, zvT_princeMany, zvT_readMany, zvT_readPeople, zvT_readSpells, zvT_rowMany, zvT_toldBroken, zvT_toldDay, zvT_triedMany, zfT_isKept, zfT_read, zfT_spells) = rs → decode cX11_land pc = .ok (.ireturn, 1) → narrow .int (.int v) = .int r1 → va_P G.1 classes [(aT, .inr (7, [.ref aT_text, .int zvT_length, .ref aT_read, .int zvT_readMany, .int zvT_people, .int zvT_toldDay, .int zvT_toldBroken, .ref aT_spells, .int zvT_many, .int zvT_now, .int zvT_deeds, .ref aT_pasts, .int zvT_pastMany, .ref aT_keptStates, .ref aT_keptDeeds, .ref aT_isKept, .int zvT_at, .int zvT_place, .int zvT_end, .int zvT_readPeople, .int zvT_readSpells, .int vT_lifted, .ref aT_fars, .ref aT_queue, .int vT_queued, .ref aT_later, .int vT_laterMany, .ref aT_onWay, .ref aT_row, .int zvT_rowMany, .ref aT_princes, .int zvT_princeMany, .ref aT_tries, .int zvT_triedMany])), (aT_text, .inl (G.2.1, 240, .inl fT_text)), (aT_read, .inl (G.2.1, 120, .inl zfT_read)), (aT_spells, .inl (G.2.1, 50, .inl zfT_spells)), (aT_isKept, .inl (G.2.2.2.1, 2, .inl zfT_isKept))] H → va_D A [(aT, .inr (7, [.ref aT_text, .int zvT_length, .ref aT_read, .int zvT_readMany, .int zvT_people, .int zvT_toldDay, .int zvT_toldBroken, .ref aT_spells, .int zvT_many, .int zvT_now, .int zvT_deeds, .ref aT_pasts, .int zvT_pastMany, .ref aT_keptStates, .ref aT_keptDeeds, .ref aT_isKept, .int zvT_at, .int zvT_place, .int zvT_end, .int zvT_readPeople, .int zvT_readSpells, .int vT_lifted, .ref aT_fars, .ref aT_queue, .int vT_queued, .ref aT_later, .int vT_laterMany, .ref aT_onWay, .ref aT_row, .int zvT_rowMany, .ref aT_princes, .int zvT_princeMany, .ref aT_tries, .int zvT_triedMany])), (aT_text, .inl (G.2.1, 240, .inl fT_text)), (aT_read, .inl (G.2.1, 120, .inl zfT_read)), (aT_spells, .inl (G.2.1, 50, .inl zfT_spells)), (aT_isKept, .inl (G.2.2.2.1, 2, .inl zfT_isKept))] → va_S A s.heap H lo → W p l e R s m ar below meth c H lo 0 0 Q (F0 m pc ls [.int v]) := by
    intro pc ls H lo v r1 zvT_at zvT_deeds zvT_end zvT_length zvT_many zvT_now zvT_pastMany zvT_people zvT_place zvT_princeMany zvT_readMany zvT_readPeople zvT_readSpells zvT_rowMany zvT_toldBroken zvT_toldDay zvT_triedMany zfT_isKept zfT_read zfT_spells he hd hn h1 h2 h3
    have he := he.trans hrs
    cases he
    exact ret.1 _ _ _ _ _ _ _ rfl rfl hd hn h1 h2 h3
  clear ret hrs
  have hl : lv_has ls 2 [(0, .ref aT)] := hl
  obtain ⟨hx, hb, hml, hown, hts, hT⟩ := id X
  have hK := hKK.1
  have hw : ∀ w ∈ T0, w.before ar s = true := fun w h => hts w (hT w h)
  have i11 := fun w h => hT w (inT11 w h)
  unfold f_Mo_land at hev
  refine lv_aload_n hx hb dX11_land_0 rfl (lv_at hl 0 rfl) ?_
  obtain ⟨⟨y1, w2, w3, w4, w5, w6, w7, w8⟩, hq, hev⟩ := x_bd hev
  refine rgV X (KK_at hKK hS hAb) hR (st1 := [.int y1]) (ws2 := [(aT, .inr (7, [.ref aT_text, .int vT_length, .ref aT_read, .int w5, .int vT_people, .int vT_toldDay, .int vT_toldBroken, .ref aT_spells, .int vT_many, .int vT_now, .int vT_deeds, .ref aT_pasts, .int vT_pastMany, .ref aT_keptStates, .ref aT_keptDeeds, .ref aT_isKept, .int w2, .int w4, .int w3, .int w6, .int w7, .int vT_lifted, .ref aT_fars, .ref aT_queue, .int vT_queued, .ref aT_later, .int vT_laterMany, .ref aT_onWay, .ref aT_row, .int vT_rowMany, .ref aT_princes, .int vT_princeMany, .ref aT_tries, .int vT_triedMany])), (aT_text, .inl (G.2.1, 240, .inl fT_text)), (aT_read, .inl (G.2.1, 120, .inl w8)), (aT_spells, .inl (G.2.1, 50, .inl fT_spells)), (aT_isKept, .inl (G.2.2.2.1, 2, .inl fT_isKept))]) (c_Mo_fault l G aT aT_text aT_read aT_spells aT_pasts aT_keptStates aT_keptDeeds aT_isKept aT_fars aT_queue aT_later aT_onWay aT_row aT_princes aT_tries vT_length vT_readMany vT_people vT_toldDay vT_toldBroken vT_many vT_now vT_deeds vT_pastMany vT_at vT_place vT_end vT_readPeople vT_readSpells vT_lifted vT_queued vT_laterMany vT_rowMany vT_princeMany vT_triedMany fT_text fT_read k y1 w2 w3 w4 w5 w6 w7 w8 hq) K_X11_fault u1269 hP hD hS hA hAb [0, 1, 2] rfl (sbC rfl (sbC rfl (sbC rfl sb0))) (mgN 0 rfl rfl (mgN 1 rfl rfl (mgN 2 rfl rfl (mgK (by decide) (mgK (by decide) (mg0)))))) rfl (q0 := 0) rfl (by decide) ⟨Nat.zero_le _, Nat.zero_le _⟩ rfl hl.1 rfl (Nat.le_of_ble_eq_true rfl) rfl dX11_land_1 (fun H lo hP hD hS => ?_)
  refine lv_iconst (v := (-1 : Int32)) hx hb dX11_land_4 (by decide) ?_
  refine lv_icmp_eq (tgt := 11) hx hb dX11_land_5 (by decide) (fun c9 => ?_) (fun c9 => ?_)
  · replace hev := x_t c9 hev
    refine lv_iconst (v := (0 : Int32)) hx hb dX11_land_11 (by decide) ?_
    refine lv_istore_n (lv' := [(1, .int (0 : Int32)), (0, .ref aT)]) hx hb dX11_land_12 rfl hl (by decide) rfl (fun ls hl => ?_)
    have L13 : ∀ (vT_at : Int32) (vT_deeds : Int32) (vT_end : Int32) (vT_length : Int32) (vT_now : Int32) (vT_pastMany : Int32) (vT_place : Int32) (vT_princeMany : Int32) (vT_readMany : Int32) (vT_readPeople : Int32) (vT_readSpells : Int32) (vT_rowMany : Int32) (vT_triedMany : Int32) (fT_isKept : Nat → Int32) (fT_read : Nat → Int32), ∀ (k : Nat) (x1 : Int32) (vT_many : Int32) (vT_people : Int32) (vT_toldBroken : Int32) (vT_toldDay : Int32) (fT_spells : Nat → Int32) (ovT_many : Int32) (ovT_people : Int32) (ovT_toldBroken : Int32) (ovT_toldDay : Int32) (ofT_spells : Nat → Int32), f_Mo_land_L13 vT_at vT_deeds vT_end vT_length vT_now vT_pastMany vT_place vT_princeMany vT_readMany vT_readPeople vT_readSpells vT_rowMany vT_triedMany fT_isKept fT_read fT_text k x1 vT_many vT_people vT_toldBroken vT_toldDay fT_spells = some (ovT_many, ovT_people, ovT_toldBroken, ovT_toldDay, ofT_spells) → (∀ (H : Heap) (lo : List Loc), va_P G.1 classes [(aT, .inr (7, [.ref aT_text, .int vT_length, .ref aT_read, .int vT_readMany, .int ovT_people, .int ovT_toldDay, .int ovT_toldBroken, .ref aT_spells, .int ovT_many, .int vT_now, .int vT_deeds, .ref aT_pasts, .int vT_pastMany, .ref aT_keptStates, .ref aT_keptDeeds, .ref aT_isKept, .int vT_at, .int vT_place, .int vT_end, .int vT_readPeople, .int vT_readSpells, .int vT_lifted, .ref aT_fars, .ref aT_queue, .int vT_queued, .ref aT_later, .int vT_laterMany, .ref aT_onWay, .ref aT_row, .int vT_rowMany, .ref aT_princes, .int vT_princeMany, .ref aT_tries, .int vT_triedMany])), (aT_text, .inl (G.2.1, 240, .inl fT_text)), (aT_read, .inl (G.2.1, 120, .inl fT_read)), (aT_spells, .inl (G.2.1, 50, .inl ofT_spells)), (aT_isKept, .inl (G.2.2.2.1, 2, .inl fT_isKept))] H → va_D A [(aT, .inr (7, [.ref aT_text, .int vT_length, .ref aT_read, .int vT_readMany, .int ovT_people, .int ovT_toldDay, .int ovT_toldBroken, .ref aT_spells, .int ovT_many, .int vT_now, .int vT_deeds, .ref aT_pasts, .int vT_pastMany, .ref aT_keptStates, .ref aT_keptDeeds, .ref aT_isKept, .int vT_at, .int vT_place, .int vT_end, .int vT_readPeople, .int vT_readSpells, .int vT_lifted, .ref aT_fars, .ref aT_queue, .int vT_queued, .ref aT_later, .int vT_laterMany, .ref aT_onWay, .ref aT_row, .int vT_rowMany, .ref aT_princes, .int vT_princeMany, .ref aT_tries, .int vT_triedMany])), (aT_text, .inl (G.2.1, 240, .inl fT_text)), (aT_read, .inl (G.2.1, 120, .inl fT_read)), (aT_spells, .inl (G.2.1, 50, .inl ofT_spells)), (aT_isKept, .inl (G.2.2.2.1, 2, .inl fT_isKept))] → va_S A s.heap H lo → ∀ (ls : Array Slot), lv_has ls 2 [(0, .ref aT)] → W p l e R s m ar below meth c H lo 0 0 Q (F0 m 35 ls [])) → ∀ (H : Heap) (lo : List Loc), va_P G.1 classes [(aT, .inr (7, [.ref aT_text, .int vT_length, .ref aT_read, .int vT_readMany, .int vT_people, .int vT_toldDay, .int vT_toldBroken, .ref aT_spells, .int vT_many, .int vT_now, .int vT_deeds, .ref aT_pasts, .int vT_pastMany, .ref aT_keptStates, .ref aT_keptDeeds, .ref aT_isKept, .int vT_at, .int vT_place, .int vT_end, .int vT_readPeople, .int vT_readSpells, .int vT_lifted, .ref aT_fars, .ref aT_queue, .int vT_queued, .ref aT_later, .int vT_laterMany, .ref aT_onWay, .ref aT_row, .int vT_rowMany, .ref aT_princes, .int vT_princeMany, .ref aT_tries, .int vT_triedMany])), (aT_text, .inl (G.2.1, 240, .inl fT_text)), (aT_read, .inl (G.2.1, 120, .inl fT_read)), (aT_spells, .inl (G.2.1, 50, .inl fT_spells)), (aT_isKept, .inl (G.2.2.2.1, 2, .inl fT_isKept))] H → va_D A [(aT, .inr (7, [.ref aT_text, .int vT_length, .ref aT_read, .int vT_readMany, .int vT_people, .int vT_toldDay, .int vT_toldBroken, .ref aT_spells, .int vT_many, .int vT_now, .int vT_deeds, .ref aT_pasts, .int vT_pastMany, .ref aT_keptStates, .ref aT_keptDeeds, .ref aT_isKept, .int vT_at, .int vT_place, .int vT_end, .int vT_readPeople, .int vT_readSpells, .int vT_lifted, .ref aT_fars, .ref aT_queue, .int vT_queued, .ref aT_later, .int vT_laterMany, .ref aT_onWay, .ref aT_row, .int vT_rowMany, .ref aT_princes, .int vT_princeMany, .ref aT_tries, .int vT_triedMany])), (aT_text, .inl (G.2.1, 240, .inl fT_text)), (aT_read, .inl (G.2.1, 120, .inl fT_read)), (aT_spells, .inl (G.2.1, 50, .inl fT_spells)), (aT_isKept, .inl (G.2.2.2.1, 2, .inl fT_isKept))] → va_S A s.heap H lo → ∀ (ls : Array Slot), lv_has ls 2 [(0, .ref aT), (1, .int x1)] → W p l e R s m ar below meth c H lo 0 0 Q (F0 m 13 ls []) := by
      intro vT_at vT_deeds vT_end vT_length vT_now vT_pastMany vT_place vT_princeMany vT_readMany vT_readPeople vT_readSpells vT_rowMany vT_triedMany fT_isKept fT_read k
      induction k with
      | zero => intro x1 vT_many vT_people vT_toldBroken vT_toldDay fT_spells ovT_many ovT_people ovT_toldBroken ovT_toldDay ofT_spells hev; rw [f_Mo_land_L13] at hev; cases hev
      | succ k ih =>
        intro x1 vT_many vT_people vT_toldBroken vT_toldDay fT_spells ovT_many ovT_people ovT_toldBroken ovT_toldDay ofT_spells hev hex H lo hP hD hS ls hl
        rw [f_Mo_land_L13] at hev
        refine lv_iload_n hx hb dX11_land_13 rfl (lv_at hl 1 rfl) ?_
        refine lv_aload_n hx hb dX11_land_14 rfl (lv_at hl 0 rfl) ?_
        refine va_get (D := G.1) (ci := 7) (v := .int vT_readMany) (C := RX11) (T := TX11) (N := 34) hx hb hts i11 hown hK hP 0 rfl rfl 3 (by decide) (hw _ u1090) (fun _ h9 => h9) rfl dX11_land_15 ?_
        refine lv_icmp_ge (tgt := 35) hx hb dX11_land_18 (by decide) (fun c10 => ?_) (fun c10 => ?_)
        · replace hev := x_t c10 hev
          cases hev
          exact hex _ _ hP hD hS ls (lv_sub hl [0] rfl)
        · replace hev := x_f c10 hev
          refine lv_aload_n hx hb dX11_land_21 rfl (lv_at hl 0 rfl) ?_
          refine lv_bipush (v := (10 : Int32)) hx hb dX11_land_22 (by decide) ?_
          refine lv_iload_n hx hb dX11_land_24 rfl (lv_at hl 1 rfl) ?_
          refine lv_imul hx hb dX11_land_25 ?_
          obtain ⟨⟨w11, w12, w13, w14, w15⟩, hq, hev⟩ := x_bd hev
          refine rgV X (KK_at hKK hS hAb) hR (st1 := []) (ws2 := [(aT, .inr (7, [.ref aT_text, .int vT_length, .ref aT_read, .int vT_readMany, .int w12, .int w14, .int w13, .ref aT_spells, .int w11, .int vT_now, .int vT_deeds, .ref aT_pasts, .int vT_pastMany, .ref aT_keptStates, .ref aT_keptDeeds, .ref aT_isKept, .int vT_at, .int vT_place, .int vT_end, .int vT_readPeople, .int vT_readSpells, .int vT_lifted, .ref aT_fars, .ref aT_queue, .int vT_queued, .ref aT_later, .int vT_laterMany, .ref aT_onWay, .ref aT_row, .int vT_rowMany, .ref aT_princes, .int vT_princeMany, .ref aT_tries, .int vT_triedMany])), (aT_text, .inl (G.2.1, 240, .inl fT_text)), (aT_read, .inl (G.2.1, 120, .inl fT_read)), (aT_spells, .inl (G.2.1, 50, .inl w15)), (aT_isKept, .inl (G.2.2.2.1, 2, .inl fT_isKept))]) (c_Mo_tell l G aT aT_text aT_read aT_spells aT_pasts aT_keptStates aT_keptDeeds aT_isKept aT_fars aT_queue aT_later aT_onWay aT_row aT_princes aT_tries vT_length vT_readMany vT_people vT_toldDay vT_toldBroken vT_many vT_now vT_deeds vT_pastMany vT_at vT_place vT_end vT_readPeople vT_readSpells vT_lifted vT_queued vT_laterMany vT_rowMany vT_princeMany vT_triedMany fT_read fT_spells k ((10 : Int32) * x1) w11 w12 w13 w14 w15 hq) K_X11_tell u1270 hP hD hS hA hAb [0, 2, 3] rfl (sbC rfl (sbC rfl (sbC rfl sb0))) (mgN 0 rfl rfl (mgK (by decide) (mgN 1 rfl rfl (mgN 2 rfl rfl (mgK (by decide) (mg0)))))) rfl (q0 := 0) rfl (by decide) ⟨Nat.zero_le _, Nat.zero_le _⟩ rfl hl.1 rfl (Nat.le_of_ble_eq_true rfl) rfl dX11_land_26 (fun H lo hP hD hS => ?_)
          obtain ⟨y16, ey16⟩ : ∃ y : Int32, y = x1 + (1 : Int32) := ⟨_, rfl⟩
          refine lv_iinc (v := y16) (lv' := [(1, .int y16), (0, .ref aT)]) hx hb dX11_land_29 hl (k := 1) rfl (by rw [ey16]; rfl) (by decide) rfl (fun ls hl => ?_)
          replace hev := x_lt hev y16 ey16
          refine lv_goto (tgt := 13) hx hb dX11_land_32 (by decide) ?_
          exact ih y16 w11 w12 w13 w14 w15 _ _ _ _ _ hev hex _ _ hP hD hS ls (lv_sub hl [1, 0] rfl)
    obtain ⟨⟨w17, w18, w19, w20, w21⟩, hq, hev⟩ := x_bd hev
    refine L13 w2 vT_deeds w3 vT_length vT_now vT_pastMany w4 vT_princeMany w5 w6 w7 vT_rowMany vT_triedMany fT_isKept w8 k (0 : Int32) vT_many vT_people vT_toldBroken vT_toldDay fT_spells w17 w18 w19 w20 w21 hq (fun H lo hP hD hS ls hl => ?_) _ _ hP hD hS ls (lv_sub hl [1, 0] rfl)
    refine lv_aload_n hx hb dX11_land_35 rfl (lv_at hl 0 rfl) ?_
    refine lv_iconst (v := (1 : Int32)) hx hb dX11_land_36 (by decide) ?_
    refine lv_aload_n hx hb dX11_land_37 rfl (lv_at hl 0 rfl) ?_
    refine va_get (D := G.1) (ci := 7) (v := .int w17) (C := RX11) (T := TX11) (N := 34) hx hb hts i11 hown hK hP 0 rfl rfl 8 (by decide) (hw _ u1095) (fun _ h9 => h9) rfl dX11_land_38 ?_
    refine lv_ishl hx hb dX11_land_41 ?_
    refine lv_iconst (v := (1 : Int32)) hx hb dX11_land_42 (by decide) ?_
    refine lv_isub hx hb dX11_land_43 ?_
    refine lv_aload_n hx hb dX11_land_44 rfl (lv_at hl 0 rfl) ?_
    refine va_get (D := G.1) (ci := 7) (v := .int w19) (C := RX11) (T := TX11) (N := 34) hx hb hts i11 hown hK hP 0 rfl rfl 6 (by decide) (hw _ u1093) (fun _ h9 => h9) rfl dX11_land_45 ?_
    refine lv_iconst (v := (5 : Int32)) hx hb dX11_land_48 (by decide) ?_
    refine lv_ishl hx hb dX11_land_49 ?_
    refine lv_ior hx hb dX11_land_50 ?_
    refine lv_aload_n hx hb dX11_land_51 rfl (lv_at hl 0 rfl) ?_
    refine va_get (D := G.1) (ci := 7) (v := .int w20) (C := RX11) (T := TX11) (N := 34) hx hb hts i11 hown hK hP 0 rfl rfl 5 (by decide) (hw _ u1092) (fun _ h9 => h9) rfl dX11_land_52 ?_
    refine lv_bipush (v := (13 : Int32)) hx hb dX11_land_55 (by decide) ?_
    refine lv_ishl hx hb dX11_land_57 ?_
    refine lv_ior hx hb dX11_land_58 ?_
    refine lv_topi (fun y22 ey22 => ?_)
    replace hev := x_lt hev y22 ey22
    refine va_put (D := G.1) (ci := 7) (v := .int y22) (ty := .int) (C := RX11) (T := TX11) (N := 34) hx hb hts i11 tyX11 tyX11_ok nmX11 hown hK hP hD hS 0 rfl rfl 9 (by decide) (hw _ u1096) (fun _ h9 => h9) rfl (by decide +kernel) rfl rfl (Nat.le_of_ble_eq_true rfl) dX11_land_59 (fun H lo hP hD hS => ?_)
    refine lv_aload_n hx hb dX11_land_62 rfl (lv_at hl 0 rfl) ?_
    refine lv_iconst (v := (0 : Int32)) hx hb dX11_land_63 (by decide) ?_
    refine va_put (D := G.1) (ci := 7) (v := .int (0 : Int32)) (ty := .int) (C := RX11) (T := TX11) (N := 34) hx hb hts i11 tyX11 tyX11_ok nmX11 hown hK hP hD hS 0 rfl rfl 10 (by decide) (hw _ u1097) (fun _ h9 => h9) rfl (by decide +kernel) rfl rfl (Nat.le_of_ble_eq_true rfl) dX11_land_64 (fun H lo hP hD hS => ?_)
    refine lv_aload_n hx hb dX11_land_67 rfl (lv_at hl 0 rfl) ?_
    refine lv_iconst (v := (0 : Int32)) hx hb dX11_land_68 (by decide) ?_
    refine va_put (D := G.1) (ci := 7) (v := .int (0 : Int32)) (ty := .int) (C := RX11) (T := TX11) (N := 34) hx hb hts i11 tyX11 tyX11_ok nmX11 hown hK hP hD hS 0 rfl rfl 12 (by decide) (hw _ u1099) (fun _ h9 => h9) rfl (by decide +kernel) rfl rfl (Nat.le_of_ble_eq_true rfl) dX11_land_69 (fun H lo hP hD hS => ?_)
    refine lv_aload_n hx hb dX11_land_72 rfl (lv_at hl 0 rfl) ?_
    refine va_get (D := G.1) (ci := 7) (v := .ref aT_isKept) (C := RX11) (T := TX11) (N := 34) hx hb hts i11 hown hK hP 0 rfl rfl 15 (by decide) (hw _ u1102) (fun _ h9 => h9) rfl dX11_land_73 ?_
    refine lv_iconst (v := (0 : Int32)) hx hb dX11_land_76 (by decide) ?_
    refine lv_iconst (v := (0 : Int32)) hx hb dX11_land_77 (by decide) ?_
    obtain ⟨h23, hev⟩ := x_ck hev
    refine va_zast hx hb hK hP hD hS 4 2 rfl rfl h23 dX11_land_78 (fun H lo hP hD hS => ?_)
    refine lv_aload_n hx hb dX11_land_79 rfl (lv_at hl 0 rfl) ?_
    refine va_get (D := G.1) (ci := 7) (v := .ref aT_isKept) (C := RX11) (T := TX11) (N := 34) hx hb hts i11 hown hK hP 0 rfl rfl 15 (by decide) (hw _ u1102) (fun _ h9 => h9) rfl dX11_land_80 ?_
    refine lv_iconst (v := (1 : Int32)) hx hb dX11_land_83 (by decide) ?_
    refine lv_iconst (v := (0 : Int32)) hx hb dX11_land_84 (by decide) ?_
    obtain ⟨h24, hev⟩ := x_ck hev
    refine va_zast hx hb hK hP hD hS 4 2 rfl rfl h24 dX11_land_85 (fun H lo hP hD hS => ?_)
    refine lv_aload_n hx hb dX11_land_86 rfl (lv_at hl 0 rfl) ?_
    refine lv_iconst (v := (0 : Int32)) hx hb dX11_land_87 (by decide) ?_
    refine va_put (D := G.1) (ci := 7) (v := .int (0 : Int32)) (ty := .int) (C := RX11) (T := TX11) (N := 34) hx hb hts i11 tyX11 tyX11_ok nmX11 hown hK hP hD hS 0 rfl rfl 29 (by decide) (hw _ u1116) (fun _ h9 => h9) rfl (by decide +kernel) rfl rfl (Nat.le_of_ble_eq_true rfl) dX11_land_88 (fun H lo hP hD hS => ?_)
    refine lv_aload_n hx hb dX11_land_91 rfl (lv_at hl 0 rfl) ?_
    refine lv_iconst (v := (0 : Int32)) hx hb dX11_land_92 (by decide) ?_
    refine va_put (D := G.1) (ci := 7) (v := .int (0 : Int32)) (ty := .int) (C := RX11) (T := TX11) (N := 34) hx hb hts i11 tyX11 tyX11_ok nmX11 hown hK hP hD hS 0 rfl rfl 31 (by decide) (hw _ u1118) (fun _ h9 => h9) rfl (by decide +kernel) rfl rfl (Nat.le_of_ble_eq_true rfl) dX11_land_93 (fun H lo hP hD hS => ?_)
    refine lv_aload_n hx hb dX11_land_96 rfl (lv_at hl 0 rfl) ?_
    refine lv_iconst (v := (0 : Int32)) hx hb dX11_land_97 (by decide) ?_
    refine va_put (D := G.1) (ci := 7) (v := .int (0 : Int32)) (ty := .int) (C := RX11) (T := TX11) (N := 34) hx hb hts i11 tyX11 tyX11_ok nmX11 hown hK hP hD hS 0 rfl rfl 33 (by decide) (hw _ u1120) (fun _ h9 => h9) rfl (by decide +kernel) rfl rfl (Nat.le_of_ble_eq_true rfl) dX11_land_98 (fun H lo hP hD hS => ?_)
    refine lv_aload_n hx hb dX11_land_101 rfl (lv_at hl 0 rfl) ?_
    refine lv_iconst (v := (0 : Int32)) hx hb dX11_land_102 (by decide) ?_
    refine va_put (D := G.1) (ci := 7) (v := .int (0 : Int32)) (ty := .int) (C := RX11) (T := TX11) (N := 34) hx hb hts i11 tyX11 tyX11_ok nmX11 hown hK hP hD hS 0 rfl rfl 1 (by decide) (hw _ u1088) (fun _ h9 => h9) rfl (by decide +kernel) rfl rfl (Nat.le_of_ble_eq_true rfl) dX11_land_103 (fun H lo hP hD hS => ?_)
    refine lv_aload_n hx hb dX11_land_106 rfl (lv_at hl 0 rfl) ?_
    refine va_get (D := G.1) (ci := 7) (v := .int w5) (C := RX11) (T := TX11) (N := 34) hx hb hts i11 hown hK hP 0 rfl rfl 3 (by decide) (hw _ u1090) (fun _ h9 => h9) rfl dX11_land_107 ?_
    exact ret2 _ _ _ _ w5 w5 w2 (0 : Int32) w3 (0 : Int32) w17 y22 (0 : Int32) w18 w4 (0 : Int32) w5 w6 w7 (0 : Int32) w19 w20 (0 : Int32) (upd (upd fT_isKept ((0 : Int32)).toNatClampNeg (vp_nar .boolean (0 : Int32))) ((1 : Int32)).toNatClampNeg (vp_nar .boolean (0 : Int32))) w8 w21 (Option.some.inj hev) dX11_land_110 (show narrow _ (.int w5) = .int w5 from rfl) hP hD hS
  · replace hev := x_f c9 hev
    refine lv_bipush (v := (-4 : Int32)) hx hb dX11_land_8 (by decide) ?_
    exact ret2 _ _ _ _ (-4 : Int32) (-4 : Int32) w2 vT_deeds w3 vT_length vT_many vT_now vT_pastMany vT_people w4 vT_princeMany w5 w6 w7 vT_rowMany vT_toldBroken vT_toldDay vT_triedMany fT_isKept w8 fT_spells (Option.some.inj hev) dX11_land_10 (show narrow _ (.int (-4 : Int32)) = .int (-4 : Int32) from rfl) hP hD hS
def f_Mo_holdsOf (p0 : Int32) : Option (Int32) := some (p0 &&& (31 : Int32))
set_option maxHeartbeats 8000000 in
set_option maxRecDepth 100000 in
theorem c_Mo_holdsOf (l : Launch) (G : GG) (p0 : Int32) (r0 : Int32) (hev : f_Mo_holdsOf p0 = some r0) : RO l G yX11_holdsOf cX11_holdsOf 1 (some .int) 0 [.int p0] [] (some (.int r0)) := by
  refine RO_of (by decide) (Nat.le_of_ble_eq_true rfl) ?_
  intro p e s m ar below meth c R Q H ls X hR hP hKK hS0 hl ret
  generalize hrs : r0 = rs at hev ret
  have hl : lv_has ls 1 [(0, .int p0)] := hl
  obtain ⟨hx, hb, hml, hown, hts, hT⟩ := id X
  have hK := hKK.1
  have hw : ∀ w ∈ T0, w.before ar s = true := fun w h => hts w (hT w h)
  unfold f_Mo_holdsOf at hev
  refine lv_iload_n hx hb dX11_holdsOf_0 rfl (lv_at hl 0 rfl) ?_
  refine lv_bipush (v := (31 : Int32)) hx hb dX11_holdsOf_1 (by decide) ?_
  refine lv_iand hx hb dX11_holdsOf_3 ?_
  exact ret _ _ _ dX11_holdsOf_4 ((show narrow _ (.int (p0 &&& (31 : Int32))) = .int (p0 &&& (31 : Int32)) from rfl).trans (congrArg Value.int (Option.some.inj hev)))
def f_Mo_brokenOf (p0 : Int32) : Option (Int32) := some ((p0 >>> ((5 : Int32) &&& 31)) &&& (3 : Int32))
set_option maxHeartbeats 8000000 in
set_option maxRecDepth 100000 in
theorem c_Mo_brokenOf (l : Launch) (G : GG) (p0 : Int32) (r0 : Int32) (hev : f_Mo_brokenOf p0 = some r0) : RO l G yX11_brokenOf cX11_brokenOf 1 (some .int) 0 [.int p0] [] (some (.int r0)) := by
  refine RO_of (by decide) (Nat.le_of_ble_eq_true rfl) ?_
  intro p e s m ar below meth c R Q H ls X hR hP hKK hS0 hl ret
  generalize hrs : r0 = rs at hev ret
  have hl : lv_has ls 1 [(0, .int p0)] := hl
  obtain ⟨hx, hb, hml, hown, hts, hT⟩ := id X
  have hK := hKK.1
  have hw : ∀ w ∈ T0, w.before ar s = true := fun w h => hts w (hT w h)
  unfold f_Mo_brokenOf at hev
  refine lv_iload_n hx hb dX11_brokenOf_0 rfl (lv_at hl 0 rfl) ?_
  refine lv_iconst (v := (5 : Int32)) hx hb dX11_brokenOf_1 (by decide) ?_
  refine lv_ishr hx hb dX11_brokenOf_2 ?_
  refine lv_iconst (v := (3 : Int32)) hx hb dX11_brokenOf_3 (by decide) ?_
  refine lv_iand hx hb dX11_brokenOf_4 ?_
  exact ret _ _ _ dX11_brokenOf_5 ((show narrow _ (.int ((p0 >>> ((5 : Int32) &&& 31)) &&& (3 : Int32))) = .int ((p0 >>> ((5 : Int32) &&& 31)) &&& (3 : Int32)) from rfl).trans (congrArg Value.int (Option.some.inj hev)))
def f_Mo_weepersOf (p0 : Int32) : Option (Int32) := some ((p0 >>> ((7 : Int32) &&& 31)) &&& (7 : Int32))
set_option maxHeartbeats 8000000 in
set_option maxRecDepth 100000 in
theorem c_Mo_weepersOf (l : Launch) (G : GG) (p0 : Int32) (r0 : Int32) (hev : f_Mo_weepersOf p0 = some r0) : RO l G yX11_weepersOf cX11_weepersOf 1 (some .int) 0 [.int p0] [] (some (.int r0)) := by
  refine RO_of (by decide) (Nat.le_of_ble_eq_true rfl) ?_
  intro p e s m ar below meth c R Q H ls X hR hP hKK hS0 hl ret
  generalize hrs : r0 = rs at hev ret
  have hl : lv_has ls 1 [(0, .int p0)] := hl
  obtain ⟨hx, hb, hml, hown, hts, hT⟩ := id X
  have hK := hKK.1
  have hw : ∀ w ∈ T0, w.before ar s = true := fun w h => hts w (hT w h)
  unfold f_Mo_weepersOf at hev
  refine lv_iload_n hx hb dX11_weepersOf_0 rfl (lv_at hl 0 rfl) ?_
  refine lv_bipush (v := (7 : Int32)) hx hb dX11_weepersOf_1 (by decide) ?_
  refine lv_ishr hx hb dX11_weepersOf_3 ?_
  refine lv_bipush (v := (7 : Int32)) hx hb dX11_weepersOf_4 (by decide) ?_
  refine lv_iand hx hb dX11_weepersOf_6 ?_
  exact ret _ _ _ dX11_weepersOf_7 ((show narrow _ (.int ((p0 >>> ((7 : Int32) &&& 31)) &&& (7 : Int32))) = .int ((p0 >>> ((7 : Int32) &&& 31)) &&& (7 : Int32)) from rfl).trans (congrArg Value.int (Option.some.inj hev)))
def f_Mo_askedOf (p0 : Int32) : Option (Int32) := some ((p0 >>> ((10 : Int32) &&& 31)) &&& (7 : Int32))
set_option maxHeartbeats 8000000 in
set_option maxRecDepth 100000 in
theorem c_Mo_askedOf (l : Launch) (G : GG) (p0 : Int32) (r0 : Int32) (hev : f_Mo_askedOf p0 = some r0) : RO l G yX11_askedOf cX11_askedOf 1 (some .int) 0 [.int p0] [] (some (.int r0)) := by
  refine RO_of (by decide) (Nat.le_of_ble_eq_true rfl) ?_
  intro p e s m ar below meth c R Q H ls X hR hP hKK hS0 hl ret
  generalize hrs : r0 = rs at hev ret
  have hl : lv_has ls 1 [(0, .int p0)] := hl
  obtain ⟨hx, hb, hml, hown, hts, hT⟩ := id X
  have hK := hKK.1
  have hw : ∀ w ∈ T0, w.before ar s = true := fun w h => hts w (hT w h)
  unfold f_Mo_askedOf at hev
  refine lv_iload_n hx hb dX11_askedOf_0 rfl (lv_at hl 0 rfl) ?_
  refine lv_bipush (v := (10 : Int32)) hx hb dX11_askedOf_1 (by decide) ?_
  refine lv_ishr hx hb dX11_askedOf_3 ?_
  refine lv_bipush (v := (7 : Int32)) hx hb dX11_askedOf_4 (by decide) ?_
  refine lv_iand hx hb dX11_askedOf_6 ?_
  exact ret _ _ _ dX11_askedOf_7 ((show narrow _ (.int ((p0 >>> ((10 : Int32) &&& 31)) &&& (7 : Int32))) = .int ((p0 >>> ((10 : Int32) &&& 31)) &&& (7 : Int32)) from rfl).trans (congrArg Value.int (Option.some.inj hev)))
def f_Mo_dayOf (p0 : Int32) : Option (Int32) := some (p0 >>> ((13 : Int32) &&& 31))
set_option maxHeartbeats 8000000 in
set_option maxRecDepth 100000 in
theorem c_Mo_dayOf (l : Launch) (G : GG) (p0 : Int32) (r0 : Int32) (hev : f_Mo_dayOf p0 = some r0) : RO l G yX11_dayOf cX11_dayOf 1 (some .int) 0 [.int p0] [] (some (.int r0)) := by
  refine RO_of (by decide) (Nat.le_of_ble_eq_true rfl) ?_
  intro p e s m ar below meth c R Q H ls X hR hP hKK hS0 hl ret
  generalize hrs : r0 = rs at hev ret
  have hl : lv_has ls 1 [(0, .int p0)] := hl
  obtain ⟨hx, hb, hml, hown, hts, hT⟩ := id X
  have hK := hKK.1
  have hw : ∀ w ∈ T0, w.before ar s = true := fun w h => hts w (hT w h)
  unfold f_Mo_dayOf at hev
  refine lv_iload_n hx hb dX11_dayOf_0 rfl (lv_at hl 0 rfl) ?_
  refine lv_bipush (v := (13 : Int32)) hx hb dX11_dayOf_1 (by decide) ?_
  refine lv_ishr hx hb dX11_dayOf_3 ?_
  exact ret _ _ _ dX11_dayOf_4 ((show narrow _ (.int (p0 >>> ((13 : Int32) &&& 31))) = .int (p0 >>> ((13 : Int32) &&& 31)) from rfl).trans (congrArg Value.int (Option.some.inj hev)))
def f_Mo_isUnder_J64 (rec : Int32 → Int32 → Option (Int32)) (k : Nat) (vT_many : Int32) (fT_spells : Nat → Int32) (x1 : Int32) (x2 : Int32) (x3 : Int32) (x5 : Int32) (s0 : Int32) : Option (Int32) := x_L (x5 + (1 : Int32)) (fun y1 => rec s0 y1)
def f_Mo_isUnder_J63 (rec : Int32 → Int32 → Option (Int32)) (k : Nat) (vT_many : Int32) (fT_spells : Nat → Int32) (x1 : Int32) (x2 : Int32) (x3 : Int32) (x5 : Int32) : Option (Int32) := f_Mo_isUnder_J64 rec k vT_many fT_spells x1 x2 x3 x5 (0 : Int32)
def f_Mo_isUnder_J59 (rec : Int32 → Int32 → Option (Int32)) (k : Nat) (vT_many : Int32) (fT_spells : Nat → Int32) (x1 : Int32) (x2 : Int32) (x3 : Int32) (x5 : Int32) : Option (Int32) := f_Mo_isUnder_J64 rec k vT_many fT_spells x1 x2 x3 x5 (1 : Int32)
def f_Mo_isUnder_L6 (vT_many : Int32) (fT_spells : Nat → Int32) (x1 : Int32) (x2 : Int32) (x3 : Int32) : Nat → Int32 → Int32 → Option (Int32)
  | 0, _, _ => none
  | k + 1, x4, x5 => if vT_many ≤ x5 then (some x4) else if x4 = 0 then (x_B (f_Mo_has x1 x5) (fun y4 => if y4 = 0 then (f_Mo_isUnder_J63 (f_Mo_isUnder_L6 vT_many fT_spells x1 x2 x3 k) k vT_many fT_spells x1 x2 x3 x5) else x_L (((10 : Int32) * x5)) (fun y6 => x_I 50 fT_spells y6 (fun v8 => if v8 = x3 then (x_L ((((10 : Int32) * x5) + (1 : Int32))) (fun y10 => x_I 50 fT_spells y10 (fun v12 => if v12 = x2 then (f_Mo_isUnder_J59 (f_Mo_isUnder_L6 vT_many fT_spells x1 x2 x3 k) k vT_many fT_spells x1 x2 x3 x5) else f_Mo_isUnder_J63 (f_Mo_isUnder_L6 vT_many fT_spells x1 x2 x3 k) k vT_many fT_spells x1 x2 x3 x5))) else f_Mo_isUnder_J63 (f_Mo_isUnder_L6 vT_many fT_spells x1 x2 x3 k) k vT_many fT_spells x1 x2 x3 x5)))) else f_Mo_isUnder_J59 (f_Mo_isUnder_L6 vT_many fT_spells x1 x2 x3 k) k vT_many fT_spells x1 x2 x3 x5
def f_Mo_isUnder (k : Nat) (vT_many : Int32) (fT_spells : Nat → Int32) (p1 : Int32) (p2 : Int32) (p3 : Int32) : Option (Int32) := x_B (f_Mo_isUnder_L6 vT_many fT_spells p1 p2 p3 k (0 : Int32) (0 : Int32)) (fun y14 => some (y14 &&& 1))
set_option maxHeartbeats 8000000 in
set_option maxRecDepth 100000 in
theorem c_Mo_isUnder (l : Launch) (G : GG) (aT aT_text aT_read aT_spells aT_pasts aT_keptStates aT_keptDeeds aT_isKept aT_fars aT_queue aT_later aT_onWay aT_row aT_princes aT_tries : Nat) (vT_length : Int32) (vT_readMany : Int32) (vT_people : Int32) (vT_toldDay : Int32) (vT_toldBroken : Int32) (vT_many : Int32) (vT_now : Int32) (vT_deeds : Int32) (vT_pastMany : Int32) (vT_at : Int32) (vT_place : Int32) (vT_end : Int32) (vT_readPeople : Int32) (vT_readSpells : Int32) (vT_lifted : Int32) (vT_queued : Int32) (vT_laterMany : Int32) (vT_rowMany : Int32) (vT_princeMany : Int32) (vT_triedMany : Int32) (fT_spells : Nat → Int32) (k : Nat) (p1 : Int32) (p2 : Int32) (p3 : Int32) (r0 : Int32) (hev : f_Mo_isUnder k vT_many fT_spells p1 p2 p3 = some r0) : RO l G yX11_isUnder cX11_isUnder 6 (some .boolean) 1 [.ref aT, .int p1, .int p2, .int p3] [(aT, .inr (7, [.ref aT_text, .int vT_length, .ref aT_read, .int vT_readMany, .int vT_people, .int vT_toldDay, .int vT_toldBroken, .ref aT_spells, .int vT_many, .int vT_now, .int vT_deeds, .ref aT_pasts, .int vT_pastMany, .ref aT_keptStates, .ref aT_keptDeeds, .ref aT_isKept, .int vT_at, .int vT_place, .int vT_end, .int vT_readPeople, .int vT_readSpells, .int vT_lifted, .ref aT_fars, .ref aT_queue, .int vT_queued, .ref aT_later, .int vT_laterMany, .ref aT_onWay, .ref aT_row, .int vT_rowMany, .ref aT_princes, .int vT_princeMany, .ref aT_tries, .int vT_triedMany])), (aT_spells, .inl (G.2.1, 50, .inl fT_spells))] (some (.int r0)) := by
  refine RO_of (by decide) (Nat.le_of_ble_eq_true rfl) ?_
  intro p e s m ar below meth c R Q H ls X hR hP hKK hS0 hl ret
  generalize hrs : r0 = rs at hev ret
  have hl : lv_has ls 6 [(0, .ref aT), (1, .int p1), (2, .int p2), (3, .int p3)] := hl
  obtain ⟨hx, hb, hml, hown, hts, hT⟩ := id X
  have hK := hKK.1
  have hw : ∀ w ∈ T0, w.before ar s = true := fun w h => hts w (hT w h)
  have i11 := fun w h => hT w (inT11 w h)
  unfold f_Mo_isUnder at hev
  refine lv_iconst (v := (0 : Int32)) hx hb dX11_isUnder_0 (by decide) ?_
  refine lv_istore (lv' := [(4, .int (0 : Int32)), (0, .ref aT), (1, .int p1), (2, .int p2), (3, .int p3)]) hx hb dX11_isUnder_1 hl (by decide) rfl (fun ls hl => ?_)
  refine lv_iconst (v := (0 : Int32)) hx hb dX11_isUnder_3 (by decide) ?_
  refine lv_istore (lv' := [(5, .int (0 : Int32)), (4, .int (0 : Int32)), (0, .ref aT), (1, .int p1), (2, .int p2), (3, .int p3)]) hx hb dX11_isUnder_4 hl (by decide) rfl (fun ls hl => ?_)
  have L6 : ∀ (x1 : Int32) (x2 : Int32) (x3 : Int32), ∀ (k : Nat) (x4 : Int32) (x5 : Int32) (o4 : Int32), f_Mo_isUnder_L6 vT_many fT_spells x1 x2 x3 k x4 x5 = some o4 → (∀ (ls : Array Slot), lv_has ls 6 [(4, .int o4)] → W p l e R s m ar below meth c H [] 0 0 Q (F0 m 72 ls [])) → ∀ (ls : Array Slot), lv_has ls 6 [(0, .ref aT), (1, .int x1), (2, .int x2), (3, .int x3), (4, .int x4), (5, .int x5)] → W p l e R s m ar below meth c H [] 0 0 Q (F0 m 6 ls []) := by
    intro x1 x2 x3 k
    induction k with
    | zero => intro x4 x5 o4 hev; rw [f_Mo_isUnder_L6] at hev; cases hev
    | succ k ih =>
      intro x4 x5 o4 hev hex ls hl
      rw [f_Mo_isUnder_L6] at hev
      have J64 : ∀ (x5 : Int32) (s0 : Int32), ∀ (ls : Array Slot), f_Mo_isUnder_J64 (f_Mo_isUnder_L6 vT_many fT_spells x1 x2 x3 k) k vT_many fT_spells x1 x2 x3 x5 s0 = some o4 → lv_has ls 6 [(0, .ref aT), (1, .int x1), (2, .int x2), (3, .int x3), (5, .int x5)] → W p l e R s m ar below meth c H [] 0 0 Q (F0 m 64 ls [.int s0]) := by
        intro x5 s0 ls hev hl
        unfold f_Mo_isUnder_J64 at hev
        refine lv_istore (lv' := [(4, .int s0), (0, .ref aT), (1, .int x1), (2, .int x2), (3, .int x3), (5, .int x5)]) hx hb dX11_isUnder_64 hl (by decide) rfl (fun ls hl => ?_)
        obtain ⟨y1, ey1⟩ : ∃ y : Int32, y = x5 + (1 : Int32) := ⟨_, rfl⟩
        refine lv_iinc (v := y1) (lv' := [(5, .int y1), (4, .int s0), (0, .ref aT), (1, .int x1), (2, .int x2), (3, .int x3)]) hx hb dX11_isUnder_66 hl (k := 5) rfl (by rw [ey1]; rfl) (by decide) rfl (fun ls hl => ?_)
        replace hev := x_lt hev y1 ey1
        refine lv_goto (tgt := 6) hx hb dX11_isUnder_69 (by decide) ?_
        exact ih s0 y1 _ hev hex ls (lv_sub hl [2, 3, 4, 5, 1, 0] rfl)
      have J63 : ∀ (x5 : Int32), ∀ (ls : Array Slot), f_Mo_isUnder_J63 (f_Mo_isUnder_L6 vT_many fT_spells x1 x2 x3 k) k vT_many fT_spells x1 x2 x3 x5 = some o4 → lv_has ls 6 [(0, .ref aT), (1, .int x1), (2, .int x2), (3, .int x3), (5, .int x5)] → W p l e R s m ar below meth c H [] 0 0 Q (F0 m 63 ls []) := by
        intro x5 ls hev hl
        unfold f_Mo_isUnder_J63 at hev
        refine lv_iconst (v := (0 : Int32)) hx hb dX11_isUnder_63 (by decide) ?_
        exact J64 x5 (0 : Int32) ls hev (lv_sub hl [0, 1, 2, 3, 4] rfl)
      have J59 : ∀ (x5 : Int32), ∀ (ls : Array Slot), f_Mo_isUnder_J59 (f_Mo_isUnder_L6 vT_many fT_spells x1 x2 x3 k) k vT_many fT_spells x1 x2 x3 x5 = some o4 → lv_has ls 6 [(0, .ref aT), (1, .int x1), (2, .int x2), (3, .int x3), (5, .int x5)] → W p l e R s m ar below meth c H [] 0 0 Q (F0 m 59 ls []) := by
        intro x5 ls hev hl
        unfold f_Mo_isUnder_J59 at hev
        refine lv_iconst (v := (1 : Int32)) hx hb dX11_isUnder_59 (by decide) ?_
        refine lv_goto (tgt := 64) hx hb dX11_isUnder_60 (by decide) ?_
        exact J64 x5 (1 : Int32) ls hev (lv_sub hl [0, 1, 2, 3, 4] rfl)
      refine lv_iload hx hb dX11_isUnder_6 (lv_at hl 5 rfl) ?_
      refine lv_aload_n hx hb dX11_isUnder_8 rfl (lv_at hl 0 rfl) ?_
      refine va_get (D := G.1) (ci := 7) (v := .int vT_many) (C := RX11) (T := TX11) (N := 34) hx hb hts i11 hown hK hP 0 rfl rfl 8 (by decide) (hw _ u1095) (fun _ h9 => h9) rfl dX11_isUnder_9 ?_
      refine lv_icmp_ge (tgt := 72) hx hb dX11_isUnder_12 (by decide) (fun c2 => ?_) (fun c2 => ?_)
      · replace hev := x_t c2 hev
        cases hev
        exact hex ls (lv_sub hl [4] rfl)
      · replace hev := x_f c2 hev
        refine lv_iload hx hb dX11_isUnder_15 (lv_at hl 4 rfl) ?_
        refine lv_if_ne (tgt := 59) hx hb dX11_isUnder_17 (by decide) (fun c3 => ?_) (fun c3 => ?_)
        · replace hev := x_f c3 hev
          exact J59 x5 ls hev (lv_sub hl [0, 1, 2, 3, 5] rfl)
        · replace hev := x_t c3 hev
          refine lv_iload_n hx hb dX11_isUnder_20 rfl (lv_at hl 1 rfl) ?_
          refine lv_iload hx hb dX11_isUnder_21 (lv_at hl 5 rfl) ?_
          obtain ⟨y4, hq, hev⟩ := x_bd hev
          refine roS X hKK hR (st1 := [.int y4]) (c_Mo_has l G x1 x5 y4 hq) K_X11_has u1287 (x_Psub hP [] rfl) (by decide) ⟨Nat.zero_le _, Nat.zero_le _⟩ rfl hl.1 rfl (Nat.le_of_ble_eq_true rfl) rfl dX11_isUnder_23 ?_
          refine lv_if_eq (tgt := 63) hx hb dX11_isUnder_26 (by decide) (fun c5 => ?_) (fun c5 => ?_)
          · replace hev := x_t c5 hev
            exact J63 x5 ls hev (lv_sub hl [0, 1, 2, 3, 5] rfl)
          · replace hev := x_f c5 hev
            refine lv_aload_n hx hb dX11_isUnder_29 rfl (lv_at hl 0 rfl) ?_
            refine va_get (D := G.1) (ci := 7) (v := .ref aT_spells) (C := RX11) (T := TX11) (N := 34) hx hb hts i11 hown hK hP 0 rfl rfl 7 (by decide) (hw _ u1094) (fun _ h9 => h9) rfl dX11_isUnder_30 ?_
            refine lv_bipush (v := (10 : Int32)) hx hb dX11_isUnder_33 (by decide) ?_
            refine lv_iload hx hb dX11_isUnder_35 (lv_at hl 5 rfl) ?_
            refine lv_imul hx hb dX11_isUnder_37 ?_
            refine lv_topi (fun y6 ey6 => ?_)
            replace hev := x_lt hev y6 ey6
            obtain ⟨h7, hev⟩ := x_ld hev
            refine va_iald hx hb hK hP 1 0 rfl rfl h7 dX11_isUnder_38 ?_
            refine lv_topi (fun v8 ev8 => ?_)
            replace hev := hev v8 ev8
            refine lv_iload_n hx hb dX11_isUnder_39 rfl (lv_at hl 3 rfl) ?_
            refine lv_icmp_ne (tgt := 63) hx hb dX11_isUnder_40 (by decide) (fun c9 => ?_) (fun c9 => ?_)
            · replace hev := x_f c9 hev
              exact J63 x5 ls hev (lv_sub hl [0, 1, 2, 3, 5] rfl)
            · replace hev := x_t c9 hev
              refine lv_aload_n hx hb dX11_isUnder_43 rfl (lv_at hl 0 rfl) ?_
              refine va_get (D := G.1) (ci := 7) (v := .ref aT_spells) (C := RX11) (T := TX11) (N := 34) hx hb hts i11 hown hK hP 0 rfl rfl 7 (by decide) (hw _ u1094) (fun _ h9 => h9) rfl dX11_isUnder_44 ?_
              refine lv_bipush (v := (10 : Int32)) hx hb dX11_isUnder_47 (by decide) ?_
              refine lv_iload hx hb dX11_isUnder_49 (lv_at hl 5 rfl) ?_
              refine lv_imul hx hb dX11_isUnder_51 ?_
              refine lv_iconst (v := (1 : Int32)) hx hb dX11_isUnder_52 (by decide) ?_
              refine lv_iadd hx hb dX11_isUnder_53 ?_
              refine lv_topi (fun y10 ey10 => ?_)
              replace hev := x_lt hev y10 ey10
              obtain ⟨h11, hev⟩ := x_ld hev
              refine va_iald hx hb hK hP 1 0 rfl rfl h11 dX11_isUnder_54 ?_
              refine lv_topi (fun v12 ev12 => ?_)
              replace hev := hev v12 ev12
              refine lv_iload_n hx hb dX11_isUnder_55 rfl (lv_at hl 2 rfl) ?_
              refine lv_icmp_ne (tgt := 63) hx hb dX11_isUnder_56 (by decide) (fun c13 => ?_) (fun c13 => ?_)
              · replace hev := x_f c13 hev
                exact J63 x5 ls hev (lv_sub hl [0, 1, 2, 3, 5] rfl)
              · replace hev := x_t c13 hev
                exact J59 x5 ls hev (lv_sub hl [0, 1, 2, 3, 5] rfl)
  obtain ⟨y14, hq, hev⟩ := x_bd hev
  refine L6 p1 p2 p3 k (0 : Int32) (0 : Int32) y14 hq (fun ls hl => ?_) ls (lv_sub hl [2, 3, 4, 5, 1, 0] rfl)
  refine lv_iload hx hb dX11_isUnder_72 (lv_at hl 0 rfl) ?_
  exact ret _ _ _ dX11_isUnder_74 ((show narrow _ (.int y14) = .int (y14 &&& 1) from rfl).trans (congrArg Value.int (Option.some.inj hev)))
def f_Mo_isBound_J62 (rec : Int32 → Int32 → Option (Int32)) (k : Nat) (vT_many : Int32) (fT_spells : Nat → Int32) (x1 : Int32) (x2 : Int32) (x4 : Int32) (s0 : Int32) : Option (Int32) := x_L (x4 + (1 : Int32)) (fun y1 => rec s0 y1)
def f_Mo_isBound_J61 (rec : Int32 → Int32 → Option (Int32)) (k : Nat) (vT_many : Int32) (fT_spells : Nat → Int32) (x1 : Int32) (x2 : Int32) (x4 : Int32) : Option (Int32) := f_Mo_isBound_J62 rec k vT_many fT_spells x1 x2 x4 (0 : Int32)
def f_Mo_isBound_J57 (rec : Int32 → Int32 → Option (Int32)) (k : Nat) (vT_many : Int32) (fT_spells : Nat → Int32) (x1 : Int32) (x2 : Int32) (x4 : Int32) : Option (Int32) := f_Mo_isBound_J62 rec k vT_many fT_spells x1 x2 x4 (1 : Int32)
def f_Mo_isBound_L5 (vT_many : Int32) (fT_spells : Nat → Int32) (x1 : Int32) (x2 : Int32) : Nat → Int32 → Int32 → Option (Int32)
  | 0, _, _ => none
  | k + 1, x3, x4 => if vT_many ≤ x4 then (some x3) else if x3 = 0 then (x_B (f_Mo_has x1 x4) (fun y4 => if y4 = 0 then (f_Mo_isBound_J61 (f_Mo_isBound_L5 vT_many fT_spells x1 x2 k) k vT_many fT_spells x1 x2 x4) else x_L (((10 : Int32) * x4)) (fun y6 => x_I 50 fT_spells y6 (fun v8 => if v8 = (3 : Int32) then (x_L ((((10 : Int32) * x4) + (1 : Int32))) (fun y10 => x_I 50 fT_spells y10 (fun v12 => if v12 = x2 then (f_Mo_isBound_J57 (f_Mo_isBound_L5 vT_many fT_spells x1 x2 k) k vT_many fT_spells x1 x2 x4) else f_Mo_isBound_J61 (f_Mo_isBound_L5 vT_many fT_spells x1 x2 k) k vT_many fT_spells x1 x2 x4))) else f_Mo_isBound_J61 (f_Mo_isBound_L5 vT_many fT_spells x1 x2 k) k vT_many fT_spells x1 x2 x4)))) else f_Mo_isBound_J57 (f_Mo_isBound_L5 vT_many fT_spells x1 x2 k) k vT_many fT_spells x1 x2 x4
def f_Mo_isBound (k : Nat) (vT_many : Int32) (fT_spells : Nat → Int32) (p1 : Int32) (p2 : Int32) : Option (Int32) := x_B (f_Mo_isBound_L5 vT_many fT_spells p1 p2 k (0 : Int32) (0 : Int32)) (fun y14 => some (y14 &&& 1))
set_option maxHeartbeats 8000000 in
set_option maxRecDepth 100000 in
theorem c_Mo_isBound (l : Launch) (G : GG) (aT aT_text aT_read aT_spells aT_pasts aT_keptStates aT_keptDeeds aT_isKept aT_fars aT_queue aT_later aT_onWay aT_row aT_princes aT_tries : Nat) (vT_length : Int32) (vT_readMany : Int32) (vT_people : Int32) (vT_toldDay : Int32) (vT_toldBroken : Int32) (vT_many : Int32) (vT_now : Int32) (vT_deeds : Int32) (vT_pastMany : Int32) (vT_at : Int32) (vT_place : Int32) (vT_end : Int32) (vT_readPeople : Int32) (vT_readSpells : Int32) (vT_lifted : Int32) (vT_queued : Int32) (vT_laterMany : Int32) (vT_rowMany : Int32) (vT_princeMany : Int32) (vT_triedMany : Int32) (fT_spells : Nat → Int32) (k : Nat) (p1 : Int32) (p2 : Int32) (r0 : Int32) (hev : f_Mo_isBound k vT_many fT_spells p1 p2 = some r0) : RO l G yX11_isBound cX11_isBound 5 (some .boolean) 1 [.ref aT, .int p1, .int p2] [(aT, .inr (7, [.ref aT_text, .int vT_length, .ref aT_read, .int vT_readMany, .int vT_people, .int vT_toldDay, .int vT_toldBroken, .ref aT_spells, .int vT_many, .int vT_now, .int vT_deeds, .ref aT_pasts, .int vT_pastMany, .ref aT_keptStates, .ref aT_keptDeeds, .ref aT_isKept, .int vT_at, .int vT_place, .int vT_end, .int vT_readPeople, .int vT_readSpells, .int vT_lifted, .ref aT_fars, .ref aT_queue, .int vT_queued, .ref aT_later, .int vT_laterMany, .ref aT_onWay, .ref aT_row, .int vT_rowMany, .ref aT_princes, .int vT_princeMany, .ref aT_tries, .int vT_triedMany])), (aT_spells, .inl (G.2.1, 50, .inl fT_spells))] (some (.int r0)) := by
  refine RO_of (by decide) (Nat.le_of_ble_eq_true rfl) ?_
  intro p e s m ar below meth c R Q H ls X hR hP hKK hS0 hl ret
  generalize hrs : r0 = rs at hev ret
  have hl : lv_has ls 5 [(0, .ref aT), (1, .int p1), (2, .int p2)] := hl
  obtain ⟨hx, hb, hml, hown, hts, hT⟩ := id X
  have hK := hKK.1
  have hw : ∀ w ∈ T0, w.before ar s = true := fun w h => hts w (hT w h)
  have i11 := fun w h => hT w (inT11 w h)
  unfold f_Mo_isBound at hev
  refine lv_iconst (v := (0 : Int32)) hx hb dX11_isBound_0 (by decide) ?_
  refine lv_istore_n (lv' := [(3, .int (0 : Int32)), (0, .ref aT), (1, .int p1), (2, .int p2)]) hx hb dX11_isBound_1 rfl hl (by decide) rfl (fun ls hl => ?_)
  refine lv_iconst (v := (0 : Int32)) hx hb dX11_isBound_2 (by decide) ?_
  refine lv_istore (lv' := [(4, .int (0 : Int32)), (3, .int (0 : Int32)), (0, .ref aT), (1, .int p1), (2, .int p2)]) hx hb dX11_isBound_3 hl (by decide) rfl (fun ls hl => ?_)
  have L5 : ∀ (x1 : Int32) (x2 : Int32), ∀ (k : Nat) (x3 : Int32) (x4 : Int32) (o3 : Int32), f_Mo_isBound_L5 vT_many fT_spells x1 x2 k x3 x4 = some o3 → (∀ (ls : Array Slot), lv_has ls 5 [(3, .int o3)] → W p l e R s m ar below meth c H [] 0 0 Q (F0 m 69 ls [])) → ∀ (ls : Array Slot), lv_has ls 5 [(0, .ref aT), (1, .int x1), (2, .int x2), (3, .int x3), (4, .int x4)] → W p l e R s m ar below meth c H [] 0 0 Q (F0 m 5 ls []) := by
    intro x1 x2 k
    induction k with
    | zero => intro x3 x4 o3 hev; rw [f_Mo_isBound_L5] at hev; cases hev
    | succ k ih =>
      intro x3 x4 o3 hev hex ls hl
      rw [f_Mo_isBound_L5] at hev
      have J62 : ∀ (x4 : Int32) (s0 : Int32), ∀ (ls : Array Slot), f_Mo_isBound_J62 (f_Mo_isBound_L5 vT_many fT_spells x1 x2 k) k vT_many fT_spells x1 x2 x4 s0 = some o3 → lv_has ls 5 [(0, .ref aT), (1, .int x1), (2, .int x2), (4, .int x4)] → W p l e R s m ar below meth c H [] 0 0 Q (F0 m 62 ls [.int s0]) := by
        intro x4 s0 ls hev hl
        unfold f_Mo_isBound_J62 at hev
        refine lv_istore_n (lv' := [(3, .int s0), (0, .ref aT), (1, .int x1), (2, .int x2), (4, .int x4)]) hx hb dX11_isBound_62 rfl hl (by decide) rfl (fun ls hl => ?_)
        obtain ⟨y1, ey1⟩ : ∃ y : Int32, y = x4 + (1 : Int32) := ⟨_, rfl⟩
        refine lv_iinc (v := y1) (lv' := [(4, .int y1), (3, .int s0), (0, .ref aT), (1, .int x1), (2, .int x2)]) hx hb dX11_isBound_63 hl (k := 4) rfl (by rw [ey1]; rfl) (by decide) rfl (fun ls hl => ?_)
        replace hev := x_lt hev y1 ey1
        refine lv_goto (tgt := 5) hx hb dX11_isBound_66 (by decide) ?_
        exact ih s0 y1 _ hev hex ls (lv_sub hl [2, 3, 4, 1, 0] rfl)
      have J61 : ∀ (x4 : Int32), ∀ (ls : Array Slot), f_Mo_isBound_J61 (f_Mo_isBound_L5 vT_many fT_spells x1 x2 k) k vT_many fT_spells x1 x2 x4 = some o3 → lv_has ls 5 [(0, .ref aT), (1, .int x1), (2, .int x2), (4, .int x4)] → W p l e R s m ar below meth c H [] 0 0 Q (F0 m 61 ls []) := by
        intro x4 ls hev hl
        unfold f_Mo_isBound_J61 at hev
        refine lv_iconst (v := (0 : Int32)) hx hb dX11_isBound_61 (by decide) ?_
        exact J62 x4 (0 : Int32) ls hev (lv_sub hl [0, 1, 2, 3] rfl)
      have J57 : ∀ (x4 : Int32), ∀ (ls : Array Slot), f_Mo_isBound_J57 (f_Mo_isBound_L5 vT_many fT_spells x1 x2 k) k vT_many fT_spells x1 x2 x4 = some o3 → lv_has ls 5 [(0, .ref aT), (1, .int x1), (2, .int x2), (4, .int x4)] → W p l e R s m ar below meth c H [] 0 0 Q (F0 m 57 ls []) := by
        intro x4 ls hev hl
        unfold f_Mo_isBound_J57 at hev
        refine lv_iconst (v := (1 : Int32)) hx hb dX11_isBound_57 (by decide) ?_
        refine lv_goto (tgt := 62) hx hb dX11_isBound_58 (by decide) ?_
        exact J62 x4 (1 : Int32) ls hev (lv_sub hl [0, 1, 2, 3] rfl)
      refine lv_iload hx hb dX11_isBound_5 (lv_at hl 4 rfl) ?_
      refine lv_aload_n hx hb dX11_isBound_7 rfl (lv_at hl 0 rfl) ?_
      refine va_get (D := G.1) (ci := 7) (v := .int vT_many) (C := RX11) (T := TX11) (N := 34) hx hb hts i11 hown hK hP 0 rfl rfl 8 (by decide) (hw _ u1095) (fun _ h9 => h9) rfl dX11_isBound_8 ?_
      refine lv_icmp_ge (tgt := 69) hx hb dX11_isBound_11 (by decide) (fun c2 => ?_) (fun c2 => ?_)
      · replace hev := x_t c2 hev
        cases hev
        exact hex ls (lv_sub hl [3] rfl)
      · replace hev := x_f c2 hev
        refine lv_iload_n hx hb dX11_isBound_14 rfl (lv_at hl 3 rfl) ?_
        refine lv_if_ne (tgt := 57) hx hb dX11_isBound_15 (by decide) (fun c3 => ?_) (fun c3 => ?_)
        · replace hev := x_f c3 hev
          exact J57 x4 ls hev (lv_sub hl [0, 1, 2, 4] rfl)
        · replace hev := x_t c3 hev
          refine lv_iload_n hx hb dX11_isBound_18 rfl (lv_at hl 1 rfl) ?_
          refine lv_iload hx hb dX11_isBound_19 (lv_at hl 4 rfl) ?_
          obtain ⟨y4, hq, hev⟩ := x_bd hev
          refine roS X hKK hR (st1 := [.int y4]) (c_Mo_has l G x1 x4 y4 hq) K_X11_has u1287 (x_Psub hP [] rfl) (by decide) ⟨Nat.zero_le _, Nat.zero_le _⟩ rfl hl.1 rfl (Nat.le_of_ble_eq_true rfl) rfl dX11_isBound_21 ?_
          refine lv_if_eq (tgt := 61) hx hb dX11_isBound_24 (by decide) (fun c5 => ?_) (fun c5 => ?_)
          · replace hev := x_t c5 hev
            exact J61 x4 ls hev (lv_sub hl [0, 1, 2, 4] rfl)
          · replace hev := x_f c5 hev
            refine lv_aload_n hx hb dX11_isBound_27 rfl (lv_at hl 0 rfl) ?_
            refine va_get (D := G.1) (ci := 7) (v := .ref aT_spells) (C := RX11) (T := TX11) (N := 34) hx hb hts i11 hown hK hP 0 rfl rfl 7 (by decide) (hw _ u1094) (fun _ h9 => h9) rfl dX11_isBound_28 ?_
            refine lv_bipush (v := (10 : Int32)) hx hb dX11_isBound_31 (by decide) ?_
            refine lv_iload hx hb dX11_isBound_33 (lv_at hl 4 rfl) ?_
            refine lv_imul hx hb dX11_isBound_35 ?_
            refine lv_topi (fun y6 ey6 => ?_)
            replace hev := x_lt hev y6 ey6
            obtain ⟨h7, hev⟩ := x_ld hev
            refine va_iald hx hb hK hP 1 0 rfl rfl h7 dX11_isBound_36 ?_
            refine lv_topi (fun v8 ev8 => ?_)
            replace hev := hev v8 ev8
            refine lv_iconst (v := (3 : Int32)) hx hb dX11_isBound_37 (by decide) ?_
            refine lv_icmp_ne (tgt := 61) hx hb dX11_isBound_38 (by decide) (fun c9 => ?_) (fun c9 => ?_)
            · replace hev := x_f c9 hev
              exact J61 x4 ls hev (lv_sub hl [0, 1, 2, 4] rfl)
            · replace hev := x_t c9 hev
              refine lv_aload_n hx hb dX11_isBound_41 rfl (lv_at hl 0 rfl) ?_
              refine va_get (D := G.1) (ci := 7) (v := .ref aT_spells) (C := RX11) (T := TX11) (N := 34) hx hb hts i11 hown hK hP 0 rfl rfl 7 (by decide) (hw _ u1094) (fun _ h9 => h9) rfl dX11_isBound_42 ?_
              refine lv_bipush (v := (10 : Int32)) hx hb dX11_isBound_45 (by decide) ?_
              refine lv_iload hx hb dX11_isBound_47 (lv_at hl 4 rfl) ?_
              refine lv_imul hx hb dX11_isBound_49 ?_
              refine lv_iconst (v := (1 : Int32)) hx hb dX11_isBound_50 (by decide) ?_
              refine lv_iadd hx hb dX11_isBound_51 ?_
              refine lv_topi (fun y10 ey10 => ?_)
              replace hev := x_lt hev y10 ey10
              obtain ⟨h11, hev⟩ := x_ld hev
              refine va_iald hx hb hK hP 1 0 rfl rfl h11 dX11_isBound_52 ?_
              refine lv_topi (fun v12 ev12 => ?_)
              replace hev := hev v12 ev12
              refine lv_iload_n hx hb dX11_isBound_53 rfl (lv_at hl 2 rfl) ?_
              refine lv_icmp_ne (tgt := 61) hx hb dX11_isBound_54 (by decide) (fun c13 => ?_) (fun c13 => ?_)
              · replace hev := x_f c13 hev
                exact J61 x4 ls hev (lv_sub hl [0, 1, 2, 4] rfl)
              · replace hev := x_t c13 hev
                exact J57 x4 ls hev (lv_sub hl [0, 1, 2, 4] rfl)
  obtain ⟨y14, hq, hev⟩ := x_bd hev
  refine L5 p1 p2 k (0 : Int32) (0 : Int32) y14 hq (fun ls hl => ?_) ls (lv_sub hl [2, 3, 4, 1, 0] rfl)
  refine lv_iload_n hx hb dX11_isBound_69 rfl (lv_at hl 0 rfl) ?_
  exact ret _ _ _ dX11_isBound_70 ((show narrow _ (.int y14) = .int (y14 &&& 1) from rfl).trans (congrArg Value.int (Option.some.inj hev)))
def f_Mo_isSo (fT_spells : Nat → Int32) (p1 : Int32) (p2 : Int32) (p3 : Int32) (p4 : Int32) : Option (Int32) := x_L (((10 : Int32) * p2)) (fun y1 => x_L (((y1 + (4 : Int32)) + ((2 : Int32) * p3))) (fun y2 => x_I 50 fT_spells y2 (fun v4 => x_L (((y1 + (3 : Int32)) + ((2 : Int32) * p3))) (fun y5 => x_I 50 fT_spells y5 (fun v7 => if v7 = (0 : Int32) then (x_I 50 fT_spells y1 (fun v10 => if v10 = (3 : Int32) then (some (0 : Int32)) else x_L ((y1 + (1 : Int32))) (fun y12 => x_I 50 fT_spells y12 (fun v14 => if p4 = (((7 : Int32) * v4) + v14) then (some (1 : Int32)) else some (0 : Int32))))) else if v7 = (1 : Int32) then (x_B (f_Mo_weepersOf p1) (fun y17 => x_B (f_Mo_has y17 v4) (fun y18 => some (y18 &&& 1)))) else if v7 = (2 : Int32) then (x_B (f_Mo_dayOf p1) (fun y20 => if y20 = v4 then (some (1 : Int32)) else some (0 : Int32))) else if v7 = (3 : Int32) then (x_B (f_Mo_has p1 v4) (fun y23 => some (y23 &&& 1))) else if v7 = (4 : Int32) then (x_B (f_Mo_has p1 v4) (fun y25 => if y25 = 0 then (some (1 : Int32)) else some (0 : Int32))) else if v7 = (5 : Int32) then (x_B (f_Mo_brokenOf p1) (fun y28 => x_B (f_Mo_has y28 v4) (fun y29 => some (y29 &&& 1)))) else if v7 = (6 : Int32) then (x_B (f_Mo_brokenOf p1) (fun y31 => x_B (f_Mo_has y31 v4) (fun y32 => if y32 = 0 then (some (1 : Int32)) else some (0 : Int32)))) else x_B (f_Mo_askedOf p1) (fun y34 => if y34 < v4 then (some (0 : Int32)) else some (1 : Int32)))))))
set_option maxHeartbeats 8000000 in
set_option maxRecDepth 100000 in
theorem c_Mo_isSo (l : Launch) (G : GG) (aT aT_text aT_read aT_spells aT_pasts aT_keptStates aT_keptDeeds aT_isKept aT_fars aT_queue aT_later aT_onWay aT_row aT_princes aT_tries : Nat) (vT_length : Int32) (vT_readMany : Int32) (vT_people : Int32) (vT_toldDay : Int32) (vT_toldBroken : Int32) (vT_many : Int32) (vT_now : Int32) (vT_deeds : Int32) (vT_pastMany : Int32) (vT_at : Int32) (vT_place : Int32) (vT_end : Int32) (vT_readPeople : Int32) (vT_readSpells : Int32) (vT_lifted : Int32) (vT_queued : Int32) (vT_laterMany : Int32) (vT_rowMany : Int32) (vT_princeMany : Int32) (vT_triedMany : Int32) (fT_spells : Nat → Int32) (p1 : Int32) (p2 : Int32) (p3 : Int32) (p4 : Int32) (r0 : Int32) (hev : f_Mo_isSo fT_spells p1 p2 p3 p4 = some r0) : RO l G yX11_isSo cX11_isSo 7 (some .boolean) 1 [.ref aT, .int p1, .int p2, .int p3, .int p4] [(aT, .inr (7, [.ref aT_text, .int vT_length, .ref aT_read, .int vT_readMany, .int vT_people, .int vT_toldDay, .int vT_toldBroken, .ref aT_spells, .int vT_many, .int vT_now, .int vT_deeds, .ref aT_pasts, .int vT_pastMany, .ref aT_keptStates, .ref aT_keptDeeds, .ref aT_isKept, .int vT_at, .int vT_place, .int vT_end, .int vT_readPeople, .int vT_readSpells, .int vT_lifted, .ref aT_fars, .ref aT_queue, .int vT_queued, .ref aT_later, .int vT_laterMany, .ref aT_onWay, .ref aT_row, .int vT_rowMany, .ref aT_princes, .int vT_princeMany, .ref aT_tries, .int vT_triedMany])), (aT_spells, .inl (G.2.1, 50, .inl fT_spells))] (some (.int r0)) := by
  refine RO_of (by decide) (Nat.le_of_ble_eq_true rfl) ?_
  intro p e s m ar below meth c R Q H ls X hR hP hKK hS0 hl ret
  generalize hrs : r0 = rs at hev ret
  have hl : lv_has ls 7 [(0, .ref aT), (1, .int p1), (2, .int p2), (3, .int p3), (4, .int p4)] := hl
  obtain ⟨hx, hb, hml, hown, hts, hT⟩ := id X
  have hK := hKK.1
  have hw : ∀ w ∈ T0, w.before ar s = true := fun w h => hts w (hT w h)
  have i11 := fun w h => hT w (inT11 w h)
  unfold f_Mo_isSo at hev
  refine lv_bipush (v := (10 : Int32)) hx hb dX11_isSo_0 (by decide) ?_
  refine lv_iload_n hx hb dX11_isSo_2 rfl (lv_at hl 2 rfl) ?_
  refine lv_imul hx hb dX11_isSo_3 ?_
  refine lv_topi (fun y1 ey1 => ?_)
  replace hev := x_lt hev y1 ey1
  refine lv_istore (lv' := [(5, .int y1), (0, .ref aT), (1, .int p1), (2, .int p2), (3, .int p3), (4, .int p4)]) hx hb dX11_isSo_4 hl (by decide) rfl (fun ls hl => ?_)
  refine lv_aload_n hx hb dX11_isSo_6 rfl (lv_at hl 1 rfl) ?_
  refine va_get (D := G.1) (ci := 7) (v := .ref aT_spells) (C := RX11) (T := TX11) (N := 34) hx hb hts i11 hown hK hP 0 rfl rfl 7 (by decide) (hw _ u1094) (fun _ h9 => h9) rfl dX11_isSo_7 ?_
  refine lv_iload hx hb dX11_isSo_10 (lv_at hl 0 rfl) ?_
  refine lv_iconst (v := (4 : Int32)) hx hb dX11_isSo_12 (by decide) ?_
  refine lv_iadd hx hb dX11_isSo_13 ?_
  refine lv_iconst (v := (2 : Int32)) hx hb dX11_isSo_14 (by decide) ?_
  refine lv_iload_n hx hb dX11_isSo_15 rfl (lv_at hl 4 rfl) ?_
  refine lv_imul hx hb dX11_isSo_16 ?_
  refine lv_iadd hx hb dX11_isSo_17 ?_
  refine lv_topi (fun y2 ey2 => ?_)
  replace hev := x_lt hev y2 ey2
  obtain ⟨h3, hev⟩ := x_ld hev
  refine va_iald hx hb hK hP 1 0 rfl rfl h3 dX11_isSo_18 ?_
  refine lv_topi (fun v4 ev4 => ?_)
  replace hev := hev v4 ev4
  refine lv_istore (lv' := [(6, .int v4), (5, .int y1), (0, .ref aT), (1, .int p1), (2, .int p2), (3, .int p3), (4, .int p4)]) hx hb dX11_isSo_19 hl (by decide) rfl (fun ls hl => ?_)
  refine lv_aload_n hx hb dX11_isSo_21 rfl (lv_at hl 2 rfl) ?_
  refine va_get (D := G.1) (ci := 7) (v := .ref aT_spells) (C := RX11) (T := TX11) (N := 34) hx hb hts i11 hown hK hP 0 rfl rfl 7 (by decide) (hw _ u1094) (fun _ h9 => h9) rfl dX11_isSo_22 ?_
  refine lv_iload hx hb dX11_isSo_25 (lv_at hl 1 rfl) ?_
  refine lv_iconst (v := (3 : Int32)) hx hb dX11_isSo_27 (by decide) ?_
  refine lv_iadd hx hb dX11_isSo_28 ?_
  refine lv_iconst (v := (2 : Int32)) hx hb dX11_isSo_29 (by decide) ?_
  refine lv_iload_n hx hb dX11_isSo_30 rfl (lv_at hl 5 rfl) ?_
  refine lv_imul hx hb dX11_isSo_31 ?_
  refine lv_iadd hx hb dX11_isSo_32 ?_
  refine lv_topi (fun y5 ey5 => ?_)
  replace hev := x_lt hev y5 ey5
  obtain ⟨h6, hev⟩ := x_ld hev
  refine va_iald hx hb hK hP 1 0 rfl rfl h6 dX11_isSo_33 ?_
  refine lv_topi (fun v7 ev7 => ?_)
  replace hev := hev v7 ev7
  by_cases c8 : v7 = (0 : Int32)
  · replace hev := x_t c8 hev
    refine lv_tableIn (tgt := 76) hx hb dX11_isSo_34 (by rw [c8]; decide) (by rw [c8]; decide) (by rw [c8]; rfl) (by decide) ?_
    refine lv_aload_n hx hb dX11_isSo_76 rfl (lv_at hl 2 rfl) ?_
    refine va_get (D := G.1) (ci := 7) (v := .ref aT_spells) (C := RX11) (T := TX11) (N := 34) hx hb hts i11 hown hK hP 0 rfl rfl 7 (by decide) (hw _ u1094) (fun _ h9 => h9) rfl dX11_isSo_77 ?_
    refine lv_iload hx hb dX11_isSo_80 (lv_at hl 1 rfl) ?_
    obtain ⟨h9, hev⟩ := x_ld hev
    refine va_iald hx hb hK hP 1 0 rfl rfl h9 dX11_isSo_82 ?_
    refine lv_topi (fun v10 ev10 => ?_)
    replace hev := hev v10 ev10
    refine lv_iconst (v := (3 : Int32)) hx hb dX11_isSo_83 (by decide) ?_
    refine lv_icmp_eq (tgt := 111) hx hb dX11_isSo_84 (by decide) (fun c11 => ?_) (fun c11 => ?_)
    · replace hev := x_t c11 hev
      refine lv_iconst (v := (0 : Int32)) hx hb dX11_isSo_111 (by decide) ?_
      exact ret _ _ _ dX11_isSo_112 ((show narrow _ (.int (0 : Int32)) = .int (0 : Int32) from nb0).trans (congrArg Value.int (Option.some.inj hev)))
    · replace hev := x_f c11 hev
      refine lv_iload hx hb dX11_isSo_87 (lv_at hl 6 rfl) ?_
      refine lv_bipush (v := (7 : Int32)) hx hb dX11_isSo_89 (by decide) ?_
      refine lv_iload hx hb dX11_isSo_91 (lv_at hl 0 rfl) ?_
      refine lv_imul hx hb dX11_isSo_93 ?_
      refine lv_aload_n hx hb dX11_isSo_94 rfl (lv_at hl 2 rfl) ?_
      refine va_get (D := G.1) (ci := 7) (v := .ref aT_spells) (C := RX11) (T := TX11) (N := 34) hx hb hts i11 hown hK hP 0 rfl rfl 7 (by decide) (hw _ u1094) (fun _ h9 => h9) rfl dX11_isSo_95 ?_
      refine lv_iload hx hb dX11_isSo_98 (lv_at hl 1 rfl) ?_
      refine lv_iconst (v := (1 : Int32)) hx hb dX11_isSo_100 (by decide) ?_
      refine lv_iadd hx hb dX11_isSo_101 ?_
      refine lv_topi (fun y12 ey12 => ?_)
      replace hev := x_lt hev y12 ey12
      obtain ⟨h13, hev⟩ := x_ld hev
      refine va_iald hx hb hK hP 1 0 rfl rfl h13 dX11_isSo_102 ?_
      refine lv_topi (fun v14 ev14 => ?_)
      replace hev := hev v14 ev14
      refine lv_iadd hx hb dX11_isSo_103 ?_
      refine lv_icmp_ne (tgt := 111) hx hb dX11_isSo_104 (by decide) (fun c15 => ?_) (fun c15 => ?_)
      · replace hev := x_f c15 hev
        refine lv_iconst (v := (0 : Int32)) hx hb dX11_isSo_111 (by decide) ?_
        exact ret _ _ _ dX11_isSo_112 ((show narrow _ (.int (0 : Int32)) = .int (0 : Int32) from nb0).trans (congrArg Value.int (Option.some.inj hev)))
      · replace hev := x_t c15 hev
        refine lv_iconst (v := (1 : Int32)) hx hb dX11_isSo_107 (by decide) ?_
        refine lv_goto (tgt := 112) hx hb dX11_isSo_108 (by decide) ?_
        exact ret _ _ _ dX11_isSo_112 ((show narrow _ (.int (1 : Int32)) = .int (1 : Int32) from nb1).trans (congrArg Value.int (Option.some.inj hev)))
  replace hev := x_f c8 hev
  by_cases c16 : v7 = (1 : Int32)
  · replace hev := x_t c16 hev
    refine lv_tableIn (tgt := 113) hx hb dX11_isSo_34 (by rw [c16]; decide) (by rw [c16]; decide) (by rw [c16]; rfl) (by decide) ?_
    refine lv_iload_n hx hb dX11_isSo_113 rfl (lv_at hl 3 rfl) ?_
    obtain ⟨y17, hq, hev⟩ := x_bd hev
    refine roS X hKK hR (st1 := [.int y17]) (c_Mo_weepersOf l G p1 y17 hq) K_X11_weepersOf u1290 (x_Psub hP [] rfl) (by decide) ⟨Nat.zero_le _, Nat.zero_le _⟩ rfl hl.1 rfl (Nat.le_of_ble_eq_true rfl) rfl dX11_isSo_114 ?_
    refine lv_iload hx hb dX11_isSo_117 (lv_at hl 0 rfl) ?_
    obtain ⟨y18, hq, hev⟩ := x_bd hev
    refine roS X hKK hR (st1 := [.int y18]) (c_Mo_has l G y17 v4 y18 hq) K_X11_has u1287 (x_Psub hP [] rfl) (by decide) ⟨Nat.zero_le _, Nat.zero_le _⟩ rfl hl.1 rfl (Nat.le_of_ble_eq_true rfl) rfl dX11_isSo_119 ?_
    exact ret _ _ _ dX11_isSo_122 ((show narrow _ (.int y18) = .int (y18 &&& 1) from rfl).trans (congrArg Value.int (Option.some.inj hev)))
  replace hev := x_f c16 hev
  by_cases c19 : v7 = (2 : Int32)
  · replace hev := x_t c19 hev
    refine lv_tableIn (tgt := 123) hx hb dX11_isSo_34 (by rw [c19]; decide) (by rw [c19]; decide) (by rw [c19]; rfl) (by decide) ?_
    refine lv_iload_n hx hb dX11_isSo_123 rfl (lv_at hl 3 rfl) ?_
    obtain ⟨y20, hq, hev⟩ := x_bd hev
    refine roS X hKK hR (st1 := [.int y20]) (c_Mo_dayOf l G p1 y20 hq) K_X11_dayOf u1313 (x_Psub hP [] rfl) (by decide) ⟨Nat.zero_le _, Nat.zero_le _⟩ rfl hl.1 rfl (Nat.le_of_ble_eq_true rfl) rfl dX11_isSo_124 ?_
    refine lv_iload hx hb dX11_isSo_127 (lv_at hl 0 rfl) ?_
    refine lv_icmp_ne (tgt := 136) hx hb dX11_isSo_129 (by decide) (fun c21 => ?_) (fun c21 => ?_)
    · replace hev := x_f c21 hev
      refine lv_iconst (v := (0 : Int32)) hx hb dX11_isSo_136 (by decide) ?_
      exact ret _ _ _ dX11_isSo_137 ((show narrow _ (.int (0 : Int32)) = .int (0 : Int32) from nb0).trans (congrArg Value.int (Option.some.inj hev)))
    · replace hev := x_t c21 hev
      refine lv_iconst (v := (1 : Int32)) hx hb dX11_isSo_132 (by decide) ?_
      refine lv_goto (tgt := 137) hx hb dX11_isSo_133 (by decide) ?_
      exact ret _ _ _ dX11_isSo_137 ((show narrow _ (.int (1 : Int32)) = .int (1 : Int32) from nb1).trans (congrArg Value.int (Option.some.inj hev)))
  replace hev := x_f c19 hev
  by_cases c22 : v7 = (3 : Int32)
  · replace hev := x_t c22 hev
    refine lv_tableIn (tgt := 138) hx hb dX11_isSo_34 (by rw [c22]; decide) (by rw [c22]; decide) (by rw [c22]; rfl) (by decide) ?_
    refine lv_iload_n hx hb dX11_isSo_138 rfl (lv_at hl 3 rfl) ?_
    refine lv_iload hx hb dX11_isSo_139 (lv_at hl 0 rfl) ?_
    obtain ⟨y23, hq, hev⟩ := x_bd hev
    refine roS X hKK hR (st1 := [.int y23]) (c_Mo_has l G p1 v4 y23 hq) K_X11_has u1287 (x_Psub hP [] rfl) (by decide) ⟨Nat.zero_le _, Nat.zero_le _⟩ rfl hl.1 rfl (Nat.le_of_ble_eq_true rfl) rfl dX11_isSo_141 ?_
    exact ret _ _ _ dX11_isSo_144 ((show narrow _ (.int y23) = .int (y23 &&& 1) from rfl).trans (congrArg Value.int (Option.some.inj hev)))
  replace hev := x_f c22 hev
  by_cases c24 : v7 = (4 : Int32)
  · replace hev := x_t c24 hev
    refine lv_tableIn (tgt := 145) hx hb dX11_isSo_34 (by rw [c24]; decide) (by rw [c24]; decide) (by rw [c24]; rfl) (by decide) ?_
    refine lv_iload_n hx hb dX11_isSo_145 rfl (lv_at hl 3 rfl) ?_
    refine lv_iload hx hb dX11_isSo_146 (lv_at hl 0 rfl) ?_
    obtain ⟨y25, hq, hev⟩ := x_bd hev
    refine roS X hKK hR (st1 := [.int y25]) (c_Mo_has l G p1 v4 y25 hq) K_X11_has u1287 (x_Psub hP [] rfl) (by decide) ⟨Nat.zero_le _, Nat.zero_le _⟩ rfl hl.1 rfl (Nat.le_of_ble_eq_true rfl) rfl dX11_isSo_148 ?_
    refine lv_if_ne (tgt := 158) hx hb dX11_isSo_151 (by decide) (fun c26 => ?_) (fun c26 => ?_)
    · replace hev := x_f c26 hev
      refine lv_iconst (v := (0 : Int32)) hx hb dX11_isSo_158 (by decide) ?_
      exact ret _ _ _ dX11_isSo_159 ((show narrow _ (.int (0 : Int32)) = .int (0 : Int32) from nb0).trans (congrArg Value.int (Option.some.inj hev)))
    · replace hev := x_t c26 hev
      refine lv_iconst (v := (1 : Int32)) hx hb dX11_isSo_154 (by decide) ?_
      refine lv_goto (tgt := 159) hx hb dX11_isSo_155 (by decide) ?_
      exact ret _ _ _ dX11_isSo_159 ((show narrow _ (.int (1 : Int32)) = .int (1 : Int32) from nb1).trans (congrArg Value.int (Option.some.inj hev)))
  replace hev := x_f c24 hev
  by_cases c27 : v7 = (5 : Int32)
  · replace hev := x_t c27 hev
    refine lv_tableIn (tgt := 160) hx hb dX11_isSo_34 (by rw [c27]; decide) (by rw [c27]; decide) (by rw [c27]; rfl) (by decide) ?_
    refine lv_iload_n hx hb dX11_isSo_160 rfl (lv_at hl 3 rfl) ?_
    obtain ⟨y28, hq, hev⟩ := x_bd hev
    refine roS X hKK hR (st1 := [.int y28]) (c_Mo_brokenOf l G p1 y28 hq) K_X11_brokenOf u1316 (x_Psub hP [] rfl) (by decide) ⟨Nat.zero_le _, Nat.zero_le _⟩ rfl hl.1 rfl (Nat.le_of_ble_eq_true rfl) rfl dX11_isSo_161 ?_
    refine lv_iload hx hb dX11_isSo_164 (lv_at hl 0 rfl) ?_
    obtain ⟨y29, hq, hev⟩ := x_bd hev
    refine roS X hKK hR (st1 := [.int y29]) (c_Mo_has l G y28 v4 y29 hq) K_X11_has u1287 (x_Psub hP [] rfl) (by decide) ⟨Nat.zero_le _, Nat.zero_le _⟩ rfl hl.1 rfl (Nat.le_of_ble_eq_true rfl) rfl dX11_isSo_166 ?_
    exact ret _ _ _ dX11_isSo_169 ((show narrow _ (.int y29) = .int (y29 &&& 1) from rfl).trans (congrArg Value.int (Option.some.inj hev)))
  replace hev := x_f c27 hev
  by_cases c30 : v7 = (6 : Int32)
  · replace hev := x_t c30 hev
    refine lv_tableIn (tgt := 170) hx hb dX11_isSo_34 (by rw [c30]; decide) (by rw [c30]; decide) (by rw [c30]; rfl) (by decide) ?_
    refine lv_iload_n hx hb dX11_isSo_170 rfl (lv_at hl 3 rfl) ?_
    obtain ⟨y31, hq, hev⟩ := x_bd hev
    refine roS X hKK hR (st1 := [.int y31]) (c_Mo_brokenOf l G p1 y31 hq) K_X11_brokenOf u1316 (x_Psub hP [] rfl) (by decide) ⟨Nat.zero_le _, Nat.zero_le _⟩ rfl hl.1 rfl (Nat.le_of_ble_eq_true rfl) rfl dX11_isSo_171 ?_
    refine lv_iload hx hb dX11_isSo_174 (lv_at hl 0 rfl) ?_
    obtain ⟨y32, hq, hev⟩ := x_bd hev
    refine roS X hKK hR (st1 := [.int y32]) (c_Mo_has l G y31 v4 y32 hq) K_X11_has u1287 (x_Psub hP [] rfl) (by decide) ⟨Nat.zero_le _, Nat.zero_le _⟩ rfl hl.1 rfl (Nat.le_of_ble_eq_true rfl) rfl dX11_isSo_176 ?_
    refine lv_if_ne (tgt := 186) hx hb dX11_isSo_179 (by decide) (fun c33 => ?_) (fun c33 => ?_)
    · replace hev := x_f c33 hev
      refine lv_iconst (v := (0 : Int32)) hx hb dX11_isSo_186 (by decide) ?_
      exact ret _ _ _ dX11_isSo_187 ((show narrow _ (.int (0 : Int32)) = .int (0 : Int32) from nb0).trans (congrArg Value.int (Option.some.inj hev)))
    · replace hev := x_t c33 hev
      refine lv_iconst (v := (1 : Int32)) hx hb dX11_isSo_182 (by decide) ?_
      refine lv_goto (tgt := 187) hx hb dX11_isSo_183 (by decide) ?_
      exact ret _ _ _ dX11_isSo_187 ((show narrow _ (.int (1 : Int32)) = .int (1 : Int32) from nb1).trans (congrArg Value.int (Option.some.inj hev)))
  replace hev := x_f c30 hev
  refine lv_tableOut (tgt := 188) hx hb dX11_isSo_34 (by have q0 : v7.toInt ≠ 0 := x_ne c8; have q1 : v7.toInt ≠ 1 := x_ne c16; have q2 : v7.toInt ≠ 2 := x_ne c19; have q3 : v7.toInt ≠ 3 := x_ne c22; have q4 : v7.toInt ≠ 4 := x_ne c24; have q5 : v7.toInt ≠ 5 := x_ne c27; have q6 : v7.toInt ≠ 6 := x_ne c30; omega) (by decide) ?_
  refine lv_iload_n hx hb dX11_isSo_188 rfl (lv_at hl 3 rfl) ?_
  obtain ⟨y34, hq, hev⟩ := x_bd hev
  refine roS X hKK hR (st1 := [.int y34]) (c_Mo_askedOf l G p1 y34 hq) K_X11_askedOf u1319 (x_Psub hP [] rfl) (by decide) ⟨Nat.zero_le _, Nat.zero_le _⟩ rfl hl.1 rfl (Nat.le_of_ble_eq_true rfl) rfl dX11_isSo_189 ?_
  refine lv_iload hx hb dX11_isSo_192 (lv_at hl 0 rfl) ?_
  refine lv_icmp_lt (tgt := 201) hx hb dX11_isSo_194 (by decide) (fun c35 => ?_) (fun c35 => ?_)
  · replace hev := x_t c35 hev
    refine lv_iconst (v := (0 : Int32)) hx hb dX11_isSo_201 (by decide) ?_
    exact ret _ _ _ dX11_isSo_202 ((show narrow _ (.int (0 : Int32)) = .int (0 : Int32) from nb0).trans (congrArg Value.int (Option.some.inj hev)))
  · replace hev := x_f c35 hev
    refine lv_iconst (v := (1 : Int32)) hx hb dX11_isSo_197 (by decide) ?_
    refine lv_goto (tgt := 202) hx hb dX11_isSo_198 (by decide) ?_
    exact ret _ _ _ dX11_isSo_202 ((show narrow _ (.int (1 : Int32)) = .int (1 : Int32) from nb1).trans (congrArg Value.int (Option.some.inj hev)))
