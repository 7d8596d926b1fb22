/-! as told: the beginning, for land and for a new object -/
def z_x0 (S : zS) : Nat := 2 ^ S.2.1 - 1 + S.2.2.2.1 * 32 + S.2.2.1 * 8192
theorem z_x0_V {S : zS} (ok : z_okL S) : z_V S.1 S.2.1 (z_x0 S) := by
  have h5 := ok.1.2.2.1
  have hd := ok.2.1
  have hb := ok.2.2
  have hp : 0 < 2 ^ S.1 := Nat.two_pow_pos _
  have hm0 : 0 < 2 ^ S.2.1 := Nat.two_pow_pos _
  have hm : 2 ^ S.2.1 ≤ 2 ^ 5 := Nat.pow_le_pow_right (by decide) h5
  unfold z_x0
  refine ⟨by omega, by omega, by omega⟩
theorem t_bits {M br dy : Nat} (hM : M ≤ 5) (hb : br < 4) (hd : dy < 7) : ((((1 : Int32) <<< (nI M &&& 31)) - (1 : Int32)) ||| (nI br <<< ((5 : Int32) &&& 31))) ||| (nI dy <<< ((13 : Int32) &&& 31)) = nI (2 ^ M - 1 + br * 32 + dy * 8192) := by
  have hm0 : 0 < 2 ^ M := Nat.two_pow_pos _
  have hm : 2 ^ M ≤ 2 ^ 5 := Nat.pow_le_pow_right (by decide) hM
  have e1 : ((1 : Int32) <<< (nI M &&& 31)) - (1 : Int32) = nI (2 ^ M - 1) := by
    have : M = 0 ∨ M = 1 ∨ M = 2 ∨ M = 3 ∨ M = 4 ∨ M = 5 := by omega
    rcases this with rfl | rfl | rfl | rfl | rfl | rfl <;> decide
  rw [e1, show (31 : Int32) = nI 31 from rfl, show (5 : Int32) = nI 5 from rfl, show (13 : Int32) = nI 13 from rfl, q_shl (by decide), q_shl (by decide), q_or, q_or]
  congr 1
  have o1 : 2 ^ M - 1 ||| br * 2 ^ 5 = br * 2 ^ 5 + (2 ^ M - 1) := by rw [Nat.or_comm]; exact z_oradd br 5 (by omega)
  have o2 : br * 2 ^ 5 + (2 ^ M - 1) ||| dy * 2 ^ 13 = dy * 2 ^ 13 + (br * 2 ^ 5 + (2 ^ M - 1)) := by rw [Nat.or_comm]; exact z_oradd dy 13 (by omega)
  rw [o1, o2]
  omega
def z_bgQ (S : zS) (q : Int32 × Int32 × Int32 × Int32 × Int32 × Int32 × Int32 × Int32 × Int32 × Int32 × Int32 × Int32 × (Nat → Int32) × (Nat → Int32) × (Nat → Int32) × (Nat → Int32) × (Nat → Int32) × (Nat → Int32) × (Nat → Int32) × (Nat → Int32) × (Nat → Int32) × (Nat → Int32) × (Nat → Int32) × (Nat → Int32) × (Nat → Int32) × (Nat → Int32)) : Prop :=
  match q with
  | (de, fs, ps, rs, r1, r2, r3, st, tl, tz, us, wz, kd, r4, r5, r6, r7, r8, r9, r10, r11, r12, r13, r14, r15, r16) => de = nI 0 ∧ fs = -nI 1 ∧ ps = nI 0 ∧ rs = nI 0 ∧ st = nI (z_x0 S) ∧ tl = nI 0 ∧ tz = nI 0 ∧ us = nI 0 ∧ wz = -nI 1 ∧ (∀ j, j < 2 → kd j = -nI 1) ∧ z_RU S.1 S.2.1 S.2.2.2.2 (r1, r2, r3, r4, r5, r6, r7, r8, r9, r10, r11, r12, r13, r14, r15, r16)
theorem t_begin {S : zS} {k : Nat} {a1 a2 a3 a4 a5 a6 a7 a8 b1 b2 b3 b4 c1 c2 c3 c4 : Int32} {kd r4 r5 r6 r7 r8 r9 r10 r11 r12 r13 r14 r15 r16 kf nf sf tf mf wf : Nat → Int32} (ok : z_okL S) (h : z_dr S (b1, b2, b3, b4, kf, nf, sf, tf, mf, wf)) (hk : 200 ≤ k) : wp (f_SS_beginAsTold k a1 a2 a3 a4 a5 a6 a7 a8 b1 b2 b3 b4 c1 c2 c3 c4 kd r4 r5 r6 r7 r8 r9 r10 r11 r12 r13 r14 r15 r16 kf nf sf tf mf wf) (z_bgQ S) := by
  obtain ⟨h1, h2, h3, h4, h5⟩ := h
  have h1 : b1 = nI S.2.2.2.1 := h1
  have h2 : b2 = nI S.2.2.1 := h2
  have h3 : b3 = nI S.1 := h3
  have h4 : b4 = nI S.2.1 := h4
  subst h1 h2 h3 h4
  unfold f_SS_beginAsTold f_Se_stale f_To_firstState f_Rw_empty f_Tr_empty f_Rw_empty
  refine w_Bw (s_learn ok.1 h5 (by omega)) ?_
  rintro ⟨w1, w2, w3, w4, w5, w6, w7, w8, w9, w10, w11, w12, w13, w14, w15, w16⟩ hRU
  refine w_Be rfl (w_Be rfl (w_Be rfl (w_Be rfl ?_)))
  refine w_Bw (t_fillI (by decide) (by omega)) ?_
  intro g hg
  refine w_Be rfl (w_Be rfl (w_Be rfl ?_))
  refine w_some ?_
  exact ⟨rfl, rfl, rfl, rfl, t_bits ok.1.2.2.1 ok.2.2 ok.2.1, rfl, rfl, rfl, rfl, hg, hRU⟩
theorem t_cpy {f g : Nat → Int32} {n j : Nat} (hj : j < n) : va_cpy f g 0 0 n j = f j := by
  unfold va_cpy
  rw [if_pos (by omega)]
  congr 1
  omega
theorem t_take {S : zS} {b1 b2 b3 b4 a1 a2 a3 a4 : Int32} {kf nf sf tf mf wf kg ng sg tg mg wg : Nat → Int32} (ok : z_okL S) (h : z_dr S (b1, b2, b3, b4, kf, nf, sf, tf, mf, wf)) : wp (f_To_takeOver b1 b2 b3 b4 a1 a2 a3 a4 kf nf sf tf mf wf kg ng sg tg mg wg) (z_dr S) := by
  obtain ⟨h1, h2, h3, h4, h5⟩ := h
  have hM := ok.1.2.2.1
  unfold f_To_takeOver
  refine w_some ⟨h1, h2, h3, h4, ?_⟩
  intro s hs
  obtain ⟨g1, g2, g3, g4, g5⟩ := h5 s hs
  have o5 := (ok.1.2.2.2 s hs).2.2.2.2.1
  refine ⟨(t_cpy (by show s < 5; omega)).trans g1, (t_cpy (by show s < 5; omega)).trans g2, (t_cpy (by show s < 5; omega)).trans g3, (t_cpy (by show s < 5; omega)).trans g4, fun i hi => ⟨(t_cpy (by show 3 * s + i < 15; omega)).trans (g5 i hi).1, (t_cpy (by show 3 * s + i < 15; omega)).trans (g5 i hi).2⟩⟩
