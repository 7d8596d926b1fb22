/-! tried -/
theorem q_all (x : Int32) : ∃ v : Nat, v < 2 ^ 32 ∧ x = nI v := by
  refine ⟨x.toBitVec.toNat, x.toBitVec.isLt, ?_⟩
  apply Int32.toBitVec_inj.1
  apply BitVec.eq_of_toNat_eq
  show _ = (BitVec.ofNat 32 x.toBitVec.toNat).toNat
  rw [BitVec.toNat_ofNat, Nat.mod_eq_of_lt x.toBitVec.isLt]
theorem q_z32 {w : Nat} (h : w < 2 ^ 32) : (nI w = 0) ↔ w = 0 := by
  constructor
  · intro e
    have e := congrArg (fun z : Int32 => z.toBitVec.toNat) e
    have e : (BitVec.ofNat 32 w).toNat = 0 := e
    rw [BitVec.toNat_ofNat, Nat.mod_eq_of_lt h] at e
    exact e
  · intro e; rw [e]; rfl
theorem t_every {P : Nat} (h1 : 1 ≤ P) (h3 : P ≤ 3) : ((1 : Int32) <<< (nI P &&& 31)) - (1 : Int32) = nI (2 ^ P - 1) := by
  have : P = 1 ∨ P = 2 ∨ P = 3 := by omega
  rcases this with rfl | rfl | rfl <;> decide
theorem z_mask32 {v c m n : Nat} (hv : v < 2 ^ 32) (hc : c / 2 ^ n = 2 ^ m - 1) (h0 : c % 2 ^ n = 0) (hm : m + n = 32) : (v &&& c = 0) ↔ v < 2 ^ n := by
  have hdv : v / 2 ^ n < 2 ^ m := by
    rw [Nat.div_lt_iff_lt_mul (Nat.two_pow_pos n), ← Nat.pow_add, hm]; exact hv
  have e1 : (v &&& c) / 2 ^ n = v / 2 ^ n := by
    rw [Nat.and_div_two_pow, hc, Nat.and_two_pow_sub_one_eq_mod, Nat.mod_eq_of_lt hdv]
  have e2 : (v &&& c) % 2 ^ n = 0 := by
    rw [Nat.and_mod_two_pow, h0, Nat.and_zero]
  constructor
  · intro h
    rw [h, Nat.zero_div] at e1
    exact (Nat.div_eq_zero_iff_lt (Nat.two_pow_pos n)).mp e1.symm
  · intro h
    rw [Nat.div_eq_of_lt h] at e1
    have := Nat.div_add_mod (v &&& c) (2 ^ n)
    rw [e1, e2, Nat.mul_zero] at this
    exact this.symm
theorem t_msk {P v : Nat} (h1 : 1 ≤ P) (h3 : P ≤ 3) (hv : v < 2 ^ 32) : (nI v &&& (nI (2 ^ P - 1) ^^^ (-1 : Int32)) = 0) ↔ v < 2 ^ P := by
  have : P = 1 ∨ P = 2 ∨ P = 3 := by omega
  rcases this with rfl | rfl | rfl
  · rw [show nI (2 ^ 1 - 1) ^^^ (-1 : Int32) = nI 4294967294 by decide, q_and, q_z32 (Nat.lt_of_le_of_lt Nat.and_le_left hv), z_mask32 (m := 31) (n := 1) hv (by decide) (by decide) (by decide)]
  · rw [show nI (2 ^ 2 - 1) ^^^ (-1 : Int32) = nI 4294967292 by decide, q_and, q_z32 (Nat.lt_of_le_of_lt Nat.and_le_left hv), z_mask32 (m := 30) (n := 2) hv (by decide) (by decide) (by decide)]
  · rw [show nI (2 ^ 3 - 1) ^^^ (-1 : Int32) = nI 4294967288 by decide, q_and, q_z32 (Nat.lt_of_le_of_lt Nat.and_le_left hv), z_mask32 (m := 29) (n := 3) hv (by decide) (by decide) (by decide)]
theorem t_packed {a w d b : Nat} (ha : a < 8) (hw : w < 8) (hd : d < 8) (hb : b < 4) : f_Tr_packed (z_kI a) (nI w) (nI d) (nI b) = some (nI (z_tpk a w d b)) := by
  unfold f_Tr_packed
  have e : z_kI a + (1 : Int32) = nI a := by
    unfold z_kI
    by_cases h : a = 0
    · rw [if_pos h, h]; decide
    · rw [if_neg h, show (1 : Int32) = nI 1 from rfl, nI_add, show a - 1 + 1 = a by omega]
  rw [e]
  simp (disch := omega) only [q_lit, q_ofn, nI_add, q_mul, q_sub, q_shrm, q_shlm, q_a31s, q_a1, q_a3, q_a7, q_a65535, q_div, q_rem2, z_mm, nI_clamp, Nat.reduceMul, Nat.reduceAdd, Nat.reduceSub, Nat.reducePow, Nat.reduceMod, Nat.reduceDiv, Nat.one_mul, q_or]
  congr 2
  unfold z_tpk
  have e1 : a ||| w * 8 = w * 8 + a := by rw [Nat.or_comm]; exact z_oradd w 3 (by omega)
  have e2 : w * 8 + a ||| d * 64 = d * 64 + (w * 8 + a) := by rw [Nat.or_comm]; exact z_oradd d 6 (by omega)
  have e3 : d * 64 + (w * 8 + a) ||| b * 512 = b * 512 + (d * 64 + (w * 8 + a)) := by rw [Nat.or_comm]; exact z_oradd b 9 (by omega)
  rw [e1, e2, e3]
  omega
theorem z_bm_cg {f g : Nat → Bool} : ∀ n, (∀ i, i < n → f i = g i) → z_bm f n = z_bm g n := by
  intro n
  induction n with
  | zero => intro _; rfl
  | succ n ih =>
    intro h
    unfold z_bm
    rw [ih (fun i hi => h i (by omega)), h n (by omega)]
theorem z_bm_1 (f : Nat → Bool) (n : Nat) : z_bm f (n + 1) = if f n = true then z_bm f n ||| 2 ^ n else z_bm f n := rfl
def z_Tu (T : Nat → Nat → Nat) (t a w d b l : Nat) : Nat → Nat → Nat := fun j i => if i = t then (if j = 0 then a else if j = 1 then w else if j = 2 then d else if j = 3 then b else l) else T j i
theorem z_Tu_s (T : Nat → Nat → Nat) (t a w d b l : Nat) : z_Tu T t a w d b l 0 t = a ∧ z_Tu T t a w d b l 1 t = w ∧ z_Tu T t a w d b l 2 t = d ∧ z_Tu T t a w d b l 3 t = b ∧ z_Tu T t a w d b l 4 t = l := by
  unfold z_Tu
  simp
theorem z_Tu_n (T : Nat → Nat → Nat) {t i : Nat} (a w d b l j : Nat) (h : i ≠ t) : z_Tu T t a w d b l j i = T j i := by
  unfold z_Tu
  rw [if_neg h]
theorem i_try_add {P t a w d b l : Nat} {T : Nat → Nat → Nat} {lf : Int32} {tf mf : Nat → Int32} (ht : t < 8) (h1 : z_ctr P t T lf tf) (h2 : z_mtr P t T mf) (ha : a ≤ P) (hw : w < 2 ^ P) (hd : d < 7) (hb : b < 4) (hl : l < 2) : i_try P (lf ||| (nI l <<< ((nI (t + 1) - (1 : Int32)) &&& 31))) (nI (t + 1)) (upd tf t (nI (z_tpk a w d b))) (nI (t + 1)) (upd (upd (upd (upd (upd mf (5 * t) (z_kI a)) (5 * t + 1) (nI w)) (5 * t + 2) (nI d)) (5 * t + 3) (nI b)) (5 * t + 4) (nI l)) := by
  obtain ⟨s0, s1, s2, s3, s4⟩ := z_Tu_s T t a w d b l
  have tro : z_tro P (t + 1) (z_Tu T t a w d b l) := by
    refine ⟨by omega, fun i hi => ?_⟩
    by_cases hit : i = t
    · subst hit
      rw [s0, s1, s2, s3, s4]
      exact ⟨ha, hw, hd, hb, hl⟩
    · rw [z_Tu_n, z_Tu_n, z_Tu_n, z_Tu_n, z_Tu_n] <;> first | exact hit | skip
      exact h1.1.2 i (by omega)
  refine ⟨t + 1, z_Tu T t a w d b l, ⟨tro, ?_, ?_⟩, ⟨tro, ?_⟩, rfl, rfl⟩
  · rw [h1.2.1, show nI (t + 1) - (1 : Int32) = nI t by rw [show (1 : Int32) = nI 1 from rfl, q_sub (by omega)]; rfl, show (31 : Int32) = nI 31 from rfl, q_shl (by omega), q_or]
    congr 1
    have ecg : z_bm (fun i => decide (z_Tu T t a w d b l 4 i = 1)) t = z_bm (fun i => decide (T 4 i = 1)) t := z_bm_cg t (fun i hi => by rw [z_Tu_n T a w d b l 4 (show i ≠ t by omega)])
    rw [z_bm_1, s4, ecg]
    have : l = 0 ∨ l = 1 := by omega
    rcases this with rfl | rfl
    · rw [Nat.zero_mul, Nat.or_zero]; rfl
    · rw [Nat.one_mul]; rfl
  · intro i hi
    by_cases hit : i = t
    · subst hit
      rw [z_upd_s, s0, s1, s2, s3]
    · rw [z_upd_n hit, z_Tu_n, z_Tu_n, z_Tu_n, z_Tu_n] <;> first | exact hit | skip
      exact h1.2.2 i (by omega)
  · intro i hi
    by_cases hit : i = t
    · subst hit
      rw [s0, s1, s2, s3, s4]
      refine ⟨?_, ?_, ?_, ?_, z_upd_s⟩
      · rw [z_upd_n (by omega), z_upd_n (by omega), z_upd_n (by omega), z_upd_n (by omega), z_upd_s]
      · rw [z_upd_n (by omega), z_upd_n (by omega), z_upd_n (by omega), z_upd_s]
      · rw [z_upd_n (by omega), z_upd_n (by omega), z_upd_s]
      · rw [z_upd_n (by omega), z_upd_s]
    · rw [z_Tu_n, z_Tu_n, z_Tu_n, z_Tu_n, z_Tu_n] <;> first | exact hit | skip
      obtain ⟨g1, g2, g3, g4, g5⟩ := h2.2 i (by omega)
      refine ⟨?_, ?_, ?_, ?_, ?_⟩ <;> rw [z_upd_n (by omega), z_upd_n (by omega), z_upd_n (by omega), z_upd_n (by omega), z_upd_n (by omega)] <;> assumption
theorem p_tried {ns k : Nat} {ci : Nat → Int32} {cf : Nat → Nat → Int32} {cl : Nat → Nat → Int64} {cn : Nat → Nat} {mi : Nat → Int32} {mf : Nat → Nat → Int32} (hk : 200000 ≤ k) (h : z_inv ns ci cf cl cn mi mf) (p1 p2 p3 p4 p5 : Int32) : wp (f_SS_tried 8 (ci 24) (ci 26) (ci 28) (cf 33) p1 p2 p3 p4 p5) (fun q => wp (f_Mo_tried (mi 9) (mi 19) (mf 13) p1 p2 p3 p4 p5) (fun q' => q.1 = q'.1 ∧ z_inv (ns + 1) (z_u (z_u ci 26 q.2.1) 28 q.2.2.1) (z_u cf 33 q.2.2.2) cl cn (z_u mi 19 q'.2.1) (z_u mf 13 q'.2.2))) := by
  have h0 := h
  obtain ⟨c, n, S, x, d, hT, ok, hdr, hml, hRU, hN, hU, hK, hR, hQ, hY, hF, hW, hl1, hl2, hb⟩ := h
  have hPe : (ci 24) = nI S.1 := hdr.2.2.1; have hSp : (ci 25) = nI S.2.1 := hdr.2.2.2.1; have hmM : (mi 6) = nI S.2.1 := hml.1; have hmP : (mi 9) = nI S.1 := hml.2.1; have hP1 := ok.1.1; have hP3 := ok.1.2.1; have hM5 := ok.1.2.2.1
  obtain ⟨t, T, y1, y2, y3, y4⟩ := hY
  have ht8 := y1.1.1
  rw [hPe, hmP, y3, y4]
  have bad : ∀ r : Int32, f_SS_tried 8 (nI S.1) (ci 26) (nI t) (cf 33) p1 p2 p3 p4 p5 = some (r, (ci 26), nI t, (cf 33)) → f_Mo_tried (nI S.1) (nI t) (mf 13) p1 p2 p3 p4 p5 = some (r, nI t, (mf 13)) → wp (f_SS_tried 8 (nI S.1) (ci 26) (nI t) (cf 33) p1 p2 p3 p4 p5) (fun q => wp (f_Mo_tried (nI S.1) (nI t) (mf 13) p1 p2 p3 p4 p5) (fun q' => q.1 = q'.1 ∧ z_inv (ns + 1) (z_u (z_u ci 26 q.2.1) 28 q.2.2.1) (z_u cf 33 q.2.2.2) cl cn (z_u mi 19 q'.2.1) (z_u mf 13 q'.2.2))) := fun r e1 e2 => w_2 e1 e2 ⟨rfl, c, n, S, x, d, hT, ok, hdr, hml, hRU, hN, hU, hK, hR, hQ, ⟨t, T, y1, y2, rfl, rfl⟩, hF, hW, hl1, hl2, i_bud_s hb⟩
  have hp1 : (f_SS_tried 8 (nI S.1) (ci 26) (nI t) (cf 33) p1 p2 p3 p4 p5 = some (-2, (ci 26), nI t, (cf 33)) ∧ f_Mo_tried (nI S.1) (nI t) (mf 13) p1 p2 p3 p4 p5 = some (-2, nI t, (mf 13))) ∨ (∃ a, a ≤ S.1 ∧ p1 = z_kI a ∧ f_SS_tried 8 (nI S.1) (ci 26) (nI t) (cf 33) p1 p2 p3 p4 p5 = f_SS_tried_J19 8 (nI S.1) (ci 26) (nI t) (cf 33) p1 p2 p3 p4 p5 ∧ f_Mo_tried (nI S.1) (nI t) (mf 13) p1 p2 p3 p4 p5 = f_Mo_tried_J13 (nI S.1) (nI t) (mf 13) p1 p2 p3 p4 p5) := by
    by_cases hm1 : p1 = -1
    · right
      refine ⟨0, by omega, hm1, ?_, ?_⟩
      · unfold f_SS_tried; exact e_T hm1 rfl
      · unfold f_Mo_tried; exact e_T hm1 rfl
    · rcases z_smal (p := p1) S.1 (by omega) with hneg | ⟨p, hp, rfl⟩ | ⟨p, hp, hp', rfl⟩
      · left
        constructor
        · unfold f_SS_tried; exact e_F hm1 (e_B (t_hasPersonN hneg) (e_T rfl rfl))
        · unfold f_Mo_tried; exact e_F hm1 (e_B (m_isPersonN hneg) (e_T rfl rfl))
      · have a1 := t_hasPerson (P := S.1) (p := p) (by omega) (by omega)
        have b1 := m_isPerson (P := S.1) (n := p) (by omega) (by omega)
        rw [decide_eq_true hp] at a1 b1
        right
        refine ⟨p + 1, by omega, by unfold z_kI; rw [if_neg (by omega)]; rfl, ?_, ?_⟩
        · unfold f_SS_tried; exact e_F hm1 (e_B a1 (e_F (by decide) rfl))
        · unfold f_Mo_tried; exact e_F hm1 (e_B b1 (e_F (by decide) rfl))
      · have a1 := t_hasPerson (P := S.1) (p := p) (by omega) (by omega)
        have b1 := m_isPerson (P := S.1) (n := p) (by omega) (by omega)
        rw [decide_eq_false (by omega)] at a1 b1
        left
        constructor
        · unfold f_SS_tried; exact e_F hm1 (e_B a1 (e_T rfl rfl))
        · unfold f_Mo_tried; exact e_F hm1 (e_B b1 (e_T rfl rfl))
  rcases hp1 with ⟨e1, e2⟩ | ⟨a, ha, hpa, e1, e2⟩
  · exact bad (-2) e1 e2
  have hev := t_every hP1 hP3
  have hpow : 2 ^ S.1 ≤ 8 := by
    have : S.1 = 1 ∨ S.1 = 2 ∨ S.1 = 3 := by omega
    rcases this with hh | hh | hh <;> rw [hh] <;> decide
  have hpow0 : 0 < 2 ^ S.1 := Nat.two_pow_pos _
  have hevl : (nI (2 ^ S.1 - 1)).toInt64 = lN (2 ^ S.1 - 1) := nI_l (by omega)
  obtain ⟨v, hv, hpv⟩ := q_all p2
  by_cases hvP : v < 2 ^ S.1
  case neg =>
    have b2 : f_Mo_in p2.toInt64 (0 : Int64) (lN (2 ^ S.1 - 1)) = some (nI 0) := by
      rcases q_any p2 with hneg | ⟨v', hv', hpv'⟩
      · exact m_inneg hneg (a := 0) (by decide) _
      · have := m_in0N (v := v') (b := 2 ^ S.1 - 1) hv' (by omega)
        rw [decide_eq_false] at this
        · rw [hpv']; exact this
        · intro hle
          have : (nI v &&& (nI (2 ^ S.1 - 1) ^^^ (-1 : Int32)) = 0) := by
            rw [← hpv, hpv', t_msk hP1 hP3 (by omega)]; omega
          exact hvP ((t_msk hP1 hP3 hv).mp this)
    refine bad (-2) ?_ ?_
    · rw [e1]
      unfold f_SS_tried_J19 f_To_everybody
      rw [hev, hpv]
      refine e_B rfl ?_
      exact e_F (fun e => hvP ((t_msk hP1 hP3 hv).mp e)) rfl
    · rw [e2]
      unfold f_Mo_tried_J13
      rw [hev, hevl]
      exact e_B b2 (e_T rfl rfl)
  have b2 := m_in0N (v := v) (b := 2 ^ S.1 - 1) (by omega) (by omega)
  rw [decide_eq_true (by omega)] at b2
  subst hpv
  have s2 : (nI v &&& (nI (2 ^ S.1 - 1) ^^^ (-1 : Int32)) = 0) := (t_msk hP1 hP3 hv).mpr hvP
  rcases z_smal (p := p4) 4 (by decide) with hneg | ⟨b, hb4, rfl⟩ | ⟨b, hb4, hb', rfl⟩
  · refine bad (-2) ?_ ?_
    · rw [e1]
      unfold f_SS_tried_J19 f_To_everybody
      rw [hev]
      exact e_B rfl (e_T s2 (e_T hneg rfl))
    · rw [e2]
      unfold f_Mo_tried_J13
      rw [hev, hevl]
      exact e_B b2 (e_F (by decide) (e_B (m_inneg hneg (a := 0) (by decide) (lN 3)) (e_T rfl rfl)))
  case inr.inr =>
    have b4 := m_in0N (v := b) (b := 3) (by omega) (by decide)
    rw [decide_eq_false (by omega)] at b4
    refine bad (-2) ?_ ?_
    · rw [e1]
      unfold f_SS_tried_J19 f_To_everybody
      rw [hev]
      exact e_B rfl (e_T s2 (e_F (nI_pos (by omega)) (e_F (by simp (disch := omega) only [q_lit, q_ofn, nI_add, q_mul, q_sub, q_shrm, q_shlm, q_a31s, q_a1, q_a3, q_a7, q_a65535, q_div, q_rem2, z_mm, nI_clamp, Nat.reduceMul, Nat.reduceAdd, Nat.reduceSub, Nat.reducePow, Nat.reduceMod, Nat.reduceDiv, Nat.one_mul, nI_ltI, nI_leI, nI_eq, q_b0, q_b1, q_m1lt, q_m1le, q_ltm1, q_lem1, q_eqm1, q_m1eq, not_true_eq_false, not_false_eq_true, reduceCtorEq, *] <;> first | omega | decide) rfl)))
    · rw [e2]
      unfold f_Mo_tried_J13
      rw [hev, hevl]
      exact e_B b2 (e_F (by decide) (e_B b4 (e_T rfl rfl)))
  have b4 := m_in0N (v := b) (b := 3) (by omega) (by decide)
  rw [decide_eq_true (by omega)] at b4
  rcases z_smal (p := p3) 7 (by decide) with hneg | ⟨dy, hdy, rfl⟩ | ⟨dy, hdy, hdy', rfl⟩
  · refine bad (-3) ?_ ?_
    · rw [e1]
      unfold f_SS_tried_J19 f_To_everybody
      rw [hev]
      exact e_B rfl (e_T s2 (e_F (nI_pos (by omega)) (e_T (by simp (disch := omega) only [q_lit, q_ofn, nI_add, q_mul, q_sub, q_shrm, q_shlm, q_a31s, q_a1, q_a3, q_a7, q_a65535, q_div, q_rem2, z_mm, nI_clamp, Nat.reduceMul, Nat.reduceAdd, Nat.reduceSub, Nat.reducePow, Nat.reduceMod, Nat.reduceDiv, Nat.one_mul, nI_ltI, nI_leI, nI_eq, q_b0, q_b1, q_m1lt, q_m1le, q_ltm1, q_lem1, q_eqm1, q_m1eq, not_true_eq_false, not_false_eq_true, reduceCtorEq, *] <;> first | omega | decide) (e_T hneg rfl))))
    · rw [e2]
      unfold f_Mo_tried_J13
      rw [hev, hevl]
      exact e_B b2 (e_F (by decide) (e_B b4 (e_F (by decide) (e_B (m_inneg hneg (a := 0) (by decide) (lN 6)) (e_T rfl rfl)))))
  case inr.inr =>
    have b5 := m_in0N (v := dy) (b := 6) (by omega) (by decide)
    rw [decide_eq_false (by omega)] at b5
    refine bad (-3) ?_ ?_
    · rw [e1]
      unfold f_SS_tried_J19 f_To_everybody
      rw [hev]
      exact e_B rfl (e_T s2 (e_F (nI_pos (by omega)) (e_T (by simp (disch := omega) only [q_lit, q_ofn, nI_add, q_mul, q_sub, q_shrm, q_shlm, q_a31s, q_a1, q_a3, q_a7, q_a65535, q_div, q_rem2, z_mm, nI_clamp, Nat.reduceMul, Nat.reduceAdd, Nat.reduceSub, Nat.reducePow, Nat.reduceMod, Nat.reduceDiv, Nat.one_mul, nI_ltI, nI_leI, nI_eq, q_b0, q_b1, q_m1lt, q_m1le, q_ltm1, q_lem1, q_eqm1, q_m1eq, not_true_eq_false, not_false_eq_true, reduceCtorEq, *] <;> first | omega | decide) (e_F (nI_pos (by omega)) (e_T (by simp (disch := omega) only [q_lit, q_ofn, nI_add, q_mul, q_sub, q_shrm, q_shlm, q_a31s, q_a1, q_a3, q_a7, q_a65535, q_div, q_rem2, z_mm, nI_clamp, Nat.reduceMul, Nat.reduceAdd, Nat.reduceSub, Nat.reducePow, Nat.reduceMod, Nat.reduceDiv, Nat.one_mul, nI_ltI, nI_leI, nI_eq, q_b0, q_b1, q_m1lt, q_m1le, q_ltm1, q_lem1, q_eqm1, q_m1eq, not_true_eq_false, not_false_eq_true, reduceCtorEq, *] <;> first | omega | decide) rfl)))))
    · rw [e2]
      unfold f_Mo_tried_J13
      rw [hev, hevl]
      exact e_B b2 (e_F (by decide) (e_B b4 (e_F (by decide) (e_B b5 (e_T rfl rfl)))))
  have b5 := m_in0N (v := dy) (b := 6) (by omega) (by decide)
  rw [decide_eq_true (by omega)] at b5
  rcases z_smal (p := p5) 2 (by decide) with hneg | ⟨l, hl, rfl⟩ | ⟨l, hl, hl', rfl⟩
  · refine bad (-3) ?_ ?_
    · rw [e1]
      unfold f_SS_tried_J19 f_To_everybody
      rw [hev]
      exact e_B rfl (e_T s2 (e_F (nI_pos (by omega)) (e_T (by simp (disch := omega) only [q_lit, q_ofn, nI_add, q_mul, q_sub, q_shrm, q_shlm, q_a31s, q_a1, q_a3, q_a7, q_a65535, q_div, q_rem2, z_mm, nI_clamp, Nat.reduceMul, Nat.reduceAdd, Nat.reduceSub, Nat.reducePow, Nat.reduceMod, Nat.reduceDiv, Nat.one_mul, nI_ltI, nI_leI, nI_eq, q_b0, q_b1, q_m1lt, q_m1le, q_ltm1, q_lem1, q_eqm1, q_m1eq, not_true_eq_false, not_false_eq_true, reduceCtorEq, *] <;> first | omega | decide) (e_F (nI_pos (by omega)) (e_F (by simp (disch := omega) only [q_lit, q_ofn, nI_add, q_mul, q_sub, q_shrm, q_shlm, q_a31s, q_a1, q_a3, q_a7, q_a65535, q_div, q_rem2, z_mm, nI_clamp, Nat.reduceMul, Nat.reduceAdd, Nat.reduceSub, Nat.reducePow, Nat.reduceMod, Nat.reduceDiv, Nat.one_mul, nI_ltI, nI_leI, nI_eq, q_b0, q_b1, q_m1lt, q_m1le, q_ltm1, q_lem1, q_eqm1, q_m1eq, not_true_eq_false, not_false_eq_true, reduceCtorEq, *] <;> first | omega | decide) (e_T hneg rfl))))))
    · rw [e2]
      unfold f_Mo_tried_J13
      rw [hev, hevl]
      exact e_B b2 (e_F (by decide) (e_B b4 (e_F (by decide) (e_B b5 (e_F (by decide) (e_B (m_inneg hneg (a := 0) (by decide) (lN 1)) (e_T rfl rfl)))))))
  case inr.inr =>
    have b6 := m_in0N (v := l) (b := 1) (by omega) (by decide)
    rw [decide_eq_false (by omega)] at b6
    refine bad (-3) ?_ ?_
    · rw [e1]
      unfold f_SS_tried_J19 f_To_everybody
      rw [hev]
      exact e_B rfl (e_T s2 (e_F (nI_pos (by omega)) (e_T (by simp (disch := omega) only [q_lit, q_ofn, nI_add, q_mul, q_sub, q_shrm, q_shlm, q_a31s, q_a1, q_a3, q_a7, q_a65535, q_div, q_rem2, z_mm, nI_clamp, Nat.reduceMul, Nat.reduceAdd, Nat.reduceSub, Nat.reducePow, Nat.reduceMod, Nat.reduceDiv, Nat.one_mul, nI_ltI, nI_leI, nI_eq, q_b0, q_b1, q_m1lt, q_m1le, q_ltm1, q_lem1, q_eqm1, q_m1eq, not_true_eq_false, not_false_eq_true, reduceCtorEq, *] <;> first | omega | decide) (e_F (nI_pos (by omega)) (e_F (by simp (disch := omega) only [q_lit, q_ofn, nI_add, q_mul, q_sub, q_shrm, q_shlm, q_a31s, q_a1, q_a3, q_a7, q_a65535, q_div, q_rem2, z_mm, nI_clamp, Nat.reduceMul, Nat.reduceAdd, Nat.reduceSub, Nat.reducePow, Nat.reduceMod, Nat.reduceDiv, Nat.one_mul, nI_ltI, nI_leI, nI_eq, q_b0, q_b1, q_m1lt, q_m1le, q_ltm1, q_lem1, q_eqm1, q_m1eq, not_true_eq_false, not_false_eq_true, reduceCtorEq, *] <;> first | omega | decide) (e_F (nI_pos (by omega)) (e_F (by simp (disch := omega) only [q_lit, q_ofn, nI_add, q_mul, q_sub, q_shrm, q_shlm, q_a31s, q_a1, q_a3, q_a7, q_a65535, q_div, q_rem2, z_mm, nI_clamp, Nat.reduceMul, Nat.reduceAdd, Nat.reduceSub, Nat.reducePow, Nat.reduceMod, Nat.reduceDiv, Nat.one_mul, nI_ltI, nI_leI, nI_eq, q_b0, q_b1, q_m1lt, q_m1le, q_ltm1, q_lem1, q_eqm1, q_m1eq, not_true_eq_false, not_false_eq_true, reduceCtorEq, *] <;> first | omega | decide) rfl)))))))
    · rw [e2]
      unfold f_Mo_tried_J13
      rw [hev, hevl]
      exact e_B b2 (e_F (by decide) (e_B b4 (e_F (by decide) (e_B b5 (e_F (by decide) (e_B b6 (e_T rfl rfl)))))))
  have b6 := m_in0N (v := l) (b := 1) (by omega) (by decide)
  rw [decide_eq_true (by omega)] at b6
  have epk := t_packed (a := a) (w := v) (d := dy) (b := b) (by omega) (by omega) (by omega) hb4
  rw [← hpa] at epk
  by_cases hfull : t = 8
  · subst hfull
    refine bad (-5) ?_ ?_
    · rw [e1]
      unfold f_SS_tried_J19 f_To_everybody f_Tr_add
      rw [hev]
      refine e_B rfl (e_T s2 (e_F (nI_pos (by omega)) (e_T (by simp (disch := omega) only [q_lit, q_ofn, nI_add, q_mul, q_sub, q_shrm, q_shlm, q_a31s, q_a1, q_a3, q_a7, q_a65535, q_div, q_rem2, z_mm, nI_clamp, Nat.reduceMul, Nat.reduceAdd, Nat.reduceSub, Nat.reducePow, Nat.reduceMod, Nat.reduceDiv, Nat.one_mul, nI_ltI, nI_leI, nI_eq, q_b0, q_b1, q_m1lt, q_m1le, q_ltm1, q_lem1, q_eqm1, q_m1eq, not_true_eq_false, not_false_eq_true, reduceCtorEq, *] <;> first | omega | decide) (e_F (nI_pos (by omega)) (e_F (by simp (disch := omega) only [q_lit, q_ofn, nI_add, q_mul, q_sub, q_shrm, q_shlm, q_a31s, q_a1, q_a3, q_a7, q_a65535, q_div, q_rem2, z_mm, nI_clamp, Nat.reduceMul, Nat.reduceAdd, Nat.reduceSub, Nat.reducePow, Nat.reduceMod, Nat.reduceDiv, Nat.one_mul, nI_ltI, nI_leI, nI_eq, q_b0, q_b1, q_m1lt, q_m1le, q_ltm1, q_lem1, q_eqm1, q_m1eq, not_true_eq_false, not_false_eq_true, reduceCtorEq, *] <;> first | omega | decide) (e_F (nI_pos (by omega)) (e_T (by simp (disch := omega) only [q_lit, q_ofn, nI_add, q_mul, q_sub, q_shrm, q_shlm, q_a31s, q_a1, q_a3, q_a7, q_a65535, q_div, q_rem2, z_mm, nI_clamp, Nat.reduceMul, Nat.reduceAdd, Nat.reduceSub, Nat.reducePow, Nat.reduceMod, Nat.reduceDiv, Nat.one_mul, nI_ltI, nI_leI, nI_eq, q_b0, q_b1, q_m1lt, q_m1le, q_ltm1, q_lem1, q_eqm1, q_m1eq, not_true_eq_false, not_false_eq_true, reduceCtorEq, *] <;> first | omega | decide) ?_)))))))
      refine e_B epk ?_
      refine e_B (q := (0, (ci 26), nI 8, (cf 33))) ?_ ?_
      · exact e_B (t_addF (by omega) (by decide)) (e_T rfl rfl)
      · exact e_T rfl rfl
    · rw [e2]
      unfold f_Mo_tried_J13
      rw [hev, hevl]
      exact e_B b2 (e_F (by decide) (e_B b4 (e_F (by decide) (e_B b5 (e_F (by decide) (e_B b6 (e_F (by decide) (e_T rfl rfl))))))))
  · refine w_2 (r1 := (nI (t + 1), ((ci 26) ||| (nI l <<< ((nI (t + 1) - (1 : Int32)) &&& 31))), nI (t + 1), upd (cf 33) t (nI (z_tpk a v dy b)))) (r2 := (nI (t + 1), nI (t + 1), upd (upd (upd (upd (upd (mf 13) (5 * t) (z_kI a)) (5 * t + 1) (nI v)) (5 * t + 2) (nI dy)) (5 * t + 3) (nI b)) (5 * t + 4) (nI l))) ?_ ?_ ⟨rfl, c, n, S, x, d, hT, ok, hdr, hml, hRU, hN, hU, hK, hR, hQ, i_try_add (by omega) y1 y2 ha hvP hdy hb4 hl, hF, hW, hl1, hl2, i_bud_s hb⟩
    · rw [e1]
      unfold f_SS_tried_J19 f_To_everybody f_Tr_add f_Tr_size f_Rw_size
      rw [hev]
      refine e_B rfl (e_T s2 (e_F (nI_pos (by omega)) (e_T (by simp (disch := omega) only [q_lit, q_ofn, nI_add, q_mul, q_sub, q_shrm, q_shlm, q_a31s, q_a1, q_a3, q_a7, q_a65535, q_div, q_rem2, z_mm, nI_clamp, Nat.reduceMul, Nat.reduceAdd, Nat.reduceSub, Nat.reducePow, Nat.reduceMod, Nat.reduceDiv, Nat.one_mul, nI_ltI, nI_leI, nI_eq, q_b0, q_b1, q_m1lt, q_m1le, q_ltm1, q_lem1, q_eqm1, q_m1eq, not_true_eq_false, not_false_eq_true, reduceCtorEq, *] <;> first | omega | decide) (e_F (nI_pos (by omega)) (e_F (by simp (disch := omega) only [q_lit, q_ofn, nI_add, q_mul, q_sub, q_shrm, q_shlm, q_a31s, q_a1, q_a3, q_a7, q_a65535, q_div, q_rem2, z_mm, nI_clamp, Nat.reduceMul, Nat.reduceAdd, Nat.reduceSub, Nat.reducePow, Nat.reduceMod, Nat.reduceDiv, Nat.one_mul, nI_ltI, nI_leI, nI_eq, q_b0, q_b1, q_m1lt, q_m1le, q_ltm1, q_lem1, q_eqm1, q_m1eq, not_true_eq_false, not_false_eq_true, reduceCtorEq, *] <;> first | omega | decide) (e_F (nI_pos (by omega)) (e_T (by simp (disch := omega) only [q_lit, q_ofn, nI_add, q_mul, q_sub, q_shrm, q_shlm, q_a31s, q_a1, q_a3, q_a7, q_a65535, q_div, q_rem2, z_mm, nI_clamp, Nat.reduceMul, Nat.reduceAdd, Nat.reduceSub, Nat.reducePow, Nat.reduceMod, Nat.reduceDiv, Nat.one_mul, nI_ltI, nI_leI, nI_eq, q_b0, q_b1, q_m1lt, q_m1le, q_ltm1, q_lem1, q_eqm1, q_m1eq, not_true_eq_false, not_false_eq_true, reduceCtorEq, *] <;> first | omega | decide) ?_)))))))
      refine e_B epk ?_
      refine e_B (q := (1, ((ci 26) ||| (nI l <<< ((nI (t + 1) - (1 : Int32)) &&& 31))), nI (t + 1), upd (cf 33) t (nI (z_tpk a v dy b)))) ?_ ?_
      · exact e_B (t_add (by omega) (by decide)) (e_F (by decide) rfl)
      · exact e_F (by decide) rfl
    · rw [e2]
      unfold f_Mo_tried_J13
      rw [hev, hevl]
      refine e_B b2 (e_F (by decide) (e_B b4 (e_F (by decide) (e_B b5 (e_F (by decide) (e_B b6 (e_F (by decide) (e_F (by simp (disch := omega) only [q_lit, q_ofn, nI_add, q_mul, q_sub, q_shrm, q_shlm, q_a31s, q_a1, q_a3, q_a7, q_a65535, q_div, q_rem2, z_mm, nI_clamp, Nat.reduceMul, Nat.reduceAdd, Nat.reduceSub, Nat.reducePow, Nat.reduceMod, Nat.reduceDiv, Nat.one_mul, nI_ltI, nI_leI, nI_eq, q_b0, q_b1, q_m1lt, q_m1le, q_ltm1, q_lem1, q_eqm1, q_m1eq, not_true_eq_false, not_false_eq_true, reduceCtorEq, *] <;> first | omega | decide) ?_))))))))
      refine e_L ?_
      refine e_C (i := 5 * t) (by first | (with_reducible rfl) | (simp (disch := omega) only [q_lit, q_ofn, nI_add, q_mul, q_sub, q_shrm, q_shlm, q_a31s, q_a1, q_a3, q_a7, q_a65535, q_div, q_rem2, z_mm, nI_clamp, Nat.reduceMul, Nat.reduceAdd, Nat.reduceSub, Nat.reducePow, Nat.reduceMod, Nat.reduceDiv, Nat.one_mul]; done) | (simp (disch := omega) only [q_lit, q_ofn, nI_add, q_mul, q_sub, q_shrm, q_shlm, q_a31s, q_a1, q_a3, q_a7, q_a65535, q_div, q_rem2, z_mm, nI_clamp, Nat.reduceMul, Nat.reduceAdd, Nat.reduceSub, Nat.reducePow, Nat.reduceMod, Nat.reduceDiv, Nat.one_mul]; with_reducible rfl)) (by omega) (by first | decide | omega) ?_
      refine e_C (i := 5 * t + 1) (by first | (with_reducible rfl) | (simp (disch := omega) only [q_lit, q_ofn, nI_add, q_mul, q_sub, q_shrm, q_shlm, q_a31s, q_a1, q_a3, q_a7, q_a65535, q_div, q_rem2, z_mm, nI_clamp, Nat.reduceMul, Nat.reduceAdd, Nat.reduceSub, Nat.reducePow, Nat.reduceMod, Nat.reduceDiv, Nat.one_mul]; done) | (simp (disch := omega) only [q_lit, q_ofn, nI_add, q_mul, q_sub, q_shrm, q_shlm, q_a31s, q_a1, q_a3, q_a7, q_a65535, q_div, q_rem2, z_mm, nI_clamp, Nat.reduceMul, Nat.reduceAdd, Nat.reduceSub, Nat.reducePow, Nat.reduceMod, Nat.reduceDiv, Nat.one_mul]; with_reducible rfl)) (by omega) (by first | decide | omega) ?_
      refine e_C (i := 5 * t + 2) (by first | (with_reducible rfl) | (simp (disch := omega) only [q_lit, q_ofn, nI_add, q_mul, q_sub, q_shrm, q_shlm, q_a31s, q_a1, q_a3, q_a7, q_a65535, q_div, q_rem2, z_mm, nI_clamp, Nat.reduceMul, Nat.reduceAdd, Nat.reduceSub, Nat.reducePow, Nat.reduceMod, Nat.reduceDiv, Nat.one_mul]; done) | (simp (disch := omega) only [q_lit, q_ofn, nI_add, q_mul, q_sub, q_shrm, q_shlm, q_a31s, q_a1, q_a3, q_a7, q_a65535, q_div, q_rem2, z_mm, nI_clamp, Nat.reduceMul, Nat.reduceAdd, Nat.reduceSub, Nat.reducePow, Nat.reduceMod, Nat.reduceDiv, Nat.one_mul]; with_reducible rfl)) (by omega) (by first | decide | omega) ?_
      refine e_C (i := 5 * t + 3) (by first | (with_reducible rfl) | (simp (disch := omega) only [q_lit, q_ofn, nI_add, q_mul, q_sub, q_shrm, q_shlm, q_a31s, q_a1, q_a3, q_a7, q_a65535, q_div, q_rem2, z_mm, nI_clamp, Nat.reduceMul, Nat.reduceAdd, Nat.reduceSub, Nat.reducePow, Nat.reduceMod, Nat.reduceDiv, Nat.one_mul]; done) | (simp (disch := omega) only [q_lit, q_ofn, nI_add, q_mul, q_sub, q_shrm, q_shlm, q_a31s, q_a1, q_a3, q_a7, q_a65535, q_div, q_rem2, z_mm, nI_clamp, Nat.reduceMul, Nat.reduceAdd, Nat.reduceSub, Nat.reducePow, Nat.reduceMod, Nat.reduceDiv, Nat.one_mul]; with_reducible rfl)) (by omega) (by first | decide | omega) ?_
      refine e_C (i := 5 * t + 4) (by first | (with_reducible rfl) | (simp (disch := omega) only [q_lit, q_ofn, nI_add, q_mul, q_sub, q_shrm, q_shlm, q_a31s, q_a1, q_a3, q_a7, q_a65535, q_div, q_rem2, z_mm, nI_clamp, Nat.reduceMul, Nat.reduceAdd, Nat.reduceSub, Nat.reducePow, Nat.reduceMod, Nat.reduceDiv, Nat.one_mul]; done) | (simp (disch := omega) only [q_lit, q_ofn, nI_add, q_mul, q_sub, q_shrm, q_shlm, q_a31s, q_a1, q_a3, q_a7, q_a65535, q_div, q_rem2, z_mm, nI_clamp, Nat.reduceMul, Nat.reduceAdd, Nat.reduceSub, Nat.reducePow, Nat.reduceMod, Nat.reduceDiv, Nat.one_mul]; with_reducible rfl)) (by omega) (by first | decide | omega) ?_
      refine e_L ?_
      rw [hpa]
      simp (disch := omega) only [q_lit, q_ofn, nI_add, q_mul, q_sub, q_shrm, q_shlm, q_a31s, q_a1, q_a3, q_a7, q_a65535, q_div, q_rem2, z_mm, nI_clamp, Nat.reduceMul, Nat.reduceAdd, Nat.reduceSub, Nat.reducePow, Nat.reduceMod, Nat.reduceDiv, Nat.one_mul]
