/-! ahead -/
theorem z_and_bit (j : Nat) : ∀ (L : List zE) (a : Nat), (z_and L a).testBit j = true ↔ a.testBit j = true ∧ ∀ e ∈ L, e.1.testBit j = true := by
  intro L
  induction L with
  | nil => intro a; exact ⟨fun h => ⟨h, fun e he => by cases he⟩, fun h => h.1⟩
  | cons e L ih =>
    intro a
    show (z_and L (a &&& e.1)).testBit j = true ↔ _
    rw [ih, Nat.testBit_and, Bool.and_eq_true]
    constructor
    · rintro ⟨⟨h1, h2⟩, h3⟩
      refine ⟨h1, fun f hf => ?_⟩
      rcases List.mem_cons.mp hf with rfl | hf
      · exact h2
      · exact h3 f hf
    · rintro ⟨h1, h2⟩
      exact ⟨⟨h1, h2 e (List.mem_cons_self ..)⟩, fun f hf => h2 f (List.mem_cons_of_mem _ hf)⟩
theorem z_few_cases {F : List zE} {v : Nat} (hF : ∀ e ∈ F, e.2.2.2 < 2 ^ 31) : (z_few F v = -nI 1 ∧ ∀ e ∈ F, e.1 &&& v ≠ 0) ∨ (z_few F v ≠ -nI 1 ∧ ∃ e ∈ F, e.1 &&& v = 0) := by
  unfold z_few
  cases hf : F.find? (fun e => decide (e.1 &&& v = 0)) with
  | none =>
    left
    refine ⟨rfl, fun e he => ?_⟩
    have := List.find?_eq_none.mp hf e he
    simpa using this
  | some e =>
    right
    have h1 := List.mem_of_find?_eq_some hf
    have h2 := List.find?_some hf
    exact ⟨fun z => (q_eqm1 (hF e h1)).mp z, e, h1, by simpa using h2⟩
theorem z_few_and {F : List zE} {a s : Nat} (hF : ∀ e ∈ F, e.2.2.2 < 2 ^ 31) (ha : a.testBit s = true) : (z_few F (2 ^ s) = -nI 1) ↔ (z_and F a).testBit s = true := by
  rw [z_and_bit]
  rcases z_few_cases (v := 2 ^ s) hF with ⟨h1, h2⟩ | ⟨h1, e, h2, h3⟩
  · refine ⟨fun _ => ⟨ha, fun e he => ?_⟩, fun _ => h1⟩
    have := h2 e he
    cases hb : e.1.testBit s with
    | true => rfl
    | false => exact absurd ((z_andp0 _ _).mpr hb) this
  · refine ⟨fun z => absurd z h1, fun z => ?_⟩
    have := z.2 e h2
    rw [(z_andp0 _ _).mp h3] at this
    cases this
theorem z_F_far {P M who bar x0 : Nat} {sp : Nat → Nat → Nat} (ok : z_ok P M sp) (h0 : z_V P M x0) : ∀ e ∈ z_F P M sp who bar x0, e.2.2.2 < 2 ^ 31 := by
  intro e he
  obtain ⟨b, hb⟩ := List.getElem?_of_mem he
  have h1 := (z_LI_B (who := who) (bar := bar) ok h0 57344).2 b e hb
  have h2 := z_at_lt hb
  have h3 := z_F_len (who := who) (bar := bar) ok h0 57344
  have h2 : b < (z_B P M sp who bar x0 57344).length := h2
  omega
theorem z_mod5 {x s : Nat} (hs : s < 5) : (x % 32).testBit s = x.testBit s := by
  rw [show x % 32 = x % 2 ^ 5 from rfl, Nat.testBit_mod_two_pow, decide_eq_true hs, Bool.true_and]
def z_ac (P M : Nat) (sp : Nat → Nat → Nat) (x s t : Nat) : Bool := decide (t ≠ s) && (x.testBit t && (z_and (z_F P M sp (2 ^ P - 1) (2 ^ t) x) (x % 32)).testBit s)
def z_as (P M : Nat) (sp : Nat → Nat → Nat) (x s t a : Nat) : Nat := if z_ac P M sp x s t = true then a ||| 2 ^ t else a
theorem z_acond {x i : Nat} (hi : i < 5) : ((nI x &&& (31 : Int32)) &&& nI (2 ^ i) = 0) ↔ x.testBit i = false := by
  rw [z_hold, q_and, show (0 : Int32) = nI 0 from rfl, nI_eq (Nat.lt_of_le_of_lt Nat.and_le_right (Nat.pow_lt_pow_right (by decide) (by omega))) (by decide), z_andp0, z_mod5 hi]
theorem z_acond2 {x i : Nat} (hi : i < 5) : (nI x &&& nI (2 ^ i) = 0) ↔ x.testBit i = false := by
  rw [q_and, show (0 : Int32) = nI 0 from rfl, nI_eq (Nat.lt_of_le_of_lt Nat.and_le_right (Nat.pow_lt_pow_right (by decide) (by omega))) (by decide), z_andp0]
theorem z_p32 {i : Nat} (hi : i < 5) : 2 ^ i < 32 := Nat.pow_lt_pow_right (m := i) (n := 5) (a := 2) (by decide) hi
theorem s_ahead_L {nT_fromNow_found : Nat} {vT_fromNow_deedsAllowed vT_fromNow_doers vT_fromNow_opened vT_fromNow_size vT_fromNow_start vT_fromNow_unlifted vT_told_spells : Int32} {fT_fromNow_found fT_fromNow_seen : Nat → Int64} {P M x v : Nat} {sp : Nat → Nat → Nat} {ak ba bi dr ks kn mk so va wk wh : Nat → Int32} {cc : Int32} (ok : z_ok P M sp) (hA : z_RA M sp ak kn mk va wk) (hdt : z_dt M sp (z_ds P) (cc, ba, bi, dr, ks, so, wh)) (n1 : z_V P M x) (hv : v < 2 ^ 31) (hv5 : v < 5) (hxv : x.testBit v = true) : ∀ r i k (a : Nat) (nW : Nat) (da dn op size st un : Int32) (fo se : Nat → Int64), i + r = 5 → r + 60000 < k → i_len nW → z_SO P M sp (nW, da, dn, op, size, st, un, fo, se) → wp (f_SS_ahead_L47 nT_fromNow_found vT_fromNow_deedsAllowed vT_fromNow_doers vT_fromNow_opened vT_fromNow_size vT_fromNow_start vT_fromNow_unlifted (nI (z_ds P).length) (nI P) (nI M) (nI x) (nI P) vT_told_spells fT_fromNow_found fT_fromNow_seen ak ba bi dr ks kn mk so va wk (nI v) (nI (2 ^ v)) k (nI a) (nI i) nW da dn op size st un fo se) (fun q => q.1 = nI (z_it (z_as P M sp x v) r i a) ∧ i_len q.2.1 ∧ z_SO P M sp q.2) := by
  have hP := ok.2.1
  have hM := ok.2.2.1
  have hx := n1.1
  have hB := z_RB_of ok hdt
  intro r
  induction r with
  | zero =>
    intro i k a nW da dn op size st un fo se hi hk h1 h2
    obtain ⟨k, rfl⟩ : ∃ k', k = k' + 1 := ⟨k - 1, by omega⟩
    rw [f_SS_ahead_L47]
    exact w_T (by simp (disch := omega) only [q_lit, q_ofn, nI_add, q_mul, q_sub, q_shrm, q_shlm, q_a31s, q_a1, q_a3, q_a7, q_a65535, q_div, q_rem2, z_mm, nI_clamp, Nat.reduceMul, Nat.reduceAdd, Nat.reduceSub, Nat.reducePow, Nat.reduceMod, Nat.reduceDiv, Nat.one_mul, nI_ltI, nI_leI, nI_eq, q_b0, q_b1, q_m1lt, q_m1le, q_ltm1, q_lem1, q_eqm1, q_m1eq, not_true_eq_false, not_false_eq_true, reduceCtorEq, *] <;> first | omega | decide) (w_some ⟨rfl, h1, h2⟩)
  | succ r ih =>
    intro i k a nW da dn op size st un fo se hi hk h1 h2
    obtain ⟨k, rfl⟩ : ∃ k', k = k' + 1 := ⟨k - 1, by omega⟩
    have hi1 : nI i + (1 : Int32) = nI (i + 1) := by simp only [q_lit, nI_add]
    rw [f_SS_ahead_L47]
    refine w_F (by simp (disch := omega) only [q_lit, q_ofn, nI_add, q_mul, q_sub, q_shrm, q_shlm, q_a31s, q_a1, q_a3, q_a7, q_a65535, q_div, q_rem2, z_mm, nI_clamp, Nat.reduceMul, Nat.reduceAdd, Nat.reduceSub, Nat.reducePow, Nat.reduceMod, Nat.reduceDiv, Nat.one_mul, nI_ltI, nI_leI, nI_eq, q_b0, q_b1, q_m1lt, q_m1le, q_ltm1, q_lem1, q_eqm1, q_m1eq, not_true_eq_false, not_false_eq_true, reduceCtorEq, *] <;> first | omega | decide) ?_
    refine w_Ln (w := nI (2 ^ i)) (z_sh1 (by omega)) ?_
    rw [z_it_s]
    unfold z_as z_ac
    unfold f_SS_ahead_J108
    by_cases hiv : i = v
    · subst hiv
      refine w_T rfl (w_Ln hi1 ?_)
      rw [if_neg (by simp)]
      exact ih (i + 1) k _ _ _ _ _ _ _ _ _ _ (by omega) (by omega) h1 h2
    · refine w_F (by simp (disch := omega) only [q_lit, q_ofn, nI_add, q_mul, q_sub, q_shrm, q_shlm, q_a31s, q_a1, q_a3, q_a7, q_a65535, q_div, q_rem2, z_mm, nI_clamp, Nat.reduceMul, Nat.reduceAdd, Nat.reduceSub, Nat.reducePow, Nat.reduceMod, Nat.reduceDiv, Nat.one_mul, nI_ltI, nI_leI, nI_eq, q_b0, q_b1, q_m1lt, q_m1le, q_ltm1, q_lem1, q_eqm1, q_m1eq, not_true_eq_false, not_false_eq_true, reduceCtorEq, *] <;> first | omega | decide) ?_
      unfold f_St_holding
      refine w_Be rfl ?_
      rw [decide_eq_true hiv, Bool.true_and]
      cases hxb : x.testBit i with
      | false =>
        refine w_T ((z_acond (by omega)).mpr hxb) (w_Ln hi1 ?_)
        rw [if_neg (by simp)]
        exact ih (i + 1) k _ _ _ _ _ _ _ _ _ _ (by omega) (by omega) h1 h2
      | true =>
        refine w_F (fun z => by rw [(z_acond (by omega)).mp z] at hxb; cases hxb) ?_
        rw [Bool.true_and]
        refine w_Be (t_everybody hP) ?_
        refine w_Bw (q_what ok hdt n1 (z_all8 hP) (z_p32 (by omega)) (by omega) h2) ?_
        rintro ⟨w1, w2, w3, w4, w5, w6, w7, w8, w9⟩ ⟨hg, hs⟩
        refine w_G (z_gr_nlt hP hM hs) ?_
        refine w_Bw (q_few ok hA hB (z_p32 (by omega)) n1 (by omega) hs (Nat.lt_trans (z_p32 hv5) (by decide))) ?_
        rintro ⟨y, o1, o2, o3, o4⟩ ⟨e, hs2⟩
        have h3 := i_len_gr hP hM hg h1
        have h4 := z_SO_of hs2 (z_all8 hP) (z_p32 (by omega)) n1
        have key := z_few_and (a := x % 32) (s := v) (z_F_far (who := 2 ^ P - 1) (bar := 2 ^ i) ok n1) (by rw [z_mod5 hv5]; exact hxv)
        have e : y = z_few (z_F P M sp (2 ^ P - 1) (2 ^ i) x) (2 ^ v) := e
        rw [← e] at key
        by_cases f1 : (z_and (z_F P M sp (2 ^ P - 1) (2 ^ i) x) (x % 32)).testBit v = true
        · refine w_T (key.mpr f1) (w_Ln (w := nI (a ||| 2 ^ i)) (q_or _ _) (w_Ln hi1 ?_))
          rw [if_pos f1]
          exact ih (i + 1) k _ _ _ _ _ _ _ _ _ _ (by omega) (by omega) h3 h4
        · refine w_F (fun z => f1 (key.mp z)) (w_Ln hi1 ?_)
          rw [if_neg f1]
          exact ih (i + 1) k _ _ _ _ _ _ _ _ _ _ (by omega) (by omega) h3 h4
theorem z_orz (a : Nat) : nI a ||| (0 : Int32) = nI a := by
  rw [show (0 : Int32) = nI 0 from rfl, q_or, Nat.or_zero]
theorem m_ahead_L {P M x v : Nat} {sp : Nat → Nat → Nat} {sf : Nat → Int32} (ok : z_ok P M sp) (hr : z_rep M sp sf) (n1 : z_V P M x) (hv5 : v < 5) : ∀ r i k (a : Nat) (lf qd : Int32) (fa qu : Nat → Int32), i + r = M → r + 60000 < k → wp (f_Mo_ahead_L40 (nI M) (nI x) (nI P) sf (nI v) k (nI a) (nI i) lf qd fa qu) (fun q => q.1 = nI (z_it (z_as P M sp x v) r i a)) := by
  have hP := ok.2.1
  have hM := ok.2.2.1
  have hx := n1.1
  intro r
  induction r with
  | zero =>
    intro i k a lf qd fa qu hi hk
    obtain ⟨k, rfl⟩ : ∃ k', k = k' + 1 := ⟨k - 1, by omega⟩
    rw [f_Mo_ahead_L40]
    exact w_T (by simp (disch := omega) only [q_lit, q_ofn, nI_add, q_mul, q_sub, q_shrm, q_shlm, q_a31s, q_a1, q_a3, q_a7, q_a65535, q_div, q_rem2, z_mm, nI_clamp, Nat.reduceMul, Nat.reduceAdd, Nat.reduceSub, Nat.reducePow, Nat.reduceMod, Nat.reduceDiv, Nat.one_mul, nI_ltI, nI_leI, nI_eq, q_b0, q_b1, q_m1lt, q_m1le, q_ltm1, q_lem1, q_eqm1, q_m1eq, not_true_eq_false, not_false_eq_true, reduceCtorEq, *] <;> first | omega | decide) (w_some rfl)
  | succ r ih =>
    intro i k a lf qd fa qu hi hk
    obtain ⟨k, rfl⟩ : ∃ k', k = k' + 1 := ⟨k - 1, by omega⟩
    have hi1 : nI i + (1 : Int32) = nI (i + 1) := by simp only [q_lit, nI_add]
    rw [f_Mo_ahead_L40]
    refine w_F (by simp (disch := omega) only [q_lit, q_ofn, nI_add, q_mul, q_sub, q_shrm, q_shlm, q_a31s, q_a1, q_a3, q_a7, q_a65535, q_div, q_rem2, z_mm, nI_clamp, Nat.reduceMul, Nat.reduceAdd, Nat.reduceSub, Nat.reducePow, Nat.reduceMod, Nat.reduceDiv, Nat.one_mul, nI_ltI, nI_leI, nI_eq, q_b0, q_b1, q_m1lt, q_m1le, q_ltm1, q_lem1, q_eqm1, q_m1eq, not_true_eq_false, not_false_eq_true, reduceCtorEq, *] <;> first | omega | decide) ?_
    rw [z_it_s]
    unfold z_as z_ac
    unfold f_Mo_ahead_J96 f_Mo_ahead_J98
    by_cases hiv : i = v
    · subst hiv
      refine w_T rfl (w_Ln hi1 ?_)
      rw [if_neg (by simp)]
      exact ih (i + 1) k _ _ _ _ _ (by omega) (by omega)
    · refine w_F (by simp (disch := omega) only [q_lit, q_ofn, nI_add, q_mul, q_sub, q_shrm, q_shlm, q_a31s, q_a1, q_a3, q_a7, q_a65535, q_div, q_rem2, z_mm, nI_clamp, Nat.reduceMul, Nat.reduceAdd, Nat.reduceSub, Nat.reducePow, Nat.reduceMod, Nat.reduceDiv, Nat.one_mul, nI_ltI, nI_leI, nI_eq, q_b0, q_b1, q_m1lt, q_m1le, q_ltm1, q_lem1, q_eqm1, q_m1eq, not_true_eq_false, not_false_eq_true, reduceCtorEq, *] <;> first | omega | decide) ?_
      refine w_Be (m_has (by omega) (by omega)) ?_
      rw [decide_eq_true hiv, Bool.true_and]
      cases hxb : x.testBit i with
      | false =>
        refine w_T rfl (w_Ln hi1 ?_)
        rw [if_neg (by simp)]
        exact ih (i + 1) k _ _ _ _ _ (by omega) (by omega)
      | true =>
        refine w_F (by decide) ?_
        rw [Bool.true_and, z_sh1 (by omega)]
        refine w_Bw (m_layFars (who := 7) (bar := 2 ^ i) ok hr (by decide) (Nat.lt_trans (z_p32 (by omega)) (by decide)) n1 (by omega)) ?_
        rintro ⟨u1, u2, u3, u4⟩ hq
        rw [z_F7 hP] at hq
        have hlt : z_and (z_F P M sp (2 ^ P - 1) (2 ^ i) x) (x % 32) < 2 ^ 31 := Nat.lt_of_le_of_lt (z_and_le _ _) (by omega)
        refine w_Be (m_held hP hM n1 hq.1 (by omega)) (w_Be (m_has hlt (by omega)) ?_)
        cases f1 : (z_and (z_F P M sp (2 ^ P - 1) (2 ^ i) x) (x % 32)).testBit v with
        | false =>
          refine w_T rfl (w_Ln (w := nI a) (z_orz a) (w_Ln hi1 ?_))
          rw [if_neg (by simp)]
          exact ih (i + 1) k _ _ _ _ _ (by omega) (by omega)
        | true =>
          refine w_F (by decide) (w_Ln (w := nI (a ||| 2 ^ i)) (q_or _ _) (w_Ln hi1 ?_))
          rw [if_pos rfl]
          exact ih (i + 1) k _ _ _ _ _ (by omega) (by omega)
theorem p_ahead {ns k : Nat} {ci : Nat → Int32} {cf : Nat → Nat → Int32} {cl : Nat → Nat → Int64} {cn : Nat → Nat} {mi : Nat → Int32} {mf : Nat → Nat → Int32} (hk : 200000 ≤ k) (h : z_inv ns ci cf cl cn mi mf) (p1 : Int32) : wp (f_SS_ahead k (cn 0) (cn 1) (ci 1) (ci 2) (ci 3) (ci 4) (ci 5) (ci 6) (ci 17) (ci 18) (ci 19) (ci 20) (ci 24) (ci 25) (ci 30) (ci 31) (ci 32) (ci 33) (ci 34) (ci 35) (cl 0) (cl 1) (cf 12) (cf 13) (cf 15) (cf 17) (cf 18) (cf 19) (cf 20) (cf 21) (cf 22) (cf 23) (cl 2) (cl 3) p1) (fun q => wp (f_Mo_ahead k (mi 5) (mi 6) (mi 7) (mi 9) (mi 12) (mf 0) (mf 8) (mf 11) p1) (fun q' => q.1 = q'.1 ∧ z_inv ns (z_u (z_u (z_u (z_u (z_u (z_u (z_u (z_u (z_u (z_u (z_u (z_u ci 1 q.2.2.2.1) 2 q.2.2.2.2.1) 3 q.2.2.2.2.2.1) 4 q.2.2.2.2.2.2.1) 5 q.2.2.2.2.2.2.2.1) 6 q.2.2.2.2.2.2.2.2.1) 30 q.2.2.2.2.2.2.2.2.2.1) 31 q.2.2.2.2.2.2.2.2.2.2.1) 32 q.2.2.2.2.2.2.2.2.2.2.2.1) 33 q.2.2.2.2.2.2.2.2.2.2.2.2.1) 34 q.2.2.2.2.2.2.2.2.2.2.2.2.2.1) 35 q.2.2.2.2.2.2.2.2.2.2.2.2.2.2.1) cf (z_u (z_u (z_u (z_u cl 0 q.2.2.2.2.2.2.2.2.2.2.2.2.2.2.2.1) 1 q.2.2.2.2.2.2.2.2.2.2.2.2.2.2.2.2.1) 2 q.2.2.2.2.2.2.2.2.2.2.2.2.2.2.2.2.2.1) 3 q.2.2.2.2.2.2.2.2.2.2.2.2.2.2.2.2.2.2) (z_u (z_u cn 0 q.2.1) 1 q.2.2.1) (z_u (z_u mi 5 q'.2.1) 12 q'.2.2.1) (z_u (z_u mf 0 q'.2.2.2.1) 8 q'.2.2.2.2))) := by
  obtain ⟨c, n, S, x, d, hT, ok, hdr, hml, hRU, hN, hU, hK, hR, hQ, hY, hF, hW, hl1, hl2, hb⟩ := h
  have hPe : (ci 24) = nI S.1 := hdr.2.2.1; have hSp : (ci 25) = nI S.2.1 := hdr.2.2.2.1; have hmM : (mi 6) = nI S.2.1 := hml.1; have hmP : (mi 9) = nI S.1 := hml.2.1; have hP1 := ok.1.1; have hP3 := ok.1.2.1; have hM5 := ok.1.2.2.1
  have hr1 : (ci 18) = nI S.1 := hRU.1; have hr2 : (ci 19) = nI S.2.1 := hRU.2.1; have hdt := hRU.2.2.2.2; have hr3 : (ci 17) = nI (z_ds S.1).length := hdt.1; have hA := hRU.2.2.1; have hB := z_RB_of ok.1 hdt; have hrep := hml.2.2.2.2; have h8 := z_all8 hP3; obtain ⟨n1, n2, n3, n4, n5, n6⟩ := id hN
  have hx := n1.1
  rw [hSp, hPe, hmP, hmM, n3, n5, hr1, hr2, hr3]
  rcases z_smal (p := p1) S.2.1 (by omega) with hneg | ⟨v, hv, rfl⟩ | ⟨v, hv, hv', rfl⟩
  · refine w_2 (r1 := (-2, (cn 0), (cn 1), (ci 1), (ci 2), (ci 3), (ci 4), (ci 5), (ci 6), (ci 30), (ci 31), (ci 32), (ci 33), (ci 34), (ci 35), (cl 0), (cl 1), (cl 2), (cl 3))) (r2 := (-2, (mi 5), (mi 12), (mf 0), (mf 8))) ?_ ?_ ⟨rfl, c, n, S, x, d, hT, ok, hdr, hml, hRU, hN, hU, hK, hR, hQ, hY, hF, hW, hl1, hl2, hb⟩
    · unfold f_SS_ahead
      exact e_B (t_hasSpellN hneg) (e_T rfl rfl)
    · unfold f_Mo_ahead
      exact e_B (m_isSpellN hneg) (e_T rfl rfl)
  · have a1 := t_hasSpell (M := S.2.1) (s := v) hM5 (by omega)
    have a2 := m_isSpell (P := S.2.1) (n := v) (by omega) (by omega)
    rw [decide_eq_true hv] at a1 a2
    cases hxv : x.testBit v with
    | false =>
      refine w_2 (r1 := (-4, (cn 0), (cn 1), (ci 1), (ci 2), (ci 3), (ci 4), (ci 5), (ci 6), (ci 30), (ci 31), (ci 32), (ci 33), (ci 34), (ci 35), (cl 0), (cl 1), (cl 2), (cl 3))) (r2 := (-4, (mi 5), (mi 12), (mf 0), (mf 8))) ?_ ?_ ⟨rfl, c, n, S, x, d, hT, ok, hdr, hml, hRU, hN, hU, hK, hR, hQ, hY, hF, hW, hl1, hl2, hb⟩
      · unfold f_SS_ahead
        refine e_B a1 (e_F (by decide) (e_L (e_T ?_ rfl)))
        rw [z_sh1 (by omega)]
        exact (z_acond2 (by omega)).mpr hxv
      · unfold f_Mo_ahead
        refine e_B a2 (e_F (by decide) (e_B (m_has (by omega) (by omega)) ?_))
        rw [hxv]
        exact e_T rfl rfl
    | true =>
      have key := z_few_and (a := x % 32) (s := v) (z_F_far (who := 2 ^ S.1 - 1) (bar := 0) ok.1 n1) (by rw [z_mod5 (by omega)]; exact hxv)
      have hlt : z_and (z_F S.1 S.2.1 S.2.2.2.2 (2 ^ S.1 - 1) 0 x) (x % 32) < 2 ^ 31 := Nat.lt_of_le_of_lt (z_and_le _ _) (by omega)
      have h5 : z_it (z_as S.1 S.2.1 S.2.2.2.2 x v) 5 0 0 = z_it (z_as S.1 S.2.1 S.2.2.2.2 x v) S.2.1 0 0 := by
        refine z_it_5 hM5 (fun j h1 h2 a => ?_) _
        unfold z_as z_ac
        rw [z_nobit n1 h1 h2, Bool.false_and, Bool.and_false]
        rfl
      refine w_2w (R1 := fun q => q.1 = (if (z_and (z_F S.1 S.2.1 S.2.2.2.2 (2 ^ S.1 - 1) 0 x) (x % 32)).testBit v = true then -4 else nI (z_it (z_as S.1 S.2.1 S.2.2.2.2 x v) S.2.1 0 0)) ∧ z_s2 S.1 S.2.1 S.2.2.2.2 q) (R2 := fun q => q.1 = (if (z_and (z_F S.1 S.2.1 S.2.2.2.2 (2 ^ S.1 - 1) 0 x) (x % 32)).testBit v = true then -4 else nI (z_it (z_as S.1 S.2.1 S.2.2.2.2 x v) S.2.1 0 0))) ?_ ?_ (fun q q' h1 h2 => ⟨h1.1.trans h2.symm, c, n, S, x, d, hT, ok, hdr, hml, hRU, hN, hU, hK, hR, hQ, hY, h1.2.2.1, h1.2.2.2.2, h1.2.1, h1.2.2.2.1, hb⟩)
      · unfold f_SS_ahead
        refine w_Be a1 (w_F (by decide) (w_Ln (w := nI (2 ^ v)) (z_sh1 (by omega)) (w_F (fun z => by rw [(z_acond2 (by omega)).mp z] at hxv; cases hxv) ?_)))
        refine w_Bw (q_from ok.1 hdt n1 (by omega) hF) ?_; rintro ⟨w1, w2, w3, w4, w5, w6, w7, w8, w9⟩ ⟨hg, hs⟩; refine w_G (z_gr_nlt hP3 hM5 hs) ?_
        refine w_Bw (q_few ok.1 hA hB (by decide) n1 (by omega) hs (Nat.lt_trans (z_p32 (by omega)) (by decide))) ?_
        rintro ⟨y, o1, o2, o3, o4⟩ ⟨e, hs2⟩
        have e : y = z_few (z_F S.1 S.2.1 S.2.2.2.2 (2 ^ S.1 - 1) 0 x) (2 ^ v) := e
        rw [← e] at key
        by_cases f1 : (z_and (z_F S.1 S.2.1 S.2.2.2.2 (2 ^ S.1 - 1) 0 x) (x % 32)).testBit v = true
        · refine w_T (key.mpr f1) (w_some ⟨?_, i_len_gr hP3 hM5 hg hl1, z_SO_of hs2 h8 (by decide) n1, hl2, hW⟩)
          rw [if_pos f1]
        · refine w_F (fun z => f1 (key.mp z)) ?_
          refine w_Bw (s_ahead_L (v := v) ok.1 hA hdt n1 (by omega) (by omega) hxv 5 0 k 0 _ _ _ _ _ _ _ _ _ (by omega) (by omega) hl2 hW) ?_
          rintro ⟨q1, q2, q3, q4, q5, q6, q7, q8, q9, q10⟩ ⟨g1, g2, g3⟩
          refine w_some ⟨?_, i_len_gr hP3 hM5 hg hl1, z_SO_of hs2 h8 (by decide) n1, g2, g3⟩
          rw [if_neg f1, ← h5]
          exact g1
      · unfold f_Mo_ahead f_Mo_neverOf
        refine w_Be a2 (w_F (by decide) (w_Be (m_has (by omega) (by omega)) ?_))
        rw [hxv]
        refine w_F (by decide) ?_
        refine w_Bw (R := fun q => q.1 = nI (z_and (z_F S.1 S.2.1 S.2.2.2.2 (2 ^ S.1 - 1) 0 x) (x % 32))) ?_ ?_
        · refine w_Bw (m_layAll ok.1 hrep n1 (by omega)) ?_
          rintro ⟨w1, w2, w3, w4⟩ hq
          exact w_Be (m_held hP3 hM5 n1 hq.1 (by omega)) (w_some rfl)
        · rintro ⟨w1, w2, w3, w4, w5⟩ hq
          have hq : w1 = nI (z_and (z_F S.1 S.2.1 S.2.2.2.2 (2 ^ S.1 - 1) 0 x) (x % 32)) := hq
          subst hq
          refine w_Be (m_has hlt (by omega)) ?_
          cases f1 : (z_and (z_F S.1 S.2.1 S.2.2.2.2 (2 ^ S.1 - 1) 0 x) (x % 32)).testBit v with
          | true =>
            refine w_F (by decide) (w_some ?_)
            rfl
          | false =>
            refine w_T rfl ?_
            refine w_Bw (m_ahead_L (v := v) ok.1 hrep n1 (by omega) S.2.1 0 k 0 _ _ _ _ (by omega) (by omega)) ?_
            rintro ⟨q1, q2, q3, q4, q5⟩ g1
            refine w_some ?_
            rw [if_neg (by simp)]
            exact g1
  · have a1 := t_hasSpell (M := S.2.1) (s := v) hM5 (by omega)
    have a2 := m_isSpell (P := S.2.1) (n := v) (by omega) (by omega)
    rw [decide_eq_false (by omega)] at a1 a2
    refine w_2 (r1 := (-2, (cn 0), (cn 1), (ci 1), (ci 2), (ci 3), (ci 4), (ci 5), (ci 6), (ci 30), (ci 31), (ci 32), (ci 33), (ci 34), (ci 35), (cl 0), (cl 1), (cl 2), (cl 3))) (r2 := (-2, (mi 5), (mi 12), (mf 0), (mf 8))) ?_ ?_ ⟨rfl, c, n, S, x, d, hT, ok, hdr, hml, hRU, hN, hU, hK, hR, hQ, hY, hF, hW, hl1, hl2, hb⟩
    · unfold f_SS_ahead
      exact e_B a1 (e_T rfl rfl)
    · unfold f_Mo_ahead
      exact e_B a2 (e_T rfl rfl)
