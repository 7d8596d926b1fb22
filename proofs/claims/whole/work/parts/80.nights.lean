/-! nights: layer by layer -/
def z_d0 (P : Nat) : List Nat := (z_ds P).take ((z_ds P).length - 1)
theorem z_d0_range {P : Nat} (h1 : 1 ≤ P) (h3 : P ≤ 3) : z_d0 P = (List.range 21).filter (z_dsv P) := by
  have h : P = 1 ∨ P = 2 ∨ P = 3 := by omega
  rcases h with rfl | rfl | rfl <;> decide +kernel
def z_nA (st : Nat → Nat → Option Nat) (P set : Nat) : Nat → Nat → List zE → List zE × Bool
  | 0, _, L => (L, false)
  | r + 1, i, L => match L[i]? with
    | none => (L, false)
    | some e => if e.1 &&& set = 0 then (L, true) else z_nA st P set r (i + 1) (z_op st (z_dx P) e.1 i (e.2.2.2 + 1) L (z_d0 P))
def z_nB (st : Nat → Nat → Option Nat) (P : Nat) : Nat → Nat → List zE → List zE
  | 0, _, L => L
  | r + 1, i, L => match L[i]? with
    | none => L
    | some e => z_nB st P r (i + 1) (z_op st (z_dx P) e.1 i (e.2.2.2 + 1) L [21])
def z_nN (st : Nat → Nat → Option Nat) (P set : Nat) : Nat → Nat → Nat → List zE → Int32
  | 0, _, _, _ => -nI 1
  | f + 1, layer, nn, L => if L.length ≤ layer then -nI 1 else if (z_nA st P set (57344 - layer) layer L).2 = true then nI nn else
    z_nN st P set f (z_nA st P set (57344 - layer) layer L).1.length (nn + 1) (z_nB st P ((z_nA st P set (57344 - layer) layer L).1.length - layer) layer (z_nA st P set (57344 - layer) layer L).1)
theorem z_nA_pre (st : Nat → Nat → Option Nat) (P set : Nat) : ∀ r i L, L <+: (z_nA st P set r i L).1 := by
  intro r
  induction r with
  | zero => intro i L; exact List.prefix_refl L
  | succ r ih =>
    intro i L
    unfold z_nA
    cases L[i]? with
    | none => exact List.prefix_refl L
    | some e =>
      simp only
      split
      · exact List.prefix_refl L
      · exact (z_op_pre st (z_dx P) e.1 i (e.2.2.2 + 1) (z_d0 P) L).trans (ih (i + 1) _)
theorem z_nB_pre (st : Nat → Nat → Option Nat) (P : Nat) : ∀ r i L, L <+: z_nB st P r i L := by
  intro r
  induction r with
  | zero => intro i L; exact List.prefix_refl L
  | succ r ih =>
    intro i L
    unfold z_nB
    cases L[i]? with
    | none => exact List.prefix_refl L
    | some e => exact (z_op_pre st (z_dx P) e.1 i (e.2.2.2 + 1) [21] L).trans (ih (i + 1) _)
theorem z_pre_at {L K : List zE} (h : L <+: K) {i : Nat} {e : zE} (he : L[i]? = some e) : K[i]? = some e := by
  have hi := z_at_lt he
  rw [List.prefix_iff_getElem?.mp h i hi, ← List.getElem?_eq_getElem hi]
  exact he
theorem z_sl0 {P : Nat} (h1 : 1 ≤ P) (h3 : P ≤ 3) : ((z_ds P).drop 0).take ((z_ds P).length - 1 - 1 + 1 - 0) = z_d0 P := by
  have := (z_ds_len h1 h3).1
  unfold z_d0
  rw [List.drop_zero, show (z_ds P).length - 1 - 1 + 1 - 0 = (z_ds P).length - 1 by omega]
theorem z_sl1 {P : Nat} (h1 : 1 ≤ P) (h3 : P ≤ 3) : ((z_ds P).drop ((z_ds P).length - 1)).take ((z_ds P).length - 1 + 1 - ((z_ds P).length - 1)) = [21] := by
  have := (z_ds_len h1 h3).1
  rw [show (z_ds P).length - 1 + 1 - ((z_ds P).length - 1) = 0 + 1 by omega, z_slice (by omega), List.take_zero]
  have e := z_dd_at (P := P) (d := (z_ds P).length - 1) (by omega)
  rw [z_ds_last h1 h3] at e
  rw [← Option.some.inj e]
theorem s_nA {P M who bar nF : Nat} {sp : Nat → Nat → Nat} {ak ba bi dr ks kn mk so va wk : Nat → Int32} {dn stt : Int32} {set : Nat} (ok : z_ok P M sp) (hA : z_RA M sp ak kn mk va wk) (hB : z_RB P M sp (z_ds P).length (z_dd P) ba bi ks so) (hbar : bar < 2 ^ 31) (hset : set < 2 ^ 31) {x4 x5 : Int32} : ∀ r i k (L : List zE) (op size : Int32) (fo se : Nat → Int64), i + r = 57344 → r + 31 < k → z_sr P M L nF size fo se → wp (f_Se_fewestNightsWithout_L37 nF (nI (z_bm (z_by P who) (z_ds P).length)) dn (nI (z_ds P).length) (nI P) (nI M) stt (nI bar) ak ba bi dr ks kn mk so va wk (nI set) x4 x5 k (nI i) op size fo se) (fun q => match q with
    | .inl (_, size', fo', se') => (z_nA (z_st P M sp who bar) P set r i L).2 = false ∧ z_sr P M (z_nA (z_st P M sp who bar) P set r i L).1 nF size' fo' se'
    | .inr q => (z_nA (z_st P M sp who bar) P set r i L).2 = true ∧ q.1 = x5 ∧ q.2.1 = nF ∧ q.2.2.2.2.2.2.1 = stt) := by
  have hP := ok.2.1
  have hM := ok.2.2.1
  have hl := z_ds_len ok.1 hP
  intro r
  induction r with
  | zero =>
    intro i k L op size fo se hi hk hs
    obtain ⟨k, rfl⟩ : ∃ k', k = k' + 1 := ⟨k - 1, by omega⟩
    have hlen := Nat.le_trans (z_LI_len hP hM hs.1) (z_cap_le hP hM)
    rw [f_Se_fewestNightsWithout_L37]
    refine w_T (by rw [hs.2.1]; exact nI_le (by omega) (by omega)) (w_some ?_)
    exact ⟨rfl, hs⟩
  | succ r ih =>
    intro i k L op size fo se hi hk hs
    obtain ⟨k, rfl⟩ : ∃ k', k = k' + 1 := ⟨k - 1, by omega⟩
    have hlen := Nat.le_trans (z_LI_len hP hM hs.1) (z_cap_le hP hM)
    rw [f_Se_fewestNightsWithout_L37]
    unfold z_nA
    cases he : L[i]? with
    | none =>
      have := List.getElem?_eq_none_iff.mp he
      refine w_T (by rw [hs.2.1]; exact nI_le (by omega) (by omega)) (w_some ?_)
      exact ⟨rfl, hs⟩
    | some e =>
      have hil := z_at_lt he
      obtain ⟨c1, c2, c3, c4, c5, c6, c7, c8, c9, c10⟩ := z_sr_pk hP hM hs he
      refine w_F (by rw [hs.2.1]; exact nI_ge (by omega) (by omega)) ?_
      refine w_F (by simp (disch := omega) only [q_lit, q_ofn, nI_add, q_mul, q_sub, q_shrm, q_shlm, q_a31s, q_a1, q_a3, q_a7, q_a65535, q_div, q_rem2, z_mm, nI_clamp, Nat.reduceMul, Nat.reduceAdd, Nat.reduceSub, Nat.reducePow, Nat.reduceMod, Nat.reduceDiv, Nat.one_mul, nI_ltI, nI_leI, nI_eq, q_b0, q_b1, q_m1lt, q_m1le, q_ltm1, q_lem1, q_eqm1, q_m1eq, not_true_eq_false, not_false_eq_true, reduceCtorEq, *] <;> first | omega | decide) ?_
      refine w_Be (s_stateAt hP hM hs he) ?_
      have hand : (nI e.1 &&& nI set = 0) ↔ e.1 &&& set = 0 := by
        rw [q_and, q_lit, nI_eq (Nat.lt_of_le_of_lt Nat.and_le_left (by omega)) (by decide)]
      simp only
      by_cases hz : e.1 &&& set = 0
      · refine w_T (hand.mpr hz) (w_some ?_)
        rw [if_pos hz]
        exact ⟨rfl, rfl, rfl, rfl⟩
      · refine w_F (fun z => hz (hand.mp z)) ?_
        rw [if_neg hz]
        unfold f_Ru_nightDeed
        refine w_Be (q := nI ((z_ds P).length - 1)) (by rw [show (1 : Int32) = nI 1 from rfl, q_sub (by omega)]) ?_
        refine w_Bw (R := fun q => q.1 = nI (i + 1) ∧ z_sr P M (z_op (z_st P M sp who bar) (z_dx P) e.1 i (e.2.2.2 + 1) L (z_d0 P)) nF q.2.1 q.2.2.1 q.2.2.2) ?_ (fun q hq => ?_)
        · rw [show nI ((z_ds P).length - 1) - 1 = nI ((z_ds P).length - 1 - 1) by rw [show (1 : Int32) = nI 1 from rfl, q_sub (by omega)]]
          rw [← z_sl0 ok.1 hP]
          exact s_open (a := 0) ok hA hB hbar (by omega) (by omega) (by omega) he hs
        obtain ⟨q1, q2, q3, q4⟩ := q
        refine w_Ln (w := nI (i + 1)) (by first | (with_reducible rfl) | (simp (disch := omega) only [q_lit, q_ofn, nI_add, q_mul, q_sub, q_shrm, q_shlm, q_a31s, q_a1, q_a3, q_a7, q_a65535, q_div, q_rem2, z_mm, nI_clamp, Nat.reduceMul, Nat.reduceAdd, Nat.reduceSub, Nat.reducePow, Nat.reduceMod, Nat.reduceDiv, Nat.one_mul]; done) | (simp (disch := omega) only [q_lit, q_ofn, nI_add, q_mul, q_sub, q_shrm, q_shlm, q_a31s, q_a1, q_a3, q_a7, q_a65535, q_div, q_rem2, z_mm, nI_clamp, Nat.reduceMul, Nat.reduceAdd, Nat.reduceSub, Nat.reducePow, Nat.reduceMod, Nat.reduceDiv, Nat.one_mul]; with_reducible rfl)) ?_
        exact ih (i + 1) k _ q1 q2 q3 q4 (by omega) (by omega) hq.2
theorem s_nB {P M who bar nF : Nat} {sp : Nat → Nat → Nat} {ak ba bi dr ks kn mk so va wk : Nat → Int32} {dn stt : Int32} {set : Nat} (ok : z_ok P M sp) (hA : z_RA M sp ak kn mk va wk) (hB : z_RB P M sp (z_ds P).length (z_dd P) ba bi ks so) (hbar : bar < 2 ^ 31) {x3 x5 : Int32} {nx : Nat} : ∀ r i k (L : List zE) (op size : Int32) (fo se : Nat → Int64), i + r = nx → nx ≤ L.length → r + 31 < k → z_sr P M L nF size fo se → wp (f_Se_fewestNightsWithout_L99 nF (nI (z_bm (z_by P who) (z_ds P).length)) dn (nI (z_ds P).length) (nI P) (nI M) stt (nI bar) ak ba bi dr ks kn mk so va wk x3 x5 (nI nx) k (nI i) op size fo se) (fun q => z_sr P M (z_nB (z_st P M sp who bar) P r i L) nF q.2.1 q.2.2.1 q.2.2.2) := by
  have hP := ok.2.1
  have hM := ok.2.2.1
  have hl := z_ds_len ok.1 hP
  intro r
  induction r with
  | zero =>
    intro i k L op size fo se hi hnx hk hs
    obtain ⟨k, rfl⟩ : ∃ k', k = k' + 1 := ⟨k - 1, by omega⟩
    have hlen := Nat.le_trans (z_LI_len hP hM hs.1) (z_cap_le hP hM)
    rw [f_Se_fewestNightsWithout_L99]
    exact w_T (nI_le (by omega) (by omega)) (w_some hs)
  | succ r ih =>
    intro i k L op size fo se hi hnx hk hs
    obtain ⟨k, rfl⟩ : ∃ k', k = k' + 1 := ⟨k - 1, by omega⟩
    have hlen := Nat.le_trans (z_LI_len hP hM hs.1) (z_cap_le hP hM)
    have hil : i < L.length := by omega
    obtain ⟨e, he⟩ : ∃ e, L[i]? = some e := ⟨_, List.getElem?_eq_getElem hil⟩
    rw [f_Se_fewestNightsWithout_L99]
    unfold z_nB
    rw [he]
    simp only
    refine w_F (nI_ge (by omega) (by omega)) ?_
    refine w_F (by simp (disch := omega) only [q_lit, q_ofn, nI_add, q_mul, q_sub, q_shrm, q_shlm, q_a31s, q_a1, q_a3, q_a7, q_a65535, q_div, q_rem2, z_mm, nI_clamp, Nat.reduceMul, Nat.reduceAdd, Nat.reduceSub, Nat.reducePow, Nat.reduceMod, Nat.reduceDiv, Nat.one_mul, nI_ltI, nI_leI, nI_eq, q_b0, q_b1, q_m1lt, q_m1le, q_ltm1, q_lem1, q_eqm1, q_m1eq, not_true_eq_false, not_false_eq_true, reduceCtorEq, *] <;> first | omega | decide) ?_
    unfold f_Ru_nightDeed
    refine w_Be (q := nI ((z_ds P).length - 1)) (by rw [show (1 : Int32) = nI 1 from rfl, q_sub (by omega)]) ?_
    refine w_Be (q := nI ((z_ds P).length - 1)) (by rw [show (1 : Int32) = nI 1 from rfl, q_sub (by omega)]) ?_
    refine w_Bw (R := fun q => q.1 = nI (i + 1) ∧ z_sr P M (z_op (z_st P M sp who bar) (z_dx P) e.1 i (e.2.2.2 + 1) L [21]) nF q.2.1 q.2.2.1 q.2.2.2) ?_ (fun q hq => ?_)
    · rw [← z_sl1 ok.1 hP]
      exact s_open (a := (z_ds P).length - 1) (b := (z_ds P).length - 1) ok hA hB hbar (by omega) (by omega) (by omega) he hs
    obtain ⟨q1, q2, q3, q4⟩ := q
    refine w_Ln (w := nI (i + 1)) (by first | (with_reducible rfl) | (simp (disch := omega) only [q_lit, q_ofn, nI_add, q_mul, q_sub, q_shrm, q_shlm, q_a31s, q_a1, q_a3, q_a7, q_a65535, q_div, q_rem2, z_mm, nI_clamp, Nat.reduceMul, Nat.reduceAdd, Nat.reduceSub, Nat.reducePow, Nat.reduceMod, Nat.reduceDiv, Nat.one_mul]; done) | (simp (disch := omega) only [q_lit, q_ofn, nI_add, q_mul, q_sub, q_shrm, q_shlm, q_a31s, q_a1, q_a3, q_a7, q_a65535, q_div, q_rem2, z_mm, nI_clamp, Nat.reduceMul, Nat.reduceAdd, Nat.reduceSub, Nat.reducePow, Nat.reduceMod, Nat.reduceDiv, Nat.one_mul]; with_reducible rfl)) ?_
    refine ih (i + 1) k _ q1 q2 q3 q4 (by omega) ?_ (by omega) hq.2
    have := (z_op_pre (z_st P M sp who bar) (z_dx P) e.1 i (e.2.2.2 + 1) [21] L).length_le
    omega
theorem s_nN {P M who bar nF : Nat} {sp : Nat → Nat → Nat} {ak ba bi dr ks kn mk so va wk : Nat → Int32} {dn stt : Int32} {set : Nat} (ok : z_ok P M sp) (hA : z_RA M sp ak kn mk va wk) (hB : z_RB P M sp (z_ds P).length (z_dd P) ba bi ks so) (hbar : bar < 2 ^ 31) (hset : set < 2 ^ 31) : ∀ f layer nn k (L : List zE) (op size : Int32) (fo se : Nat → Int64), nn + f = 57345 → nn ≤ layer → layer ≤ L.length → f + 57400 < k → z_sr P M L nF size fo se → wp (f_Se_fewestNightsWithout_L17 nF (nI (z_bm (z_by P who) (z_ds P).length)) dn (nI (z_ds P).length) (nI P) (nI M) stt (nI bar) ak ba bi dr ks kn mk so va wk (nI set) k (nI layer) (nI nn) op size fo se) (fun q => match q with
    | .inl _ => z_nN (z_st P M sp who bar) P set f layer nn L = -nI 1
    | .inr q => q.1 = z_nN (z_st P M sp who bar) P set f layer nn L ∧ q.2.1 = nF ∧ q.2.2.2.2.2.2.1 = stt) := by
  have hP := ok.2.1
  have hM := ok.2.2.1
  have hl := z_ds_len ok.1 hP
  intro f
  induction f with
  | zero =>
    intro layer nn k L op size fo se hi h1 h2 hk hs
    have hlen := Nat.le_trans (z_LI_len hP hM hs.1) (z_cap_le hP hM)
    omega
  | succ f ih =>
    intro layer nn k L op size fo se hi h1 h2 hk hs
    obtain ⟨k, rfl⟩ : ∃ k', k = k' + 1 := ⟨k - 1, by omega⟩
    have hlen := Nat.le_trans (z_LI_len hP hM hs.1) (z_cap_le hP hM)
    rw [f_Se_fewestNightsWithout_L17]
    unfold z_nN
    by_cases hend : L.length ≤ layer
    · rw [if_pos hend]
      refine w_if (fun _ => w_some rfl) (fun _ => ?_)
      exact w_T (by rw [hs.2.1]; exact nI_le hend (by omega)) (w_some rfl)
    · rw [if_neg hend]
      refine w_F (by simp (disch := omega) only [q_lit, q_ofn, nI_add, q_mul, q_sub, q_shrm, q_shlm, q_a31s, q_a1, q_a3, q_a7, q_a65535, q_div, q_rem2, z_mm, nI_clamp, Nat.reduceMul, Nat.reduceAdd, Nat.reduceSub, Nat.reducePow, Nat.reduceMod, Nat.reduceDiv, Nat.one_mul, nI_ltI, nI_leI, nI_eq, q_b0, q_b1, q_m1lt, q_m1le, q_ltm1, q_lem1, q_eqm1, q_m1eq, not_true_eq_false, not_false_eq_true, reduceCtorEq, *] <;> first | omega | decide) ?_
      refine w_F (by rw [hs.2.1]; exact nI_ge (by omega) (by omega)) ?_
      refine w_Sw (s_nA ok hA hB hbar hset (57344 - layer) layer k L op size fo se (by omega) (by omega) hs) ?_ ?_
      · intro q hq
        obtain ⟨q1, q2, q3, q4⟩ := q
        obtain ⟨g1, g2⟩ := hq
        rw [g1, if_neg (by decide)]
        have hpre := (z_nA_pre (z_st P M sp who bar) P set (57344 - layer) layer L).length_le
        have hlen2 := Nat.le_trans (z_LI_len hP hM g2.1) (z_cap_le hP hM)
        unfold f_Se_fewestNightsWithout_J89 f_Se_fewestNightsWithout_J139
        rw [g2.2.1]
        have hg2 := g2
        rw [g2.2.1] at hg2
        refine w_Bw (s_nB (set := set) ok hA hB hbar (nx := (z_nA (z_st P M sp who bar) P set (57344 - layer) layer L).1.length) ((z_nA (z_st P M sp who bar) P set (57344 - layer) layer L).1.length - layer) layer k _ q1 _ q3 q4 (by omega) (Nat.le_refl _) (by omega) hg2) (fun q hq => ?_)
        obtain ⟨v1, v2, v3, v4⟩ := q
        refine w_Ln (w := nI (nn + 1)) (by first | (with_reducible rfl) | (simp (disch := omega) only [q_lit, q_ofn, nI_add, q_mul, q_sub, q_shrm, q_shlm, q_a31s, q_a1, q_a3, q_a7, q_a65535, q_div, q_rem2, z_mm, nI_clamp, Nat.reduceMul, Nat.reduceAdd, Nat.reduceSub, Nat.reducePow, Nat.reduceMod, Nat.reduceDiv, Nat.one_mul]; done) | (simp (disch := omega) only [q_lit, q_ofn, nI_add, q_mul, q_sub, q_shrm, q_shlm, q_a31s, q_a1, q_a3, q_a7, q_a65535, q_div, q_rem2, z_mm, nI_clamp, Nat.reduceMul, Nat.reduceAdd, Nat.reduceSub, Nat.reducePow, Nat.reduceMod, Nat.reduceDiv, Nat.one_mul]; with_reducible rfl)) ?_
        refine ih _ (nn + 1) k _ v1 v2 v3 v4 (by omega) (by omega) ?_ (by omega) hq
        exact (z_nB_pre (z_st P M sp who bar) P _ layer _).length_le
      · intro q hq
        obtain ⟨g1, g2, g3, g4⟩ := hq
        rw [if_pos g1]
        exact w_some ⟨g2, g3, g4⟩
theorem s_nights {P M who x0 k nF set : Nat} {sp : Nat → Nat → Nat} {c : Int32} {ak ba bi dr ks kn mk so va wk wh : Nat → Int32} {op size stt da dn un : Int32} {fo se : Nat → Int64} (ok : z_ok P M sp) (hA : z_RA M sp ak kn mk va wk) (h : z_dt M sp (z_ds P) (c, ba, bi, dr, ks, so, wh)) (h0 : z_V P M x0) (hw : who < 2 ^ 31) (hset : set < 2 ^ 31) (hk : 120000 ≤ k) (hn : nF ≤ 57344) : wp (f_Se_fewestNightsWithout k nF da dn op (nI (z_ds P).length) (nI P) (nI M) size stt un fo ak ba bi dr ks kn mk so va wk se (nI x0) (nI who) (nI set)) (fun q => q.1 = z_nN (z_st P M sp who 0) P set 57345 0 0 [(x0, 0, 0, 0)] ∧ z_gr P M nF q.2.1 ∧ q.2.2.2.2.2.2.1 = -nI 1) := by
  have hP := ok.2.1
  have hM := ok.2.2.1
  unfold f_Se_fewestNightsWithout
  refine w_Bw (s_begin (bar := 0) ok h h0 hw (by omega) hn) (fun q hq => ?_)
  obtain ⟨q1, q2, q3, q4, q5, q6, q7, q8, q9⟩ := q
  obtain ⟨g1, g2, g3⟩ := hq
  have hcap := z_sk_cap g2
  simp only at hcap g1 g3
  refine w_G (by rw [t_mostN hP hM]; omega) ?_
  unfold f_Se_stale
  refine w_Be rfl ?_
  obtain ⟨b1, b2, b3, b4, n, b5⟩ := g2
  simp only at b1 b2 b3 b4
  subst b1; subst b4
  refine w_Sw (s_nN (who := who) (bar := 0) (dr := dr) (dn := q3) (stt := -1) ok hA (z_RB_of ok h) (by decide) hset 57345 0 0 k _ q4 q5 q8 q9 (by omega) (by omega) (by omega) (by omega) g3.2.2) ?_ ?_
  · intro q hq
    obtain ⟨v1, v2, v3, v4⟩ := q
    exact w_some ⟨hq.symm, g1, rfl⟩
  · intro q hq
    obtain ⟨e1, e2, e3⟩ := hq
    refine w_some ⟨e1, ?_, e3⟩
    rw [e2]
    exact g1
/-! the reference's nights -/
theorem z_range0_op {P M x i t : Nat} {sp : Nat → Nat → Nat} (h1 : 1 ≤ P) (hP : P ≤ 3) (L : List zE) : z_op (z_st P M sp (2 ^ P - 1) 0) (z_dx P) x i t L (List.range 21) = z_op (z_st P M sp (2 ^ P - 1) 0) (z_dx P) x i t L (z_d0 P) := by
  rw [z_d0_range h1 hP]
  unfold z_op
  rw [List.foldl_filter]
  congr 1
  funext K D
  split
  · rfl
  · next h =>
    unfold z_pst z_st
    rw [if_neg (fun z => h (z_can_dsv z.2.1))]
theorem z_range0_cons {D : Nat} (h : D < 21) : (List.range 21).drop D = D :: (List.range 21).drop (D + 1) := by
  rw [List.drop_eq_getElem_cons (by rw [List.length_range]; exact h), List.getElem_range]
theorem m_nA_in {P M nn : Nat} {sp : Nat → Nat → Nat} {sf la : Nat → Int32} {x1 x3 lm nw : Int32} (ok : z_ok P M sp) (hr : z_rep M sp sf) (hnn : nn < 2 ^ 31) {i : Nat} {e : zE} : ∀ r D k (L : List zE) (lf qd : Int32) (fa qu : Nat → Int32), D + r = 21 → r + 12 < k → L[i]? = some e → z_qm P M L qd fa qu → wp (f_Mo_nights_L69 lm (nI M) nw (nI P) la sf x1 (nI nn) x3 (nI e.1) k (nI D) lf qd fa qu) (fun q => z_qm P M (z_op (z_st P M sp (2 ^ P - 1) 0) (z_dx P) e.1 i (e.2.2.2 + 1) L ((List.range 21).drop D)) q.2.1 q.2.2.1 q.2.2.2) := by
  have hP := ok.2.1
  have hM := ok.2.2.1
  intro r
  induction r with
  | zero =>
    intro D k L lf qd fa qu hD hk he hq
    obtain ⟨k, rfl⟩ : ∃ k', k = k' + 1 := ⟨k - 1, by omega⟩
    rw [f_Mo_nights_L69]
    refine w_T (by simp (disch := omega) only [q_lit, q_ofn, nI_add, q_mul, q_sub, q_shrm, q_shlm, q_a31s, q_a1, q_a3, q_a7, q_a65535, q_div, q_rem2, z_mm, nI_clamp, Nat.reduceMul, Nat.reduceAdd, Nat.reduceSub, Nat.reducePow, Nat.reduceMod, Nat.reduceDiv, Nat.one_mul, nI_ltI, nI_leI, nI_eq, q_b0, q_b1, q_m1lt, q_m1le, q_ltm1, q_lem1, q_eqm1, q_m1eq, not_true_eq_false, not_false_eq_true, reduceCtorEq, *] <;> first | omega | decide) (w_some ?_)
    rw [List.drop_eq_nil_of_le (by rw [List.length_range]; omega)]
    exact hq
  | succ r ih =>
    intro D k L lf qd fa qu hD hk he hq
    obtain ⟨k, rfl⟩ : ∃ k', k = k' + 1 := ⟨k - 1, by omega⟩
    have hD22 : D < 22 := by omega
    obtain ⟨hV, hde, hfe, hti⟩ := hq.1.2 i e he
    have hV1 := hV.1
    have hl := Nat.le_trans (z_LI_len hP hM hq.1) (z_cap_le hP hM)
    have hil := z_at_lt he
    rw [z_range0_cons (by omega)]
    have next : ∀ (L' : List zE) (lf' qd' : Int32) (fa' qu' : Nat → Int32), L' = z_pst (z_st P M sp (2 ^ P - 1) 0) (z_dx P) e.1 i (e.2.2.2 + 1) L D → z_qm P M L' qd' fa' qu' → wp (f_Mo_nights_L69 lm (nI M) nw (nI P) la sf x1 (nI nn) x3 (nI e.1) k (nI D + 1) lf' qd' fa' qu') (fun q => z_qm P M (z_op (z_st P M sp (2 ^ P - 1) 0) (z_dx P) e.1 i (e.2.2.2 + 1) L (D :: (List.range 21).drop (D + 1))) q.2.1 q.2.2.1 q.2.2.2) := by
      intro L' lf' qd' fa' qu' hL' hq'
      rw [show nI D + 1 = nI (D + 1) by simp only [q_lit, nI_add]]
      have hpre := z_pst_pre (z_st P M sp (2 ^ P - 1) 0) (z_dx P) e.1 i (e.2.2.2 + 1) L D
      have g := ih (D + 1) k L' lf' qd' fa' qu' (by omega) (by omega) (by rw [hL']; exact z_pre_at hpre he) hq'
      rw [hL'] at g
      exact g
    rw [f_Mo_nights_L69]
    refine w_F (by simp (disch := omega) only [q_lit, q_ofn, nI_add, q_mul, q_sub, q_shrm, q_shlm, q_a31s, q_a1, q_a3, q_a7, q_a65535, q_div, q_rem2, z_mm, nI_clamp, Nat.reduceMul, Nat.reduceAdd, Nat.reduceSub, Nat.reducePow, Nat.reduceMod, Nat.reduceDiv, Nat.one_mul, nI_ltI, nI_leI, nI_eq, q_b0, q_b1, q_m1lt, q_m1le, q_ltm1, q_lem1, q_eqm1, q_m1eq, not_true_eq_false, not_false_eq_true, reduceCtorEq, *] <;> first | omega | decide) ?_
    unfold f_Mo_nights_J100
    refine w_Be (m_can ok hr (by omega) (by omega) hD22) ?_
    cases hc : z_can P M sp e.1 D with
    | false =>
      refine w_T (by decide) ?_
      refine w_L ?_
      refine next L lf qd fa qu ?_ hq
      unfold z_pst
      rw [z_st_all hP, hc]
      rfl
    | true =>
      refine w_F (by decide) ?_
      refine w_Be (m_behind ok hr (by omega) hV1 hD22 (z_can_ask hD22 hc) lf) ?_
      obtain ⟨hV2, hl2⟩ := z_beh_V ok hV hD22 hc
      obtain ⟨d, hd⟩ := List.getElem?_of_mem (z_ds_mem.mpr ⟨hD22, z_can_dsv hc⟩)
      have hdl := (List.getElem?_eq_some_iff.mp hd).1
      have hd19 := (z_ds_len ok.1 hP).2
      refine w_Bw (m_put (d := d) (n := i) (t' := e.2.2.2 + 1) hP hM hq hV2 (by omega) (by omega) (by omega) hnn) (fun q hq2 => ?_)
      obtain ⟨q1, q2, q3⟩ := q
      refine w_L ?_
      refine next _ _ q1 q2 q3 ?_ hq2.1
      unfold z_pst
      rw [z_st_all hP, hc, z_dx_at hd]
      rfl
theorem z_can21 {P M x : Nat} {sp : Nat → Nat → Nat} : z_can P M sp x 21 = true := rfl
/-- the night's states of the entries from 'layer' on -/
def z_lat (M : Nat) (sp : Nat → Nat → Nat) (L : List zE) (layer n : Nat) (la : Nat → Int32) : Prop := ∀ (m : Nat), m < n → ∀ e : zE, L[layer + m]? = some e → la m = nI (z_beh M sp e.1 21).1
theorem m_nA {P M nn set layer : Nat} {sp : Nat → Nat → Nat} {sf : Nat → Int32} {nw : Int32} (ok : z_ok P M sp) (hr : z_rep M sp sf) (hnn : nn < 2 ^ 31) (hset : set < 2 ^ 31) : ∀ r i k (L : List zE) (lf qd : Int32) (fa la qu : Nat → Int32), i + r = 57344 → layer ≤ i → i ≤ L.length → r + 40 < k → z_qm P M L qd fa qu → z_lat M sp L layer (i - layer) la → wp (f_Mo_nights_L41 (nI M) nw (nI P) sf (nI set) (nI nn) k (nI i) (nI (i - layer)) lf qd fa la qu) (fun q => match q with
    | .inl (x3, lm, _, qd', fa', la', qu') => (z_nA (z_st P M sp (2 ^ P - 1) 0) P set r i L).2 = false ∧ x3 = nI (z_nA (z_st P M sp (2 ^ P - 1) 0) P set r i L).1.length ∧ lm = nI ((z_nA (z_st P M sp (2 ^ P - 1) 0) P set r i L).1.length - layer) ∧ z_qm P M (z_nA (z_st P M sp (2 ^ P - 1) 0) P set r i L).1 qd' fa' qu' ∧ z_lat M sp (z_nA (z_st P M sp (2 ^ P - 1) 0) P set r i L).1 layer ((z_nA (z_st P M sp (2 ^ P - 1) 0) P set r i L).1.length - layer) la'
    | .inr q => (z_nA (z_st P M sp (2 ^ P - 1) 0) P set r i L).2 = true ∧ q.1 = nI nn) := by
  have hP := ok.2.1
  have hM := ok.2.2.1
  intro r
  induction r with
  | zero =>
    intro i k L lf qd fa la qu hi hly hil hk hq hla
    obtain ⟨k, rfl⟩ : ∃ k', k = k' + 1 := ⟨k - 1, by omega⟩
    have hlen := Nat.le_trans (z_LI_len hP hM hq.1) (z_cap_le hP hM)
    have : i = L.length := by omega
    rw [f_Mo_nights_L41]
    refine w_T (by rw [hq.2.1]; exact nI_le (by omega) (by omega)) (w_some ?_)
    refine ⟨rfl, ?_, ?_, hq, ?_⟩
    · show nI i = nI L.length
      rw [this]
    · show nI (i - layer) = nI (L.length - layer)
      rw [this]
    · show z_lat M sp L layer (L.length - layer) la
      rw [← this]
      exact hla
  | succ r ih =>
    intro i k L lf qd fa la qu hi hly hil hk hq hla
    obtain ⟨k, rfl⟩ : ∃ k', k = k' + 1 := ⟨k - 1, by omega⟩
    have hlen := Nat.le_trans (z_LI_len hP hM hq.1) (z_cap_le hP hM)
    rw [f_Mo_nights_L41]
    unfold z_nA
    cases he : L[i]? with
    | none =>
      have := List.getElem?_eq_none_iff.mp he
      have : i = L.length := by omega
      refine w_T (by rw [hq.2.1]; exact nI_le (by omega) (by omega)) (w_some ?_)
      refine ⟨rfl, ?_, ?_, hq, ?_⟩
      · show nI i = nI L.length
        rw [this]
      · show nI (i - layer) = nI (L.length - layer)
        rw [this]
      · show z_lat M sp L layer (L.length - layer) la
        rw [← this]
        exact hla
    | some e =>
      have hil2 := z_at_lt he
      obtain ⟨hV, hde, hfe, hti⟩ := hq.1.2 i e he
      have hV1 := hV.1
      refine w_F (by rw [hq.2.1]; exact nI_ge (by omega) (by omega)) ?_
      refine w_I (i := i) (by first | (with_reducible rfl) | (simp (disch := omega) only [q_lit, q_ofn, nI_add, q_mul, q_sub, q_shrm, q_shlm, q_a31s, q_a1, q_a3, q_a7, q_a65535, q_div, q_rem2, z_mm, nI_clamp, Nat.reduceMul, Nat.reduceAdd, Nat.reduceSub, Nat.reducePow, Nat.reduceMod, Nat.reduceDiv, Nat.one_mul]; done) | (simp (disch := omega) only [q_lit, q_ofn, nI_add, q_mul, q_sub, q_shrm, q_shlm, q_a31s, q_a1, q_a3, q_a7, q_a65535, q_div, q_rem2, z_mm, nI_clamp, Nat.reduceMul, Nat.reduceAdd, Nat.reduceSub, Nat.reducePow, Nat.reduceMod, Nat.reduceDiv, Nat.one_mul]; with_reducible rfl)) (by omega) (by first | decide | omega) ?_
      rw [hq.2.2.1 i e he]
      have hand : (nI e.1 &&& nI set = 0) ↔ e.1 &&& set = 0 := by
        rw [q_and, q_lit, nI_eq (Nat.lt_of_le_of_lt Nat.and_le_left (by omega)) (by decide)]
      simp only
      by_cases hz : e.1 &&& set = 0
      · refine w_T (hand.mpr hz) (w_some ?_)
        rw [if_pos hz]
        exact ⟨rfl, rfl⟩
      · refine w_F (fun z => hz (hand.mp z)) ?_
        rw [if_neg hz]
        refine w_Bw (m_nA_in ok hr hnn 21 0 k L lf qd fa qu (by omega) (by omega) he hq) (fun q hq2 => ?_)
        obtain ⟨q1, q2, q3, q4⟩ := q
        rw [List.drop_zero, z_range0_op ok.1 hP] at hq2
        refine w_Be (m_behind ok hr (by omega) hV1 (by decide : 21 < 22) (fun h => absurd h (by decide)) q1) ?_
        refine w_C (i := i - layer) (by first | (with_reducible rfl) | (simp (disch := omega) only [q_lit, q_ofn, nI_add, q_mul, q_sub, q_shrm, q_shlm, q_a31s, q_a1, q_a3, q_a7, q_a65535, q_div, q_rem2, z_mm, nI_clamp, Nat.reduceMul, Nat.reduceAdd, Nat.reduceSub, Nat.reducePow, Nat.reduceMod, Nat.reduceDiv, Nat.one_mul]; done) | (simp (disch := omega) only [q_lit, q_ofn, nI_add, q_mul, q_sub, q_shrm, q_shlm, q_a31s, q_a1, q_a3, q_a7, q_a65535, q_div, q_rem2, z_mm, nI_clamp, Nat.reduceMul, Nat.reduceAdd, Nat.reduceSub, Nat.reducePow, Nat.reduceMod, Nat.reduceDiv, Nat.one_mul]; with_reducible rfl)) (by omega) (by first | decide | omega) ?_
        refine w_Ln (w := nI (i - layer + 1)) (by first | (with_reducible rfl) | (simp (disch := omega) only [q_lit, q_ofn, nI_add, q_mul, q_sub, q_shrm, q_shlm, q_a31s, q_a1, q_a3, q_a7, q_a65535, q_div, q_rem2, z_mm, nI_clamp, Nat.reduceMul, Nat.reduceAdd, Nat.reduceSub, Nat.reducePow, Nat.reduceMod, Nat.reduceDiv, Nat.one_mul]; done) | (simp (disch := omega) only [q_lit, q_ofn, nI_add, q_mul, q_sub, q_shrm, q_shlm, q_a31s, q_a1, q_a3, q_a7, q_a65535, q_div, q_rem2, z_mm, nI_clamp, Nat.reduceMul, Nat.reduceAdd, Nat.reduceSub, Nat.reducePow, Nat.reduceMod, Nat.reduceDiv, Nat.one_mul]; with_reducible rfl)) ?_
        refine w_Ln (w := nI (i + 1)) (by first | (with_reducible rfl) | (simp (disch := omega) only [q_lit, q_ofn, nI_add, q_mul, q_sub, q_shrm, q_shlm, q_a31s, q_a1, q_a3, q_a7, q_a65535, q_div, q_rem2, z_mm, nI_clamp, Nat.reduceMul, Nat.reduceAdd, Nat.reduceSub, Nat.reducePow, Nat.reduceMod, Nat.reduceDiv, Nat.one_mul]; done) | (simp (disch := omega) only [q_lit, q_ofn, nI_add, q_mul, q_sub, q_shrm, q_shlm, q_a31s, q_a1, q_a3, q_a7, q_a65535, q_div, q_rem2, z_mm, nI_clamp, Nat.reduceMul, Nat.reduceAdd, Nat.reduceSub, Nat.reducePow, Nat.reduceMod, Nat.reduceDiv, Nat.one_mul]; with_reducible rfl)) ?_
        rw [nI_clamp (by omega)]
        have hpre := z_op_pre (z_st P M sp (2 ^ P - 1) 0) (z_dx P) e.1 i (e.2.2.2 + 1) (z_d0 P) L
        have hpl := hpre.length_le
        have hla2 : z_lat M sp (z_op (z_st P M sp (2 ^ P - 1) 0) (z_dx P) e.1 i (e.2.2.2 + 1) L (z_d0 P)) layer (i + 1 - layer) (upd la (i - layer) (nI (z_beh M sp e.1 21).1)) := by
          intro m hm f hf
          by_cases hmi : m = i - layer
          · subst hmi
            rw [z_upd_s]
            rw [show layer + (i - layer) = i by omega, z_pre_at hpre he] at hf
            cases hf
            rfl
          · rw [z_upd_n hmi]
            have hlt : layer + m < L.length := by omega
            obtain ⟨f', hf'⟩ : ∃ f', L[layer + m]? = some f' := ⟨_, List.getElem?_eq_getElem hlt⟩
            rw [z_pre_at hpre hf'] at hf
            cases hf
            exact hla m (by omega) _ hf'
        have g := ih (i + 1) k _ (nI (z_beh M sp e.1 21).2) q2 q3 (upd la (i - layer) (nI (z_beh M sp e.1 21).1)) q4 (by omega) (by omega) (by omega) (by omega) hq2 hla2
        rw [show i + 1 - layer = i - layer + 1 by omega] at g
        exact g
theorem z_op21 {P M x i t : Nat} {sp : Nat → Nat → Nat} (hP : P ≤ 3) (L : List zE) : z_op (z_st P M sp (2 ^ P - 1) 0) (z_dx P) x i t L [21] = z_put L ((z_beh M sp x 21).1, z_dx P 21, i, t) := by
  show z_pst _ _ _ _ _ L 21 = _
  unfold z_pst
  rw [z_st_all hP, if_pos z_can21]
theorem m_nB {P M nn layer n : Nat} {sp : Nat → Nat → Nat} {sf la : Nat → Int32} {x1 x3 lf nw : Int32} (ok : z_ok P M sp) (hnn : nn < 2 ^ 31) (hn : n < 2 ^ 31) : ∀ r m k (L : List zE) (qd : Int32) (fa qu : Nat → Int32), m + r = n → layer + n ≤ L.length → r < k → z_qm P M L qd fa qu → z_lat M sp L layer n la → wp (f_Mo_nights_L145 (nI n) lf (nI M) nw (nI P) la sf x1 (nI nn) x3 k (nI m) qd fa qu) (fun q => z_qm P M (z_nB (z_st P M sp (2 ^ P - 1) 0) P r (layer + m) L) q.1 q.2.1 q.2.2) := by
  have hP := ok.2.1
  have hM := ok.2.2.1
  intro r
  induction r with
  | zero =>
    intro m k L qd fa qu hm hl hk hq hla
    obtain ⟨k, rfl⟩ : ∃ k', k = k' + 1 := ⟨k - 1, by omega⟩
    rw [f_Mo_nights_L145]
    exact w_T (nI_le (by omega) (by omega)) (w_some hq)
  | succ r ih =>
    intro m k L qd fa qu hm hl hk hq hla
    obtain ⟨k, rfl⟩ : ∃ k', k = k' + 1 := ⟨k - 1, by omega⟩
    have hlen := Nat.le_trans (z_LI_len hP hM hq.1) (z_cap_le hP hM)
    have hlt : layer + m < L.length := by omega
    obtain ⟨e, he⟩ : ∃ e, L[layer + m]? = some e := ⟨_, List.getElem?_eq_getElem hlt⟩
    obtain ⟨hV, hde, hfe, hti⟩ := hq.1.2 _ e he
    obtain ⟨hV2, hl2⟩ := z_beh_V ok hV (by decide : 21 < 22) z_can21
    rw [f_Mo_nights_L145]
    unfold z_nB
    rw [he]
    simp only
    refine w_F (nI_ge (by omega) (by omega)) ?_
    refine w_I (i := m) (by first | (with_reducible rfl) | (simp (disch := omega) only [q_lit, q_ofn, nI_add, q_mul, q_sub, q_shrm, q_shlm, q_a31s, q_a1, q_a3, q_a7, q_a65535, q_div, q_rem2, z_mm, nI_clamp, Nat.reduceMul, Nat.reduceAdd, Nat.reduceSub, Nat.reducePow, Nat.reduceMod, Nat.reduceDiv, Nat.one_mul]; done) | (simp (disch := omega) only [q_lit, q_ofn, nI_add, q_mul, q_sub, q_shrm, q_shlm, q_a31s, q_a1, q_a3, q_a7, q_a65535, q_div, q_rem2, z_mm, nI_clamp, Nat.reduceMul, Nat.reduceAdd, Nat.reduceSub, Nat.reducePow, Nat.reduceMod, Nat.reduceDiv, Nat.one_mul]; with_reducible rfl)) (by omega) (by first | decide | omega) ?_
    rw [hla m (by omega) e he]
    obtain ⟨d, hd⟩ := List.getElem?_of_mem (z_ds_mem.mpr ⟨by decide, z_can_dsv (z_can21 (P := P) (M := M) (x := e.1) (sp := sp))⟩)
    have hdl := (List.getElem?_eq_some_iff.mp hd).1
    have hd19 := (z_ds_len ok.1 hP).2
    refine w_Bw (m_put (d := z_dx P 21) (n := layer + m) (t' := e.2.2.2 + 1) hP hM hq hV2 (by rw [z_dx_at hd]; omega) (by omega) (by omega) hnn) (fun q hq2 => ?_)
    obtain ⟨q1, q2, q3⟩ := q
    have hq3 := hq2.1
    rw [← z_op21 hP] at hq3
    refine w_Ln (w := nI (m + 1)) (by first | (with_reducible rfl) | (simp (disch := omega) only [q_lit, q_ofn, nI_add, q_mul, q_sub, q_shrm, q_shlm, q_a31s, q_a1, q_a3, q_a7, q_a65535, q_div, q_rem2, z_mm, nI_clamp, Nat.reduceMul, Nat.reduceAdd, Nat.reduceSub, Nat.reducePow, Nat.reduceMod, Nat.reduceDiv, Nat.one_mul]; done) | (simp (disch := omega) only [q_lit, q_ofn, nI_add, q_mul, q_sub, q_shrm, q_shlm, q_a31s, q_a1, q_a3, q_a7, q_a65535, q_div, q_rem2, z_mm, nI_clamp, Nat.reduceMul, Nat.reduceAdd, Nat.reduceSub, Nat.reducePow, Nat.reduceMod, Nat.reduceDiv, Nat.one_mul]; with_reducible rfl)) ?_
    have hpre := z_op_pre (z_st P M sp (2 ^ P - 1) 0) (z_dx P) e.1 (layer + m) (e.2.2.2 + 1) [21] L
    have hpl := hpre.length_le
    refine ih (m + 1) k _ q1 q2 q3 (by omega) (by omega) (by omega) hq3 ?_
    intro m2 hm2 f hf
    obtain ⟨f', hf'⟩ : ∃ f', L[layer + m2]? = some f' := ⟨_, List.getElem?_eq_getElem (by omega)⟩
    rw [z_pre_at hpre hf'] at hf
    cases hf
    exact hla m2 hm2 _ hf'
theorem m_nN {P M set : Nat} {sp : Nat → Nat → Nat} {sf : Nat → Int32} {nw : Int32} (ok : z_ok P M sp) (hr : z_rep M sp sf) (hset : set < 2 ^ 31) : ∀ f layer nn k (L : List zE) (x4 lm lf qd : Int32) (fa la qu : Nat → Int32), nn + f = 57345 → nn ≤ layer → layer ≤ L.length → f + 57400 < k → z_qm P M L qd fa qu → (layer < L.length ∧ x4 = nI 1 ∨ L.length ≤ layer ∧ x4 = nI 0) → wp (f_Mo_nights_L31 (nI M) nw (nI P) sf (nI set) k (nI nn) (nI layer) x4 lm lf qd fa la qu) (fun q => match q with
    | .inl _ => z_nN (z_st P M sp (2 ^ P - 1) 0) P set f layer nn L = -nI 1
    | .inr q => q.1 = z_nN (z_st P M sp (2 ^ P - 1) 0) P set f layer nn L) := by
  have hP := ok.2.1
  have hM := ok.2.2.1
  intro f
  induction f with
  | zero =>
    intro layer nn k L x4 lm lf qd fa la qu hi h1 h2 hk hq hx
    have hlen := Nat.le_trans (z_LI_len hP hM hq.1) (z_cap_le hP hM)
    omega
  | succ f ih =>
    intro layer nn k L x4 lm lf qd fa la qu hi h1 h2 hk hq hx
    obtain ⟨k, rfl⟩ : ∃ k', k = k' + 1 := ⟨k - 1, by omega⟩
    have hlen := Nat.le_trans (z_LI_len hP hM hq.1) (z_cap_le hP hM)
    rw [f_Mo_nights_L31]
    unfold z_nN
    rcases hx with ⟨hlt, rfl⟩ | ⟨hge, rfl⟩
    · refine w_F (by decide) ?_
      rw [if_neg (show ¬ L.length ≤ layer by omega)]
      have g0 := m_nA (nw := nw) (nn := nn) (layer := layer) ok hr (by omega) hset (57344 - layer) layer k L lf qd fa la qu (by omega) (Nat.le_refl _) h2 (by omega) hq (fun m hm => by omega)
      rw [Nat.sub_self] at g0
      refine w_Sw g0 ?_ ?_
      · intro q hq2
        obtain ⟨q1, q2, q3, q4, q5, q6, q7⟩ := q
        obtain ⟨g1, g2, g3, g4, g5⟩ := hq2
        rw [g1, if_neg (by decide)]
        have hpre := (z_nA_pre (z_st P M sp (2 ^ P - 1) 0) P set (57344 - layer) layer L).length_le
        have hlen2 := Nat.le_trans (z_LI_len hP hM g4.1) (z_cap_le hP hM)
        subst g2; subst g3
        refine w_Ln (w := nI (nn + 1)) (by first | (with_reducible rfl) | (simp (disch := omega) only [q_lit, q_ofn, nI_add, q_mul, q_sub, q_shrm, q_shlm, q_a31s, q_a1, q_a3, q_a7, q_a65535, q_div, q_rem2, z_mm, nI_clamp, Nat.reduceMul, Nat.reduceAdd, Nat.reduceSub, Nat.reducePow, Nat.reduceMod, Nat.reduceDiv, Nat.one_mul]; done) | (simp (disch := omega) only [q_lit, q_ofn, nI_add, q_mul, q_sub, q_shrm, q_shlm, q_a31s, q_a1, q_a3, q_a7, q_a65535, q_div, q_rem2, z_mm, nI_clamp, Nat.reduceMul, Nat.reduceAdd, Nat.reduceSub, Nat.reducePow, Nat.reduceMod, Nat.reduceDiv, Nat.one_mul]; with_reducible rfl)) ?_
        refine w_Bw (m_nB (nw := nw) (x1 := nI set) (sf := sf) (layer := layer) ok (by omega) (by omega) ((z_nA (z_st P M sp (2 ^ P - 1) 0) P set (57344 - layer) layer L).1.length - layer) 0 k _ q4 q5 q7 (by omega) (by omega) (by omega) g4 g5) (fun q hq3 => ?_)
        obtain ⟨v1, v2, v3⟩ := q
        rw [Nat.add_zero] at hq3
        simp only at hq3
        have hv1 := hq3.2.1
        have hpre2 := (z_nB_pre (z_st P M sp (2 ^ P - 1) 0) P ((z_nA (z_st P M sp (2 ^ P - 1) 0) P set (57344 - layer) layer L).1.length - layer) layer (z_nA (z_st P M sp (2 ^ P - 1) 0) P set (57344 - layer) layer L).1).length_le
        have hlen3 := Nat.le_trans (z_LI_len hP hM hq3.1) (z_cap_le hP hM)
        unfold f_Mo_nights_J185
        by_cases hend : (z_nB (z_st P M sp (2 ^ P - 1) 0) P ((z_nA (z_st P M sp (2 ^ P - 1) 0) P set (57344 - layer) layer L).1.length - layer) layer (z_nA (z_st P M sp (2 ^ P - 1) 0) P set (57344 - layer) layer L).1).length ≤ (z_nA (z_st P M sp (2 ^ P - 1) 0) P set (57344 - layer) layer L).1.length
        · refine w_T (by show v1 ≤ _; rw [hv1]; exact nI_le hend (by omega)) ?_
          exact ih _ (nn + 1) k _ _ _ _ v1 v2 _ v3 (by omega) (by omega) hpre2 (by omega) hq3 (Or.inr ⟨hend, rfl⟩)
        · refine w_F (by show ¬ v1 ≤ _; rw [hv1]; exact nI_ge (by omega) (by omega)) ?_
          exact ih _ (nn + 1) k _ _ _ _ v1 v2 _ v3 (by omega) (by omega) hpre2 (by omega) hq3 (Or.inl ⟨by omega, rfl⟩)
      · intro q hq2
        obtain ⟨g1, g2⟩ := hq2
        rw [if_pos g1]
        exact w_some g2
    · rw [if_pos hge]
      exact w_T rfl (w_some rfl)
