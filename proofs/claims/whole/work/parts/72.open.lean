/-! the class's search: opening -/
def z_st (P M : Nat) (sp : Nat → Nat → Nat) (who bar x D : Nat) : Option Nat := if (D = 21 ∨ who.testBit (D / 7) = true) ∧ z_can P M sp x D = true ∧ (z_beh M sp x D).2 &&& bar = 0 then some (z_beh M sp x D).1 else none
def z_dx (P D : Nat) : Nat := (z_ds P).idxOf D
abbrev z_B (P M : Nat) (sp : Nat → Nat → Nat) (who bar x0 : Nat) : Nat → List zE := z_bf (z_st P M sp who bar) (z_dx P) (z_ds P) x0
theorem z_dx_at {P d D : Nat} (h : (z_ds P)[d]? = some D) : z_dx P D = d := by
  obtain ⟨hl, he⟩ := List.getElem?_eq_some_iff.mp h
  unfold z_dx
  rw [← he]
  exact (z_ds_nd P).idxOf_getElem d hl
theorem z_st_V {P M who bar x D y : Nat} {sp : Nat → Nat → Nat} (ok : z_ok P M sp) (hx : z_V P M x) (hD : D < 22) (h : z_st P M sp who bar x D = some y) : z_V P M y := by
  unfold z_st at h
  split at h
  · next hc => cases h; exact (z_beh_V ok hx hD hc.2.1).1
  · cases h
theorem z_LI_op {P M who bar i : Nat} {sp : Nat → Nat → Nat} (ok : z_ok P M sp) : ∀ (Ds : List Nat) (L : List zE) (e : zE), (∀ D ∈ Ds, D ∈ z_ds P) → L[i]? = some e → z_LI P M L → z_LI P M (z_op (z_st P M sp who bar) (z_dx P) e.1 i (e.2.2.2 + 1) L Ds) := by
  intro Ds
  induction Ds with
  | nil => intro L e _ _ h; exact h
  | cons D Ds ih =>
    intro L e hD he h
    have hpre := z_pst_pre (z_st P M sp who bar) (z_dx P) e.1 i (e.2.2.2 + 1) L D
    have hi := z_at_lt he
    have hc := Nat.le_trans (z_LI_len ok.2.1 ok.2.2.1 h) (z_cap_le ok.2.1 ok.2.2.1)
    refine ih _ e (fun E hE => hD E (List.mem_cons_of_mem _ hE)) ?_ ?_
    · rw [List.prefix_iff_getElem?.mp hpre i hi, ← List.getElem?_eq_getElem hi]
      exact he
    · obtain ⟨a1, a2, a3, a4⟩ := h.2 i e he
      have hDm := hD D (List.mem_cons_self ..)
      unfold z_pst
      cases hs : z_st P M sp who bar e.1 D with
      | none => exact h
      | some y =>
        obtain ⟨d, hd⟩ := List.getElem?_of_mem hDm
        have hdl := (List.getElem?_eq_some_iff.mp hd).1
        have := (z_ds_len ok.1 ok.2.1).2
        refine z_LI_put h (z_st_V ok a1 (z_ds_mem.mp hDm).1 hs) ?_ (by show i < 57344; omega) (by show e.2.2.2 + 1 ≤ L.length; omega)
        show z_dx P D < 19
        rw [z_dx_at hd]
        omega
theorem z_LI_B {P M who bar x0 : Nat} {sp : Nat → Nat → Nat} (ok : z_ok P M sp) (h0 : z_V P M x0) : ∀ n, z_LI P M (z_B P M sp who bar x0 n) := by
  intro n
  induction n with
  | zero =>
    refine ⟨z_bf_nd _ _ _ _ 0, ?_⟩
    intro i e he
    cases i with
    | zero =>
      simp only [z_B, z_bf, List.getElem?_cons_zero, Option.some.injEq] at he
      subst he
      exact ⟨h0, show (0 : Nat) < 19 by decide, show (0 : Nat) < 57344 by decide, Nat.le_refl 0⟩
    | succ i => simp [z_B, z_bf] at he
  | succ n ih =>
    show z_LI P M (z_bf _ _ _ _ (n + 1))
    rw [z_bf_succ]
    cases h : (z_bf (z_st P M sp who bar) (z_dx P) (z_ds P) x0 n)[n]? with
    | none => exact ih
    | some e => exact z_LI_op ok (z_ds P) _ e (fun D h => h) h ih
theorem z_slice {P a r : Nat} (h : a < (z_ds P).length) : ((z_ds P).drop a).take (r + 1) = z_dd P a :: ((z_ds P).drop (a + 1)).take r := by
  rw [List.drop_eq_getElem_cons h, List.take_succ_cons]
  congr 1
  have := z_dd_at h
  rw [List.getElem?_eq_getElem h] at this
  exact Option.some.inj this
theorem s_open_L {P M who bar i nF : Nat} {sp : Nat → Nat → Nat} {ak ba bi ks kn mk so va wk : Nat → Int32} {op : Int32} (ok : z_ok P M sp) (hA : z_RA M sp ak kn mk va wk) (hB : z_RB P M sp (z_ds P).length (z_dd P) ba bi ks so) (hbar : bar < 2 ^ 31) {e : zE} {b : Nat} (hb : b < (z_ds P).length) : ∀ r a k (L : List zE) (size : Int32) (fo se : Nat → Int64), a + r = b + 1 → r + 6 < k → L[i]? = some e → z_sr P M L nF size fo se → wp (f_Se_open_L26 nF (nI (z_bm (z_by P who) (z_ds P).length)) op (nI (z_ds P).length) (nI M) (nI bar) ak ba bi ks kn mk so va wk (nI i) (nI b) (nI e.1) (nI (e.2.2.2 + 1)) k (nI a) size fo se) (fun q => z_sr P M (z_op (z_st P M sp who bar) (z_dx P) e.1 i (e.2.2.2 + 1) L (((z_ds P).drop a).take r)) nF q.1 q.2.1 q.2.2) := by
  have hP := ok.2.1
  have hM := ok.2.2.1
  have hl := (z_ds_len ok.1 hP).2
  intro r
  induction r with
  | zero =>
    intro a k L size fo se ha hk he hs
    obtain ⟨k, rfl⟩ : ∃ k', k = k' + 1 := ⟨k - 1, by omega⟩
    rw [f_Se_open_L26]
    refine w_T (nI_lt (by omega) (by omega)) (w_some ?_)
    rw [List.take_zero]
    exact hs
  | succ r ih =>
    intro a k L size fo se ha hk he hs
    obtain ⟨k, rfl⟩ : ∃ k', k = k' + 1 := ⟨k - 1, by omega⟩
    have hal : a < (z_ds P).length := by omega
    obtain ⟨c1, c2, c3, c4, c5, c6, c7, c8, c9, c10⟩ := z_sr_pk hP hM hs he
    obtain ⟨hV, _, _, hdi⟩ := hs.1.2 i e he
    have hDm := z_dd_mem hal
    rw [f_Se_open_L26]
    refine w_F (by simp (disch := omega) only [q_lit, q_ofn, nI_add, q_mul, q_sub, q_shrm, q_shlm, q_a31s, q_a1, q_a3, q_a7, q_a65535, q_div, q_rem2, z_mm, nI_clamp, Nat.reduceMul, Nat.reduceAdd, Nat.reduceSub, Nat.reducePow, Nat.reduceMod, Nat.reduceDiv, Nat.one_mul, nI_ltI, nI_leI, nI_eq, q_b0, q_b1, q_m1lt, q_m1le, q_ltm1, q_lem1, q_eqm1, q_m1eq, not_true_eq_false, not_false_eq_true, reduceCtorEq, *] <;> first | omega | decide) ?_
    refine w_F (by simp (disch := omega) only [q_lit, q_ofn, nI_add, q_mul, q_sub, q_shrm, q_shlm, q_a31s, q_a1, q_a3, q_a7, q_a65535, q_div, q_rem2, z_mm, nI_clamp, Nat.reduceMul, Nat.reduceAdd, Nat.reduceSub, Nat.reducePow, Nat.reduceMod, Nat.reduceDiv, Nat.one_mul, nI_ltI, nI_leI, nI_eq, q_b0, q_b1, q_m1lt, q_m1le, q_ltm1, q_lem1, q_eqm1, q_m1eq, not_true_eq_false, not_false_eq_true, reduceCtorEq, *] <;> first | omega | decide) ?_
    rw [z_slice hal]
    have next : ∀ (L' : List zE) (size' : Int32) (fo' se' : Nat → Int64), L' = z_pst (z_st P M sp who bar) (z_dx P) e.1 i (e.2.2.2 + 1) L (z_dd P a) → z_sr P M L' nF size' fo' se' → wp (f_Se_open_L26 nF (nI (z_bm (z_by P who) (z_ds P).length)) op (nI (z_ds P).length) (nI M) (nI bar) ak ba bi ks kn mk so va wk (nI i) (nI b) (nI e.1) (nI (e.2.2.2 + 1)) k (nI a + 1) size' fo' se') (fun q => z_sr P M (z_op (z_st P M sp who bar) (z_dx P) e.1 i (e.2.2.2 + 1) L (z_dd P a :: ((z_ds P).drop (a + 1)).take r)) nF q.1 q.2.1 q.2.2) := by
      intro L' size' fo' se' hL' hs'
      rw [show nI a + 1 = nI (a + 1) by simp only [q_lit, nI_add]]
      have hpre := z_pst_pre (z_st P M sp who bar) (z_dx P) e.1 i (e.2.2.2 + 1) L (z_dd P a)
      have g := ih (a + 1) k L' size' fo' se' (by omega) (by omega) (by rw [hL', List.prefix_iff_getElem?.mp hpre i c9, ← List.getElem?_eq_getElem c9]; exact he) hs'
      rw [hL'] at g
      exact g
    have skip : z_st P M sp who bar e.1 (z_dd P a) = none → z_pst (z_st P M sp who bar) (z_dx P) e.1 i (e.2.2.2 + 1) L (z_dd P a) = L := by
      intro hn
      unfold z_pst
      rw [hn]
    have hbit : ((nI (z_bm (z_by P who) (z_ds P).length) >>> (nI a &&& 31)) &&& (1 : Int32) = 0) ↔ z_by P who a = false := by
      have hlt : z_bm (z_by P who) (z_ds P).length < 2 ^ 31 := Nat.lt_of_lt_of_le (z_bm_lt _ _) (Nat.pow_le_pow_right (by decide) (by omega))
      have ht : (z_bm (z_by P who) (z_ds P).length).testBit a = z_by P who a := by rw [z_bm_bit]; simp [hal]
      simp (disch := omega) only [q_lit, q_a31s, q_shrm, q_a1, nI_eq]
      rw [← z_dig, ht]
    unfold f_Se_open_J66 f_Se_open_J101
    cases hby : z_by P who a with
    | false =>
      refine w_T (hbit.mpr hby) ?_
      refine w_T rfl ?_
      refine w_L ?_
      refine next L size fo se (skip ?_).symm hs
      unfold z_st
      rw [if_neg]
      rintro ⟨h, _⟩
      unfold z_by at hby
      rcases h with h | h <;> simp [h] at hby
    | true =>
      refine w_F (fun z => by rw [hbit, hby] at z; cases z) ?_
      refine w_Be (s_after ok hA hB (by omega) hV hal) ?_
      by_cases hc : z_can P M sp e.1 (z_dd P a) = true
      · rw [if_pos hc]
        obtain ⟨hV2, hl2⟩ := z_beh_V ok hV hDm.1 hc
        have hV21 := hV2.1
        refine w_F (fun z => (q_eqm1 (by omega)).mp z) ?_
        refine w_Be (s_lifted (by omega) hl2) ?_
        have hand : (nI (z_beh M sp e.1 (z_dd P a)).2 &&& nI bar = 0) ↔ (z_beh M sp e.1 (z_dd P a)).2 &&& bar = 0 := by
          rw [q_and, q_lit, nI_eq (Nat.lt_of_le_of_lt Nat.and_le_left (by omega)) (by decide)]
        by_cases hl3 : (z_beh M sp e.1 (z_dd P a)).2 &&& bar = 0
        · refine w_T (hand.mpr hl3) ?_
          refine w_Be (s_of (by omega)) ?_
          refine w_Bw (s_add (d := a) (n := i) (t := e.2.2.2 + 1) hP hM hs hV2 (by omega) (by omega) (by omega)) (fun q hq => ?_)
          obtain ⟨q1, q2, q3⟩ := q
          refine w_L ?_
          refine next _ q1 q2 q3 ?_ hq
          have hst : z_st P M sp who bar e.1 (z_dd P a) = some (z_beh M sp e.1 (z_dd P a)).1 := by
            have hor : z_dd P a = 21 ∨ who.testBit (z_dd P a / 7) = true := by
              unfold z_by at hby
              simpa using hby
            unfold z_st
            rw [if_pos ⟨hor, hc, hl3⟩]
          unfold z_pst
          rw [hst, z_dx_at (z_dd_at hal)]
        · refine w_F (fun z => hl3 (hand.mp z)) ?_
          refine w_L ?_
          refine next L size fo se (skip ?_).symm hs
          unfold z_st
          rw [if_neg (fun z => hl3 z.2.2)]
      · rw [if_neg hc]
        refine w_T rfl ?_
        refine w_L ?_
        refine next L size fo se (skip ?_).symm hs
        unfold z_st
        rw [if_neg (fun z => hc z.2.1)]
theorem s_open {P M who bar i nF a b k : Nat} {sp : Nat → Nat → Nat} {ak ba bi ks kn mk so va wk : Nat → Int32} {op size : Int32} {fo se : Nat → Int64} {L : List zE} (ok : z_ok P M sp) (hA : z_RA M sp ak kn mk va wk) (hB : z_RB P M sp (z_ds P).length (z_dd P) ba bi ks so) (hbar : bar < 2 ^ 31) {e : zE} (hb : b < (z_ds P).length) (hab : a ≤ b + 1) (hk : 30 ≤ k) (he : L[i]? = some e) (hs : z_sr P M L nF size fo se) : wp (f_Se_open k nF (nI (z_bm (z_by P who) (z_ds P).length)) op (nI (z_ds P).length) (nI M) size (nI bar) fo ak ba bi ks kn mk so va wk se (nI i) (nI a) (nI b)) (fun q => q.1 = nI (i + 1) ∧ z_sr P M (z_op (z_st P M sp who bar) (z_dx P) e.1 i (e.2.2.2 + 1) L (((z_ds P).drop a).take (b + 1 - a))) nF q.2.1 q.2.2.1 q.2.2.2) := by
  have hP := ok.2.1
  have hM := ok.2.2.1
  have hl := (z_ds_len ok.1 hP).2
  unfold f_Se_open
  refine w_Ln (w := nI (i + 1)) (by first | (with_reducible rfl) | (simp (disch := omega) only [q_lit, q_ofn, nI_add, q_mul, q_sub, q_shrm, q_shlm, q_a31s, q_a1, q_a3, q_a7, q_a65535, q_div, q_rem2, z_mm, nI_clamp, Nat.reduceMul, Nat.reduceAdd, Nat.reduceSub, Nat.reducePow, Nat.reduceMod, Nat.reduceDiv, Nat.one_mul]; done) | (simp (disch := omega) only [q_lit, q_ofn, nI_add, q_mul, q_sub, q_shrm, q_shlm, q_a31s, q_a1, q_a3, q_a7, q_a65535, q_div, q_rem2, z_mm, nI_clamp, Nat.reduceMul, Nat.reduceAdd, Nat.reduceSub, Nat.reducePow, Nat.reduceMod, Nat.reduceDiv, Nat.one_mul]; with_reducible rfl)) ?_
  refine w_Be (s_stateAt hP hM hs he) ?_
  refine w_Be (s_distanceAt hP hM hs he) ?_
  refine w_Ln (w := nI (e.2.2.2 + 1)) (by first | (with_reducible rfl) | (simp (disch := omega) only [q_lit, q_ofn, nI_add, q_mul, q_sub, q_shrm, q_shlm, q_a31s, q_a1, q_a3, q_a7, q_a65535, q_div, q_rem2, z_mm, nI_clamp, Nat.reduceMul, Nat.reduceAdd, Nat.reduceSub, Nat.reducePow, Nat.reduceMod, Nat.reduceDiv, Nat.one_mul]; done) | (simp (disch := omega) only [q_lit, q_ofn, nI_add, q_mul, q_sub, q_shrm, q_shlm, q_a31s, q_a1, q_a3, q_a7, q_a65535, q_div, q_rem2, z_mm, nI_clamp, Nat.reduceMul, Nat.reduceAdd, Nat.reduceSub, Nat.reducePow, Nat.reduceMod, Nat.reduceDiv, Nat.one_mul]; with_reducible rfl)) ?_
  refine w_Bw (s_open_L ok hA hB hbar hb (b + 1 - a) a k L size fo se (by omega) (by omega) he hs) (fun q hq => ?_)
  obtain ⟨q1, q2, q3⟩ := q
  exact w_some ⟨rfl, hq⟩
