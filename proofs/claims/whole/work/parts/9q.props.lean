/-! props -/
theorem t_isSoNow {P M x s i : Nat} {sp : Nat → Nat → Nat} {kf nf sf tf mf wf : Nat → Int32} (ok : z_ok P M sp) (tol : z_tol M sp kf nf sf tf mf wf) (hx : x < 57344) (hs : s < M) (hi : i < sp s 2) : f_SS_isSoNow (nI x) (nI M) nf sf mf (nI s) (nI i) = some (nI (z_so sp x s i 21).toNat) := by
  have hM := ok.2.2.1
  obtain ⟨c1, c2, c3, c4, c5⟩ := tol s hs
  have o5 := (ok.2.2.2 s hs).2.2.2.2.1
  obtain ⟨c6, c7⟩ := c5 i hi
  have esort := t_sortOf hM hs c3 o5 hi sf
  have enum := t_numberOf hM hs c3 o5 hi nf
  rw [c6] at esort
  rw [c7] at enum
  have eso := t_isSo (x := x) ok hs hi hx
  unfold f_SS_isSoNow
  refine e_B esort (e_B enum (e_B eso ?_))
  cases z_so sp x s i 21 <;> rfl
theorem t_soCnt_L {P M x s : Nat} {sp : Nat → Nat → Nat} {kf nf sf tf mf wf : Nat → Int32} (ok : z_ok P M sp) (tol : z_tol M sp kf nf sf tf mf wf) (hx : x < 57344) (hs : s < M) : ∀ r i k, i + r = sp s 2 → r < k → f_SS_termsSoNow_L4 (nI x) (nI M) nf sf mf (nI s) k (nI (z_cnt (fun i => z_so sp x s i 21) i)) (nI i) = some (nI (z_cnt (fun i => z_so sp x s i 21) (sp s 2))) := by
  have hM := ok.2.2.1
  have c3 := (tol s hs).2.2.1
  have o5 := (ok.2.2.2 s hs).2.2.2.2.1
  intro r
  induction r with
  | zero =>
    intro i k hi hk'
    obtain ⟨k, rfl⟩ : ∃ k', k = k' + 1 := ⟨k - 1, by omega⟩
    rw [f_SS_termsSoNow_L4]
    have : i = sp s 2 := by omega
    by_cases h3 : 3 ≤ i
    · exact e_T (by simp (disch := omega) only [q_lit, q_ofn, nI_add, q_mul, q_sub, q_shrm, q_shlm, q_a31s, q_a1, q_a3, q_a7, q_a65535, q_div, q_rem2, z_mm, nI_clamp, Nat.reduceMul, Nat.reduceAdd, Nat.reduceSub, Nat.reducePow, Nat.reduceMod, Nat.reduceDiv, Nat.one_mul, nI_ltI, nI_leI, nI_eq, q_b0, q_b1, q_m1lt, q_m1le, q_ltm1, q_lem1, q_eqm1, q_m1eq, not_true_eq_false, not_false_eq_true, reduceCtorEq, *] <;> first | omega | decide) (by rw [this])
    · refine e_F (by simp (disch := omega) only [q_lit, q_ofn, nI_add, q_mul, q_sub, q_shrm, q_shlm, q_a31s, q_a1, q_a3, q_a7, q_a65535, q_div, q_rem2, z_mm, nI_clamp, Nat.reduceMul, Nat.reduceAdd, Nat.reduceSub, Nat.reducePow, Nat.reduceMod, Nat.reduceDiv, Nat.one_mul, nI_ltI, nI_leI, nI_eq, q_b0, q_b1, q_m1lt, q_m1le, q_ltm1, q_lem1, q_eqm1, q_m1eq, not_true_eq_false, not_false_eq_true, reduceCtorEq, *] <;> first | omega | decide) (e_B (t_termsOf hM hs _) ?_)
      rw [c3]
      exact e_T (by simp (disch := omega) only [q_lit, q_ofn, nI_add, q_mul, q_sub, q_shrm, q_shlm, q_a31s, q_a1, q_a3, q_a7, q_a65535, q_div, q_rem2, z_mm, nI_clamp, Nat.reduceMul, Nat.reduceAdd, Nat.reduceSub, Nat.reducePow, Nat.reduceMod, Nat.reduceDiv, Nat.one_mul, nI_ltI, nI_leI, nI_eq, q_b0, q_b1, q_m1lt, q_m1le, q_ltm1, q_lem1, q_eqm1, q_m1eq, not_true_eq_false, not_false_eq_true, reduceCtorEq, *] <;> first | omega | decide) (by rw [this])
  | succ r ih =>
    intro i k hi hk'
    obtain ⟨k, rfl⟩ : ∃ k', k = k' + 1 := ⟨k - 1, by omega⟩
    rw [f_SS_termsSoNow_L4]
    refine e_F (by simp (disch := omega) only [q_lit, q_ofn, nI_add, q_mul, q_sub, q_shrm, q_shlm, q_a31s, q_a1, q_a3, q_a7, q_a65535, q_div, q_rem2, z_mm, nI_clamp, Nat.reduceMul, Nat.reduceAdd, Nat.reduceSub, Nat.reducePow, Nat.reduceMod, Nat.reduceDiv, Nat.one_mul, nI_ltI, nI_leI, nI_eq, q_b0, q_b1, q_m1lt, q_m1le, q_ltm1, q_lem1, q_eqm1, q_m1eq, not_true_eq_false, not_false_eq_true, reduceCtorEq, *] <;> first | omega | decide) (e_B (t_termsOf hM hs _) ?_)
    rw [c3]
    refine e_F (by simp (disch := omega) only [q_lit, q_ofn, nI_add, q_mul, q_sub, q_shrm, q_shlm, q_a31s, q_a1, q_a3, q_a7, q_a65535, q_div, q_rem2, z_mm, nI_clamp, Nat.reduceMul, Nat.reduceAdd, Nat.reduceSub, Nat.reducePow, Nat.reduceMod, Nat.reduceDiv, Nat.one_mul, nI_ltI, nI_leI, nI_eq, q_b0, q_b1, q_m1lt, q_m1le, q_ltm1, q_lem1, q_eqm1, q_m1eq, not_true_eq_false, not_false_eq_true, reduceCtorEq, *] <;> first | omega | decide) (e_B (t_isSoNow ok tol hx hs (by omega)) ?_)
    refine e_B (t_oneIf _) (e_L (e_L ?_))
    rw [show (1 : Int32) = nI 1 from rfl, nI_add, nI_add]
    have := ih (i + 1) k (by omega) (by omega)
    rw [← this]
    congr 1
def z_xfw (so : Nat → Bool) : Nat → Nat → Option Nat
  | 0, _ => none
  | r + 1, i => if so i = true then z_xfw so r (i + 1) else some i
def z_xps (so tst : Nat → Bool) (i : Nat) (a : Nat × Bool) : Nat × Bool := if so i = true then a else (a.1 + 1, tst i)
def z_xpm (tst : Nat → Bool) (o : Option Nat) : Bool := match o with
  | none => false
  | some j => tst j
theorem z_xps_t {so tst : Nat → Bool} {i : Nat} (h : so i = true) (a : Nat × Bool) : z_xps so tst i a = a := if_pos h
theorem z_xps_f {so tst : Nat → Bool} {i : Nat} (h : so i = false) (a : Nat × Bool) : z_xps so tst i a = (a.1 + 1, tst i) := if_neg (by rw [h]; decide)
theorem z_xprop {n : Nat} (h1 : 1 ≤ n) (h3 : n ≤ 3) (so tst : Nat → Bool) : (decide ((z_it (z_xps so tst) n 0 (0, false)).1 = 1) && (z_it (z_xps so tst) n 0 (0, false)).2) = (decide (z_cnt so n = n - 1) && z_xpm tst (z_xfw so n 0)) := by
  have hn : n = 1 ∨ n = 2 ∨ n = 3 := by omega
  rcases hn with rfl | rfl | rfl <;> cases h0 : so 0 <;> cases h1 : so 1 <;> cases h2 : so 2 <;> simp [z_it, z_xps, z_cnt, z_xfw, z_xpm, h0, h1, h2]
def z_tst (sp : Nat → Nat → Nat) (N s i : Nat) : Bool := decide (sp s (3 + 2 * i) = 4) && (decide (sp s (4 + 2 * i) ≠ s) && N.testBit (sp s (4 + 2 * i)))
theorem z_bsh {N s : Nat} (hN : N < 2 ^ 31) (hs : s < 32) : ((nI N >>> (nI s &&& 31)) &&& (1 : Int32) = 0) ↔ N.testBit s = false := by
  simp (disch := omega) only [q_lit, q_a31s, q_shrm, q_a1]
  rw [nI_eq (by omega) (by decide), z_dig]
theorem z_clx_bit {N s j : Nat} (hj : j < 32) : (z_clx N s).testBit j = (decide (j ≠ s) && N.testBit j) := by
  unfold z_clx
  rw [Nat.testBit_and, Nat.testBit_xor, Nat.testBit_two_pow, show 4294967295 = 2 ^ 32 - 1 from rfl, Nat.testBit_two_pow_sub_one, decide_eq_true hj]
  by_cases h : j = s
  · subst h; simp
  · have h2 : ¬ s = j := fun e => h e.symm
    simp [h, h2]
theorem t_prop_L {P M x s N : Nat} {sp : Nat → Nat → Nat} {kf nf sf tf mf wf : Nat → Int32} (ok : z_ok P M sp) (tol : z_tol M sp kf nf sf tf mf wf) (hx : x < 57344) (hs : s < M) (hN : N < 32) : ∀ r i k, i + r = sp s 2 → r < k → f_SS_isPropped_L31 (nI x) (nI M) nf sf mf (nI s) (nI (z_clx N s)) k (nI i) = some (match z_xfw (fun i => z_so sp x s i 21) r i with | none => .inl () | some j => .inr (nI (z_tst sp N s j).toNat)) := by
  have hM := ok.2.2.1
  obtain ⟨c1, c2, c3, c4, c5⟩ := tol s hs
  have oS := ok.2.2.2 s hs
  have o5 := oS.2.2.2.2.1
  have hcl : z_clx N s < 2 ^ 31 := Nat.lt_of_le_of_lt (show z_clx N s ≤ N from Nat.and_le_left) (by omega)
  intro r
  induction r with
  | zero =>
    intro i k hi hk'
    obtain ⟨k, rfl⟩ : ∃ k', k = k' + 1 := ⟨k - 1, by omega⟩
    rw [f_SS_isPropped_L31]
    by_cases h3 : 3 ≤ i
    · exact e_T (by simp (disch := omega) only [q_lit, q_ofn, nI_add, q_mul, q_sub, q_shrm, q_shlm, q_a31s, q_a1, q_a3, q_a7, q_a65535, q_div, q_rem2, z_mm, nI_clamp, Nat.reduceMul, Nat.reduceAdd, Nat.reduceSub, Nat.reducePow, Nat.reduceMod, Nat.reduceDiv, Nat.one_mul, nI_ltI, nI_leI, nI_eq, q_b0, q_b1, q_m1lt, q_m1le, q_ltm1, q_lem1, q_eqm1, q_m1eq, not_true_eq_false, not_false_eq_true, reduceCtorEq, *] <;> first | omega | decide) rfl
    · refine e_F (by simp (disch := omega) only [q_lit, q_ofn, nI_add, q_mul, q_sub, q_shrm, q_shlm, q_a31s, q_a1, q_a3, q_a7, q_a65535, q_div, q_rem2, z_mm, nI_clamp, Nat.reduceMul, Nat.reduceAdd, Nat.reduceSub, Nat.reducePow, Nat.reduceMod, Nat.reduceDiv, Nat.one_mul, nI_ltI, nI_leI, nI_eq, q_b0, q_b1, q_m1lt, q_m1le, q_ltm1, q_lem1, q_eqm1, q_m1eq, not_true_eq_false, not_false_eq_true, reduceCtorEq, *] <;> first | omega | decide) (e_B (t_termsOf hM hs _) ?_)
      rw [c3]
      exact e_T (by simp (disch := omega) only [q_lit, q_ofn, nI_add, q_mul, q_sub, q_shrm, q_shlm, q_a31s, q_a1, q_a3, q_a7, q_a65535, q_div, q_rem2, z_mm, nI_clamp, Nat.reduceMul, Nat.reduceAdd, Nat.reduceSub, Nat.reducePow, Nat.reduceMod, Nat.reduceDiv, Nat.one_mul, nI_ltI, nI_leI, nI_eq, q_b0, q_b1, q_m1lt, q_m1le, q_ltm1, q_lem1, q_eqm1, q_m1eq, not_true_eq_false, not_false_eq_true, reduceCtorEq, *] <;> first | omega | decide) rfl
  | succ r ih =>
    intro i k hi hk'
    obtain ⟨k, rfl⟩ : ∃ k', k = k' + 1 := ⟨k - 1, by omega⟩
    have hi2 : i < sp s 2 := by omega
    obtain ⟨c6, c7⟩ := c5 i hi2
    have oT := oS.2.2.2.2.2.1 i hi2
    have esort := t_sortOf hM hs c3 o5 hi2 sf
    have enum := t_numberOf hM hs c3 o5 hi2 nf
    rw [c6] at esort
    rw [c7] at enum
    rw [f_SS_isPropped_L31]
    refine e_F (by simp (disch := omega) only [q_lit, q_ofn, nI_add, q_mul, q_sub, q_shrm, q_shlm, q_a31s, q_a1, q_a3, q_a7, q_a65535, q_div, q_rem2, z_mm, nI_clamp, Nat.reduceMul, Nat.reduceAdd, Nat.reduceSub, Nat.reducePow, Nat.reduceMod, Nat.reduceDiv, Nat.one_mul, nI_ltI, nI_leI, nI_eq, q_b0, q_b1, q_m1lt, q_m1le, q_ltm1, q_lem1, q_eqm1, q_m1eq, not_true_eq_false, not_false_eq_true, reduceCtorEq, *] <;> first | omega | decide) (e_B (t_termsOf hM hs _) ?_)
    rw [c3]
    refine e_F (by simp (disch := omega) only [q_lit, q_ofn, nI_add, q_mul, q_sub, q_shrm, q_shlm, q_a31s, q_a1, q_a3, q_a7, q_a65535, q_div, q_rem2, z_mm, nI_clamp, Nat.reduceMul, Nat.reduceAdd, Nat.reduceSub, Nat.reducePow, Nat.reduceMod, Nat.reduceDiv, Nat.one_mul, nI_ltI, nI_leI, nI_eq, q_b0, q_b1, q_m1lt, q_m1le, q_ltm1, q_lem1, q_eqm1, q_m1eq, not_true_eq_false, not_false_eq_true, reduceCtorEq, *] <;> first | omega | decide) (e_B (t_isSoNow ok tol hx hs hi2) ?_)
    unfold z_xfw
    cases hso : z_so sp x s i 21 with
    | true =>
      refine e_F (by decide) (e_L ?_)
      rw [if_pos rfl, show nI i + (1 : Int32) = nI (i + 1) by simp only [q_lit, nI_add]]
      exact ih (i + 1) k (by omega) (by omega)
    | false =>
      refine e_T rfl (e_B esort ?_)
      rw [if_neg (show ¬ false = true by decide)]
      show _ = some (Sum.inr (nI (z_tst sp N s i).toNat))
      unfold z_tst
      by_cases h4 : sp s (3 + 2 * i) = 4
      · refine e_T (by rw [h4]; rfl) (e_B enum ?_)
        have hv := oT.2.2.2.1 (Or.inr h4)
        have hs5 : s < 5 := by omega
        rw [decide_eq_true h4, Bool.true_and, ← z_clx_bit (by omega)]
        cases hb : (z_clx N s).testBit (sp s (4 + 2 * i)) with
        | false => exact e_T ((z_bsh hcl (by omega)).mpr hb) rfl
        | true => exact e_F (fun z => by rw [(z_bsh hcl (by omega)).mp z] at hb; cases hb) rfl
      · have := oT.1
        refine e_F (by simp (disch := omega) only [q_lit, q_ofn, nI_add, q_mul, q_sub, q_shrm, q_shlm, q_a31s, q_a1, q_a3, q_a7, q_a65535, q_div, q_rem2, z_mm, nI_clamp, Nat.reduceMul, Nat.reduceAdd, Nat.reduceSub, Nat.reducePow, Nat.reduceMod, Nat.reduceDiv, Nat.one_mul, nI_ltI, nI_leI, nI_eq, q_b0, q_b1, q_m1lt, q_m1le, q_ltm1, q_lem1, q_eqm1, q_m1eq, not_true_eq_false, not_false_eq_true, reduceCtorEq, *] <;> first | omega | decide) ?_
        rw [decide_eq_false h4, Bool.false_and]
        rfl
def z_xpr (sp : Nat → Nat → Nat) (x N s : Nat) : Bool := decide (z_cnt (fun i => z_so sp x s i 21) (sp s 2) = sp s 2 - 1) && z_xpm (z_tst sp N s) (z_xfw (fun i => z_so sp x s i 21) (sp s 2) 0)
theorem t_prop {P M x s N k : Nat} {sp : Nat → Nat → Nat} {kf nf sf tf mf wf : Nat → Int32} (ok : z_ok P M sp) (tol : z_tol M sp kf nf sf tf mf wf) (hx : x < 57344) (hs : s < M) (hN : N < 32) (hk : 10 ≤ k) : f_SS_isPropped k (nI x) (nI M) nf sf mf (nI s) (nI N) = some (nI (z_xpr sp x N s).toNat) := by
  have hM := ok.2.2.1
  have c3 := (tol s hs).2.2.1
  have oS := ok.2.2.2 s hs
  have o4 := oS.2.2.2.1
  have o5 := oS.2.2.2.2.1
  have hc := z_cnt_le (fun i => z_so sp x s i 21) (sp s 2)
  have e1 : f_SS_termsSoNow k (nI x) (nI M) nf sf mf (nI s) = some (nI (z_cnt (fun i => z_so sp x s i 21) (sp s 2))) := by
    unfold f_SS_termsSoNow
    exact e_B (t_soCnt_L ok tol hx hs (sp s 2) 0 k (by omega) (by omega)) rfl
  unfold f_SS_isPropped
  refine e_B e1 (e_B (t_termsOf hM hs _) ?_)
  rw [c3, show nI (sp s 2) - (1 : Int32) = nI (sp s 2 - 1) by rw [show (1 : Int32) = nI 1 from rfl, q_sub o4]]
  unfold z_xpr
  by_cases h : z_cnt (fun i => z_so sp x s i 21) (sp s 2) = sp s 2 - 1
  · refine e_T (by rw [h]) (e_L ?_)
    rw [decide_eq_true h, Bool.true_and, z_sh1 (by omega), z_clr]
    have g := t_prop_L ok tol hx hs hN (sp s 2) 0 k (by omega) (by omega)
    rw [show (0 : Int32) = nI 0 from rfl, g]
    cases z_xfw (fun i => z_so sp x s i 21) (sp s 2) 0 with
    | none => rfl
    | some j => rfl
  · refine e_F (by rw [nI_eq (by omega) (by omega)]; exact h) ?_
    rw [decide_eq_false h, Bool.false_and]
    rfl
def z_xpa (sp : Nat → Nat → Nat) (x N s a : Nat) : Nat := if (N.testBit s && z_xpr sp x N s) = true then a ||| 2 ^ s else a
theorem s_props_L {nT_fromNow_found : Nat} {vT_fromNow_deedsAllowed vT_fromNow_doers vT_fromNow_opened vT_fromNow_size vT_fromNow_start vT_fromNow_unlifted : Int32} {fT_fromNow_found fT_fromNow_seen : Nat → Int64} {rc rs rp tp : Int32} {ak ba bi dr ks kn mk so va wk : Nat → Int32} {P M x N : Nat} {sp : Nat → Nat → Nat} {kf nf sf tf mf wf : Nat → Int32} (ok : z_ok P M sp) (tol : z_tol M sp kf nf sf tf mf wf) (hx : x < 57344) (hN : N < 32) (hNM : ∀ s, M ≤ s → s < 5 → N.testBit s = false) : ∀ r i k (a : Nat), i + r = 5 → r + 10 < k → f_SS_props_L12 nT_fromNow_found vT_fromNow_deedsAllowed vT_fromNow_doers vT_fromNow_opened vT_fromNow_size vT_fromNow_start vT_fromNow_unlifted rc rp rs (nI x) tp (nI M) fT_fromNow_found fT_fromNow_seen ak ba bi dr ks kn mk so va wk nf sf mf (nI N) k (nI a) (nI i) = some (nI (z_it (z_xpa sp x N) r i a)) := by
  intro r
  induction r with
  | zero =>
    intro i k a hi hk
    obtain ⟨k, rfl⟩ : ∃ k', k = k' + 1 := ⟨k - 1, by omega⟩
    rw [f_SS_props_L12]
    exact e_T (by simp (disch := omega) only [q_lit, q_ofn, nI_add, q_mul, q_sub, q_shrm, q_shlm, q_a31s, q_a1, q_a3, q_a7, q_a65535, q_div, q_rem2, z_mm, nI_clamp, Nat.reduceMul, Nat.reduceAdd, Nat.reduceSub, Nat.reducePow, Nat.reduceMod, Nat.reduceDiv, Nat.one_mul, nI_ltI, nI_leI, nI_eq, q_b0, q_b1, q_m1lt, q_m1le, q_ltm1, q_lem1, q_eqm1, q_m1eq, not_true_eq_false, not_false_eq_true, reduceCtorEq, *] <;> first | omega | decide) rfl
  | succ r ih =>
    intro i k a hi hk
    obtain ⟨k, rfl⟩ : ∃ k', k = k' + 1 := ⟨k - 1, by omega⟩
    have hi1 : nI i + (1 : Int32) = nI (i + 1) := by simp only [q_lit, nI_add]
    rw [f_SS_props_L12]
    refine e_F (by simp (disch := omega) only [q_lit, q_ofn, nI_add, q_mul, q_sub, q_shrm, q_shlm, q_a31s, q_a1, q_a3, q_a7, q_a65535, q_div, q_rem2, z_mm, nI_clamp, Nat.reduceMul, Nat.reduceAdd, Nat.reduceSub, Nat.reducePow, Nat.reduceMod, Nat.reduceDiv, Nat.one_mul, nI_ltI, nI_leI, nI_eq, q_b0, q_b1, q_m1lt, q_m1le, q_ltm1, q_lem1, q_eqm1, q_m1eq, not_true_eq_false, not_false_eq_true, reduceCtorEq, *] <;> first | omega | decide) ?_
    rw [z_it_s]
    unfold z_xpa
    unfold f_SS_props_J40
    cases hb : N.testBit i with
    | false =>
      refine e_T ((z_bsh (by omega) (by omega)).mpr hb) (e_L ?_)
      rw [Bool.false_and, if_neg (by decide), hi1]
      exact ih (i + 1) k a (by omega) (by omega)
    | true =>
      refine e_F (fun z => by rw [(z_bsh (by omega) (by omega)).mp z] at hb; cases hb) ?_
      have hiM : i < M := by
        rcases Nat.lt_or_ge i M with h | h
        · exact h
        · rw [hNM i h (by omega)] at hb; cases hb
      refine e_B (t_prop ok tol hx hiM hN (by omega)) ?_
      rw [Bool.true_and]
      cases hp : z_xpr sp x N i with
      | false =>
        refine e_T rfl (e_L ?_)
        rw [if_neg (by decide), hi1]
        exact ih (i + 1) k a (by omega) (by omega)
      | true =>
        refine e_F (by decide) (e_L (e_L ?_))
        rw [if_pos rfl, hi1, z_sh1 (by omega), q_or]
        exact ih (i + 1) k _ (by omega) (by omega)
theorem m_props_1 {P M x N s : Nat} {sp : Nat → Nat → Nat} {sf fa qu : Nat → Int32} {lf qd pp x2 : Int32} (ok : z_ok P M sp) (hr : z_rep M sp sf) (hx : x < 57344) (hs : s < M) (hN : N < 32) : ∀ r i k (w : Nat) (b : Bool), i + r = sp s 2 → r + 5 < k → f_Mo_props_L26 lf (nI M) (nI x) pp qd fa qu sf (nI N) x2 (nI s) k (nI w) (nI b.toNat) (nI i) = some (nI (z_it (z_xps (fun i => z_so sp x s i 21) (z_tst sp N s)) r i (w, b)).1, nI (z_it (z_xps (fun i => z_so sp x s i 21) (z_tst sp N s)) r i (w, b)).2.toNat) := by
  have hM := ok.2.2.1
  obtain ⟨r1, r2⟩ := hr s hs
  have oS := ok.2.2.2 s hs
  have o5 := oS.2.2.2.2.1
  have r12 : sf (10 * s + 2) = nI (sp s 2) := r1 2 (by omega)
  intro r
  induction r with
  | zero =>
    intro i k w b hi hk
    obtain ⟨k, rfl⟩ : ∃ k', k = k' + 1 := ⟨k - 1, by omega⟩
    rw [f_Mo_props_L26]
    refine e_L ?_
    refine e_I (i := 10 * s + 2) (by first | (with_reducible rfl) | (simp (disch := omega) only [q_lit, q_ofn, nI_add, q_mul, q_sub, q_shrm, q_shlm, q_a31s, q_a1, q_a3, q_a7, q_a65535, q_div, q_rem2, z_mm, nI_clamp, Nat.reduceMul, Nat.reduceAdd, Nat.reduceSub, Nat.reducePow, Nat.reduceMod, Nat.reduceDiv, Nat.one_mul]; done) | (simp (disch := omega) only [q_lit, q_ofn, nI_add, q_mul, q_sub, q_shrm, q_shlm, q_a31s, q_a1, q_a3, q_a7, q_a65535, q_div, q_rem2, z_mm, nI_clamp, Nat.reduceMul, Nat.reduceAdd, Nat.reduceSub, Nat.reducePow, Nat.reduceMod, Nat.reduceDiv, Nat.one_mul]; with_reducible rfl)) (by omega) (by decide) ?_
    rw [r12]
    exact e_T (by simp (disch := omega) only [q_lit, q_ofn, nI_add, q_mul, q_sub, q_shrm, q_shlm, q_a31s, q_a1, q_a3, q_a7, q_a65535, q_div, q_rem2, z_mm, nI_clamp, Nat.reduceMul, Nat.reduceAdd, Nat.reduceSub, Nat.reducePow, Nat.reduceMod, Nat.reduceDiv, Nat.one_mul, nI_ltI, nI_leI, nI_eq, q_b0, q_b1, q_m1lt, q_m1le, q_ltm1, q_lem1, q_eqm1, q_m1eq, not_true_eq_false, not_false_eq_true, reduceCtorEq, *] <;> first | omega | decide) rfl
  | succ r ih =>
    intro i k w b hi hk
    obtain ⟨k, rfl⟩ : ∃ k', k = k' + 1 := ⟨k - 1, by omega⟩
    have hi2 : i < sp s 2 := by omega
    have oT := oS.2.2.2.2.2.1 i hi2
    have hi1 : nI i + (1 : Int32) = nI (i + 1) := by simp only [q_lit, nI_add]
    have hw1 : nI w + (1 : Int32) = nI (w + 1) := by simp only [q_lit, nI_add]
    rw [f_Mo_props_L26]
    refine e_L ?_
    refine e_I (i := 10 * s + 2) (by first | (with_reducible rfl) | (simp (disch := omega) only [q_lit, q_ofn, nI_add, q_mul, q_sub, q_shrm, q_shlm, q_a31s, q_a1, q_a3, q_a7, q_a65535, q_div, q_rem2, z_mm, nI_clamp, Nat.reduceMul, Nat.reduceAdd, Nat.reduceSub, Nat.reducePow, Nat.reduceMod, Nat.reduceDiv, Nat.one_mul]; done) | (simp (disch := omega) only [q_lit, q_ofn, nI_add, q_mul, q_sub, q_shrm, q_shlm, q_a31s, q_a1, q_a3, q_a7, q_a65535, q_div, q_rem2, z_mm, nI_clamp, Nat.reduceMul, Nat.reduceAdd, Nat.reduceSub, Nat.reducePow, Nat.reduceMod, Nat.reduceDiv, Nat.one_mul]; with_reducible rfl)) (by omega) (by decide) ?_
    rw [r12]
    refine e_F (by simp (disch := omega) only [q_lit, q_ofn, nI_add, q_mul, q_sub, q_shrm, q_shlm, q_a31s, q_a1, q_a3, q_a7, q_a65535, q_div, q_rem2, z_mm, nI_clamp, Nat.reduceMul, Nat.reduceAdd, Nat.reduceSub, Nat.reducePow, Nat.reduceMod, Nat.reduceDiv, Nat.one_mul, nI_ltI, nI_leI, nI_eq, q_b0, q_b1, q_m1lt, q_m1le, q_ltm1, q_lem1, q_eqm1, q_m1eq, not_true_eq_false, not_false_eq_true, reduceCtorEq, *] <;> first | omega | decide) (e_B (m_so ok hr hs hi2 (by omega) (D := 21) (by decide)) ?_)
    rw [z_it_s]
    unfold f_Mo_props_J118 f_Mo_props_J119 f_Mo_props_J121
    cases hso : z_so sp x s i 21 with
    | true =>
      refine e_F (by decide) (e_L ?_)
      rw [z_xps_t (so := fun i => z_so sp x s i 21) hso, hi1]
      exact ih (i + 1) k w b (by omega) (by omega)
    | false =>
      refine e_T rfl (e_L ?_)
      refine e_I (i := 10 * s + (4 + 2 * i)) (by rw [show 10 * s + (4 + 2 * i) = 10 * s + 4 + 2 * i by omega]; first | (with_reducible rfl) | (simp (disch := omega) only [q_lit, q_ofn, nI_add, q_mul, q_sub, q_shrm, q_shlm, q_a31s, q_a1, q_a3, q_a7, q_a65535, q_div, q_rem2, z_mm, nI_clamp, Nat.reduceMul, Nat.reduceAdd, Nat.reduceSub, Nat.reducePow, Nat.reduceMod, Nat.reduceDiv, Nat.one_mul]; done) | (simp (disch := omega) only [q_lit, q_ofn, nI_add, q_mul, q_sub, q_shrm, q_shlm, q_a31s, q_a1, q_a3, q_a7, q_a65535, q_div, q_rem2, z_mm, nI_clamp, Nat.reduceMul, Nat.reduceAdd, Nat.reduceSub, Nat.reducePow, Nat.reduceMod, Nat.reduceDiv, Nat.one_mul]; with_reducible rfl)) (by omega) (by decide) ?_
      rw [r1 _ (by omega)]
      refine e_L (e_L ?_)
      refine e_I (i := 10 * s + (3 + 2 * i)) (by rw [show 10 * s + (3 + 2 * i) = 10 * s + 3 + 2 * i by omega]; first | (with_reducible rfl) | (simp (disch := omega) only [q_lit, q_ofn, nI_add, q_mul, q_sub, q_shrm, q_shlm, q_a31s, q_a1, q_a3, q_a7, q_a65535, q_div, q_rem2, z_mm, nI_clamp, Nat.reduceMul, Nat.reduceAdd, Nat.reduceSub, Nat.reducePow, Nat.reduceMod, Nat.reduceDiv, Nat.one_mul]; done) | (simp (disch := omega) only [q_lit, q_ofn, nI_add, q_mul, q_sub, q_shrm, q_shlm, q_a31s, q_a1, q_a3, q_a7, q_a65535, q_div, q_rem2, z_mm, nI_clamp, Nat.reduceMul, Nat.reduceAdd, Nat.reduceSub, Nat.reducePow, Nat.reduceMod, Nat.reduceDiv, Nat.one_mul]; with_reducible rfl)) (by omega) (by decide) ?_
      rw [r1 _ (by omega), z_xps_f (so := fun i => z_so sp x s i 21) hso, hw1]
      have ez : z_tst sp N s i = (decide (sp s (3 + 2 * i) = 4) && (decide (sp s (4 + 2 * i) ≠ s) && N.testBit (sp s (4 + 2 * i)))) := rfl
      rw [ez]
      by_cases h4 : sp s (3 + 2 * i) = 4
      · have hv := oT.2.2.2.1 (Or.inr h4)
        refine e_T (by rw [h4]; rfl) ?_
        rw [decide_eq_true h4, Bool.true_and]
        by_cases hvs : sp s (4 + 2 * i) = s
        · refine e_T (by rw [hvs]) (e_L ?_)
          rw [decide_eq_false (fun z => z hvs), Bool.false_and, hi1]
          exact ih (i + 1) k (w + 1) false (by omega) (by omega)
        · refine e_F (by rw [nI_eq (by omega) (by omega)]; exact hvs) (e_B (m_has (by omega) (by omega)) ?_)
          rw [decide_eq_true hvs, Bool.true_and]
          cases hb : N.testBit (sp s (4 + 2 * i)) with
          | false =>
            refine e_T rfl (e_L ?_)
            rw [hi1]
            exact ih (i + 1) k (w + 1) false (by omega) (by omega)
          | true =>
            refine e_F (by decide) (e_L ?_)
            rw [hi1]
            exact ih (i + 1) k (w + 1) true (by omega) (by omega)
      · have := oT.1
        refine e_F (by simp (disch := omega) only [q_lit, q_ofn, nI_add, q_mul, q_sub, q_shrm, q_shlm, q_a31s, q_a1, q_a3, q_a7, q_a65535, q_div, q_rem2, z_mm, nI_clamp, Nat.reduceMul, Nat.reduceAdd, Nat.reduceSub, Nat.reducePow, Nat.reduceMod, Nat.reduceDiv, Nat.one_mul, nI_ltI, nI_leI, nI_eq, q_b0, q_b1, q_m1lt, q_m1le, q_ltm1, q_lem1, q_eqm1, q_m1eq, not_true_eq_false, not_false_eq_true, reduceCtorEq, *] <;> first | omega | decide) (e_L ?_)
        rw [decide_eq_false h4, Bool.false_and, hi1]
        exact ih (i + 1) k (w + 1) false (by omega) (by omega)
theorem z_xps_le {so tst : Nat → Bool} : ∀ r i (a : Nat × Bool), (z_it (z_xps so tst) r i a).1 ≤ a.1 + r := by
  intro r
  induction r with
  | zero => intro i a; exact Nat.le_refl _
  | succ r ih =>
    intro i a
    rw [z_it_s]
    have := ih (i + 1) (z_xps so tst i a)
    have h2 : (z_xps so tst i a).1 ≤ a.1 + 1 := by
      unfold z_xps
      split
      · omega
      · exact Nat.le_refl _
    omega
theorem m_props_L {P M x N : Nat} {sp : Nat → Nat → Nat} {sf fa qu : Nat → Int32} {lf qd pp : Int32} (ok : z_ok P M sp) (hr : z_rep M sp sf) (hx : x < 57344) (hN : N < 32) : ∀ r i k (a : Nat), i + r = M → r + 20 < k → f_Mo_props_L9 lf (nI M) (nI x) pp qd fa qu sf (nI N) k (nI a) (nI i) = some (nI (z_it (z_xpa sp x N) r i a)) := by
  have hM := ok.2.2.1
  intro r
  induction r with
  | zero =>
    intro i k a hi hk
    obtain ⟨k, rfl⟩ : ∃ k', k = k' + 1 := ⟨k - 1, by omega⟩
    rw [f_Mo_props_L9]
    exact e_T (by simp (disch := omega) only [q_lit, q_ofn, nI_add, q_mul, q_sub, q_shrm, q_shlm, q_a31s, q_a1, q_a3, q_a7, q_a65535, q_div, q_rem2, z_mm, nI_clamp, Nat.reduceMul, Nat.reduceAdd, Nat.reduceSub, Nat.reducePow, Nat.reduceMod, Nat.reduceDiv, Nat.one_mul, nI_ltI, nI_leI, nI_eq, q_b0, q_b1, q_m1lt, q_m1le, q_ltm1, q_lem1, q_eqm1, q_m1eq, not_true_eq_false, not_false_eq_true, reduceCtorEq, *] <;> first | omega | decide) rfl
  | succ r ih =>
    intro i k a hi hk
    obtain ⟨k, rfl⟩ : ∃ k', k = k' + 1 := ⟨k - 1, by omega⟩
    have hi1 : nI i + (1 : Int32) = nI (i + 1) := by simp only [q_lit, nI_add]
    have oS := ok.2.2.2 i (by omega)
    have o4 := oS.2.2.2.1
    have o5 := oS.2.2.2.2.1
    have e1 := m_props_1 (x2 := nI a) (lf := lf) (qd := qd) (pp := pp) (fa := fa) (qu := qu) (s := i) ok hr hx (by omega) hN (sp i 2) 0 k 0 false (by omega) (by omega)
    have e2 := z_xprop o4 o5 (fun j => z_so sp x i j 21) (z_tst sp N i)
    have e3 := z_xps_le (so := fun j => z_so sp x i j 21) (tst := z_tst sp N i) (sp i 2) 0 (0, false)
    rw [f_Mo_props_L9]
    refine e_F (by simp (disch := omega) only [q_lit, q_ofn, nI_add, q_mul, q_sub, q_shrm, q_shlm, q_a31s, q_a1, q_a3, q_a7, q_a65535, q_div, q_rem2, z_mm, nI_clamp, Nat.reduceMul, Nat.reduceAdd, Nat.reduceSub, Nat.reducePow, Nat.reduceMod, Nat.reduceDiv, Nat.one_mul, nI_ltI, nI_leI, nI_eq, q_b0, q_b1, q_m1lt, q_m1le, q_ltm1, q_lem1, q_eqm1, q_m1eq, not_true_eq_false, not_false_eq_true, reduceCtorEq, *] <;> first | omega | decide) (e_B e1 (e_B (m_has (by omega) (by omega)) ?_))
    rw [z_it_s]
    unfold z_xpa z_xpr
    rw [← e2]
    generalize z_it (z_xps (fun j => z_so sp x i j 21) (z_tst sp N i)) (sp i 2) 0 (0, false) = W at e3 ⊢
    obtain ⟨w, b⟩ := W
    unfold f_Mo_props_J153 f_Mo_props_J154
    cases hb : N.testBit i with
    | false =>
      refine e_T rfl (e_L (e_L ?_))
      rw [Bool.false_and, if_neg (by decide), z_orz, hi1]
      exact ih (i + 1) k a (by omega) (by omega)
    | true =>
      refine e_F (by decide) ?_
      rw [Bool.true_and]
      by_cases hw : w = 1
      · refine e_T (by rw [hw]; rfl) ?_
        rw [decide_eq_true hw, Bool.true_and]
        cases b with
        | false =>
          refine e_T rfl (e_L (e_L ?_))
          rw [if_neg (show ¬ false = true by decide), z_orz, hi1]
          exact ih (i + 1) k a (by omega) (by omega)
        | true =>
          refine e_F (show ¬ nI 1 = 0 by decide) (e_L (e_L ?_))
          rw [if_pos rfl, z_sh1 (by omega), q_or, hi1]
          exact ih (i + 1) k _ (by omega) (by omega)
      · have e3 : w ≤ 0 + sp i 2 := e3
        refine e_F (by show ¬ nI w = 1; simp (disch := omega) only [q_lit, q_ofn, nI_add, q_mul, q_sub, q_shrm, q_shlm, q_a31s, q_a1, q_a3, q_a7, q_a65535, q_div, q_rem2, z_mm, nI_clamp, Nat.reduceMul, Nat.reduceAdd, Nat.reduceSub, Nat.reducePow, Nat.reduceMod, Nat.reduceDiv, Nat.one_mul, nI_ltI, nI_leI, nI_eq, q_b0, q_b1, q_m1lt, q_m1le, q_ltm1, q_lem1, q_eqm1, q_m1eq, not_true_eq_false, not_false_eq_true, reduceCtorEq, *] <;> first | omega | decide) (e_L (e_L ?_))
        rw [decide_eq_false hw, Bool.false_and, if_neg (by decide), z_orz, hi1]
        exact ih (i + 1) k a (by omega) (by omega)
theorem p_props {ns k : Nat} {ci : Nat → Int32} {cf : Nat → Nat → Int32} {cl : Nat → Nat → Int64} {cn : Nat → Nat} {mi : Nat → Int32} {mf : Nat → Nat → Int32} (hk : 200000 ≤ k) (h : z_inv ns ci cf cl cn mi mf) : wp (f_SS_props k (cn 0) (ci 1) (ci 2) (ci 3) (ci 4) (ci 5) (ci 6) (ci 17) (ci 18) (ci 19) (ci 20) (ci 24) (ci 25) (cl 0) (cl 1) (cf 12) (cf 13) (cf 15) (cf 17) (cf 18) (cf 19) (cf 20) (cf 21) (cf 22) (cf 23) (cf 27) (cf 28) (cf 30)) (fun q => wp (f_Mo_props k (mi 5) (mi 6) (mi 7) (mi 9) (mi 12) (mf 0) (mf 8) (mf 11)) (fun q' => q.1 = q'.1 ∧ z_inv ns (z_u (z_u (z_u (z_u (z_u (z_u ci 1 q.2.2.1) 2 q.2.2.2.1) 3 q.2.2.2.2.1) 4 q.2.2.2.2.2.1) 5 q.2.2.2.2.2.2.1) 6 q.2.2.2.2.2.2.2.1) cf (z_u (z_u cl 0 q.2.2.2.2.2.2.2.2.1) 1 q.2.2.2.2.2.2.2.2.2) (z_u cn 0 q.2.1) (z_u (z_u mi 5 q'.2.1) 12 q'.2.2.1) (z_u (z_u mf 0 q'.2.2.2.1) 8 q'.2.2.2.2))) := by
  obtain ⟨c, n, S, x, d, hT, ok, hdr, hml, hRU, hN, hU, hK, hR, hQ, hY, hF, hW, hl1, hl2, hb⟩ := h
  have hPe : (ci 24) = nI S.1 := hdr.2.2.1; have hSp : (ci 25) = nI S.2.1 := hdr.2.2.2.1; have hmM : (mi 6) = nI S.2.1 := hml.1; have hmP : (mi 9) = nI S.1 := hml.2.1; have hP1 := ok.1.1; have hP3 := ok.1.2.1; have hM5 := ok.1.2.2.1
  have hr1 : (ci 18) = nI S.1 := hRU.1; have hr2 : (ci 19) = nI S.2.1 := hRU.2.1; have hdt := hRU.2.2.2.2; have hr3 : (ci 17) = nI (z_ds S.1).length := hdt.1; have hA := hRU.2.2.1; have hB := z_RB_of ok.1 hdt; have hrep := hml.2.2.2.2; have h8 := z_all8 hP3; obtain ⟨n1, n2, n3, n4, n5, n6⟩ := id hN
  have hx := n1.1
  have tol := hdr.2.2.2.2
  rw [hSp, hPe, hmP, hmM, n3, n5, hr1, hr2, hr3]
  have hlt : z_and (z_F S.1 S.2.1 S.2.2.2.2 (2 ^ S.1 - 1) 0 x) (x % 32) ≤ x % 32 := z_and_le _ _
  obtain ⟨N, hN0⟩ : ∃ N, N = z_and (z_F S.1 S.2.1 S.2.2.2.2 (2 ^ S.1 - 1) 0 x) (x % 32) := ⟨_, rfl⟩
  rw [← hN0] at hlt
  have hN9 : N < 32 := by omega
  have hNM : ∀ s, S.2.1 ≤ s → s < 5 → N.testBit s = false := fun s h1 h2 => Nat.testBit_lt_two_pow (Nat.lt_of_le_of_lt hlt (Nat.lt_of_lt_of_le n1.2.1 (Nat.pow_le_pow_right (by decide) h1)))
  have h5 : z_it (z_xpa S.2.2.2.2 x N) 5 0 0 = z_it (z_xpa S.2.2.2.2 x N) S.2.1 0 0 := by
    refine z_it_5 hM5 (fun j h1 h2 a => ?_) _
    unfold z_xpa
    rw [hNM j h1 h2, Bool.false_and]
    rfl
  refine w_2w (R1 := fun q => q.1 = nI (z_it (z_xpa S.2.2.2.2 x N) S.2.1 0 0) ∧ (z_gr S.1 S.2.1 (cn 0) q.2.1 ∧ z_SK S.1 S.2.1 S.2.2.2.2 (2 ^ S.1 - 1) 0 x q.2)) (R2 := fun q => q.1 = nI (z_it (z_xpa S.2.2.2.2 x N) S.2.1 0 0)) ?_ ?_ (fun q q' h1 h2 => ⟨h1.1.trans h2.symm, c, n, S, x, d, hT, ok, hdr, hml, hRU, hN, hU, hK, hR, hQ, hY, z_SO_of h1.2.2 h8 (by decide) n1, hW, i_len_gr hP3 hM5 h1.2.1 hl1, hl2, hb⟩)
  · unfold f_SS_props
    refine w_Bw (q_from ok.1 hdt n1 (by omega) hF) ?_; rintro ⟨w1, w2, w3, w4, w5, w6, w7, w8, w9⟩ ⟨hg, hs⟩; refine w_G (z_gr_nlt hP3 hM5 hs) ?_
    refine w_Bw (q_held ok.1 hA hB (by decide) n1 (by omega) hs) ?_
    rintro ⟨y, o1, o2, o3, o4⟩ ⟨e, hs2⟩
    have e : y = nI N := by rw [hN0]; exact e
    subst e
    refine w_Be (s_props_L ok.1 tol hx hN9 hNM 5 0 k 0 (by omega) (by omega)) ?_
    rw [h5]
    exact w_some ⟨rfl, hg, hs2⟩
  · unfold f_Mo_props f_Mo_neverOf
    refine w_Bw (R := fun q => q.1 = nI N) ?_ ?_
    · refine w_Bw (m_layAll ok.1 hrep n1 (by omega)) ?_
      rintro ⟨w1, w2, w3, w4⟩ hq
      refine w_Be (m_held hP3 hM5 n1 hq.1 (by omega)) ?_
      rw [← hN0]
      exact w_some rfl
    · rintro ⟨w1, w2, w3, w4, w5⟩ hq
      have hq : w1 = nI N := hq
      subst hq
      exact w_Be (m_props_L ok.1 hrep hx hN9 S.2.1 0 k 0 (by omega) (by omega)) (w_some rfl)
