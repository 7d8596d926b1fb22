/-! helpers -/
def z_hg (P M : Nat) (sp : Nat → Nat → Nat) (x v w : Nat) : Bool := decide (z_few (z_F P M sp w 0 x) v ≠ -nI 1)
def z_h1 (g : Nat → Bool) (sz : Nat) : Nat → Nat → Option Nat
  | 0, _ => none
  | r + 1, i => if z_pc i = sz ∧ g i = true then some i else z_h1 g sz r (i + 1)
def z_h2 (g : Nat → Bool) (all : Nat) : Nat → Nat → Option Nat
  | 0, _ => none
  | r + 1, sz => match z_h1 g sz all 0 with
    | some d => some d
    | none => z_h2 g all r (sz + 1)
def z_hs (g : Nat → Bool) (s : Nat) (a : Option Nat) : Option Nat := match a with
  | none => if g s = true then some s else none
  | some b => if z_pc s < z_pc b then (if g s = true then some s else some b) else some b
theorem z_h1_congr {g g' : Nat → Bool} {sz : Nat} : ∀ r i, (∀ j, i ≤ j → j < i + r → g j = g' j) → z_h1 g sz r i = z_h1 g' sz r i := by
  intro r
  induction r with
  | zero => intro i _; rfl
  | succ r ih =>
    intro i h
    unfold z_h1
    rw [h i (Nat.le_refl _) (by omega), ih (i + 1) (fun j h1 h2 => h j (by omega) (by omega))]
theorem z_h2_congr {g g' : Nat → Bool} {all : Nat} (h : ∀ j, j < all → g j = g' j) : ∀ r sz, z_h2 g all r sz = z_h2 g' all r sz := by
  intro r
  induction r with
  | zero => intro sz; rfl
  | succ r ih =>
    intro sz
    unfold z_h2
    rw [z_h1_congr all 0 (fun j _ h2 => h j (by omega)), ih (sz + 1)]
def z_bl (l : List Bool) (n : Nat) : Bool := l.getD n false
theorem z_help1 : ∀ b0 : Bool, z_it (z_hs (z_bl [b0, true])) 2 0 none = some ((z_h2 (z_bl [b0, true]) 1 3 0).getD 1) := by decide +kernel
theorem z_help2 : ∀ b0 b1 b2 : Bool, z_it (z_hs (z_bl [b0, b1, b2, true])) 4 0 none = some ((z_h2 (z_bl [b0, b1, b2, true]) 3 3 0).getD 3) := by decide +kernel
theorem z_help3 : ∀ b0 b1 b2 b3 b4 b5 b6 : Bool, z_it (z_hs (z_bl [b0, b1, b2, b3, b4, b5, b6, true])) 8 0 none = some ((z_h2 (z_bl [b0, b1, b2, b3, b4, b5, b6, true]) 7 3 0).getD 7) := by decide +kernel
theorem z_lt8 {j : Nat} (h : j < 8) : j = 0 ∨ j = 1 ∨ j = 2 ∨ j = 3 ∨ j = 4 ∨ j = 5 ∨ j = 6 ∨ j = 7 := by omega
theorem z_help {P : Nat} (h1 : 1 ≤ P) (h3 : P ≤ 3) {g : Nat → Bool} (hg : g (2 ^ P - 1) = true) : z_it (z_hs g) (2 ^ P) 0 none = some ((z_h2 g (2 ^ P - 1) 3 0).getD (2 ^ P - 1)) := by
  have hp : P = 1 ∨ P = 2 ∨ P = 3 := by omega
  rcases hp with rfl | rfl | rfl
  · have hg : g 1 = true := hg
    have e : ∀ j, j < 2 → g j = z_bl [g 0, true] j := by
      intro j hj
      have : j = 0 ∨ j = 1 := by omega
      rcases this with rfl | rfl
      · rfl
      · exact hg
    show z_it (z_hs g) 2 0 none = some ((z_h2 g 1 3 0).getD 1)
    rw [z_it_congr (f' := z_hs (z_bl [g 0, true])) 2 0 none (fun j _ h2 a => by unfold z_hs; rw [e j (by omega)]), z_h2_congr (g' := z_bl [g 0, true]) (fun j h2 => e j (by omega))]
    exact z_help1 (g 0)
  · have hg : g 3 = true := hg
    have e : ∀ j, j < 4 → g j = z_bl [g 0, g 1, g 2, true] j := by
      intro j hj
      have : j = 0 ∨ j = 1 ∨ j = 2 ∨ j = 3 := by omega
      rcases this with rfl | rfl | rfl | rfl
      · rfl
      · rfl
      · rfl
      · exact hg
    show z_it (z_hs g) 4 0 none = some ((z_h2 g 3 3 0).getD 3)
    rw [z_it_congr (f' := z_hs (z_bl [g 0, g 1, g 2, true])) 4 0 none (fun j _ h2 a => by unfold z_hs; rw [e j (by omega)]), z_h2_congr (g' := z_bl [g 0, g 1, g 2, true]) (fun j h2 => e j (by omega))]
    exact z_help2 (g 0) (g 1) (g 2)
  · have hg : g 7 = true := hg
    have e : ∀ j, j < 8 → g j = z_bl [g 0, g 1, g 2, g 3, g 4, g 5, g 6, true] j := by
      intro j hj
      rcases z_lt8 hj with rfl | rfl | rfl | rfl | rfl | rfl | rfl | rfl
      · rfl
      · rfl
      · rfl
      · rfl
      · rfl
      · rfl
      · rfl
      · exact hg
    show z_it (z_hs g) 8 0 none = some ((z_h2 g 7 3 0).getD 7)
    rw [z_it_congr (f' := z_hs (z_bl [g 0, g 1, g 2, g 3, g 4, g 5, g 6, true])) 8 0 none (fun j _ h2 a => by unfold z_hs; rw [e j (by omega)]), z_h2_congr (g' := z_bl [g 0, g 1, g 2, g 3, g 4, g 5, g 6, true]) (fun j h2 => e j (by omega))]
    exact z_help3 (g 0) (g 1) (g 2) (g 3) (g 4) (g 5) (g 6)
/-- fewer people reach no more -/
theorem z_F_sub {P M w x0 : Nat} {sp : Nat → Nat → Nat} (ok : z_ok P M sp) (h0 : z_V P M x0) : ∀ e ∈ z_F P M sp w 0 x0, e.1 ∈ z_ss (z_F P M sp (2 ^ P - 1) 0 x0) := by
  have I2 := (z_bf_I (z_st P M sp (2 ^ P - 1) 0) (z_dx P) (z_ds P) x0 57344).2.1
  refine z_bf_all (p := fun y => y ∈ z_ss (z_F P M sp (2 ^ P - 1) 0 x0)) ?_ ?_ 57344
  · have := z_bf_0 (z_st P M sp (2 ^ P - 1) 0) (z_dx P) (z_ds P) x0 57344
    exact z_ss_of this
  · intro x D y hx hD hy
    obtain ⟨e, he, rfl⟩ := List.mem_map.mp hx
    obtain ⟨b, hb⟩ := List.getElem?_of_mem he
    have h2 := z_at_lt hb
    have h3 := z_F_len (who := 2 ^ P - 1) (bar := 0) ok h0 57344
    have h2 : b < (z_B P M sp (2 ^ P - 1) 0 x0 57344).length := h2
    refine I2 b (by omega) e hb D hD y ?_
    rw [z_st_all ok.2.1]
    unfold z_st at hy
    by_cases hc : (D = 21 ∨ w.testBit (D / 7) = true) ∧ z_can P M sp e.1 D = true ∧ (z_beh M sp e.1 D).2 &&& 0 = 0
    · rw [if_pos hc] at hy
      rw [if_pos hc.2.1]
      exact hy
    · rw [if_neg hc] at hy
      cases hy
theorem z_hg_mono {P M x v w : Nat} {sp : Nat → Nat → Nat} (ok : z_ok P M sp) (h0 : z_V P M x) (h : z_hg P M sp x v w = true) : z_hg P M sp x v (2 ^ P - 1) = true := by
  unfold z_hg at *
  rw [decide_eq_true_iff] at *
  rcases z_few_cases (v := v) (z_F_far (who := w) (bar := 0) ok h0) with ⟨h1, _⟩ | ⟨_, e, h2, h3⟩
  · exact absurd h1 h
  · rcases z_few_cases (v := v) (z_F_far (who := 2 ^ P - 1) (bar := 0) ok h0) with ⟨_, h5⟩ | ⟨h4, _⟩
    · obtain ⟨f, hf, hfe⟩ := List.mem_map.mp (z_F_sub ok h0 e h2)
      have := h5 f hf
      rw [hfe] at this
      exact absurd h3 this
    · exact h4
theorem z_pc8 : ∀ w, w < 8 → z_pc w ≤ 3 := by decide
theorem s_help_1 {nT_fromNow_found : Nat} {vT_fromNow_deedsAllowed vT_fromNow_doers vT_fromNow_opened vT_fromNow_size vT_fromNow_start vT_fromNow_unlifted vT_told_spells : Int32} {fT_fromNow_found fT_fromNow_seen : Nat → Int64} {P M x v : Nat} {sp : Nat → Nat → Nat} {ak ba bi dr ks kn mk so va wk wh : Nat → Int32} {cc : Int32} (ok : z_ok P M sp) (hA : z_RA M sp ak kn mk va wk) (hdt : z_dt M sp (z_ds P) (cc, ba, bi, dr, ks, so, wh)) (n1 : z_V P M x) (hv : v < 2 ^ 31) {all sz : Nat} (hall : all < 8) (hsz : sz < 2 ^ 31) : ∀ r i k (nW : Nat) (da dn op size st un : Int32) (fo se : Nat → Int64), i + r = all → r + 60000 < k → i_len nW → z_SO P M sp (nW, da, dn, op, size, st, un, fo, se) → wp (f_SS_fewestHelpers_L32 nT_fromNow_found vT_fromNow_deedsAllowed vT_fromNow_doers vT_fromNow_opened vT_fromNow_size vT_fromNow_start vT_fromNow_unlifted (nI (z_ds P).length) (nI P) (nI M) (nI x) (nI P) fT_fromNow_found fT_fromNow_seen ak ba bi dr ks kn mk so va wk (nI v) (nI all) (nI sz) k (nI i) nW da dn op size st un fo se) (fun q => match q with
    | .inl q => z_h1 (z_hg P M sp x v) sz r i = none ∧ i_len q.1 ∧ z_SO P M sp q
    | .inr q => ∃ d, z_h1 (z_hg P M sp x v) sz r i = some d ∧ q.1 = nI d ∧ z_19F q = (nT_fromNow_found, vT_fromNow_deedsAllowed, vT_fromNow_doers, vT_fromNow_opened, vT_fromNow_size, vT_fromNow_start, vT_fromNow_unlifted, fT_fromNow_found, fT_fromNow_seen) ∧ i_len (z_19W q).1 ∧ z_SO P M sp (z_19W q)) := by
  have hP := ok.2.1
  have hM := ok.2.2.1
  have hx := n1.1
  have hB := z_RB_of ok hdt
  intro r
  induction r with
  | zero =>
    intro i k nW da dn op size st un fo se hi hk h1 h2
    obtain ⟨k, rfl⟩ : ∃ k', k = k' + 1 := ⟨k - 1, by omega⟩
    rw [f_SS_fewestHelpers_L32]
    exact w_T (by simp (disch := omega) only [q_lit, q_ofn, nI_add, q_mul, q_sub, q_shrm, q_shlm, q_a31s, q_a1, q_a3, q_a7, q_a65535, q_div, q_rem2, z_mm, nI_clamp, Nat.reduceMul, Nat.reduceAdd, Nat.reduceSub, Nat.reducePow, Nat.reduceMod, Nat.reduceDiv, Nat.one_mul, nI_ltI, nI_leI, nI_eq, q_b0, q_b1, q_m1lt, q_m1le, q_ltm1, q_lem1, q_eqm1, q_m1eq, not_true_eq_false, not_false_eq_true, reduceCtorEq, *] <;> first | omega | decide) (w_some ⟨rfl, h1, h2⟩)
  | succ r ih =>
    intro i k nW da dn op size st un fo se hi hk h1 h2
    obtain ⟨k, rfl⟩ : ∃ k', k = k' + 1 := ⟨k - 1, by omega⟩
    have hi1 : nI i + (1 : Int32) = nI (i + 1) := by simp only [q_lit, nI_add]
    have hpc := z_pc8 i (by omega)
    rw [f_SS_fewestHelpers_L32]
    refine w_F (by simp (disch := omega) only [q_lit, q_ofn, nI_add, q_mul, q_sub, q_shrm, q_shlm, q_a31s, q_a1, q_a3, q_a7, q_a65535, q_div, q_rem2, z_mm, nI_clamp, Nat.reduceMul, Nat.reduceAdd, Nat.reduceSub, Nat.reducePow, Nat.reduceMod, Nat.reduceDiv, Nat.one_mul, nI_ltI, nI_leI, nI_eq, q_b0, q_b1, q_m1lt, q_m1le, q_ltm1, q_lem1, q_eqm1, q_m1eq, not_true_eq_false, not_false_eq_true, reduceCtorEq, *] <;> first | omega | decide) ?_
    refine w_Be (t_bitAll i (by omega)) ?_
    unfold z_h1
    unfold f_SS_fewestHelpers_J69
    by_cases hp : z_pc i = sz
    · refine w_T (by rw [hp]) ?_
      refine w_Bw (q_what (bar := 0) ok hdt n1 (by omega) (by decide) (by omega) h2) ?_
      rintro ⟨w1, w2, w3, w4, w5, w6, w7, w8, w9⟩ ⟨hg, hs⟩
      refine w_G (z_gr_nlt hP hM hs) ?_
      refine w_Bw (q_few ok hA hB (by decide) n1 (by omega) hs hv) ?_
      rintro ⟨y, o1, o2, o3, o4⟩ ⟨e, hs2⟩
      have e : y = z_few (z_F P M sp i 0 x) v := e
      have h3 := i_len_gr hP hM hg h1
      have h4 := z_SO_of hs2 (by omega) (by decide) n1
      by_cases f1 : y = -nI 1
      · refine w_T f1 (w_Ln hi1 ?_)
        rw [if_neg (fun z => by have := z.2; unfold z_hg at this; rw [decide_eq_true_iff] at this; exact this (e.symm.trans f1))]
        exact ih (i + 1) k _ _ _ _ _ _ _ _ _ (by omega) (by omega) h3 h4
      · refine w_F f1 (w_some ?_)
        exact ⟨i, if_pos ⟨hp, decide_eq_true (fun z => f1 (e.trans z))⟩, rfl, rfl, h3, h4⟩
    · refine w_F (by rw [nI_eq (by omega) hsz]; exact hp) (w_Ln hi1 ?_)
      rw [if_neg (fun z => hp z.1)]
      exact ih (i + 1) k _ _ _ _ _ _ _ _ _ (by omega) (by omega) h1 h2
theorem s_help_2 {nT_fromNow_found : Nat} {vT_fromNow_deedsAllowed vT_fromNow_doers vT_fromNow_opened vT_fromNow_size vT_fromNow_start vT_fromNow_unlifted vT_told_spells : Int32} {fT_fromNow_found fT_fromNow_seen : Nat → Int64} {P M x v : Nat} {sp : Nat → Nat → Nat} {ak ba bi dr ks kn mk so va wk wh : Nat → Int32} {cc : Int32} (ok : z_ok P M sp) (hA : z_RA M sp ak kn mk va wk) (hdt : z_dt M sp (z_ds P) (cc, ba, bi, dr, ks, so, wh)) (n1 : z_V P M x) (hv : v < 2 ^ 31) {all : Nat} (hall : all < 8) : ∀ r i k (nW : Nat) (da dn op size st un : Int32) (fo se : Nat → Int64), i + r = 3 → r + 60010 < k → i_len nW → z_SO P M sp (nW, da, dn, op, size, st, un, fo, se) → wp (f_SS_fewestHelpers_L24 nT_fromNow_found vT_fromNow_deedsAllowed vT_fromNow_doers vT_fromNow_opened vT_fromNow_size vT_fromNow_start vT_fromNow_unlifted (nI (z_ds P).length) (nI P) (nI M) (nI x) (nI P) fT_fromNow_found fT_fromNow_seen ak ba bi dr ks kn mk so va wk (nI v) (nI all) k (nI i) nW da dn op size st un fo se) (fun q => match q with
    | .inl q => z_h2 (z_hg P M sp x v) all r i = none ∧ i_len q.1 ∧ z_SO P M sp q
    | .inr q => ∃ d, z_h2 (z_hg P M sp x v) all r i = some d ∧ q.1 = nI d ∧ z_19F q = (nT_fromNow_found, vT_fromNow_deedsAllowed, vT_fromNow_doers, vT_fromNow_opened, vT_fromNow_size, vT_fromNow_start, vT_fromNow_unlifted, fT_fromNow_found, fT_fromNow_seen) ∧ i_len (z_19W q).1 ∧ z_SO P M sp (z_19W q)) := by
  intro r
  induction r with
  | zero =>
    intro i k nW da dn op size st un fo se hi hk h1 h2
    obtain ⟨k, rfl⟩ : ∃ k', k = k' + 1 := ⟨k - 1, by omega⟩
    rw [f_SS_fewestHelpers_L24]
    exact w_T (by simp (disch := omega) only [q_lit, q_ofn, nI_add, q_mul, q_sub, q_shrm, q_shlm, q_a31s, q_a1, q_a3, q_a7, q_a65535, q_div, q_rem2, z_mm, nI_clamp, Nat.reduceMul, Nat.reduceAdd, Nat.reduceSub, Nat.reducePow, Nat.reduceMod, Nat.reduceDiv, Nat.one_mul, nI_ltI, nI_leI, nI_eq, q_b0, q_b1, q_m1lt, q_m1le, q_ltm1, q_lem1, q_eqm1, q_m1eq, not_true_eq_false, not_false_eq_true, reduceCtorEq, *] <;> first | omega | decide) (w_some ⟨rfl, h1, h2⟩)
  | succ r ih =>
    intro i k nW da dn op size st un fo se hi hk h1 h2
    obtain ⟨k, rfl⟩ : ∃ k', k = k' + 1 := ⟨k - 1, by omega⟩
    have hi1 : nI i + (1 : Int32) = nI (i + 1) := by simp only [q_lit, nI_add]
    rw [f_SS_fewestHelpers_L24]
    refine w_F (by simp (disch := omega) only [q_lit, q_ofn, nI_add, q_mul, q_sub, q_shrm, q_shlm, q_a31s, q_a1, q_a3, q_a7, q_a65535, q_div, q_rem2, z_mm, nI_clamp, Nat.reduceMul, Nat.reduceAdd, Nat.reduceSub, Nat.reducePow, Nat.reduceMod, Nat.reduceDiv, Nat.one_mul, nI_ltI, nI_leI, nI_eq, q_b0, q_b1, q_m1lt, q_m1le, q_ltm1, q_lem1, q_eqm1, q_m1eq, not_true_eq_false, not_false_eq_true, reduceCtorEq, *] <;> first | omega | decide) ?_
    unfold z_h2
    refine w_Sw (s_help_1 (vT_told_spells := 0) ok hA hdt n1 hv hall (by omega) all 0 k _ _ _ _ _ _ _ _ _ (by omega) (by omega) h1 h2) ?_ ?_
    · rintro ⟨q1, q2, q3, q4, q5, q6, q7, q8, q9⟩ ⟨g1, g2, g3⟩
      rw [g1]
      exact w_Ln hi1 (ih (i + 1) k _ _ _ _ _ _ _ _ _ (by omega) (by omega) g2 g3)
    · rintro q ⟨d, g1, g2⟩
      rw [g1]
      exact w_some ⟨d, rfl, g2⟩
theorem s_help {nT_fromNow_found nT_whatIf_found k : Nat} {vT_fromNow_deedsAllowed vT_fromNow_doers vT_fromNow_opened vT_fromNow_size vT_fromNow_start vT_fromNow_unlifted vT_whatIf_deedsAllowed vT_whatIf_doers vT_whatIf_opened vT_whatIf_size vT_whatIf_start vT_whatIf_unlifted : Int32} {fT_fromNow_found fT_fromNow_seen fT_whatIf_found fT_whatIf_seen : Nat → Int64} {P M x v : Nat} {sp : Nat → Nat → Nat} {ak ba bi dr ks kn mk so va wk wh : Nat → Int32} {cc : Int32} (ok : z_ok P M sp) (hA : z_RA M sp ak kn mk va wk) (hdt : z_dt M sp (z_ds P) (cc, ba, bi, dr, ks, so, wh)) (n1 : z_V P M x) (hv : v < 2 ^ 31) (hk : 70000 ≤ k) (h1 : i_len nT_fromNow_found) (h2 : z_SO P M sp (nT_fromNow_found, vT_fromNow_deedsAllowed, vT_fromNow_doers, vT_fromNow_opened, vT_fromNow_size, vT_fromNow_start, vT_fromNow_unlifted, fT_fromNow_found, fT_fromNow_seen)) (h3 : i_len nT_whatIf_found) (h4 : z_SO P M sp (nT_whatIf_found, vT_whatIf_deedsAllowed, vT_whatIf_doers, vT_whatIf_opened, vT_whatIf_size, vT_whatIf_start, vT_whatIf_unlifted, fT_whatIf_found, fT_whatIf_seen)) : wp (f_SS_fewestHelpers k nT_fromNow_found nT_whatIf_found vT_fromNow_deedsAllowed vT_fromNow_doers vT_fromNow_opened vT_fromNow_size vT_fromNow_start vT_fromNow_unlifted (nI (z_ds P).length) (nI P) (nI M) (nI x) (nI P) vT_whatIf_deedsAllowed vT_whatIf_doers vT_whatIf_opened vT_whatIf_size vT_whatIf_start vT_whatIf_unlifted fT_fromNow_found fT_fromNow_seen ak ba bi dr ks kn mk so va wk fT_whatIf_found fT_whatIf_seen (nI v)) (fun q => ((z_hg P M sp x v (2 ^ P - 1) = true ∧ q.1 = nI ((z_h2 (z_hg P M sp x v) (2 ^ P - 1) 3 0).getD (2 ^ P - 1))) ∨ (z_hg P M sp x v (2 ^ P - 1) = false ∧ q.1 = -nI 1)) ∧ z_s2 P M sp q) := by
  have hP := ok.2.1
  have hM := ok.2.2.1
  have h8 := z_all8 hP
  have hB := z_RB_of ok hdt
  unfold f_SS_fewestHelpers
  refine w_Bw (q_from ok hdt n1 (by omega) h2) ?_
  rintro ⟨w1, w2, w3, w4, w5, w6, w7, w8, w9⟩ ⟨hg, hs⟩
  refine w_G (z_gr_nlt hP hM hs) ?_
  refine w_Bw (q_few ok hA hB (by decide) n1 (by omega) hs hv) ?_
  rintro ⟨y, o1, o2, o3, o4⟩ ⟨e, hs2⟩
  have e : y = z_few (z_F P M sp (2 ^ P - 1) 0 x) v := e
  have g3 := i_len_gr hP hM hg h1
  have g4 := z_SO_of hs2 h8 (by decide) n1
  by_cases f1 : y = -nI 1
  · refine w_T f1 (w_some ⟨Or.inr ⟨?_, rfl⟩, g3, g4, h3, h4⟩)
    unfold z_hg
    exact decide_eq_false (fun z => z (e.symm.trans f1))
  · refine w_F f1 (w_Be (t_everybody hP) ?_)
    have hyes : z_hg P M sp x v (2 ^ P - 1) = true := decide_eq_true (fun z => f1 (e.trans z))
    refine w_Sw (s_help_2 (vT_told_spells := 0) ok hA hdt n1 hv h8 3 0 k _ _ _ _ _ _ _ _ _ (by omega) (by omega) h3 h4) ?_ ?_
    · rintro ⟨q1, q2, q3, q4, q5, q6, q7, q8, q9⟩ ⟨e1, e2, e3⟩
      refine w_some ⟨Or.inl ⟨hyes, ?_⟩, g3, g4, e2, e3⟩
      rw [e1]
      rfl
    · rintro q ⟨d, e1, e2, e3, e4, e5⟩
      refine w_some ⟨Or.inl ⟨hyes, ?_⟩, ?_, ?_, e4, e5⟩
      · rw [e1]; exact e2
      · rw [e3]; exact g3
      · rw [e3]; exact g4
def z_oM (o : Option Nat) : Int32 := match o with
  | none => -nI 1
  | some b => nI b
theorem m_help_L {P M x v : Nat} {sp : Nat → Nat → Nat} {sf : Nat → Int32} {x2 : Int32} (ok : z_ok P M sp) (hr : z_rep M sp sf) (n1 : z_V P M x) (hv : v < 2 ^ 31) : ∀ r i k (o : Option Nat) (lf qd : Int32) (fa qu : Nat → Int32), i + r = 2 ^ P → r + 60000 < k → (∀ b, o = some b → b < 8) → wp (f_Mo_helpers_L29 (nI M) (nI x) (nI P) sf (nI v) x2 k (z_oM o) (nI i) lf qd fa qu) (fun q => q.1 = z_oM (z_it (z_hs (z_hg P M sp x v)) r i o) ∧ ∀ b, z_it (z_hs (z_hg P M sp x v)) r i o = some b → b < 8) := by
  have hP := ok.2.1
  have hM := ok.2.2.1
  have hx := n1.1
  have h8 : 2 ^ P ≤ 8 := by have := Nat.pow_le_pow_right (n := 2) (by decide) hP; omega
  have hsh : (1 : Int32) <<< (nI P &&& 31) = nI (2 ^ P) := z_sh1 (by omega)
  intro r
  induction r with
  | zero =>
    intro i k o lf qd fa qu hi hk ho
    obtain ⟨k, rfl⟩ : ∃ k', k = k' + 1 := ⟨k - 1, by omega⟩
    rw [f_Mo_helpers_L29, hsh]
    exact w_T (nI_le (by omega) (by omega)) (w_some ⟨rfl, ho⟩)
  | succ r ih =>
    intro i k o lf qd fa qu hi hk ho
    obtain ⟨k, rfl⟩ : ∃ k', k = k' + 1 := ⟨k - 1, by omega⟩
    have hi1 : nI i + (1 : Int32) = nI (i + 1) := by simp only [q_lit, nI_add]
    have J : ∀ (o' : Option Nat), (∀ b, o' = some b → b < 8) → ((z_hg P M sp x v i = true → z_hs (z_hg P M sp x v) i o' = some i) ∧ (z_hg P M sp x v i = false → z_hs (z_hg P M sp x v) i o' = o')) → wp (f_Mo_helpers_J57 (f_Mo_helpers_L29 (nI M) (nI x) (nI P) sf (nI v) x2 k) k lf (nI M) (nI x) (nI P) qd fa qu sf (nI v) x2 (z_oM o') (nI i)) (fun q => q.1 = z_oM (z_it (z_hs (z_hg P M sp x v)) r (i + 1) (z_hs (z_hg P M sp x v) i o')) ∧ ∀ b, z_it (z_hs (z_hg P M sp x v)) r (i + 1) (z_hs (z_hg P M sp x v) i o') = some b → b < 8) := by
      intro o' ho' hz
      unfold f_Mo_helpers_J57 f_Mo_helpers_J83 f_Mo_helpers_J84
      refine w_Bw (m_layFars (who := i) (bar := 0) ok hr (by omega) (by decide) n1 (by omega)) ?_
      rintro ⟨u1, u2, u3, u4⟩ hq
      refine w_Be (m_few hP hM hq hv (by omega)) ?_
      by_cases f1 : z_few (z_F P M sp i 0 x) v = -nI 1
      · refine w_T f1 (w_Ln hi1 ?_)
        rw [hz.2 (decide_eq_false (fun z => z f1))]
        exact ih (i + 1) k o' _ _ _ _ (by omega) (by omega) ho'
      · refine w_F f1 (w_Ln hi1 ?_)
        rw [hz.1 (decide_eq_true f1)]
        exact ih (i + 1) k (some i) _ _ _ _ (by omega) (by omega) (fun b hb => by cases hb; omega)
    rw [f_Mo_helpers_L29, hsh]
    refine w_F (nI_ge (by omega) (by omega)) ?_
    rw [z_it_s]
    cases o with
    | none =>
      refine w_T rfl (J none ho ⟨fun h => ?_, fun h => ?_⟩)
      · unfold z_hs; exact if_pos h
      · unfold z_hs; exact if_neg (by rw [h]; decide)
    | some b =>
      have hb := ho b rfl
      refine w_F (fun z => (q_eqm1 (a := b) (by omega)).mp z) ?_
      refine w_Be (m_bits (by omega) (by omega)) (w_Be (m_bits (by omega) (by omega)) ?_)
      have p1 := z_pc8 i (by omega)
      have p2 := z_pc8 b hb
      by_cases hlt : z_pc i < z_pc b
      · refine w_F (nI_ge hlt (by omega)) (J (some b) ho ⟨fun h => ?_, fun h => ?_⟩)
        · show (if z_pc i < z_pc b then _ else _) = _
          rw [if_pos hlt, if_pos h]
        · show (if z_pc i < z_pc b then _ else _) = _
          rw [if_pos hlt, if_neg (by rw [h]; decide)]
      · refine w_T (nI_le (by omega) (by omega)) ?_
        unfold f_Mo_helpers_J84
        refine w_Ln hi1 ?_
        rw [show z_hs (z_hg P M sp x v) i (some b) = some b from if_neg hlt]
        exact ih (i + 1) k (some b) _ _ _ _ (by omega) (by omega) ho
theorem p_helpers {ns k : Nat} {ci : Nat → Int32} {cf : Nat → Nat → Int32} {cl : Nat → Nat → Int64} {cn : Nat → Nat} {mi : Nat → Int32} {mf : Nat → Nat → Int32} (hk : 200000 ≤ k) (h : z_inv ns ci cf cl cn mi mf) (p1 p2 : Int32) : wp (f_SS_helpers k (cn 0) (cn 1) (ci 1) (ci 2) (ci 3) (ci 4) (ci 5) (ci 6) (ci 17) (ci 18) (ci 19) (ci 20) (ci 24) (ci 25) (ci 30) (ci 31) (ci 32) (ci 33) (ci 34) (ci 35) (cl 0) (cl 1) (cf 12) (cf 13) (cf 15) (cf 17) (cf 18) (cf 19) (cf 20) (cf 21) (cf 22) (cf 23) (cl 2) (cl 3) p1 p2) (fun q => wp (f_Mo_helpers k (mi 5) (mi 6) (mi 7) (mi 9) (mi 12) (mf 0) (mf 8) (mf 11) p1 p2) (fun q' => q.1 = q'.1 ∧ z_inv ns (z_u (z_u (z_u (z_u (z_u (z_u (z_u (z_u (z_u (z_u (z_u (z_u ci 1 q.2.2.2.1) 2 q.2.2.2.2.1) 3 q.2.2.2.2.2.1) 4 q.2.2.2.2.2.2.1) 5 q.2.2.2.2.2.2.2.1) 6 q.2.2.2.2.2.2.2.2.1) 30 q.2.2.2.2.2.2.2.2.2.1) 31 q.2.2.2.2.2.2.2.2.2.2.1) 32 q.2.2.2.2.2.2.2.2.2.2.2.1) 33 q.2.2.2.2.2.2.2.2.2.2.2.2.1) 34 q.2.2.2.2.2.2.2.2.2.2.2.2.2.1) 35 q.2.2.2.2.2.2.2.2.2.2.2.2.2.2.1) cf (z_u (z_u (z_u (z_u cl 0 q.2.2.2.2.2.2.2.2.2.2.2.2.2.2.2.1) 1 q.2.2.2.2.2.2.2.2.2.2.2.2.2.2.2.2.1) 2 q.2.2.2.2.2.2.2.2.2.2.2.2.2.2.2.2.2.1) 3 q.2.2.2.2.2.2.2.2.2.2.2.2.2.2.2.2.2.2) (z_u (z_u cn 0 q.2.1) 1 q.2.2.1) (z_u (z_u mi 5 q'.2.1) 12 q'.2.2.1) (z_u (z_u mf 0 q'.2.2.2.1) 8 q'.2.2.2.2))) := by
  obtain ⟨c, n, S, x, d, hT, ok, hdr, hml, hRU, hN, hU, hK, hR, hQ, hY, hF, hW, hl1, hl2, hb⟩ := h
  have hPe : (ci 24) = nI S.1 := hdr.2.2.1; have hSp : (ci 25) = nI S.2.1 := hdr.2.2.2.1; have hmM : (mi 6) = nI S.2.1 := hml.1; have hmP : (mi 9) = nI S.1 := hml.2.1; have hP1 := ok.1.1; have hP3 := ok.1.2.1; have hM5 := ok.1.2.2.1
  have hr1 : (ci 18) = nI S.1 := hRU.1; have hr2 : (ci 19) = nI S.2.1 := hRU.2.1; have hdt := hRU.2.2.2.2; have hr3 : (ci 17) = nI (z_ds S.1).length := hdt.1; have hA := hRU.2.2.1; have hB := z_RB_of ok.1 hdt; have hrep := hml.2.2.2.2; have h8 := z_all8 hP3; obtain ⟨n1, n2, n3, n4, n5, n6⟩ := id hN
  rw [hSp, hPe, hmP, hmM, n3, n5, hr1, hr2, hr3]
  rcases z_set hM5 p1 with ⟨a1, a2⟩ | ⟨v, hv, hv2, rfl, a1, a2⟩
  · refine w_2 (r1 := (-2, (cn 0), (cn 1), (ci 1), (ci 2), (ci 3), (ci 4), (ci 5), (ci 6), (ci 30), (ci 31), (ci 32), (ci 33), (ci 34), (ci 35), (cl 0), (cl 1), (cl 2), (cl 3))) (r2 := (-2, (mi 5), (mi 12), (mf 0), (mf 8))) ?_ ?_ ⟨rfl, c, n, S, x, d, hT, ok, hdr, hml, hRU, hN, hU, hK, hR, hQ, hY, hF, hW, hl1, hl2, hb⟩
    · unfold f_SS_helpers
      exact e_B a1 (e_T rfl rfl)
    · unfold f_Mo_helpers
      exact e_B a2 (e_T rfl rfl)
  · rcases z_smal (p := p2) 2 (by decide) with hneg | ⟨w, hw, rfl⟩ | ⟨w, hw, hw', rfl⟩
    · refine w_2 (r1 := (-3, (cn 0), (cn 1), (ci 1), (ci 2), (ci 3), (ci 4), (ci 5), (ci 6), (ci 30), (ci 31), (ci 32), (ci 33), (ci 34), (ci 35), (cl 0), (cl 1), (cl 2), (cl 3))) (r2 := (-3, (mi 5), (mi 12), (mf 0), (mf 8))) ?_ ?_ ⟨rfl, c, n, S, x, d, hT, ok, hdr, hml, hRU, hN, hU, hK, hR, hQ, hY, hF, hW, hl1, hl2, hb⟩
      · unfold f_SS_helpers
        exact e_B a1 (e_F (by decide) (e_T hneg rfl))
      · unfold f_Mo_helpers
        exact e_B a2 (e_F (by decide) (e_B (m_inneg hneg (a := 0) (by decide) (lN 1)) (e_T rfl rfl)))
    · have hin := m_in0N (v := w) (b := 1) (by omega) (by decide)
      rw [decide_eq_true (by omega)] at hin
      have hmq := m_help_L (x2 := nI w) ok.1 hrep n1 hv2 (2 ^ S.1) 0 k none (mi 5) (mi 12) (mf 0) (mf 8) (by omega) (by omega) (fun b hb => by cases hb)
      obtain ⟨B, hB0⟩ : ∃ B, B = z_it (z_hs (z_hg S.1 S.2.1 S.2.2.2.2 x v)) (2 ^ S.1) 0 none := ⟨_, rfl⟩
      rw [← hB0] at hmq
      have hsh := s_help ok.1 hA hdt n1 hv2 (k := k) (by omega) hl1 hF hl2 hW
      have hsh2 := w_mono hsh (R := fun q => q.1 = z_oM B ∧ z_s2 S.1 S.2.1 S.2.2.2.2 q) (fun q hq => by
        refine ⟨?_, hq.2⟩
        rcases hq.1 with ⟨g1, g2⟩ | ⟨g1, g2⟩
        · rw [g2, hB0, z_help hP1 hP3 g1]
          rfl
        · have : B = none := by
            rw [hB0]
            refine z_it_id _ _ _ (fun j _ _ a => ?_)
            have hj : z_hg S.1 S.2.1 S.2.2.2.2 x v j = false := by
              cases hh : z_hg S.1 S.2.1 S.2.2.2.2 x v j with
              | false => rfl
              | true => rw [z_hg_mono ok.1 n1 hh] at g1; cases g1
            unfold z_hs
            rw [hj]
            cases a with
            | none => rfl
            | some b => simp
          rw [g2, this]
          rfl)
      refine w_2w (R1 := fun q => q.1 = (if w = 1 then z_oM B else match B with | none => -nI 1 | some b => nI (z_pc b)) ∧ z_s2 S.1 S.2.1 S.2.2.2.2 q) (R2 := fun q => q.1 = (if w = 1 then z_oM B else match B with | none => -nI 1 | some b => nI (z_pc b))) ?_ ?_ (fun q q' h1 h2 => ⟨h1.1.trans h2.symm, c, n, S, x, d, hT, ok, hdr, hml, hRU, hN, hU, hK, hR, hQ, hY, h1.2.2.1, h1.2.2.2.2, h1.2.1, h1.2.2.2.1, hb⟩)
      · unfold f_SS_helpers
        refine w_Be a1 (w_F (by decide) (w_F (nI_pos (by omega)) (w_T (by simp (disch := omega) only [q_lit, q_ofn, nI_add, q_mul, q_sub, q_shrm, q_shlm, q_a31s, q_a1, q_a3, q_a7, q_a65535, q_div, q_rem2, z_mm, nI_clamp, Nat.reduceMul, Nat.reduceAdd, Nat.reduceSub, Nat.reducePow, Nat.reduceMod, Nat.reduceDiv, Nat.one_mul, nI_ltI, nI_leI, nI_eq, q_b0, q_b1, q_m1lt, q_m1le, q_ltm1, q_lem1, q_eqm1, q_m1eq, not_true_eq_false, not_false_eq_true, reduceCtorEq, *] <;> first | omega | decide) ?_)))
        obtain ⟨qm, em, hm1, hm2⟩ := hmq
        refine w_Bw hsh2 ?_
        rintro ⟨y, q1, q2, q3, q4, q5, q6, q7, q8, q9, q10, q11, q12, q13, q14, q15, q16, q17, q18⟩ ⟨e1, e2⟩
        have e1 : y = z_oM B := e1
        subst e1
        unfold f_SS_helpers_J42
        cases B with
        | none =>
          refine w_T rfl (w_some ⟨?_, e2⟩)
          show -nI 1 = if w = 1 then -nI 1 else -nI 1
          rw [ite_self]
        | some b =>
          have hb := hm2 b rfl
          refine w_F (fun z => (q_eqm1 (a := b) (by omega)).mp z) ?_
          by_cases hw1 : w = 1
          · subst hw1
            exact w_T rfl (w_some ⟨rfl, e2⟩)
          · refine w_F (by simp (disch := omega) only [q_lit, q_ofn, nI_add, q_mul, q_sub, q_shrm, q_shlm, q_a31s, q_a1, q_a3, q_a7, q_a65535, q_div, q_rem2, z_mm, nI_clamp, Nat.reduceMul, Nat.reduceAdd, Nat.reduceSub, Nat.reducePow, Nat.reduceMod, Nat.reduceDiv, Nat.one_mul, nI_ltI, nI_leI, nI_eq, q_b0, q_b1, q_m1lt, q_m1le, q_ltm1, q_lem1, q_eqm1, q_m1eq, not_true_eq_false, not_false_eq_true, reduceCtorEq, *] <;> first | omega | decide) (w_Be (t_bitAll b (by omega)) (w_some ⟨?_, e2⟩))
            rw [if_neg hw1]
      · unfold f_Mo_helpers
        refine w_Be a2 (w_F (by decide) (w_Be hin (w_F (by decide) ?_)))
        refine w_Bw hmq ?_
        rintro ⟨q1, q2, q3, q4, q5⟩ ⟨e1, hm2⟩
        have e1 : q1 = z_oM B := e1
        subst e1
        cases B with
        | none =>
          refine w_T rfl (w_some ?_)
          show -nI 1 = if w = 1 then -nI 1 else -nI 1
          rw [ite_self]
        | some b =>
          have hb := hm2 b rfl
          refine w_F (fun z => (q_eqm1 (a := b) (by omega)).mp z) ?_
          by_cases hw1 : w = 1
          · subst hw1
            exact w_F (by decide) (w_some rfl)
          · have : w = 0 := by omega
            subst this
            exact w_T rfl (w_Be (m_bits (by omega) (by omega)) (w_some rfl))
    · have hin := m_in0N (v := w) (b := 1) (by omega) (by decide)
      rw [decide_eq_false (by omega)] at hin
      refine w_2 (r1 := (-3, (cn 0), (cn 1), (ci 1), (ci 2), (ci 3), (ci 4), (ci 5), (ci 6), (ci 30), (ci 31), (ci 32), (ci 33), (ci 34), (ci 35), (cl 0), (cl 1), (cl 2), (cl 3))) (r2 := (-3, (mi 5), (mi 12), (mf 0), (mf 8))) ?_ ?_ ⟨rfl, c, n, S, x, d, hT, ok, hdr, hml, hRU, hN, hU, hK, hR, hQ, hY, hF, hW, hl1, hl2, hb⟩
      · unfold f_SS_helpers
        exact e_B a1 (e_F (by decide) (e_F (nI_pos (by omega)) (e_F (by simp (disch := omega) only [q_lit, q_ofn, nI_add, q_mul, q_sub, q_shrm, q_shlm, q_a31s, q_a1, q_a3, q_a7, q_a65535, q_div, q_rem2, z_mm, nI_clamp, Nat.reduceMul, Nat.reduceAdd, Nat.reduceSub, Nat.reducePow, Nat.reduceMod, Nat.reduceDiv, Nat.one_mul, nI_ltI, nI_leI, nI_eq, q_b0, q_b1, q_m1lt, q_m1le, q_ltm1, q_lem1, q_eqm1, q_m1eq, not_true_eq_false, not_false_eq_true, reduceCtorEq, *] <;> first | omega | decide) rfl)))
      · unfold f_Mo_helpers
        exact e_B a2 (e_F (by decide) (e_B hin (e_T rfl rfl)))
