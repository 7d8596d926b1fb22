/-! gone -/
def z_it {α : Type} (f : Nat → α → α) : Nat → Nat → α → α
  | 0, _, a => a
  | r + 1, i, a => z_it f r (i + 1) (f i a)
theorem z_it_s {α : Type} (f : Nat → α → α) (r i : Nat) (a : α) : z_it f (r + 1) i a = z_it f r (i + 1) (f i a) := rfl
theorem z_it_id {α : Type} {f : Nat → α → α} : ∀ e i (a : α), (∀ j, i ≤ j → j < i + e → ∀ a, f j a = a) → z_it f e i a = a := by
  intro e
  induction e with
  | zero => intro i a _; rfl
  | succ e ih =>
    intro i a h
    rw [z_it_s, h i (Nat.le_refl _) (by omega)]
    exact ih (i + 1) a (fun j h1 h2 => h j (by omega) (by omega))
theorem z_it_app {α : Type} {f : Nat → α → α} (e : Nat) : ∀ r i (a : α), z_it f (r + e) i a = z_it f e (i + r) (z_it f r i a) := by
  intro r
  induction r with
  | zero => intro i a; rw [Nat.zero_add]; rfl
  | succ r ih =>
    intro i a
    rw [show r + 1 + e = (r + e) + 1 by omega, z_it_s, z_it_s, ih (i + 1), show i + 1 + r = i + (r + 1) by omega]
theorem z_it_congr {α : Type} {f f' : Nat → α → α} : ∀ r i (a : α), (∀ j, i ≤ j → j < i + r → ∀ a, f j a = f' j a) → z_it f r i a = z_it f' r i a := by
  intro r
  induction r with
  | zero => intro i a _; rfl
  | succ r ih =>
    intro i a h
    rw [z_it_s, z_it_s, h i (Nat.le_refl _) (by omega)]
    exact ih (i + 1) _ (fun j h1 h2 => h j (by omega) (by omega))
theorem z_it_5 {α : Type} {f : Nat → α → α} {M : Nat} (hM : M ≤ 5) (h : ∀ j, M ≤ j → j < 5 → ∀ a, f j a = a) (a : α) : z_it f 5 0 a = z_it f M 0 a := by
  have := z_it_app (f := f) (5 - M) M 0 a
  rw [show M + (5 - M) = 5 by omega] at this
  rw [this]
  exact z_it_id _ _ _ (fun j h1 h2 => h j (by omega) (by omega))
theorem z_m1 : (-1 : Int32) = nI 4294967295 := by decide
theorem z_sh1 {i : Nat} (hi : i < 32) : (1 : Int32) <<< (nI i &&& 31) = nI (2 ^ i) := by
  simp (disch := omega) only [q_lit, q_a31s, q_shlm, Nat.one_mul]
theorem z_hold (x : Nat) : nI x &&& (31 : Int32) = nI (x % 32) := by
  rw [show (31 : Int32) = nI (2 ^ 5 - 1) from rfl, q_mod 5 (by decide)]
def z_clx (x s : Nat) : Nat := x &&& (2 ^ s ^^^ 4294967295)
theorem z_clr (x s : Nat) : nI x &&& (nI (2 ^ s) ^^^ (-1 : Int32)) = nI (z_clx x s) := by
  rw [z_m1, q_xor, q_and]
  rfl
theorem z_V_cl {P M x s : Nat} (h : z_V P M x) (hs : s < 5) : z_V P M (z_clx x s) := by
  obtain ⟨h1, h2, h3⟩ := h
  have e1 : z_clx x s / 32 = x / 32 := by
    show (x &&& (2 ^ s ^^^ 4294967295)) / 2 ^ 5 = x / 2 ^ 5
    rw [← Nat.shiftRight_eq_div_pow, ← Nat.shiftRight_eq_div_pow, Nat.shiftRight_and_distrib, z_msk s hs, Nat.and_two_pow_sub_one_eq_mod]
    apply Nat.mod_eq_of_lt
    rw [Nat.shiftRight_eq_div_pow]
    omega
  have e2 : z_clx x s % 32 ≤ x % 32 := by
    show (x &&& (2 ^ s ^^^ 4294967295)) % 2 ^ 5 ≤ x % 2 ^ 5
    rw [Nat.and_mod_two_pow]
    exact Nat.and_le_left
  have e3 : z_clx x s ≤ x := Nat.and_le_left
  refine ⟨by omega, by omega, ?_⟩
  rw [show z_clx x s / 128 = x / 128 by omega]
  exact h3
def z_gc (x v s : Nat) : Bool := x.testBit s && !v.testBit s
theorem z_gcond {x v i : Nat} (hi : i < 5) : (((nI x &&& (31 : Int32)) &&& (nI v ^^^ (-1 : Int32))) &&& nI (2 ^ i) = 0) ↔ z_gc x v i = false := by
  rw [z_hold, z_m1, q_xor, q_and, q_and, show (0 : Int32) = nI 0 from rfl, nI_eq (Nat.lt_of_le_of_lt Nat.and_le_right (Nat.pow_lt_pow_right (by decide) (by omega))) (by decide), z_andp0]
  rw [Nat.testBit_and, Nat.testBit_xor, show x % 32 = x % 2 ^ 5 from rfl, Nat.testBit_mod_two_pow, show 4294967295 = 2 ^ 32 - 1 from rfl, Nat.testBit_two_pow_sub_one, decide_eq_true hi, decide_eq_true (show i < 32 by omega)]
  unfold z_gc
  simp
def z_gs (P M : Nat) (sp : Nat → Nat → Nat) (x v s : Nat) (a : Int32 × Int32) : Int32 × Int32 := if z_gc x v s = true then (if z_few (z_F P M sp (2 ^ P - 1) 0 (z_clx x s)) v = -nI 1 then a else if a.2 = -nI 1 then (nI s, z_few (z_F P M sp (2 ^ P - 1) 0 (z_clx x s)) v) else if a.2 ≤ z_few (z_F P M sp (2 ^ P - 1) 0 (z_clx x s)) v then a else (nI s, z_few (z_F P M sp (2 ^ P - 1) 0 (z_clx x s)) v)) else a
theorem s_gone_L {nT_fromNow_found : Nat} {vT_fromNow_deedsAllowed vT_fromNow_doers vT_fromNow_opened vT_fromNow_size vT_fromNow_start vT_fromNow_unlifted vT_told_spells : Int32} {fT_fromNow_found fT_fromNow_seen : Nat → Int64} {P M x v : Nat} {sp : Nat → Nat → Nat} {ak ba bi dr ks kn mk so va wk wh : Nat → Int32} {cc : Int32} (ok : z_ok P M sp) (hA : z_RA M sp ak kn mk va wk) (hdt : z_dt M sp (z_ds P) (cc, ba, bi, dr, ks, so, wh)) (n1 : z_V P M x) (hv : v < 2 ^ 31) {x2 : Int32} : ∀ r i k (b l : Int32) (nW : Nat) (da dn op size st un : Int32) (fo se : Nat → Int64), i + r = 5 → r + 60000 < k → i_len nW → z_SO P M sp (nW, da, dn, op, size, st, un, fo, se) → wp (f_SS_gone_L41 nT_fromNow_found vT_fromNow_deedsAllowed vT_fromNow_doers vT_fromNow_opened vT_fromNow_size vT_fromNow_start vT_fromNow_unlifted (nI (z_ds P).length) (nI P) (nI M) (nI x) (nI P) vT_told_spells fT_fromNow_found fT_fromNow_seen ak ba bi dr ks kn mk so va wk (nI v) x2 k b l (nI i) nW da dn op size st un fo se) (fun q => (q.1, q.2.1) = z_it (z_gs P M sp x v) r i (b, l) ∧ i_len q.2.2.1 ∧ z_SO P M sp q.2.2) := by
  have hP := ok.2.1
  have hM := ok.2.2.1
  have hx := n1.1
  have hB := z_RB_of ok hdt
  intro r
  induction r with
  | zero =>
    intro i k b l nW da dn op size st un fo se hi hk h1 h2
    obtain ⟨k, rfl⟩ : ∃ k', k = k' + 1 := ⟨k - 1, by omega⟩
    rw [f_SS_gone_L41]
    exact w_T (by simp (disch := omega) only [q_lit, q_ofn, nI_add, q_mul, q_sub, q_shrm, q_shlm, q_a31s, q_a1, q_a3, q_a7, q_a65535, q_div, q_rem2, z_mm, nI_clamp, Nat.reduceMul, Nat.reduceAdd, Nat.reduceSub, Nat.reducePow, Nat.reduceMod, Nat.reduceDiv, Nat.one_mul, nI_ltI, nI_leI, nI_eq, q_b0, q_b1, q_m1lt, q_m1le, q_ltm1, q_lem1, q_eqm1, q_m1eq, not_true_eq_false, not_false_eq_true, reduceCtorEq, *] <;> first | omega | decide) (w_some ⟨rfl, h1, h2⟩)
  | succ r ih =>
    intro i k b l nW da dn op size st un fo se hi hk h1 h2
    obtain ⟨k, rfl⟩ : ∃ k', k = k' + 1 := ⟨k - 1, by omega⟩
    have hi1 : nI i + (1 : Int32) = nI (i + 1) := by simp only [q_lit, nI_add]
    rw [f_SS_gone_L41]
    refine w_F (by simp (disch := omega) only [q_lit, q_ofn, nI_add, q_mul, q_sub, q_shrm, q_shlm, q_a31s, q_a1, q_a3, q_a7, q_a65535, q_div, q_rem2, z_mm, nI_clamp, Nat.reduceMul, Nat.reduceAdd, Nat.reduceSub, Nat.reducePow, Nat.reduceMod, Nat.reduceDiv, Nat.one_mul, nI_ltI, nI_leI, nI_eq, q_b0, q_b1, q_m1lt, q_m1le, q_ltm1, q_lem1, q_eqm1, q_m1eq, not_true_eq_false, not_false_eq_true, reduceCtorEq, *] <;> first | omega | decide) ?_
    refine w_Ln (w := nI (2 ^ i)) (z_sh1 (by omega)) ?_
    unfold f_St_holding
    refine w_Be rfl ?_
    rw [z_it_s]
    unfold z_gs
    by_cases hc : z_gc x v i = true
    · refine w_F (fun z => by rw [(z_gcond (by omega)).mp z] at hc; cases hc) ?_
      rw [if_pos hc]
      refine w_Be (t_everybody hP) ?_
      rw [z_clr]
      refine w_Bw (q_what (bar := 0) ok hdt (z_V_cl n1 (by omega)) (z_all8 hP) (by decide) (by omega) h2) ?_
      rintro ⟨w1, w2, w3, w4, w5, w6, w7, w8, w9⟩ ⟨hg, hs⟩
      refine w_G (z_gr_nlt hP hM hs) ?_
      refine w_Bw (q_few ok hA hB (by decide) (z_V_cl n1 (by omega)) (by omega) hs hv) ?_
      rintro ⟨y, o1, o2, o3, o4⟩ ⟨e, hs2⟩
      have e : y = z_few (z_F P M sp (2 ^ P - 1) 0 (z_clx x i)) v := e
      rw [← e]
      clear e
      have h3 := i_len_gr hP hM hg h1
      have h4 := z_SO_of hs2 (z_all8 hP) (by decide) (z_V_cl n1 (by omega))
      unfold f_SS_gone_J116 f_SS_gone_J123
      by_cases f1 : y = -nI 1
      · refine w_T f1 (w_Ln hi1 ?_)
        rw [if_pos f1]
        exact ih (i + 1) k _ _ _ _ _ _ _ _ _ _ _ (by omega) (by omega) h3 h4
      · refine w_F f1 ?_
        rw [if_neg f1]
        by_cases f2 : l = -nI 1
        · refine w_T f2 (w_Ln hi1 ?_)
          rw [if_pos f2]
          exact ih (i + 1) k _ _ _ _ _ _ _ _ _ _ _ (by omega) (by omega) h3 h4
        · refine w_F f2 ?_
          rw [if_neg f2]
          by_cases f3 : l ≤ y
          · refine w_T f3 (w_Ln hi1 ?_)
            rw [if_pos f3]
            exact ih (i + 1) k _ _ _ _ _ _ _ _ _ _ _ (by omega) (by omega) h3 h4
          · refine w_F f3 (w_Ln hi1 ?_)
            rw [if_neg f3]
            exact ih (i + 1) k _ _ _ _ _ _ _ _ _ _ _ (by omega) (by omega) h3 h4
    · refine w_T ((z_gcond (by omega)).mpr (Bool.eq_false_iff.mpr hc)) ?_
      rw [if_neg hc]
      unfold f_SS_gone_J123
      exact w_Ln hi1 (ih (i + 1) k _ _ _ _ _ _ _ _ _ _ _ (by omega) (by omega) h1 h2)
theorem m_gone_L {P M x v : Nat} {sp : Nat → Nat → Nat} {sf : Nat → Int32} {x2 : Int32} (ok : z_ok P M sp) (hr : z_rep M sp sf) (n1 : z_V P M x) (hv : v < 2 ^ 31) : ∀ r i k (l b lf qd : Int32) (fa qu : Nat → Int32), i + r = M → r + 60000 < k → wp (f_Mo_gone_L44 (nI M) (nI x) (nI P) sf (nI v) x2 k l b (nI i) lf qd fa qu) (fun q => (q.2.1, q.1) = z_it (z_gs P M sp x v) r i (b, l)) := by
  have hP := ok.2.1
  have hM := ok.2.2.1
  have hx := n1.1
  intro r
  induction r with
  | zero =>
    intro i k l b lf qd fa qu hi hk
    obtain ⟨k, rfl⟩ : ∃ k', k = k' + 1 := ⟨k - 1, by omega⟩
    rw [f_Mo_gone_L44]
    exact w_T (by simp (disch := omega) only [q_lit, q_ofn, nI_add, q_mul, q_sub, q_shrm, q_shlm, q_a31s, q_a1, q_a3, q_a7, q_a65535, q_div, q_rem2, z_mm, nI_clamp, Nat.reduceMul, Nat.reduceAdd, Nat.reduceSub, Nat.reducePow, Nat.reduceMod, Nat.reduceDiv, Nat.one_mul, nI_ltI, nI_leI, nI_eq, q_b0, q_b1, q_m1lt, q_m1le, q_ltm1, q_lem1, q_eqm1, q_m1eq, not_true_eq_false, not_false_eq_true, reduceCtorEq, *] <;> first | omega | decide) (w_some rfl)
  | succ r ih =>
    intro i k l b lf qd fa qu hi hk
    obtain ⟨k, rfl⟩ : ∃ k', k = k' + 1 := ⟨k - 1, by omega⟩
    have hi1 : nI i + (1 : Int32) = nI (i + 1) := by simp only [q_lit, nI_add]
    rw [f_Mo_gone_L44]
    refine w_F (by simp (disch := omega) only [q_lit, q_ofn, nI_add, q_mul, q_sub, q_shrm, q_shlm, q_a31s, q_a1, q_a3, q_a7, q_a65535, q_div, q_rem2, z_mm, nI_clamp, Nat.reduceMul, Nat.reduceAdd, Nat.reduceSub, Nat.reducePow, Nat.reduceMod, Nat.reduceDiv, Nat.one_mul, nI_ltI, nI_leI, nI_eq, q_b0, q_b1, q_m1lt, q_m1le, q_ltm1, q_lem1, q_eqm1, q_m1eq, not_true_eq_false, not_false_eq_true, reduceCtorEq, *] <;> first | omega | decide) ?_
    refine w_Be (m_has hv (by omega)) ?_
    rw [z_it_s]
    unfold z_gs z_gc
    unfold f_Mo_gone_J113 f_Mo_gone_J120
    cases hvb : v.testBit i with
    | true =>
      refine w_F (by decide) (w_Ln hi1 ?_)
      rw [if_neg (by simp)]
      exact ih (i + 1) k _ _ _ _ _ _ (by omega) (by omega)
    | false =>
      refine w_T rfl ?_
      refine w_Be (m_has (by omega) (by omega)) ?_
      cases hxb : x.testBit i with
      | false =>
        refine w_T rfl (w_Ln hi1 ?_)
        rw [if_neg (by simp)]
        exact ih (i + 1) k _ _ _ _ _ _ (by omega) (by omega)
      | true =>
        refine w_F (by decide) ?_
        rw [if_pos (by rfl), z_sh1 (by omega), z_clr]
        refine w_Bw (m_layAll ok hr (z_V_cl n1 (by omega)) (by omega)) ?_
        rintro ⟨u1, u2, u3, u4⟩ hq
        refine w_Be (m_few hP hM hq hv (by omega)) ?_
        by_cases f1 : z_few (z_F P M sp (2 ^ P - 1) 0 (z_clx x i)) v = -nI 1
        · refine w_T f1 (w_Ln hi1 ?_)
          rw [if_pos f1]
          exact ih (i + 1) k _ _ _ _ _ _ (by omega) (by omega)
        · refine w_F f1 ?_
          rw [if_neg f1]
          by_cases f2 : l = -nI 1
          · refine w_T f2 (w_Ln hi1 ?_)
            rw [if_pos f2]
            exact ih (i + 1) k _ _ _ _ _ _ (by omega) (by omega)
          · refine w_F f2 ?_
            rw [if_neg f2]
            by_cases f3 : l ≤ z_few (z_F P M sp (2 ^ P - 1) 0 (z_clx x i)) v
            · refine w_T f3 (w_Ln hi1 ?_)
              rw [if_pos f3]
              exact ih (i + 1) k _ _ _ _ _ _ (by omega) (by omega)
            · refine w_F f3 (w_Ln hi1 ?_)
              rw [if_neg f3]
              exact ih (i + 1) k _ _ _ _ _ _ (by omega) (by omega)
theorem z_nobit {P M x j : Nat} (h : z_V P M x) (h1 : M ≤ j) (h2 : j < 5) : x.testBit j = false := by
  have : (x % 2 ^ 5).testBit j = false := Nat.testBit_lt_two_pow (Nat.lt_of_lt_of_le h.2.1 (Nat.pow_le_pow_right (by decide) h1))
  rw [Nat.testBit_mod_two_pow, decide_eq_true h2, Bool.true_and] at this
  exact this
abbrev z19 : Type := Int32 × Nat × Nat × Int32 × Int32 × Int32 × Int32 × Int32 × Int32 × Int32 × Int32 × Int32 × Int32 × Int32 × Int32 × (Nat → Int64) × (Nat → Int64) × (Nat → Int64) × (Nat → Int64)
def z_19F (q : z19) : Nat × Int32 × Int32 × Int32 × Int32 × Int32 × Int32 × (Nat → Int64) × (Nat → Int64) := (q.2.1, q.2.2.2.1, q.2.2.2.2.1, q.2.2.2.2.2.1, q.2.2.2.2.2.2.1, q.2.2.2.2.2.2.2.1, q.2.2.2.2.2.2.2.2.1, q.2.2.2.2.2.2.2.2.2.2.2.2.2.2.2.1, q.2.2.2.2.2.2.2.2.2.2.2.2.2.2.2.2.1)
def z_19W (q : z19) : Nat × Int32 × Int32 × Int32 × Int32 × Int32 × Int32 × (Nat → Int64) × (Nat → Int64) := (q.2.2.1, q.2.2.2.2.2.2.2.2.2.1, q.2.2.2.2.2.2.2.2.2.2.1, q.2.2.2.2.2.2.2.2.2.2.2.1, q.2.2.2.2.2.2.2.2.2.2.2.2.1, q.2.2.2.2.2.2.2.2.2.2.2.2.2.1, q.2.2.2.2.2.2.2.2.2.2.2.2.2.2.1, q.2.2.2.2.2.2.2.2.2.2.2.2.2.2.2.2.2.1, q.2.2.2.2.2.2.2.2.2.2.2.2.2.2.2.2.2.2)
def z_s2 (P M : Nat) (sp : Nat → Nat → Nat) (q : z19) : Prop := i_len (z_19F q).1 ∧ z_SO P M sp (z_19F q) ∧ i_len (z_19W q).1 ∧ z_SO P M sp (z_19W q)
theorem p_gone {ns k : Nat} {ci : Nat → Int32} {cf : Nat → Nat → Int32} {cl : Nat → Nat → Int64} {cn : Nat → Nat} {mi : Nat → Int32} {mf : Nat → Nat → Int32} (hk : 200000 ≤ k) (h : z_inv ns ci cf cl cn mi mf) (p1 p2 : Int32) : wp (f_SS_gone k (cn 0) (cn 1) (ci 1) (ci 2) (ci 3) (ci 4) (ci 5) (ci 6) (ci 17) (ci 18) (ci 19) (ci 20) (ci 24) (ci 25) (ci 30) (ci 31) (ci 32) (ci 33) (ci 34) (ci 35) (cl 0) (cl 1) (cf 12) (cf 13) (cf 15) (cf 17) (cf 18) (cf 19) (cf 20) (cf 21) (cf 22) (cf 23) (cl 2) (cl 3) p1 p2) (fun q => wp (f_Mo_gone k (mi 5) (mi 6) (mi 7) (mi 9) (mi 12) (mf 0) (mf 8) (mf 11) p1 p2) (fun q' => q.1 = q'.1 ∧ z_inv ns (z_u (z_u (z_u (z_u (z_u (z_u (z_u (z_u (z_u (z_u (z_u (z_u ci 1 q.2.2.2.1) 2 q.2.2.2.2.1) 3 q.2.2.2.2.2.1) 4 q.2.2.2.2.2.2.1) 5 q.2.2.2.2.2.2.2.1) 6 q.2.2.2.2.2.2.2.2.1) 30 q.2.2.2.2.2.2.2.2.2.1) 31 q.2.2.2.2.2.2.2.2.2.2.1) 32 q.2.2.2.2.2.2.2.2.2.2.2.1) 33 q.2.2.2.2.2.2.2.2.2.2.2.2.1) 34 q.2.2.2.2.2.2.2.2.2.2.2.2.2.1) 35 q.2.2.2.2.2.2.2.2.2.2.2.2.2.2.1) cf (z_u (z_u (z_u (z_u cl 0 q.2.2.2.2.2.2.2.2.2.2.2.2.2.2.2.1) 1 q.2.2.2.2.2.2.2.2.2.2.2.2.2.2.2.2.1) 2 q.2.2.2.2.2.2.2.2.2.2.2.2.2.2.2.2.2.1) 3 q.2.2.2.2.2.2.2.2.2.2.2.2.2.2.2.2.2.2) (z_u (z_u cn 0 q.2.1) 1 q.2.2.1) (z_u (z_u mi 5 q'.2.1) 12 q'.2.2.1) (z_u (z_u mf 0 q'.2.2.2.1) 8 q'.2.2.2.2))) := by
  obtain ⟨c, n, S, x, d, hT, ok, hdr, hml, hRU, hN, hU, hK, hR, hQ, hY, hF, hW, hl1, hl2, hb⟩ := h
  have hPe : (ci 24) = nI S.1 := hdr.2.2.1; have hSp : (ci 25) = nI S.2.1 := hdr.2.2.2.1; have hmM : (mi 6) = nI S.2.1 := hml.1; have hmP : (mi 9) = nI S.1 := hml.2.1; have hP1 := ok.1.1; have hP3 := ok.1.2.1; have hM5 := ok.1.2.2.1
  have hr1 : (ci 18) = nI S.1 := hRU.1; have hr2 : (ci 19) = nI S.2.1 := hRU.2.1; have hdt := hRU.2.2.2.2; have hr3 : (ci 17) = nI (z_ds S.1).length := hdt.1; have hA := hRU.2.2.1; have hB := z_RB_of ok.1 hdt; have hrep := hml.2.2.2.2; have h8 := z_all8 hP3; obtain ⟨n1, n2, n3, n4, n5, n6⟩ := id hN
  rw [hSp, hPe, hmP, hmM, n3, n5, hr1, hr2, hr3]
  rcases z_set hM5 p1 with ⟨a1, a2⟩ | ⟨v, hv, hv2, rfl, a1, a2⟩
  · refine w_2 (r1 := (-2, (cn 0), (cn 1), (ci 1), (ci 2), (ci 3), (ci 4), (ci 5), (ci 6), (ci 30), (ci 31), (ci 32), (ci 33), (ci 34), (ci 35), (cl 0), (cl 1), (cl 2), (cl 3))) (r2 := (-2, (mi 5), (mi 12), (mf 0), (mf 8))) ?_ ?_ ⟨rfl, c, n, S, x, d, hT, ok, hdr, hml, hRU, hN, hU, hK, hR, hQ, hY, hF, hW, hl1, hl2, hb⟩
    · unfold f_SS_gone
      exact e_B a1 (e_T rfl rfl)
    · unfold f_Mo_gone
      exact e_B a2 (e_T rfl rfl)
  · rcases z_smal (p := p2) 2 (by decide) with hneg | ⟨w, hw, rfl⟩ | ⟨w, hw, hw', rfl⟩
    · refine w_2 (r1 := (-3, (cn 0), (cn 1), (ci 1), (ci 2), (ci 3), (ci 4), (ci 5), (ci 6), (ci 30), (ci 31), (ci 32), (ci 33), (ci 34), (ci 35), (cl 0), (cl 1), (cl 2), (cl 3))) (r2 := (-3, (mi 5), (mi 12), (mf 0), (mf 8))) ?_ ?_ ⟨rfl, c, n, S, x, d, hT, ok, hdr, hml, hRU, hN, hU, hK, hR, hQ, hY, hF, hW, hl1, hl2, hb⟩
      · unfold f_SS_gone
        exact e_B a1 (e_F (by decide) (e_T hneg rfl))
      · unfold f_Mo_gone
        exact e_B a2 (e_F (by decide) (e_B (m_inneg hneg (a := 0) (by decide) (lN 1)) (e_T rfl rfl)))
    · have hin := m_in0N (v := w) (b := 1) (by omega) (by decide)
      rw [decide_eq_true (by omega)] at hin
      obtain ⟨A, hA0⟩ : ∃ A, A = z_it (z_gs S.1 S.2.1 S.2.2.2.2 x v) S.2.1 0 (-nI 1, z_few (z_F S.1 S.2.1 S.2.2.2.2 (2 ^ S.1 - 1) 0 x) v) := ⟨_, rfl⟩
      have h5 : z_it (z_gs S.1 S.2.1 S.2.2.2.2 x v) 5 0 (-nI 1, z_few (z_F S.1 S.2.1 S.2.2.2.2 (2 ^ S.1 - 1) 0 x) v) = A := by
        rw [hA0]
        refine z_it_5 hM5 (fun j h1 h2 a => ?_) _
        unfold z_gs z_gc
        rw [z_nobit n1 h1 h2]
        rfl
      refine w_2w (R1 := fun q => q.1 = (if A.1 = -nI 1 then -nI 1 else if w = 0 then A.1 else A.2) ∧ z_s2 S.1 S.2.1 S.2.2.2.2 q) (R2 := fun q => q.1 = (if A.1 = -nI 1 then -nI 1 else if w = 0 then A.1 else A.2)) ?_ ?_ (fun q q' h1 h2 => ⟨h1.1.trans h2.symm, c, n, S, x, d, hT, ok, hdr, hml, hRU, hN, hU, hK, hR, hQ, hY, h1.2.2.1, h1.2.2.2.2, h1.2.1, h1.2.2.2.1, hb⟩)
      · unfold f_SS_gone
        refine w_Be a1 (w_F (by decide) (w_F (nI_pos (by omega)) (w_T (by simp (disch := omega) only [q_lit, q_ofn, nI_add, q_mul, q_sub, q_shrm, q_shlm, q_a31s, q_a1, q_a3, q_a7, q_a65535, q_div, q_rem2, z_mm, nI_clamp, Nat.reduceMul, Nat.reduceAdd, Nat.reduceSub, Nat.reducePow, Nat.reduceMod, Nat.reduceDiv, Nat.one_mul, nI_ltI, nI_leI, nI_eq, q_b0, q_b1, q_m1lt, q_m1le, q_ltm1, q_lem1, q_eqm1, q_m1eq, not_true_eq_false, not_false_eq_true, reduceCtorEq, *] <;> first | omega | decide) ?_)))
        refine w_Bw (q_from ok.1 hdt n1 (by omega) hF) ?_; rintro ⟨w1, w2, w3, w4, w5, w6, w7, w8, w9⟩ ⟨hg, hs⟩; refine w_G (z_gr_nlt hP3 hM5 hs) ?_
        refine w_Bw (q_few ok.1 hA hB (by decide) n1 (by omega) hs hv2) ?_
        rintro ⟨y, o1, o2, o3, o4⟩ ⟨e, hs2⟩
        have e : y = z_few (z_F S.1 S.2.1 S.2.2.2.2 (2 ^ S.1 - 1) 0 x) v := e
        rw [← e] at h5
        clear e
        refine w_Bw (s_gone_L ok.1 hA hdt n1 hv2 5 0 k _ _ _ _ _ _ _ _ _ _ _ (by omega) (by omega) hl2 hW) ?_
        rintro ⟨q1, q2, q3, q4, q5, q6, q7, q8, q9, q10, q11⟩ ⟨g1, g2, g3⟩
        have g1 : (q1, q2) = A := g1.trans h5
        have hs2' : z_s2 S.1 S.2.1 S.2.2.2.2 (0, w1, q3, w2, w3, o1, o2, w6, w7, q4, q5, q6, q7, q8, q9, o3, o4, q10, q11) := ⟨i_len_gr hP3 hM5 hg hl1, z_SO_of hs2 h8 (by decide) n1, g2, g3⟩
        rw [← g1]
        unfold f_SS_gone_J138
        by_cases f1 : q1 = -nI 1
        · refine w_T f1 (w_some ⟨?_, hs2'⟩)
          show q1 = if q1 = -nI 1 then -nI 1 else _
          rw [if_pos f1]; exact f1
        · refine w_F f1 ?_
          by_cases f2 : w = 0
          · subst f2
            refine w_T rfl (w_some ⟨?_, hs2'⟩)
            show q1 = if q1 = -nI 1 then -nI 1 else _
            rw [if_neg f1, if_pos rfl]
          · refine w_F (nI_ne0 (by omega) (by omega)) (w_some ⟨?_, hs2'⟩)
            show q2 = if q1 = -nI 1 then -nI 1 else _
            rw [if_neg f1, if_neg f2]
      · unfold f_Mo_gone
        refine w_Be a2 (w_F (by decide) (w_Be hin (w_F (by decide) ?_)))
        refine w_Bw (m_layAll ok.1 hrep n1 (by omega)) ?_
        rintro ⟨u1, u2, u3, u4⟩ hq
        refine w_Be (m_few hP3 hM5 hq hv2 (by omega)) ?_
        refine w_Bw (m_gone_L ok.1 hrep n1 hv2 S.2.1 0 k _ _ _ _ _ _ (by omega) (by omega)) ?_
        rintro ⟨q1, q2, q3, q4, q5, q6⟩ g1
        have g1 : (q2, q1) = A := g1.trans hA0.symm
        rw [← g1]
        by_cases f1 : q2 = -nI 1
        · refine w_T f1 (w_some ?_)
          show _ = if q2 = -nI 1 then -nI 1 else _
          rw [if_pos f1]; rfl
        · refine w_F f1 ?_
          by_cases f2 : w = 0
          · subst f2
            refine w_T rfl (w_some ?_)
            show q2 = if q2 = -nI 1 then -nI 1 else _
            rw [if_neg f1, if_pos rfl]
          · refine w_F (nI_ne0 (by omega) (by omega)) (w_some ?_)
            show q1 = if q2 = -nI 1 then -nI 1 else _
            rw [if_neg f1, if_neg f2]
    · have hin := m_in0N (v := w) (b := 1) (by omega) (by decide)
      rw [decide_eq_false (by omega)] at hin
      refine w_2 (r1 := (-3, (cn 0), (cn 1), (ci 1), (ci 2), (ci 3), (ci 4), (ci 5), (ci 6), (ci 30), (ci 31), (ci 32), (ci 33), (ci 34), (ci 35), (cl 0), (cl 1), (cl 2), (cl 3))) (r2 := (-3, (mi 5), (mi 12), (mf 0), (mf 8))) ?_ ?_ ⟨rfl, c, n, S, x, d, hT, ok, hdr, hml, hRU, hN, hU, hK, hR, hQ, hY, hF, hW, hl1, hl2, hb⟩
      · unfold f_SS_gone
        exact e_B a1 (e_F (by decide) (e_F (nI_pos (by omega)) (e_F (by simp (disch := omega) only [q_lit, q_ofn, nI_add, q_mul, q_sub, q_shrm, q_shlm, q_a31s, q_a1, q_a3, q_a7, q_a65535, q_div, q_rem2, z_mm, nI_clamp, Nat.reduceMul, Nat.reduceAdd, Nat.reduceSub, Nat.reducePow, Nat.reduceMod, Nat.reduceDiv, Nat.one_mul, nI_ltI, nI_leI, nI_eq, q_b0, q_b1, q_m1lt, q_m1le, q_ltm1, q_lem1, q_eqm1, q_m1eq, not_true_eq_false, not_false_eq_true, reduceCtorEq, *] <;> first | omega | decide) rfl)))
      · unfold f_Mo_gone
        exact e_B a2 (e_F (by decide) (e_B hin (e_T rfl rfl)))
