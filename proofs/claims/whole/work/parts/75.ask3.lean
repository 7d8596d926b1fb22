/-! the class's search: the way; beginning -/
theorem z_up_pre {L F : List zE} {p : Nat} (h : ∀ (i : Nat) (e : zE), L[i]? = some e → F[i]? = some e) : ∀ k, (∀ j, j < k → ∃ e, L[z_up L p j]? = some e) → z_up F p k = z_up L p k := by
  intro k
  induction k with
  | zero => intro _; rfl
  | succ k ih =>
    intro hj
    have e1 := ih (fun j hj2 => hj j (by omega))
    obtain ⟨e, he⟩ := hj k (by omega)
    simp only [z_up, e1, he, h _ _ he]
theorem s_deedTo_L {P M nF p last i : Nat} {st' : Nat → Nat → Option Nat} {dx : Nat → Nat} {Ds : List Nat} {L : List zE} {size : Int32} {fo se : Nat → Int64} {op da c M' unl : Int32} {ak ba bi ks kn mk so va wk : Nat → Int32} {e : zE} (hP : P ≤ 3) (hM : M ≤ 5) (hs : z_sr P M L nF size fo se) (h1 : z_I1 st' dx Ds L) (hp : L[p]? = some e) (hl : e.2.2.2 = last) (hll : last < 57344) : ∀ r j k, j + r + i + 1 = last → r < k → f_Se_deedTo_L31 nF da op c M' size unl fo ak ba bi ks kn mk so va wk se (nI i) k (nI (z_up L p j)) (nI (i + r)) = some (nI (z_up L p (j + r))) := by
  intro r
  induction r with
  | zero =>
    intro j k hi hk
    obtain ⟨k, rfl⟩ : ∃ k', k = k' + 1 := ⟨k - 1, by omega⟩
    rw [f_Se_deedTo_L31]
    exact e_T (nI_le (by omega) (by omega)) rfl
  | succ r ih =>
    intro j k hi hk
    obtain ⟨k, rfl⟩ : ∃ k', k = k' + 1 := ⟨k - 1, by omega⟩
    obtain ⟨x, d, f, hx⟩ := z_up_at h1 hp hl j (by omega)
    rw [f_Se_deedTo_L31]
    refine e_F (by simp (disch := omega) only [q_lit, q_ofn, nI_add, q_mul, q_sub, q_shrm, q_shlm, q_a31s, q_a1, q_a3, q_a7, q_a65535, q_div, q_rem2, z_mm, nI_clamp, Nat.reduceMul, Nat.reduceAdd, Nat.reduceSub, Nat.reducePow, Nat.reduceMod, Nat.reduceDiv, Nat.one_mul, nI_ltI, nI_leI, nI_eq, q_b0, q_b1, q_m1lt, q_m1le, q_ltm1, q_lem1, q_eqm1, q_m1eq, not_true_eq_false, not_false_eq_true, reduceCtorEq, *] <;> first | omega | decide) ?_
    rw [s_fromAt hP hM hs hx, q_B]
    refine e_L ?_
    have e1 : z_up L p (j + 1) = f := by simp only [z_up, hx]
    have e2 : nI (i + (r + 1)) + (-1 : Int32) = nI (i + r) := pk_m1 (i + r)
    rw [e2]
    have := ih (j + 1) k (by omega) (by omega)
    rw [e1, show j + 1 + r = j + (r + 1) by omega] at this
    exact this
/-- what deedTo answers: of the chain to the first without the set -/
def z_dto (F : List zE) (set i : Nat) (r : Int32) : Prop := ((r = -nI 1) ∧ ((∀ e ∈ F, e.1 &&& set ≠ 0) ∨ ∃ (p : Nat) (e : zE), F[p]? = some e ∧ e.1 &&& set = 0 ∧ (∀ (b : Nat) (f : zE), b < p → F[b]? = some f → f.1 &&& set ≠ 0) ∧ e.2.2.2 ≤ i)) ∨ ∃ (p : Nat) (e g : zE), F[p]? = some e ∧ e.1 &&& set = 0 ∧ (∀ (b : Nat) (f : zE), b < p → F[b]? = some f → f.1 &&& set ≠ 0) ∧ i < e.2.2.2 ∧ F[z_up F p (e.2.2.2 - 1 - i)]? = some g ∧ r = nI g.2.1
theorem s_deedTo {P M who bar x0 nF : Nat} {sp : Nat → Nat → Nat} {ak ba bi ks kn mk so va wk : Nat → Int32} (ok : z_ok P M sp) (hA : z_RA M sp ak kn mk va wk) (hB : z_RB P M sp (z_ds P).length (z_dd P) ba bi ks so) (hbar : bar < 2 ^ 31) (h0 : z_V P M x0) {set i n k : Nat} {op size : Int32} {fo se : Nat → Int64} (hset : set < 2 ^ 31) (hi : i < 2 ^ 31) (hk : 60000 ≤ k) (hs : z_sk P M sp who bar x0 n nF op size fo se) : wp (f_Se_deedTo k nF (nI (z_bm (z_by P who) (z_ds P).length)) op (nI (z_ds P).length) (nI M) size (nI bar) fo ak ba bi ks kn mk so va wk se (nI set) (nI i)) (fun q => z_dto (z_F P M sp who bar x0) set i q.1 ∧ ∃ n', z_sk P M sp who bar x0 n' nF q.2.1 q.2.2.1 q.2.2.2.1 q.2.2.2.2) := by
  have hP := ok.2.1
  have hM := ok.2.2.1
  unfold f_Se_deedTo
  refine w_Bw (s_first ok hA hB hbar h0 hset hk hs) (fun q hq => ?_)
  obtain ⟨q1, q2, q3, q4, q5⟩ := q
  obtain ⟨n', h1, h2⟩ := hq
  simp only at h1 h2
  rcases h2 with ⟨rfl, h2⟩ | ⟨p, e, rfl, h2, h3, h4, h5⟩
  · refine w_T rfl (w_some ⟨Or.inl ⟨rfl, Or.inl h2⟩, n', h1⟩)
  · have hp : p < 57344 := Nat.lt_of_lt_of_le h3 (z_F_len ok h0 n')
    refine w_F (fun z => (q_eqm1 (by omega)).mp z) ?_
    obtain ⟨e', he'⟩ : ∃ e', (z_B P M sp who bar x0 n')[p]? = some e' := ⟨_, List.getElem?_eq_getElem h3⟩
    have hFp := z_F_at ok h0 he'
    rw [hFp] at h2
    cases h2
    obtain ⟨c1, c2, c3, c4, c5, c6, c7, c8, c9, c10⟩ := z_sr_pk hP hM h1.2.2 he'
    have I1 := (z_bf_I (z_st P M sp who bar) (z_dx P) (z_ds P) x0 n').1
    refine w_Be (s_distanceAt hP hM h1.2.2 he') ?_
    by_cases hid : i < e.2.2.2
    · refine w_T (nI_lt hid (by omega)) ?_
      refine w_Be (s_distanceAt hP hM h1.2.2 he') ?_
      refine w_Ln (w := nI (e.2.2.2 - 1)) (by rw [show (1 : Int32) = nI 1 from rfl, q_sub (by omega)]) ?_
      have g := s_deedTo_L (op := q2) (da := nI (z_bm (z_by P who) (z_ds P).length)) (c := nI (z_ds P).length) (M' := nI M) (unl := nI bar) (ak := ak) (ba := ba) (bi := bi) (ks := ks) (kn := kn) (mk := mk) (so := so) (va := va) (wk := wk) (i := i) hP hM h1.2.2 I1 he' rfl c7 (e.2.2.2 - 1 - i) 0 k (by omega) (by omega)
      rw [show i + (e.2.2.2 - 1 - i) = e.2.2.2 - 1 by omega, show 0 + (e.2.2.2 - 1 - i) = e.2.2.2 - 1 - i by omega] at g
      refine w_Be g ?_
      obtain ⟨x, d, f, hx⟩ := z_up_at I1 he' rfl (e.2.2.2 - 1 - i) (by omega)
      refine w_Be (s_deedAt hP hM h1.2.2 hx) ?_
      refine w_some ⟨Or.inr ⟨p, e, (x, d, f, e.2.2.2 - (e.2.2.2 - 1 - i)), hFp, h4, h5, hid, ?_, rfl⟩, n', h1⟩
      have e3 : z_up (z_F P M sp who bar x0) p (e.2.2.2 - 1 - i) = z_up (z_B P M sp who bar x0 n') p (e.2.2.2 - 1 - i) := by
        refine z_up_pre (fun j f hj => z_F_at ok h0 hj) _ ?_
        intro j hj
        obtain ⟨x, d, f, hx⟩ := z_up_at I1 he' rfl j (by omega)
        exact ⟨_, hx⟩
      rw [e3]
      exact z_F_at ok h0 hx
    · refine w_F (nI_nlt (by omega) (by omega)) ?_
      exact w_some ⟨Or.inl ⟨rfl, Or.inr ⟨p, e, hFp, h4, h5, by omega⟩⟩, n', h1⟩
/-! beginning -/
theorem t_fillJ_L {n : Nat} {v : Int64} (hn : n < 2 ^ 31) : ∀ r i k (f : Nat → Int64), i + r = n → r < k → (∀ j, j < i → f j = v) → wp (f_fillJ_L6 n v (nI n) k (nI i) f) (fun g => ∀ j, j < n → g j = v) := by
  intro r
  induction r with
  | zero =>
    intro i k f hi hk hf
    obtain ⟨k, rfl⟩ : ∃ k', k = k' + 1 := ⟨k - 1, by omega⟩
    rw [f_fillJ_L6]
    refine w_T (nI_le (by omega) (by omega)) ?_
    exact w_some (fun j hj => hf j (by omega))
  | succ r ih =>
    intro i k f hi hk hf
    obtain ⟨k, rfl⟩ : ∃ k', k = k' + 1 := ⟨k - 1, by omega⟩
    rw [f_fillJ_L6]
    refine w_F (by simp (disch := omega) only [q_lit, q_ofn, nI_add, q_mul, q_sub, q_shrm, q_shlm, q_a31s, q_a1, q_a3, q_a7, q_a65535, q_div, q_rem2, z_mm, nI_clamp, Nat.reduceMul, Nat.reduceAdd, Nat.reduceSub, Nat.reducePow, Nat.reduceMod, Nat.reduceDiv, Nat.one_mul, nI_ltI, nI_leI, nI_eq, q_b0, q_b1, q_m1lt, q_m1le, q_ltm1, q_lem1, q_eqm1, q_m1eq, not_true_eq_false, not_false_eq_true, reduceCtorEq, *] <;> first | omega | decide) ?_
    refine w_C (i := i) rfl (by omega) hn ?_
    refine w_Ln (w := nI (i + 1)) (by first | (with_reducible rfl) | (simp (disch := omega) only [q_lit, q_ofn, nI_add, q_mul, q_sub, q_shrm, q_shlm, q_a31s, q_a1, q_a3, q_a7, q_a65535, q_div, q_rem2, z_mm, nI_clamp, Nat.reduceMul, Nat.reduceAdd, Nat.reduceSub, Nat.reducePow, Nat.reduceMod, Nat.reduceDiv, Nat.one_mul]; done) | (simp (disch := omega) only [q_lit, q_ofn, nI_add, q_mul, q_sub, q_shrm, q_shlm, q_a31s, q_a1, q_a3, q_a7, q_a65535, q_div, q_rem2, z_mm, nI_clamp, Nat.reduceMul, Nat.reduceAdd, Nat.reduceSub, Nat.reducePow, Nat.reduceMod, Nat.reduceDiv, Nat.one_mul]; with_reducible rfl)) ?_
    refine ih (i + 1) k _ (by omega) (by omega) ?_
    intro j hj
    rw [nI_clamp (by omega)]
    by_cases h : j = i
    · subst h; exact pk_uLs
    · rw [pk_uLn h]; exact hf j (by omega)
theorem t_fillJ {n k : Nat} {v : Int64} {f : Nat → Int64} (hn : n < 2 ^ 31) (hk : n < k) : wp (f_fillJ k n f v) (fun g => ∀ j, j < n → g j = v) := by
  unfold f_fillJ
  refine w_L ?_
  rw [q_ofn]
  exact w_Bw (t_fillJ_L hn n 0 k f (by omega) hk (fun j hj => by omega)) (fun g hg => w_some hg)
theorem t_most {P M : Nat} (hP : P ≤ 3) (hM : M ≤ 5) : f_Ru_mostStates (nI P) (nI M) = some (nI (z_cap P M)) := by
  have hc := z_cap_le hP hM
  have h1 : 1 ≤ z_cap P M := by unfold z_cap; have := Nat.two_pow_pos (P + M); omega
  unfold f_Ru_mostStates
  refine e_L ?_
  have e : (224 : Int32) <<< ((nI P + nI M) &&& 31) = nI (z_cap P M) := by
    rw [nI_add, show (31 : Int32) = nI 31 from rfl, show (224 : Int32) = nI 224 from rfl, q_a31s (by omega), q_shlm (by omega)]
    rfl
  rw [e]
  refine e_F (by simp (disch := omega) only [q_lit, nI_ltI]; omega) ?_
  refine e_T (by simp (disch := omega) only [q_lit, nI_leI]; omega) rfl
theorem t_mostN {P M : Nat} (hP : P ≤ 3) (hM : M ≤ 5) : mostN (nI P) (nI M) = z_cap P M := by
  have hc := z_cap_le hP hM
  unfold mostN
  rw [t_most hP hM]
  exact nI_clamp (by omega)
/-- a search as it stands for a question: found's length, deedsAllowed, doers, opened, size, start, unlifted, found, seen -/
def z_SK (P M : Nat) (sp : Nat → Nat → Nat) (who bar x0 : Nat) (q : Nat × Int32 × Int32 × Int32 × Int32 × Int32 × Int32 × (Nat → Int64) × (Nat → Int64)) : Prop := q.2.1 = nI (z_bm (z_by P who) (z_ds P).length) ∧ q.2.2.1 = nI who ∧ q.2.2.2.2.2.1 = nI x0 ∧ q.2.2.2.2.2.2.1 = nI bar ∧ ∃ n, z_sk P M sp who bar x0 n q.1 q.2.2.2.1 q.2.2.2.2.1 q.2.2.2.2.2.2.2.1 q.2.2.2.2.2.2.2.2
def z_SO (P M : Nat) (sp : Nat → Nat → Nat) (q : Nat × Int32 × Int32 × Int32 × Int32 × Int32 × Int32 × (Nat → Int64) × (Nat → Int64)) : Prop := q.1 ≤ 57344 ∧ (q.2.2.2.2.2.1 = -nI 1 ∨ ∃ who bar x0, who < 8 ∧ bar < 32 ∧ z_V P M x0 ∧ z_SK P M sp who bar x0 q)
/-- found's length over a question -/
def z_gr (P M n n' : Nat) : Prop := n' = if n < z_cap P M then z_cap P M else n
theorem s_begin_J {P M who bar x0 k nF : Nat} {sp : Nat → Nat → Nat} {c : Int32} {ba bi dr ks so wh : Nat → Int32} {op size st da dn un : Int32} {fo se : Nat → Int64} (ok : z_ok P M sp) (h : z_dt M sp (z_ds P) (c, ba, bi, dr, ks, so, wh)) (h0 : z_V P M x0) (hw : who < 2 ^ 31) (hk : 1000 ≤ k) (hc : z_cap P M ≤ nF) (hn : nF ≤ 57344) : wp (f_Se_begin_J28 k nF da dn op (nI (z_ds P).length) (nI P) (nI M) size st un fo dr se (nI x0) (nI who) (nI bar)) (fun q => q.1 = nF ∧ z_SK P M sp who bar x0 q ∧ z_sk P M sp who bar x0 0 q.1 q.2.2.2.1 q.2.2.2.2.1 q.2.2.2.2.2.2.2.1 q.2.2.2.2.2.2.2.2) := by
  have hP := ok.2.1
  have hM := ok.2.2.1
  unfold f_Se_begin_J28
  refine w_Bw (t_fillJ (by decide) (by omega)) (fun se0 hse => ?_)
  refine w_Be (s_deedsBy ok.1 hP h hw (by omega)) ?_
  have hs0 : z_sr P M [] nF (nI 0) fo se0 := by
    refine ⟨⟨by simp [z_ss], fun i e he => by simp at he⟩, rfl, hc, hn, fun i e he => by simp at he, ?_⟩
    intro w hw
    refine ⟨0, by decide, hse w hw, ?_⟩
    intro j hj
    simp [z_ss]
  refine w_Bw (s_add (y := x0) (d := 0) (n := 0) (t := 0) hP hM hs0 h0 (by decide) (by decide) (by decide)) (fun q hq => ?_)
  obtain ⟨q1, q2, q3⟩ := q
  suffices hz : z_sk P M sp who bar x0 0 nF (nI 0) q1 q2 q3 from w_some ⟨rfl, ⟨rfl, rfl, rfl, rfl, 0, hz⟩, hz⟩
  refine ⟨rfl, Nat.zero_le _, ?_⟩
  have : z_put [] (x0, 0, 0, 0) = z_B P M sp who bar x0 0 := by
    unfold z_put
    rw [if_neg (by simp [z_ss])]
    rfl
  rw [← this]
  exact hq
theorem s_begin {P M who bar x0 k nF : Nat} {sp : Nat → Nat → Nat} {c : Int32} {ba bi dr ks so wh : Nat → Int32} {op size st da dn un : Int32} {fo se : Nat → Int64} (ok : z_ok P M sp) (h : z_dt M sp (z_ds P) (c, ba, bi, dr, ks, so, wh)) (h0 : z_V P M x0) (hw : who < 2 ^ 31) (hk : 1000 ≤ k) (hn : nF ≤ 57344) : wp (f_Se_begin k nF da dn op (nI (z_ds P).length) (nI P) (nI M) size st un fo dr se (nI x0) (nI who) (nI bar)) (fun q => z_gr P M nF q.1 ∧ z_SK P M sp who bar x0 q ∧ z_sk P M sp who bar x0 0 q.1 q.2.2.2.1 q.2.2.2.2.1 q.2.2.2.2.2.2.2.1 q.2.2.2.2.2.2.2.2) := by
  have hP := ok.2.1
  have hM := ok.2.2.1
  have hc := z_cap_le hP hM
  unfold f_Se_begin
  refine w_Be (t_most hP hM) ?_
  rw [q_ofn]
  by_cases hl : z_cap P M ≤ nF
  · refine w_T (by simp (disch := omega) only [nI_leI]; exact hl) ?_
    refine w_mono (s_begin_J ok h h0 hw hk hl hn) (fun q hq => ⟨?_, hq.2⟩)
    unfold z_gr
    rw [if_neg (by omega)]
    exact hq.1
  · refine w_F (by simp (disch := omega) only [nI_leI]; exact hl) ?_
    refine w_Be (t_most hP hM) ?_
    rw [nI_clamp (by omega)]
    refine w_G ⟨by simp (disch := omega) only [q_lit, q_ofn, nI_add, q_mul, q_sub, q_shrm, q_shlm, q_a31s, q_a1, q_a3, q_a7, q_a65535, q_div, q_rem2, z_mm, nI_clamp, Nat.reduceMul, Nat.reduceAdd, Nat.reduceSub, Nat.reducePow, Nat.reduceMod, Nat.reduceDiv, Nat.one_mul, nI_ltI, nI_leI, nI_eq, q_b0, q_b1, q_m1lt, q_m1le, q_ltm1, q_lem1, q_eqm1, q_m1eq, not_true_eq_false, not_false_eq_true, reduceCtorEq, *] <;> first | omega | decide, hc, by omega⟩ ?_
    refine w_mono (s_begin_J ok h h0 hw hk (Nat.le_refl _) hc) (fun q hq => ⟨?_, hq.2⟩)
    unfold z_gr
    rw [if_pos (by omega)]
    exact hq.1
theorem z_sk_cap {P M who bar x0 : Nat} {sp : Nat → Nat → Nat} {q : Nat × Int32 × Int32 × Int32 × Int32 × Int32 × Int32 × (Nat → Int64) × (Nat → Int64)} (h : z_SK P M sp who bar x0 q) : z_cap P M ≤ q.1 ∧ q.1 ≤ 57344 := by
  obtain ⟨_, _, _, _, n, h⟩ := h
  exact ⟨h.2.2.2.2.1, h.2.2.2.2.2.1⟩
theorem s_ask {P M who bar x0 k nF : Nat} {sp : Nat → Nat → Nat} {c : Int32} {ba bi dr ks so wh : Nat → Int32} {op size st da dn un : Int32} {fo se : Nat → Int64} (ok : z_ok P M sp) (h : z_dt M sp (z_ds P) (c, ba, bi, dr, ks, so, wh)) (h0 : z_V P M x0) (hw : who < 8) (hb : bar < 32) (hk : 1000 ≤ k) (hq : z_SO P M sp (nF, da, dn, op, size, st, un, fo, se)) : wp (f_Se_ask k nF da dn op (nI (z_ds P).length) (nI P) (nI M) size st un fo dr se (nI x0) (nI who) (nI bar)) (fun q => z_gr P M nF q.1 ∧ z_SK P M sp who bar x0 q) := by
  have hP := ok.2.1
  have hM := ok.2.2.1
  have h01 := h0.1
  have J : wp (f_Se_ask_J24 k nF da dn op (nI (z_ds P).length) (nI P) (nI M) size st un fo dr se (nI x0) (nI who) (nI bar)) (fun q => z_gr P M nF q.1 ∧ z_SK P M sp who bar x0 q) := by
    unfold f_Se_ask_J24
    refine w_Bw (s_begin ok h h0 (by omega) hk hq.1) (fun q hq => ?_)
    obtain ⟨q1, q2, q3, q4, q5, q6, q7, q8, q9⟩ := q
    refine w_G (by rw [t_mostN hP hM]; have := (z_sk_cap hq.2.1).1; simp only at this; omega) (w_some ⟨hq.1, hq.2.1⟩)
  unfold f_Se_ask
  refine w_if (fun e1 => ?_) (fun _ => J)
  refine w_if (fun e2 => ?_) (fun _ => J)
  refine w_if (fun e3 => ?_) (fun _ => J)
  obtain ⟨hq1, hq2⟩ := hq
  rcases hq2 with hq2 | ⟨who', bar', x0', a1, a2, a3, a4⟩
  · simp only at hq2
    exact ((q_eqm1 (by omega)).mp (e1.symm.trans hq2)).elim
  · have hc := (z_sk_cap a4).1
    obtain ⟨b1, b2, b3, b4, b5⟩ := id a4
    simp only at b1 b2 b3 b4 hc
    have a31 := a3.1
    have f1 : x0' = x0 := (nI_eq (by omega) (by omega)).mp (b3.symm.trans e1)
    have f2 : who' = who := (nI_eq (by omega) (by omega)).mp (b2.symm.trans e2)
    have f3 : bar' = bar := (nI_eq (by omega) (by omega)).mp (b4.symm.trans e3)
    subst f1; subst f2; subst f3
    refine w_some ⟨?_, a4⟩
    unfold z_gr
    rw [if_neg (by omega)]
