/-! the class's search: questions -/
def z_sk (P M : Nat) (sp : Nat → Nat → Nat) (who bar x0 n nF : Nat) (op size : Int32) (fo se : Nat → Int64) : Prop := op = nI n ∧ n ≤ (z_B P M sp who bar x0 n).length ∧ z_sr P M (z_B P M sp who bar x0 n) nF size fo se
abbrev z_F (P M : Nat) (sp : Nat → Nat → Nat) (who bar x0 : Nat) : List zE := z_B P M sp who bar x0 57344
theorem z_F_len {P M who bar x0 : Nat} {sp : Nat → Nat → Nat} (ok : z_ok P M sp) (h0 : z_V P M x0) (n : Nat) : (z_B P M sp who bar x0 n).length ≤ 57344 := Nat.le_trans (z_LI_len ok.2.1 ok.2.2.1 (z_LI_B ok h0 n)) (z_cap_le ok.2.1 ok.2.2.1)
theorem z_F_eq {P M who bar x0 n : Nat} {sp : Nat → Nat → Nat} (ok : z_ok P M sp) (h0 : z_V P M x0) (hn : (z_B P M sp who bar x0 n).length ≤ n) : z_B P M sp who bar x0 n = z_F P M sp who bar x0 := by
  have hl := z_F_len (who := who) (bar := bar) ok h0 n
  rcases Nat.le_total n 57344 with h | h
  · exact (z_bf_stable _ _ _ _ hn h).symm
  · refine z_bf_stable _ _ _ _ ?_ h
    exact z_F_len ok h0 57344
theorem z_F_at {P M who bar x0 n i : Nat} {sp : Nat → Nat → Nat} (ok : z_ok P M sp) (h0 : z_V P M x0) {e : zE} (h : (z_B P M sp who bar x0 n)[i]? = some e) : (z_F P M sp who bar x0)[i]? = some e := by
  have hi := z_at_lt h
  rcases Nat.le_total n 57344 with hn | hn
  · rw [z_bf_at _ _ _ _ hn hi]; exact h
  · have : z_B P M sp who bar x0 n = z_F P M sp who bar x0 := z_bf_stable _ _ _ _ (z_F_len ok h0 57344) hn
    rw [← this]; exact h
theorem z_sk_next {P M who bar x0 n nF : Nat} {sp : Nat → Nat → Nat} {size : Int32} {fo se : Nat → Int64} {e : zE} (he : (z_B P M sp who bar x0 n)[n]? = some e) (h : z_sr P M (z_op (z_st P M sp who bar) (z_dx P) e.1 n (e.2.2.2 + 1) (z_B P M sp who bar x0 n) (((z_ds P).drop 0).take ((z_ds P).length - 1 + 1 - 0))) nF size fo se) (hl : 0 < (z_ds P).length) : z_sk P M sp who bar x0 (n + 1) nF (nI (n + 1)) size fo se := by
  have e1 : ((z_ds P).drop 0).take ((z_ds P).length - 1 + 1 - 0) = z_ds P := by
    rw [List.drop_zero, List.take_of_length_le (by omega)]
  rw [e1] at h
  have e2 : z_B P M sp who bar x0 (n + 1) = z_op (z_st P M sp who bar) (z_dx P) e.1 n (e.2.2.2 + 1) (z_B P M sp who bar x0 n) (z_ds P) := by
    show z_bf _ _ _ _ (n + 1) = _
    rw [z_bf_succ, he]
  refine ⟨rfl, ?_, e2 ▸ h⟩
  have := (z_bf_pre1 (z_st P M sp who bar) (z_dx P) (z_ds P) x0 n).length_le
  have : n < (z_bf (z_st P M sp who bar) (z_dx P) (z_ds P) x0 n).length := z_at_lt he
  show n + 1 ≤ (z_bf _ _ _ _ (n + 1)).length
  omega
/-- where the first without the set is -/
def z_fr (F : List zE) (l set : Nat) (r : Int32) : Prop := (r = -nI 1 ∧ ∀ e ∈ F, e.1 &&& set ≠ 0) ∨ ∃ (p : Nat) (e : zE), r = nI p ∧ F[p]? = some e ∧ p < l ∧ e.1 &&& set = 0 ∧ ∀ (b : Nat) (f : zE), b < p → F[b]? = some f → f.1 &&& set ≠ 0
theorem s_first_L {P M who bar x0 nF : Nat} {sp : Nat → Nat → Nat} {ak ba bi ks kn mk so va wk : Nat → Int32} (ok : z_ok P M sp) (hA : z_RA M sp ak kn mk va wk) (hB : z_RB P M sp (z_ds P).length (z_dd P) ba bi ks so) (hbar : bar < 2 ^ 31) (h0 : z_V P M x0) {set : Nat} (hset : set < 2 ^ 31) : ∀ r i k n (op size : Int32) (fo se : Nat → Int64), i + r = 57344 → r + 31 < k → i ≤ n → z_sk P M sp who bar x0 n nF op size fo se → (∀ (b : Nat) (f : zE), b < i → (z_F P M sp who bar x0)[b]? = some f → f.1 &&& set ≠ 0) → wp (f_Se_firstWithout_L2 nF (nI (z_bm (z_by P who) (z_ds P).length)) (nI (z_ds P).length) (nI M) (nI bar) ak ba bi ks kn mk so va wk (nI set) k (nI i) op size fo se) (fun q => match q with
    | .inl (op', size', fo', se') => ∃ n', z_sk P M sp who bar x0 n' nF op' size' fo' se' ∧ ∀ e ∈ z_F P M sp who bar x0, e.1 &&& set ≠ 0
    | .inr (x, op', size', fo', se') => ∃ n', z_sk P M sp who bar x0 n' nF op' size' fo' se' ∧ z_fr (z_F P M sp who bar x0) (z_B P M sp who bar x0 n').length set x) := by
  have hP := ok.2.1
  have hM := ok.2.2.1
  have hl := z_ds_len ok.1 hP
  have done : ∀ i n (op size : Int32) (fo se : Nat → Int64), i ≤ n → (z_B P M sp who bar x0 n).length ≤ i → z_sk P M sp who bar x0 n nF op size fo se → (∀ (b : Nat) (f : zE), b < i → (z_F P M sp who bar x0)[b]? = some f → f.1 &&& set ≠ 0) → ∃ n', z_sk P M sp who bar x0 n' nF op size fo se ∧ ∀ e ∈ z_F P M sp who bar x0, e.1 &&& set ≠ 0 := by
    intro i n op size fo se hi hlen hk hf
    refine ⟨n, hk, ?_⟩
    intro e he
    obtain ⟨b, hb⟩ := List.getElem?_of_mem he
    have := z_at_lt hb
    rw [← z_F_eq (n := n) ok h0 (by omega)] at this
    exact hf b e (by omega) hb
  intro r
  induction r with
  | zero =>
    intro i k n op size fo se hi hk hin hs hf
    obtain ⟨k, rfl⟩ : ∃ k', k = k' + 1 := ⟨k - 1, by omega⟩
    obtain ⟨e1, e2, e3⟩ := id hs
    have hlen := z_F_len (who := who) (bar := bar) ok h0 n
    have hsz := e3.2.1
    rw [f_Se_firstWithout_L2, hsz]
    refine w_T (nI_le (by omega) (by omega)) (w_some ?_)
    rw [← hsz]
    exact done i n op size fo se hin (by omega) hs hf
  | succ r ih =>
    intro i k n op size fo se hi hk hin hs hf
    obtain ⟨k, rfl⟩ : ∃ k', k = k' + 1 := ⟨k - 1, by omega⟩
    obtain ⟨e1, e2, e3⟩ := id hs
    have hlen := z_F_len (who := who) (bar := bar) ok h0 n
    have hsz := e3.2.1
    rw [f_Se_firstWithout_L2, hsz]
    by_cases hend : (z_B P M sp who bar x0 n).length ≤ i
    · refine w_T (nI_le hend (by omega)) (w_some ?_)
      rw [← hsz]
      exact done i n op size fo se hin hend hs hf
    · refine w_F (nI_ge (by omega) (by omega)) ?_
      refine w_F (by simp (disch := omega) only [q_lit, q_ofn, nI_add, q_mul, q_sub, q_shrm, q_shlm, q_a31s, q_a1, q_a3, q_a7, q_a65535, q_div, q_rem2, z_mm, nI_clamp, Nat.reduceMul, Nat.reduceAdd, Nat.reduceSub, Nat.reducePow, Nat.reduceMod, Nat.reduceDiv, Nat.one_mul, nI_ltI, nI_leI, nI_eq, q_b0, q_b1, q_m1lt, q_m1le, q_ltm1, q_lem1, q_eqm1, q_m1eq, not_true_eq_false, not_false_eq_true, reduceCtorEq, *] <;> first | omega | decide) ?_
      have hil : i < (z_B P M sp who bar x0 n).length := by omega
      obtain ⟨e, he⟩ : ∃ e, (z_B P M sp who bar x0 n)[i]? = some e := ⟨_, List.getElem?_eq_getElem hil⟩
      obtain ⟨c1, c2, c3, c4, c5, c6, c7, c8, c9, c10⟩ := z_sr_pk hP hM e3 he
      refine w_Be (s_stateAt hP hM e3 he) ?_
      have hand : (nI e.1 &&& nI set = 0) ↔ e.1 &&& set = 0 := by
        rw [q_and, q_lit, nI_eq (Nat.lt_of_le_of_lt Nat.and_le_left (by omega)) (by decide)]
      by_cases hz : e.1 &&& set = 0
      · refine w_T (hand.mpr hz) (w_some ?_)
        rw [← hsz]
        exact ⟨n, hs, Or.inr ⟨i, e, rfl, z_F_at ok h0 he, hil, hz, hf⟩⟩
      · refine w_F (fun z => hz (hand.mp z)) ?_
        have hf' : ∀ (b : Nat) (f : zE), b < i + 1 → (z_F P M sp who bar x0)[b]? = some f → f.1 &&& set ≠ 0 := by
          intro b f hb hbf
          by_cases hbi : b = i
          · subst hbi
            have := z_F_at ok h0 he
            rw [this] at hbf
            cases hbf
            exact hz
          · exact hf b f (by omega) hbf
        unfold f_Se_firstWithout_J49
        by_cases hio : i < n
        · refine w_T (by rw [e1]; exact nI_lt hio (by omega)) ?_
          refine w_Ln (w := nI (i + 1)) (by first | (with_reducible rfl) | (simp (disch := omega) only [q_lit, q_ofn, nI_add, q_mul, q_sub, q_shrm, q_shlm, q_a31s, q_a1, q_a3, q_a7, q_a65535, q_div, q_rem2, z_mm, nI_clamp, Nat.reduceMul, Nat.reduceAdd, Nat.reduceSub, Nat.reducePow, Nat.reduceMod, Nat.reduceDiv, Nat.one_mul]; done) | (simp (disch := omega) only [q_lit, q_ofn, nI_add, q_mul, q_sub, q_shrm, q_shlm, q_a31s, q_a1, q_a3, q_a7, q_a65535, q_div, q_rem2, z_mm, nI_clamp, Nat.reduceMul, Nat.reduceAdd, Nat.reduceSub, Nat.reducePow, Nat.reduceMod, Nat.reduceDiv, Nat.one_mul]; with_reducible rfl)) ?_
          rw [← hsz]
          exact ih (i + 1) k n op size fo se (by omega) (by omega) (by omega) hs hf'
        · have hni : i = n := by omega
          subst hni
          refine w_F (by rw [e1]; exact nI_nlt (Nat.le_refl _) (by omega)) ?_
          unfold f_Ru_nightDeed
          refine w_Be (q := nI ((z_ds P).length - 1)) (by rw [show (1 : Int32) = nI 1 from rfl, q_sub (by omega)]) ?_
          rw [← hsz]
          refine w_Bw (s_open (a := 0) (b := (z_ds P).length - 1) ok hA hB hbar (by omega) (by omega) (by omega) he e3) (fun q hq => ?_)
          obtain ⟨q1, q2, q3, q4⟩ := q
          obtain ⟨g1, g2⟩ := hq
          simp only at g1 g2
          subst g1
          refine w_Ln (w := nI (i + 1)) (by first | (with_reducible rfl) | (simp (disch := omega) only [q_lit, q_ofn, nI_add, q_mul, q_sub, q_shrm, q_shlm, q_a31s, q_a1, q_a3, q_a7, q_a65535, q_div, q_rem2, z_mm, nI_clamp, Nat.reduceMul, Nat.reduceAdd, Nat.reduceSub, Nat.reducePow, Nat.reduceMod, Nat.reduceDiv, Nat.one_mul]; done) | (simp (disch := omega) only [q_lit, q_ofn, nI_add, q_mul, q_sub, q_shrm, q_shlm, q_a31s, q_a1, q_a3, q_a7, q_a65535, q_div, q_rem2, z_mm, nI_clamp, Nat.reduceMul, Nat.reduceAdd, Nat.reduceSub, Nat.reducePow, Nat.reduceMod, Nat.reduceDiv, Nat.one_mul]; with_reducible rfl)) ?_
          exact ih (i + 1) k (i + 1) _ _ _ _ (by omega) (by omega) (Nat.le_refl _) (z_sk_next he g2 (by omega)) hf'
theorem s_first {P M who bar x0 nF : Nat} {sp : Nat → Nat → Nat} {ak ba bi ks kn mk so va wk : Nat → Int32} (ok : z_ok P M sp) (hA : z_RA M sp ak kn mk va wk) (hB : z_RB P M sp (z_ds P).length (z_dd P) ba bi ks so) (hbar : bar < 2 ^ 31) (h0 : z_V P M x0) {set n k : Nat} {op size : Int32} {fo se : Nat → Int64} (hset : set < 2 ^ 31) (hk : 60000 ≤ k) (hs : z_sk P M sp who bar x0 n nF op size fo se) : wp (f_Se_firstWithout k nF (nI (z_bm (z_by P who) (z_ds P).length)) op (nI (z_ds P).length) (nI M) size (nI bar) fo ak ba bi ks kn mk so va wk se (nI set)) (fun q => ∃ n', z_sk P M sp who bar x0 n' nF q.2.1 q.2.2.1 q.2.2.2.1 q.2.2.2.2 ∧ z_fr (z_F P M sp who bar x0) (z_B P M sp who bar x0 n').length set q.1) := by
  unfold f_Se_firstWithout
  refine w_Sw (s_first_L ok hA hB hbar h0 hset 57344 0 k n op size fo se (by omega) (by omega) (by omega) hs (fun b f hb => by omega)) ?_ ?_
  · intro q hq
    obtain ⟨q1, q2, q3, q4⟩ := q
    obtain ⟨n', h1, h2⟩ := hq
    exact w_some ⟨n', h1, Or.inl ⟨rfl, h2⟩⟩
  · intro q hq
    obtain ⟨q1, q2, q3, q4, q5⟩ := q
    exact w_some hq
/-- how far the first without the set is -/
def z_few (F : List zE) (set : Nat) : Int32 := match F.find? (fun e => decide (e.1 &&& set = 0)) with
  | some e => nI e.2.2.2
  | none => -nI 1
theorem z_find {F : List zE} {c : zE → Bool} : ∀ {p : Nat} {e : zE}, F[p]? = some e → c e = true → (∀ (b : Nat) (f : zE), b < p → F[b]? = some f → c f = false) → F.find? c = some e := by
  induction F with
  | nil => intro p e h; simp at h
  | cons g F ih =>
    intro p e h hc hf
    cases p with
    | zero =>
      simp only [List.getElem?_cons_zero, Option.some.injEq] at h
      subst h
      rw [List.find?_cons_of_pos hc]
    | succ p =>
      have hg := hf 0 g (by omega) rfl
      rw [List.find?_cons_of_neg (by rw [hg]; decide)]
      exact ih (by simpa using h) hc (fun b f hb hbf => hf (b + 1) f (by omega) (by simpa using hbf))
theorem z_few_some {F : List zE} {set p : Nat} {e : zE} (h : F[p]? = some e) (hz : e.1 &&& set = 0) (hf : ∀ (b : Nat) (f : zE), b < p → F[b]? = some f → f.1 &&& set ≠ 0) : z_few F set = nI e.2.2.2 := by
  unfold z_few
  rw [z_find h (decide_eq_true hz) (fun b f hb hbf => decide_eq_false (hf b f hb hbf))]
theorem z_few_none {F : List zE} {set : Nat} (h : ∀ e ∈ F, e.1 &&& set ≠ 0) : z_few F set = -nI 1 := by
  unfold z_few
  rw [List.find?_eq_none.mpr (fun e he => by simpa using h e he)]
theorem s_few {P M who bar x0 nF : Nat} {sp : Nat → Nat → Nat} {ak ba bi ks kn mk so va wk : Nat → Int32} (ok : z_ok P M sp) (hA : z_RA M sp ak kn mk va wk) (hB : z_RB P M sp (z_ds P).length (z_dd P) ba bi ks so) (hbar : bar < 2 ^ 31) (h0 : z_V P M x0) {set n k : Nat} {op size : Int32} {fo se : Nat → Int64} (hset : set < 2 ^ 31) (hk : 60000 ≤ k) (hs : z_sk P M sp who bar x0 n nF op size fo se) : wp (f_Se_fewestWithout k nF (nI (z_bm (z_by P who) (z_ds P).length)) op (nI (z_ds P).length) (nI M) size (nI bar) fo ak ba bi ks kn mk so va wk se (nI set)) (fun q => q.1 = z_few (z_F P M sp who bar x0) set ∧ ∃ n', z_sk P M sp who bar x0 n' nF q.2.1 q.2.2.1 q.2.2.2.1 q.2.2.2.2) := by
  unfold f_Se_fewestWithout
  refine w_Bw (s_first ok hA hB hbar h0 hset hk hs) (fun q hq => ?_)
  obtain ⟨q1, q2, q3, q4, q5⟩ := q
  obtain ⟨n', h1, h2⟩ := hq
  simp only at h1 h2
  rcases h2 with ⟨rfl, h2⟩ | ⟨p, e, rfl, h2, h3, h4, h5⟩
  · refine w_T rfl (w_some ⟨(z_few_none h2).symm, n', h1⟩)
  · have hp : p < 57344 := Nat.lt_of_lt_of_le h3 (z_F_len ok h0 n')
    refine w_F (fun z => (q_eqm1 (by omega)).mp z) ?_
    obtain ⟨e', he'⟩ : ∃ e', (z_B P M sp who bar x0 n')[p]? = some e' := ⟨_, List.getElem?_eq_getElem h3⟩
    have := z_F_at ok h0 he'
    rw [this] at h2
    cases h2
    refine w_Be (s_distanceAt ok.2.1 ok.2.2.1 h1.2.2 he') ?_
    exact w_some ⟨(z_few_some this h4 h5).symm, n', h1⟩
