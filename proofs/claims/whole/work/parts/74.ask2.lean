/-! the class's search: more questions -/
def z_and (L : List zE) (a : Nat) : Nat := L.foldl (fun a e => a &&& e.1) a
theorem z_and_0 (L : List zE) : z_and L 0 = 0 := by
  induction L with
  | nil => rfl
  | cons e L ih => show z_and L (0 &&& e.1) = 0; rw [Nat.zero_and]; exact ih
theorem z_and_le (L : List zE) (a : Nat) : z_and L a ≤ a := by
  induction L generalizing a with
  | nil => exact Nat.le_refl _
  | cons e L ih => exact Nat.le_trans (ih (a &&& e.1)) Nat.and_le_left
theorem z_and_take {L : List zE} {i : Nat} {e : zE} (h : L[i]? = some e) (a : Nat) : z_and (L.take (i + 1)) a = z_and (L.take i) a &&& e.1 := by
  rw [List.take_succ, h]
  show (L.take i ++ [e]).foldl _ a = _
  rw [List.foldl_append]
  rfl
theorem z_and_app (K L : List zE) (a : Nat) : z_and (K ++ L) a = z_and L (z_and K a) := List.foldl_append ..
theorem s_held_L {P M who bar x0 nF : Nat} {sp : Nat → Nat → Nat} {ak ba bi ks kn mk so va wk : Nat → Int32} (ok : z_ok P M sp) (hA : z_RA M sp ak kn mk va wk) (hB : z_RB P M sp (z_ds P).length (z_dd P) ba bi ks so) (hbar : bar < 2 ^ 31) (h0 : z_V P M x0) {a0 : Nat} {st : Int32} (ha0 : a0 < 2 ^ 31) : ∀ r i k n (op size : Int32) (fo se : Nat → Int64), i + r = 57344 → r + 31 < k → i ≤ n → z_sk P M sp who bar x0 n nF op size fo se → wp (f_Se_heldEverywhere_L10 nF (nI (z_bm (z_by P who) (z_ds P).length)) (nI (z_ds P).length) (nI M) st (nI bar) ak ba bi ks kn mk so va wk k (nI (z_and ((z_F P M sp who bar x0).take i) a0)) (nI i) op size fo se) (fun q => q.1 = nI (z_and (z_F P M sp who bar x0) a0) ∧ ∃ n', z_sk P M sp who bar x0 n' nF q.2.1 q.2.2.1 q.2.2.2.1 q.2.2.2.2) := by
  have hP := ok.2.1
  have hM := ok.2.2.1
  have hl := z_ds_len ok.1 hP
  have hal : ∀ i, z_and ((z_F P M sp who bar x0).take i) a0 < 2 ^ 31 := fun i => Nat.lt_of_le_of_lt (z_and_le _ _) ha0
  have done : ∀ i n (op size : Int32) (fo se : Nat → Int64), i ≤ n → (z_B P M sp who bar x0 n).length ≤ i → z_sk P M sp who bar x0 n nF op size fo se → z_and ((z_F P M sp who bar x0).take i) a0 = z_and (z_F P M sp who bar x0) a0 := by
    intro i n op size fo se hi hlen hk
    rw [List.take_of_length_le]
    rw [← z_F_eq (n := n) ok h0 (by omega)]
    exact hlen
  intro r
  induction r with
  | zero =>
    intro i k n op size fo se hi hk hin hs
    obtain ⟨k, rfl⟩ : ∃ k', k = k' + 1 := ⟨k - 1, by omega⟩
    obtain ⟨e1, e2, e3⟩ := id hs
    have hlen := z_F_len (who := who) (bar := bar) ok h0 n
    have hsz := e3.2.1
    rw [f_Se_heldEverywhere_L10, hsz]
    refine w_T (nI_le (by omega) (by omega)) (w_some ?_)
    rw [← hsz]
    exact ⟨by rw [done i n op size fo se hin (by omega) hs], n, hs⟩
  | succ r ih =>
    intro i k n op size fo se hi hk hin hs
    obtain ⟨k, rfl⟩ : ∃ k', k = k' + 1 := ⟨k - 1, by omega⟩
    obtain ⟨e1, e2, e3⟩ := id hs
    have hlen := z_F_len (who := who) (bar := bar) ok h0 n
    have hsz := e3.2.1
    rw [f_Se_heldEverywhere_L10, hsz]
    by_cases hend : (z_B P M sp who bar x0 n).length ≤ i
    · refine w_T (nI_le hend (by omega)) (w_some ?_)
      rw [← hsz]
      exact ⟨by rw [done i n op size fo se hin hend hs], n, hs⟩
    · refine w_F (nI_ge (by omega) (by omega)) ?_
      refine w_F (by simp (disch := omega) only [q_lit, q_ofn, nI_add, q_mul, q_sub, q_shrm, q_shlm, q_a31s, q_a1, q_a3, q_a7, q_a65535, q_div, q_rem2, z_mm, nI_clamp, Nat.reduceMul, Nat.reduceAdd, Nat.reduceSub, Nat.reducePow, Nat.reduceMod, Nat.reduceDiv, Nat.one_mul, nI_ltI, nI_leI, nI_eq, q_b0, q_b1, q_m1lt, q_m1le, q_ltm1, q_lem1, q_eqm1, q_m1eq, not_true_eq_false, not_false_eq_true, reduceCtorEq, *] <;> first | omega | decide) ?_
      have hil : i < (z_B P M sp who bar x0 n).length := by omega
      obtain ⟨e, he⟩ : ∃ e, (z_B P M sp who bar x0 n)[i]? = some e := ⟨_, List.getElem?_eq_getElem hil⟩
      obtain ⟨c1, c2, c3, c4, c5, c6, c7, c8, c9, c10⟩ := z_sr_pk hP hM e3 he
      have hF := z_F_at ok h0 he
      by_cases hz : z_and ((z_F P M sp who bar x0).take i) a0 = 0
      · refine w_T (by rw [hz]; rfl) (w_some ?_)
        rw [← hsz]
        refine ⟨?_, n, hs⟩
        show nI _ = nI _
        rw [← List.take_append_drop i (z_F P M sp who bar x0), z_and_app, List.take_append_drop, hz, z_and_0]
      · have := hal i
        refine w_F (by rw [q_lit, nI_eq (hal i) (by decide)]; exact hz) ?_
        refine w_Be (s_stateAt hP hM e3 he) ?_
        refine w_Ln (w := nI (z_and ((z_F P M sp who bar x0).take (i + 1)) a0)) (by rw [q_and, z_and_take hF]) ?_
        unfold f_Se_heldEverywhere_J57
        by_cases hio : i < n
        · refine w_T (by rw [e1]; exact nI_lt hio (by omega)) ?_
          refine w_Ln (w := nI (i + 1)) (by first | (with_reducible rfl) | (simp (disch := omega) only [q_lit, q_ofn, nI_add, q_mul, q_sub, q_shrm, q_shlm, q_a31s, q_a1, q_a3, q_a7, q_a65535, q_div, q_rem2, z_mm, nI_clamp, Nat.reduceMul, Nat.reduceAdd, Nat.reduceSub, Nat.reducePow, Nat.reduceMod, Nat.reduceDiv, Nat.one_mul]; done) | (simp (disch := omega) only [q_lit, q_ofn, nI_add, q_mul, q_sub, q_shrm, q_shlm, q_a31s, q_a1, q_a3, q_a7, q_a65535, q_div, q_rem2, z_mm, nI_clamp, Nat.reduceMul, Nat.reduceAdd, Nat.reduceSub, Nat.reducePow, Nat.reduceMod, Nat.reduceDiv, Nat.one_mul]; with_reducible rfl)) ?_
          rw [← hsz]
          exact ih (i + 1) k n op size fo se (by omega) (by omega) (by omega) hs
        · have hni : i = n := by omega
          subst hni
          refine w_F (by rw [e1]; exact nI_nlt (Nat.le_refl _) (by omega)) ?_
          unfold f_Ru_nightDeed
          refine w_Be (q := nI ((z_ds P).length - 1)) (by rw [show (1 : Int32) = nI 1 from rfl, q_sub (by omega)]) ?_
          rw [← hsz]
          refine w_Bw (s_open (a := 0) (b := (z_ds P).length - 1) ok hA hB hbar (by omega) (by omega) (by omega) he e3) (fun q hq => ?_)
          obtain ⟨q1, q2, q3, q4⟩ := q
          obtain ⟨g1, g2⟩ := hq
          simp only at g1 g2
          subst g1
          refine w_Ln (w := nI (i + 1)) (by first | (with_reducible rfl) | (simp (disch := omega) only [q_lit, q_ofn, nI_add, q_mul, q_sub, q_shrm, q_shlm, q_a31s, q_a1, q_a3, q_a7, q_a65535, q_div, q_rem2, z_mm, nI_clamp, Nat.reduceMul, Nat.reduceAdd, Nat.reduceSub, Nat.reducePow, Nat.reduceMod, Nat.reduceDiv, Nat.one_mul]; done) | (simp (disch := omega) only [q_lit, q_ofn, nI_add, q_mul, q_sub, q_shrm, q_shlm, q_a31s, q_a1, q_a3, q_a7, q_a65535, q_div, q_rem2, z_mm, nI_clamp, Nat.reduceMul, Nat.reduceAdd, Nat.reduceSub, Nat.reducePow, Nat.reduceMod, Nat.reduceDiv, Nat.one_mul]; with_reducible rfl)) ?_
          exact ih (i + 1) k (i + 1) _ _ _ _ (by omega) (by omega) (Nat.le_refl _) (z_sk_next he g2 (by omega))
theorem s_held {P M who bar x0 nF : Nat} {sp : Nat → Nat → Nat} {ak ba bi ks kn mk so va wk : Nat → Int32} (ok : z_ok P M sp) (hA : z_RA M sp ak kn mk va wk) (hB : z_RB P M sp (z_ds P).length (z_dd P) ba bi ks so) (hbar : bar < 2 ^ 31) (h0 : z_V P M x0) {n k : Nat} {op size : Int32} {fo se : Nat → Int64} (hk : 60000 ≤ k) (hs : z_sk P M sp who bar x0 n nF op size fo se) : wp (f_Se_heldEverywhere k nF (nI (z_bm (z_by P who) (z_ds P).length)) op (nI (z_ds P).length) (nI M) size (nI x0) (nI bar) fo ak ba bi ks kn mk so va wk se) (fun q => q.1 = nI (z_and (z_F P M sp who bar x0) (x0 % 32)) ∧ ∃ n', z_sk P M sp who bar x0 n' nF q.2.1 q.2.2.1 q.2.2.2.1 q.2.2.2.2) := by
  have h01 := h0.1
  unfold f_Se_heldEverywhere f_St_holding
  refine w_Be (q := nI (x0 % 32)) (by rw [q_lit, q_a31]) ?_
  have g := s_held_L (a0 := x0 % 32) (st := nI x0) ok hA hB hbar h0 (by omega) 57344 0 k n op size fo se (by omega) (by omega) (by omega) hs
  rw [List.take_zero] at g
  refine w_Bw g (fun q hq => ?_)
  obtain ⟨q1, q2, q3, q4, q5⟩ := q
  exact w_some hq
theorem s_openAll_L {P M who bar x0 nF : Nat} {sp : Nat → Nat → Nat} {ak ba bi ks kn mk so va wk : Nat → Int32} (ok : z_ok P M sp) (hA : z_RA M sp ak kn mk va wk) (hB : z_RB P M sp (z_ds P).length (z_dd P) ba bi ks so) (hbar : bar < 2 ^ 31) (h0 : z_V P M x0) : ∀ r n k (op size : Int32) (fo se : Nat → Int64), n + r = 57344 → r + 31 < k → z_sk P M sp who bar x0 n nF op size fo se → wp (f_Se_openAll_L5 nF (nI (z_bm (z_by P who) (z_ds P).length)) (nI (z_ds P).length) (nI M) (nI bar) ak ba bi ks kn mk so va wk k (nI n) op size fo se) (fun q => ∃ n', z_sk P M sp who bar x0 n' nF q.1 q.2.1 q.2.2.1 q.2.2.2 ∧ z_B P M sp who bar x0 n' = z_F P M sp who bar x0) := by
  have hP := ok.2.1
  have hM := ok.2.2.1
  have hl := z_ds_len ok.1 hP
  intro r
  induction r with
  | zero =>
    intro n k op size fo se hi hk hs
    obtain ⟨k, rfl⟩ : ∃ k', k = k' + 1 := ⟨k - 1, by omega⟩
    obtain ⟨e1, e2, e3⟩ := id hs
    have hlen := z_F_len (who := who) (bar := bar) ok h0 n
    have hsz := e3.2.1
    rw [f_Se_openAll_L5, hsz]
    refine w_T (nI_le (by omega) (by omega)) (w_some ?_)
    rw [← hsz]
    exact ⟨n, hs, z_F_eq ok h0 (by omega)⟩
  | succ r ih =>
    intro n k op size fo se hi hk hs
    obtain ⟨k, rfl⟩ : ∃ k', k = k' + 1 := ⟨k - 1, by omega⟩
    obtain ⟨e1, e2, e3⟩ := id hs
    have hlen := z_F_len (who := who) (bar := bar) ok h0 n
    have hsz := e3.2.1
    rw [f_Se_openAll_L5, hsz]
    by_cases hend : (z_B P M sp who bar x0 n).length ≤ n
    · refine w_T (nI_le hend (by omega)) (w_some ?_)
      rw [← hsz]
      exact ⟨n, hs, z_F_eq ok h0 hend⟩
    · refine w_F (nI_ge (by omega) (by omega)) ?_
      refine w_F (by simp (disch := omega) only [q_lit, q_ofn, nI_add, q_mul, q_sub, q_shrm, q_shlm, q_a31s, q_a1, q_a3, q_a7, q_a65535, q_div, q_rem2, z_mm, nI_clamp, Nat.reduceMul, Nat.reduceAdd, Nat.reduceSub, Nat.reducePow, Nat.reduceMod, Nat.reduceDiv, Nat.one_mul, nI_ltI, nI_leI, nI_eq, q_b0, q_b1, q_m1lt, q_m1le, q_ltm1, q_lem1, q_eqm1, q_m1eq, not_true_eq_false, not_false_eq_true, reduceCtorEq, *] <;> first | omega | decide) ?_
      have hil : n < (z_B P M sp who bar x0 n).length := by omega
      obtain ⟨e, he⟩ : ∃ e, (z_B P M sp who bar x0 n)[n]? = some e := ⟨_, List.getElem?_eq_getElem hil⟩
      unfold f_Ru_nightDeed
      refine w_Be (q := nI ((z_ds P).length - 1)) (by rw [show (1 : Int32) = nI 1 from rfl, q_sub (by omega)]) ?_
      rw [← hsz]
      refine w_Bw (s_open (a := 0) (b := (z_ds P).length - 1) ok hA hB hbar (by omega) (by omega) (by omega) he e3) (fun q hq => ?_)
      obtain ⟨q1, q2, q3, q4⟩ := q
      obtain ⟨g1, g2⟩ := hq
      simp only at g1 g2
      subst g1
      refine w_Ln (w := nI (n + 1)) (by first | (with_reducible rfl) | (simp (disch := omega) only [q_lit, q_ofn, nI_add, q_mul, q_sub, q_shrm, q_shlm, q_a31s, q_a1, q_a3, q_a7, q_a65535, q_div, q_rem2, z_mm, nI_clamp, Nat.reduceMul, Nat.reduceAdd, Nat.reduceSub, Nat.reducePow, Nat.reduceMod, Nat.reduceDiv, Nat.one_mul]; done) | (simp (disch := omega) only [q_lit, q_ofn, nI_add, q_mul, q_sub, q_shrm, q_shlm, q_a31s, q_a1, q_a3, q_a7, q_a65535, q_div, q_rem2, z_mm, nI_clamp, Nat.reduceMul, Nat.reduceAdd, Nat.reduceSub, Nat.reducePow, Nat.reduceMod, Nat.reduceDiv, Nat.one_mul]; with_reducible rfl)) ?_
      exact ih (n + 1) k _ _ _ _ (by omega) (by omega) (z_sk_next he g2 (by omega))
theorem s_openAll {P M who bar x0 nF : Nat} {sp : Nat → Nat → Nat} {ak ba bi ks kn mk so va wk : Nat → Int32} (ok : z_ok P M sp) (hA : z_RA M sp ak kn mk va wk) (hB : z_RB P M sp (z_ds P).length (z_dd P) ba bi ks so) (hbar : bar < 2 ^ 31) (h0 : z_V P M x0) {n k : Nat} {op size : Int32} {fo se : Nat → Int64} (hk : 60000 ≤ k) (hs : z_sk P M sp who bar x0 n nF op size fo se) : wp (f_Se_openAll k nF (nI (z_bm (z_by P who) (z_ds P).length)) op (nI (z_ds P).length) (nI M) size (nI bar) fo ak ba bi ks kn mk so va wk se) (fun q => ∃ n', z_sk P M sp who bar x0 n' nF q.1 q.2.1 q.2.2.1 q.2.2.2 ∧ z_B P M sp who bar x0 n' = z_F P M sp who bar x0) := by
  have hn : n ≤ 57344 := Nat.le_trans hs.2.1 (z_F_len ok h0 n)
  unfold f_Se_openAll
  rw [hs.1]
  refine w_Bw (s_openAll_L ok hA hB hbar h0 (57344 - n) n k _ size fo se (by omega) (by omega) (hs.1 ▸ hs)) (fun q hq => ?_)
  obtain ⟨q1, q2, q3, q4⟩ := q
  exact w_some hq
def z_cd (F : List zE) (t : Nat) : Nat := F.countP (fun e => decide (e.2.2.2 = t))
theorem z_cd_take {L : List zE} {i t : Nat} {e : zE} (h : L[i]? = some e) : z_cd (L.take (i + 1)) t = z_cd (L.take i) t + (decide (e.2.2.2 = t)).toNat := by
  unfold z_cd
  rw [List.take_succ, h]
  show ((L.take i) ++ [e]).countP _ = _
  rw [List.countP_append]
  by_cases h : e.2.2.2 = t <;> simp [h]
theorem s_states_L {P M nF t : Nat} {L : List zE} {size : Int32} {fo se : Nat → Int64} {op da c M' unl : Int32} {ak ba bi ks kn mk so va wk : Nat → Int32} (hP : P ≤ 3) (hM : M ≤ 5) (hs : z_sr P M L nF size fo se) (ht : t < 2 ^ 31) : ∀ r i k, i + r = L.length → r < k → f_Se_statesAt_L8 nF da op c M' size unl fo ak ba bi ks kn mk so va wk se (nI t) k (nI (z_cd (L.take i) t)) (nI i) = some (nI (z_cd L t)) := by
  have hl := Nat.le_trans (z_LI_len hP hM hs.1) (z_cap_le hP hM)
  have hsz := hs.2.1
  intro r
  induction r with
  | zero =>
    intro i k hi hk
    obtain ⟨k, rfl⟩ : ∃ k', k = k' + 1 := ⟨k - 1, by omega⟩
    rw [f_Se_statesAt_L8, hsz]
    refine e_T (nI_le (by omega) (by omega)) ?_
    rw [List.take_of_length_le (by omega)]
  | succ r ih =>
    intro i k hi hk
    obtain ⟨k, rfl⟩ : ∃ k', k = k' + 1 := ⟨k - 1, by omega⟩
    have hil : i < L.length := by omega
    obtain ⟨e, he⟩ : ∃ e, L[i]? = some e := ⟨_, List.getElem?_eq_getElem hil⟩
    obtain ⟨c1, c2, c3, c4, c5, c6, c7, c8, c9, c10⟩ := z_sr_pk hP hM hs he
    have ih' := ih (i + 1) k (by omega) (by omega)
    rw [z_cd_take he] at ih'
    rw [f_Se_statesAt_L8]
    rw [hsz]
    refine e_F (nI_ge (by omega) (by omega)) ?_
    refine e_F (by simp (disch := omega) only [q_lit, q_ofn, nI_add, q_mul, q_sub, q_shrm, q_shlm, q_a31s, q_a1, q_a3, q_a7, q_a65535, q_div, q_rem2, z_mm, nI_clamp, Nat.reduceMul, Nat.reduceAdd, Nat.reduceSub, Nat.reducePow, Nat.reduceMod, Nat.reduceDiv, Nat.one_mul, nI_ltI, nI_leI, nI_eq, q_b0, q_b1, q_m1lt, q_m1le, q_ltm1, q_lem1, q_eqm1, q_m1eq, not_true_eq_false, not_false_eq_true, reduceCtorEq, *] <;> first | omega | decide) ?_
    rw [s_distanceAt hP hM hs he, q_B]
    unfold f_Se_statesAt_J34
    by_cases hd : e.2.2.2 = t
    · refine e_T (by rw [hd]) ?_
      refine e_L ?_
      refine e_L ?_
      rw [decide_eq_true hd] at ih'
      simp only [q_lit, nI_add]
      rw [← hsz]
      exact ih'
    · refine e_F (by rw [nI_eq (by omega) ht]; exact hd) ?_
      refine e_L ?_
      rw [decide_eq_false hd] at ih'
      simp only [q_lit, nI_add]
      rw [← hsz]
      exact ih'
theorem s_states {P M who bar x0 nF : Nat} {sp : Nat → Nat → Nat} {ak ba bi ks kn mk so va wk : Nat → Int32} (ok : z_ok P M sp) (hA : z_RA M sp ak kn mk va wk) (hB : z_RB P M sp (z_ds P).length (z_dd P) ba bi ks so) (hbar : bar < 2 ^ 31) (h0 : z_V P M x0) {n k t : Nat} {op size : Int32} {fo se : Nat → Int64} (ht : t < 2 ^ 31) (hk : 60000 ≤ k) (hs : z_sk P M sp who bar x0 n nF op size fo se) : wp (f_Se_statesAt k nF (nI (z_bm (z_by P who) (z_ds P).length)) op (nI (z_ds P).length) (nI M) size (nI bar) fo ak ba bi ks kn mk so va wk se (nI t)) (fun q => q.1 = nI (z_cd (z_F P M sp who bar x0) t) ∧ ∃ n', z_sk P M sp who bar x0 n' nF q.2.1 q.2.2.1 q.2.2.2.1 q.2.2.2.2) := by
  unfold f_Se_statesAt
  refine w_Bw (s_openAll ok hA hB hbar h0 hk hs) (fun q hq => ?_)
  obtain ⟨q1, q2, q3, q4⟩ := q
  obtain ⟨n', h1, h2⟩ := hq
  have hl := z_F_len (who := who) (bar := bar) ok h0 n'
  have g := s_states_L (op := q1) (da := nI (z_bm (z_by P who) (z_ds P).length)) (c := nI (z_ds P).length) (M' := nI M) (unl := nI bar) (ak := ak) (ba := ba) (bi := bi) (ks := ks) (kn := kn) (mk := mk) (so := so) (va := va) (wk := wk) ok.2.1 ok.2.2.1 h1.2.2 ht (z_B P M sp who bar x0 n').length 0 k (by omega) (by omega)
  rw [h2] at g
  refine w_Be g ?_
  exact w_some ⟨rfl, n', h1⟩
theorem s_great {P M who bar x0 nF : Nat} {sp : Nat → Nat → Nat} {ak ba bi ks kn mk so va wk : Nat → Int32} (ok : z_ok P M sp) (hA : z_RA M sp ak kn mk va wk) (hB : z_RB P M sp (z_ds P).length (z_dd P) ba bi ks so) (hbar : bar < 2 ^ 31) (h0 : z_V P M x0) {n k : Nat} {op size : Int32} {fo se : Nat → Int64} (hk : 60000 ≤ k) (hs : z_sk P M sp who bar x0 n nF op size fo se) : wp (f_Se_greatestDistance k nF (nI (z_bm (z_by P who) (z_ds P).length)) op (nI (z_ds P).length) (nI M) size (nI bar) fo ak ba bi ks kn mk so va wk se) (fun q => (∃ e, (z_F P M sp who bar x0)[(z_F P M sp who bar x0).length - 1]? = some e ∧ q.1 = nI e.2.2.2) ∧ ∃ n', z_sk P M sp who bar x0 n' nF q.2.1 q.2.2.1 q.2.2.2.1 q.2.2.2.2) := by
  unfold f_Se_greatestDistance
  refine w_Bw (s_openAll ok hA hB hbar h0 hk hs) (fun q hq => ?_)
  obtain ⟨q1, q2, q3, q4⟩ := q
  obtain ⟨n', h1, h2⟩ := hq
  simp only at h1
  have hpos := z_bf_pos (z_st P M sp who bar) (z_dx P) (z_ds P) x0 n'
  have hsz := h1.2.2.2.1
  have hlt : (z_B P M sp who bar x0 n').length - 1 < (z_B P M sp who bar x0 n').length := by
    have : 0 < (z_B P M sp who bar x0 n').length := hpos
    omega
  obtain ⟨e, he⟩ : ∃ e, (z_B P M sp who bar x0 n')[(z_B P M sp who bar x0 n').length - 1]? = some e := ⟨_, List.getElem?_eq_getElem hlt⟩
  have hd := s_distanceAt ok.2.1 ok.2.2.1 h1.2.2 he
  refine w_Be (q := nI e.2.2.2) ?_ ?_
  · rw [hsz, show (1 : Int32) = nI 1 from rfl, q_sub (by have : 0 < (z_B P M sp who bar x0 n').length := hpos; omega)]
    exact hd
  · refine w_some ⟨⟨e, ?_, rfl⟩, n', h1⟩
    rw [← h2]
    exact he
