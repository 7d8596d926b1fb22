/-! the reference reads lines of spells -/
/-- the row of the spell that is being read, with t terms; the rows before as they were -/
def z_rp (rm : Nat) (C : Nat → Nat) (j t : Nat) (rd0 rd : Nat → Int32) : Prop := (∀ i, i < 10 * rm → rd i = rd0 i) ∧ rd (10 * rm) = nI (C j - 12) ∧ rd (10 * rm + 1) = nI (C (j + 1)) ∧ ∀ u, u < t → rd (10 * rm + (3 + 2 * u)) = nI (C (j + 3 + 3 * u) - 21) ∧ rd (10 * rm + (4 + 2 * u)) = nI (C (j + 4 + 3 * u))
theorem z_rp_add {rm j t : Nat} {C : Nat → Nat} {rd0 rd : Nat → Int32} (h : z_rp rm C j t rd0 rd) : z_rp rm C j (t + 1) rd0 (upd (upd rd (10 * rm + (3 + 2 * t)) (nI (C (j + 3 + 3 * t) - 21))) (10 * rm + (4 + 2 * t)) (nI (C (j + 4 + 3 * t)))) := by
  obtain ⟨h1, h2, h3, h4⟩ := h
  refine ⟨?_, ?_, ?_, ?_⟩
  · intro i hi
    rw [z_upd_n (by omega), z_upd_n (by omega)]
    exact h1 i hi
  · rw [z_upd_n (by omega), z_upd_n (by omega)]; exact h2
  · rw [z_upd_n (by omega), z_upd_n (by omega)]; exact h3
  · intro u hu
    by_cases hut : u = t
    · subst hut
      rw [z_upd_n (by omega), z_upd_s, z_upd_s]
      exact ⟨rfl, rfl⟩
    · rw [z_upd_n (by omega), z_upd_n (by omega), z_upd_n (by omega), z_upd_n (by omega)]
      exact h4 u (by omega)
theorem m_terms {c : Nat → Nat} {n j rm P M : Nat} {g rd0 : Nat → Int32} {x2 : Int32} (ht : z_tx c n g) (hrm : rm < 12) (hP : P ≤ 3) (hM : M ≤ 5) : ∀ r t k (va ve vp : Int32) (rd : Nat → Int32), t + r = 3 → 1 ≤ t → r + 310 < k → z_ps c n (j + 2 + 3 * t) va ve vp → z_rp rm (z_C c n) j t rd0 rd → wp (f_Mo_readsSpell_L66 (nI n) (nI rm) (nI P) (nI M) g x2 k (nI t) va ve vp rd) (fun q => match q with
    | .inl (x, a, e, p, rd') => (z_ts P M (z_C c n) j r t).1 = true ∧ x = nI (z_ts P M (z_C c n) j r t).2.1 ∧ z_ps c n (j + 2 + 3 * (z_ts P M (z_C c n) j r t).2.1) a e p ∧ z_rp rm (z_C c n) j (z_ts P M (z_C c n) j r t).2.1 rd0 rd'
    | .inr q => (z_ts P M (z_C c n) j r t).1 = false ∧ q.1 = nI 0 ∧ z_ps c n (z_ts P M (z_C c n) j r t).2.2 q.2.1 q.2.2.1 q.2.2.2.1) := by
  intro r
  induction r with
  | zero =>
    intro t k va ve vp rd htr h1 hk hps hrp
    obtain ⟨k, rfl⟩ : ∃ k', k = k' + 1 := ⟨k - 1, by omega⟩
    rw [f_Mo_readsSpell_L66]
    exact w_T (by simp (disch := omega) only [q_lit, q_ofn, nI_add, q_mul, q_sub, q_shrm, q_shlm, q_a31s, q_a1, q_a3, q_a7, q_a65535, q_div, q_rem2, z_mm, nI_clamp, Nat.reduceMul, Nat.reduceAdd, Nat.reduceSub, Nat.reducePow, Nat.reduceMod, Nat.reduceDiv, Nat.one_mul, nI_ltI, nI_leI, nI_eq, q_b0, q_b1, q_m1lt, q_m1le, q_ltm1, q_lem1, q_eqm1, q_m1eq, not_true_eq_false, not_false_eq_true, reduceCtorEq, *] <;> first | omega | decide) (w_some ⟨rfl, rfl, hps, hrp⟩)
  | succ r ih =>
    intro t k va ve vp rd htr h1 hk hps hrp
    obtain ⟨k, rfl⟩ : ∃ k', k = k' + 1 := ⟨k - 1, by omega⟩
    obtain ⟨rfl, rfl, rfl⟩ := hps
    rw [f_Mo_readsSpell_L66]
    refine w_F (by simp (disch := omega) only [q_lit, q_ofn, nI_add, q_mul, q_sub, q_shrm, q_shlm, q_a31s, q_a1, q_a3, q_a7, q_a65535, q_div, q_rem2, z_mm, nI_clamp, Nat.reduceMul, Nat.reduceAdd, Nat.reduceSub, Nat.reducePow, Nat.reduceMod, Nat.reduceDiv, Nat.one_mul, nI_ltI, nI_leI, nI_eq, q_b0, q_b1, q_m1lt, q_m1le, q_ltm1, q_lem1, q_eqm1, q_m1eq, not_true_eq_false, not_false_eq_true, reduceCtorEq, *] <;> first | omega | decide) ?_
    refine w_Be (m_iw 7 rfl rfl ht (z_tp_le c n _) (by decide) (by omega)) ?_
    unfold z_ts
    by_cases c1 : z_C c n (j + 2 + 3 * t) = 19
    · have c1' : z_code c n (z_tp c n (j + 2 + 3 * t)) = 12 + 7 := c1
      rw [decide_eq_true c1', if_pos c1]
      refine w_F (by decide) ?_
      refine w_Be (m_tok (j := j + 2 + 3 * t) ht (by omega) (by omega)) ?_
      rw [show j + 2 + 3 * t + 1 = j + 3 + 3 * t by omega]
      refine w_Bw (m_readsTerm (j := j + 3 + 3 * t) ht (by omega) hrm (by omega) hP hM) (fun q hq => ?_)
      obtain ⟨q1, q2, q3, q4, q5⟩ := q
      rcases hq with ⟨g1, g2, g3, g4⟩ | ⟨g1, g2, g3⟩
      · simp only at g2 g3 g4
        subst g2; subst g4
        rw [if_pos g1]
        refine w_F (by decide) ?_
        refine w_Ln (w := nI (t + 1)) (by first | (with_reducible rfl) | (simp (disch := omega) only [q_lit, q_ofn, nI_add, q_mul, q_sub, q_shrm, q_shlm, q_a31s, q_a1, q_a3, q_a7, q_a65535, q_div, q_rem2, z_mm, nI_clamp, Nat.reduceMul, Nat.reduceAdd, Nat.reduceSub, Nat.reducePow, Nat.reduceMod, Nat.reduceDiv, Nat.one_mul]; done) | (simp (disch := omega) only [q_lit, q_ofn, nI_add, q_mul, q_sub, q_shrm, q_shlm, q_a31s, q_a1, q_a3, q_a7, q_a65535, q_div, q_rem2, z_mm, nI_clamp, Nat.reduceMul, Nat.reduceAdd, Nat.reduceSub, Nat.reducePow, Nat.reduceMod, Nat.reduceDiv, Nat.one_mul]; with_reducible rfl)) ?_
        refine ih (t + 1) k q2 q3 q4 _ (by omega) (by omega) (by omega) ?_ ?_
        · rw [show j + 2 + 3 * (t + 1) = j + 3 + 3 * t + 2 by omega]; exact g3
        · have := z_rp_add hrp
          rw [show j + 3 + 3 * t + 1 = j + 4 + 3 * t by omega]
          exact this
      · simp only at g2 g3
        subst g2
        rw [if_neg (by rw [g1]; decide)]
        exact w_T rfl (w_some ⟨rfl, rfl, g3⟩)
    · have c1' : ¬ z_code c n (z_tp c n (j + 2 + 3 * t)) = 12 + 7 := c1
      rw [decide_eq_false c1', if_neg c1]
      exact w_T rfl (w_some ⟨rfl, rfl, ⟨rfl, rfl, rfl⟩, hrp⟩)
/-- a row of 'read' that holds a line of a spell -/
def z_rw1 (rm : Nat) (C : Nat → Nat) (j nt : Nat) (rd0 rd : Nat → Int32) : Prop := z_rp rm C j nt rd0 rd ∧ rd (10 * rm + 2) = nI nt ∧ rd (10 * rm + 9) = (if (if C (j + 2 + 3 * nt) = 20 then C (j + 3 + 3 * nt) + 1 else 0) = 0 then -nI 1 else nI ((if C (j + 2 + 3 * nt) = 20 then C (j + 3 + 3 * nt) + 1 else 0) - 1))
def z_rsQ (c : Nat → Nat) (n rm P M j : Nat) (rd0 : Nat → Int32) (q : Int32 × Int32 × Int32 × Int32 × (Nat → Int32)) : Prop := z_ps c n (z_sp P M (z_C c n) j).2.1 q.2.1 q.2.2.1 q.2.2.2.1 ∧ (((z_sp P M (z_C c n) j).1 = true ∧ q.1 = nI 1 ∧ z_rw1 rm (z_C c n) j (z_sp P M (z_C c n) j).2.2 rd0 q.2.2.2.2) ∨ ((z_sp P M (z_C c n) j).1 = false ∧ q.1 = nI 0))
/-- from behind the spell's word on -/
theorem m_readsSpell {c : Nat → Nat} {n j k rm P M : Nat} {g rd0 rd : Nat → Int32} (ht : z_tx c n g) (hk : 400 ≤ k) (hrm : rm < 12) (hP : P ≤ 3) (hM : M < 5) (hw1 : 13 ≤ z_C c n j) (hw2 : z_C c n j ≤ 16) (h0 : rd (10 * rm) = nI (z_C c n j - 12)) (hrd : ∀ i, i < 10 * rm → rd i = rd0 i) : wp (f_Mo_readsSpell k (nI (z_ze c n (j + 1))) (nI (z_ze c n (j + 1))) (nI n) (nI (z_tp c n (j + 1))) (nI rm) (nI P) (nI M) rd g (nI (z_C c n j - 12))) (z_rsQ c n rm P M j rd0) := by
  have hc1 : ¬ M = 5 := by omega
  have fail : ∀ (a z : Nat) (x1 x2 x3 : Int32) (y : Nat → Int32), z_sp P M (z_C c n) j = (false, a, z) → z_ps c n a x1 x2 x3 → wp (some (nI 0, x1, x2, x3, y)) (z_rsQ c n rm P M j rd0) := by
    intro a z x1 x2 x3 y e hp
    refine w_some ?_
    unfold z_rsQ
    rw [e]
    exact ⟨hp, Or.inr ⟨rfl, rfl⟩⟩
  have J31 : ∀ s0 : Int32, s0.toInt = (z_lim (z_C c n j) P M : Int) - 1 → wp (f_Mo_readsSpell_J31 k (nI (z_ze c n (j + 1))) (nI (z_ze c n (j + 1))) (nI n) (nI (z_tp c n (j + 1))) (nI rm) (nI P) (nI M) rd g (nI (10 * rm)) s0 0 1) (z_rsQ c n rm P M j rd0) := by
    intro s0 hs
    have hl0 : z_lst (z_C c n j) = 0 := by unfold z_lst; rw [if_neg (by omega)]
    unfold f_Mo_readsSpell_J31
    refine w_Be (m_reads (kk := 1) (least := 0) ht (by omega) (by omega) (by omega) hs) ?_
    by_cases c2 : z_nok (z_C c n j) P M (z_C c n (j + 1)) = false
    · rw [if_neg (fun z => by
        have : z_nok (z_C c n j) P M (z_C c n (j + 1)) = true := decide_eq_true (by rw [hl0]; exact z)
        rw [c2] at this
        cases this)]
      refine w_T rfl ?_
      exact fail (j + 1) 0 _ _ _ _ (by unfold z_sp; rw [if_neg hc1, if_pos c2]) ⟨rfl, rfl, rfl⟩
    have c2t := z_nok_t (z_bt c2)
    rw [hl0] at c2t
    rw [if_pos c2t]
    refine w_F (by decide) ?_
    have hb2 := z_tp_le c n (j + 1 + 1)
    refine w_Be (m_iw 6 rfl rfl ht hb2 (by decide) (by omega)) ?_
    by_cases c3 : z_C c n (j + 2) ≠ 18
    · have c3' : ¬ z_code c n (z_tp c n (j + 1 + 1)) = 12 + 6 := c3
      rw [decide_eq_false c3']
      refine w_T rfl ?_
      exact fail (j + 2) 0 _ _ _ _ (by unfold z_sp; rw [if_neg hc1, if_neg c2, if_pos c3]) ⟨rfl, rfl, rfl⟩
    have c3' : z_code c n (z_tp c n (j + 1 + 1)) = 12 + 6 := Decidable.of_not_not c3
    have c3n : z_C c n (j + 1 + 1) ≠ 11 := by
      have : z_C c n (j + 1 + 1) = 12 + 6 := c3'
      omega
    rw [decide_eq_true c3']
    refine w_F (by decide) ?_
    refine w_Be (m_tok (j := j + 1 + 1) ht c3n (by omega)) ?_
    have hrp0 : z_rp rm (z_C c n) j 0 rd0 (upd rd (10 * rm + 1) (nI (z_C c n (j + 1)))) := by
      refine ⟨?_, ?_, z_upd_s, fun u hu => by omega⟩
      · intro i hi
        rw [z_upd_n (by omega)]; exact hrd i hi
      · rw [z_upd_n (by omega)]; exact h0
    refine w_Bw (m_readsTerm (j := j + 1 + 1 + 1) (t := 0) (P := P) (M := M) ht (by omega) hrm (by decide) hP (by omega)) (fun q hq => ?_)
    obtain ⟨q1, q2, q3, q4, q5⟩ := q
    rw [show j + 1 + 1 + 1 = j + 3 by omega] at hq
    rcases hq with ⟨g1, g2, g3, g4⟩ | ⟨g1, g2, g3⟩
    · simp only at g2 g3 g4
      subst g2; subst g4
      refine w_F (by decide) ?_
      have hrp1 := z_rp_add hrp0
      refine w_Sw (m_terms (x2 := nI (10 * rm)) (P := P) (M := M) ht hrm hP (by omega) 2 1 k q2 q3 q4 _ (by omega) (by omega) (by omega) g3 hrp1) ?_ ?_
      · intro q hq
        obtain ⟨v1, v2, v3, v4, v5⟩ := q
        obtain ⟨c5, rfl, ⟨rfl, rfl, rfl⟩, hrp⟩ := hq
        obtain ⟨a1, a2, a3⟩ := z_ts_t 2 1 (by omega) c5
        have base : z_sp P M (z_C c n) j = if z_C c n (j + 2 + 3 * (z_ts P M (z_C c n) j 2 1).2.1) = 20 then (if z_nok 20 P M (z_C c n (j + 3 + 3 * (z_ts P M (z_C c n) j 2 1).2.1)) = true then (true, j + 4 + 3 * (z_ts P M (z_C c n) j 2 1).2.1, (z_ts P M (z_C c n) j 2 1).2.1) else (false, j + 3 + 3 * (z_ts P M (z_C c n) j 2 1).2.1, 0)) else (true, j + 2 + 3 * (z_ts P M (z_C c n) j 2 1).2.1, (z_ts P M (z_C c n) j 2 1).2.1) := by
          unfold z_sp
          rw [if_neg hc1, if_neg c2, if_neg c3, if_neg (by rw [g1]; decide), if_neg (by rw [c5]; decide)]
        unfold f_Mo_readsSpell_J102
        refine w_C (i := 10 * rm + 2) (by rw [show (2 : Int32) = nI 2 from rfl, nI_add]) (by omega) (by decide) ?_
        refine w_C (i := 10 * rm + 9) (by rw [show (9 : Int32) = nI 9 from rfl, nI_add]) (by omega) (by decide) ?_
        rw [show nI (10 * rm) + 2 = nI (10 * rm + 2) by rw [show (2 : Int32) = nI 2 from rfl, nI_add], show nI (10 * rm) + 9 = nI (10 * rm + 9) by rw [show (9 : Int32) = nI 9 from rfl, nI_add], nI_clamp (by omega), nI_clamp (by omega)]
        generalize hnt : (z_ts P M (z_C c n) j 2 1).2.1 = nt at *
        have hrow : ∀ w : Int32, z_rp rm (z_C c n) j nt rd0 (upd (upd v5 (10 * rm + 2) (nI nt)) (10 * rm + 9) w) := by
          intro w
          obtain ⟨r1, r2, r3, r4⟩ := hrp
          refine ⟨?_, ?_, ?_, ?_⟩
          · intro i hi
            rw [z_upd_n (by omega), z_upd_n (by omega)]; exact r1 i hi
          · rw [z_upd_n (by omega), z_upd_n (by omega)]; exact r2
          · rw [z_upd_n (by omega), z_upd_n (by omega)]; exact r3
          · intro u hu
            rw [z_upd_n (by omega), z_upd_n (by omega), z_upd_n (by omega), z_upd_n (by omega)]
            exact r4 u hu
        refine w_Be (m_iw 8 rfl rfl ht (z_tp_le c n _) (by decide) (by omega)) ?_
        by_cases c6 : z_C c n (j + 2 + 3 * nt) = 20
        · have c6' : z_code c n (z_tp c n (j + 2 + 3 * nt)) = 12 + 8 := c6
          rw [if_pos c6] at base
          rw [decide_eq_true c6']
          refine w_F (by decide) ?_
          refine w_Be (m_tok (j := j + 2 + 3 * nt) ht (by omega) (by omega)) ?_
          rw [show j + 2 + 3 * nt + 1 = j + 3 + 3 * nt by omega]
          refine w_Be (m_reads (j := j + 3 + 3 * nt) (kk := 9) (least := 0) (lim := M + 1) ht (by omega) (by omega) (by omega) (by rw [nI_toInt (by omega)]; omega)) ?_
          by_cases c7 : z_nok 20 P M (z_C c n (j + 3 + 3 * nt)) = true
          · have c7t := z_nok_t c7
            have c7u : 0 ≤ z_C c n (j + 3 + 3 * nt) ∧ z_C c n (j + 3 + 3 * nt) ≤ 9 ∧ z_C c n (j + 3 + 3 * nt) < M + 1 := by
              simp [z_lim, z_lst] at c7t
              omega
            rw [if_pos c7] at base
            rw [if_pos c7u]
            refine w_some ?_
            unfold z_rsQ
            rw [base]
            refine ⟨?_, Or.inl ⟨rfl, show nI 1 &&& 1 = nI 1 by decide, ?_⟩⟩
            · show z_ps c n (j + 4 + 3 * nt) _ _ _
              rw [show j + 4 + 3 * nt = j + 3 + 3 * nt + 1 by omega]
              exact ⟨rfl, rfl, rfl⟩
            · have hsame : upd (upd (upd v5 (10 * rm + 2) (nI nt)) (10 * rm + 9) (-1 : Int32)) (10 * rm + 9) (nI (z_C c n (j + 3 + 3 * nt))) = upd (upd v5 (10 * rm + 2) (nI nt)) (10 * rm + 9) (nI (z_C c n (j + 3 + 3 * nt))) := by
                funext i
                by_cases hi : i = 10 * rm + 9
                · rw [hi, z_upd_s, z_upd_s]
                · rw [z_upd_n hi, z_upd_n hi, z_upd_n hi]
              show z_rw1 rm (z_C c n) j nt rd0 (upd (upd (upd v5 (10 * rm + 2) (nI nt)) (10 * rm + 9) (-1 : Int32)) (10 * rm + 9) (nI (z_C c n (j + 3 + 3 * nt))))
              rw [hsame]
              refine ⟨hrow _, ?_, ?_⟩
              · rw [z_upd_n (by omega), z_upd_s]
              · rw [z_upd_s, if_pos c6, if_neg (by omega)]
                rfl
          · rw [if_neg c7] at base
            rw [if_neg (fun z => c7 (decide_eq_true (by simp [z_lim, z_lst]; omega)))]
            exact fail _ _ _ _ _ _ base ⟨rfl, rfl, rfl⟩
        · have c6' : ¬ z_code c n (z_tp c n (j + 2 + 3 * nt)) = 12 + 8 := c6
          rw [if_neg c6] at base
          rw [decide_eq_false c6']
          refine w_T rfl (w_some ?_)
          unfold z_rsQ
          rw [base]
          refine ⟨⟨rfl, rfl, rfl⟩, Or.inl ⟨rfl, rfl, hrow _, ?_, ?_⟩⟩
          · show upd (upd v5 (10 * rm + 2) (nI nt)) (10 * rm + 9) (-1 : Int32) (10 * rm + 2) = _
            rw [z_upd_n (by omega), z_upd_s]
          · show upd (upd v5 (10 * rm + 2) (nI nt)) (10 * rm + 9) (-1 : Int32) (10 * rm + 9) = _
            rw [z_upd_s, if_neg c6, if_pos rfl]
            rfl
      · intro q hq
        obtain ⟨v1, v2, v3, v4, v5⟩ := q
        obtain ⟨c5, c6, c7⟩ := hq
        simp only at c6 c7
        subst c6
        refine fail _ 0 _ _ _ _ ?_ c7
        unfold z_sp
        rw [if_neg hc1, if_neg c2, if_neg c3, if_neg (by rw [g1]; decide), if_pos c5]
    · simp only at g2 g3
      subst g2
      refine w_T rfl ?_
      refine fail _ 0 _ _ _ _ ?_ g3
      unfold z_sp
      rw [if_neg hc1, if_neg c2, if_neg c3, if_pos g1]
  unfold f_Mo_readsSpell
  refine w_Ln (w := nI (10 * rm)) (by rw [show (10 : Int32) = nI 10 from rfl, q_mul]) ?_
  by_cases h16 : z_C c n j = 16
  · refine w_T (by rw [h16]; rfl) (J31 _ ?_)
    rw [show (1 : Int32) = nI 1 from rfl, q_predT (by omega), h16]
    rfl
  · refine w_F (fun z => h16 (by have := (nI_eq (by omega) (by decide : 4 < 2 ^ 31)).mp z; omega)) (J31 _ ?_)
    rw [show (1 : Int32) = nI 1 from rfl, q_predT (by omega)]
    have : z_lim (z_C c n j) P M = P := by unfold z_lim; rw [if_neg (by omega), if_pos (by omega)]
    rw [this]
