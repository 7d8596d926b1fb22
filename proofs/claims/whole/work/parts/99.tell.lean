/-! person, spell, term -/
theorem t_bindersOf {M s : Nat} {sp : Nat → Nat → Nat} {bn cu : Nat → Int32} (hg : z_tg M sp bn cu) (hs : s < 5) : f_Ru_bindersOf bn (nI s) = some (nI (z_cur M sp 3 s)) := by
  unfold f_Ru_bindersOf
  refine e_F (nI_pos (by omega)) ?_
  refine e_T (by simp (disch := omega) only [q_lit, q_ofn, nI_add, q_mul, q_sub, q_shrm, q_shlm, q_a31s, q_a1, q_a3, q_a7, q_a65535, q_div, q_rem2, z_mm, nI_clamp, Nat.reduceMul, Nat.reduceAdd, Nat.reduceSub, Nat.reducePow, Nat.reduceMod, Nat.reduceDiv, Nat.one_mul, nI_ltI, nI_leI, nI_eq, q_b0, q_b1, q_m1lt, q_m1le, q_ltm1, q_lem1, q_eqm1, q_m1eq, not_true_eq_false, not_false_eq_true, reduceCtorEq, *] <;> first | omega | decide) ?_
  refine e_I (i := s) rfl hs (by decide) ?_
  rw [hg.1 s hs]
theorem t_oneIf (b : Bool) : f_SS_oneIf (nI b.toNat) = some (nI b.toNat) := by cases b <;> rfl
theorem t_und {M x p kd : Nat} {sp : Nat → Nat → Nat} (hM : M ≤ 5) (hx : x < 65536) : (nI x &&& nI (z_cur M sp kd p) = 0) ↔ z_und M sp x p kd = false := by
  rw [q_and, ← z_und_bm]
  have : x &&& z_cur M sp kd p < 2 ^ 31 := Nat.lt_of_le_of_lt Nat.and_le_left (by omega)
  constructor
  · intro h
    exact (nI_eq this (by decide)).mp h
  · intro h; rw [h]; rfl
theorem p_person {ns k : Nat} {ci : Nat → Int32} {cf : Nat → Nat → Int32} {cl : Nat → Nat → Int64} {cn : Nat → Nat} {mi : Nat → Int32} {mf : Nat → Nat → Int32} (hk : 200000 ≤ k) (h : z_inv ns ci cf cl cn mi mf) (p1 p2 : Int32) : wp (f_SS_person (ci 20) (ci 24) (cf 16) p1 p2) (fun q => wp (f_Mo_person k (mi 6) (mi 7) (mi 9) (mf 11) p1 p2) (fun q' => q = q' ∧ z_inv (ns + 1) ci cf cl cn mi mf)) := by
  have h0 := h
  obtain ⟨c, n, S, x, d, hT, ok, hdr, hml, hRU, hN, hU, hK, hR, hQ, hY, hF, hW, hl1, hl2, hb⟩ := h
  have hPe : (ci 24) = nI S.1 := hdr.2.2.1; have hSp : (ci 25) = nI S.2.1 := hdr.2.2.2.1; have hmM : (mi 6) = nI S.2.1 := hml.1; have hmP : (mi 9) = nI S.1 := hml.2.1; have hP1 := ok.1.1; have hP3 := ok.1.2.1; have hM5 := ok.1.2.2.1
  obtain ⟨n1, n2, n3, n4, n5, n6⟩ := hN
  have hx := n1.1
  rw [hPe, hmP, hmM, n3, n5]
  rcases z_smal (p := p1) S.1 (by omega) with hneg | ⟨p, hp, rfl⟩ | ⟨p, hp, hp', rfl⟩
  · refine w_2 (r1 := -2) (r2 := -2) ?_ ?_ ⟨rfl, z_inv_s h0⟩
    · unfold f_SS_person
      exact e_B (t_hasPersonN hneg) (e_T rfl rfl)
    · unfold f_Mo_person
      exact e_B (m_isPersonN hneg) (e_T rfl rfl)
  · have a1 := t_hasPerson (P := S.1) (p := p) (by omega) (by omega)
    have b1 := m_isPerson (P := S.1) (n := p) (by omega) (by omega)
    rw [decide_eq_true hp] at a1 b1
    rcases z_smal (p := p2) 4 (by omega) with hneg | ⟨q, hq, rfl⟩ | ⟨q, hq, hq', rfl⟩
    · refine w_2 (r1 := -3) (r2 := -3) ?_ ?_ ⟨rfl, z_inv_s h0⟩
      · unfold f_SS_person
        refine e_B a1 ?_
        refine e_F (by decide) ?_
        exact e_T hneg rfl
      · unfold f_Mo_person
        refine e_B b1 ?_
        refine e_F (by decide) ?_
        refine e_B (m_inneg hneg (a := 0) (by decide) (lN 2)) ?_
        refine e_T rfl ?_
        exact e_F (fun e => by rw [e] at hneg; exact absurd hneg (by decide)) rfl
    · have b2 := m_in0N (v := q) (b := 2) (by omega) (by decide)
      by_cases hq3 : q = 3
      · subst hq3
        refine w_2 (r1 := (((nI x >>> ((7 : Int32) &&& 31)) &&& (7 : Int32)) >>> (nI p &&& 31)) &&& (1 : Int32)) (r2 := (((nI x >>> ((7 : Int32) &&& 31)) &&& (7 : Int32)) >>> (nI p &&& 31)) &&& (1 : Int32)) ?_ ?_ ⟨rfl, z_inv_s h0⟩
        · unfold f_SS_person f_St_weepers
          refine e_B a1 ?_
          refine e_F (by decide) ?_
          refine e_F (by decide) ?_
          refine e_T (by decide) ?_
          exact e_T rfl rfl
        · unfold f_Mo_person f_Mo_weepersOf
          refine e_B b1 ?_
          refine e_F (by decide) ?_
          refine e_B b2 ?_
          refine e_T rfl ?_
          exact e_T rfl rfl
      · rw [decide_eq_true (by omega)] at b2
        have em := m_under ok.1 hml.2.2.2.2 (k := k) (x := x) (p := p) (kd := q) (by omega) (by omega) (by omega) (by omega)
        have ec := t_cursesOn hRU.2.2.2.1 (p := p) (kd := q) (by omega) (by omega)
        refine w_2 (r1 := nI (z_und S.2.1 S.2.2.2.2 x p q).toNat) (r2 := nI (z_und S.2.1 S.2.2.2.2 x p q).toNat) ?_ ?_ ⟨rfl, z_inv_s h0⟩
        · unfold f_SS_person f_SS_person_J65
          refine e_B a1 ?_
          refine e_F (by decide) ?_
          refine e_F (nI_pos (by omega)) ?_
          refine e_T (by simp (disch := omega) only [q_lit, q_ofn, nI_add, q_mul, q_sub, q_shrm, q_shlm, q_a31s, q_a1, q_a3, q_a7, q_a65535, q_div, q_rem2, z_mm, nI_clamp, Nat.reduceMul, Nat.reduceAdd, Nat.reduceSub, Nat.reducePow, Nat.reduceMod, Nat.reduceDiv, Nat.one_mul, nI_ltI, nI_leI, nI_eq, q_b0, q_b1, q_m1lt, q_m1le, q_ltm1, q_lem1, q_eqm1, q_m1eq, not_true_eq_false, not_false_eq_true, reduceCtorEq, *] <;> first | omega | decide) ?_
          refine e_F (by simp (disch := omega) only [q_lit, q_ofn, nI_add, q_mul, q_sub, q_shrm, q_shlm, q_a31s, q_a1, q_a3, q_a7, q_a65535, q_div, q_rem2, z_mm, nI_clamp, Nat.reduceMul, Nat.reduceAdd, Nat.reduceSub, Nat.reducePow, Nat.reduceMod, Nat.reduceDiv, Nat.one_mul, nI_ltI, nI_leI, nI_eq, q_b0, q_b1, q_m1lt, q_m1le, q_ltm1, q_lem1, q_eqm1, q_m1eq, not_true_eq_false, not_false_eq_true, reduceCtorEq, *] <;> first | omega | decide) ?_
          refine e_B ec ?_
          refine e_X (t_und hM5 (by omega)) (fun hh => ?_) (fun hh => ?_)
          · rw [hh]; exact e_B (t_oneIf false) rfl
          · rw [Bool.not_eq_false] at hh
            rw [hh]; exact e_B (t_oneIf true) rfl
        · unfold f_Mo_person
          refine e_B b1 ?_
          refine e_F (by decide) ?_
          refine e_B b2 ?_
          refine e_F (by decide) ?_
          refine e_B em ?_
          cases z_und S.2.1 S.2.2.2.2 x p q
          · exact e_T rfl rfl
          · exact e_F (by decide) rfl
    · have b2 := m_in0N (v := q) (b := 2) (by omega) (by decide)
      rw [decide_eq_false (by omega)] at b2
      refine w_2 (r1 := -3) (r2 := -3) ?_ ?_ ⟨rfl, z_inv_s h0⟩
      · unfold f_SS_person
        refine e_B a1 ?_
        refine e_F (by decide) ?_
        refine e_F (nI_pos (by omega)) ?_
        exact e_F (by simp (disch := omega) only [q_lit, q_ofn, nI_add, q_mul, q_sub, q_shrm, q_shlm, q_a31s, q_a1, q_a3, q_a7, q_a65535, q_div, q_rem2, z_mm, nI_clamp, Nat.reduceMul, Nat.reduceAdd, Nat.reduceSub, Nat.reducePow, Nat.reduceMod, Nat.reduceDiv, Nat.one_mul, nI_ltI, nI_leI, nI_eq, q_b0, q_b1, q_m1lt, q_m1le, q_ltm1, q_lem1, q_eqm1, q_m1eq, not_true_eq_false, not_false_eq_true, reduceCtorEq, *] <;> first | omega | decide) rfl
      · unfold f_Mo_person
        refine e_B b1 ?_
        refine e_F (by decide) ?_
        refine e_B b2 ?_
        refine e_T rfl ?_
        exact e_F (by simp (disch := omega) only [q_lit, q_ofn, nI_add, q_mul, q_sub, q_shrm, q_shlm, q_a31s, q_a1, q_a3, q_a7, q_a65535, q_div, q_rem2, z_mm, nI_clamp, Nat.reduceMul, Nat.reduceAdd, Nat.reduceSub, Nat.reducePow, Nat.reduceMod, Nat.reduceDiv, Nat.one_mul, nI_ltI, nI_leI, nI_eq, q_b0, q_b1, q_m1lt, q_m1le, q_ltm1, q_lem1, q_eqm1, q_m1eq, not_true_eq_false, not_false_eq_true, reduceCtorEq, *] <;> first | omega | decide) rfl
  · have a1 := t_hasPerson (P := S.1) (p := p) (by omega) (by omega)
    have b1 := m_isPerson (P := S.1) (n := p) (by omega) (by omega)
    rw [decide_eq_false (by omega)] at a1 b1
    refine w_2 (r1 := -2) (r2 := -2) ?_ ?_ ⟨rfl, z_inv_s h0⟩
    · unfold f_SS_person
      exact e_B a1 (e_T rfl rfl)
    · unfold f_Mo_person
      exact e_B b1 (e_T rfl rfl)
theorem p_spell {ns k : Nat} {ci : Nat → Int32} {cf : Nat → Nat → Int32} {cl : Nat → Nat → Int64} {cn : Nat → Nat} {mi : Nat → Int32} {mf : Nat → Nat → Int32} (hk : 200000 ≤ k) (h : z_inv ns ci cf cl cn mi mf) (p1 p2 : Int32) : wp (f_SS_spell (ci 20) (ci 25) (cf 14) (cf 26) (cf 29) (cf 30) (cf 31) p1 p2) (fun q => wp (f_Mo_spell k (mi 6) (mi 7) (mf 11) p1 p2) (fun q' => q = q' ∧ z_inv (ns + 1) ci cf cl cn mi mf)) := by
  have h0 := h
  obtain ⟨c, n, S, x, d, hT, ok, hdr, hml, hRU, hN, hU, hK, hR, hQ, hY, hF, hW, hl1, hl2, hb⟩ := h
  have hPe : (ci 24) = nI S.1 := hdr.2.2.1; have hSp : (ci 25) = nI S.2.1 := hdr.2.2.2.1; have hmM : (mi 6) = nI S.2.1 := hml.1; have hmP : (mi 9) = nI S.1 := hml.2.1; have hP1 := ok.1.1; have hP3 := ok.1.2.1; have hM5 := ok.1.2.2.1
  obtain ⟨n1, n2, n3, n4, n5, n6⟩ := hN
  have hx := n1.1
  rw [hSp, hmM, n3, n5]
  rcases z_smal (p := p1) S.2.1 (by omega) with hneg | ⟨s, hs, rfl⟩ | ⟨p, hp, hp', rfl⟩
  · refine w_2 (r1 := -2) (r2 := -2) ?_ ?_ ⟨rfl, z_inv_s h0⟩
    · unfold f_SS_spell
      exact e_B (t_hasSpellN hneg) (e_T rfl rfl)
    · unfold f_Mo_spell
      exact e_B (m_isSpellN hneg) (e_T rfl rfl)
  · have a1 := t_hasSpell (M := S.2.1) (s := s) hM5 (by omega)
    have b1 := m_isSpell (P := S.2.1) (n := s) (by omega) (by omega)
    rw [decide_eq_true hs] at a1 b1
    obtain ⟨r1, r2⟩ := hml.2.2.2.2 s hs
    obtain ⟨c1, c2, c3, c4, c5⟩ := hdr.2.2.2.2 s hs
    have oS := ok.1.2.2.2 s hs
    have c1 : (cf 26) s = nI (S.2.2.2.2 s 0) := c1
    have c2 : (cf 29) s = nI (S.2.2.2.2 s 1) := c2
    have c3 : (cf 30) s = nI (S.2.2.2.2 s 2) := c3
    have c4 : (cf 31) s = _ := c4
    have r2 : (mf 11) (10 * s + 9) = _ := r2
    have r1 : ∀ j, j < 3 + 2 * S.2.2.2.2 s 2 → (mf 11) (10 * s + j) = nI (S.2.2.2.2 s j) := r1
    have fin : ∀ r : Int32, f_SS_spell (nI x) (nI S.2.1) (cf 14) (cf 26) (cf 29) (cf 30) (cf 31) (nI s) p2 = some r → f_Mo_spell k (nI S.2.1) (nI x) (mf 11) (nI s) p2 = some r → wp (f_SS_spell (nI x) (nI S.2.1) (cf 14) (cf 26) (cf 29) (cf 30) (cf 31) (nI s) p2) (fun q => wp (f_Mo_spell k (nI S.2.1) (nI x) (mf 11) (nI s) p2) (fun q' => q = q' ∧ z_inv (ns + 1) ci cf cl cn mi mf)) := fun r e1 e2 => w_2 e1 e2 ⟨rfl, z_inv_s h0⟩
    by_cases q0 : p2 = nI 0
    · subst q0
      refine fin (nI (S.2.2.2.2 s 0)) ?_ ?_
      · unfold f_SS_spell
        refine e_B a1 (e_F (by decide) (e_T rfl ?_))
        exact e_B (t_kindOf hM5 hs _) (by rw [c1])
      · unfold f_Mo_spell f_Mo_spell_J52
        refine e_B b1 (e_F (by decide) (e_T rfl (e_L ?_)))
        refine e_I (i := 10 * s + 0) (by first | (with_reducible rfl) | (simp (disch := omega) only [q_lit, q_ofn, nI_add, q_mul, q_sub, q_shrm, q_shlm, q_a31s, q_a1, q_a3, q_a7, q_a65535, q_div, q_rem2, z_mm, nI_clamp, Nat.reduceMul, Nat.reduceAdd, Nat.reduceSub, Nat.reducePow, Nat.reduceMod, Nat.reduceDiv, Nat.one_mul]; done) | (simp (disch := omega) only [q_lit, q_ofn, nI_add, q_mul, q_sub, q_shrm, q_shlm, q_a31s, q_a1, q_a3, q_a7, q_a65535, q_div, q_rem2, z_mm, nI_clamp, Nat.reduceMul, Nat.reduceAdd, Nat.reduceSub, Nat.reducePow, Nat.reduceMod, Nat.reduceDiv, Nat.one_mul]; with_reducible rfl)) (by omega) (by decide) ?_
        rw [r1 0 (by omega)]
    by_cases q1 : p2 = nI 1
    · subst q1
      refine fin (nI (S.2.2.2.2 s 1)) ?_ ?_
      · unfold f_SS_spell
        refine e_B a1 (e_F (by decide) (e_F (by decide) (e_T rfl ?_)))
        exact e_B (t_targetOf hM5 hs _) (by rw [c2])
      · unfold f_Mo_spell f_Mo_spell_J52
        refine e_B b1 (e_F (by decide) (e_F (by decide) (e_T rfl (e_L ?_))))
        refine e_I (i := 10 * s + 1) (by first | (with_reducible rfl) | (simp (disch := omega) only [q_lit, q_ofn, nI_add, q_mul, q_sub, q_shrm, q_shlm, q_a31s, q_a1, q_a3, q_a7, q_a65535, q_div, q_rem2, z_mm, nI_clamp, Nat.reduceMul, Nat.reduceAdd, Nat.reduceSub, Nat.reducePow, Nat.reduceMod, Nat.reduceDiv, Nat.one_mul]; done) | (simp (disch := omega) only [q_lit, q_ofn, nI_add, q_mul, q_sub, q_shrm, q_shlm, q_a31s, q_a1, q_a3, q_a7, q_a65535, q_div, q_rem2, z_mm, nI_clamp, Nat.reduceMul, Nat.reduceAdd, Nat.reduceSub, Nat.reducePow, Nat.reduceMod, Nat.reduceDiv, Nat.one_mul]; with_reducible rfl)) (by omega) (by decide) ?_
        rw [r1 1 (by omega)]
    by_cases q2 : p2 = nI 2
    · subst q2
      refine fin ((nI x >>> (nI s &&& 31)) &&& (1 : Int32)) ?_ ?_
      · unfold f_SS_spell
        exact e_B a1 (e_F (by decide) (e_F (by decide) (e_F (by decide) (e_T rfl rfl))))
      · unfold f_Mo_spell
        exact e_B b1 (e_F (by decide) (e_F (by decide) (e_F (by decide) (e_T rfl rfl))))
    by_cases q3 : p2 = nI 3
    · subst q3
      have em := m_bound ok.1 hml.2.2.2.2 (k := k) (x := x) (p := s) (by omega) (by omega) (by omega)
      refine fin (nI (z_und S.2.1 S.2.2.2.2 x s 3).toNat) ?_ ?_
      · unfold f_SS_spell f_SS_spell_J100
        refine e_B a1 (e_F (by decide) (e_F (by decide) (e_F (by decide) (e_F (by decide) (e_T rfl ?_)))))
        refine e_B (t_bindersOf hRU.2.2.2.1 (by omega)) ?_
        refine e_X (t_und hM5 (by omega)) (fun hh => ?_) (fun hh => ?_)
        · rw [hh]; exact e_B (t_oneIf false) rfl
        · rw [Bool.not_eq_false] at hh
          rw [hh]; exact e_B (t_oneIf true) rfl
      · unfold f_Mo_spell
        refine e_B b1 (e_F (by decide) (e_F (by decide) (e_F (by decide) (e_F (by decide) (e_T rfl ?_)))))
        refine e_B em ?_
        cases z_und S.2.1 S.2.2.2.2 x s 3
        · exact e_T rfl rfl
        · exact e_F (by decide) rfl
    by_cases q4 : p2 = nI 4
    · subst q4
      refine fin (nI (S.2.2.2.2 s 2)) ?_ ?_
      · unfold f_SS_spell
        refine e_B a1 (e_F (by decide) (e_F (by decide) (e_F (by decide) (e_F (by decide) (e_F (by decide) (e_T rfl ?_))))))
        exact e_B (t_termsOf hM5 hs _) (by rw [c3])
      · unfold f_Mo_spell
        refine e_B b1 (e_F (by decide) (e_F (by decide) (e_F (by decide) (e_F (by decide) (e_F (by decide) (e_T rfl (e_L ?_)))))))
        refine e_I (i := 10 * s + 2) (by first | (with_reducible rfl) | (simp (disch := omega) only [q_lit, q_ofn, nI_add, q_mul, q_sub, q_shrm, q_shlm, q_a31s, q_a1, q_a3, q_a7, q_a65535, q_div, q_rem2, z_mm, nI_clamp, Nat.reduceMul, Nat.reduceAdd, Nat.reduceSub, Nat.reducePow, Nat.reduceMod, Nat.reduceDiv, Nat.one_mul]; done) | (simp (disch := omega) only [q_lit, q_ofn, nI_add, q_mul, q_sub, q_shrm, q_shlm, q_a31s, q_a1, q_a3, q_a7, q_a65535, q_div, q_rem2, z_mm, nI_clamp, Nat.reduceMul, Nat.reduceAdd, Nat.reduceSub, Nat.reducePow, Nat.reduceMod, Nat.reduceDiv, Nat.one_mul]; with_reducible rfl)) (by omega) (by decide) ?_
        rw [r1 2 (by omega)]
    by_cases q5 : p2 = nI 5
    · subst q5
      refine fin ((cf 31) s) ?_ ?_
      · unfold f_SS_spell
        refine e_B a1 (e_F (by decide) (e_F (by decide) (e_F (by decide) (e_F (by decide) (e_F (by decide) (e_F (by decide) (e_T rfl ?_)))))))
        exact e_B (t_wakenedBy hM5 hs _) rfl
      · unfold f_Mo_spell
        refine e_B b1 (e_F (by decide) (e_F (by decide) (e_F (by decide) (e_F (by decide) (e_F (by decide) (e_F (by decide) (e_T rfl (e_L ?_))))))))
        refine e_I (i := 10 * s + 9) (by first | (with_reducible rfl) | (simp (disch := omega) only [q_lit, q_ofn, nI_add, q_mul, q_sub, q_shrm, q_shlm, q_a31s, q_a1, q_a3, q_a7, q_a65535, q_div, q_rem2, z_mm, nI_clamp, Nat.reduceMul, Nat.reduceAdd, Nat.reduceSub, Nat.reducePow, Nat.reduceMod, Nat.reduceDiv, Nat.one_mul]; done) | (simp (disch := omega) only [q_lit, q_ofn, nI_add, q_mul, q_sub, q_shrm, q_shlm, q_a31s, q_a1, q_a3, q_a7, q_a65535, q_div, q_rem2, z_mm, nI_clamp, Nat.reduceMul, Nat.reduceAdd, Nat.reduceSub, Nat.reducePow, Nat.reduceMod, Nat.reduceDiv, Nat.one_mul]; with_reducible rfl)) (by omega) (by decide) ?_
        rw [r2, c4]
    refine fin (-3) ?_ ?_
    · unfold f_SS_spell
      exact e_B a1 (e_F (by decide) (e_F q0 (e_F q1 (e_F q2 (e_F q3 (e_F q4 (e_F q5 rfl)))))))
    · unfold f_Mo_spell
      exact e_B b1 (e_F (by decide) (e_F q0 (e_F q1 (e_F q2 (e_F q3 (e_F q4 (e_F q5 rfl)))))))
  · have a1 := t_hasSpell (M := S.2.1) (s := p) hM5 (by omega)
    have b1 := m_isSpell (P := S.2.1) (n := p) (by omega) (by omega)
    rw [decide_eq_false (by omega)] at a1 b1
    refine w_2 (r1 := -2) (r2 := -2) ?_ ?_ ⟨rfl, z_inv_s h0⟩
    · unfold f_SS_spell
      exact e_B a1 (e_T rfl rfl)
    · unfold f_Mo_spell
      exact e_B b1 (e_T rfl rfl)
