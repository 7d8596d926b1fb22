/-! texts: to their first fault -/
def z_txt (C : Nat → Nat) : Nat → zS → Nat → List zL → Bool × Nat × List zL
  | 0, S, j, R => if (z_li S.1 S.2.1 C j).1 = false then (false, (z_li S.1 S.2.1 C j).2.1, R) else if C (z_li S.1 S.2.1 C j).2.1 = 11 then (true, (z_li S.1 S.2.1 C j).2.1, R ++ [z_liL (z_li S.1 S.2.1 C j)]) else (false, (z_li S.1 S.2.1 C j).2.1, R ++ [z_liL (z_li S.1 S.2.1 C j)])
  | r + 1, S, j, R => if (z_li S.1 S.2.1 C j).1 = false then (false, (z_li S.1 S.2.1 C j).2.1, R) else if C (z_li S.1 S.2.1 C j).2.1 = 11 then (true, (z_li S.1 S.2.1 C j).2.1, R ++ [z_liL (z_li S.1 S.2.1 C j)]) else if C (z_li S.1 S.2.1 C j).2.1 = 10 then z_txt C r (z_ap1 S (z_liL (z_li S.1 S.2.1 C j))) ((z_li S.1 S.2.1 C j).2.1 + 1) (R ++ [z_liL (z_li S.1 S.2.1 C j)]) else (false, (z_li S.1 S.2.1 C j).2.1, R ++ [z_liL (z_li S.1 S.2.1 C j)])
/-- behind a line -/
def z_txc (C : Nat → Nat) (r : Nat) (S : zS) (j : Nat) (R : List zL) : Bool × Nat × List zL := if C j = 11 then (true, j, R) else if r = 0 then (false, j, R) else if C j = 10 then z_txt C (r - 1) S (j + 1) R else (false, j, R)
theorem z_txt_eq (C : Nat → Nat) (r : Nat) (S : zS) (j : Nat) (R : List zL) : z_txt C r S j R = if (z_li S.1 S.2.1 C j).1 = false then (false, (z_li S.1 S.2.1 C j).2.1, R) else z_txc C r (z_ap1 S (z_liL (z_li S.1 S.2.1 C j))) (z_li S.1 S.2.1 C j).2.1 (R ++ [z_liL (z_li S.1 S.2.1 C j)]) := by
  cases r with
  | zero =>
    unfold z_txt z_txc
    rw [if_pos (rfl : (0 : Nat) = 0)]
  | succ r =>
    show (if (z_li S.1 S.2.1 C j).1 = false then _ else _) = _
    unfold z_txc
    rw [if_neg (Nat.succ_ne_zero r), Nat.add_sub_cancel]
/-! the class -/
/-- answer, at, codes' size, broken, day, people, spells, lines, places' size, codes, kinds, numbers, sorts, targets, terms, wakes, places -/
def z_ffQ (c : Nat → Nat) (n : Nat) (S0 : zS) (T : Bool × Nat × List zL) (q : Int32 × Int32 × Int32 × Int32 × Int32 × Int32 × Int32 × Int32 × Int32 × (Nat → Int32) × (Nat → Int32) × (Nat → Int32) × (Nat → Int32) × (Nat → Int32) × (Nat → Int32) × (Nat → Int32) × (Nat → Int32)) : Prop := (T.1 = true ∧ q.1 = -nI 1 ∧ z_okL (T.2.2.foldl z_ap1 S0) ∧ T.2.2.length ≤ 12 ∧ z_dr (T.2.2.foldl z_ap1 S0) (q.2.2.2.1, q.2.2.2.2.1, q.2.2.2.2.2.1, q.2.2.2.2.2.2.1, q.2.2.2.2.2.2.2.2.2.2.1, q.2.2.2.2.2.2.2.2.2.2.2.1, q.2.2.2.2.2.2.2.2.2.2.2.2.1, q.2.2.2.2.2.2.2.2.2.2.2.2.2.1, q.2.2.2.2.2.2.2.2.2.2.2.2.2.2.1, q.2.2.2.2.2.2.2.2.2.2.2.2.2.2.2.1) ∧ q.2.2.2.2.2.2.2.1 = nI T.2.2.length) ∨ (T.1 = false ∧ q.1 = nI (z_tp c n T.2.1))
theorem t_fault_L {c : Nat → Nat} {n m : Nat} {S0 : zS} {cs ps ub ud up us ts : Int32} {cf pf uk un uo ut ue uw f : Nat → Int32} (h : z_tk c n m cs ps cf pf) : ∀ r j k (R : List zL) (vb vd vp vs : Int32) (kf nf sf tf mf wf : Nat → Int32), R.length + r = 11 → r + 30 < k → j ≤ m → z_okL (R.foldl z_ap1 S0) → z_dr (R.foldl z_ap1 S0) (vb, vd, vp, vs, kf, nf, sf, tf, mf, wf) → wp (f_Rd_firstFault_L22 241 241 240 ub ud up us cs ps ts uk un uo ut ue uw cf pf f k (nI j) vb vd vp vs (nI (R.length + 1)) kf nf sf tf mf wf) (fun q => match q with
    | .inl _ => False
    | .inr q => z_ffQ c n S0 (z_txt (z_C c n) r (R.foldl z_ap1 S0) j R) q) := by
  intro r
  induction r with
  | zero =>
    intro j k R vb vd vp vs kf nf sf tf mf wf hR hk hj ok hd
    obtain ⟨k, rfl⟩ : ∃ k', k = k' + 1 := ⟨k - 1, by omega⟩
    rw [f_Rd_firstFault_L22]
    refine w_F (by simp (disch := omega) only [q_lit, q_ofn, nI_add, q_mul, q_sub, q_shrm, q_shlm, q_a31s, q_a1, q_a3, q_a7, q_a65535, q_div, q_rem2, z_mm, nI_clamp, Nat.reduceMul, Nat.reduceAdd, Nat.reduceSub, Nat.reducePow, Nat.reduceMod, Nat.reduceDiv, Nat.one_mul, nI_ltI, nI_leI, nI_eq, q_b0, q_b1, q_m1lt, q_m1le, q_ltm1, q_lem1, q_eqm1, q_m1eq, not_true_eq_false, not_false_eq_true, reduceCtorEq, *] <;> first | omega | decide) ?_
    refine w_Bw (t_readLine h ok hj hd (by omega)) (fun q hq => ?_)
    obtain ⟨q1, q2, q3, q4, q5, q6, q7, q8, q9, q10, q11, q12⟩ := q
    obtain ⟨g1, g2, g3⟩ := hq
    simp only at g1
    subst g1
    rw [z_txt_eq]
    rcases g3 with ⟨g3, g4, g5⟩ | ⟨g3, g4⟩
    · simp only at g4 g5
      subst g4
      rw [if_neg (by rw [g3]; decide)]
      refine w_F (by decide) ?_
      refine w_Be (z_tk_at h g2).1 ?_
      have hr := z_C_rng c n (z_li (R.foldl z_ap1 S0).1 (R.foldl z_ap1 S0).2.1 (z_C c n) j).2.1
      unfold z_txc
      by_cases c11 : z_C c n (z_li (R.foldl z_ap1 S0).1 (R.foldl z_ap1 S0).2.1 (z_C c n) j).2.1 = 11
      · refine w_T ((z_cI_eq hr (by decide)).mpr c11) (w_some ?_)
        rw [if_pos c11]
        refine Or.inl ⟨rfl, rfl, ?_, ?_, ?_, ?_⟩
        · rw [List.foldl_append]; exact z_li_ok ok g3
        · rw [List.length_append, List.length_singleton]; omega
        · rw [List.foldl_append]; exact g5
        · rw [List.length_append, List.length_singleton]
      · refine w_F (fun z => c11 ((z_cI_eq hr (by decide)).mp z)) ?_
        rw [if_neg c11, if_pos (rfl : (0 : Nat) = 0)]
        refine w_T (by rw [show R.length + 1 = 12 by omega]; rfl) ?_
        unfold f_Rd_firstFault_J86
        refine w_Be (z_tk_at h g2).2 (w_some ?_)
        exact Or.inr ⟨rfl, rfl⟩
    · simp only at g4
      subst g4
      rw [if_pos g3]
      refine w_T rfl ?_
      refine w_Be (z_tk_at h g2).2 (w_some ?_)
      exact Or.inr ⟨rfl, rfl⟩
  | succ r ih =>
    intro j k R vb vd vp vs kf nf sf tf mf wf hR hk hj ok hd
    obtain ⟨k, rfl⟩ : ∃ k', k = k' + 1 := ⟨k - 1, by omega⟩
    rw [f_Rd_firstFault_L22]
    refine w_F (by simp (disch := omega) only [q_lit, q_ofn, nI_add, q_mul, q_sub, q_shrm, q_shlm, q_a31s, q_a1, q_a3, q_a7, q_a65535, q_div, q_rem2, z_mm, nI_clamp, Nat.reduceMul, Nat.reduceAdd, Nat.reduceSub, Nat.reducePow, Nat.reduceMod, Nat.reduceDiv, Nat.one_mul, nI_ltI, nI_leI, nI_eq, q_b0, q_b1, q_m1lt, q_m1le, q_ltm1, q_lem1, q_eqm1, q_m1eq, not_true_eq_false, not_false_eq_true, reduceCtorEq, *] <;> first | omega | decide) ?_
    refine w_Bw (t_readLine h ok hj hd (by omega)) (fun q hq => ?_)
    obtain ⟨q1, q2, q3, q4, q5, q6, q7, q8, q9, q10, q11, q12⟩ := q
    obtain ⟨g1, g2, g3⟩ := hq
    simp only at g1
    subst g1
    rw [z_txt_eq]
    rcases g3 with ⟨g3, g4, g5⟩ | ⟨g3, g4⟩
    · simp only at g4 g5
      subst g4
      rw [if_neg (by rw [g3]; decide)]
      refine w_F (by decide) ?_
      refine w_Be (z_tk_at h g2).1 ?_
      have hr := z_C_rng c n (z_li (R.foldl z_ap1 S0).1 (R.foldl z_ap1 S0).2.1 (z_C c n) j).2.1
      unfold z_txc
      by_cases c11 : z_C c n (z_li (R.foldl z_ap1 S0).1 (R.foldl z_ap1 S0).2.1 (z_C c n) j).2.1 = 11
      · refine w_T ((z_cI_eq hr (by decide)).mpr c11) (w_some ?_)
        rw [if_pos c11]
        refine Or.inl ⟨rfl, rfl, ?_, ?_, ?_, ?_⟩
        · rw [List.foldl_append]; exact z_li_ok ok g3
        · rw [List.length_append, List.length_singleton]; omega
        · rw [List.foldl_append]; exact g5
        · rw [List.length_append, List.length_singleton]
      · refine w_F (fun z => c11 ((z_cI_eq hr (by decide)).mp z)) ?_
        rw [if_neg c11, if_neg (Nat.succ_ne_zero r)]
        refine w_F (by simp (disch := omega) only [q_lit, q_ofn, nI_add, q_mul, q_sub, q_shrm, q_shlm, q_a31s, q_a1, q_a3, q_a7, q_a65535, q_div, q_rem2, z_mm, nI_clamp, Nat.reduceMul, Nat.reduceAdd, Nat.reduceSub, Nat.reducePow, Nat.reduceMod, Nat.reduceDiv, Nat.one_mul, nI_ltI, nI_leI, nI_eq, q_b0, q_b1, q_m1lt, q_m1le, q_ltm1, q_lem1, q_eqm1, q_m1eq, not_true_eq_false, not_false_eq_true, reduceCtorEq, *] <;> first | omega | decide) ?_
        refine w_Be (t_takes (wd := 10) h g2 (by decide)) ?_
        by_cases c10 : z_C c n (z_li (R.foldl z_ap1 S0).1 (R.foldl z_ap1 S0).2.1 (z_C c n) j).2.1 = 10
        · have hj1 := z_tk_next h g2 c11
          rw [if_pos c10, if_pos c10]
          refine w_F (by decide) ?_
          refine w_Ln (w := nI (R.length + 1 + 1)) (by first | (with_reducible rfl) | (simp (disch := omega) only [q_lit, q_ofn, nI_add, q_mul, q_sub, q_shrm, q_shlm, q_a31s, q_a1, q_a3, q_a7, q_a65535, q_div, q_rem2, z_mm, nI_clamp, Nat.reduceMul, Nat.reduceAdd, Nat.reduceSub, Nat.reducePow, Nat.reduceMod, Nat.reduceDiv, Nat.one_mul]; done) | (simp (disch := omega) only [q_lit, q_ofn, nI_add, q_mul, q_sub, q_shrm, q_shlm, q_a31s, q_a1, q_a3, q_a7, q_a65535, q_div, q_rem2, z_mm, nI_clamp, Nat.reduceMul, Nat.reduceAdd, Nat.reduceSub, Nat.reducePow, Nat.reduceMod, Nat.reduceDiv, Nat.one_mul]; with_reducible rfl)) ?_
          have e1 : (R ++ [z_liL (z_li (R.foldl z_ap1 S0).1 (R.foldl z_ap1 S0).2.1 (z_C c n) j)]).foldl z_ap1 S0 = z_ap1 (R.foldl z_ap1 S0) (z_liL (z_li (R.foldl z_ap1 S0).1 (R.foldl z_ap1 S0).2.1 (z_C c n) j)) := by rw [List.foldl_append]; rfl
          have g := ih _ k (R ++ [z_liL (z_li (R.foldl z_ap1 S0).1 (R.foldl z_ap1 S0).2.1 (z_C c n) j)]) q3 q4 q5 q6 q7 q8 q9 q10 q11 q12 (by rw [List.length_append, List.length_singleton]; omega) (by omega) hj1 (by rw [e1]; exact z_li_ok ok g3) (by rw [e1]; exact g5)
          rw [e1, List.length_append, List.length_singleton] at g
          rw [Nat.add_sub_cancel]
          exact g
        · rw [if_neg c10, if_neg c10]
          refine w_T rfl ?_
          unfold f_Rd_firstFault_J86
          refine w_Be (z_tk_at h g2).2 (w_some ?_)
          exact Or.inr ⟨rfl, rfl⟩
    · simp only at g4
      subst g4
      rw [if_pos g3]
      refine w_T rfl ?_
      refine w_Be (z_tk_at h g2).2 (w_some ?_)
      exact Or.inr ⟨rfl, rfl⟩
theorem t_takeOver {S : zS} {ub ud up us vb vd vp vs : Int32} {uk un uo ut ue uw kf nf sf tf mf wf : Nat → Int32} (ok : z_okL S) (h : z_dr S (ub, ud, up, us, uk, un, uo, ut, ue, uw)) : wp (f_To_takeOver ub ud up us vb vd vp vs uk un uo ut ue uw kf nf sf tf mf wf) (z_dr S) := by
  unfold f_To_takeOver
  refine w_some ?_
  obtain ⟨h1, h2, h3, h4, h5⟩ := h
  refine ⟨h1, h2, h3, h4, ?_⟩
  have hM := ok.1.2.2.1
  intro s hs
  obtain ⟨a1, a2, a3, a4, a5⟩ := h5 s hs
  have hz : (0 : Int32).toNatClampNeg = 0 := by decide
  have h5' : (5 : Int32).toNatClampNeg = 5 := by decide
  have h15 : (15 : Int32).toNatClampNeg = 15 := by decide
  have b4 := (z_small ok.1 hs).2.2.2.2.1
  simp only [hz, h5', h15] at *
  refine ⟨?_, ?_, ?_, ?_, ?_⟩
  · rw [pk_cpy_in (by omega) (by omega), Nat.sub_zero, Nat.zero_add]; exact a1
  · rw [pk_cpy_in (by omega) (by omega), Nat.sub_zero, Nat.zero_add]; exact a2
  · rw [pk_cpy_in (by omega) (by omega), Nat.sub_zero, Nat.zero_add]; exact a3
  · rw [pk_cpy_in (by omega) (by omega), Nat.sub_zero, Nat.zero_add]; exact a4
  · intro i hi
    rw [pk_cpy_in (by omega) (by omega), pk_cpy_in (by omega) (by omega), Nat.sub_zero, Nat.zero_add]
    exact a5 i hi
theorem t_fault {c : Nat → Nat} {n k : Nat} {S0 : zS} {cs ps ub ud up us at0 vb vd vp vs vl : Int32} {cf pf uk un uo ut ue uw f kf nf sf tf mf wf : Nat → Int32} (ht : z_tx c n f) (ok : z_okL S0) (h : z_dr S0 (ub, ud, up, us, uk, un, uo, ut, ue, uw)) (hk : 1000 ≤ k) : wp (f_Rd_firstFault k 241 241 240 ub ud up us at0 cs vb vd vp vs vl ps (nI n) uk un uo ut ue uw cf kf nf sf tf mf wf pf f) (z_ffQ c n S0 (z_txt (z_C c n) 11 S0 0 [])) := by
  unfold f_Rd_firstFault
  refine w_Bw (t_takeOver ok h) (fun q hq => ?_)
  obtain ⟨q1, q2, q3, q4, q5, q6, q7, q8, q9, q10⟩ := q
  refine w_Bw (t_cut ht hk) (fun q hq2 => ?_)
  obtain ⟨v1, v2, v3, v4⟩ := q
  obtain ⟨m, hm⟩ := hq2
  refine w_Sw (t_fault_L (S0 := S0) hm 11 0 k [] q1 q2 q3 q4 q5 q6 q7 q8 q9 q10 rfl (by omega) (Nat.zero_le _) ok hq) ?_ ?_
  · intro b hb
    exact hb.elim
  · intro b hb
    exact w_some hb
/-! the reference -/
theorem z_code_10 {c : Nat → Nat} {n b : Nat} (hb : b ≤ n) : z_code c n b = 10 ↔ (b < n ∧ z_en c n b - b = 1 ∧ c b = 59) := by
  unfold z_code z_en
  by_cases h : n ≤ b
  · rw [if_pos h]
    constructor
    · intro z; omega
    · intro z; omega
  · rw [if_neg h, if_neg h]
    by_cases h1 : z_cl (c b) = 1
    · rw [if_pos h1]
      have := z_wcf_rng c b (z_end c n b - b) 17 0 (by omega)
      have hs : 97 ≤ c b := by unfold z_cl at h1; split at h1; omega; split at h1 <;> omega
      constructor
      · intro z; omega
      · intro z; omega
    · rw [if_neg h1]
      by_cases h2 : z_cl (c b) = 2
      · rw [if_pos h2]
        have hd : 48 ≤ c b ∧ c b ≤ 57 := by unfold z_cl at h2; split at h2; omega; split at h2 <;> omega
        split <;> constructor <;> intro z <;> omega
      · rw [if_neg h2]
        have h0 : z_cl (c b) = 0 := by have := z_cl_le (c b); omega
        have he : z_end c n b = b + 1 := by unfold z_end; rw [if_pos h0]
        rw [he]
        split <;> constructor <;> intro z <;> omega
/-- answer, at, end, place, readMany, readPeople, readSpells, read -/
def z_rfQ (c : Nat → Nat) (n : Nat) (T : Bool × Nat × List zL) (q : Int32 × Int32 × Int32 × Int32 × Int32 × Int32 × Int32 × (Nat → Int32)) : Prop := (T.1 = true ∧ q.1 = -nI 1 ∧ T.2.2.length ≤ 12 ∧ q.2.2.2.2.1 = nI T.2.2.length ∧ ∀ (i : Nat) (l : zL), T.2.2[i]? = some l → z_row i l q.2.2.2.2.2.2.2) ∨ (T.1 = false ∧ q.1 = nI (z_tp c n T.2.1))
theorem z_row_pre {i m : Nat} {l : zL} {rd rd' : Nat → Int32} (h : z_row i l rd) (hi : i < m) (he : ∀ x, x < 10 * m → rd' x = rd x) : z_row i l rd' := by
  obtain ⟨h1, h2, h3, h4⟩ := h
  refine ⟨h1, by rw [he _ (by omega)]; exact h2, fun z => by rw [he _ (by omega)]; exact h3 z, fun z1 z2 => ?_⟩
  obtain ⟨a1, a2, a3, a4, a5⟩ := h4 z1 z2
  refine ⟨a1, a2, a3, fun x x1 x2 => ?_, ?_⟩
  · rw [he _ (by omega)]; exact a4 x x1 x2
  · rw [he _ (by omega)]; exact a5
theorem z_rows_add {R : List zL} {l : zL} {rd rd' : Nat → Int32} (h : ∀ (i : Nat) (l : zL), R[i]? = some l → z_row i l rd) (he : ∀ x, x < 10 * R.length → rd' x = rd x) (hl : z_row R.length l rd') : ∀ (i : Nat) (l' : zL), (R ++ [l])[i]? = some l' → z_row i l' rd' := by
  intro i l' hi
  rcases Nat.lt_trichotomy i R.length with hlt | heq | hgt
  · rw [List.getElem?_append_left hlt] at hi
    exact z_row_pre (h i l' hi) hlt he
  · subst heq
    rw [List.getElem?_append_right (Nat.le_refl _), Nat.sub_self] at hi
    simp only [List.getElem?_cons_zero, Option.some.injEq] at hi
    subst hi
    exact hl
  · rw [List.getElem?_eq_none (by rw [List.length_append, List.length_singleton]; omega)] at hi
    cases hi
theorem m_fault_L {c : Nat → Nat} {n : Nat} {S0 : zS} {g : Nat → Int32} {mm pp : Int32} (ht : z_tx c n g) : ∀ r j k (R : List zL) (va ve vp vP vM : Int32) (rd : Nat → Int32), R.length + r = 12 → r + 510 < k → z_okL (R.foldl z_ap1 S0) → z_ps c n j va ve vp → vP = nI (R.foldl z_ap1 S0).1 → vM = nI (R.foldl z_ap1 S0).2.1 → (∀ (i : Nat) (l : zL), R[i]? = some l → z_row i l rd) → wp (f_Mo_fault_L42 (nI n) mm pp g k va ve vp (nI R.length) vP vM rd) (fun q => match q with
    | .inl (_, _, _, rm, _, _, rd') => ∃ R', z_txc (z_C c n) r (R.foldl z_ap1 S0) j R = (true, j, R') ∧ False ∨ True ∧ z_rfQ c n (z_txc (z_C c n) r (R.foldl z_ap1 S0) j R) (-1, 0, 0, 0, rm, 0, 0, rd')
    | .inr q => z_rfQ c n (z_txc (z_C c n) r (R.foldl z_ap1 S0) j R) q) := by
  have hn := ht.1
  intro r
  induction r with
  | zero =>
    intro j k R va ve vp vP vM rd hR hk ok hps hvP hvM hrows
    obtain ⟨k, rfl⟩ : ∃ k', k = k' + 1 := ⟨k - 1, by omega⟩
    obtain ⟨rfl, rfl, rfl⟩ := hps
    have hb := z_tp_le c n j
    obtain ⟨e1, e2⟩ := z_en_bd (c := c) hb
    rw [f_Mo_fault_L42]
    unfold z_txc
    by_cases c11 : z_C c n j = 11
    · refine w_T (nI_le (z_C_11.mp c11) (by omega)) (w_some ?_)
      rw [if_pos c11]
      exact ⟨R, Or.inr ⟨trivial, Or.inl ⟨rfl, rfl, by show R.length ≤ 12; omega, rfl, hrows⟩⟩⟩
    · have hlt : z_tp c n j < n := by
        rcases Nat.lt_or_ge (z_tp c n j) n with h | h
        · exact h
        · exact absurd (z_C_11.mpr h) c11
      obtain ⟨h1, h2⟩ := ht.2 _ hlt
      refine w_F (nI_ge hlt (by omega)) ?_
      rw [if_neg c11, if_pos (rfl : (0 : Nat) = 0)]
      unfold f_Mo_fault_J93
      have bad : wp (f_Mo_fault_J94 (f_Mo_fault_L42 (nI n) mm pp g k) k (nI (z_ze c n j)) (nI (z_ze c n j)) (nI n) mm pp (nI (z_tp c n j)) (nI R.length) vP vM rd g 0) (fun q => match q with
          | .inl (_, _, _, rm, _, _, rd') => ∃ R', (false, j, R) = (true, j, R') ∧ False ∨ True ∧ z_rfQ c n (false, j, R) (-1, 0, 0, 0, rm, 0, 0, rd')
          | .inr q => z_rfQ c n (false, j, R) q) := by
        unfold f_Mo_fault_J94 f_Mo_fault_J108
        refine w_T rfl ?_
        refine w_T rfl (w_some ?_)
        exact Or.inr ⟨rfl, rfl⟩
      refine w_if (fun _ => ?_) (fun _ => bad)
      refine w_I (i := z_tp c n j) (by first | (with_reducible rfl) | (simp (disch := omega) only [q_lit, q_ofn, nI_add, q_mul, q_sub, q_shrm, q_shlm, q_a31s, q_a1, q_a3, q_a7, q_a65535, q_div, q_rem2, z_mm, nI_clamp, Nat.reduceMul, Nat.reduceAdd, Nat.reduceSub, Nat.reducePow, Nat.reduceMod, Nat.reduceDiv, Nat.one_mul]; done) | (simp (disch := omega) only [q_lit, q_ofn, nI_add, q_mul, q_sub, q_shrm, q_shlm, q_a31s, q_a1, q_a3, q_a7, q_a65535, q_div, q_rem2, z_mm, nI_clamp, Nat.reduceMul, Nat.reduceAdd, Nat.reduceSub, Nat.reducePow, Nat.reduceMod, Nat.reduceDiv, Nat.one_mul]; with_reducible rfl)) (by omega) (by first | decide | omega) ?_
      refine w_if (fun _ => ?_) (fun _ => bad)
      exact w_T (by simp (disch := omega) only [q_lit, q_ofn, nI_add, q_mul, q_sub, q_shrm, q_shlm, q_a31s, q_a1, q_a3, q_a7, q_a65535, q_div, q_rem2, z_mm, nI_clamp, Nat.reduceMul, Nat.reduceAdd, Nat.reduceSub, Nat.reducePow, Nat.reduceMod, Nat.reduceDiv, Nat.one_mul, nI_ltI, nI_leI, nI_eq, q_b0, q_b1, q_m1lt, q_m1le, q_ltm1, q_lem1, q_eqm1, q_m1eq, not_true_eq_false, not_false_eq_true, reduceCtorEq, *] <;> first | omega | decide) bad
  | succ r ih =>
    intro j k R va ve vp vP vM rd hR hk ok hps hvP hvM hrows
    obtain ⟨k, rfl⟩ : ∃ k', k = k' + 1 := ⟨k - 1, by omega⟩
    obtain ⟨rfl, rfl, rfl⟩ := hps
    have hb := z_tp_le c n j
    obtain ⟨e1, e2⟩ := z_en_bd (c := c) hb
    rw [f_Mo_fault_L42]
    unfold z_txc
    by_cases c11 : z_C c n j = 11
    · refine w_T (nI_le (z_C_11.mp c11) (by omega)) (w_some ?_)
      rw [if_pos c11]
      exact ⟨R, Or.inr ⟨trivial, Or.inl ⟨rfl, rfl, by show R.length ≤ 12; omega, rfl, hrows⟩⟩⟩
    · have hlt : z_tp c n j < n := by
        rcases Nat.lt_or_ge (z_tp c n j) n with h | h
        · exact h
        · exact absurd (z_C_11.mpr h) c11
      obtain ⟨h1, h2⟩ := ht.2 _ hlt
      refine w_F (nI_ge hlt (by omega)) ?_
      rw [if_neg c11, if_neg (Nat.succ_ne_zero r)]
      unfold f_Mo_fault_J93
      have bad : wp (f_Mo_fault_J94 (f_Mo_fault_L42 (nI n) mm pp g k) k (nI (z_ze c n j)) (nI (z_ze c n j)) (nI n) mm pp (nI (z_tp c n j)) (nI R.length) vP vM rd g 0) (fun q => match q with
          | .inl (_, _, _, rm, _, _, rd') => ∃ R', (false, j, R) = (true, j, R') ∧ False ∨ True ∧ z_rfQ c n (false, j, R) (-1, 0, 0, 0, rm, 0, 0, rd')
          | .inr q => z_rfQ c n (false, j, R) q) := by
        unfold f_Mo_fault_J94 f_Mo_fault_J108
        refine w_T rfl ?_
        refine w_T rfl (w_some ?_)
        exact Or.inr ⟨rfl, rfl⟩
      have h10 := z_code_10 (c := c) hb
      show wp (if nI (z_en c n (z_tp c n j)) - nI (z_tp c n j) = 1 then _ else _) _
      rw [q_sub e1]
      by_cases k1 : z_en c n (z_tp c n j) - z_tp c n j = 1
      · refine w_T (by rw [k1]; rfl) ?_
        refine w_I (i := z_tp c n j) (by first | (with_reducible rfl) | (simp (disch := omega) only [q_lit, q_ofn, nI_add, q_mul, q_sub, q_shrm, q_shlm, q_a31s, q_a1, q_a3, q_a7, q_a65535, q_div, q_rem2, z_mm, nI_clamp, Nat.reduceMul, Nat.reduceAdd, Nat.reduceSub, Nat.reducePow, Nat.reduceMod, Nat.reduceDiv, Nat.one_mul]; done) | (simp (disch := omega) only [q_lit, q_ofn, nI_add, q_mul, q_sub, q_shrm, q_shlm, q_a31s, q_a1, q_a3, q_a7, q_a65535, q_div, q_rem2, z_mm, nI_clamp, Nat.reduceMul, Nat.reduceAdd, Nat.reduceSub, Nat.reducePow, Nat.reduceMod, Nat.reduceDiv, Nat.one_mul]; with_reducible rfl)) (by omega) (by first | decide | omega) ?_
        rw [h1]
        by_cases k2 : c (z_tp c n j) = 59
        · have c10 : z_C c n j = 10 := h10.mpr ⟨hlt, k1, k2⟩
          refine w_T (by rw [k2]; rfl) ?_
          refine w_F (by simp (disch := omega) only [q_lit, q_ofn, nI_add, q_mul, q_sub, q_shrm, q_shlm, q_a31s, q_a1, q_a3, q_a7, q_a65535, q_div, q_rem2, z_mm, nI_clamp, Nat.reduceMul, Nat.reduceAdd, Nat.reduceSub, Nat.reducePow, Nat.reduceMod, Nat.reduceDiv, Nat.one_mul, nI_ltI, nI_leI, nI_eq, q_b0, q_b1, q_m1lt, q_m1le, q_ltm1, q_lem1, q_eqm1, q_m1eq, not_true_eq_false, not_false_eq_true, reduceCtorEq, *] <;> first | omega | decide) ?_
          rw [if_pos c10, Nat.add_sub_cancel, z_txt_eq]
          unfold f_Mo_fault_J94
          refine w_F (by decide) ?_
          refine w_Be (m_tok (j := j) ht c11 (by omega)) ?_
          subst hvP; subst hvM
          refine w_Bw (m_readsLine (j := j + 1) (S := R.foldl z_ap1 S0) (rm := R.length) ht (by omega) (by omega) ok) (fun q hq => ?_)
          obtain ⟨q1, q2, q3, q4, q5, q6, q7, q8⟩ := q
          obtain ⟨g1, g2⟩ := hq
          simp only at g1
          unfold f_Mo_fault_J108
          rcases g2 with ⟨g2, g3, g4, g5, g6, g7, g8⟩ | ⟨g2, g3⟩
          · simp only at g3 g4 g5 g6 g7 g8
            subst g3
            rw [if_neg (by rw [g2]; decide)]
            refine w_F (by decide) ?_
            have eF : (R ++ [z_liL (z_li (R.foldl z_ap1 S0).1 (R.foldl z_ap1 S0).2.1 (z_C c n) (j + 1))]).foldl z_ap1 S0 = z_ap1 (R.foldl z_ap1 S0) (z_liL (z_li (R.foldl z_ap1 S0).1 (R.foldl z_ap1 S0).2.1 (z_C c n) (j + 1))) := by rw [List.foldl_append]; rfl
            have g := ih (z_li (R.foldl z_ap1 S0).1 (R.foldl z_ap1 S0).2.1 (z_C c n) (j + 1)).2.1 k (R ++ [z_liL (z_li (R.foldl z_ap1 S0).1 (R.foldl z_ap1 S0).2.1 (z_C c n) (j + 1))]) q2 q3 q4 q6 q7 q8 (by rw [List.length_append, List.length_singleton]; omega) (by omega) (by rw [eF]; exact z_li_ok ok g2) g1 (by rw [eF]; exact g5) (by rw [eF]; exact g6) (z_rows_add hrows g8 g7)
            rw [eF, List.length_append, List.length_singleton] at g
            rw [← g4] at g
            refine w_mono g (fun q hq => ?_)
            match q, hq with
            | .inl (a1, a2, a3, a4, a5, a6, a7), hq =>
              obtain ⟨R', hq⟩ := hq
              rcases hq with ⟨_, hq⟩ | ⟨_, hq⟩
              · exact hq.elim
              · exact ⟨R', Or.inr ⟨trivial, hq⟩⟩
            | .inr q, hq => exact hq
          · simp only at g3
            subst g3
            rw [if_pos g2]
            refine w_T rfl (w_some ?_)
            refine Or.inr ⟨rfl, ?_⟩
            exact g1.2.2
        · have c10 : ¬ z_C c n j = 10 := fun z => k2 (h10.mp z).2.2
          refine w_F (by rw [q_lit, nI_eq (by omega) (by decide)]; exact k2) ?_
          rw [if_neg c10]
          exact bad
      · have c10 : ¬ z_C c n j = 10 := fun z => k1 (h10.mp z).2.1
        refine w_F (by rw [q_lit, nI_eq (by omega) (by decide)]; exact k1) ?_
        rw [if_neg c10]
        exact bad
