/-! the land told anew -/
theorem z_txt_pre {C : Nat → Nat} {S0 : zS} : ∀ r j (R : List zL), (∀ i, z_okL ((R.take i).foldl z_ap1 S0)) → ∀ i, z_okL (((z_txt C r (R.foldl z_ap1 S0) j R).2.2.take i).foldl z_ap1 S0) := by
  have ext : ∀ (R : List zL) (j : Nat), (∀ i, z_okL ((R.take i).foldl z_ap1 S0)) → ¬ (z_li (R.foldl z_ap1 S0).1 (R.foldl z_ap1 S0).2.1 C j).1 = false → ∀ i, z_okL (((R ++ [z_liL (z_li (R.foldl z_ap1 S0).1 (R.foldl z_ap1 S0).2.1 C j)]).take i).foldl z_ap1 S0) := by
    intro R j h hl i
    have ok := h R.length
    rw [List.take_length] at ok
    rcases Nat.lt_or_ge R.length i with hi | hi
    · rw [List.take_of_length_le (by rw [List.length_append, List.length_singleton]; omega), List.foldl_append]
      exact z_li_ok ok (z_bt hl)
    · rw [List.take_append_of_le_length hi]
      exact h i
  intro r
  induction r with
  | zero =>
    intro j R h
    unfold z_txt
    split
    · exact h
    · next hl => split <;> exact ext R j h hl
  | succ r ih =>
    intro j R h
    unfold z_txt
    split
    · exact h
    · next hl =>
      split
      · exact ext R j h hl
      · split
        · have g := ih ((z_li (R.foldl z_ap1 S0).1 (R.foldl z_ap1 S0).2.1 C j).2.1 + 1) (R ++ [z_liL (z_li (R.foldl z_ap1 S0).1 (R.foldl z_ap1 S0).2.1 C j)]) (ext R j h hl)
          rw [List.foldl_append] at g
          exact g
        · exact ext R j h hl
theorem m_fault {c : Nat → Nat} {n k : Nat} {S0 : zS} {g rd : Nat → Int32} {va ve vp rm rp rs : Int32} (ht : z_tx c n g) (ok : z_okL S0) (hk : 1000 ≤ k) : wp (f_Mo_fault k va ve (nI n) (nI S0.2.1) (nI S0.1) vp rm rp rs rd g) (z_rfQ c n (z_txt (z_C c n) 11 S0 0 [])) := by
  unfold f_Mo_fault
  have htok := m_token (a := 0) (en := ve) (pl := vp) (k := k) ht (Nat.zero_le _) (by omega)
  rw [Nat.sub_zero] at htok
  refine w_Be htok ?_
  refine w_Bw (m_readsLine (j := 0) (rm := 0) (rd := rd) ht (by omega) (by omega) ok) (fun q hq => ?_)
  obtain ⟨q1, q2, q3, q4, q5, q6, q7, q8⟩ := q
  obtain ⟨g1, g2⟩ := hq
  simp only at g1
  rw [z_txt_eq]
  rcases g2 with ⟨g2, g3, g4, g5, g6, g7, g8⟩ | ⟨g2, g3⟩
  · simp only at g3 g4 g5 g6 g7 g8
    subst g3; subst g4
    rw [if_neg (by rw [g2]; decide)]
    refine w_F (by decide) ?_
    have eF : ([z_liL (z_li S0.1 S0.2.1 (z_C c n) 0)] : List zL).foldl z_ap1 S0 = z_ap1 S0 (z_liL (z_li S0.1 S0.2.1 (z_C c n) 0)) := rfl
    have g := m_fault_L (S0 := S0) (mm := nI S0.2.1) (pp := nI S0.1) ht 11 (z_li S0.1 S0.2.1 (z_C c n) 0).2.1 k [z_liL (z_li S0.1 S0.2.1 (z_C c n) 0)] q2 q3 q4 q6 q7 q8 rfl (by omega) (by rw [eF]; exact z_li_ok ok g2) g1 (by rw [eF]; exact g5) (by rw [eF]; exact g6) (by
      intro i l hi
      cases i with
      | zero =>
        simp only [List.getElem?_cons_zero, Option.some.injEq] at hi
        subst hi
        exact g7
      | succ i => simp at hi)
    refine w_Sw g ?_ ?_
    · intro b hb
      obtain ⟨b1, b2, b3, b4, b5, b6, b7⟩ := b
      obtain ⟨R', hb⟩ := hb
      rcases hb with ⟨_, hb⟩ | ⟨_, hb⟩
      · exact hb.elim
      · refine w_some ?_
        rcases hb with ⟨h1, h2, h3, h4, h5⟩ | ⟨h1, h2⟩
        · exact Or.inl ⟨h1, rfl, h3, h4, h5⟩
        · exact Or.inr ⟨h1, h2⟩
    · intro b hb
      exact w_some hb
  · simp only at g3
    subst g3
    rw [if_pos g2]
    refine w_T rfl (w_some ?_)
    exact Or.inr ⟨rfl, g1.2.2⟩
/-- the reference's land: many, people, broken, day, spells -/
def z_ml (S : zS) (q : Int32 × Int32 × Int32 × Int32 × (Nat → Int32)) : Prop := q.1 = nI S.2.1 ∧ q.2.1 = nI S.1 ∧ q.2.2.1 = nI S.2.2.2.1 ∧ q.2.2.2.1 = nI S.2.2.1 ∧ z_rep S.2.1 S.2.2.2.2 q.2.2.2.2
theorem m_tell_L {i M : Nat} {rd : Nat → Int32} {pe br dy : Int32} (hi : i < 12) (hM : M < 5) : ∀ r x k (sf : Nat → Int32), x + r = 10 → r < k → wp (f_Mo_tell_L108 (nI M) pe br dy rd (nI (10 * i)) k (nI x) sf) (fun sf' => (∀ y, x ≤ y → y < 10 → sf' (10 * M + y) = rd (10 * i + y)) ∧ ∀ y, (y < 10 * M + x ∨ 10 * M + 10 ≤ y) → sf' y = sf y) := by
  intro r
  induction r with
  | zero =>
    intro x k sf hx hk
    obtain ⟨k, rfl⟩ : ∃ k', k = k' + 1 := ⟨k - 1, by omega⟩
    rw [f_Mo_tell_L108]
    refine w_T (by simp (disch := omega) only [q_lit, q_ofn, nI_add, q_mul, q_sub, q_shrm, q_shlm, q_a31s, q_a1, q_a3, q_a7, q_a65535, q_div, q_rem2, z_mm, nI_clamp, Nat.reduceMul, Nat.reduceAdd, Nat.reduceSub, Nat.reducePow, Nat.reduceMod, Nat.reduceDiv, Nat.one_mul, nI_ltI, nI_leI, nI_eq, q_b0, q_b1, q_m1lt, q_m1le, q_ltm1, q_lem1, q_eqm1, q_m1eq, not_true_eq_false, not_false_eq_true, reduceCtorEq, *] <;> first | omega | decide) (w_some ⟨fun y h1 h2 => by omega, fun y _ => rfl⟩)
  | succ r ih =>
    intro x k sf hx hk
    obtain ⟨k, rfl⟩ : ∃ k', k = k' + 1 := ⟨k - 1, by omega⟩
    rw [f_Mo_tell_L108]
    refine w_F (by simp (disch := omega) only [q_lit, q_ofn, nI_add, q_mul, q_sub, q_shrm, q_shlm, q_a31s, q_a1, q_a3, q_a7, q_a65535, q_div, q_rem2, z_mm, nI_clamp, Nat.reduceMul, Nat.reduceAdd, Nat.reduceSub, Nat.reducePow, Nat.reduceMod, Nat.reduceDiv, Nat.one_mul, nI_ltI, nI_leI, nI_eq, q_b0, q_b1, q_m1lt, q_m1le, q_ltm1, q_lem1, q_eqm1, q_m1eq, not_true_eq_false, not_false_eq_true, reduceCtorEq, *] <;> first | omega | decide) ?_
    refine w_Ln (w := nI (10 * i + x)) (nI_add _ _) ?_
    refine w_I (i := 10 * i + x) rfl (by omega) (by decide) ?_
    have e1 : (10 : Int32) * nI M + nI x = nI (10 * M + x) := by rw [show (10 : Int32) = nI 10 from rfl, q_mul, nI_add]
    refine w_C (i := 10 * M + x) e1 (by omega) (by decide) ?_
    refine w_Ln (w := nI (x + 1)) (by first | (with_reducible rfl) | (simp (disch := omega) only [q_lit, q_ofn, nI_add, q_mul, q_sub, q_shrm, q_shlm, q_a31s, q_a1, q_a3, q_a7, q_a65535, q_div, q_rem2, z_mm, nI_clamp, Nat.reduceMul, Nat.reduceAdd, Nat.reduceSub, Nat.reducePow, Nat.reduceMod, Nat.reduceDiv, Nat.one_mul]; done) | (simp (disch := omega) only [q_lit, q_ofn, nI_add, q_mul, q_sub, q_shrm, q_shlm, q_a31s, q_a1, q_a3, q_a7, q_a65535, q_div, q_rem2, z_mm, nI_clamp, Nat.reduceMul, Nat.reduceAdd, Nat.reduceSub, Nat.reducePow, Nat.reduceMod, Nat.reduceDiv, Nat.one_mul]; with_reducible rfl)) ?_
    rw [e1, nI_clamp (by omega)]
    refine w_mono (ih (x + 1) k _ (by omega) (by omega)) (fun sf' h => ⟨fun y h1 h2 => ?_, fun y hy => ?_⟩)
    · by_cases hyx : y = x
      · subst hyx
        rw [h.2 _ (by omega), z_upd_s]
      · exact h.1 y (by omega) h2
    · rw [h.2 y (by omega), z_upd_n (by omega)]
theorem m_tell {S : zS} {l : zL} {i k : Nat} {rd sf : Nat → Int32} {mm pe br dy : Int32} (hi : i < 12) (hrow : z_row i l rd) (hml : z_ml S (mm, pe, br, dy, sf)) (ok : z_okL S) (ok2 : z_okL (z_ap1 S l)) (hl8 : l.1 = 6 → l.2.1 < 2) (hk : 20 ≤ k) : wp (f_Mo_tell k mm pe br dy rd sf (nI (10 * i))) (z_ml (z_ap1 S l)) := by
  obtain ⟨P, M, dy0, br0, sp⟩ := S
  obtain ⟨lw, a, rc⟩ := l
  obtain ⟨rfl, rfl, rfl, rfl, hrep⟩ := hml
  obtain ⟨h1, h2, h3, h4⟩ := hrow
  simp only at h1 h2 h3 h4 hrep hl8
  have hM := ok.1.2.2.1
  simp only at hM
  unfold f_Mo_tell
  refine w_Ln (w := nI (10 * i + 1)) (by rw [show (1 : Int32) = nI 1 from rfl, nI_add]) ?_
  refine w_I (i := 10 * i + 1) rfl (by omega) (by decide) ?_
  refine w_I (i := 10 * i) rfl (by omega) (by decide) ?_
  rw [h2]
  have hne : ∀ v, v < 8 → lw ≠ v → ¬ nI lw = nI v := fun v hv h e => h ((nI_eq (by omega) (by omega)).mp e)
  by_cases k0 : lw = 0
  · refine w_T (by rw [k0]; rfl) (w_some ?_)
    subst k0
    refine ⟨rfl, ?_, rfl, rfl, fun s hs => by have hs : s < 0 := hs; omega⟩
    exact h3 (by decide)
  refine w_F (hne 0 (by omega) k0) ?_
  have J106 : 1 ≤ lw → lw ≤ 4 → wp (f_Mo_tell_J106 k (nI M) (nI P) (nI br0) (nI dy0) rd sf (nI (10 * i))) (z_ml (z_ap1 (P, M, dy0, br0, sp) (lw, a, rc))) := by
    intro l1 l2
    obtain ⟨r1, r2, r3, r4, r5⟩ := h4 l1 l2
    have eap : z_ap1 (P, M, dy0, br0, sp) (lw, a, rc) = (P, M + 1, dy0, br0, z_apS M sp rc) := by
      unfold z_ap1 z_ap
      simp only
      rw [if_neg (by omega), if_neg (by omega), if_neg (by omega), if_neg (by omega)]
    rw [eap] at ok2 ⊢
    have hM5 : M + 1 ≤ 5 := ok2.1.2.2.1
    unfold f_Mo_tell_J106
    refine w_Bw (m_tell_L hi (by omega) 10 0 k sf (by omega) (by omega)) (fun sf' hsf => ?_)
    refine w_I (i := 10 * i) rfl (by omega) (by decide) ?_
    rw [h2]
    refine w_Ln (w := nI (lw - 1)) (by rw [show (1 : Int32) = nI 1 from rfl, q_sub l1]) ?_
    have e1 : (10 : Int32) * nI M = nI (10 * M) := by rw [show (10 : Int32) = nI 10 from rfl, q_mul]
    refine w_C (i := 10 * M) e1 (by omega) (by decide) ?_
    refine w_Ln (w := nI (M + 1)) (by first | (with_reducible rfl) | (simp (disch := omega) only [q_lit, q_ofn, nI_add, q_mul, q_sub, q_shrm, q_shlm, q_a31s, q_a1, q_a3, q_a7, q_a65535, q_div, q_rem2, z_mm, nI_clamp, Nat.reduceMul, Nat.reduceAdd, Nat.reduceSub, Nat.reducePow, Nat.reduceMod, Nat.reduceDiv, Nat.one_mul]; done) | (simp (disch := omega) only [q_lit, q_ofn, nI_add, q_mul, q_sub, q_shrm, q_shlm, q_a31s, q_a1, q_a3, q_a7, q_a65535, q_div, q_rem2, z_mm, nI_clamp, Nat.reduceMul, Nat.reduceAdd, Nat.reduceSub, Nat.reducePow, Nat.reduceMod, Nat.reduceDiv, Nat.one_mul]; with_reducible rfl)) ?_
    rw [e1, nI_clamp (by omega)]
    refine w_some ⟨rfl, rfl, rfl, rfl, ?_⟩
    intro s hs
    have hs : s < M + 1 := hs
    show (∀ j, j < 3 + 2 * z_apS M sp rc s 2 → upd sf' (10 * M) (nI (lw - 1)) (10 * s + j) = nI (z_apS M sp rc s j)) ∧ upd sf' (10 * M) (nI (lw - 1)) (10 * s + 9) = if z_apS M sp rc s 9 = 0 then -nI 1 else nI (z_apS M sp rc s 9 - 1)
    by_cases hsM : s = M
    · subst hsM
      have hsp : z_apS s sp rc s = rc := if_pos rfl
      rw [hsp]
      refine ⟨?_, ?_⟩
      · intro j hj
        by_cases j0 : j = 0
        · subst j0
          rw [Nat.add_zero, z_upd_s]
          congr 1
          omega
        · rw [z_upd_n (by omega), hsf.1 j (by omega) (by omega)]
          exact r4 j (by omega) hj
      · rw [z_upd_n (by omega), hsf.1 9 (by omega) (by omega)]
        exact r5
    · have hsp : z_apS M sp rc s = sp s := if_neg hsM
      rw [hsp]
      have hb := z_small ok.1 (s := s) (by show s < M; omega)
      simp only at hb
      obtain ⟨q1, q2⟩ := hrep s (by omega)
      refine ⟨?_, ?_⟩
      · intro j hj
        rw [z_upd_n (by omega), hsf.2 _ (by omega)]
        exact q1 j hj
      · rw [z_upd_n (by omega), hsf.2 _ (by omega)]
        exact q2
  by_cases k1 : lw = 1
  · exact w_T (by rw [k1]; rfl) (J106 (by omega) (by omega))
  refine w_F (hne 1 (by omega) k1) ?_
  by_cases k2 : lw = 2
  · exact w_T (by rw [k2]; rfl) (J106 (by omega) (by omega))
  refine w_F (hne 2 (by omega) k2) ?_
  by_cases k3 : lw = 3
  · exact w_T (by rw [k3]; rfl) (J106 (by omega) (by omega))
  refine w_F (hne 3 (by omega) k3) ?_
  by_cases k4 : lw = 4
  · exact w_T (by rw [k4]; rfl) (J106 (by omega) (by omega))
  refine w_F (hne 4 (by omega) k4) ?_
  by_cases k5 : lw = 5
  · refine w_T (by rw [k5]; rfl) (w_some ?_)
    have h3' := h3 (by omega)
    subst k5
    exact ⟨rfl, rfl, rfl, h3', hrep⟩
  refine w_F (hne 5 (by omega) k5) ?_
  by_cases k6 : lw = 6
  · refine w_T (by rw [k6]; rfl) ?_
    have h3' := h3 (by omega)
    have hl2 := hl8 k6
    subst k6
    refine w_Ln (w := nI (br0 ||| 2 ^ a)) (by rw [h3']; simp (disch := omega) only [q_lit, q_a31s, q_shlm, Nat.one_mul, q_or]) ?_
    exact w_some ⟨rfl, rfl, rfl, rfl, hrep⟩
  refine w_F (hne 6 (by omega) k6) ?_
  have k7 : lw = 7 := by omega
  refine w_T (by rw [k7]; rfl) (w_some ?_)
  subst k7
  exact ⟨rfl, rfl, rfl, rfl, fun s hs => by have hs : s < 0 := hs; omega⟩
/-- gifts of a text -/
theorem z_txt_g {C : Nat → Nat} {S0 : zS} : ∀ r j S (R : List zL), (∀ (i : Nat) (l : zL), R[i]? = some l → l.1 = 6 → l.2.1 < 2) → ∀ (i : Nat) (l : zL), (z_txt C r S j R).2.2[i]? = some l → l.1 = 6 → l.2.1 < 2 := by
  have ext : ∀ (R : List zL) (S : zS) (j : Nat), (∀ (i : Nat) (l : zL), R[i]? = some l → l.1 = 6 → l.2.1 < 2) → ¬ (z_li S.1 S.2.1 C j).1 = false → ∀ (i : Nat) (l : zL), (R ++ [z_liL (z_li S.1 S.2.1 C j)])[i]? = some l → l.1 = 6 → l.2.1 < 2 := by
    intro R S j h hl i l hi h6
    rcases Nat.lt_or_ge i R.length with hlt | hge
    · rw [List.getElem?_append_left hlt] at hi
      exact h i l hi h6
    · rw [List.getElem?_append_right hge] at hi
      cases hx : i - R.length with
      | zero =>
        rw [hx] at hi
        simp only [List.getElem?_cons_zero, Option.some.injEq] at hi
        subst hi
        have hl' := z_bt hl
        unfold z_liL z_li at h6 ⊢
        unfold z_li at hl'
        by_cases h1 : 13 ≤ C j ∧ C j ≤ 16
        · rw [if_pos h1] at h6
          have h6 : C j - 12 = 6 := h6
          omega
        rw [if_neg h1] at h6 hl' ⊢
        by_cases h2 : C j = 17
        · rw [if_pos h2] at h6
          cases h6
        rw [if_neg h2] at h6 hl' ⊢
        by_cases h3 : C j = 12 ∨ C j = 23 ∨ C j = 26
        · rw [if_pos h3] at h6 hl' ⊢
          by_cases h4 : z_nok (C j) S.1 S.2.1 (C (j + 1)) = true
          · rw [if_pos h4] at h6 ⊢
            have h6 : (if C j = 12 then 0 else if C j = 23 then 5 else 6) = 6 := h6
            have h26 : C j = 26 := by split at h6; omega; split at h6 <;> omega
            have := (z_nok_t h4).2.2
            rw [h26] at this
            exact this
          · rw [if_neg h4] at hl'; cases hl'
        · rw [if_neg h3] at hl'; cases hl'
      | succ x =>
        rw [hx] at hi
        simp at hi
  intro r
  induction r with
  | zero =>
    intro j S R h
    unfold z_txt
    split
    · exact h
    · next hl => split <;> exact ext R S j h hl
  | succ r ih =>
    intro j S R h
    unfold z_txt
    split
    · exact h
    · next hl =>
      split
      · exact ext R S j h hl
      · split
        · exact ih _ _ _ (ext R S j h hl)
        · exact ext R S j h hl
theorem m_tellAll {S0 : zS} {R : List zL} {g rd ik : Nat → Int32} {va ve vp ln rp rs de nw pm pr ro tr : Int32} (hR : R.length ≤ 12) (hrows : ∀ (i : Nat) (l : zL), R[i]? = some l → z_row i l rd) (hg : ∀ (i : Nat) (l : zL), R[i]? = some l → l.1 = 6 → l.2.1 < 2) (hok : ∀ i, z_okL ((R.take i).foldl z_ap1 S0)) : ∀ r i k (mm pe br dy : Int32) (sf : Nat → Int32), i + r = R.length → r + 30 < k → z_ml ((R.take i).foldl z_ap1 S0) (mm, pe, br, dy, sf) → wp (f_Mo_land_L13 va de ve ln nw pm vp pr (nI R.length) rp rs ro tr ik rd g k (nI i) mm pe br dy sf) (z_ml (R.foldl z_ap1 S0)) := by
  intro r
  induction r with
  | zero =>
    intro i k mm pe br dy sf hi hk hml
    obtain ⟨k, rfl⟩ : ∃ k', k = k' + 1 := ⟨k - 1, by omega⟩
    rw [f_Mo_land_L13]
    refine w_T (nI_le (by omega) (by omega)) (w_some ?_)
    rw [List.take_of_length_le (by omega)] at hml
    exact hml
  | succ r ih =>
    intro i k mm pe br dy sf hi hk hml
    obtain ⟨k, rfl⟩ : ∃ k', k = k' + 1 := ⟨k - 1, by omega⟩
    have hil : i < R.length := by omega
    obtain ⟨l, hl⟩ : ∃ l, R[i]? = some l := ⟨_, List.getElem?_eq_getElem hil⟩
    have etk : (R.take (i + 1)).foldl z_ap1 S0 = z_ap1 ((R.take i).foldl z_ap1 S0) l := by
      rw [List.take_succ, hl, List.foldl_append]
      rfl
    rw [f_Mo_land_L13]
    refine w_F (nI_ge (by omega) (by omega)) ?_
    rw [show (10 : Int32) * nI i = nI (10 * i) by rw [show (10 : Int32) = nI 10 from rfl, q_mul]]
    refine w_Bw (m_tell (by omega) (hrows i l hl) hml (hok i) (by rw [← etk]; exact hok (i + 1)) (hg i l hl) (by omega)) (fun q hq => ?_)
    obtain ⟨q1, q2, q3, q4, q5⟩ := q
    refine w_Ln (w := nI (i + 1)) (by first | (with_reducible rfl) | (simp (disch := omega) only [q_lit, q_ofn, nI_add, q_mul, q_sub, q_shrm, q_shlm, q_a31s, q_a1, q_a3, q_a7, q_a65535, q_div, q_rem2, z_mm, nI_clamp, Nat.reduceMul, Nat.reduceAdd, Nat.reduceSub, Nat.reducePow, Nat.reduceMod, Nat.reduceDiv, Nat.one_mul]; done) | (simp (disch := omega) only [q_lit, q_ofn, nI_add, q_mul, q_sub, q_shrm, q_shlm, q_a31s, q_a1, q_a3, q_a7, q_a65535, q_div, q_rem2, z_mm, nI_clamp, Nat.reduceMul, Nat.reduceAdd, Nat.reduceSub, Nat.reducePow, Nat.reduceMod, Nat.reduceDiv, Nat.one_mul]; with_reducible rfl)) ?_
    rw [← etk] at hq
    exact ih (i + 1) k q1 q2 q3 q4 q5 (by omega) (by omega) hq
