/-! whole texts -/
abbrev zL : Type := Nat × Nat × (Nat → Nat)
def z_ap1 (S : zS) (l : zL) : zS := z_ap S l.1 l.2.1 l.2.2
/-- a row of 'read' holds a line -/
def z_row (i : Nat) (l : zL) (rd : Nat → Int32) : Prop := l.1 ≤ 7 ∧ rd (10 * i) = nI l.1 ∧ (l.1 ≠ 7 → rd (10 * i + 1) = nI l.2.1) ∧ (1 ≤ l.1 → l.1 ≤ 4 → l.2.2 0 + 1 = l.1 ∧ 1 ≤ l.2.2 2 ∧ l.2.2 2 ≤ 3 ∧ (∀ x, 1 ≤ x → x < 3 + 2 * l.2.2 2 → rd (10 * i + x) = nI (l.2.2 x)) ∧ rd (10 * i + 9) = (if l.2.2 9 = 0 then -nI 1 else nI (l.2.2 9 - 1)))
def z_liL (L : Bool × Nat × Nat × Nat × (Nat → Nat)) : zL := (L.2.2.1, L.2.2.2.1, L.2.2.2.2)
/-- answer, at, end, place, readMany, readPeople, readSpells, read -/
def z_rlQ (c : Nat → Nat) (n rm : Nat) (S : zS) (L : Bool × Nat × Nat × Nat × (Nat → Nat)) (rd0 : Nat → Int32) (q : Int32 × Int32 × Int32 × Int32 × Int32 × Int32 × Int32 × (Nat → Int32)) : Prop := z_ps c n L.2.1 q.2.1 q.2.2.1 q.2.2.2.1 ∧ ((L.1 = true ∧ q.1 = nI 1 ∧ q.2.2.2.2.1 = nI (rm + 1) ∧ q.2.2.2.2.2.1 = nI (z_ap1 S (z_liL L)).1 ∧ q.2.2.2.2.2.2.1 = nI (z_ap1 S (z_liL L)).2.1 ∧ z_row rm (z_liL L) q.2.2.2.2.2.2.2 ∧ ∀ i, i < 10 * rm → q.2.2.2.2.2.2.2 i = rd0 i) ∨ (L.1 = false ∧ q.1 = nI 0))
theorem z_wo_neg {x : Nat} (h1 : ¬ (13 ≤ x ∧ x ≤ 16)) (h2 : ¬ x = 17) (h3 : ¬ (x = 12 ∨ x = 23 ∨ x = 26)) : z_wo x = -nI 1 := by
  unfold z_wo
  rw [if_neg h1, if_neg (by omega), if_neg (by omega), if_neg (by omega), if_neg h2]
theorem m_readsLine {c : Nat → Nat} {n j k rm : Nat} {S : zS} {g rd : Nat → Int32} (ht : z_tx c n g) (hk : 500 ≤ k) (hrm : rm < 12) (ok : z_okL S) : wp (f_Mo_readsLine k (nI (z_ze c n j)) (nI (z_ze c n j)) (nI n) (nI (z_tp c n j)) (nI rm) (nI S.1) (nI S.2.1) rd g) (z_rlQ c n rm S (z_li S.1 S.2.1 (z_C c n) j) rd) := by
  obtain ⟨P, M, dy, br, sp⟩ := S
  obtain ⟨ok1, ok2, ok3⟩ := ok
  simp only at ok1 ok2 ok3 ⊢
  have hP := ok1.2.1
  have hM := ok1.2.2.1
  have hb := z_tp_le c n j
  unfold f_Mo_readsLine
  refine w_Be (m_wordOf ht hb (by omega)) ?_
  have ezC : z_code c n (z_tp c n j) = z_C c n j := rfl
  rw [ezC]
  by_cases h1 : 13 ≤ z_C c n j ∧ z_C c n j ≤ 16
  · have ew : z_wo (z_C c n j) = nI (z_C c n j - 12) := by unfold z_wo; rw [if_pos h1]
    rw [ew]
    refine w_Be (m_inN (n := z_C c n j - 12) (a := 1) (b := 4) (by omega) (by decide) (by decide)) ?_
    rw [decide_eq_true (by omega)]
    refine w_F (fun z => (q_eqm1 (by omega)).mp z) ?_
    refine w_F (by decide) ?_
    have eL : z_li P M (z_C c n) j = ((z_sp P M (z_C c n) j).1, (z_sp P M (z_C c n) j).2.1, z_C c n j - 12, z_C c n (j + 1), z_srec (z_C c n) j (z_sp P M (z_C c n) j).2.2) := by unfold z_li; rw [if_pos h1]
    rw [eL]
    by_cases c1 : M = 5
    · refine w_T (by rw [c1]; rfl) (w_some ?_)
      have : z_sp P M (z_C c n) j = (false, j, 0) := by unfold z_sp; rw [if_pos c1]
      rw [this]
      exact ⟨⟨rfl, rfl, rfl⟩, Or.inr ⟨rfl, rfl⟩⟩
    · refine w_F (by rw [q_lit, nI_eq (by omega) (by decide)]; exact c1) ?_
      unfold f_Mo_readsLine_J34
      refine w_Be (m_tok (j := j) ht (by omega) (by omega)) ?_
      refine w_C (i := 10 * rm) (by rw [show (10 : Int32) = nI 10 from rfl, q_mul]) (by omega) (by decide) ?_
      rw [show (10 : Int32) * nI rm = nI (10 * rm) by rw [show (10 : Int32) = nI 10 from rfl, q_mul], nI_clamp (by omega)]
      have hne : ∀ v, v < 8 → z_C c n j - 12 ≠ v → ¬ nI (z_C c n j - 12) = nI v := fun v hv h e => h ((nI_eq (by omega) (by omega)).mp e)
      have hsp := m_readsSpell (rd0 := rd) (rd := upd rd (10 * rm) (nI (z_C c n j - 12))) (j := j) (P := P) (M := M) (k := k) ht (by omega) hrm hP (by omega) h1.1 h1.2 z_upd_s (fun i hi => z_upd_n (by omega))
      refine w_Bw (R := z_rsQ c n rm P M j rd) ?_ (fun q hq => ?_)
      · unfold f_Mo_readsRest
        refine w_F (hne 0 (by omega) (by omega)) ?_
        have J75 : wp (f_Mo_readsRest_J75 k (nI (z_ze c n (j + 1))) (nI (z_ze c n (j + 1))) (nI n) (nI (z_tp c n (j + 1))) (nI rm) (nI P) (nI M) (upd rd (10 * rm) (nI (z_C c n j - 12))) g (nI (z_C c n j - 12))) (z_rsQ c n rm P M j rd) := by
          unfold f_Mo_readsRest_J75
          refine w_Bw hsp (fun q hq => ?_)
          obtain ⟨q1, q2, q3, q4, q5⟩ := q
          refine w_some ⟨hq.1, ?_⟩
          rcases hq.2 with ⟨a1, a2, a3⟩ | ⟨a1, a2⟩
          · refine Or.inl ⟨a1, ?_, a3⟩
            simp only at a2
            subst a2
            rfl
          · refine Or.inr ⟨a1, ?_⟩
            simp only at a2
            subst a2
            rfl
        by_cases k1 : z_C c n j = 13
        · exact w_T (by rw [k1]; rfl) J75
        refine w_F (hne 1 (by omega) (by omega)) ?_
        by_cases k2 : z_C c n j = 14
        · exact w_T (by rw [k2]; rfl) J75
        refine w_F (hne 2 (by omega) (by omega)) ?_
        by_cases k3 : z_C c n j = 15
        · exact w_T (by rw [k3]; rfl) J75
        refine w_F (hne 3 (by omega) (by omega)) ?_
        exact w_T (by rw [show z_C c n j = 16 by omega]; rfl) J75
      · obtain ⟨q1, q2, q3, q4, q5⟩ := q
        obtain ⟨g1, g2⟩ := hq
        simp only at g1
        rcases g2 with ⟨g2, g3, g4⟩ | ⟨g2, g3⟩
        · simp only at g3 g4
          subst g3
          refine w_F (by decide) ?_
          refine w_F (hne 0 (by omega) (by omega)) ?_
          unfold f_Mo_readsLine_J87 f_Mo_readsLine_J122
          refine w_F (hne 0 (by omega) (by omega)) ?_
          refine w_F (hne 7 (by omega) (by omega)) ?_
          refine w_F (by decide) ?_
          refine w_Ln (w := nI (rm + 1)) (by first | (with_reducible rfl) | (simp (disch := omega) only [q_lit, q_ofn, nI_add, q_mul, q_sub, q_shrm, q_shlm, q_a31s, q_a1, q_a3, q_a7, q_a65535, q_div, q_rem2, z_mm, nI_clamp, Nat.reduceMul, Nat.reduceAdd, Nat.reduceSub, Nat.reducePow, Nat.reduceMod, Nat.reduceDiv, Nat.one_mul]; done) | (simp (disch := omega) only [q_lit, q_ofn, nI_add, q_mul, q_sub, q_shrm, q_shlm, q_a31s, q_a1, q_a3, q_a7, q_a65535, q_div, q_rem2, z_mm, nI_clamp, Nat.reduceMul, Nat.reduceAdd, Nat.reduceSub, Nat.reducePow, Nat.reduceMod, Nat.reduceDiv, Nat.one_mul]; with_reducible rfl)) ?_
          obtain ⟨s1, s2, s3, s4⟩ := z_sp_ok ok1 h1.1 h1.2 g2
          refine w_some ⟨g1, Or.inl ⟨g2, rfl, rfl, ?_, ?_, ?_, ?_⟩⟩
          · show nI P = nI _
            unfold z_ap1 z_liL z_ap
            simp only
            rw [if_neg (by omega), if_neg (by omega), if_neg (by omega), if_neg (by omega)]
          · show nI M + 1 = nI _
            unfold z_ap1 z_liL z_ap
            simp only
            rw [if_neg (by omega), if_neg (by omega), if_neg (by omega), if_neg (by omega)]
            simp only [q_lit, nI_add]
          · obtain ⟨⟨r1, r2, r3, r4⟩, r5, r6⟩ := g4
            refine ⟨by show z_C c n j - 12 ≤ 7; omega, r2, fun _ => r3, fun _ _ => ⟨by show z_C c n j - 13 + 1 = z_C c n j - 12; omega, s3, s4, ?_, r6⟩⟩
            intro x hx1 hx2
            have hx2 : x < 3 + 2 * (z_sp P M (z_C c n) j).2.2 := hx2
            show q5 (10 * rm + x) = nI (z_srec (z_C c n) j (z_sp P M (z_C c n) j).2.2 x)
            unfold z_srec
            generalize (z_sp P M (z_C c n) j).2.2 = nt at r3 r4 r5 hx2 s4
            by_cases x1 : x = 1
            · subst x1; exact r3
            by_cases x2 : x = 2
            · subst x2; exact r5
            have hxx : ∃ u, u < nt ∧ (x = 3 + 2 * u ∨ x = 4 + 2 * u) := ⟨(x - 3) / 2, by omega, by omega⟩
            obtain ⟨u, hu, hxu⟩ := hxx
            rcases hxu with rfl | rfl
            · rw [(z_rec_so (by omega)).1]; exact (r4 u hu).1
            · rw [(z_rec_so (by omega)).2]; exact (r4 u hu).2
          · exact g4.1.1
        · simp only at g3
          subst g3
          exact w_T rfl (w_some ⟨g1, Or.inr ⟨g2, rfl⟩⟩)
  by_cases h2 : z_C c n j = 17
  · have ew : z_wo (z_C c n j) = nI 7 := by rw [h2]; rfl
    have eL : z_li P M (z_C c n) j = (true, j + 1, 7, 0, fun _ => 0) := by unfold z_li; rw [if_neg h1, if_pos h2]
    rw [ew, eL]
    refine w_Be (m_inN (n := 7) (a := 1) (b := 4) (by decide) (by decide) (by decide)) ?_
    refine w_F (by decide) ?_
    refine w_T rfl ?_
    unfold f_Mo_readsLine_J34
    refine w_Be (m_tok (j := j) ht (by omega) (by omega)) ?_
    refine w_C (i := 10 * rm) (by rw [show (10 : Int32) = nI 10 from rfl, q_mul]) (by omega) (by decide) ?_
    rw [show (10 : Int32) * nI rm = nI (10 * rm) by rw [show (10 : Int32) = nI 10 from rfl, q_mul], nI_clamp (by omega)]
    unfold f_Mo_readsRest
    refine w_Be rfl ?_
    refine w_F (by decide) ?_
    refine w_F (by decide) ?_
    unfold f_Mo_readsLine_J87 f_Mo_readsLine_J101 f_Mo_readsLine_J122
    refine w_F (by decide) ?_
    refine w_T rfl ?_
    refine w_Ln (w := nI (rm + 1)) (by first | (with_reducible rfl) | (simp (disch := omega) only [q_lit, q_ofn, nI_add, q_mul, q_sub, q_shrm, q_shlm, q_a31s, q_a1, q_a3, q_a7, q_a65535, q_div, q_rem2, z_mm, nI_clamp, Nat.reduceMul, Nat.reduceAdd, Nat.reduceSub, Nat.reducePow, Nat.reduceMod, Nat.reduceDiv, Nat.one_mul]; done) | (simp (disch := omega) only [q_lit, q_ofn, nI_add, q_mul, q_sub, q_shrm, q_shlm, q_a31s, q_a1, q_a3, q_a7, q_a65535, q_div, q_rem2, z_mm, nI_clamp, Nat.reduceMul, Nat.reduceAdd, Nat.reduceSub, Nat.reducePow, Nat.reduceMod, Nat.reduceDiv, Nat.one_mul]; with_reducible rfl)) ?_
    refine w_some ⟨⟨rfl, rfl, rfl⟩, Or.inl ⟨rfl, rfl, rfl, rfl, rfl, ⟨by show 7 ≤ 7; omega, z_upd_s, fun z => absurd rfl z, fun _ z => ?_⟩, fun i hi => z_upd_n (by omega)⟩⟩
    have z : (7 : Nat) ≤ 4 := z
    omega
  by_cases h3 : z_C c n j = 12 ∨ z_C c n j = 23 ∨ z_C c n j = 26
  · obtain ⟨w, hw, hlw, hrest⟩ : ∃ w, z_wo (z_C c n j) = nI w ∧ w = (if z_C c n j = 12 then 0 else if z_C c n j = 23 then 5 else 6) ∧ ∀ rd' : Nat → Int32, wp (f_Mo_readsRest k (nI (z_ze c n (j + 1))) (nI (z_ze c n (j + 1))) (nI n) (nI (z_tp c n (j + 1))) (nI rm) (nI P) (nI M) rd' g (nI w)) (fun q => (z_nok (z_C c n j) P M (z_C c n (j + 1)) = true ∧ q.1 = nI 1 ∧ z_ps c n (j + 2) q.2.1 q.2.2.1 q.2.2.2.1 ∧ q.2.2.2.2 = upd rd' (10 * rm + 1) (nI (z_C c n (j + 1)))) ∨ (¬ z_nok (z_C c n j) P M (z_C c n (j + 1)) = true ∧ q.1 = nI 0 ∧ z_ps c n (j + 1) q.2.1 q.2.2.1 q.2.2.2.1)) := by
      have gen : ∀ (rd' : Nat → Int32) (least lim : Nat) (most : Int32), least ≤ 1 → z_lst (z_C c n j) = least → z_lim (z_C c n j) P M = lim → most.toInt = (lim : Int) - 1 → wp (x_B (f_Mo_reads k (nI (z_ze c n (j + 1))) (nI (z_ze c n (j + 1))) (nI n) (nI (z_tp c n (j + 1))) (nI rm) rd' g 1 (nI least) most) (fun ⟨y7, w8, w9, w10, w11⟩ => some ((y7 &&& 1), w8, w9, w10, w11))) (fun q => (z_nok (z_C c n j) P M (z_C c n (j + 1)) = true ∧ q.1 = nI 1 ∧ z_ps c n (j + 2) q.2.1 q.2.2.1 q.2.2.2.1 ∧ q.2.2.2.2 = upd rd' (10 * rm + 1) (nI (z_C c n (j + 1)))) ∨ (¬ z_nok (z_C c n j) P M (z_C c n (j + 1)) = true ∧ q.1 = nI 0 ∧ z_ps c n (j + 1) q.2.1 q.2.2.1 q.2.2.2.1)) := by
        intro rd' least lim most h1 h2 h3 h4
        refine w_Be (m_reads (kk := 1) (j := j + 1) ht (by omega) (by omega) h1 h4) ?_
        by_cases h5 : z_nok (z_C c n j) P M (z_C c n (j + 1)) = true
        · have := z_nok_t h5
          rw [h2, h3] at this
          rw [if_pos this]
          exact w_some (Or.inl ⟨h5, show nI 1 &&& 1 = nI 1 by decide, ⟨rfl, rfl, rfl⟩, rfl⟩)
        · rw [if_neg (fun z => h5 (decide_eq_true (by rw [h2, h3]; exact z)))]
          exact w_some (Or.inr ⟨h5, show nI 0 &&& 1 = nI 0 by decide, ⟨rfl, rfl, rfl⟩⟩)
      rcases h3 with h3 | h3 | h3
      · refine ⟨0, by rw [h3]; rfl, by rw [h3]; rfl, fun rd' => ?_⟩
        unfold f_Mo_readsRest
        exact w_T rfl (gen rd' 1 4 3 (by decide) (by rw [h3]; rfl) (by rw [h3]; rfl) (by decide))
      · refine ⟨5, by rw [h3]; rfl, by rw [h3]; rfl, fun rd' => ?_⟩
        unfold f_Mo_readsRest
        refine w_F (by decide) ?_
        refine w_F (by decide) ?_
        refine w_F (by decide) ?_
        refine w_F (by decide) ?_
        refine w_F (by decide) ?_
        exact w_T rfl (gen rd' 0 7 6 (by decide) (by rw [h3]; rfl) (by rw [h3]; rfl) (by decide))
      · refine ⟨6, by rw [h3]; rfl, by rw [h3]; rfl, fun rd' => ?_⟩
        unfold f_Mo_readsRest
        refine w_F (by decide) ?_
        refine w_F (by decide) ?_
        refine w_F (by decide) ?_
        refine w_F (by decide) ?_
        refine w_F (by decide) ?_
        refine w_F (by decide) ?_
        exact w_T rfl (gen rd' 0 2 1 (by decide) (by rw [h3]; rfl) (by rw [h3]; rfl) (by decide))
    have hw3 : w = 0 ∨ w = 5 ∨ w = 6 := by rw [hlw]; split; omega; split <;> omega
    have eL : z_li P M (z_C c n) j = if z_nok (z_C c n j) P M (z_C c n (j + 1)) = true then (true, j + 2, w, z_C c n (j + 1), fun _ => 0) else (false, j + 1, 0, 0, fun _ => 0) := by unfold z_li; rw [if_neg h1, if_neg h2, if_pos h3, hlw]
    rw [hw, eL]
    refine w_Be (m_inN (n := w) (a := 1) (b := 4) (by omega) (by decide) (by decide)) ?_
    rw [decide_eq_false (by omega)]
    refine w_F (fun z => (q_eqm1 (by omega)).mp z) ?_
    refine w_T rfl ?_
    unfold f_Mo_readsLine_J34
    refine w_Be (m_tok (j := j) ht (by omega) (by omega)) ?_
    refine w_C (i := 10 * rm) (by rw [show (10 : Int32) = nI 10 from rfl, q_mul]) (by omega) (by decide) ?_
    rw [show (10 : Int32) * nI rm = nI (10 * rm) by rw [show (10 : Int32) = nI 10 from rfl, q_mul], nI_clamp (by omega)]
    refine w_Bw (hrest _) (fun q hq => ?_)
    obtain ⟨q1, q2, q3, q4, q5⟩ := q
    rcases hq with ⟨g1, g2, g3, g4⟩ | ⟨g1, g2, g3⟩
    · simp only at g2 g3 g4
      subst g2; subst g4
      rw [if_pos g1]
      refine w_F (by decide) ?_
      have hrow : z_row rm (w, z_C c n (j + 1), fun _ => 0) (upd (upd rd (10 * rm) (nI w)) (10 * rm + 1) (nI (z_C c n (j + 1)))) := by
        refine ⟨by show w ≤ 7; omega, ?_, fun _ => z_upd_s, fun z1 z2 => ?_⟩
        · rw [z_upd_n (by omega), z_upd_s]
        · have z1 : 1 ≤ w := z1
          have z2 : w ≤ 4 := z2
          omega
      have hold : ∀ i, i < 10 * rm → upd (upd rd (10 * rm) (nI w)) (10 * rm + 1) (nI (z_C c n (j + 1))) i = rd i := by
        intro i hi
        rw [z_upd_n (by omega), z_upd_n (by omega)]
      unfold f_Mo_readsLine_J87 f_Mo_readsLine_J101 f_Mo_readsLine_J122
      by_cases w0 : w = 0
      · subst w0
        refine w_T rfl ?_
        refine w_Ln (w := nI (10 * rm + 1)) (by rw [show (1 : Int32) = nI 1 from rfl, nI_add]) ?_
        refine w_I (i := 10 * rm + 1) rfl (by omega) (by decide) ?_
        rw [z_upd_s]
        refine w_T rfl ?_
        refine w_Ln (w := nI (rm + 1)) (by first | (with_reducible rfl) | (simp (disch := omega) only [q_lit, q_ofn, nI_add, q_mul, q_sub, q_shrm, q_shlm, q_a31s, q_a1, q_a3, q_a7, q_a65535, q_div, q_rem2, z_mm, nI_clamp, Nat.reduceMul, Nat.reduceAdd, Nat.reduceSub, Nat.reducePow, Nat.reduceMod, Nat.reduceDiv, Nat.one_mul]; done) | (simp (disch := omega) only [q_lit, q_ofn, nI_add, q_mul, q_sub, q_shrm, q_shlm, q_a31s, q_a1, q_a3, q_a7, q_a65535, q_div, q_rem2, z_mm, nI_clamp, Nat.reduceMul, Nat.reduceAdd, Nat.reduceSub, Nat.reducePow, Nat.reduceMod, Nat.reduceDiv, Nat.one_mul]; with_reducible rfl)) ?_
        exact w_some ⟨g3, Or.inl ⟨rfl, rfl, rfl, rfl, rfl, hrow, hold⟩⟩
      · refine w_F (by rw [q_lit, nI_eq (by omega) (by decide)]; exact w0) ?_
        refine w_F (by rw [q_lit, nI_eq (by omega) (by decide)]; exact w0) ?_
        refine w_F (by simp (disch := omega) only [q_lit, q_ofn, nI_add, q_mul, q_sub, q_shrm, q_shlm, q_a31s, q_a1, q_a3, q_a7, q_a65535, q_div, q_rem2, z_mm, nI_clamp, Nat.reduceMul, Nat.reduceAdd, Nat.reduceSub, Nat.reducePow, Nat.reduceMod, Nat.reduceDiv, Nat.one_mul, nI_ltI, nI_leI, nI_eq, q_b0, q_b1, q_m1lt, q_m1le, q_ltm1, q_lem1, q_eqm1, q_m1eq, not_true_eq_false, not_false_eq_true, reduceCtorEq, *] <;> first | omega | decide) ?_
        refine w_T rfl ?_
        refine w_Ln (w := nI (rm + 1)) (by first | (with_reducible rfl) | (simp (disch := omega) only [q_lit, q_ofn, nI_add, q_mul, q_sub, q_shrm, q_shlm, q_a31s, q_a1, q_a3, q_a7, q_a65535, q_div, q_rem2, z_mm, nI_clamp, Nat.reduceMul, Nat.reduceAdd, Nat.reduceSub, Nat.reducePow, Nat.reduceMod, Nat.reduceDiv, Nat.one_mul]; done) | (simp (disch := omega) only [q_lit, q_ofn, nI_add, q_mul, q_sub, q_shrm, q_shlm, q_a31s, q_a1, q_a3, q_a7, q_a65535, q_div, q_rem2, z_mm, nI_clamp, Nat.reduceMul, Nat.reduceAdd, Nat.reduceSub, Nat.reducePow, Nat.reduceMod, Nat.reduceDiv, Nat.one_mul]; with_reducible rfl)) ?_
        refine w_some ⟨g3, Or.inl ⟨rfl, rfl, rfl, ?_, ?_, hrow, hold⟩⟩
        · rcases hw3 with rfl | rfl | rfl
          · omega
          · rfl
          · rfl
        · rcases hw3 with rfl | rfl | rfl
          · omega
          · rfl
          · rfl
    · simp only at g2 g3
      subst g2
      rw [if_neg g1]
      exact w_T rfl (w_some ⟨g3, Or.inr ⟨rfl, rfl⟩⟩)
  · have ew := z_wo_neg h1 h2 h3
    have eL : z_li P M (z_C c n) j = (false, j, 0, 0, fun _ => 0) := by unfold z_li; rw [if_neg h1, if_neg h2, if_neg h3]
    rw [ew, eL]
    refine w_Be (m_in _ _ _) ?_
    exact w_T rfl (w_some ⟨⟨rfl, rfl, rfl⟩, Or.inr ⟨rfl, rfl⟩⟩)
