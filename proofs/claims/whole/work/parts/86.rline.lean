/-! the reference reads lines -/
theorem m_iw {c : Nat → Nat} {n b k : Nat} {g : Nat → Int32} (w : Nat) {W L : Int32} (hW : W = nI (z_rw w)) (hL : L = nI (z_wl w)) (ht : z_tx c n g) (hb : b ≤ n) (hw : w < 17) (hk : 20 ≤ k) : f_Mo_isWord k (nI (z_en c n b)) (nI b) g W L = some (nI (decide (z_code c n b = 12 + w)).toNat) := by
  rw [hW, hL]
  exact m_isWord ht hb hw hk
theorem e_iw {α : Type} {c : Nat → Nat} {n b k : Nat} {g : Nat → Int32} (w : Nat) {W L : Int32} {A : Option α} {B : Option α} {r : Option α} (ht : z_tx c n g) (hb : b ≤ n) (hk : 20 ≤ k) (hw : w < 17) (hW : W = nI (z_rw w)) (hL : L = nI (z_wl w)) (h1 : z_code c n b = 12 + w → B = r) (h2 : z_code c n b ≠ 12 + w → A = r) : x_B (f_Mo_isWord k (nI (z_en c n b)) (nI b) g W L) (fun y => if y = 0 then A else B) = r := by
  rw [m_iw w hW hL ht hb hw hk, q_B]
  by_cases h : z_code c n b = 12 + w
  · rw [decide_eq_true h]
    exact e_F (by decide) (h1 h)
  · rw [decide_eq_false h]
    exact e_T (by decide) (h2 h)
def z_wo (x : Nat) : Int32 := if 13 ≤ x ∧ x ≤ 16 then nI (x - 12) else if x = 12 then nI 0 else if x = 23 then nI 5 else if x = 26 then nI 6 else if x = 17 then nI 7 else -nI 1
def z_to (x : Nat) : Int32 := if 21 ≤ x ∧ x ≤ 28 then nI (x - 21) else -nI 1
theorem m_spellWord {c : Nat → Nat} {n b k : Nat} {g : Nat → Int32} (ht : z_tx c n g) (hb : b ≤ n) (hk : 20 ≤ k) : f_Mo_spellWord k (nI (z_en c n b)) (nI b) g = some (if 13 ≤ z_code c n b ∧ z_code c n b ≤ 16 then nI (z_code c n b - 12) else -nI 1) := by
  unfold f_Mo_spellWord
  refine e_iw 1 ht hb hk (by decide) rfl rfl (fun h => by rw [h]; rfl) (fun h1 => ?_)
  refine e_iw 2 ht hb hk (by decide) rfl rfl (fun h => by rw [h]; rfl) (fun h2 => ?_)
  refine e_iw 3 ht hb hk (by decide) rfl rfl (fun h => by rw [h]; rfl) (fun h3 => ?_)
  refine e_iw 4 ht hb hk (by decide) rfl rfl (fun h => by rw [h]; rfl) (fun h4 => ?_)
  rw [if_neg (by omega)]
  rfl
theorem m_wordOf {c : Nat → Nat} {n b k : Nat} {g : Nat → Int32} (ht : z_tx c n g) (hb : b ≤ n) (hk : 20 ≤ k) : f_Mo_wordOf k (nI (z_en c n b)) (nI b) g = some (z_wo (z_code c n b)) := by
  unfold f_Mo_wordOf z_wo
  rw [m_spellWord ht hb hk, q_B]
  by_cases h : 13 ≤ z_code c n b ∧ z_code c n b ≤ 16
  · rw [if_pos h, if_pos h]
    exact e_F (fun z => (q_eqm1 (by omega)).mp z) rfl
  · rw [if_neg h, if_neg h]
    refine e_T rfl ?_
    refine e_iw 0 ht hb hk (by decide) rfl rfl (fun h => by rw [h]; rfl) (fun h1 => ?_)
    refine e_iw 11 ht hb hk (by decide) rfl rfl (fun h => by rw [h]; rfl) (fun h2 => ?_)
    refine e_iw 14 ht hb hk (by decide) rfl rfl (fun h => by rw [h]; rfl) (fun h3 => ?_)
    refine e_iw 5 ht hb hk (by decide) rfl rfl (fun h => by rw [h]; rfl) (fun h4 => ?_)
    rw [if_neg (by omega), if_neg (by omega), if_neg (by omega), if_neg (by omega)]
    rfl
theorem m_termWord {c : Nat → Nat} {n b k : Nat} {g : Nat → Int32} (ht : z_tx c n g) (hb : b ≤ n) (hk : 20 ≤ k) : f_Mo_termWord k (nI (z_en c n b)) (nI b) g = some (z_to (z_code c n b)) := by
  unfold f_Mo_termWord z_to
  refine e_iw 9 ht hb hk (by decide) rfl rfl (fun h => by rw [h]; rfl) (fun h1 => ?_)
  refine e_iw 10 ht hb hk (by decide) rfl rfl (fun h => by rw [h]; rfl) (fun h2 => ?_)
  refine e_iw 11 ht hb hk (by decide) rfl rfl (fun h => by rw [h]; rfl) (fun h3 => ?_)
  refine e_iw 12 ht hb hk (by decide) rfl rfl (fun h => by rw [h]; rfl) (fun h4 => ?_)
  refine e_iw 13 ht hb hk (by decide) rfl rfl (fun h => by rw [h]; rfl) (fun h5 => ?_)
  refine e_iw 14 ht hb hk (by decide) rfl rfl (fun h => by rw [h]; rfl) (fun h6 => ?_)
  refine e_iw 15 ht hb hk (by decide) rfl rfl (fun h => by rw [h]; rfl) (fun h7 => ?_)
  refine e_iw 16 ht hb hk (by decide) rfl rfl (fun h => by rw [h]; rfl) (fun h8 => ?_)
  rw [if_neg (by omega)]
  rfl
theorem m_tok {c : Nat → Nat} {n j k : Nat} {g : Nat → Int32} {en pl : Int32} (ht : z_tx c n g) (hj : z_C c n j ≠ 11) (hk : 300 ≤ k) : f_Mo_token k (nI (z_ze c n j)) en (nI n) pl g = some (nI (z_ze c n (j + 1)), nI (z_ze c n (j + 1)), nI (z_tp c n (j + 1))) := by
  have hlt : ¬ n ≤ z_tp c n j := fun z => hj (z_C_11.mpr z)
  have e1 : z_ze c n j = z_end c n (z_tp c n j) := by unfold z_ze z_en; rw [if_neg hlt]
  have e2 : z_tp c n (j + 1) = z_skip c n (n - z_ze c n j) (z_ze c n j) := by
    rw [e1]
    show (if n ≤ z_tp c n j then _ else _) = _
    rw [if_neg hlt]
  have hb := z_end_bd (c := c) (n := n) (b := z_tp c n j) (by omega)
  rw [m_token ht (by omega) hk, ← e2]
  rfl
theorem z_code_num {c : Nat → Nat} {n b : Nat} (hb : b ≤ n) : z_code c n b ≤ 9 ↔ (b < n ∧ z_cl (c b) = 2 ∧ z_en c n b - b = 1) := by
  unfold z_code z_en
  by_cases h : n ≤ b
  · rw [if_pos h]
    constructor
    · intro z; omega
    · intro z; omega
  · rw [if_neg h, if_neg h]
    by_cases h1 : z_cl (c b) = 1
    · rw [if_pos h1]
      have := z_wcf_rng c b (z_end c n b - b) 17 0 (by omega)
      constructor
      · intro z; omega
      · intro z; omega
    · rw [if_neg h1]
      by_cases h2 : z_cl (c b) = 2
      · rw [if_pos h2]
        have hd : 48 ≤ c b ∧ c b ≤ 57 := by unfold z_cl at h2; split at h2; omega; split at h2 <;> omega
        split <;> constructor <;> intro z <;> omega
      · rw [if_neg h2]
        split <;> constructor <;> intro z <;> omega
theorem z_code_val {c : Nat → Nat} {n b : Nat} (hb : b ≤ n) (h : z_code c n b ≤ 9) : c b = z_code c n b + 48 := by
  obtain ⟨h1, h2, h3⟩ := (z_code_num hb).mp h
  have hd : 48 ≤ c b ∧ c b ≤ 57 := by unfold z_cl at h2; split at h2; omega; split at h2 <;> omega
  unfold z_en at h3
  rw [if_neg (by omega)] at h3
  unfold z_code
  rw [if_neg (by omega), if_neg (by omega), if_pos h2, if_pos h3]
  omega
theorem m_reads {c : Nat → Nat} {n j k rm kk least lim : Nat} {g rd : Nat → Int32} {most : Int32} (ht : z_tx c n g) (hk : 300 ≤ k) (hrm : 10 * rm + kk < 120) (hle : least ≤ 1) (hm : most.toInt = (lim : Int) - 1) : f_Mo_reads k (nI (z_ze c n j)) (nI (z_ze c n j)) (nI n) (nI (z_tp c n j)) (nI rm) rd g (nI kk) (nI least) most = some (if least ≤ z_C c n j ∧ z_C c n j ≤ 9 ∧ z_C c n j < lim then (nI 1, nI (z_ze c n (j + 1)), nI (z_ze c n (j + 1)), nI (z_tp c n (j + 1)), upd rd (10 * rm + kk) (nI (z_C c n j))) else (nI 0, nI (z_ze c n j), nI (z_ze c n j), nI (z_tp c n j), rd)) := by
  have hn := ht.1
  have hb := z_tp_le c n j
  obtain ⟨e1, e2⟩ := z_en_bd (c := c) hb
  have hnum := z_code_num (c := c) hb
  have hval := z_code_val (c := c) hb
  have no : ¬ z_C c n j ≤ 9 → f_Mo_reads_J44 k (nI (z_ze c n j)) (nI (z_ze c n j)) (nI n) (nI (z_tp c n j)) (nI rm) rd g (nI kk) (nI least) most = some (if least ≤ z_C c n j ∧ z_C c n j ≤ 9 ∧ z_C c n j < lim then (nI 1, nI (z_ze c n (j + 1)), nI (z_ze c n (j + 1)), nI (z_tp c n (j + 1)), upd rd (10 * rm + kk) (nI (z_C c n j))) else (nI 0, nI (z_ze c n j), nI (z_ze c n j), nI (z_tp c n j), rd)) := by
    intro h
    rw [if_neg (fun z => h z.2.1)]
    unfold f_Mo_reads_J44 f_Mo_reads_J45 f_Mo_reads_J68
    refine e_T rfl ?_
    exact e_T rfl rfl
  unfold f_Mo_reads
  by_cases hlt : n ≤ z_tp c n j
  · refine e_T (nI_le hlt (by omega)) (no (fun z => ?_))
    have := (hnum.mp z).1
    omega
  · obtain ⟨h1, h2⟩ := ht.2 (z_tp c n j) (by omega)
    have hcl := z_cl_le (c (z_tp c n j))
    refine e_F (nI_ge (by omega) (by omega)) ?_
    refine e_I (i := z_tp c n j) (by first | (with_reducible rfl) | (simp (disch := omega) only [q_lit, q_ofn, nI_add, q_mul, q_sub, q_shrm, q_shlm, q_a31s, q_a1, q_a3, q_a7, q_a65535, q_div, q_rem2, z_mm, nI_clamp, Nat.reduceMul, Nat.reduceAdd, Nat.reduceSub, Nat.reducePow, Nat.reduceMod, Nat.reduceDiv, Nat.one_mul]; done) | (simp (disch := omega) only [q_lit, q_ofn, nI_add, q_mul, q_sub, q_shrm, q_shlm, q_a31s, q_a1, q_a3, q_a7, q_a65535, q_div, q_rem2, z_mm, nI_clamp, Nat.reduceMul, Nat.reduceAdd, Nat.reduceSub, Nat.reducePow, Nat.reduceMod, Nat.reduceDiv, Nat.one_mul]; with_reducible rfl)) (by omega) (by first | decide | omega) ?_
    rw [h1, m_sort (by omega), q_B]
    by_cases h3 : z_cl (c (z_tp c n j)) = 2
    · refine e_T (by rw [h3]; rfl) ?_
      show (if nI (z_en c n (z_tp c n j)) - nI (z_tp c n j) = 1 then _ else _) = _
      rw [q_sub e1]
      by_cases h4 : z_en c n (z_tp c n j) - z_tp c n j = 1
      · have h9 : z_C c n j ≤ 9 := hnum.mpr ⟨by omega, h3, h4⟩
        have hv := hval h9
        refine e_T (by rw [h4]; rfl) ?_
        unfold f_Mo_reads_J45
        refine e_F (by decide) ?_
        refine e_I (i := z_tp c n j) (by first | (with_reducible rfl) | (simp (disch := omega) only [q_lit, q_ofn, nI_add, q_mul, q_sub, q_shrm, q_shlm, q_a31s, q_a1, q_a3, q_a7, q_a65535, q_div, q_rem2, z_mm, nI_clamp, Nat.reduceMul, Nat.reduceAdd, Nat.reduceSub, Nat.reducePow, Nat.reduceMod, Nat.reduceDiv, Nat.one_mul]; done) | (simp (disch := omega) only [q_lit, q_ofn, nI_add, q_mul, q_sub, q_shrm, q_shlm, q_a31s, q_a1, q_a3, q_a7, q_a65535, q_div, q_rem2, z_mm, nI_clamp, Nat.reduceMul, Nat.reduceAdd, Nat.reduceSub, Nat.reducePow, Nat.reduceMod, Nat.reduceDiv, Nat.one_mul]; with_reducible rfl)) (by omega) (by first | decide | omega) ?_
        rw [h1]
        unfold f_Mo_reads_J68
        refine e_F (by decide) ?_
        have ev : nI (c (z_tp c n j)) - 48 = nI (z_C c n j) := by
          rw [show (48 : Int32) = nI 48 from rfl, hv, q_sub (by omega), Nat.add_sub_cancel]
          rfl
        rw [ev, m_in]
        have hin : (nI least).toInt64.toInt = (least : Int) := by rw [Int32.toInt_toInt64, nI_toInt (by omega)]
        have hin2 : (nI (z_C c n j)).toInt64.toInt = (z_C c n j : Int) := by rw [Int32.toInt_toInt64, nI_toInt (by omega)]
        have hin3 : most.toInt64.toInt = (lim : Int) - 1 := by rw [Int32.toInt_toInt64, hm]
        rw [hin, hin2, hin3, q_B]
        by_cases hc : least ≤ z_C c n j ∧ z_C c n j < lim
        · rw [decide_eq_true (by omega)]
          refine e_F (by decide) ?_
          rw [if_pos (show least ≤ z_C c n j ∧ z_C c n j ≤ 9 ∧ z_C c n j < lim from ⟨hc.1, h9, hc.2⟩)]
          refine e_C (i := 10 * rm + kk) (by rw [show (10 : Int32) = nI 10 from rfl, q_mul, nI_add]) hrm (by decide) ?_
          have h11 : z_C c n j ≠ 11 := by omega
          rw [m_tok ht h11 hk, q_B]
          rw [show (10 : Int32) * nI rm + nI kk = nI (10 * rm + kk) by rw [show (10 : Int32) = nI 10 from rfl, q_mul, nI_add], nI_clamp (by omega)]
          rfl
        · rw [decide_eq_false (by omega)]
          refine e_T (by decide) ?_
          rw [if_neg (show ¬ (least ≤ z_C c n j ∧ z_C c n j ≤ 9 ∧ z_C c n j < lim) from fun z => hc ⟨z.1, z.2.2⟩)]
          rfl
      · refine e_F (by rw [q_lit, nI_eq (by omega) (by decide)]; exact h4) (no (fun z => ?_))
        exact h4 (hnum.mp z).2.2
    · refine e_F (by rw [q_lit, nI_eq (by omega) (by decide)]; exact h3) (no (fun z => ?_))
      exact h3 (hnum.mp z).2.1
/-- where the reference stands: at token j -/
def z_ps (c : Nat → Nat) (n j : Nat) (a e p : Int32) : Prop := a = nI (z_ze c n j) ∧ e = nI (z_ze c n j) ∧ p = nI (z_tp c n j)
theorem z_lst_le (wd : Nat) : z_lst wd ≤ 1 := by unfold z_lst; split <;> omega
theorem m_readsTerm {c : Nat → Nat} {n j k rm t P M : Nat} {g rd : Nat → Int32} (ht : z_tx c n g) (hk : 300 ≤ k) (hrm : rm < 12) (htt : t < 3) (hP : P ≤ 3) (hM : M ≤ 5) : wp (f_Mo_readsTerm k (nI (z_ze c n j)) (nI (z_ze c n j)) (nI n) (nI (z_tp c n j)) (nI rm) (nI P) (nI M) rd g (nI t)) (fun q => ((z_tm P M (z_C c n) j).1 = true ∧ q.1 = nI 1 ∧ z_ps c n (j + 2) q.2.1 q.2.2.1 q.2.2.2.1 ∧ q.2.2.2.2 = upd (upd rd (10 * rm + (3 + 2 * t)) (nI (z_C c n j - 21))) (10 * rm + (4 + 2 * t)) (nI (z_C c n (j + 1)))) ∨ ((z_tm P M (z_C c n) j).1 = false ∧ q.1 = nI 0 ∧ z_ps c n (z_tm P M (z_C c n) j).2 q.2.1 q.2.2.1 q.2.2.2.1)) := by
  have hb := z_tp_le c n j
  unfold f_Mo_readsTerm
  refine w_Be (m_termWord ht hb (by omega)) ?_
  unfold z_to z_tm
  by_cases h1 : 21 ≤ z_C c n j ∧ z_C c n j ≤ 28
  · have h1' : 21 ≤ z_code c n (z_tp c n j) ∧ z_code c n (z_tp c n j) ≤ 28 := h1
    rw [if_pos h1', if_pos h1]
    have h11 : z_C c n j ≠ 11 := by omega
    have ew : nI (z_code c n (z_tp c n j) - 21) = nI (z_C c n j - 21) := rfl
    rw [ew]
    refine w_F (fun z => (q_eqm1 (by omega)).mp z) ?_
    refine w_Be (m_tok ht h11 hk) ?_
    have ei : ((10 : Int32) * nI rm + 3) + (2 : Int32) * nI t = nI (10 * rm + (3 + 2 * t)) := by
      rw [show (10 : Int32) = nI 10 from rfl, show (3 : Int32) = nI 3 from rfl, show (2 : Int32) = nI 2 from rfl, q_mul, q_mul, nI_add, nI_add, Nat.add_assoc]
    refine w_C (i := 10 * rm + (3 + 2 * t)) ei (by omega) (by decide) ?_
    rw [ei, nI_clamp (by omega)]
    have J104 : ∀ (s0 : Int32) (x3 : Int32), x3 = nI (z_lst (z_C c n j)) → s0.toInt = (z_lim (z_C c n j) P M : Int) - 1 → wp (f_Mo_readsTerm_J104 k (nI (z_ze c n (j + 1))) (nI (z_ze c n (j + 1))) (nI n) (nI (z_tp c n (j + 1))) (nI rm) (nI P) (nI M) (upd rd (10 * rm + (3 + 2 * t)) (nI (z_C c n j - 21))) g (nI t) x3 s0) (fun q => ((if z_nok (z_C c n j) P M (z_C c n (j + 1)) = true then (true, j + 2) else (false, j + 1) : Bool × Nat).1 = true ∧ q.1 = nI 1 ∧ z_ps c n (j + 2) q.2.1 q.2.2.1 q.2.2.2.1 ∧ q.2.2.2.2 = upd (upd rd (10 * rm + (3 + 2 * t)) (nI (z_C c n j - 21))) (10 * rm + (4 + 2 * t)) (nI (z_C c n (j + 1)))) ∨ ((if z_nok (z_C c n j) P M (z_C c n (j + 1)) = true then (true, j + 2) else (false, j + 1) : Bool × Nat).1 = false ∧ q.1 = nI 0 ∧ z_ps c n (if z_nok (z_C c n j) P M (z_C c n (j + 1)) = true then (true, j + 2) else (false, j + 1) : Bool × Nat).2 q.2.1 q.2.2.1 q.2.2.2.1)) := by
      intro s0 x3 hx hs
      subst hx
      unfold f_Mo_readsTerm_J104
      rw [show (4 : Int32) + (2 : Int32) * nI t = nI (4 + 2 * t) by rw [show (4 : Int32) = nI 4 from rfl, show (2 : Int32) = nI 2 from rfl, q_mul, nI_add]]
      refine w_Be (m_reads (kk := 4 + 2 * t) ht hk (by omega) (z_lst_le _) hs) ?_
      by_cases h2 : z_nok (z_C c n j) P M (z_C c n (j + 1)) = true
      · rw [if_pos (z_nok_t h2), if_pos h2]
        exact w_some (Or.inl ⟨rfl, show nI 1 &&& 1 = nI 1 by decide, ⟨rfl, rfl, rfl⟩, rfl⟩)
      · rw [if_neg (fun z => h2 (decide_eq_true z)), if_neg h2]
        exact w_some (Or.inr ⟨rfl, show nI 0 &&& 1 = nI 0 by decide, ⟨rfl, rfl, rfl⟩⟩)
    have hp1 : (nI P - (1 : Int32)).toInt = (P : Int) - 1 := q_predT (by omega)
    have hm1 : (nI M).toInt = ((M + 1 : Nat) : Int) - 1 := by rw [nI_toInt (by omega)]; omega
    have J46 : ∀ x3 : Int32, x3 = nI (z_lst (z_C c n j)) → wp (f_Mo_readsTerm_J46 k (nI (z_ze c n (j + 1))) (nI (z_ze c n (j + 1))) (nI n) (nI (z_tp c n (j + 1))) (nI rm) (nI P) (nI M) (upd rd (10 * rm + (3 + 2 * t)) (nI (z_C c n j - 21))) g (nI t) (nI (z_C c n j - 21)) x3) _ := fun x3 hx => by
      unfold f_Mo_readsTerm_J46 f_Mo_readsTerm_J56 f_Mo_readsTerm_J85
      have hc : z_C c n j = 21 ∨ z_C c n j = 22 ∨ z_C c n j = 23 ∨ z_C c n j = 24 ∨ z_C c n j = 25 ∨ z_C c n j = 26 ∨ z_C c n j = 27 ∨ z_C c n j = 28 := by omega
      have hne : ∀ v, v < 8 → z_C c n j - 21 ≠ v → ¬ nI (z_C c n j - 21) = nI v := fun v hv h e => h ((nI_eq (by omega) (by omega)).mp e)
      by_cases k0 : z_C c n j = 21
      · refine w_T (by rw [k0]; rfl) (J104 _ _ hx ?_)
        rw [hp1, k0]; rfl
      refine w_F (hne 0 (by omega) (by omega)) ?_
      by_cases k1 : z_C c n j = 22
      · refine w_T (by rw [k1]; rfl) (J104 _ _ hx ?_)
        rw [hp1, k1]; rfl
      refine w_F (hne 1 (by omega) (by omega)) ?_
      by_cases k2 : z_C c n j = 23
      · refine w_T (by rw [k2]; rfl) (J104 _ _ hx ?_)
        rw [k2]; rfl
      refine w_F (hne 2 (by omega) (by omega)) ?_
      by_cases k3 : z_C c n j = 24
      · refine w_T (by rw [k3]; rfl) (J104 _ _ hx ?_)
        rw [hm1, k3]; rfl
      refine w_F (hne 3 (by omega) (by omega)) ?_
      by_cases k4 : z_C c n j = 25
      · refine w_T (by rw [k4]; rfl) (J104 _ _ hx ?_)
        rw [hm1, k4]; rfl
      refine w_F (hne 4 (by omega) (by omega)) ?_
      by_cases k7 : z_C c n j = 28
      · refine w_T (by rw [k7]; rfl) (J104 _ _ hx ?_)
        rw [k7]; rfl
      refine w_F (hne 7 (by omega) (by omega)) (J104 _ _ hx ?_)
      have hk56 : z_C c n j = 26 ∨ z_C c n j = 27 := by omega
      rcases hk56 with h | h <;> rw [h] <;> rfl
    by_cases k7 : z_C c n j = 28
    · refine w_T (by rw [k7]; rfl) (J46 _ ?_)
      rw [k7]; rfl
    · refine w_F (fun z => k7 (by have := (nI_eq (by omega) (by decide : 7 < 2 ^ 31)).mp z; omega)) (J46 _ ?_)
      unfold z_lst
      rw [if_neg (by omega)]
      rfl
  · have h1' : ¬ (21 ≤ z_code c n (z_tp c n j) ∧ z_code c n (z_tp c n j) ≤ 28) := h1
    rw [if_neg h1', if_neg h1]
    exact w_T rfl (w_some (Or.inr ⟨rfl, rfl, rfl, rfl, rfl⟩))
