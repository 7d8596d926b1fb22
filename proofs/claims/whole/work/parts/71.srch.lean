/-! longs -/
theorem l_inj {a b : Nat} (ha : a < 2 ^ 64) (hb : b < 2 ^ 64) : lN a = lN b ↔ a = b := by
  constructor
  · intro h
    have h2 : (lN a).toBitVec.toNat = (lN b).toBitVec.toNat := by rw [h]
    rw [show (lN a).toBitVec = BitVec.ofNat 64 a from rfl, show (lN b).toBitVec = BitVec.ofNat 64 b from rfl, BitVec.toNat_ofNat, BitVec.toNat_ofNat, Nat.mod_eq_of_lt ha, Nat.mod_eq_of_lt hb] at h2
    exact h2
  · rintro rfl; rfl
theorem l_and (a b : Nat) : lN a &&& lN b = lN (a &&& b) := by
  apply Int64.toBitVec_inj.1
  show BitVec.ofNat 64 a &&& BitVec.ofNat 64 b = BitVec.ofNat 64 (a &&& b)
  apply BitVec.eq_of_getLsbD_eq
  intro i hi
  simp [hi]
theorem l_or (a b : Nat) : lN a ||| lN b = lN (a ||| b) := by
  apply Int64.toBitVec_inj.1
  show BitVec.ofNat 64 a ||| BitVec.ofNat 64 b = BitVec.ofNat 64 (a ||| b)
  apply BitVec.eq_of_getLsbD_eq
  intro i hi
  simp [hi]
theorem l_s64 : ∀ n, n < 64 → (((nI n).toInt64 &&& 63).toBitVec.smod 64).toNat = n := by decide +kernel
theorem l_shl {a b : Nat} (hb : b < 64) : lN a <<< ((nI b).toInt64 &&& 63) = lN (a * 2 ^ b) := by
  apply Int64.toBitVec_inj.1
  apply BitVec.eq_of_toNat_eq
  show ((lN a).toBitVec <<< (((nI b).toInt64 &&& 63).toBitVec.smod 64).toNat).toNat = (BitVec.ofNat 64 (a * 2 ^ b)).toNat
  rw [l_s64 b hb, BitVec.toNat_shiftLeft, Nat.shiftLeft_eq, BitVec.toNat_ofNat]
  show (BitVec.ofNat 64 a).toNat * 2 ^ b % 2 ^ 64 = _
  rw [BitVec.toNat_ofNat, Nat.mod_mul_mod]
theorem l_shr {a b : Nat} (ha : a < 2 ^ 63) (hb : b < 64) : lN a >>> ((nI b).toInt64 &&& 63) = lN (a / 2 ^ b) := by
  apply Int64.toInt_inj.mp
  have h2 : a / 2 ^ b ≤ a := Nat.div_le_self _ _
  show ((lN a).toBitVec.sshiftRight (((nI b).toInt64 &&& 63).toBitVec.smod 64).toNat).toInt = _
  rw [l_s64 b hb, BitVec.toInt_sshiftRight]
  show (lN a).toInt >>> b = _
  rw [pk_lT ha, pk_lT (by omega), Int.shiftRight_eq_div_pow]
  rfl
theorem l_one (j : Nat) (h : j < 64) : (1 : Int64) <<< ((nI j).toInt64 &&& 63) = lN (2 ^ j) := by
  have := l_shl (a := 1) h
  rw [Nat.one_mul] at this
  exact this
theorem q_a63 (a : Nat) : nI a &&& nI 63 = nI (a % 64) := q_mod 6 (by decide) a
theorem q_a255 (a : Nat) : nI a &&& nI 255 = nI (a % 256) := q_mod 8 (by decide) a
/-! rows of found states as the class keeps them -/
def z_pkN (e : zE) : Nat := e.1 + e.2.1 * 2 ^ 16 + e.2.2.1 * 2 ^ 24 + e.2.2.2 * 2 ^ 40
def z_LI (P M : Nat) (L : List zE) : Prop := (z_ss L).Nodup ∧ ∀ (i : Nat) (e : zE), L[i]? = some e → z_V P M e.1 ∧ e.2.1 < 19 ∧ e.2.2.1 < 57344 ∧ e.2.2.2 ≤ i
def z_sr (P M : Nat) (L : List zE) (nF : Nat) (size : Int32) (fo se : Nat → Int64) : Prop := z_LI P M L ∧ size = nI L.length ∧ z_cap P M ≤ nF ∧ nF ≤ 57344 ∧ (∀ (i : Nat) (e : zE), L[i]? = some e → fo i = lN (z_pkN e)) ∧ (∀ w, w < 896 → ∃ b, b < 2 ^ 64 ∧ se w = lN b ∧ ∀ j, j < 64 → b.testBit j = decide (64 * w + j ∈ z_ss L))
theorem z_LI_V {P M : Nat} {L : List zE} (h : z_LI P M L) {x : Nat} (hx : x ∈ z_ss L) : z_V P M x := by
  obtain ⟨e, he, rfl⟩ := List.mem_map.mp hx
  obtain ⟨i, hi⟩ := List.getElem?_of_mem he
  exact (h.2 i e hi).1
theorem z_ss_len (L : List zE) : (z_ss L).length = L.length := List.length_map _
theorem z_LI_len {P M : Nat} {L : List zE} (hP : P ≤ 3) (hM : M ≤ 5) (h : z_LI P M L) : L.length ≤ z_cap P M := by
  have := z_cap_len hP hM h.1 (fun x hx => z_LI_V h hx)
  rwa [z_ss_len] at this
theorem z_LI_put {P M : Nat} {L : List zE} {e : zE} (h : z_LI P M L) (h1 : z_V P M e.1) (h2 : e.2.1 < 19) (h3 : e.2.2.1 < 57344) (h4 : e.2.2.2 ≤ L.length) : z_LI P M (z_put L e) := by
  refine ⟨z_put_nd h.1, ?_⟩
  unfold z_put
  split
  · exact h.2
  · intro i f hf
    rcases z_app_at hf with ⟨_, hf⟩ | ⟨hi, rfl⟩
    · exact h.2 i f hf
    · exact ⟨h1, h2, h3, hi ▸ h4⟩
/-- all places taken: the state is there -/
theorem z_full {P M x : Nat} {L : List zE} (hP : P ≤ 3) (hM : M ≤ 5) (h : z_LI P M L) (hl : z_cap P M ≤ L.length) (hx : z_V P M x) : x ∈ z_ss L := by
  refine Decidable.byContradiction (fun hn => ?_)
  have h2 : z_LI P M (z_put L (x, 0, 0, 0)) := z_LI_put h hx (by show (0 : Nat) < 19; decide) (by show (0 : Nat) < 57344; decide) (Nat.zero_le _)
  have h3 := z_LI_len hP hM h2
  unfold z_put at h3
  rw [if_neg hn, List.length_append, List.length_singleton] at h3
  omega
theorem z_pk_or {x d f t : Nat} (hx : x < 2 ^ 16) (hd : d < 2 ^ 8) (hf : f < 2 ^ 16) : ((x ||| d * 2 ^ 16) ||| f * 2 ^ 24) ||| t * 2 ^ 40 = x + d * 2 ^ 16 + f * 2 ^ 24 + t * 2 ^ 40 := by
  have or_add : ∀ (a b k : Nat), a < 2 ^ k → a ||| b * 2 ^ k = a + b * 2 ^ k := by
    intro a b k ha
    rw [Nat.or_comm, Nat.mul_comm b, ← Nat.two_pow_add_eq_or_of_lt ha]
    omega
  rw [or_add x d 16 hx, or_add _ f 24 (by omega), or_add _ t 40 (by omega)]
theorem s_add {P M nF y d n t : Nat} {L : List zE} {size : Int32} {fo se : Nat → Int64} (hP : P ≤ 3) (hM : M ≤ 5) (h : z_sr P M L nF size fo se) (hy : z_V P M y) (hd : d < 19) (hn : n < 57344) (ht : t ≤ L.length) : wp (f_Se_add nF size fo se (nI y) (nI d) (nI n) (nI t)) (fun q => z_sr P M (z_put L (y, d, n, t)) nF q.1 q.2.1 q.2.2) := by
  obtain ⟨h1, rfl, h3, h4, h5, h6⟩ := h
  have hl := z_LI_len hP hM h1
  have hc := z_cap_le hP hM
  have hy1 := hy.1
  have same : y ∈ z_ss L → z_sr P M (z_put L (y, d, n, t)) nF (nI L.length) fo se := by
    intro hm
    unfold z_put
    rw [if_pos hm]
    exact ⟨h1, rfl, h3, h4, h5, h6⟩
  obtain ⟨b, hb, hse, hbit⟩ := h6 (y / 64) (by omega)
  have hby := hbit (y % 64) (by omega)
  rw [show 64 * (y / 64) + y % 64 = y by omega] at hby
  unfold f_Se_add
  refine w_Ln (w := nI (y / 64)) (by first | (with_reducible rfl) | (simp (disch := omega) only [q_lit, q_ofn, nI_add, q_mul, q_sub, q_shrm, q_shlm, q_a31s, q_a1, q_a3, q_a7, q_a65535, q_div, q_rem2, z_mm, nI_clamp, Nat.reduceMul, Nat.reduceAdd, Nat.reduceSub, Nat.reducePow, Nat.reduceMod, Nat.reduceDiv, Nat.one_mul]; done) | (simp (disch := omega) only [q_lit, q_ofn, nI_add, q_mul, q_sub, q_shrm, q_shlm, q_a31s, q_a1, q_a3, q_a7, q_a65535, q_div, q_rem2, z_mm, nI_clamp, Nat.reduceMul, Nat.reduceAdd, Nat.reduceSub, Nat.reducePow, Nat.reduceMod, Nat.reduceDiv, Nat.one_mul]; with_reducible rfl)) ?_
  refine w_F (by simp (disch := omega) only [q_lit, q_ofn, nI_add, q_mul, q_sub, q_shrm, q_shlm, q_a31s, q_a1, q_a3, q_a7, q_a65535, q_div, q_rem2, z_mm, nI_clamp, Nat.reduceMul, Nat.reduceAdd, Nat.reduceSub, Nat.reducePow, Nat.reduceMod, Nat.reduceDiv, Nat.one_mul, nI_ltI, nI_leI, nI_eq, q_b0, q_b1, q_m1lt, q_m1le, q_ltm1, q_lem1, q_eqm1, q_m1eq, not_true_eq_false, not_false_eq_true, reduceCtorEq, *] <;> first | omega | decide) ?_
  refine w_F (by simp (disch := omega) only [q_lit, q_ofn, nI_add, q_mul, q_sub, q_shrm, q_shlm, q_a31s, q_a1, q_a3, q_a7, q_a65535, q_div, q_rem2, z_mm, nI_clamp, Nat.reduceMul, Nat.reduceAdd, Nat.reduceSub, Nat.reducePow, Nat.reduceMod, Nat.reduceDiv, Nat.one_mul, nI_ltI, nI_leI, nI_eq, q_b0, q_b1, q_m1lt, q_m1le, q_ltm1, q_lem1, q_eqm1, q_m1eq, not_true_eq_false, not_false_eq_true, reduceCtorEq, *] <;> first | omega | decide) ?_
  refine w_F (by simp (disch := omega) only [q_lit, q_ofn, nI_add, q_mul, q_sub, q_shrm, q_shlm, q_a31s, q_a1, q_a3, q_a7, q_a65535, q_div, q_rem2, z_mm, nI_clamp, Nat.reduceMul, Nat.reduceAdd, Nat.reduceSub, Nat.reducePow, Nat.reduceMod, Nat.reduceDiv, Nat.one_mul, nI_ltI, nI_leI, nI_eq, q_b0, q_b1, q_m1lt, q_m1le, q_ltm1, q_lem1, q_eqm1, q_m1eq, not_true_eq_false, not_false_eq_true, reduceCtorEq, *] <;> first | omega | decide) ?_
  rw [q_ofn]
  by_cases hlt : L.length < nF
  · refine w_T (by simp (disch := omega) only [nI_ltI]; exact hlt) ?_
    refine w_Ln (w := lN (2 ^ (y % 64))) (by rw [q_lit, q_a63, l_one _ (by omega)]) ?_
    refine w_I (i := y / 64) (by first | (with_reducible rfl) | (simp (disch := omega) only [q_lit, q_ofn, nI_add, q_mul, q_sub, q_shrm, q_shlm, q_a31s, q_a1, q_a3, q_a7, q_a65535, q_div, q_rem2, z_mm, nI_clamp, Nat.reduceMul, Nat.reduceAdd, Nat.reduceSub, Nat.reducePow, Nat.reduceMod, Nat.reduceDiv, Nat.one_mul]; done) | (simp (disch := omega) only [q_lit, q_ofn, nI_add, q_mul, q_sub, q_shrm, q_shlm, q_a31s, q_a1, q_a3, q_a7, q_a65535, q_div, q_rem2, z_mm, nI_clamp, Nat.reduceMul, Nat.reduceAdd, Nat.reduceSub, Nat.reducePow, Nat.reduceMod, Nat.reduceDiv, Nat.one_mul]; with_reducible rfl)) (by omega) (by first | decide | omega) ?_
    rw [hse, l_and]
    have hand : b &&& 2 ^ (y % 64) < 2 ^ 64 := Nat.lt_of_le_of_lt Nat.and_le_left hb
    have h0 : (lg_cmp (lN (b &&& 2 ^ (y % 64))) (0 : Int64) = 0) ↔ ¬ y ∈ z_ss L := by
      rw [lg_cmp_eq, show (0 : Int64) = lN 0 from rfl, l_inj hand (by decide), z_andp0, hby, decide_eq_false_iff_not]
    by_cases hm : y ∈ z_ss L
    · refine w_F (fun e => h0.mp e hm) ?_
      exact w_some (same hm)
    · refine w_T (h0.mpr hm) ?_
      refine w_I (i := y / 64) (by first | (with_reducible rfl) | (simp (disch := omega) only [q_lit, q_ofn, nI_add, q_mul, q_sub, q_shrm, q_shlm, q_a31s, q_a1, q_a3, q_a7, q_a65535, q_div, q_rem2, z_mm, nI_clamp, Nat.reduceMul, Nat.reduceAdd, Nat.reduceSub, Nat.reducePow, Nat.reduceMod, Nat.reduceDiv, Nat.one_mul]; done) | (simp (disch := omega) only [q_lit, q_ofn, nI_add, q_mul, q_sub, q_shrm, q_shlm, q_a31s, q_a1, q_a3, q_a7, q_a65535, q_div, q_rem2, z_mm, nI_clamp, Nat.reduceMul, Nat.reduceAdd, Nat.reduceSub, Nat.reducePow, Nat.reduceMod, Nat.reduceDiv, Nat.one_mul]; with_reducible rfl)) (by omega) (by first | decide | omega) ?_
      rw [hse]
      refine w_Ln (w := lN (b ||| 2 ^ (y % 64))) (l_or _ _) ?_
      refine w_C (i := y / 64) (by first | (with_reducible rfl) | (simp (disch := omega) only [q_lit, q_ofn, nI_add, q_mul, q_sub, q_shrm, q_shlm, q_a31s, q_a1, q_a3, q_a7, q_a65535, q_div, q_rem2, z_mm, nI_clamp, Nat.reduceMul, Nat.reduceAdd, Nat.reduceSub, Nat.reducePow, Nat.reduceMod, Nat.reduceDiv, Nat.one_mul]; done) | (simp (disch := omega) only [q_lit, q_ofn, nI_add, q_mul, q_sub, q_shrm, q_shlm, q_a31s, q_a1, q_a3, q_a7, q_a65535, q_div, q_rem2, z_mm, nI_clamp, Nat.reduceMul, Nat.reduceAdd, Nat.reduceSub, Nat.reducePow, Nat.reduceMod, Nat.reduceDiv, Nat.one_mul]; with_reducible rfl)) (by omega) (by first | decide | omega) ?_
      refine w_Ln (w := lN (z_pkN (y, d, n, t))) ?_ ?_
      · rw [nI_l (by omega), nI_l (by omega), nI_l (by omega), nI_l (by omega), q_lit, q_lit, q_lit, l_shl (by decide), l_shl (by decide), l_shl (by decide), l_or, l_or, l_or, z_pk_or (by omega) (by omega) (by omega)]
        rfl
      refine w_C (i := L.length) rfl hlt (by omega) ?_
      refine w_Ln (w := nI (L.length + 1)) (by first | (with_reducible rfl) | (simp (disch := omega) only [q_lit, q_ofn, nI_add, q_mul, q_sub, q_shrm, q_shlm, q_a31s, q_a1, q_a3, q_a7, q_a65535, q_div, q_rem2, z_mm, nI_clamp, Nat.reduceMul, Nat.reduceAdd, Nat.reduceSub, Nat.reducePow, Nat.reduceMod, Nat.reduceDiv, Nat.one_mul]; done) | (simp (disch := omega) only [q_lit, q_ofn, nI_add, q_mul, q_sub, q_shrm, q_shlm, q_a31s, q_a1, q_a3, q_a7, q_a65535, q_div, q_rem2, z_mm, nI_clamp, Nat.reduceMul, Nat.reduceAdd, Nat.reduceSub, Nat.reducePow, Nat.reduceMod, Nat.reduceDiv, Nat.one_mul]; with_reducible rfl)) ?_
      rw [nI_clamp (by omega), nI_clamp (by omega)]
      refine w_some ?_
      have hput : z_put L (y, d, n, t) = L ++ [(y, d, n, t)] := by unfold z_put; rw [if_neg hm]
      have hLI := z_LI_put (e := (y, d, n, t)) h1 hy hd hn ht
      refine ⟨hLI, ?_, h3, h4, ?_, ?_⟩
      · rw [hput, List.length_append, List.length_singleton]
      · intro i e he
        rw [hput] at he
        rcases z_app_at he with ⟨hi, he⟩ | ⟨hi, rfl⟩
        · show vp_updL fo L.length _ i = _
          rw [pk_uLn (by omega)]
          exact h5 i e he
        · subst hi
          exact pk_uLs
      · intro w hw
        rw [hput, z_ss_app]
        by_cases hwy : w = y / 64
        · subst hwy
          refine ⟨b ||| 2 ^ (y % 64), Nat.or_lt_two_pow hb (Nat.pow_lt_pow_right (by decide) (by omega)), pk_uLs, ?_⟩
          intro j hj
          rw [Nat.testBit_or, hbit j hj, Nat.testBit_two_pow]
          by_cases hjy : y % 64 = j
          · have : 64 * (y / 64) + j = y := by omega
            simp [hjy, this]
          · have : ¬ 64 * (y / 64) + j = y := by omega
            simp [hjy, this]
        · obtain ⟨b2, hb2, hse2, hbit2⟩ := h6 w hw
          refine ⟨b2, hb2, ?_, ?_⟩
          · show vp_updL se (y / 64) _ w = _
            rw [pk_uLn hwy]
            exact hse2
          · intro j hj
            rw [hbit2 j hj]
            have : ¬ 64 * w + j = y := by omega
            simp [this]
  · refine w_F (by simp (disch := omega) only [nI_ltI]; exact hlt) ?_
    exact w_some (same (z_full hP hM h1 (by omega) hy))
theorem z_sr_pk {P M nF i : Nat} {L : List zE} {size : Int32} {fo se : Nat → Int64} (hP : P ≤ 3) (hM : M ≤ 5) (h : z_sr P M L nF size fo se) {e : zE} (he : L[i]? = some e) : i < nF ∧ nF < 2 ^ 31 ∧ fo i = lN (z_pkN e) ∧ e.1 < 57344 ∧ e.2.1 < 19 ∧ e.2.2.1 < 57344 ∧ e.2.2.2 < 57344 ∧ z_pkN e < 2 ^ 63 ∧ i < L.length ∧ L.length ≤ 57344 := by
  obtain ⟨h1, rfl, h3, h4, h5, h6⟩ := h
  have hl := z_LI_len hP hM h1
  have hc := z_cap_le hP hM
  have hi := z_at_lt he
  obtain ⟨a1, a2, a3, a4⟩ := h1.2 i e he
  have := a1.1
  refine ⟨by omega, by omega, h5 i e he, this, a2, a3, by omega, ?_, hi, by omega⟩
  unfold z_pkN
  omega
theorem s_stateAt {P M nF i : Nat} {L : List zE} {size : Int32} {fo se : Nat → Int64} (hP : P ≤ 3) (hM : M ≤ 5) (h : z_sr P M L nF size fo se) {e : zE} (he : L[i]? = some e) : f_Se_stateAt nF fo (nI i) = some (nI e.1) := by
  obtain ⟨a1, a2, a3, a4, a5, a6, a7, a8, a9, a10⟩ := z_sr_pk hP hM h he
  unfold f_Se_stateAt f_St_of
  refine e_F (by simp (disch := omega) only [q_lit, q_ofn, nI_add, q_mul, q_sub, q_shrm, q_shlm, q_a31s, q_a1, q_a3, q_a7, q_a65535, q_div, q_rem2, z_mm, nI_clamp, Nat.reduceMul, Nat.reduceAdd, Nat.reduceSub, Nat.reducePow, Nat.reduceMod, Nat.reduceDiv, Nat.one_mul, nI_ltI, nI_leI, nI_eq, q_b0, q_b1, q_m1lt, q_m1le, q_ltm1, q_lem1, q_eqm1, q_m1eq, not_true_eq_false, not_false_eq_true, reduceCtorEq, *] <;> first | omega | decide) ?_
  rw [q_ofn]
  refine e_T (by simp (disch := omega) only [nI_ltI]; exact a1) ?_
  refine e_I (i := i) rfl a1 a2 ?_
  rw [a3, lN_i, q_lit, q_a65535, q_B]
  congr 2
  unfold z_pkN
  simp only [Nat.reducePow]
  omega
theorem s_distanceAt {P M nF i : Nat} {L : List zE} {size : Int32} {fo se : Nat → Int64} (hP : P ≤ 3) (hM : M ≤ 5) (h : z_sr P M L nF size fo se) {e : zE} (he : L[i]? = some e) : f_Se_distanceAt nF fo (nI i) = some (nI e.2.2.2) := by
  obtain ⟨a1, a2, a3, a4, a5, a6, a7, a8, a9, a10⟩ := z_sr_pk hP hM h he
  unfold f_Se_distanceAt
  refine e_F (by simp (disch := omega) only [q_lit, q_ofn, nI_add, q_mul, q_sub, q_shrm, q_shlm, q_a31s, q_a1, q_a3, q_a7, q_a65535, q_div, q_rem2, z_mm, nI_clamp, Nat.reduceMul, Nat.reduceAdd, Nat.reduceSub, Nat.reducePow, Nat.reduceMod, Nat.reduceDiv, Nat.one_mul, nI_ltI, nI_leI, nI_eq, q_b0, q_b1, q_m1lt, q_m1le, q_ltm1, q_lem1, q_eqm1, q_m1eq, not_true_eq_false, not_false_eq_true, reduceCtorEq, *] <;> first | omega | decide) ?_
  rw [q_ofn]
  refine e_T (by simp (disch := omega) only [nI_ltI]; exact a1) ?_
  refine e_I (i := i) rfl a1 a2 ?_
  rw [a3, q_lit, q_lit, l_shr a8 (by decide), lN_i, q_a65535]
  congr 2
  unfold z_pkN
  simp only [Nat.reducePow]
  omega
theorem s_fromAt {P M nF i : Nat} {L : List zE} {size : Int32} {fo se : Nat → Int64} (hP : P ≤ 3) (hM : M ≤ 5) (h : z_sr P M L nF size fo se) {e : zE} (he : L[i]? = some e) : f_Se_fromAt nF fo (nI i) = some (nI e.2.2.1) := by
  obtain ⟨a1, a2, a3, a4, a5, a6, a7, a8, a9, a10⟩ := z_sr_pk hP hM h he
  unfold f_Se_fromAt
  refine e_F (by simp (disch := omega) only [q_lit, q_ofn, nI_add, q_mul, q_sub, q_shrm, q_shlm, q_a31s, q_a1, q_a3, q_a7, q_a65535, q_div, q_rem2, z_mm, nI_clamp, Nat.reduceMul, Nat.reduceAdd, Nat.reduceSub, Nat.reducePow, Nat.reduceMod, Nat.reduceDiv, Nat.one_mul, nI_ltI, nI_leI, nI_eq, q_b0, q_b1, q_m1lt, q_m1le, q_ltm1, q_lem1, q_eqm1, q_m1eq, not_true_eq_false, not_false_eq_true, reduceCtorEq, *] <;> first | omega | decide) ?_
  rw [q_ofn]
  refine e_T (by simp (disch := omega) only [nI_ltI]; exact a1) ?_
  refine e_I (i := i) rfl a1 a2 ?_
  rw [a3, q_lit, q_lit, l_shr a8 (by decide), lN_i, q_a65535]
  congr 2
  unfold z_pkN
  simp only [Nat.reducePow]
  omega
theorem s_deedAt {P M nF i : Nat} {L : List zE} {size : Int32} {fo se : Nat → Int64} (hP : P ≤ 3) (hM : M ≤ 5) (h : z_sr P M L nF size fo se) {e : zE} (he : L[i]? = some e) : f_Se_deedAt nF fo (nI i) = some (nI e.2.1) := by
  obtain ⟨a1, a2, a3, a4, a5, a6, a7, a8, a9, a10⟩ := z_sr_pk hP hM h he
  unfold f_Se_deedAt
  refine e_F (by simp (disch := omega) only [q_lit, q_ofn, nI_add, q_mul, q_sub, q_shrm, q_shlm, q_a31s, q_a1, q_a3, q_a7, q_a65535, q_div, q_rem2, z_mm, nI_clamp, Nat.reduceMul, Nat.reduceAdd, Nat.reduceSub, Nat.reducePow, Nat.reduceMod, Nat.reduceDiv, Nat.one_mul, nI_ltI, nI_leI, nI_eq, q_b0, q_b1, q_m1lt, q_m1le, q_ltm1, q_lem1, q_eqm1, q_m1eq, not_true_eq_false, not_false_eq_true, reduceCtorEq, *] <;> first | omega | decide) ?_
  rw [q_ofn]
  refine e_T (by simp (disch := omega) only [nI_ltI]; exact a1) ?_
  refine e_I (i := i) rfl a1 a2 ?_
  rw [a3, q_lit, q_lit, l_shr a8 (by decide), lN_i, q_a255]
  congr 2
  unfold z_pkN
  simp only [Nat.reducePow]
  omega
