/-! the searches asked: fewest, never, many, farthest, nights -/
theorem i_len_gr {P M n n' : Nat} (hP : P ≤ 3) (hM : M ≤ 5) (h : z_gr P M n n') (hl : i_len n) : i_len n' := by
  unfold z_gr at h
  subst h
  by_cases hc : n < z_cap P M
  · rw [if_pos hc]; exact Or.inr ⟨P + M, by omega, rfl⟩
  · rw [if_neg hc]; exact hl
theorem z_SO_of {P M who bar x0 : Nat} {sp : Nat → Nat → Nat} {q : Nat × Int32 × Int32 × Int32 × Int32 × Int32 × Int32 × (Nat → Int64) × (Nat → Int64)} (h : z_SK P M sp who bar x0 q) (hw : who < 8) (hb : bar < 32) (h0 : z_V P M x0) : z_SO P M sp q := ⟨(z_sk_cap h).2, Or.inr ⟨who, bar, x0, hw, hb, h0, h⟩⟩
theorem z_gr_nlt {P M who bar x0 : Nat} {sp : Nat → Nat → Nat} {q : Nat × Int32 × Int32 × Int32 × Int32 × Int32 × Int32 × (Nat → Int64) × (Nat → Int64)} (hP : P ≤ 3) (hM : M ≤ 5) (h : z_SK P M sp who bar x0 q) : ¬ q.1 < mostN (nI P) (nI M) := by
  rw [t_mostN hP hM]
  have := (z_sk_cap h).1
  omega
theorem z_gr_nlt2 {P M n n' : Nat} (hP : P ≤ 3) (hM : M ≤ 5) (h : z_gr P M n n') : ¬ n' < mostN (nI P) (nI M) := by
  rw [t_mostN hP hM]
  unfold z_gr at h
  subst h
  by_cases hc : n < z_cap P M
  · rw [if_pos hc]; omega
  · rw [if_neg hc]; omega
theorem z_gr_le {P M n n' : Nat} (hP : P ≤ 3) (hM : M ≤ 5) (h : z_gr P M n n') (hn : n ≤ 57344) : n' ≤ 57344 := by
  unfold z_gr at h
  subst h
  have := z_cap_le hP hM
  by_cases hc : n < z_cap P M
  · rw [if_pos hc]; omega
  · rw [if_neg hc]; omega
theorem z_all8 {P : Nat} (hP : P ≤ 3) : 2 ^ P - 1 < 8 := by
  have := Nat.pow_le_pow_right (n := 2) (by decide) hP
  omega
theorem z_set {M : Nat} (hM : M ≤ 5) (p : Int32) : (f_To_hasAll (nI M) p = some (nI 0) ∧ f_Mo_isSet (nI M) p = some (nI 0)) ∨ ∃ v, v < 2 ^ M ∧ v < 2 ^ 31 ∧ p = nI v ∧ f_To_hasAll (nI M) p = some (nI 1) ∧ f_Mo_isSet (nI M) p = some (nI 1) := by
  rcases q_any p with hneg | ⟨v, hv, rfl⟩
  · exact Or.inl ⟨t_hasAllN hneg, m_isSetN hneg⟩
  · have a1 := t_hasAll hM hv
    have a2 := m_isSet (M := M) (by omega) hv
    by_cases h : v < 2 ^ M
    · rw [decide_eq_true h] at a1 a2
      exact Or.inr ⟨v, h, hv, rfl, a1, a2⟩
    · rw [decide_eq_false h] at a1 a2
      exact Or.inl ⟨a1, a2⟩
theorem q_few {P M who bar x0 nF k : Nat} {sp : Nat → Nat → Nat} {ak ba bi ks kn mk so va wk : Nat → Int32} {da dn op size st un : Int32} {fo se : Nat → Int64} (ok : z_ok P M sp) (hA : z_RA M sp ak kn mk va wk) (hB : z_RB P M sp (z_ds P).length (z_dd P) ba bi ks so) (hbar : bar < 32) (h0 : z_V P M x0) (hk : 60000 ≤ k) (hq : z_SK P M sp who bar x0 (nF, da, dn, op, size, st, un, fo, se)) {set : Nat} (hset : set < 2 ^ 31) : wp (f_Se_fewestWithout k nF da op (nI (z_ds P).length) (nI M) size un fo ak ba bi ks kn mk so va wk se (nI set)) (fun q => q.1 = z_few (z_F P M sp who bar x0) set ∧ z_SK P M sp who bar x0 (nF, da, dn, q.2.1, q.2.2.1, st, un, q.2.2.2.1, q.2.2.2.2)) := by
  obtain ⟨e1, e2, e3, e4, n, hs⟩ := hq; simp only at e1 e2 e3 e4 hs; subst e1; subst e2; subst e3; subst e4
  exact w_mono (s_few ok hA hB (by omega) h0 hset hk hs) (fun q h => ⟨h.1, rfl, rfl, rfl, rfl, h.2⟩)
theorem q_held {P M who bar x0 nF k : Nat} {sp : Nat → Nat → Nat} {ak ba bi ks kn mk so va wk : Nat → Int32} {da dn op size st un : Int32} {fo se : Nat → Int64} (ok : z_ok P M sp) (hA : z_RA M sp ak kn mk va wk) (hB : z_RB P M sp (z_ds P).length (z_dd P) ba bi ks so) (hbar : bar < 32) (h0 : z_V P M x0) (hk : 60000 ≤ k) (hq : z_SK P M sp who bar x0 (nF, da, dn, op, size, st, un, fo, se)) : wp (f_Se_heldEverywhere k nF da op (nI (z_ds P).length) (nI M) size st un fo ak ba bi ks kn mk so va wk se) (fun q => q.1 = nI (z_and (z_F P M sp who bar x0) (x0 % 32)) ∧ z_SK P M sp who bar x0 (nF, da, dn, q.2.1, q.2.2.1, st, un, q.2.2.2.1, q.2.2.2.2)) := by
  obtain ⟨e1, e2, e3, e4, n, hs⟩ := hq; simp only at e1 e2 e3 e4 hs; subst e1; subst e2; subst e3; subst e4
  exact w_mono (s_held ok hA hB (by omega) h0 hk hs) (fun q h => ⟨h.1, rfl, rfl, rfl, rfl, h.2⟩)
theorem q_states {P M who bar x0 nF k : Nat} {sp : Nat → Nat → Nat} {ak ba bi ks kn mk so va wk : Nat → Int32} {da dn op size st un : Int32} {fo se : Nat → Int64} (ok : z_ok P M sp) (hA : z_RA M sp ak kn mk va wk) (hB : z_RB P M sp (z_ds P).length (z_dd P) ba bi ks so) (hbar : bar < 32) (h0 : z_V P M x0) (hk : 60000 ≤ k) (hq : z_SK P M sp who bar x0 (nF, da, dn, op, size, st, un, fo, se)) {t : Nat} (ht : t < 2 ^ 31) : wp (f_Se_statesAt k nF da op (nI (z_ds P).length) (nI M) size un fo ak ba bi ks kn mk so va wk se (nI t)) (fun q => q.1 = nI (z_cd (z_F P M sp who bar x0) t) ∧ z_SK P M sp who bar x0 (nF, da, dn, q.2.1, q.2.2.1, st, un, q.2.2.2.1, q.2.2.2.2)) := by
  obtain ⟨e1, e2, e3, e4, n, hs⟩ := hq; simp only at e1 e2 e3 e4 hs; subst e1; subst e2; subst e3; subst e4
  exact w_mono (s_states ok hA hB (by omega) h0 ht hk hs) (fun q h => ⟨h.1, rfl, rfl, rfl, rfl, h.2⟩)
theorem q_great {P M who bar x0 nF k : Nat} {sp : Nat → Nat → Nat} {ak ba bi ks kn mk so va wk : Nat → Int32} {da dn op size st un : Int32} {fo se : Nat → Int64} (ok : z_ok P M sp) (hA : z_RA M sp ak kn mk va wk) (hB : z_RB P M sp (z_ds P).length (z_dd P) ba bi ks so) (hbar : bar < 32) (h0 : z_V P M x0) (hk : 60000 ≤ k) (hq : z_SK P M sp who bar x0 (nF, da, dn, op, size, st, un, fo, se)) : wp (f_Se_greatestDistance k nF da op (nI (z_ds P).length) (nI M) size un fo ak ba bi ks kn mk so va wk se) (fun q => (∃ e, (z_F P M sp who bar x0)[(z_F P M sp who bar x0).length - 1]? = some e ∧ q.1 = nI e.2.2.2) ∧ z_SK P M sp who bar x0 (nF, da, dn, q.2.1, q.2.2.1, st, un, q.2.2.2.1, q.2.2.2.2)) := by
  obtain ⟨e1, e2, e3, e4, n, hs⟩ := hq; simp only at e1 e2 e3 e4 hs; subst e1; subst e2; subst e3; subst e4
  exact w_mono (s_great ok hA hB (by omega) h0 hk hs) (fun q h => ⟨h.1, rfl, rfl, rfl, rfl, h.2⟩)
theorem q_deedTo {P M who bar x0 nF k : Nat} {sp : Nat → Nat → Nat} {ak ba bi ks kn mk so va wk : Nat → Int32} {da dn op size st un : Int32} {fo se : Nat → Int64} (ok : z_ok P M sp) (hA : z_RA M sp ak kn mk va wk) (hB : z_RB P M sp (z_ds P).length (z_dd P) ba bi ks so) (hbar : bar < 32) (h0 : z_V P M x0) (hk : 60000 ≤ k) (hq : z_SK P M sp who bar x0 (nF, da, dn, op, size, st, un, fo, se)) {set i : Nat} (hset : set < 2 ^ 31) (hi : i < 2 ^ 31) : wp (f_Se_deedTo k nF da op (nI (z_ds P).length) (nI M) size un fo ak ba bi ks kn mk so va wk se (nI set) (nI i)) (fun q => z_dto (z_F P M sp who bar x0) set i q.1 ∧ z_SK P M sp who bar x0 (nF, da, dn, q.2.1, q.2.2.1, st, un, q.2.2.2.1, q.2.2.2.2)) := by
  obtain ⟨e1, e2, e3, e4, n, hs⟩ := hq; simp only at e1 e2 e3 e4 hs; subst e1; subst e2; subst e3; subst e4
  exact w_mono (s_deedTo ok hA hB (by omega) h0 hset hi hk hs) (fun q h => ⟨h.1, rfl, rfl, rfl, rfl, h.2⟩)
theorem q_from {P M x0 k nF : Nat} {sp : Nat → Nat → Nat} {c : Int32} {ba bi dr ks so wh : Nat → Int32} {op size st da dn un : Int32} {fo se : Nat → Int64} (ok : z_ok P M sp) (h : z_dt M sp (z_ds P) (c, ba, bi, dr, ks, so, wh)) (h0 : z_V P M x0) (hk : 1000 ≤ k) (hq : z_SO P M sp (nF, da, dn, op, size, st, un, fo, se)) : wp (f_SS_fromNow k nF da dn op size st un (nI (z_ds P).length) (nI P) (nI M) (nI x0) (nI P) fo se dr) (fun q => z_gr P M nF q.1 ∧ z_SK P M sp (2 ^ P - 1) 0 x0 q) := by
  unfold f_SS_fromNow
  refine w_Be (t_everybody ok.2.1) ?_
  refine w_Bw (s_ask (bar := 0) ok h h0 (z_all8 ok.2.1) (by decide) hk hq) ?_
  rintro ⟨q1, q2, q3, q4, q5, q6, q7, q8, q9⟩ hq
  exact w_G (z_gr_nlt ok.2.1 ok.2.2.1 hq.2) (w_some hq)
theorem q_what {P M x0 who bar k nF : Nat} {sp : Nat → Nat → Nat} {c : Int32} {ba bi dr ks so wh : Nat → Int32} {op size st da dn un : Int32} {fo se : Nat → Int64} (ok : z_ok P M sp) (h : z_dt M sp (z_ds P) (c, ba, bi, dr, ks, so, wh)) (h0 : z_V P M x0) (hw : who < 8) (hb : bar < 32) (hk : 1000 ≤ k) (hq : z_SO P M sp (nF, da, dn, op, size, st, un, fo, se)) : wp (f_SS_whatIf k nF (nI (z_ds P).length) (nI P) (nI M) da dn op size st un dr fo se (nI x0) (nI who) (nI bar)) (fun q => z_gr P M nF q.1 ∧ z_SK P M sp who bar x0 q) := by
  unfold f_SS_whatIf
  refine w_Bw (s_ask ok h h0 hw hb hk hq) ?_
  rintro ⟨q1, q2, q3, q4, q5, q6, q7, q8, q9⟩ hq
  exact w_G (z_gr_nlt ok.2.1 ok.2.2.1 hq.2) (w_some hq)
theorem p_fewest {ns k : Nat} {ci : Nat → Int32} {cf : Nat → Nat → Int32} {cl : Nat → Nat → Int64} {cn : Nat → Nat} {mi : Nat → Int32} {mf : Nat → Nat → Int32} (hk : 200000 ≤ k) (h : z_inv ns ci cf cl cn mi mf) (p1 : Int32) : wp (f_SS_fewest k (cn 0) (ci 1) (ci 2) (ci 3) (ci 4) (ci 5) (ci 6) (ci 17) (ci 18) (ci 19) (ci 20) (ci 24) (ci 25) (cl 0) (cl 1) (cf 12) (cf 13) (cf 15) (cf 17) (cf 18) (cf 19) (cf 20) (cf 21) (cf 22) (cf 23) p1) (fun q => wp (f_Mo_fewest k (mi 5) (mi 6) (mi 7) (mi 9) (mi 12) (mf 0) (mf 8) (mf 11) p1) (fun q' => q.1 = q'.1 ∧ z_inv ns (z_u (z_u (z_u (z_u (z_u (z_u ci 1 q.2.2.1) 2 q.2.2.2.1) 3 q.2.2.2.2.1) 4 q.2.2.2.2.2.1) 5 q.2.2.2.2.2.2.1) 6 q.2.2.2.2.2.2.2.1) cf (z_u (z_u cl 0 q.2.2.2.2.2.2.2.2.1) 1 q.2.2.2.2.2.2.2.2.2) (z_u cn 0 q.2.1) (z_u (z_u mi 5 q'.2.1) 12 q'.2.2.1) (z_u (z_u mf 0 q'.2.2.2.1) 8 q'.2.2.2.2))) := by
  obtain ⟨c, n, S, x, d, hT, ok, hdr, hml, hRU, hN, hU, hK, hR, hQ, hY, hF, hW, hl1, hl2, hb⟩ := h
  have hPe : (ci 24) = nI S.1 := hdr.2.2.1; have hSp : (ci 25) = nI S.2.1 := hdr.2.2.2.1; have hmM : (mi 6) = nI S.2.1 := hml.1; have hmP : (mi 9) = nI S.1 := hml.2.1; have hP1 := ok.1.1; have hP3 := ok.1.2.1; have hM5 := ok.1.2.2.1
  have hr1 : (ci 18) = nI S.1 := hRU.1; have hr2 : (ci 19) = nI S.2.1 := hRU.2.1; have hdt := hRU.2.2.2.2; have hr3 : (ci 17) = nI (z_ds S.1).length := hdt.1; have hA := hRU.2.2.1; have hB := z_RB_of ok.1 hdt; have hrep := hml.2.2.2.2; have h8 := z_all8 hP3; obtain ⟨n1, n2, n3, n4, n5, n6⟩ := id hN
  rw [hSp, hPe, hmP, hmM, n3, n5, hr1, hr2, hr3]
  rcases z_set hM5 p1 with ⟨a1, a2⟩ | ⟨v, hv, hv2, rfl, a1, a2⟩
  · refine w_2 (r1 := (-2, (cn 0), (ci 1), (ci 2), (ci 3), (ci 4), (ci 5), (ci 6), (cl 0), (cl 1))) (r2 := (-2, (mi 5), (mi 12), (mf 0), (mf 8))) ?_ ?_ ⟨rfl, c, n, S, x, d, hT, ok, hdr, hml, hRU, hN, hU, hK, hR, hQ, hY, hF, hW, hl1, hl2, hb⟩
    · unfold f_SS_fewest
      exact e_B a1 (e_T rfl rfl)
    · unfold f_Mo_fewest
      exact e_B a2 (e_T rfl rfl)
  · obtain ⟨A, hA0⟩ : ∃ A, A = z_few (z_F S.1 S.2.1 S.2.2.2.2 (2 ^ S.1 - 1) 0 x) v := ⟨_, rfl⟩
    refine w_2w (R1 := fun q => q.1 = A ∧ (z_gr S.1 S.2.1 (cn 0) q.2.1 ∧ z_SK S.1 S.2.1 S.2.2.2.2 (2 ^ S.1 - 1) 0 x q.2)) (R2 := fun q => q.1 = A) ?_ ?_ (fun q q' h1 h2 => ⟨h1.1.trans h2.symm, c, n, S, x, d, hT, ok, hdr, hml, hRU, hN, hU, hK, hR, hQ, hY, z_SO_of h1.2.2 h8 (by decide) n1, hW, i_len_gr hP3 hM5 h1.2.1 hl1, hl2, hb⟩)
    · unfold f_SS_fewest
      refine w_Be a1 (w_F (by decide) ?_)
      refine w_Bw (q_from ok.1 hdt n1 (by omega) hF) ?_; rintro ⟨w1, w2, w3, w4, w5, w6, w7, w8, w9⟩ ⟨hg, hs⟩; refine w_G (z_gr_nlt hP3 hM5 hs) ?_
      refine w_Bw (q_few ok.1 hA hB (by decide) n1 (by omega) hs hv2) ?_
      rintro ⟨y, o1, o2, o3, o4⟩ ⟨e, hs2⟩
      exact w_some ⟨e.trans hA0.symm, hg, hs2⟩
    · unfold f_Mo_fewest
      refine w_Be a2 (w_F (by decide) ?_)
      refine w_Bw (m_layAll ok.1 hrep n1 (by omega)) ?_
      rintro ⟨w1, w2, w3, w4⟩ hq
      refine w_Be (m_few hP3 hM5 hq hv2 (by omega)) ?_
      rw [← hA0]
      exact w_some rfl
theorem p_never {ns k : Nat} {ci : Nat → Int32} {cf : Nat → Nat → Int32} {cl : Nat → Nat → Int64} {cn : Nat → Nat} {mi : Nat → Int32} {mf : Nat → Nat → Int32} (hk : 200000 ≤ k) (h : z_inv ns ci cf cl cn mi mf) : wp (f_SS_never k (cn 0) (ci 1) (ci 2) (ci 3) (ci 4) (ci 5) (ci 6) (ci 17) (ci 18) (ci 19) (ci 20) (ci 24) (cl 0) (cl 1) (cf 12) (cf 13) (cf 15) (cf 17) (cf 18) (cf 19) (cf 20) (cf 21) (cf 22) (cf 23)) (fun q => wp (f_Mo_never k (mi 5) (mi 6) (mi 7) (mi 9) (mi 12) (mf 0) (mf 8) (mf 11)) (fun q' => q.1 = q'.1 ∧ z_inv ns (z_u (z_u (z_u (z_u (z_u (z_u ci 1 q.2.2.1) 2 q.2.2.2.1) 3 q.2.2.2.2.1) 4 q.2.2.2.2.2.1) 5 q.2.2.2.2.2.2.1) 6 q.2.2.2.2.2.2.2.1) cf (z_u (z_u cl 0 q.2.2.2.2.2.2.2.2.1) 1 q.2.2.2.2.2.2.2.2.2) (z_u cn 0 q.2.1) (z_u (z_u mi 5 q'.2.1) 12 q'.2.2.1) (z_u (z_u mf 0 q'.2.2.2.1) 8 q'.2.2.2.2))) := by
  obtain ⟨c, n, S, x, d, hT, ok, hdr, hml, hRU, hN, hU, hK, hR, hQ, hY, hF, hW, hl1, hl2, hb⟩ := h
  have hPe : (ci 24) = nI S.1 := hdr.2.2.1; have hSp : (ci 25) = nI S.2.1 := hdr.2.2.2.1; have hmM : (mi 6) = nI S.2.1 := hml.1; have hmP : (mi 9) = nI S.1 := hml.2.1; have hP1 := ok.1.1; have hP3 := ok.1.2.1; have hM5 := ok.1.2.2.1
  have hr1 : (ci 18) = nI S.1 := hRU.1; have hr2 : (ci 19) = nI S.2.1 := hRU.2.1; have hdt := hRU.2.2.2.2; have hr3 : (ci 17) = nI (z_ds S.1).length := hdt.1; have hA := hRU.2.2.1; have hB := z_RB_of ok.1 hdt; have hrep := hml.2.2.2.2; have h8 := z_all8 hP3; obtain ⟨n1, n2, n3, n4, n5, n6⟩ := id hN
  rw [hPe, hmP, hmM, n3, n5, hr1, hr2, hr3]
  refine w_2w (R1 := fun q => q.1 = nI (z_and (z_F S.1 S.2.1 S.2.2.2.2 (2 ^ S.1 - 1) 0 x) (x % 32)) ∧ (z_gr S.1 S.2.1 (cn 0) q.2.1 ∧ z_SK S.1 S.2.1 S.2.2.2.2 (2 ^ S.1 - 1) 0 x q.2)) (R2 := fun q => q.1 = nI (z_and (z_F S.1 S.2.1 S.2.2.2.2 (2 ^ S.1 - 1) 0 x) (x % 32))) ?_ ?_ (fun q q' h1 h2 => ⟨h1.1.trans h2.symm, c, n, S, x, d, hT, ok, hdr, hml, hRU, hN, hU, hK, hR, hQ, hY, z_SO_of h1.2.2 h8 (by decide) n1, hW, i_len_gr hP3 hM5 h1.2.1 hl1, hl2, hb⟩)
  · unfold f_SS_never
    refine w_Bw (q_from ok.1 hdt n1 (by omega) hF) ?_; rintro ⟨w1, w2, w3, w4, w5, w6, w7, w8, w9⟩ ⟨hg, hs⟩; refine w_G (z_gr_nlt hP3 hM5 hs) ?_
    refine w_Bw (q_held ok.1 hA hB (by decide) n1 (by omega) hs) ?_
    rintro ⟨y, o1, o2, o3, o4⟩ ⟨e, hs2⟩
    exact w_some ⟨e, hg, hs2⟩
  · unfold f_Mo_never f_Mo_neverOf
    refine w_Bw (R := fun q => q.1 = nI (z_and (z_F S.1 S.2.1 S.2.2.2.2 (2 ^ S.1 - 1) 0 x) (x % 32))) ?_ ?_
    · refine w_Bw (m_layAll ok.1 hrep n1 (by omega)) ?_
      rintro ⟨w1, w2, w3, w4⟩ hq
      exact w_Be (m_held hP3 hM5 n1 hq.1 (by omega)) (w_some rfl)
    · rintro ⟨w1, w2, w3, w4, w5⟩ hq
      exact w_some hq
theorem p_many {ns k : Nat} {ci : Nat → Int32} {cf : Nat → Nat → Int32} {cl : Nat → Nat → Int64} {cn : Nat → Nat} {mi : Nat → Int32} {mf : Nat → Nat → Int32} (hk : 200000 ≤ k) (h : z_inv ns ci cf cl cn mi mf) (p1 : Int32) : wp (f_SS_many k (cn 0) (ci 1) (ci 2) (ci 3) (ci 4) (ci 5) (ci 6) (ci 17) (ci 18) (ci 19) (ci 20) (ci 24) (cl 0) (cl 1) (cf 12) (cf 13) (cf 15) (cf 17) (cf 18) (cf 19) (cf 20) (cf 21) (cf 22) (cf 23) p1) (fun q => wp (f_Mo_many k (mi 5) (mi 6) (mi 7) (mi 9) (mi 12) (mf 0) (mf 8) (mf 11) p1) (fun q' => q.1 = q'.1 ∧ z_inv ns (z_u (z_u (z_u (z_u (z_u (z_u ci 1 q.2.2.1) 2 q.2.2.2.1) 3 q.2.2.2.2.1) 4 q.2.2.2.2.2.1) 5 q.2.2.2.2.2.2.1) 6 q.2.2.2.2.2.2.2.1) cf (z_u (z_u cl 0 q.2.2.2.2.2.2.2.2.1) 1 q.2.2.2.2.2.2.2.2.2) (z_u cn 0 q.2.1) (z_u (z_u mi 5 q'.2.1) 12 q'.2.2.1) (z_u (z_u mf 0 q'.2.2.2.1) 8 q'.2.2.2.2))) := by
  obtain ⟨c, n, S, x, d, hT, ok, hdr, hml, hRU, hN, hU, hK, hR, hQ, hY, hF, hW, hl1, hl2, hb⟩ := h
  have hPe : (ci 24) = nI S.1 := hdr.2.2.1; have hSp : (ci 25) = nI S.2.1 := hdr.2.2.2.1; have hmM : (mi 6) = nI S.2.1 := hml.1; have hmP : (mi 9) = nI S.1 := hml.2.1; have hP1 := ok.1.1; have hP3 := ok.1.2.1; have hM5 := ok.1.2.2.1
  have hr1 : (ci 18) = nI S.1 := hRU.1; have hr2 : (ci 19) = nI S.2.1 := hRU.2.1; have hdt := hRU.2.2.2.2; have hr3 : (ci 17) = nI (z_ds S.1).length := hdt.1; have hA := hRU.2.2.1; have hB := z_RB_of ok.1 hdt; have hrep := hml.2.2.2.2; have h8 := z_all8 hP3; obtain ⟨n1, n2, n3, n4, n5, n6⟩ := id hN
  rw [hPe, hmP, hmM, n3, n5, hr1, hr2, hr3]
  rcases q_any p1 with hneg | ⟨v, hv, rfl⟩
  · have hn : ¬ (0 : Int32) ≤ p1 := fun h => absurd hneg (Int32.not_lt.mpr h)
    refine w_2 (r1 := (-3, (cn 0), (ci 1), (ci 2), (ci 3), (ci 4), (ci 5), (ci 6), (cl 0), (cl 1))) (r2 := (-3, (mi 5), (mi 12), (mf 0), (mf 8))) ?_ ?_ ⟨rfl, c, n, S, x, d, hT, ok, hdr, hml, hRU, hN, hU, hK, hR, hQ, hY, hF, hW, hl1, hl2, hb⟩
    · unfold f_SS_many
      exact e_F hn rfl
    · unfold f_Mo_many
      exact e_F hn rfl
  · have hn : (0 : Int32) ≤ nI v := nI_le (a := 0) (by omega) hv
    refine w_2w (R1 := fun q => q.1 = nI (z_cd (z_F S.1 S.2.1 S.2.2.2.2 (2 ^ S.1 - 1) 0 x) v) ∧ (z_gr S.1 S.2.1 (cn 0) q.2.1 ∧ z_SK S.1 S.2.1 S.2.2.2.2 (2 ^ S.1 - 1) 0 x q.2)) (R2 := fun q => q.1 = nI (z_cd (z_F S.1 S.2.1 S.2.2.2.2 (2 ^ S.1 - 1) 0 x) v)) ?_ ?_ (fun q q' h1 h2 => ⟨h1.1.trans h2.symm, c, n, S, x, d, hT, ok, hdr, hml, hRU, hN, hU, hK, hR, hQ, hY, z_SO_of h1.2.2 h8 (by decide) n1, hW, i_len_gr hP3 hM5 h1.2.1 hl1, hl2, hb⟩)
    · unfold f_SS_many
      refine w_T hn ?_
      refine w_Bw (q_from ok.1 hdt n1 (by omega) hF) ?_; rintro ⟨w1, w2, w3, w4, w5, w6, w7, w8, w9⟩ ⟨hg, hs⟩; refine w_G (z_gr_nlt hP3 hM5 hs) ?_
      refine w_Bw (q_states ok.1 hA hB (by decide) n1 (by omega) hs hv) ?_
      rintro ⟨y, o1, o2, o3, o4⟩ ⟨e, hs2⟩
      exact w_some ⟨e, hg, hs2⟩
    · unfold f_Mo_many
      refine w_T hn ?_
      refine w_Bw (m_layAll ok.1 hrep n1 (by omega)) ?_
      rintro ⟨w1, w2, w3, w4⟩ hq
      have hl := z_F_len (who := 2 ^ S.1 - 1) (bar := 0) ok.1 n1 57344
      exact w_Be (m_many_L hP3 hM5 hq hv _ 0 k (Nat.zero_add _) (by show (z_B _ _ _ _ _ _ _).length < k; omega)) (w_some rfl)
theorem p_farthest {ns k : Nat} {ci : Nat → Int32} {cf : Nat → Nat → Int32} {cl : Nat → Nat → Int64} {cn : Nat → Nat} {mi : Nat → Int32} {mf : Nat → Nat → Int32} (hk : 200000 ≤ k) (h : z_inv ns ci cf cl cn mi mf) : wp (f_SS_farthest k (cn 0) (ci 1) (ci 2) (ci 3) (ci 4) (ci 5) (ci 6) (ci 17) (ci 18) (ci 19) (ci 20) (ci 24) (cl 0) (cl 1) (cf 12) (cf 13) (cf 15) (cf 17) (cf 18) (cf 19) (cf 20) (cf 21) (cf 22) (cf 23)) (fun q => wp (f_Mo_farthest k (mi 5) (mi 6) (mi 7) (mi 9) (mi 12) (mf 0) (mf 8) (mf 11)) (fun q' => q.1 = q'.1 ∧ z_inv ns (z_u (z_u (z_u (z_u (z_u (z_u ci 1 q.2.2.1) 2 q.2.2.2.1) 3 q.2.2.2.2.1) 4 q.2.2.2.2.2.1) 5 q.2.2.2.2.2.2.1) 6 q.2.2.2.2.2.2.2.1) cf (z_u (z_u cl 0 q.2.2.2.2.2.2.2.2.1) 1 q.2.2.2.2.2.2.2.2.2) (z_u cn 0 q.2.1) (z_u (z_u mi 5 q'.2.1) 12 q'.2.2.1) (z_u (z_u mf 0 q'.2.2.2.1) 8 q'.2.2.2.2))) := by
  obtain ⟨c, n, S, x, d, hT, ok, hdr, hml, hRU, hN, hU, hK, hR, hQ, hY, hF, hW, hl1, hl2, hb⟩ := h
  have hPe : (ci 24) = nI S.1 := hdr.2.2.1; have hSp : (ci 25) = nI S.2.1 := hdr.2.2.2.1; have hmM : (mi 6) = nI S.2.1 := hml.1; have hmP : (mi 9) = nI S.1 := hml.2.1; have hP1 := ok.1.1; have hP3 := ok.1.2.1; have hM5 := ok.1.2.2.1
  have hr1 : (ci 18) = nI S.1 := hRU.1; have hr2 : (ci 19) = nI S.2.1 := hRU.2.1; have hdt := hRU.2.2.2.2; have hr3 : (ci 17) = nI (z_ds S.1).length := hdt.1; have hA := hRU.2.2.1; have hB := z_RB_of ok.1 hdt; have hrep := hml.2.2.2.2; have h8 := z_all8 hP3; obtain ⟨n1, n2, n3, n4, n5, n6⟩ := id hN
  rw [hPe, hmP, hmM, n3, n5, hr1, hr2, hr3]
  have hl : (z_F S.1 S.2.1 S.2.2.2.2 (2 ^ S.1 - 1) 0 x).length ≤ 57344 := z_F_len (who := 2 ^ S.1 - 1) (bar := 0) ok.1 n1 57344
  have hp : 0 < (z_F S.1 S.2.1 S.2.2.2.2 (2 ^ S.1 - 1) 0 x).length := z_bf_pos _ _ _ _ _
  obtain ⟨g, hg0⟩ : ∃ g, (z_F S.1 S.2.1 S.2.2.2.2 (2 ^ S.1 - 1) 0 x)[(z_F S.1 S.2.1 S.2.2.2.2 (2 ^ S.1 - 1) 0 x).length - 1]? = some g := ⟨_, List.getElem?_eq_getElem (by omega)⟩
  refine w_2w (R1 := fun q => q.1 = nI g.2.2.2 ∧ (z_gr S.1 S.2.1 (cn 0) q.2.1 ∧ z_SK S.1 S.2.1 S.2.2.2.2 (2 ^ S.1 - 1) 0 x q.2)) (R2 := fun q => q.1 = nI g.2.2.2) ?_ ?_ (fun q q' h1 h2 => ⟨h1.1.trans h2.symm, c, n, S, x, d, hT, ok, hdr, hml, hRU, hN, hU, hK, hR, hQ, hY, z_SO_of h1.2.2 h8 (by decide) n1, hW, i_len_gr hP3 hM5 h1.2.1 hl1, hl2, hb⟩)
  · unfold f_SS_farthest
    refine w_Bw (q_from ok.1 hdt n1 (by omega) hF) ?_; rintro ⟨w1, w2, w3, w4, w5, w6, w7, w8, w9⟩ ⟨hg, hs⟩; refine w_G (z_gr_nlt hP3 hM5 hs) ?_
    refine w_Bw (q_great ok.1 hA hB (by decide) n1 (by omega) hs) ?_
    rintro ⟨y, o1, o2, o3, o4⟩ ⟨⟨g', e1, e2⟩, hs2⟩
    rw [hg0] at e1
    cases e1
    exact w_some ⟨e2, hg, hs2⟩
  · unfold f_Mo_farthest
    refine w_Bw (m_layAll ok.1 hrep n1 (by omega)) ?_
    rintro ⟨w1, w2, w3, w4⟩ hq
    have hq2 : w2 = nI (z_F S.1 S.2.1 S.2.2.2.2 (2 ^ S.1 - 1) 0 x).length := hq.1.2.1
    have hq3 : w4 ((z_F S.1 S.2.1 S.2.2.2.2 (2 ^ S.1 - 1) 0 x).length - 1) = nI g.1 := hq.1.2.2.1 _ g hg0
    have hq4 : w3 g.1 = nI g.2.2.2 := hq.2 _ g hg0
    have hgV : g.1 < 57344 := (hq.1.1.2 _ _ hg0).1.1
    refine w_Ln (w := nI ((z_F S.1 S.2.1 S.2.2.2.2 (2 ^ S.1 - 1) 0 x).length - 1)) (by show w2 - 1 = _; rw [hq2, show (1 : Int32) = nI 1 from rfl, q_sub (by omega)]) ?_
    refine w_I (i := (z_F S.1 S.2.1 S.2.2.2.2 (2 ^ S.1 - 1) 0 x).length - 1) rfl (by omega) (by decide) ?_
    rw [hq3]
    refine w_I (i := g.1) rfl hgV (by decide) ?_
    exact w_some hq4
theorem p_nights {ns k : Nat} {ci : Nat → Int32} {cf : Nat → Nat → Int32} {cl : Nat → Nat → Int64} {cn : Nat → Nat} {mi : Nat → Int32} {mf : Nat → Nat → Int32} (hk : 200000 ≤ k) (h : z_inv ns ci cf cl cn mi mf) (p1 : Int32) : wp (f_SS_nights k (cn 1) (ci 17) (ci 18) (ci 19) (ci 20) (ci 24) (ci 25) (ci 30) (ci 31) (ci 32) (ci 33) (ci 34) (ci 35) (cf 12) (cf 13) (cf 15) (cf 17) (cf 18) (cf 19) (cf 20) (cf 21) (cf 22) (cf 23) (cl 2) (cl 3) p1) (fun q => wp (f_Mo_nights k (mi 3) (mi 5) (mi 6) (mi 7) (mi 9) (mi 12) (mf 0) (mf 4) (mf 8) (mf 11) p1) (fun q' => q.1 = q'.1 ∧ z_inv ns (z_u (z_u (z_u (z_u (z_u (z_u ci 30 q.2.2.1) 31 q.2.2.2.1) 32 q.2.2.2.2.1) 33 q.2.2.2.2.2.1) 34 q.2.2.2.2.2.2.1) 35 q.2.2.2.2.2.2.2.1) cf (z_u (z_u cl 2 q.2.2.2.2.2.2.2.2.1) 3 q.2.2.2.2.2.2.2.2.2) (z_u cn 1 q.2.1) (z_u (z_u (z_u mi 3 q'.2.1) 5 q'.2.2.1) 12 q'.2.2.2.1) (z_u (z_u (z_u mf 0 q'.2.2.2.2.1) 4 q'.2.2.2.2.2.1) 8 q'.2.2.2.2.2.2))) := by
  obtain ⟨c, n, S, x, d, hT, ok, hdr, hml, hRU, hN, hU, hK, hR, hQ, hY, hF, hW, hl1, hl2, hb⟩ := h
  have hPe : (ci 24) = nI S.1 := hdr.2.2.1; have hSp : (ci 25) = nI S.2.1 := hdr.2.2.2.1; have hmM : (mi 6) = nI S.2.1 := hml.1; have hmP : (mi 9) = nI S.1 := hml.2.1; have hP1 := ok.1.1; have hP3 := ok.1.2.1; have hM5 := ok.1.2.2.1
  have hr1 : (ci 18) = nI S.1 := hRU.1; have hr2 : (ci 19) = nI S.2.1 := hRU.2.1; have hdt := hRU.2.2.2.2; have hr3 : (ci 17) = nI (z_ds S.1).length := hdt.1; have hA := hRU.2.2.1; have hB := z_RB_of ok.1 hdt; have hrep := hml.2.2.2.2; have h8 := z_all8 hP3; obtain ⟨n1, n2, n3, n4, n5, n6⟩ := id hN
  rw [hSp, hPe, hmP, hmM, n3, n5, hr1, hr2, hr3]
  rcases z_set hM5 p1 with ⟨a1, a2⟩ | ⟨v, hv, hv2, rfl, a1, a2⟩
  · refine w_2 (r1 := (-2, (cn 1), (ci 30), (ci 31), (ci 32), (ci 33), (ci 34), (ci 35), (cl 2), (cl 3))) (r2 := (-2, (mi 3), (mi 5), (mi 12), (mf 0), (mf 4), (mf 8))) ?_ ?_ ⟨rfl, c, n, S, x, d, hT, ok, hdr, hml, hRU, hN, hU, hK, hR, hQ, hY, hF, hW, hl1, hl2, hb⟩
    · unfold f_SS_nights
      exact e_B a1 (e_T rfl rfl)
    · unfold f_Mo_nights
      exact e_B a2 (e_T rfl rfl)
  · refine w_2w (R1 := fun q => q.1 = z_nN (z_st S.1 S.2.1 S.2.2.2.2 (2 ^ S.1 - 1) 0) S.1 v 57345 0 0 [(x, 0, 0, 0)] ∧ z_gr S.1 S.2.1 (cn 1) q.2.1 ∧ q.2.2.2.2.2.2.1 = -nI 1) (R2 := fun q => q.1 = z_nN (z_st S.1 S.2.1 S.2.2.2.2 (2 ^ S.1 - 1) 0) S.1 v 57345 0 0 [(x, 0, 0, 0)]) ?_ ?_ (fun q q' h1 h2 => ⟨h1.1.trans h2.symm, c, n, S, x, d, hT, ok, hdr, hml, hRU, hN, hU, hK, hR, hQ, hY, hF, ⟨z_gr_le hP3 hM5 h1.2.1 hW.1, Or.inl h1.2.2⟩, hl1, i_len_gr hP3 hM5 h1.2.1 hl2, hb⟩)
    · unfold f_SS_nights
      refine w_Be a1 (w_F (by decide) ?_)
      refine w_Be (t_everybody hP3) ?_
      refine w_Bw (s_nights ok.1 hA hdt n1 (by omega) hv2 (by omega) hW.1) ?_
      rintro ⟨y, o1, o2, o3, o4, o5, o6, o7, o8, o9⟩ ⟨e1, e2, e3⟩
      exact w_G (z_gr_nlt2 hP3 hM5 e2) (w_some ⟨e1, e2, e3⟩)
    · unfold f_Mo_nights
      refine w_Be a2 (w_F (by decide) ?_)
      refine w_Bw (m_clear (P := S.1) (M := S.2.1) (qu := (mf 8)) (by omega)) ?_
      rintro ⟨w1, w2⟩ hq
      refine w_Bw (m_put (d := 0) (n := 0) (t := 0) (t' := 0) hP3 hM5 hq.1 n1 (by decide) (by decide) (by decide) (by decide)) ?_
      rintro ⟨u1, u2, u3⟩ ⟨hq2, _⟩
      have e0 : z_put [] (x, 0, 0, 0) = [(x, 0, 0, 0)] := by
        unfold z_put
        rw [if_neg (by simp [z_ss])]
        rfl
      rw [e0] at hq2
      refine w_Sw (m_nN (nw := nI x) ok.1 hrep hv2 57345 0 0 k _ (nI 1) _ _ _ _ _ _ (by omega) (by omega) (Nat.zero_le _) (by omega) hq2 (Or.inl ⟨Nat.zero_lt_one, rfl⟩)) ?_ ?_
      · rintro ⟨q1, q2, q3, q4, q5, q6⟩ hq3
        exact w_some hq3.symm
      · rintro ⟨q1, q2, q3, q4, q5, q6, q7⟩ hq3
        exact w_some hq3
