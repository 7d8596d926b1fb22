/-! fault -/
theorem p_fault {ns k : Nat} {ci : Nat → Int32} {cf : Nat → Nat → Int32} {cl : Nat → Nat → Int64} {cn : Nat → Nat} {mi : Nat → Int32} {mf : Nat → Nat → Int32} (hk : 200000 ≤ k) (h : z_inv ns ci cf cl cn mi mf) : wp (f_SS_fault k 241 241 240 (ci 8) (ci 9) (ci 10) (ci 11) (ci 12) (ci 13) (ci 14) (ci 15) (ci 21) (ci 22) (ci 23) (ci 24) (ci 25) (cf 3) (cf 4) (cf 5) (cf 6) (cf 7) (cf 8) (cf 9) (cf 10) (cf 25) (cf 26) (cf 27) (cf 28) (cf 29) (cf 30) (cf 31)) (fun q => wp (f_Mo_fault k (mi 0) (mi 2) (mi 4) (mi 6) (mi 9) (mi 10) (mi 13) (mi 14) (mi 15) (mf 9) (mf 12)) (fun q' => q.1 = q'.1 ∧ z_inv (ns + 1) (z_u (z_u (z_u (z_u (z_u (z_u (z_u (z_u ci 8 q.2.1) 9 q.2.2.1) 10 q.2.2.2.1) 11 q.2.2.2.2.1) 12 q.2.2.2.2.2.1) 13 q.2.2.2.2.2.2.1) 14 q.2.2.2.2.2.2.2.1) 15 q.2.2.2.2.2.2.2.2.1) (z_u (z_u (z_u (z_u (z_u (z_u (z_u (z_u cf 3 q.2.2.2.2.2.2.2.2.2.1) 4 q.2.2.2.2.2.2.2.2.2.2.1) 5 q.2.2.2.2.2.2.2.2.2.2.2.1) 6 q.2.2.2.2.2.2.2.2.2.2.2.2.1) 7 q.2.2.2.2.2.2.2.2.2.2.2.2.2.1) 8 q.2.2.2.2.2.2.2.2.2.2.2.2.2.2.1) 9 q.2.2.2.2.2.2.2.2.2.2.2.2.2.2.2.1) 10 q.2.2.2.2.2.2.2.2.2.2.2.2.2.2.2.2) cl cn (z_u (z_u (z_u (z_u (z_u (z_u mi 0 q'.2.1) 2 q'.2.2.1) 10 q'.2.2.2.1) 13 q'.2.2.2.2.1) 14 q'.2.2.2.2.2.1) 15 q'.2.2.2.2.2.2.1) (z_u mf 9 q'.2.2.2.2.2.2.2))) := by
  obtain ⟨c, n, S, x, d, hT, ok, hdr, hml, hRU, hN, hU, hK, hR, hQ, hY, hF, hW, hl1, hl2, hb⟩ := h
  have hPe : (ci 24) = nI S.1 := hdr.2.2.1; have hSp : (ci 25) = nI S.2.1 := hdr.2.2.2.1; have hmM : (mi 6) = nI S.2.1 := hml.1; have hmP : (mi 9) = nI S.1 := hml.2.1; have hP1 := ok.1.1; have hP3 := ok.1.2.1; have hM5 := ok.1.2.2.1
  obtain ⟨t1, t2, t3, t4⟩ := hT
  have hd2 : z_dr S ((ci 22), (ci 23), (ci 24), (ci 25), (cf 26), (cf 27), (cf 28), (cf 29), (cf 30), (cf 31)) := hdr
  have w1 : wp (f_SS_fault k 241 241 240 (ci 8) (ci 9) (ci 10) (ci 11) (ci 12) (ci 13) (ci 14) (ci 15) (ci 21) (ci 22) (ci 23) (ci 24) (ci 25) (cf 3) (cf 4) (cf 5) (cf 6) (cf 7) (cf 8) (cf 9) (cf 10) (cf 25) (cf 26) (cf 27) (cf 28) (cf 29) (cf 30) (cf 31)) (z_ffQ c n S (z_txt (z_C c n) 11 S 0 [])) := by
    rw [t3]
    unfold f_SS_fault
    refine w_Bw (t_fault t1 ok hd2 (by omega)) ?_
    intro q hq
    exact w_some hq
  have w2 : wp (f_Mo_fault k (mi 0) (mi 2) (mi 4) (mi 6) (mi 9) (mi 10) (mi 13) (mi 14) (mi 15) (mf 9) (mf 12)) (z_rfQ c n (z_txt (z_C c n) 11 S 0 [])) := by
    rw [t4, hmM, hmP]
    exact m_fault t2 ok (by omega)
  refine w_2w w1 w2 ?_
  intro q q' h1 h2
  refine ⟨?_, c, n, S, x, d, ⟨t1, t2, t3, t4⟩, ok, hdr, hml, hRU, hN, hU, hK, hR, hQ, hY, hF, hW, hl1, hl2, i_bud_s hb⟩
  rcases h1 with ⟨a1, a2, _⟩ | ⟨a1, a2⟩
  · rcases h2 with ⟨b1, b2, _⟩ | ⟨b1, b2⟩
    · rw [a2, b2]
    · rw [a1] at b1; cases b1
  · rcases h2 with ⟨b1, b2, _⟩ | ⟨b1, b2⟩
    · rw [a1] at b1; cases b1
    · rw [a2, b2]
