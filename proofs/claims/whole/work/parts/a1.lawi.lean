/-! THE CLAIM OUT OF ONE WALK OF THE LAW'S BODY. Your part is whole_start (and what it stands on); all else here is the same for every law, but numbers. -/
def R_law : String := "SevenSpellsLaw"
def lw_P (b : Addr) (xs : List Int32) (args : Array Value) (s : State) : Prop := args = #[.ref b] ∧ s.IntsAt b xs ∧ xs.length ≤ 384 ∧ (Jvm.Cond.and given_1 narrow_1).before args s = true
def lw_Q (_ : Array Value) (s : State) (o : Outcome) (t : State) : Prop := o = .returned (some (.int 1)) ∧ Framed s o t [] 600000 7302250
def lw_Z (below : List Frame) (a : Array Value) (s : State) : State → Prop := fun t => ∃ o, t.status = .running ∧ Ended t below o ∧ lw_Q a s o t
/-- the law's own end, with 1 on the stack, nothing written that was there before, its room as the claim has it -/
theorem lw_ret {p : Program} {l : Launch} {e : Env} {s : State} {m : MethodId} {below : List Frame} {meth : Method} {c : Code} {b : Nat} (hx : p.tables.exec = Jvm.exec) (hb : c.code = code) (hr : meth.sig.returnType = ret) (hlocks : meth.locks = false) {pc : Nat} {H : Heap} {ls : Array Slot} (hdg : decode code pc = .ok (.ireturn, 1)) : W p l e room_1 s m #[Value.ref b] below meth c H [] 600000 7302250 (lw_Z below #[Value.ref b] s) (F0 m pc ls [.int 1]) := by
  intro T hT X
  obtain ⟨fs, hret, hrun, hended, hW, hframe⟩ := X.leave (v := some (.int 1)) (hlocks := hlocks) (fun h => by rw [hr] at h; cases h)
  have hmeth' : T.vm.method? m = some meth := X.method'
  refine ⟨T.setFrames fs, ?_, .returned (some (.int 1)), hrun, hended, rfl, ⟨_, rfl⟩, hW, hframe⟩
  jvm_step X.here [X.here.top, hx, hb, hdg, hmeth', hr, ret, narrow_b1]
  (try refine ⟨rfl, ?_⟩); (try refine ⟨rfl, ?_⟩)
  first | (intro acts; rw [hret _ acts rfl rfl rfl]) | rw [hret _ _ rfl rfl rfl]
  exact Steps.refl _
/-- what holds at the law's entry: the machine, the code, the tables' words (any of lw_tbl by 'hts w (by decide +kernel)'), the script of L ints xs at the cell b, what the Statement gives of the start (any of its parts by flat_of_before) -/
def lw_At (p : Program) (s : State) (m : MethodId) (meth : Method) (c : Code) (b L : Nat) (xs : Nat → Int32) : Prop :=
  p.tables.exec = Jvm.exec ∧ c.code = code ∧ meth.sig.returnType = ret ∧ c.maxLocals = 4 ∧ s.vm.findClass R_law = some m.cls ∧ (∀ w ∈ lw_tbl, w.before #[Value.ref b] s = true) ∧ va_X b L xs s s.heap ∧ b < s.heap.size ∧ meth.locks = false ∧ (Jvm.Cond.and given_1 narrow_1).before #[Value.ref b] s = true
/-- the cells of both, by their states -/
def lw_wd (G : GG) (aT : Nat) (q : Nat → Nat) (bT : Nat) (r : Nat → Nat) (ci : Nat → Int32) (cf : Nat → Nat → Int32) (cl : Nat → Nat → Int64) (cn : Nat → Nat) (mi : Nat → Int32) (mf : Nat → Nat → Int32) : va_W := [(aT, .inr (6, [.ref (q 0), .ref (q 2), .ref (q 9), .ref (q 21), .ref (q 35), .ref (q 38), .ref (q 41), .ref (q 45), .ref (q 47), .ref (q 48), .ref (q 49), .ref (q 51), .int (ci 20), .int (ci 0)])), ((q 0), .inr (1, [.ref (q 1), .int (ci 21)])), ((q 1), .inl (G.2.1, 240, .inl (cf 25))), ((q 2), .inr (4, [.int (ci 24), .int (ci 25), .int (ci 23), .int (ci 22), .ref (q 3), .ref (q 4), .ref (q 5), .ref (q 6), .ref (q 7), .ref (q 8)])), ((q 3), .inl (G.2.1, 5, .inl (cf 26))), ((q 4), .inl (G.2.1, 5, .inl (cf 29))), ((q 5), .inl (G.2.1, 5, .inl (cf 31))), ((q 6), .inl (G.2.1, 5, .inl (cf 30))), ((q 7), .inl (G.2.1, 15, .inl (cf 28))), ((q 8), .inl (G.2.1, 15, .inl (cf 27))), ((q 9), .inr (0, [.ref (q 0), .ref (q 10), .ref (q 12), .ref (q 14), .int (ci 8), .int (ci 14)])), ((q 10), .inr (1, [.ref (q 11), .int (ci 9)])), ((q 11), .inl (G.2.1, 241, .inl (cf 3))), ((q 12), .inr (1, [.ref (q 13), .int (ci 15)])), ((q 13), .inl (G.2.1, 241, .inl (cf 10))), ((q 14), .inr (4, [.int (ci 12), .int (ci 13), .int (ci 11), .int (ci 10), .ref (q 15), .ref (q 16), .ref (q 17), .ref (q 18), .ref (q 19), .ref (q 20)])), ((q 15), .inl (G.2.1, 5, .inl (cf 4))), ((q 16), .inl (G.2.1, 5, .inl (cf 7))), ((q 17), .inl (G.2.1, 5, .inl (cf 9))), ((q 18), .inl (G.2.1, 5, .inl (cf 8))), ((q 19), .inl (G.2.1, 15, .inl (cf 6))), ((q 20), .inl (G.2.1, 15, .inl (cf 5))), ((q 21), .inr (2, [.int (ci 18), .int (ci 19), .int (ci 17), .ref (q 22), .ref (q 23), .ref (q 24), .ref (q 25), .ref (q 26), .ref (q 27), .ref (q 28), .ref (q 29), .ref (q 30), .ref (q 31), .ref (q 32), .ref (q 33), .ref (q 34)])), ((q 22), .inl (G.2.1, 5, .inl (cf 20))), ((q 23), .inl (G.2.1, 5, .inl (cf 22))), ((q 24), .inl (G.2.1, 5, .inl (cf 12))), ((q 25), .inl (G.2.1, 5, .inl (cf 19))), ((q 26), .inl (G.2.1, 5, .inl (cf 23))), ((q 27), .inl (G.2.1, 5, .inl (cf 14))), ((q 28), .inl (G.2.1, 9, .inl (cf 16))), ((q 29), .inl (G.2.1, 19, .inl (cf 17))), ((q 30), .inl (G.2.1, 19, .inl (cf 21))), ((q 31), .inl (G.2.1, 19, .inl (cf 24))), ((q 32), .inl (G.2.1, 19, .inl (cf 13))), ((q 33), .inl (G.2.1, 19, .inl (cf 15))), ((q 34), .inl (G.2.1, 19, .inl (cf 18))), ((q 35), .inr (3, [.ref (q 21), .ref (q 36), .ref (q 37), .int (ci 4), .int (ci 3), .int (ci 5), .int (ci 2), .int (ci 6), .int (ci 1)])), ((q 36), .inl (G.2.2.1, 896, .inr (.inl (cl 1)))), ((q 37), .inl (G.2.2.1, (cn 0), .inr (.inl (cl 0)))), ((q 38), .inr (3, [.ref (q 21), .ref (q 39), .ref (q 40), .int (ci 33), .int (ci 32), .int (ci 34), .int (ci 31), .int (ci 35), .int (ci 30)])), ((q 39), .inl (G.2.2.1, 896, .inr (.inl (cl 3)))), ((q 40), .inl (G.2.2.1, (cn 1), .inr (.inl (cl 2)))), ((q 41), .inr (5, [.ref (q 42), .int (ci 26), .ref (q 44), .int (ci 27)])), ((q 42), .inr (1, [.ref (q 43), .int (ci 28)])), ((q 43), .inl (G.2.1, 8, .inl (cf 33))), ((q 44), .inl (G.2.1, 17, .inl (cf 32))), ((q 45), .inr (1, [.ref (q 46), .int (ci 29)])), ((q 46), .inl (G.2.1, 8, .inl (cf 34))), ((q 47), .inl (G.2.1, 2, .inl (cf 1))), ((q 48), .inl (G.2.1, 2, .inl (cf 0))), ((q 49), .inr (1, [.ref (q 50), .int (ci 16)])), ((q 50), .inl (G.2.1, 12, .inl (cf 11))), ((q 51), .inr (1, [.ref (q 52), .int (ci 7)])), ((q 52), .inl (G.2.1, 5, .inl (cf 2))), (bT, .inr (7, [.ref (r 0), .int (mi 4), .ref (r 1), .int (mi 13), .int (mi 9), .int (mi 18), .int (mi 17), .ref (r 2), .int (mi 6), .int (mi 7), .int (mi 1), .ref (r 3), .int (mi 8), .ref (r 4), .ref (r 5), .ref (r 6), .int (mi 0), .int (mi 10), .int (mi 2), .int (mi 14), .int (mi 15), .int (mi 5), .ref (r 7), .ref (r 8), .int (mi 12), .ref (r 9), .int (mi 3), .ref (r 10), .ref (r 11), .int (mi 16), .ref (r 12), .int (mi 11), .ref (r 13), .int (mi 19)])), ((r 0), .inl (G.2.1, 240, .inl (mf 12))), ((r 1), .inl (G.2.1, 120, .inl (mf 9))), ((r 2), .inl (G.2.1, 50, .inl (mf 11))), ((r 3), .inl (G.2.1, 8, .inl (mf 6))), ((r 4), .inl (G.2.1, 2, .inl (mf 3))), ((r 5), .inl (G.2.1, 2, .inl (mf 2))), ((r 6), .inl (G.2.2.2.1, 2, .inl (mf 1))), ((r 7), .inl (G.2.1, 57344, .inl (mf 0))), ((r 8), .inl (G.2.1, 57344, .inl (mf 8))), ((r 9), .inl (G.2.1, 57344, .inl (mf 4))), ((r 10), .inl (G.2.2.2.1, 57344, .inl (mf 5))), ((r 11), .inl (G.2.1, 12, .inl (mf 10))), ((r 12), .inl (G.2.1, 15, .inl (mf 7))), ((r 13), .inl (G.2.1, 40, .inl (mf 13)))]
def lw_I (G : GG) (s : State) (aT bT : Nat) (r : Nat → Nat) (n : Nat) (q : Nat → Nat) (H : Heap) (lo : List Loc) (ce sl : Nat) : Prop := ∃ (ns nq : Nat) (ci : Nat → Int32) (cf : Nat → Nat → Int32) (cl : Nat → Nat → Int64) (cn : Nat → Nat) (mi : Nat → Int32) (mf : Nat → Nat → Int32), z_inv ns ci cf cl cn mi mf ∧ va_P G.1 classes (lw_wd G aT q bT r ci cf cl cn mi mf) H ∧ va_D (bs G) (lw_wd G aT q bT r ci cf cl cn mi mf) ∧ va_S (bs G) s.heap H lo ∧ ns + nq = n ∧ ce ≤ 69 + 2 * nq ∧ sl ≤ 232814 + nq * (if ns < 4 then 1792 else 114688)
theorem lw_RR : RR room_1 12 := ⟨by decide, by decide⟩
theorem lw_in {n L j : Nat} (hj : j < 6) (h : 6 * n + 6 ≤ L) (hL : L ≤ 384) : vp_in (nI (6 * n) + nI j) L := by
  rw [nI_add]
  exact vp_in_nI (by omega) (by omega)
theorem lw_cst1 (most n : Nat) : cst most n ≤ 2 := by
  unfold cst
  split <;> omega
theorem lw_c1 (most n : Nat) : cst most n ≤ 1 := by
  unfold cst
  split <;> omega
theorem lw_cst2 (most n n2 : Nat) : cst most n + cst most n2 ≤ 2 := by
  have := lw_c1 most n
  have := lw_c1 most n2
  omega
theorem lw_m1 (most n : Nat) : most * cst most n ≤ most := by
  have := Nat.mul_le_mul_left most (lw_c1 most n)
  omega
theorem lw_cs1 {ns most n : Nat} (h : most ≤ if ns < 4 then 896 else 57344) : most * cst most n ≤ if ns < 4 then 1792 else 114688 := by
  have := lw_m1 most n
  by_cases h4 : ns < 4
  · rw [if_pos h4] at h ⊢; omega
  · rw [if_neg h4] at h ⊢; omega
theorem lw_cs2 {ns most n n2 : Nat} (h : most ≤ if ns < 4 then 896 else 57344) : most * cst most n + most * cst most n2 ≤ if ns < 4 then 1792 else 114688 := by
  have := lw_m1 most n
  have := lw_m1 most n2
  by_cases h4 : ns < 4
  · rw [if_pos h4] at h ⊢; omega
  · rw [if_neg h4] at h ⊢; omega
theorem lw_room {ns nq n ce sl mc ms : Nat} (h1 : ns + nq = n) (hn : n ≤ 63) (h2 : ce ≤ 69 + 2 * nq) (h3 : sl ≤ 232814 + nq * (if ns < 4 then 1792 else 114688)) (hm1 : mc ≤ 2) (hm2 : ms ≤ if ns < 4 then 1792 else 114688) : (ce + mc ≤ room_1.cells ∧ sl + ms ≤ room_1.slots) ∧ ce + mc ≤ 69 + 2 * (nq + 1) ∧ sl + ms ≤ 232814 + (nq + 1) * (if ns < 4 then 1792 else 114688) := by
  show (ce + mc ≤ 600000 ∧ sl + ms ≤ 7302250) ∧ _
  by_cases h4 : ns < 4
  · rw [if_pos h4] at h3 hm2 ⊢; omega
  · rw [if_neg h4] at h3 hm2 ⊢; omega
theorem lw_room0 {ns nq n ce sl : Nat} (h1 : ns + nq = n) (hn : n ≤ 63) (h2 : ce ≤ 69 + 2 * nq) (h3 : sl ≤ 232814 + nq * (if ns < 4 then 1792 else 114688)) : (ce ≤ room_1.cells ∧ sl ≤ room_1.slots) ∧ ce ≤ 69 + 2 * nq ∧ sl ≤ 232814 + nq * (if ns + 1 < 4 then 1792 else 114688) := by
  show (ce ≤ 600000 ∧ sl ≤ 7302250) ∧ _
  by_cases h4 : ns < 4
  · rw [if_pos h4] at h3
    by_cases h5 : ns + 1 < 4
    · rw [if_pos h5]; omega
    · rw [if_neg h5]; omega
  · rw [if_neg h4] at h3
    rw [if_neg (show ¬ ns + 1 < 4 by omega)]
    omega
theorem lw_most {ns : Nat} {ci : Nat → Int32} {cf : Nat → Nat → Int32} {cl : Nat → Nat → Int64} {cn : Nat → Nat} {mi : Nat → Int32} {mf : Nat → Nat → Int32} (h : z_inv ns ci cf cl cn mi mf) : mostN (ci 18) (ci 19) ≤ if ns < 4 then 896 else 57344 := by
  obtain ⟨c, n, S, x, d, hT, ok, hdr, hml, hRU, hN, hU, hK, hR, hQ, hY, hF, hW, hl1, hl2, hb⟩ := h
  have h1 : ci 18 = nI S.1 := hRU.1
  have h2 : ci 19 = nI S.2.1 := hRU.2.1
  have hP3 := ok.1.2.1
  have hM5 := ok.1.2.2.1
  rw [h1, h2, t_mostN hP3 hM5]
  by_cases h4 : ns < 4
  · rw [if_pos h4]
    have hb2 := hb.2
    have : S.1 + S.2.1 = 2 := by omega
    unfold z_cap
    rw [this]
    decide
  · rw [if_neg h4]
    exact z_cap_le hP3 hM5
