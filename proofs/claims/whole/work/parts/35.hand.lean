theorem dJ0_length_8abf5_0 : decode cJ0_length_8abf5 0 = .ok (.aload_n 0, 1) := by decide +kernel
theorem dJ0_length_8abf5_1 : decode cJ0_length_8abf5 1 = .ok (.getfield 9, 3) := by decide +kernel
theorem dJ0_length_8abf5_4 : decode cJ0_length_8abf5 4 = .ok (.arraylength, 1) := by decide +kernel
theorem dJ0_length_8abf5_5 : decode cJ0_length_8abf5 5 = .ok (.aload_n 0, 1) := by decide +kernel
theorem dJ0_length_8abf5_6 : decode cJ0_length_8abf5 6 = .ok (.invokevirtual 335, 3) := by decide +kernel
theorem dJ0_length_8abf5_9 : decode cJ0_length_8abf5 9 = .ok (.ishr, 1) := by decide +kernel
theorem dJ0_length_8abf5_10 : decode cJ0_length_8abf5 10 = .ok (.ireturn, 1) := by decide +kernel
theorem dJ0_charAt_5068e_0 : decode cJ0_charAt_5068e 0 = .ok (.aload_n 0, 1) := by decide +kernel
theorem dJ0_charAt_5068e_1 : decode cJ0_charAt_5068e 1 = .ok (.invokevirtual 492, 3) := by decide +kernel
theorem dJ0_charAt_5068e_4 : decode cJ0_charAt_5068e 4 = .ok (.ifCond .eq 12, 3) := by decide +kernel
theorem dJ0_charAt_5068e_7 : decode cJ0_charAt_5068e 7 = .ok (.aload_n 0, 1) := by decide +kernel
theorem dJ0_charAt_5068e_8 : decode cJ0_charAt_5068e 8 = .ok (.getfield 9, 3) := by decide +kernel
theorem dJ0_charAt_5068e_11 : decode cJ0_charAt_5068e 11 = .ok (.iload_n 1, 1) := by decide +kernel
theorem dJ0_charAt_5068e_12 : decode cJ0_charAt_5068e 12 = .ok (.invokestatic 495, 3) := by decide +kernel
theorem dJ0_charAt_5068e_15 : decode cJ0_charAt_5068e 15 = .ok (.ireturn, 1) := by decide +kernel
theorem dJ0_charAt_5068e_16 : decode cJ0_charAt_5068e 16 = .ok (.aload_n 0, 1) := by decide +kernel
theorem dJ0_charAt_5068e_17 : decode cJ0_charAt_5068e 17 = .ok (.getfield 9, 3) := by decide +kernel
theorem dJ0_charAt_5068e_20 : decode cJ0_charAt_5068e 20 = .ok (.iload_n 1, 1) := by decide +kernel
theorem dJ0_charAt_5068e_21 : decode cJ0_charAt_5068e 21 = .ok (.invokestatic 498, 3) := by decide +kernel
theorem dJ0_charAt_5068e_24 : decode cJ0_charAt_5068e 24 = .ok (.ireturn, 1) := by decide +kernel
theorem dJ0_coder_7d493_0 : decode cJ0_coder_7d493 0 = .ok (.getstatic 38, 3) := by decide +kernel
theorem dJ0_coder_7d493_3 : decode cJ0_coder_7d493 3 = .ok (.ifCond .eq 10, 3) := by decide +kernel
theorem dJ0_coder_7d493_6 : decode cJ0_coder_7d493 6 = .ok (.aload_n 0, 1) := by decide +kernel
theorem dJ0_coder_7d493_7 : decode cJ0_coder_7d493 7 = .ok (.getfield 15, 3) := by decide +kernel
theorem dJ0_coder_7d493_10 : decode cJ0_coder_7d493 10 = .ok (.goto 4, 3) := by decide +kernel
theorem dJ0_coder_7d493_13 : decode cJ0_coder_7d493 13 = .ok (.iconst 1, 1) := by decide +kernel
theorem dJ0_coder_7d493_14 : decode cJ0_coder_7d493 14 = .ok (.ireturn, 1) := by decide +kernel
theorem dJ0_isLatin1_aae02_0 : decode cJ0_isLatin1_aae02 0 = .ok (.getstatic 38, 3) := by decide +kernel
theorem dJ0_isLatin1_aae02_3 : decode cJ0_isLatin1_aae02 3 = .ok (.ifCond .eq 14, 3) := by decide +kernel
theorem dJ0_isLatin1_aae02_6 : decode cJ0_isLatin1_aae02 6 = .ok (.aload_n 0, 1) := by decide +kernel
theorem dJ0_isLatin1_aae02_7 : decode cJ0_isLatin1_aae02 7 = .ok (.getfield 15, 3) := by decide +kernel
theorem dJ0_isLatin1_aae02_10 : decode cJ0_isLatin1_aae02 10 = .ok (.ifCond .ne 7, 3) := by decide +kernel
theorem dJ0_isLatin1_aae02_13 : decode cJ0_isLatin1_aae02 13 = .ok (.iconst 1, 1) := by decide +kernel
theorem dJ0_isLatin1_aae02_14 : decode cJ0_isLatin1_aae02 14 = .ok (.goto 4, 3) := by decide +kernel
theorem dJ0_isLatin1_aae02_17 : decode cJ0_isLatin1_aae02 17 = .ok (.iconst 0, 1) := by decide +kernel
theorem dJ0_isLatin1_aae02_18 : decode cJ0_isLatin1_aae02 18 = .ok (.ireturn, 1) := by decide +kernel
theorem dJ0_checkIndex_df160_0 : decode cJ0_checkIndex_df160 0 = .ok (.iload_n 0, 1) := by decide +kernel
theorem dJ0_checkIndex_df160_1 : decode cJ0_checkIndex_df160 1 = .ok (.iload_n 1, 1) := by decide +kernel
theorem dJ0_checkIndex_df160_2 : decode cJ0_checkIndex_df160 2 = .ok (.getstatic 1053, 3) := by decide +kernel
theorem dJ0_checkIndex_df160_5 : decode cJ0_checkIndex_df160 5 = .ok (.invokestatic 1059, 3) := by decide +kernel
theorem dJ0_checkIndex_df160_8 : decode cJ0_checkIndex_df160 8 = .ok (.pop, 1) := by decide +kernel
theorem dJ0_checkIndex_df160_9 : decode cJ0_checkIndex_df160 9 = .ok (.return_, 1) := by decide +kernel
theorem dJ1_charAt_3b067_0 : decode cJ1_charAt_3b067 0 = .ok (.iload_n 1, 1) := by decide +kernel
theorem dJ1_charAt_3b067_1 : decode cJ1_charAt_3b067 1 = .ok (.aload_n 0, 1) := by decide +kernel
theorem dJ1_charAt_3b067_2 : decode cJ1_charAt_3b067 2 = .ok (.arraylength, 1) := by decide +kernel
theorem dJ1_charAt_3b067_3 : decode cJ1_charAt_3b067 3 = .ok (.invokestatic 9, 3) := by decide +kernel
theorem dJ1_charAt_3b067_6 : decode cJ1_charAt_3b067 6 = .ok (.aload_n 0, 1) := by decide +kernel
theorem dJ1_charAt_3b067_7 : decode cJ1_charAt_3b067 7 = .ok (.iload_n 1, 1) := by decide +kernel
theorem dJ1_charAt_3b067_8 : decode cJ1_charAt_3b067 8 = .ok (.baload, 1) := by decide +kernel
theorem dJ1_charAt_3b067_9 : decode cJ1_charAt_3b067 9 = .ok (.sipush 255, 3) := by decide +kernel
theorem dJ1_charAt_3b067_12 : decode cJ1_charAt_3b067 12 = .ok (.iand, 1) := by decide +kernel
theorem dJ1_charAt_3b067_13 : decode cJ1_charAt_3b067 13 = .ok (.i2c, 1) := by decide +kernel
theorem dJ1_charAt_3b067_14 : decode cJ1_charAt_3b067 14 = .ok (.ireturn, 1) := by decide +kernel
theorem dJ3_checkIndex_8e157_0 : decode cJ3_checkIndex_8e157 0 = .ok (.iload_n 0, 1) := by decide +kernel
theorem dJ3_checkIndex_8e157_1 : decode cJ3_checkIndex_8e157 1 = .ok (.ifCond .lt 8, 3) := by decide +kernel
theorem dJ3_checkIndex_8e157_4 : decode cJ3_checkIndex_8e157 4 = .ok (.iload_n 0, 1) := by decide +kernel
theorem dJ3_checkIndex_8e157_5 : decode cJ3_checkIndex_8e157 5 = .ok (.iload_n 1, 1) := by decide +kernel
theorem dJ3_checkIndex_8e157_6 : decode cJ3_checkIndex_8e157 6 = .ok (.if_icmp .lt 10, 3) := by decide +kernel
theorem dJ3_checkIndex_8e157_9 : decode cJ3_checkIndex_8e157 9 = .ok (.aload_n 2, 1) := by decide +kernel
theorem dJ3_checkIndex_8e157_10 : decode cJ3_checkIndex_8e157 10 = .ok (.iload_n 0, 1) := by decide +kernel
theorem dJ3_checkIndex_8e157_11 : decode cJ3_checkIndex_8e157 11 = .ok (.iload_n 1, 1) := by decide +kernel
theorem dJ3_checkIndex_8e157_12 : decode cJ3_checkIndex_8e157 12 = .ok (.invokestatic 95, 3) := by decide +kernel
theorem dJ3_checkIndex_8e157_15 : decode cJ3_checkIndex_8e157 15 = .ok (.athrow, 1) := by decide +kernel
theorem dJ3_checkIndex_8e157_16 : decode cJ3_checkIndex_8e157 16 = .ok (.iload_n 0, 1) := by decide +kernel
theorem dJ3_checkIndex_8e157_17 : decode cJ3_checkIndex_8e157 17 = .ok (.ireturn, 1) := by decide +kernel
theorem K_J0_length_8abf5 : CalV yJ0_length_8abf5 cJ0_length_8abf5 1 (some .int) 0 := ⟨T0_in (m2 (List.mem_of_getElem? (i := 207) rfl)) rfl, T0_in (m2 (List.mem_of_getElem? (i := 205) rfl)) rfl, T0_in (m2 (List.mem_of_getElem? (i := 206) rfl)) rfl, T0_in (m1 (List.mem_of_getElem? (i := 13) rfl)) rfl, ⟨by decide +kernel, by decide +kernel, by decide +kernel⟩, by decide⟩
theorem K_J0_charAt_5068e : CalV yJ0_charAt_5068e cJ0_charAt_5068e 2 (some .char) 1 := ⟨T0_in (m2 (List.mem_of_getElem? (i := 217) rfl)) rfl, T0_in (m2 (List.mem_of_getElem? (i := 215) rfl)) rfl, T0_in (m2 (List.mem_of_getElem? (i := 216) rfl)) rfl, T0_in (m1 (List.mem_of_getElem? (i := 13) rfl)) rfl, ⟨by decide +kernel, by decide +kernel, by decide +kernel⟩, by decide⟩
theorem K_J0_coder_7d493 : CalV yJ0_coder_7d493 cJ0_coder_7d493 1 (some .byte) 0 := ⟨T0_in (m2 (List.mem_of_getElem? (i := 211) rfl)) rfl, T0_in (m2 (List.mem_of_getElem? (i := 209) rfl)) rfl, T0_in (m2 (List.mem_of_getElem? (i := 210) rfl)) rfl, T0_in (m1 (List.mem_of_getElem? (i := 13) rfl)) rfl, ⟨by decide +kernel, by decide +kernel, by decide +kernel⟩, by decide⟩
theorem K_J0_isLatin1_aae02 : CalV yJ0_isLatin1_aae02 cJ0_isLatin1_aae02 1 (some .boolean) 0 := ⟨T0_in (m2 (List.mem_of_getElem? (i := 221) rfl)) rfl, T0_in (m2 (List.mem_of_getElem? (i := 219) rfl)) rfl, T0_in (m2 (List.mem_of_getElem? (i := 220) rfl)) rfl, T0_in (m1 (List.mem_of_getElem? (i := 13) rfl)) rfl, ⟨by decide +kernel, by decide +kernel, by decide +kernel⟩, by decide⟩
theorem K_J0_checkIndex_df160 : CalS yJ0_checkIndex_df160 cJ0_checkIndex_df160 2 none 2 := ⟨T0_in (m2 (List.mem_of_getElem? (i := 227) rfl)) rfl, T0_in (m2 (List.mem_of_getElem? (i := 226) rfl)) rfl, T0_in (m1 (List.mem_of_getElem? (i := 13) rfl)) rfl, ⟨by decide +kernel, by decide +kernel, by decide +kernel⟩, by decide⟩
theorem K_J1_charAt_3b067 : CalS yJ1_charAt_3b067 cJ1_charAt_3b067 2 (some .char) 2 := ⟨T0_in (m2 (List.mem_of_getElem? (i := 224) rfl)) rfl, T0_in (m2 (List.mem_of_getElem? (i := 223) rfl)) rfl, T0_in (m1 (List.mem_of_getElem? (i := 14) rfl)) rfl, ⟨by decide +kernel, by decide +kernel, by decide +kernel⟩, by decide⟩
theorem K_J3_checkIndex_8e157 : CalS yJ3_checkIndex_8e157 cJ3_checkIndex_8e157 3 (some .int) 3 := ⟨T0_in (m2 (List.mem_of_getElem? (i := 232) rfl)) rfl, T0_in (m2 (List.mem_of_getElem? (i := 231) rfl)) rfl, T0_in (m1 (List.mem_of_getElem? (i := 15) rfl)) rfl, ⟨by decide +kernel, by decide +kernel, by decide +kernel⟩, by decide⟩
/-! the JDK's own methods that the text WORDS is read by -/
theorem RO_ofV {l : Launch} {G : GG} {y : MethodName} {cc : ByteArray} {n lev : Nat} {av : List Value} {ws : va_W} (hy : plainName y.cls = true) (hn : (lg_sl av).length ≤ n)
    (body : ∀ (p : Program) (e : Env) (s : State) (m : MethodId) (args : Array Value) (below : List Frame) (meth : Method) (c : Code) (R : Room) (Q : State → Prop) (H : Heap) (ls : Array Slot), Cx p s m args c cc n y.cls (wy y cc n none) → RR R lev → va_P G.1 classes ws H → KK G s H → lv_has ls n (lv_args 0 av) →
      (∀ (pc : Nat) (ls : Array Slot), decode cc pc = .ok (.return_, 1) → W p l e R s m args below meth c H [] 0 0 Q (F0 m pc ls [])) → W p l e R s m args below meth c H [] 0 0 Q (F0 m 0 ls [])) : RO l G y cc n none lev av ws none := by
  refine Met.ofW (cc := cc) (maxL := n) (ret := none) hy rfl ?_
  intro p e s m args below meth c s₁ B hml hv
  obtain ⟨rfl, hP, hK⟩ := hv
  have hl := lv_entry av (n := n) hn
  rw [lg_entry_eq]
  refine body p e s m _ below meth c _ _ s.heap _ ⟨B.exec, B.bytes, hml, findClass_of_methodNamed B.named, atoms_spec (ws := wy y cc n none) B.pre, fun w h => List.mem_cons_of_mem _ h⟩ ⟨Nat.le_refl _, Nat.le_refl _⟩ hP hK hl ?_
  intro pc ls hd
  exact W.vret B.exec B.bytes B.returns (fun t ht hW => ⟨rfl, ht⟩) (fun q h => by cases h) hd B.notSynchronized
section JDH
variable {p : Program} {l : Launch} {e : Env} {R : Room} {s : State} {m : MethodId} {args : Array Value} {below : List Frame} {meth : Method} {c : Code} {H : Heap} {locs : List Loc} {cells slots : Nat} {Q : State → Prop}
variable {cc : ByteArray} {pc : Nat} {ls : Array Slot} {rest st0 : List Value} {G : GG} {nL index : Nat} {own : String} {Ts : List Cond}
theorem roR {lev2 : Nat} (X : Cx p s m args c cc nL own Ts) (hK : KK G s H) (hR : RR R lev2) {y : MethodName} {cc' : ByteArray} {n' lev np b : Nat} {rt : Option FieldType} {As : List Value} {ws' : va_W} {r : Option Value} {st1 : List Value} (hM : RO l G y cc' n' rt lev (.ref b :: As) ws' r) (hC : CalV y cc' n' rt np) (hl : Cond.methodLink own index y ∈ T0) (hP : va_P G.1 classes ws' H) (hrc : va_O y.cls b (bs G) s H) (hlv : lev + 1 ≤ lev2) (hcs : cells ≤ R.cells ∧ slots ≤ R.slots) (hst : st0 = As.reverse ++ .ref b :: rest) (hnl : ls.size = nL) (hn : As.length = np) (hrm : (rest.map fun v => v.category).sum ≤ 8) (h1 : r.toList ++ rest = st1) (hdg : decode cc pc = .ok (.invokevirtual index, 3))
    (kk : W p l e R s m args below meth c H locs cells slots Q (F0 m (pc + 3) ls st1)) : W p l e R s m args below meth c H locs cells slots Q (F0 m pc ls st0) := by
  subst h1
  obtain ⟨hx, hb, hml, hown, hts, hT⟩ := X
  obtain ⟨c1, c2, c2b, c3, c4, c5⟩ := hC
  obtain ⟨cell, g1, g2, g3, -⟩ := hrc
  refine ro_run (a := (Value.ref b :: As).toArray) (va_runV (rest := rest) (C := y.cls) ⟨hx, hb, hml, hown, hts⟩ hM ⟨callB_of np hts (wy_good hT c1) rfl rfl rfl (hts _ (hT _ c3)) (hts _ (hT _ hl)) c4 ⟨Nat.le_trans hlv hR.1, ?_⟩, hts _ (hT _ c2), hts _ (hT _ c2b)⟩ ⟨ro_blind, ⟨cell, g1, g2, g3⟩, fun U hU hW => ⟨rfl, by rw [hU]; exact hP, hK.warm hU hW⟩⟩ rfl hn hnl hst (lv_room hrm) hdg hcs) kk
  have h2 := hR.2
  show 8 + (n' + 11) + 40 * lev ≤ R.locals
  omega
theorem getof_at (hexec : p.tables.exec = Jvm.exec) (hb : c.code = cc) {o n d ref : String} {v : Value} {t : Nat} {A : Nat → Prop} (hZ : va_OF o n d v t A s H) (hown : s.vm.findClass own = some m.cls) (hlink : (Cond.fieldLink own index ref n d).before args s = true) (hsame : ∀ x, s.fieldFound? o n d = some x → s.fieldFound? ref n d = some x) (hdg : decode cc pc = .ok (.getfield index, 3))
    (kk : W p l e R s m args below meth c H locs cells slots Q (F0 m (pc + 3) ls (v :: rest))) : W p l e R s m args below meth c H locs cells slots Q (F0 m pc ls (.ref t :: rest)) := by
  obtain ⟨cf, k, i, f, cell, h1, h2, h3, h4, h5, h6⟩ := hZ
  exact W.getf hexec hb hown hlink (hsame _ h1) h2 h3 h4 h5 rfl rfl hdg kk
end JDH
theorem noP {D : va_G} {cl : List vw_C} {H : Heap} : va_P D cl [] H := fun k q h => by simp at h
theorem KK.str {G : GG} {s : State} {H : Heap} (h : KK G s H) : va_O "java/lang/String" G.2.2.2.2.2.2.1 (bs G) s H ∧ va_OF "java/lang/String" "coder" "B" (.int 0) G.2.2.2.2.2.2.1 (bs G) s H ∧ va_OF "java/lang/String" "value" "[B" (.ref G.2.2.2.2.2.2.2) G.2.2.2.2.2.2.1 (bs G) s H ∧ va_T .byte G.2.2.2.2.2.2.2 88 (fun j => .int (wordsB.getD j 0)) (bs G) s H := h.2.2.2.2.2.2.2.2.1 0 (by decide)
theorem c_J3_checkIndex (l : Launch) (G : GG) (i n : Int32) (fm : Value) (hf : fm = .null ∨ ∃ t, fm = .ref t) (h0 : ¬ i < 0) (h1 : i < n) : RO l G yJ3_checkIndex_8e157 cJ3_checkIndex_8e157 3 (some .int) 0 [.int i, .int n, fm] [] (some (.int i)) := by
  rcases hf with rfl | ⟨t, rfl⟩
  all_goals
    refine RO_of (by decide) (Nat.le_of_ble_eq_true rfl) ?_
    intro p e s m ar below meth c R Q H ls X hR hP hKK hS0 hl ret
    obtain ⟨hx, hb, hml, hown, hts, hT⟩ := id X
    refine lv_iload_n hx hb dJ3_checkIndex_8e157_0 rfl (lv_at hl 0 rfl) ?_
    refine lv_if_lt (tgt := 9) hx hb dJ3_checkIndex_8e157_1 (by decide) (fun c => absurd c h0) (fun c => ?_)
    refine lv_iload_n hx hb dJ3_checkIndex_8e157_4 rfl (lv_at hl 0 rfl) ?_
    refine lv_iload_n hx hb dJ3_checkIndex_8e157_5 rfl (lv_at hl 1 rfl) ?_
    refine lv_icmp_lt (tgt := 16) hx hb dJ3_checkIndex_8e157_6 (by decide) (fun c => ?_) (fun c => absurd h1 c)
    refine lv_iload_n hx hb dJ3_checkIndex_8e157_16 rfl (lv_at hl 0 rfl) ?_
    exact ret _ _ _ dJ3_checkIndex_8e157_17 rfl
theorem c_J0_checkIndex (l : Launch) (G : GG) (i n : Int32) (h0 : ¬ i < 0) (h1 : i < n) : RO l G yJ0_checkIndex_df160 cJ0_checkIndex_df160 2 none 1 [.int i, .int n] [] none := by
  refine RO_ofV (by decide) (Nat.le_of_ble_eq_true rfl) ?_
  intro p e s m ar below meth c R Q H ls X hR hP hKK hl ret
  obtain ⟨hx, hb, hml, hown, hts, hT⟩ := id X
  have hw : ∀ w ∈ T0, w.before ar s = true := fun w h => hts w (hT w h)
  refine lv_iload_n hx hb dJ0_checkIndex_df160_0 rfl (lv_at hl 0 rfl) ?_
  refine lv_iload_n hx hb dJ0_checkIndex_df160_1 rfl (lv_at hl 1 rfl) ?_
  obtain ⟨fm, hf, hZ⟩ : ∃ fm : Value, (fm = .null ∨ ∃ t, fm = .ref t) ∧ va_Z "jdk/internal/util/Preconditions" "SIOOBE_FORMATTER" "Ljava/util/function/BiFunction;" fm (bs G) s H := by
    rcases hKK.2.2.2.2.2.2.2.1 with h | ⟨t, h⟩
    · exact ⟨_, Or.inl rfl, h⟩
    · exact ⟨_, Or.inr ⟨t, rfl⟩, h⟩
  refine gets_at hx hb hZ hown (hw _ u548) (fun _ h9 => h9) dJ0_checkIndex_df160_2 ?_
  refine roS X hKK hR (st1 := [.int i]) (c_J3_checkIndex l G i n fm hf h0 h1) K_J3_checkIndex_8e157 u550 noP (by decide) ⟨Nat.zero_le _, Nat.zero_le _⟩ rfl hl.1 rfl (Nat.le_of_ble_eq_true rfl) rfl dJ0_checkIndex_df160_5 ?_
  refine lv_pop hx hb dJ0_checkIndex_df160_8 rfl ?_
  exact ret _ _ dJ0_checkIndex_df160_9
theorem c_J1_charAt (l : Launch) (G : GG) (i : Int32) (h0 : vp_in i 88) : RO l G yJ1_charAt_3b067 cJ1_charAt_3b067 2 (some .char) 2 [.ref G.2.2.2.2.2.2.2, .int i] [] (some (.int (wordsB.getD i.toNatClampNeg 0 &&& 255))) := by
  refine RO_of (by decide) (Nat.le_of_ble_eq_true rfl) ?_
  intro p e s m ar below meth c R Q H ls X hR hP hKK hS0 hl ret
  obtain ⟨hx, hb, hml, hown, hts, hT⟩ := id X
  have hb0 := vp_in_iff.mp h0
  have h1 : ¬ i < 0 := fun q => by have := Int32.lt_iff_toInt_lt.mp q; simp at this; omega
  have h2 : i < 88 := Int32.lt_iff_toInt_lt.mpr (by show i.toInt < 88; omega)
  refine lv_iload_n hx hb dJ1_charAt_3b067_0 rfl (lv_at hl 1 rfl) ?_
  refine lv_aload_n hx hb dJ1_charAt_3b067_1 rfl (lv_at hl 0 rfl) ?_
  refine tlen_at hx hb hKK.str.2.2.2 (v := 88) rfl dJ1_charAt_3b067_2 ?_
  refine roS X hKK hR (st1 := []) (c_J0_checkIndex l G i 88 h1 h2) K_J0_checkIndex_df160 u545 noP (by decide) ⟨Nat.zero_le _, Nat.zero_le _⟩ rfl hl.1 rfl (Nat.le_of_ble_eq_true rfl) rfl dJ1_charAt_3b067_3 ?_
  refine lv_aload_n hx hb dJ1_charAt_3b067_6 rfl (lv_at hl 0 rfl) ?_
  refine lv_iload_n hx hb dJ1_charAt_3b067_7 rfl (lv_at hl 1 rfl) ?_
  refine tb_at hx hb hKK.str.2.2.2 h0 rfl dJ1_charAt_3b067_8 ?_
  refine lv_sipush (v := 255) hx hb dJ1_charAt_3b067_9 (by decide) ?_
  refine lv_iand hx hb dJ1_charAt_3b067_12 ?_
  refine lv_i2c hx hb dJ1_charAt_3b067_13 (sc_c2 _) ?_
  exact ret _ _ _ dJ1_charAt_3b067_14 (sc_nar _)
theorem c_J0_isLatin1 (l : Launch) (G : GG) : RO l G yJ0_isLatin1_aae02 cJ0_isLatin1_aae02 1 (some .boolean) 0 [.ref G.2.2.2.2.2.2.1] [] (some (.int 1)) := by
  refine RO_of (by decide) (Nat.le_of_ble_eq_true rfl) ?_
  intro p e s m ar below meth c R Q H ls X hR hP hKK hS0 hl ret
  obtain ⟨hx, hb, hml, hown, hts, hT⟩ := id X
  have hw : ∀ w ∈ T0, w.before ar s = true := fun w h => hts w (hT w h)
  refine gets_at hx hb hKK.2.2.2.2.2.2.1 hown (hw _ u532) (fun _ h9 => h9) dJ0_isLatin1_aae02_0 ?_
  refine lv_if_eq (tgt := 17) hx hb dJ0_isLatin1_aae02_3 (by decide) (fun c => absurd c (by decide)) (fun c => ?_)
  refine lv_aload_n hx hb dJ0_isLatin1_aae02_6 rfl (lv_at hl 0 rfl) ?_
  refine getof_at hx hb hKK.str.2.1 hown (hw _ u1527) (fun _ h9 => h9) dJ0_isLatin1_aae02_7 ?_
  refine lv_if_ne (tgt := 17) hx hb dJ0_isLatin1_aae02_10 (by decide) (fun c => absurd rfl c) (fun c => ?_)
  refine lv_iconst (v := 1) hx hb dJ0_isLatin1_aae02_13 (by decide) ?_
  refine lv_goto (tgt := 18) hx hb dJ0_isLatin1_aae02_14 (by decide) ?_
  exact ret _ _ _ dJ0_isLatin1_aae02_18 nb1
theorem c_J0_coder (l : Launch) (G : GG) : RO l G yJ0_coder_7d493 cJ0_coder_7d493 1 (some .byte) 0 [.ref G.2.2.2.2.2.2.1] [] (some (.int 0)) := by
  refine RO_of (by decide) (Nat.le_of_ble_eq_true rfl) ?_
  intro p e s m ar below meth c R Q H ls X hR hP hKK hS0 hl ret
  obtain ⟨hx, hb, hml, hown, hts, hT⟩ := id X
  have hw : ∀ w ∈ T0, w.before ar s = true := fun w h => hts w (hT w h)
  refine gets_at hx hb hKK.2.2.2.2.2.2.1 hown (hw _ u532) (fun _ h9 => h9) dJ0_coder_7d493_0 ?_
  refine lv_if_eq (tgt := 13) hx hb dJ0_coder_7d493_3 (by decide) (fun c => absurd c (by decide)) (fun c => ?_)
  refine lv_aload_n hx hb dJ0_coder_7d493_6 rfl (lv_at hl 0 rfl) ?_
  refine getof_at hx hb hKK.str.2.1 hown (hw _ u1527) (fun _ h9 => h9) dJ0_coder_7d493_7 ?_
  refine lv_goto (tgt := 14) hx hb dJ0_coder_7d493_10 (by decide) ?_
  exact ret _ _ _ dJ0_coder_7d493_14 (by decide)
theorem c_J0_length (l : Launch) (G : GG) : RO l G yJ0_length_8abf5 cJ0_length_8abf5 1 (some .int) 1 [.ref G.2.2.2.2.2.2.1] [] (some (.int 88)) := by
  refine RO_of (by decide) (Nat.le_of_ble_eq_true rfl) ?_
  intro p e s m ar below meth c R Q H ls X hR hP hKK hS0 hl ret
  obtain ⟨hx, hb, hml, hown, hts, hT⟩ := id X
  have hw : ∀ w ∈ T0, w.before ar s = true := fun w h => hts w (hT w h)
  refine lv_aload_n hx hb dJ0_length_8abf5_0 rfl (lv_at hl 0 rfl) ?_
  refine getof_at hx hb hKK.str.2.2.1 hown (hw _ u1526) (fun _ h9 => h9) dJ0_length_8abf5_1 ?_
  refine tlen_at hx hb hKK.str.2.2.2 (v := 88) rfl dJ0_length_8abf5_4 ?_
  refine lv_aload_n hx hb dJ0_length_8abf5_5 rfl (lv_at hl 0 rfl) ?_
  refine roR X hKK hR (st1 := [.int 0, .int 88]) (c_J0_coder l G) K_J0_coder_7d493 u528 noP hKK.str.1 (by decide) ⟨Nat.zero_le _, Nat.zero_le _⟩ rfl hl.1 rfl (Nat.le_of_ble_eq_true rfl) rfl dJ0_length_8abf5_6 ?_
  refine lv_ishr hx hb dJ0_length_8abf5_9 ?_
  exact ret _ _ _ dJ0_length_8abf5_10 (by decide)
theorem c_J0_charAt (l : Launch) (G : GG) (i : Int32) (h0 : vp_in i 88) : RO l G yJ0_charAt_5068e cJ0_charAt_5068e 2 (some .char) 3 [.ref G.2.2.2.2.2.2.1, .int i] [] (some (.int (wordsB.getD i.toNatClampNeg 0 &&& 255))) := by
  refine RO_of (by decide) (Nat.le_of_ble_eq_true rfl) ?_
  intro p e s m ar below meth c R Q H ls X hR hP hKK hS0 hl ret
  obtain ⟨hx, hb, hml, hown, hts, hT⟩ := id X
  have hw : ∀ w ∈ T0, w.before ar s = true := fun w h => hts w (hT w h)
  refine lv_aload_n hx hb dJ0_charAt_5068e_0 rfl (lv_at hl 0 rfl) ?_
  refine roR X hKK hR (st1 := [.int 1]) (c_J0_isLatin1 l G) K_J0_isLatin1_aae02 u538 noP hKK.str.1 (by decide) ⟨Nat.zero_le _, Nat.zero_le _⟩ rfl hl.1 rfl (Nat.le_of_ble_eq_true rfl) rfl dJ0_charAt_5068e_1 ?_
  refine lv_if_eq (tgt := 16) hx hb dJ0_charAt_5068e_4 (by decide) (fun c => absurd c (by decide)) (fun c => ?_)
  refine lv_aload_n hx hb dJ0_charAt_5068e_7 rfl (lv_at hl 0 rfl) ?_
  refine getof_at hx hb hKK.str.2.2.1 hown (hw _ u1526) (fun _ h9 => h9) dJ0_charAt_5068e_8 ?_
  refine lv_iload_n hx hb dJ0_charAt_5068e_11 rfl (lv_at hl 1 rfl) ?_
  refine roS X hKK hR (c_J1_charAt l G i h0) K_J1_charAt_3b067 u542 noP (by decide) ⟨Nat.zero_le _, Nat.zero_le _⟩ rfl hl.1 rfl (Nat.le_of_ble_eq_true rfl) rfl dJ0_charAt_5068e_12 ?_
  exact ret _ _ _ dJ0_charAt_5068e_15 (sc_nar _)
