theorem r_copyb {X : CX} {l : Launch} {D : va_G} {cy : Nat → ClassId} {rm : Room} {cc : ByteArray} {nL k n : Nat} {Ts : List Cond} {own : String} {ws : va_W} {lv : List (Nat × Value)} {pc : Nat} {st : List Value} (hC : OK X l D cy rm cc nL Ts own) {index : Nat} (h1 : Cond.methodLink own index arraycopyName ∈ Ts) (h2 : Cond.native arraycopyName ∈ Ts) (h3 : Cond.static arraycopyName ∈ Ts) (h4 : Cond.initialized "java/lang/System" ∈ Ts) {a : Nat} (q0 : Nat) {N : Nat} {f : Nat → Int32} (ha : ws[q0]? = some (a, .inl (cy 0, N, .inl f))) {sp dp z : Int32} (g1 : ¬ sp < 0) (g2 : ¬ dp < 0) (g3 : ¬ z < 0) (g4 : sp.toNatClampNeg + z.toNatClampNeg ≤ N) (g5 : dp.toNatClampNeg + z.toNatClampNeg ≤ N) (g6 : ∀ i, i < z.toNatClampNeg → fits .byte (.int (f (sp.toNatClampNeg + i))) = true) (hf : 1 ≤ rm.frames) (hlo : (st.map fun v => v.category).sum + (nativeFrameWords "java/lang/System" "arraycopy" 5 + 11) ≤ rm.locals) (d : decode cc pc = .ok (.invokestatic index, 3)) (ws' : va_W) (hws : ws.set q0 (a, .inl (cy 0, N, .inl (va_cpy f f sp.toNatClampNeg dp.toNatClampNeg z.toNatClampNeg))) = ws') (kk : GG X nL k n ws' lv (pc + 3) st) : GG X nL k n ws lv pc (.int z :: .int dp :: .ref a :: .int sp :: .ref a :: st) := by
  obtain ⟨p, l, e, R, s, m, args, below, meth, c, D, A, Q⟩ := X
  obtain ⟨hx, hb, hml, hown, hts, hK, hA, rfl, rfl, rfl⟩ := hC
  subst hws
  exact fun H locs ls hP hD hS hl => va_copyi hx hb (by rw [hml]; exact hl.1.symm) hown (hts _ h1) (hts _ h2) (hts _ h3) (hts _ h4) hK hP hD hS q0 q0 0 0 ha ha rfl rfl rfl g1 g2 g3 g4 g5 g6 hf hlo d (fun H1 locs1 hP hD hS => kk H1 locs1 ls hP hD hS hl)
noncomputable def fX6_transfer (c6_bytes : Nat → Int32) (p1 : Int32) (p2 : Int32) (p3 : Int32) (p4 : Int32) (p5 : Int32) : Option (Nat → Int32) := og (¬ (p1 * 16 + p2) < 0) (og (¬ (p3 * 16 + p4) < 0) (og (¬ p5 < 0) (og (Int32.toNatClampNeg (p1 * 16 + p2) + Int32.toNatClampNeg p5 ≤ 64) (og (Int32.toNatClampNeg (p3 * 16 + p4) + Int32.toNatClampNeg p5 ≤ 64) (og (∀ i, i < Int32.toNatClampNeg p5 → fits .byte (.int (c6_bytes (Int32.toNatClampNeg (p1 * 16 + p2) + i))) = true) (some (va_cpy c6_bytes c6_bytes (Int32.toNatClampNeg (p1 * 16 + p2)) (Int32.toNatClampNeg (p3 * 16 + p4)) (Int32.toNatClampNeg p5))))))))
theorem ydX6_transfer : yX6_transfer.cls = RX6 ∧ yX6_transfer.cls ≠ "java/lang/invoke/MethodHandle" ∧ yX6_transfer.cls ≠ "java/lang/invoke/VarHandle" ∧ (parseMethodDescriptor yX6_transfer.desc).map (fun d => d.parameters.length) = some 5 := by decide +kernel
set_option maxHeartbeats 8000000 in
set_option maxRecDepth 100000 in
theorem kX6_transfer (l : Launch) (D : va_G) (cy : Nat → ClassId) (ad : Nat → Nat) (c6_bytes : Nat → Int32) (c6_sizes : Nat → Int32) (c6_weights : Nat → Int32) (p1 : Int32) (p2 : Int32) (p3 : Int32) (p4 : Int32) (p5 : Int32) {z6_bytes : Nat → Int32} (hf : fX6_transfer c6_bytes p1 p2 p3 p4 p5 = some z6_bytes) : CV l D cy yX6_transfer wsX6_transfer ({ frames := 1, cells := 0, slots := 0, locals := 40 } : Room) [.ref (ad 60), .int p1, .int p2, .int p3, .int p4, .int p5] (w6 cy ad c6_bytes c6_sizes c6_weights) (w6 cy ad z6_bytes c6_sizes c6_weights) := by
  unfold fX6_transfer at hf
  refine c_of_v (own := RX6) (by decide) rfl rfl (Nat.le_of_ble_eq_true rfl) (fun X hC hRet => ?_)
  refine r_sub [(0, .ref (ad 60)), (1, .int p1), (2, .int p2), (3, .int p3), (4, .int p4), (5, .int p5)] [0, 1, 2, 3, 4, 5] rfl ?_
  have hin6 : ∀ w ∈ wsX60, w ∈ wsX6_transfer := fun w h => List.mem_cons_of_mem _ (List.mem_append_right _ h)
  have hw0 : Cond.fieldLink RX6 9 "HotPipes$Stuffs" "bytes" "[B" ∈ wsX6_transfer := List.mem_of_getElem? (i := 1) rfl
  have hw1 : Cond.methodLink RX6 28 arraycopyName ∈ wsX6_transfer := List.mem_of_getElem? (i := 2) rfl
  have hw2 : Cond.native arraycopyName ∈ wsX6_transfer := List.mem_of_getElem? (i := 3) rfl
  have hw3 : Cond.static arraycopyName ∈ wsX6_transfer := List.mem_of_getElem? (i := 4) rfl
  have hw4 : Cond.initialized "java/lang/System" ∈ wsX6_transfer := List.mem_of_getElem? (i := 5) rfl
  obtain ⟨g1, hf⟩ := og_some hf
  obtain ⟨g2, hf⟩ := og_some hf
  obtain ⟨g3, hf⟩ := og_some hf
  obtain ⟨g4, hf⟩ := og_some hf
  obtain ⟨g5, hf⟩ := og_some hf
  obtain ⟨g6, hf⟩ := og_some hf
  obtain rfl := so_1 hf
  refine r_aload_n hC dX6_transfer_0 rfl 0 rfl ?_
  refine r_get hC hin6 0 rfl rfl 0 (by decide) rfl hw0 rfl dX6_transfer_1 ?_
  refine r_iload_n hC dX6_transfer_4 rfl 1 rfl ?_
  refine r_bipush hC dX6_transfer_5 bp_16 ?_
  refine r_imul hC dX6_transfer_7 ?_
  refine r_iload_n hC dX6_transfer_8 rfl 2 rfl ?_
  refine r_iadd hC dX6_transfer_9 ?_
  refine r_aload_n hC dX6_transfer_10 rfl 0 rfl ?_
  refine r_get hC hin6 0 rfl rfl 0 (by decide) rfl hw0 rfl dX6_transfer_11 ?_
  refine r_iload_n hC dX6_transfer_14 rfl 3 rfl ?_
  refine r_bipush hC dX6_transfer_15 bp_16 ?_
  refine r_imul hC dX6_transfer_17 ?_
  refine r_iload hC dX6_transfer_18 4 rfl ?_
  refine r_iadd hC dX6_transfer_20 ?_
  refine r_iload hC dX6_transfer_21 5 rfl ?_
  refine r_copyb hC hw1 hw2 hw3 hw4 1 rfl g1 g2 g3 g4 g5 g6 (Nat.le_refl 1) (by decide +kernel) dX6_transfer_23 _ rfl ?_
  exact hRet _ _ _ dX6_transfer_26
