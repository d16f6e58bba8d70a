noncomputable def fX5_axisOf (p1 : Int32) : Option (Int32) := some (p1 >>> (1 &&& 31))
theorem ydX5_axisOf : yX5_axisOf.cls ≠ "java/lang/invoke/MethodHandle" ∧ yX5_axisOf.cls ≠ "java/lang/invoke/VarHandle" ∧ (parseMethodDescriptor yX5_axisOf.desc).map (fun d => d.parameters.length) = some 1 := by decide +kernel
set_option maxHeartbeats 8000000 in
set_option maxRecDepth 100000 in
theorem kX5_axisOf (l : Launch) (D : va_G) (cy : Nat → ClassId) (p1 : Int32) {ra : Int32} (hf : fX5_axisOf p1 = some ra) : CI l D cy yX5_axisOf wsX5_axisOf ({ frames := 0, cells := 0, slots := 0, locals := 0 } : Room) [.int p1] [] ra [] := by
  unfold fX5_axisOf at hf
  refine c_of_i (ty := .int) (own := RX5) (by decide) rfl rfl (Nat.le_of_ble_eq_true rfl) (fun X hC hRet => ?_)
  refine r_sub [(0, .int p1)] [0] rfl ?_
  refine r_iload_n hC dX5_axisOf_0 rfl 0 rfl ?_
  refine r_iconst hC dX5_axisOf_1 ic_1 ?_
  refine r_ishr hC dX5_axisOf_2 ?_
  obtain rfl := so_1 hf
  exact hRet _ _ _ dX5_axisOf_3 rfl
noncomputable def fX5_signOf (p1 : Int32) : Option (Int32) := (if (p1 &&& 1) = 0 then some 1 else some (-1))
theorem ydX5_signOf : yX5_signOf.cls ≠ "java/lang/invoke/MethodHandle" ∧ yX5_signOf.cls ≠ "java/lang/invoke/VarHandle" ∧ (parseMethodDescriptor yX5_signOf.desc).map (fun d => d.parameters.length) = some 1 := by decide +kernel
set_option maxHeartbeats 8000000 in
set_option maxRecDepth 100000 in
theorem kX5_signOf (l : Launch) (D : va_G) (cy : Nat → ClassId) (p1 : Int32) {ra : Int32} (hf : fX5_signOf p1 = some ra) : CI l D cy yX5_signOf wsX5_signOf ({ frames := 0, cells := 0, slots := 0, locals := 0 } : Room) [.int p1] [] ra [] := by
  unfold fX5_signOf at hf
  refine c_of_i (ty := .int) (own := RX5) (by decide) rfl rfl (Nat.le_of_ble_eq_true rfl) (fun X hC hRet => ?_)
  refine r_sub [(0, .int p1)] [0] rfl ?_
  refine r_iload_n hC dX5_signOf_0 rfl 0 rfl ?_
  refine r_iconst hC dX5_signOf_1 ic_1 ?_
  refine r_iand hC dX5_signOf_2 ?_
  refine r_if_ne (tgt := 10) hC dX5_signOf_3 (by decide) (fun c1 => ?_) (fun c1 => ?_)
  · replace hf := o_neg hf c1
    refine r_iconst hC dX5_signOf_10 ic_m1 ?_
    obtain rfl := so_1 hf
    exact hRet _ _ _ dX5_signOf_11 rfl
  · replace hf := o_pos hf c1
    refine r_iconst hC dX5_signOf_6 ic_1 ?_
    refine r_goto (tgt := 11) hC dX5_signOf_7 (by decide) ?_
    obtain rfl := so_1 hf
    exact hRet _ _ _ dX5_signOf_11 rfl
noncomputable def fX5_unitsBetween (c5_units : Nat → Int32) (p1 : Int32) (p2 : Int32) (p3 : Int32) (p4 : Int32) : Option (Int32) := og (vp_in p1 12) (some (if 0 < ((if p4 < (p2 + (c5_units (Int32.toNatClampNeg p1))) then p4 else (p2 + (c5_units (Int32.toNatClampNeg p1)))) - (if p2 < p3 then p3 else p2)) then ((if p4 < (p2 + (c5_units (Int32.toNatClampNeg p1))) then p4 else (p2 + (c5_units (Int32.toNatClampNeg p1)))) - (if p2 < p3 then p3 else p2)) else 0))
theorem ydX5_unitsBetween : yX5_unitsBetween.cls = RX5 ∧ yX5_unitsBetween.cls ≠ "java/lang/invoke/MethodHandle" ∧ yX5_unitsBetween.cls ≠ "java/lang/invoke/VarHandle" ∧ (parseMethodDescriptor yX5_unitsBetween.desc).map (fun d => d.parameters.length) = some 4 := by decide +kernel
set_option maxHeartbeats 8000000 in
set_option maxRecDepth 100000 in
theorem kX5_unitsBetween (l : Launch) (D : va_G) (cy : Nat → ClassId) (ad : Nat → Nat) (c5_legs : Int32) (c5_length : Int32) (c5_ways : Nat → Int32) (c5_units : Nat → Int32) (c5_stuffOf : Nat → Int32) (c5_point : Nat → Int32) (c6_bytes : Nat → Int32) (c6_sizes : Nat → Int32) (c6_weights : Nat → Int32) (p1 : Int32) (p2 : Int32) (p3 : Int32) (p4 : Int32) {ra : Int32} (hf : fX5_unitsBetween c5_units p1 p2 p3 p4 = some ra) : CI l D cy yX5_unitsBetween wsX5_unitsBetween ({ frames := 1, cells := 0, slots := 0, locals := 21 } : Room) [.ref (ad 50), .int p1, .int p2, .int p3, .int p4] (w5 cy ad c5_legs c5_length c5_ways c5_units c5_stuffOf c5_point c6_bytes c6_sizes c6_weights) ra (w5 cy ad c5_legs c5_length c5_ways c5_units c5_stuffOf c5_point c6_bytes c6_sizes c6_weights) := by
  unfold fX5_unitsBetween at hf
  refine c_of_i (ty := .int) (own := RX5) (by decide) rfl rfl (Nat.le_of_ble_eq_true rfl) (fun X hC hRet => ?_)
  refine r_sub [(0, .ref (ad 50)), (1, .int p1), (2, .int p2), (3, .int p3), (4, .int p4)] [0, 1, 2, 3, 4] rfl ?_
  have hin5 : ∀ w ∈ wsX50, w ∈ wsX5_unitsBetween := fun w h => List.mem_cons_of_mem _ (List.mem_append_right _ h)
  have hw0 : Cond.fieldLink RX5 15 "HotPipes$Run" "units" "[I" ∈ wsX5_unitsBetween := List.mem_of_getElem? (i := 1) rfl
  have hw1 : Cond.methodLink RX5 55 Lib.Math.min.name ∈ wsX5_unitsBetween := List.mem_of_getElem? (i := 2) rfl
  have hw2 : Cond.static Lib.Math.min.name ∈ wsX5_unitsBetween := List.mem_of_getElem? (i := 3) rfl
  have hw3 : Cond.initialized "java/lang/Math" ∈ wsX5_unitsBetween := List.mem_of_getElem? (i := 4) rfl
  have hw4 : Cond.code Lib.Math.min.name Lib.Math.min.code 2 (some .int) ∈ wsX5_unitsBetween := List.mem_of_getElem? (i := 5) rfl
  have hw5 : Cond.methodLink RX5 60 Lib.Math.max.name ∈ wsX5_unitsBetween := List.mem_of_getElem? (i := 6) rfl
  have hw6 : Cond.static Lib.Math.max.name ∈ wsX5_unitsBetween := List.mem_of_getElem? (i := 7) rfl
  have hw7 : Cond.code Lib.Math.max.name Lib.Math.max.code 2 (some .int) ∈ wsX5_unitsBetween := List.mem_of_getElem? (i := 8) rfl
  refine r_iconst hC dX5_unitsBetween_0 ic_0 ?_
  refine r_iload_n hC dX5_unitsBetween_1 rfl 2 rfl ?_
  refine r_aload_n hC dX5_unitsBetween_2 rfl 0 rfl ?_
  refine r_get hC hin5 0 rfl rfl 2 (by decide) rfl hw0 rfl dX5_unitsBetween_3 ?_
  refine r_iload_n hC dX5_unitsBetween_6 rfl 1 rfl ?_
  obtain ⟨g1, hf⟩ := og_some hf
  refine r_iald hC 2 rfl g1 dX5_unitsBetween_7 ?_
  refine r_iadd hC dX5_unitsBetween_8 ?_
  refine r_iload hC dX5_unitsBetween_9 4 rfl ?_
  refine r_mmin hC hw1 hw2 hw3 hw4 (Nat.le_of_ble_eq_true rfl) (Nat.le_of_ble_eq_true rfl) (Nat.le_refl 0) (Nat.le_refl 0) dX5_unitsBetween_11 ?_
  refine r_iload_n hC dX5_unitsBetween_14 rfl 2 rfl ?_
  refine r_iload_n hC dX5_unitsBetween_15 rfl 3 rfl ?_
  refine r_mmax hC hw5 hw6 hw3 hw7 (Nat.le_of_ble_eq_true rfl) (Nat.le_of_ble_eq_true rfl) (Nat.le_refl 0) (Nat.le_refl 0) dX5_unitsBetween_16 ?_
  refine r_isub hC dX5_unitsBetween_19 ?_
  refine r_mmax hC hw5 hw6 hw3 hw7 (Nat.le_of_ble_eq_true rfl) (Nat.le_of_ble_eq_true rfl) (Nat.le_refl 0) (Nat.le_refl 0) dX5_unitsBetween_20 ?_
  obtain rfl := so_1 hf
  exact hRet _ _ _ dX5_unitsBetween_23 rfl
noncomputable def fX5_position_L8 (c5_legs : Int32) (c5_ways : Nat → Int32) (c5_units : Nat → Int32) (p1 : Int32) (p2 : Int32) : Nat → Int32 → Int32 → Int32 → Option (Int32)
  | 0, _, _, _ => none
  | n + 1, x1, x2, x3 => (if c5_legs ≤ x3 then some x1 else og (vp_in x3 12) (ob (fX5_axisOf (c5_ways (Int32.toNatClampNeg x3))) (fun (r6 : Int32) => ob ((if r6 = p2 then og (vp_in x3 12) (ob (fX5_signOf (c5_ways (Int32.toNatClampNeg x3))) (fun (r15 : Int32) => ob (fX5_unitsBetween c5_units x3 x2 0 p1) (fun (r17 : Int32) => olet (x1 + (r15 * r17)) (fun (x19 : Int32) => some x19)))) else some x1)) (fun (x8 : Int32) => og (vp_in x3 12) (olet (x2 + (c5_units (Int32.toNatClampNeg x3))) (fun (x10 : Int32) => fX5_position_L8 c5_legs c5_ways c5_units p1 p2 n x8 x10 (x3 + 1)))))))
noncomputable def fX5_position (N : Nat) (c5_legs : Int32) (c5_ways : Nat → Int32) (c5_units : Nat → Int32) (p1 : Int32) (p2 : Int32) : Option (Int32) := fX5_position_L8 c5_legs c5_ways c5_units p1 p2 N 0 0 0
theorem ydX5_position : yX5_position.cls = RX5 ∧ yX5_position.cls ≠ "java/lang/invoke/MethodHandle" ∧ yX5_position.cls ≠ "java/lang/invoke/VarHandle" ∧ (parseMethodDescriptor yX5_position.desc).map (fun d => d.parameters.length) = some 2 := by decide +kernel
set_option maxHeartbeats 8000000 in
set_option maxRecDepth 100000 in
theorem kX5_position (l : Launch) (D : va_G) (cy : Nat → ClassId) (ad : Nat → Nat) (c5_legs : Int32) (c5_length : Int32) (c5_ways : Nat → Int32) (c5_units : Nat → Int32) (c5_stuffOf : Nat → Int32) (c5_point : Nat → Int32) (c6_bytes : Nat → Int32) (c6_sizes : Nat → Int32) (c6_weights : Nat → Int32) (p1 : Int32) (p2 : Int32) (N : Nat) {ra : Int32} (hf : fX5_position N c5_legs c5_ways c5_units p1 p2 = some ra) : CI l D cy yX5_position wsX5_position ({ frames := 2, cells := 0, slots := 0, locals := 45 } : Room) [.ref (ad 50), .int p1, .int p2] (w5 cy ad c5_legs c5_length c5_ways c5_units c5_stuffOf c5_point c6_bytes c6_sizes c6_weights) ra (w5 cy ad c5_legs c5_length c5_ways c5_units c5_stuffOf c5_point c6_bytes c6_sizes c6_weights) := by
  unfold fX5_position at hf
  refine c_of_i (ty := .int) (own := RX5) (by decide) rfl rfl (Nat.le_of_ble_eq_true rfl) (fun X hC hRet => ?_)
  refine r_sub [(0, .ref (ad 50)), (1, .int p1), (2, .int p2)] [0, 1, 2] rfl ?_
  have hin5 : ∀ w ∈ wsX50, w ∈ wsX5_position := fun w h => List.mem_cons_of_mem _ (List.mem_append_right _ h)
  have hw0 : Cond.fieldLink RX5 24 "HotPipes$Run" "legs" "I" ∈ wsX5_position := List.mem_of_getElem? (i := 1) rfl
  have hw1 : Cond.fieldLink RX5 9 "HotPipes$Run" "ways" "[I" ∈ wsX5_position := List.mem_of_getElem? (i := 2) rfl
  have hw2 : Cond.fieldLink RX5 15 "HotPipes$Run" "units" "[I" ∈ wsX5_position := List.mem_of_getElem? (i := 3) rfl
  refine r_iconst hC dX5_position_0 ic_0 ?_
  refine r_istore_n hC [(3, .int 0), (0, .ref (ad 50)), (1, .int p1), (2, .int p2)] dX5_position_1 rfl (by decide) rfl ?_
  refine r_iconst hC dX5_position_2 ic_0 ?_
  refine r_istore hC [(4, .int 0), (3, .int 0), (0, .ref (ad 50)), (1, .int p1), (2, .int p2)] dX5_position_3 (by decide) rfl ?_
  refine r_iconst hC dX5_position_5 ic_0 ?_
  refine r_istore hC [(5, .int 0), (4, .int 0), (3, .int 0), (0, .ref (ad 50)), (1, .int p1), (2, .int p2)] dX5_position_6 (by decide) rfl ?_
  have L8 : ∀ (n : Nat) (x1 : Int32) (x2 : Int32) (x3 : Int32), fX5_position_L8 c5_legs c5_ways c5_units p1 p2 n x1 x2 x3 = some ra → GG X 6 0 0 (w5 cy ad c5_legs c5_length c5_ways c5_units c5_stuffOf c5_point c6_bytes c6_sizes c6_weights) [(0, .ref (ad 50)), (1, .int p1), (2, .int p2), (3, .int x1), (4, .int x2), (5, .int x3)] 8 [] := by
    intro n
    induction n with
    | zero => intro x1 x2 x3 hf; cases (show none = some _ from hf)
    | succ n ih =>
      intro x1 x2 x3 hf
      rw [fX5_position_L8] at hf
      refine r_iload hC dX5_position_8 5 rfl ?_
      refine r_aload_n hC dX5_position_10 rfl 0 rfl ?_
      refine r_get hC hin5 0 rfl rfl 5 (by decide) rfl hw0 rfl dX5_position_11 ?_
      refine r_icmp_ge (tgt := 73) hC dX5_position_14 (by decide) (fun c4 => ?_) (fun c4 => ?_)
      · replace hf := o_pos hf c4
        refine r_iload_n hC dX5_position_73 rfl 3 rfl ?_
        obtain rfl := so_1 hf
        exact hRet _ _ _ dX5_position_74 rfl
      · replace hf := o_neg hf c4
        refine r_aload_n hC dX5_position_17 rfl 0 rfl ?_
        refine r_get hC hin5 0 rfl rfl 1 (by decide) rfl hw1 rfl dX5_position_18 ?_
        refine r_iload hC dX5_position_21 5 rfl ?_
        obtain ⟨g5, hf⟩ := og_some hf
        refine r_iald hC 1 rfl g5 dX5_position_23 ?_
        obtain ⟨r6, h7, hf⟩ := ob_some hf
        refine r_si (st := []) hC (kX5_axisOf l D cy (c5_ways (Int32.toNatClampNeg x3)) h7) gX5_position_X5_axisOf rfl ⟨rfl, rfl⟩ ydX5_axisOf ⟨Nat.le_of_ble_eq_true rfl, Nat.le_of_ble_eq_true rfl⟩ ⟨Nat.le_refl 0, Nat.le_refl 0⟩ _ rfl (Nat.le_of_ble_eq_true rfl) dX5_position_24 ?_
        refine r_iload_n hC dX5_position_27 rfl 2 rfl ?_
        obtain ⟨x8, h12, hf⟩ := ob_some hf
        have J55_11 : GG X 6 0 0 (w5 cy ad c5_legs c5_length c5_ways c5_units c5_stuffOf c5_point c6_bytes c6_sizes c6_weights) [(0, .ref (ad 50)), (1, .int p1), (2, .int p2), (3, .int x8), (4, .int x2), (5, .int x3)] 55 [] := by
          refine r_iload hC dX5_position_55 4 rfl ?_
          refine r_aload_n hC dX5_position_57 rfl 0 rfl ?_
          refine r_get hC hin5 0 rfl rfl 2 (by decide) rfl hw2 rfl dX5_position_58 ?_
          refine r_iload hC dX5_position_61 5 rfl ?_
          obtain ⟨g9, hf⟩ := og_some hf
          refine r_iald hC 2 rfl g9 dX5_position_63 ?_
          refine r_iadd hC dX5_position_64 ?_
          refine r_topi (fun x10 ex10 => ?_)
          replace hf := olet_some hf ex10
          refine r_istore hC [(4, .int x10), (0, .ref (ad 50)), (1, .int p1), (2, .int p2), (3, .int x8), (5, .int x3)] dX5_position_65 (by decide) rfl ?_
          refine r_iinc hC [(5, .int (x3 + 1)), (4, .int x10), (0, .ref (ad 50)), (1, .int p1), (2, .int p2), (3, .int x8)] (x3 + 1) dX5_position_67 5 rfl (ii_1 _) (by decide) rfl ?_
          refine r_goto (tgt := 8) hC dX5_position_70 (by decide) ?_
          refine r_sub [(0, .ref (ad 50)), (1, .int p1), (2, .int p2), (3, .int x8), (4, .int x10), (5, .int (x3 + 1))] [2, 3, 4, 5, 1, 0] rfl ?_
          exact ih x8 x10 (x3 + 1) hf
        replace hf := h12
        refine r_icmp_ne (tgt := 55) hC dX5_position_28 (by decide) (fun c13 => ?_) (fun c13 => ?_)
        · replace hf := o_neg hf c13
          obtain rfl := so_1 hf
          exact J55_11
        · replace hf := o_pos hf c13
          refine r_iload_n hC dX5_position_31 rfl 3 rfl ?_
          refine r_aload_n hC dX5_position_32 rfl 0 rfl ?_
          refine r_get hC hin5 0 rfl rfl 1 (by decide) rfl hw1 rfl dX5_position_33 ?_
          refine r_iload hC dX5_position_36 5 rfl ?_
          obtain ⟨g14, hf⟩ := og_some hf
          refine r_iald hC 1 rfl g14 dX5_position_38 ?_
          obtain ⟨r15, h16, hf⟩ := ob_some hf
          refine r_si (st := [.int x1]) hC (kX5_signOf l D cy (c5_ways (Int32.toNatClampNeg x3)) h16) gX5_position_X5_signOf rfl ⟨rfl, rfl⟩ ydX5_signOf ⟨Nat.le_of_ble_eq_true rfl, Nat.le_of_ble_eq_true rfl⟩ ⟨Nat.le_refl 0, Nat.le_refl 0⟩ _ rfl (Nat.le_of_ble_eq_true rfl) dX5_position_39 ?_
          refine r_aload_n hC dX5_position_42 rfl 0 rfl ?_
          refine r_iload hC dX5_position_43 5 rfl ?_
          refine r_iload hC dX5_position_45 4 rfl ?_
          refine r_iconst hC dX5_position_47 ic_0 ?_
          refine r_iload_n hC dX5_position_48 rfl 1 rfl ?_
          obtain ⟨r17, h18, hf⟩ := ob_some hf
          refine r_vi (st := [.int r15, .int x1]) hC (kX5_unitsBetween l D cy ad c5_legs c5_length c5_ways c5_units c5_stuffOf c5_point c6_bytes c6_sizes c6_weights x3 x2 0 p1 h18) gX5_position_X5_unitsBetween rfl ⟨rfl, rfl⟩ ydX5_unitsBetween ⟨Nat.le_of_ble_eq_true rfl, Nat.le_of_ble_eq_true rfl⟩ ⟨Nat.le_refl 0, Nat.le_refl 0⟩ 0 rfl rfl [] [] rfl _ rfl (Nat.le_of_ble_eq_true rfl) dX5_position_49 (w5 cy ad c5_legs c5_length c5_ways c5_units c5_stuffOf c5_point c6_bytes c6_sizes c6_weights) rfl ?_
          refine r_imul hC dX5_position_52 ?_
          refine r_iadd hC dX5_position_53 ?_
          refine r_topi (fun x19 ex19 => ?_)
          replace hf := olet_some hf ex19
          refine r_istore_n hC [(3, .int x19), (0, .ref (ad 50)), (1, .int p1), (2, .int p2), (4, .int x2), (5, .int x3)] dX5_position_54 rfl (by decide) rfl ?_
          obtain rfl := so_1 hf
          refine r_sub [(0, .ref (ad 50)), (1, .int p1), (2, .int p2), (3, .int x19), (4, .int x2), (5, .int x3)] [1, 2, 3, 0, 4, 5] rfl ?_
          exact J55_11
  refine r_sub [(0, .ref (ad 50)), (1, .int p1), (2, .int p2), (3, .int 0), (4, .int 0), (5, .int 0)] [3, 4, 5, 2, 1, 0] rfl ?_
  exact L8 N 0 0 0 hf
