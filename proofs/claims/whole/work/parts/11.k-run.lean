noncomputable def fX5_length (c5_length : Int32) : Option (Int32) := some c5_length
theorem ydX5_length : yX5_length.cls = RX5 ∧ yX5_length.cls ≠ "java/lang/invoke/MethodHandle" ∧ yX5_length.cls ≠ "java/lang/invoke/VarHandle" ∧ (parseMethodDescriptor yX5_length.desc).map (fun d => d.parameters.length) = some 0 := by decide +kernel
set_option maxHeartbeats 8000000 in
set_option maxRecDepth 100000 in
theorem kX5_length (l : Launch) (D : va_G) (cy : Nat → ClassId) (ad : Nat → Nat) (c5_legs : Int32) (c5_length : Int32) (c5_ways : Nat → Int32) (c5_units : Nat → Int32) (c5_stuffOf : Nat → Int32) (c5_point : Nat → Int32) (c6_bytes : Nat → Int32) (c6_sizes : Nat → Int32) (c6_weights : Nat → Int32) {ra : Int32} (hf : fX5_length c5_length = some ra) : CI l D cy yX5_length wsX5_length ({ frames := 0, cells := 0, slots := 0, locals := 0 } : Room) [.ref (ad 50)] (w5 cy ad c5_legs c5_length c5_ways c5_units c5_stuffOf c5_point c6_bytes c6_sizes c6_weights) ra (w5 cy ad c5_legs c5_length c5_ways c5_units c5_stuffOf c5_point c6_bytes c6_sizes c6_weights) := by
  unfold fX5_length at hf
  refine c_of_i (ty := .int) (own := RX5) (by decide) rfl rfl (Nat.le_of_ble_eq_true rfl) (fun X hC hRet => ?_)
  refine r_sub [(0, .ref (ad 50))] [0] rfl ?_
  have hin5 : ∀ w ∈ wsX50, w ∈ wsX5_length := fun w h => List.mem_cons_of_mem _ (List.mem_append_right _ h)
  have hw0 : Cond.fieldLink RX5 28 "HotPipes$Run" "length" "I" ∈ wsX5_length := List.mem_of_getElem? (i := 1) rfl
  refine r_aload_n hC dX5_length_0 rfl 0 rfl ?_
  refine r_get hC hin5 0 rfl rfl 6 (by decide) rfl hw0 rfl dX5_length_1 ?_
  obtain rfl := so_1 hf
  exact hRet _ _ _ dX5_length_4 rfl
noncomputable def fX5_axisOf (p1 : Int32) : Option (Int32) := some (p1 >>> (1 &&& 31))
theorem ydX5_axisOf : yX5_axisOf.cls ≠ "java/lang/invoke/MethodHandle" ∧ yX5_axisOf.cls ≠ "java/lang/invoke/VarHandle" ∧ (parseMethodDescriptor yX5_axisOf.desc).map (fun d => d.parameters.length) = some 1 := by decide +kernel
set_option maxHeartbeats 8000000 in
set_option maxRecDepth 100000 in
theorem kX5_axisOf (l : Launch) (D : va_G) (cy : Nat → ClassId) (p1 : Int32) {ra : Int32} (hf : fX5_axisOf p1 = some ra) : CI l D cy yX5_axisOf wsX5_axisOf ({ frames := 0, cells := 0, slots := 0, locals := 0 } : Room) [.int p1] [] ra [] := by
  unfold fX5_axisOf at hf
  refine c_of_i (ty := .int) (own := RX5) (by decide) rfl rfl (Nat.le_of_ble_eq_true rfl) (fun X hC hRet => ?_)
  refine r_sub [(0, .int p1)] [0] rfl ?_
  refine r_iload_n hC dX5_axisOf_0 rfl 0 rfl ?_
  refine r_iconst hC dX5_axisOf_1 ic_1 ?_
  refine r_ishr hC dX5_axisOf_2 ?_
  obtain rfl := so_1 hf
  exact hRet _ _ _ dX5_axisOf_3 rfl
noncomputable def fX5_signOf (p1 : Int32) : Option (Int32) := (if (p1 &&& 1) = 0 then some 1 else some (-1))
theorem ydX5_signOf : yX5_signOf.cls ≠ "java/lang/invoke/MethodHandle" ∧ yX5_signOf.cls ≠ "java/lang/invoke/VarHandle" ∧ (parseMethodDescriptor yX5_signOf.desc).map (fun d => d.parameters.length) = some 1 := by decide +kernel
set_option maxHeartbeats 8000000 in
set_option maxRecDepth 100000 in
theorem kX5_signOf (l : Launch) (D : va_G) (cy : Nat → ClassId) (p1 : Int32) {ra : Int32} (hf : fX5_signOf p1 = some ra) : CI l D cy yX5_signOf wsX5_signOf ({ frames := 0, cells := 0, slots := 0, locals := 0 } : Room) [.int p1] [] ra [] := by
  unfold fX5_signOf at hf
  refine c_of_i (ty := .int) (own := RX5) (by decide) rfl rfl (Nat.le_of_ble_eq_true rfl) (fun X hC hRet => ?_)
  refine r_sub [(0, .int p1)] [0] rfl ?_
  refine r_iload_n hC dX5_signOf_0 rfl 0 rfl ?_
  refine r_iconst hC dX5_signOf_1 ic_1 ?_
  refine r_iand hC dX5_signOf_2 ?_
  refine r_if_ne (tgt := 10) hC dX5_signOf_3 (by decide) (fun c1 => ?_) (fun c1 => ?_)
  · replace hf := o_neg hf c1
    refine r_iconst hC dX5_signOf_10 ic_m1 ?_
    obtain rfl := so_1 hf
    exact hRet _ _ _ dX5_signOf_11 rfl
  · replace hf := o_pos hf c1
    refine r_iconst hC dX5_signOf_6 ic_1 ?_
    refine r_goto (tgt := 11) hC dX5_signOf_7 (by decide) ?_
    obtain rfl := so_1 hf
    exact hRet _ _ _ dX5_signOf_11 rfl
noncomputable def fX5_unitsBetween (c5_units : Nat → Int32) (p1 : Int32) (p2 : Int32) (p3 : Int32) (p4 : Int32) : Option (Int32) := og (vp_in p1 12) (some (if 0 < ((if p4 < (p2 + (c5_units (Int32.toNatClampNeg p1))) then p4 else (p2 + (c5_units (Int32.toNatClampNeg p1)))) - (if p2 < p3 then p3 else p2)) then ((if p4 < (p2 + (c5_units (Int32.toNatClampNeg p1))) then p4 else (p2 + (c5_units (Int32.toNatClampNeg p1)))) - (if p2 < p3 then p3 else p2)) else 0))
theorem ydX5_unitsBetween : yX5_unitsBetween.cls = RX5 ∧ yX5_unitsBetween.cls ≠ "java/lang/invoke/MethodHandle" ∧ yX5_unitsBetween.cls ≠ "java/lang/invoke/VarHandle" ∧ (parseMethodDescriptor yX5_unitsBetween.desc).map (fun d => d.parameters.length) = some 4 := by decide +kernel
set_option maxHeartbeats 8000000 in
set_option maxRecDepth 100000 in
theorem kX5_unitsBetween (l : Launch) (D : va_G) (cy : Nat → ClassId) (ad : Nat → Nat) (c5_legs : Int32) (c5_length : Int32) (c5_ways : Nat → Int32) (c5_units : Nat → Int32) (c5_stuffOf : Nat → Int32) (c5_point : Nat → Int32) (c6_bytes : Nat → Int32) (c6_sizes : Nat → Int32) (c6_weights : Nat → Int32) (p1 : Int32) (p2 : Int32) (p3 : Int32) (p4 : Int32) {ra : Int32} (hf : fX5_unitsBetween c5_units p1 p2 p3 p4 = some ra) : CI l D cy yX5_unitsBetween wsX5_unitsBetween ({ frames := 1, cells := 0, slots := 0, locals := 21 } : Room) [.ref (ad 50), .int p1, .int p2, .int p3, .int p4] (w5 cy ad c5_legs c5_length c5_ways c5_units c5_stuffOf c5_point c6_bytes c6_sizes c6_weights) ra (w5 cy ad c5_legs c5_length c5_ways c5_units c5_stuffOf c5_point c6_bytes c6_sizes c6_weights) := by
  unfold fX5_unitsBetween at hf
  refine c_of_i (ty := .int) (own := RX5) (by decide) rfl rfl (Nat.le_of_ble_eq_true rfl) (fun X hC hRet => ?_)
  refine r_sub [(0, .ref (ad 50)), (1, .int p1), (2, .int p2), (3, .int p3), (4, .int p4)] [0, 1, 2, 3, 4] rfl ?_
  have hin5 : ∀ w ∈ wsX50, w ∈ wsX5_unitsBetween := fun w h => List.mem_cons_of_mem _ (List.mem_append_right _ h)
  have hw0 : Cond.fieldLink RX5 15 "HotPipes$Run" "units" "[I" ∈ wsX5_unitsBetween := List.mem_of_getElem? (i := 1) rfl
  have hw1 : Cond.methodLink RX5 55 Lib.Math.min.name ∈ wsX5_unitsBetween := List.mem_of_getElem? (i := 2) rfl
  have hw2 : Cond.static Lib.Math.min.name ∈ wsX5_unitsBetween := List.mem_of_getElem? (i := 3) rfl
  have hw3 : Cond.initialized "java/lang/Math" ∈ wsX5_unitsBetween := List.mem_of_getElem? (i := 4) rfl
  have hw4 : Cond.code Lib.Math.min.name Lib.Math.min.code 2 (some .int) ∈ wsX5_unitsBetween := List.mem_of_getElem? (i := 5) rfl
  have hw5 : Cond.methodLink RX5 60 Lib.Math.max.name ∈ wsX5_unitsBetween := List.mem_of_getElem? (i := 6) rfl
  have hw6 : Cond.static Lib.Math.max.name ∈ wsX5_unitsBetween := List.mem_of_getElem? (i := 7) rfl
  have hw7 : Cond.code Lib.Math.max.name Lib.Math.max.code 2 (some .int) ∈ wsX5_unitsBetween := List.mem_of_getElem? (i := 8) rfl
  refine r_iconst hC dX5_unitsBetween_0 ic_0 ?_
  refine r_iload_n hC dX5_unitsBetween_1 rfl 2 rfl ?_
  refine r_aload_n hC dX5_unitsBetween_2 rfl 0 rfl ?_
  refine r_get hC hin5 0 rfl rfl 2 (by decide) rfl hw0 rfl dX5_unitsBetween_3 ?_
  refine r_iload_n hC dX5_unitsBetween_6 rfl 1 rfl ?_
  obtain ⟨g1, hf⟩ := og_some hf
  refine r_iald hC 2 rfl g1 dX5_unitsBetween_7 ?_
  refine r_iadd hC dX5_unitsBetween_8 ?_
  refine r_iload hC dX5_unitsBetween_9 4 rfl ?_
  refine r_mmin hC hw1 hw2 hw3 hw4 (Nat.le_of_ble_eq_true rfl) (Nat.le_of_ble_eq_true rfl) (Nat.le_refl 0) (Nat.le_refl 0) dX5_unitsBetween_11 ?_
  refine r_iload_n hC dX5_unitsBetween_14 rfl 2 rfl ?_
  refine r_iload_n hC dX5_unitsBetween_15 rfl 3 rfl ?_
  refine r_mmax hC hw5 hw6 hw3 hw7 (Nat.le_of_ble_eq_true rfl) (Nat.le_of_ble_eq_true rfl) (Nat.le_refl 0) (Nat.le_refl 0) dX5_unitsBetween_16 ?_
  refine r_isub hC dX5_unitsBetween_19 ?_
  refine r_mmax hC hw5 hw6 hw3 hw7 (Nat.le_of_ble_eq_true rfl) (Nat.le_of_ble_eq_true rfl) (Nat.le_refl 0) (Nat.le_refl 0) dX5_unitsBetween_20 ?_
  obtain rfl := so_1 hf
  exact hRet _ _ _ dX5_unitsBetween_23 rfl
noncomputable def fX5_growth_L9 (c5_legs : Int32) (c5_ways : Nat → Int32) (c5_units : Nat → Int32) (c5_stuffOf : Nat → Int32) (c6_bytes : Nat → Int32) (c6_sizes : Nat → Int32) (p1 : Int32) (p2 : Int32) (p3 : Int32) : Nat → Int32 → Int32 → Int32 → Option (Int32)
  | 0, _, _, _ => none
  | n + 1, x1, x2, x3 => (if c5_legs ≤ x3 then some x1 else og (vp_in x3 12) (ob (fX5_axisOf (c5_ways (Int32.toNatClampNeg x3))) (fun (r6 : Int32) => ob ((if r6 = p3 then og (vp_in x3 12) (ob (fX5_signOf (c5_ways (Int32.toNatClampNeg x3))) (fun (r15 : Int32) => og (vp_in x3 12) (ob (fX6_growthAt c6_bytes c6_sizes (c5_stuffOf (Int32.toNatClampNeg x3)) p2) (fun (r18 : Int32) => olet (r15 * r18) (fun (x20 : Int32) => ob (fX5_unitsBetween c5_units x3 x2 0 p1) (fun (r21 : Int32) => olet (x1 + (x20 * r21)) (fun (x23 : Int32) => some x23))))))) else some x1)) (fun (x8 : Int32) => og (vp_in x3 12) (olet (x2 + (c5_units (Int32.toNatClampNeg x3))) (fun (x10 : Int32) => fX5_growth_L9 c5_legs c5_ways c5_units c5_stuffOf c6_bytes c6_sizes p1 p2 p3 n x8 x10 (x3 + 1)))))))
noncomputable def fX5_growth (N : Nat) (c5_legs : Int32) (c5_ways : Nat → Int32) (c5_units : Nat → Int32) (c5_stuffOf : Nat → Int32) (c6_bytes : Nat → Int32) (c6_sizes : Nat → Int32) (p1 : Int32) (p2 : Int32) (p3 : Int32) : Option (Int32) := fX5_growth_L9 c5_legs c5_ways c5_units c5_stuffOf c6_bytes c6_sizes p1 p2 p3 N 0 0 0
theorem ydX5_growth : yX5_growth.cls = RX5 ∧ yX5_growth.cls ≠ "java/lang/invoke/MethodHandle" ∧ yX5_growth.cls ≠ "java/lang/invoke/VarHandle" ∧ (parseMethodDescriptor yX5_growth.desc).map (fun d => d.parameters.length) = some 3 := by decide +kernel
set_option maxHeartbeats 8000000 in
set_option maxRecDepth 100000 in
theorem kX5_growth (l : Launch) (D : va_G) (cy : Nat → ClassId) (ad : Nat → Nat) (c5_legs : Int32) (c5_length : Int32) (c5_ways : Nat → Int32) (c5_units : Nat → Int32) (c5_stuffOf : Nat → Int32) (c5_point : Nat → Int32) (c6_bytes : Nat → Int32) (c6_sizes : Nat → Int32) (c6_weights : Nat → Int32) (p1 : Int32) (p2 : Int32) (p3 : Int32) (N : Nat) {ra : Int32} (hf : fX5_growth N c5_legs c5_ways c5_units c5_stuffOf c6_bytes c6_sizes p1 p2 p3 = some ra) : CI l D cy yX5_growth wsX5_growth ({ frames := 2, cells := 0, slots := 0, locals := 45 } : Room) [.ref (ad 50), .int p1, .int p2, .int p3] (w5 cy ad c5_legs c5_length c5_ways c5_units c5_stuffOf c5_point c6_bytes c6_sizes c6_weights) ra (w5 cy ad c5_legs c5_length c5_ways c5_units c5_stuffOf c5_point c6_bytes c6_sizes c6_weights) := by
  unfold fX5_growth at hf
  refine c_of_i (ty := .int) (own := RX5) (by decide) rfl rfl (Nat.le_of_ble_eq_true rfl) (fun X hC hRet => ?_)
  refine r_sub [(0, .ref (ad 50)), (1, .int p1), (2, .int p2), (3, .int p3)] [0, 1, 2, 3] rfl ?_
  have hin5 : ∀ w ∈ wsX50, w ∈ wsX5_growth := fun w h => List.mem_cons_of_mem _ (List.mem_append_left _ (List.mem_append_right _ h))
  have hw0 : Cond.fieldLink RX5 24 "HotPipes$Run" "legs" "I" ∈ wsX5_growth := List.mem_of_getElem? (i := 1) rfl
  have hw1 : Cond.fieldLink RX5 9 "HotPipes$Run" "ways" "[I" ∈ wsX5_growth := List.mem_of_getElem? (i := 2) rfl
  have hw2 : Cond.fieldLink RX5 15 "HotPipes$Run" "units" "[I" ∈ wsX5_growth := List.mem_of_getElem? (i := 5) rfl
  have hw3 : Cond.fieldLink RX5 31 "HotPipes$Run" "stuffs" "LHotPipes$Stuffs;" ∈ wsX5_growth := List.mem_of_getElem? (i := 3) rfl
  have hw4 : Cond.fieldLink RX5 18 "HotPipes$Run" "stuffOf" "[I" ∈ wsX5_growth := List.mem_of_getElem? (i := 4) rfl
  refine r_iconst hC dX5_growth_0 ic_0 ?_
  refine r_istore hC [(4, .int 0), (0, .ref (ad 50)), (1, .int p1), (2, .int p2), (3, .int p3)] dX5_growth_1 (by decide) rfl ?_
  refine r_iconst hC dX5_growth_3 ic_0 ?_
  refine r_istore hC [(5, .int 0), (4, .int 0), (0, .ref (ad 50)), (1, .int p1), (2, .int p2), (3, .int p3)] dX5_growth_4 (by decide) rfl ?_
  refine r_iconst hC dX5_growth_6 ic_0 ?_
  refine r_istore hC [(6, .int 0), (5, .int 0), (4, .int 0), (0, .ref (ad 50)), (1, .int p1), (2, .int p2), (3, .int p3)] dX5_growth_7 (by decide) rfl ?_
  have L9 : ∀ (n : Nat) (x1 : Int32) (x2 : Int32) (x3 : Int32), fX5_growth_L9 c5_legs c5_ways c5_units c5_stuffOf c6_bytes c6_sizes p1 p2 p3 n x1 x2 x3 = some ra → GG X 8 0 0 (w5 cy ad c5_legs c5_length c5_ways c5_units c5_stuffOf c5_point c6_bytes c6_sizes c6_weights) [(0, .ref (ad 50)), (1, .int p1), (2, .int p2), (3, .int p3), (4, .int x1), (5, .int x2), (6, .int x3)] 9 [] := by
    intro n
    induction n with
    | zero => intro x1 x2 x3 hf; cases (show none = some _ from hf)
    | succ n ih =>
      intro x1 x2 x3 hf
      rw [fX5_growth_L9] at hf
      refine r_iload hC dX5_growth_9 6 rfl ?_
      refine r_aload_n hC dX5_growth_11 rfl 0 rfl ?_
      refine r_get hC hin5 0 rfl rfl 5 (by decide) rfl hw0 rfl dX5_growth_12 ?_
      refine r_icmp_ge (tgt := 96) hC dX5_growth_15 (by decide) (fun c4 => ?_) (fun c4 => ?_)
      · replace hf := o_pos hf c4
        refine r_iload hC dX5_growth_96 4 rfl ?_
        obtain rfl := so_1 hf
        exact hRet _ _ _ dX5_growth_98 rfl
      · replace hf := o_neg hf c4
        refine r_aload_n hC dX5_growth_18 rfl 0 rfl ?_
        refine r_get hC hin5 0 rfl rfl 1 (by decide) rfl hw1 rfl dX5_growth_19 ?_
        refine r_iload hC dX5_growth_22 6 rfl ?_
        obtain ⟨g5, hf⟩ := og_some hf
        refine r_iald hC 1 rfl g5 dX5_growth_24 ?_
        obtain ⟨r6, h7, hf⟩ := ob_some hf
        refine r_si (st := []) hC (kX5_axisOf l D cy (c5_ways (Int32.toNatClampNeg x3)) h7) gX5_growth_X5_axisOf rfl ⟨rfl, rfl⟩ ydX5_axisOf ⟨Nat.le_of_ble_eq_true rfl, Nat.le_of_ble_eq_true rfl⟩ ⟨Nat.le_refl 0, Nat.le_refl 0⟩ _ rfl (Nat.le_of_ble_eq_true rfl) dX5_growth_25 ?_
        refine r_iload_n hC dX5_growth_28 rfl 3 rfl ?_
        obtain ⟨x8, h12, hf⟩ := ob_some hf
        have J78_11 : GG X 8 0 0 (w5 cy ad c5_legs c5_length c5_ways c5_units c5_stuffOf c5_point c6_bytes c6_sizes c6_weights) [(0, .ref (ad 50)), (1, .int p1), (2, .int p2), (3, .int p3), (4, .int x8), (5, .int x2), (6, .int x3)] 78 [] := by
          refine r_iload hC dX5_growth_78 5 rfl ?_
          refine r_aload_n hC dX5_growth_80 rfl 0 rfl ?_
          refine r_get hC hin5 0 rfl rfl 2 (by decide) rfl hw2 rfl dX5_growth_81 ?_
          refine r_iload hC dX5_growth_84 6 rfl ?_
          obtain ⟨g9, hf⟩ := og_some hf
          refine r_iald hC 2 rfl g9 dX5_growth_86 ?_
          refine r_iadd hC dX5_growth_87 ?_
          refine r_topi (fun x10 ex10 => ?_)
          replace hf := olet_some hf ex10
          refine r_istore hC [(5, .int x10), (0, .ref (ad 50)), (1, .int p1), (2, .int p2), (3, .int p3), (4, .int x8), (6, .int x3)] dX5_growth_88 (by decide) rfl ?_
          refine r_iinc hC [(6, .int (x3 + 1)), (5, .int x10), (0, .ref (ad 50)), (1, .int p1), (2, .int p2), (3, .int p3), (4, .int x8)] (x3 + 1) dX5_growth_90 6 rfl (ii_1 _) (by decide) rfl ?_
          refine r_goto (tgt := 9) hC dX5_growth_93 (by decide) ?_
          refine r_sub [(0, .ref (ad 50)), (1, .int p1), (2, .int p2), (3, .int p3), (4, .int x8), (5, .int x10), (6, .int (x3 + 1))] [2, 3, 4, 5, 6, 1, 0] rfl ?_
          exact ih x8 x10 (x3 + 1) hf
        replace hf := h12
        refine r_icmp_ne (tgt := 78) hC dX5_growth_29 (by decide) (fun c13 => ?_) (fun c13 => ?_)
        · replace hf := o_neg hf c13
          obtain rfl := so_1 hf
          exact J78_11
        · replace hf := o_pos hf c13
          refine r_aload_n hC dX5_growth_32 rfl 0 rfl ?_
          refine r_get hC hin5 0 rfl rfl 1 (by decide) rfl hw1 rfl dX5_growth_33 ?_
          refine r_iload hC dX5_growth_36 6 rfl ?_
          obtain ⟨g14, hf⟩ := og_some hf
          refine r_iald hC 1 rfl g14 dX5_growth_38 ?_
          obtain ⟨r15, h16, hf⟩ := ob_some hf
          refine r_si (st := []) hC (kX5_signOf l D cy (c5_ways (Int32.toNatClampNeg x3)) h16) gX5_growth_X5_signOf rfl ⟨rfl, rfl⟩ ydX5_signOf ⟨Nat.le_of_ble_eq_true rfl, Nat.le_of_ble_eq_true rfl⟩ ⟨Nat.le_refl 0, Nat.le_refl 0⟩ _ rfl (Nat.le_of_ble_eq_true rfl) dX5_growth_39 ?_
          refine r_aload_n hC dX5_growth_42 rfl 0 rfl ?_
          refine r_get hC hin5 0 rfl rfl 0 (by decide) rfl hw3 rfl dX5_growth_43 ?_
          refine r_aload_n hC dX5_growth_46 rfl 0 rfl ?_
          refine r_get hC hin5 0 rfl rfl 3 (by decide) rfl hw4 rfl dX5_growth_47 ?_
          refine r_iload hC dX5_growth_50 6 rfl ?_
          obtain ⟨g17, hf⟩ := og_some hf
          refine r_iald hC 3 rfl g17 dX5_growth_52 ?_
          refine r_iload_n hC dX5_growth_53 rfl 2 rfl ?_
          obtain ⟨r18, h19, hf⟩ := ob_some hf
          refine r_vi (st := [.int r15]) hC (kX6_growthAt l D cy ad c6_bytes c6_sizes c6_weights (c5_stuffOf (Int32.toNatClampNeg x3)) p2 h19) gX5_growth_X6_growthAt rfl ⟨rfl, rfl⟩ ydX6_growthAt ⟨Nat.le_of_ble_eq_true rfl, Nat.le_of_ble_eq_true rfl⟩ ⟨Nat.le_refl 0, Nat.le_refl 0⟩ 0 rfl rfl (v5 cy ad c5_legs c5_length c5_ways c5_units c5_stuffOf c5_point) [] rfl _ rfl (Nat.le_of_ble_eq_true rfl) dX5_growth_54 (w5 cy ad c5_legs c5_length c5_ways c5_units c5_stuffOf c5_point c6_bytes c6_sizes c6_weights) rfl ?_
          refine r_imul hC dX5_growth_57 ?_
          refine r_topi (fun x20 ex20 => ?_)
          replace hf := olet_some hf ex20
          refine r_istore hC [(7, .int x20), (0, .ref (ad 50)), (1, .int p1), (2, .int p2), (3, .int p3), (4, .int x1), (5, .int x2), (6, .int x3)] dX5_growth_58 (by decide) rfl ?_
          refine r_iload hC dX5_growth_60 5 rfl ?_
          refine r_iload hC dX5_growth_62 0 rfl ?_
          refine r_aload_n hC dX5_growth_64 rfl 1 rfl ?_
          refine r_iload hC dX5_growth_65 7 rfl ?_
          refine r_iload hC dX5_growth_67 6 rfl ?_
          refine r_iconst hC dX5_growth_69 ic_0 ?_
          refine r_iload_n hC dX5_growth_70 rfl 2 rfl ?_
          obtain ⟨r21, h22, hf⟩ := ob_some hf
          refine r_vi (st := [.int x20, .int x1]) hC (kX5_unitsBetween l D cy ad c5_legs c5_length c5_ways c5_units c5_stuffOf c5_point c6_bytes c6_sizes c6_weights x3 x2 0 p1 h22) gX5_growth_X5_unitsBetween rfl ⟨rfl, rfl⟩ ydX5_unitsBetween ⟨Nat.le_of_ble_eq_true rfl, Nat.le_of_ble_eq_true rfl⟩ ⟨Nat.le_refl 0, Nat.le_refl 0⟩ 0 rfl rfl [] [] rfl _ rfl (Nat.le_of_ble_eq_true rfl) dX5_growth_71 (w5 cy ad c5_legs c5_length c5_ways c5_units c5_stuffOf c5_point c6_bytes c6_sizes c6_weights) rfl ?_
          refine r_imul hC dX5_growth_74 ?_
          refine r_iadd hC dX5_growth_75 ?_
          refine r_topi (fun x23 ex23 => ?_)
          replace hf := olet_some hf ex23
          refine r_istore hC [(4, .int x23), (7, .int x20), (0, .ref (ad 50)), (1, .int p1), (2, .int p2), (3, .int p3), (5, .int x2), (6, .int x3)] dX5_growth_76 (by decide) rfl ?_
          obtain rfl := so_1 hf
          refine r_sub [(0, .ref (ad 50)), (1, .int p1), (2, .int p2), (3, .int p3), (4, .int x23), (5, .int x2), (6, .int x3)] [2, 3, 4, 5, 0, 6, 7] rfl ?_
          exact J78_11
  refine r_sub [(0, .ref (ad 50)), (1, .int p1), (2, .int p2), (3, .int p3), (4, .int 0), (5, .int 0), (6, .int 0)] [3, 4, 5, 6, 2, 1, 0] rfl ?_
  exact L9 N 0 0 0 hf
noncomputable def fX5_weight_L8 (c5_legs : Int32) (c5_units : Nat → Int32) (c5_stuffOf : Nat → Int32) (c6_weights : Nat → Int32) (p1 : Int32) (p2 : Int32) : Nat → Int32 → Int32 → Int32 → Option (Int32)
  | 0, _, _, _ => none
  | n + 1, x1, x2, x3 => (if c5_legs ≤ x3 then some x1 else og (vp_in x3 12) (ob (fX6_weightOf c6_weights (c5_stuffOf (Int32.toNatClampNeg x3))) (fun (r6 : Int32) => ob (fX5_unitsBetween c5_units x3 x2 p1 p2) (fun (r8 : Int32) => olet (x1 + (r6 * r8)) (fun (x10 : Int32) => og (vp_in x3 12) (olet (x2 + (c5_units (Int32.toNatClampNeg x3))) (fun (x12 : Int32) => fX5_weight_L8 c5_legs c5_units c5_stuffOf c6_weights p1 p2 n x10 x12 (x3 + 1))))))))
noncomputable def fX5_weight (N : Nat) (c5_legs : Int32) (c5_units : Nat → Int32) (c5_stuffOf : Nat → Int32) (c6_weights : Nat → Int32) (p1 : Int32) (p2 : Int32) : Option (Int32) := fX5_weight_L8 c5_legs c5_units c5_stuffOf c6_weights p1 p2 N 0 0 0
theorem ydX5_weight : yX5_weight.cls = RX5 ∧ yX5_weight.cls ≠ "java/lang/invoke/MethodHandle" ∧ yX5_weight.cls ≠ "java/lang/invoke/VarHandle" ∧ (parseMethodDescriptor yX5_weight.desc).map (fun d => d.parameters.length) = some 2 := by decide +kernel
set_option maxHeartbeats 8000000 in
set_option maxRecDepth 100000 in
theorem kX5_weight (l : Launch) (D : va_G) (cy : Nat → ClassId) (ad : Nat → Nat) (c5_legs : Int32) (c5_length : Int32) (c5_ways : Nat → Int32) (c5_units : Nat → Int32) (c5_stuffOf : Nat → Int32) (c5_point : Nat → Int32) (c6_bytes : Nat → Int32) (c6_sizes : Nat → Int32) (c6_weights : Nat → Int32) (p1 : Int32) (p2 : Int32) (N : Nat) {ra : Int32} (hf : fX5_weight N c5_legs c5_units c5_stuffOf c6_weights p1 p2 = some ra) : CI l D cy yX5_weight wsX5_weight ({ frames := 2, cells := 0, slots := 0, locals := 45 } : Room) [.ref (ad 50), .int p1, .int p2] (w5 cy ad c5_legs c5_length c5_ways c5_units c5_stuffOf c5_point c6_bytes c6_sizes c6_weights) ra (w5 cy ad c5_legs c5_length c5_ways c5_units c5_stuffOf c5_point c6_bytes c6_sizes c6_weights) := by
  unfold fX5_weight at hf
  refine c_of_i (ty := .int) (own := RX5) (by decide) rfl rfl (Nat.le_of_ble_eq_true rfl) (fun X hC hRet => ?_)
  refine r_sub [(0, .ref (ad 50)), (1, .int p1), (2, .int p2)] [0, 1, 2] rfl ?_
  have hin5 : ∀ w ∈ wsX50, w ∈ wsX5_weight := fun w h => List.mem_cons_of_mem _ (List.mem_append_left _ (List.mem_append_right _ h))
  have hw0 : Cond.fieldLink RX5 24 "HotPipes$Run" "legs" "I" ∈ wsX5_weight := List.mem_of_getElem? (i := 1) rfl
  have hw1 : Cond.fieldLink RX5 31 "HotPipes$Run" "stuffs" "LHotPipes$Stuffs;" ∈ wsX5_weight := List.mem_of_getElem? (i := 2) rfl
  have hw2 : Cond.fieldLink RX5 18 "HotPipes$Run" "stuffOf" "[I" ∈ wsX5_weight := List.mem_of_getElem? (i := 3) rfl
  have hw3 : Cond.fieldLink RX5 15 "HotPipes$Run" "units" "[I" ∈ wsX5_weight := List.mem_of_getElem? (i := 4) rfl
  refine r_iconst hC dX5_weight_0 ic_0 ?_
  refine r_istore_n hC [(3, .int 0), (0, .ref (ad 50)), (1, .int p1), (2, .int p2)] dX5_weight_1 rfl (by decide) rfl ?_
  refine r_iconst hC dX5_weight_2 ic_0 ?_
  refine r_istore hC [(4, .int 0), (3, .int 0), (0, .ref (ad 50)), (1, .int p1), (2, .int p2)] dX5_weight_3 (by decide) rfl ?_
  refine r_iconst hC dX5_weight_5 ic_0 ?_
  refine r_istore hC [(5, .int 0), (4, .int 0), (3, .int 0), (0, .ref (ad 50)), (1, .int p1), (2, .int p2)] dX5_weight_6 (by decide) rfl ?_
  have L8 : ∀ (n : Nat) (x1 : Int32) (x2 : Int32) (x3 : Int32), fX5_weight_L8 c5_legs c5_units c5_stuffOf c6_weights p1 p2 n x1 x2 x3 = some ra → GG X 6 0 0 (w5 cy ad c5_legs c5_length c5_ways c5_units c5_stuffOf c5_point c6_bytes c6_sizes c6_weights) [(0, .ref (ad 50)), (1, .int p1), (2, .int p2), (3, .int x1), (4, .int x2), (5, .int x3)] 8 [] := by
    intro n
    induction n with
    | zero => intro x1 x2 x3 hf; cases (show none = some _ from hf)
    | succ n ih =>
      intro x1 x2 x3 hf
      rw [fX5_weight_L8] at hf
      refine r_iload hC dX5_weight_8 5 rfl ?_
      refine r_aload_n hC dX5_weight_10 rfl 0 rfl ?_
      refine r_get hC hin5 0 rfl rfl 5 (by decide) rfl hw0 rfl dX5_weight_11 ?_
      refine r_icmp_ge (tgt := 63) hC dX5_weight_14 (by decide) (fun c4 => ?_) (fun c4 => ?_)
      · replace hf := o_pos hf c4
        refine r_iload_n hC dX5_weight_63 rfl 3 rfl ?_
        obtain rfl := so_1 hf
        exact hRet _ _ _ dX5_weight_64 rfl
      · replace hf := o_neg hf c4
        refine r_iload_n hC dX5_weight_17 rfl 3 rfl ?_
        refine r_aload_n hC dX5_weight_18 rfl 0 rfl ?_
        refine r_get hC hin5 0 rfl rfl 0 (by decide) rfl hw1 rfl dX5_weight_19 ?_
        refine r_aload_n hC dX5_weight_22 rfl 0 rfl ?_
        refine r_get hC hin5 0 rfl rfl 3 (by decide) rfl hw2 rfl dX5_weight_23 ?_
        refine r_iload hC dX5_weight_26 5 rfl ?_
        obtain ⟨g5, hf⟩ := og_some hf
        refine r_iald hC 3 rfl g5 dX5_weight_28 ?_
        obtain ⟨r6, h7, hf⟩ := ob_some hf
        refine r_vi (st := [.int x1]) hC (kX6_weightOf l D cy ad c6_bytes c6_sizes c6_weights (c5_stuffOf (Int32.toNatClampNeg x3)) h7) gX5_weight_X6_weightOf rfl ⟨rfl, rfl⟩ ydX6_weightOf ⟨Nat.le_of_ble_eq_true rfl, Nat.le_of_ble_eq_true rfl⟩ ⟨Nat.le_refl 0, Nat.le_refl 0⟩ 0 rfl rfl (v5 cy ad c5_legs c5_length c5_ways c5_units c5_stuffOf c5_point) [] rfl _ rfl (Nat.le_of_ble_eq_true rfl) dX5_weight_29 (w5 cy ad c5_legs c5_length c5_ways c5_units c5_stuffOf c5_point c6_bytes c6_sizes c6_weights) rfl ?_
        refine r_aload_n hC dX5_weight_32 rfl 0 rfl ?_
        refine r_iload hC dX5_weight_33 5 rfl ?_
        refine r_iload hC dX5_weight_35 4 rfl ?_
        refine r_iload_n hC dX5_weight_37 rfl 1 rfl ?_
        refine r_iload_n hC dX5_weight_38 rfl 2 rfl ?_
        obtain ⟨r8, h9, hf⟩ := ob_some hf
        refine r_vi (st := [.int r6, .int x1]) hC (kX5_unitsBetween l D cy ad c5_legs c5_length c5_ways c5_units c5_stuffOf c5_point c6_bytes c6_sizes c6_weights x3 x2 p1 p2 h9) gX5_weight_X5_unitsBetween rfl ⟨rfl, rfl⟩ ydX5_unitsBetween ⟨Nat.le_of_ble_eq_true rfl, Nat.le_of_ble_eq_true rfl⟩ ⟨Nat.le_refl 0, Nat.le_refl 0⟩ 0 rfl rfl [] [] rfl _ rfl (Nat.le_of_ble_eq_true rfl) dX5_weight_39 (w5 cy ad c5_legs c5_length c5_ways c5_units c5_stuffOf c5_point c6_bytes c6_sizes c6_weights) rfl ?_
        refine r_imul hC dX5_weight_42 ?_
        refine r_iadd hC dX5_weight_43 ?_
        refine r_topi (fun x10 ex10 => ?_)
        replace hf := olet_some hf ex10
        refine r_istore_n hC [(3, .int x10), (0, .ref (ad 50)), (1, .int p1), (2, .int p2), (4, .int x2), (5, .int x3)] dX5_weight_44 rfl (by decide) rfl ?_
        refine r_iload hC dX5_weight_45 4 rfl ?_
        refine r_aload_n hC dX5_weight_47 rfl 1 rfl ?_
        refine r_get hC hin5 0 rfl rfl 2 (by decide) rfl hw3 rfl dX5_weight_48 ?_
        refine r_iload hC dX5_weight_51 5 rfl ?_
        obtain ⟨g11, hf⟩ := og_some hf
        refine r_iald hC 2 rfl g11 dX5_weight_53 ?_
        refine r_iadd hC dX5_weight_54 ?_
        refine r_topi (fun x12 ex12 => ?_)
        replace hf := olet_some hf ex12
        refine r_istore hC [(4, .int x12), (3, .int x10), (0, .ref (ad 50)), (1, .int p1), (2, .int p2), (5, .int x3)] dX5_weight_55 (by decide) rfl ?_
        refine r_iinc hC [(5, .int (x3 + 1)), (4, .int x12), (3, .int x10), (0, .ref (ad 50)), (1, .int p1), (2, .int p2)] (x3 + 1) dX5_weight_57 5 rfl (ii_1 _) (by decide) rfl ?_
        refine r_goto (tgt := 8) hC dX5_weight_60 (by decide) ?_
        refine r_sub [(0, .ref (ad 50)), (1, .int p1), (2, .int p2), (3, .int x10), (4, .int x12), (5, .int (x3 + 1))] [3, 4, 5, 2, 1, 0] rfl ?_
        exact ih x10 x12 (x3 + 1) hf
  refine r_sub [(0, .ref (ad 50)), (1, .int p1), (2, .int p2), (3, .int 0), (4, .int 0), (5, .int 0)] [3, 4, 5, 2, 1, 0] rfl ?_
  exact L8 N 0 0 0 hf
noncomputable def fX5_legs (c5_legs : Int32) : Option (Int32) := some c5_legs
theorem ydX5_legs : yX5_legs.cls = RX5 ∧ yX5_legs.cls ≠ "java/lang/invoke/MethodHandle" ∧ yX5_legs.cls ≠ "java/lang/invoke/VarHandle" ∧ (parseMethodDescriptor yX5_legs.desc).map (fun d => d.parameters.length) = some 0 := by decide +kernel
set_option maxHeartbeats 8000000 in
set_option maxRecDepth 100000 in
theorem kX5_legs (l : Launch) (D : va_G) (cy : Nat → ClassId) (ad : Nat → Nat) (c5_legs : Int32) (c5_length : Int32) (c5_ways : Nat → Int32) (c5_units : Nat → Int32) (c5_stuffOf : Nat → Int32) (c5_point : Nat → Int32) (c6_bytes : Nat → Int32) (c6_sizes : Nat → Int32) (c6_weights : Nat → Int32) {ra : Int32} (hf : fX5_legs c5_legs = some ra) : CI l D cy yX5_legs wsX5_legs ({ frames := 0, cells := 0, slots := 0, locals := 0 } : Room) [.ref (ad 50)] (w5 cy ad c5_legs c5_length c5_ways c5_units c5_stuffOf c5_point c6_bytes c6_sizes c6_weights) ra (w5 cy ad c5_legs c5_length c5_ways c5_units c5_stuffOf c5_point c6_bytes c6_sizes c6_weights) := by
  unfold fX5_legs at hf
  refine c_of_i (ty := .int) (own := RX5) (by decide) rfl rfl (Nat.le_of_ble_eq_true rfl) (fun X hC hRet => ?_)
  refine r_sub [(0, .ref (ad 50))] [0] rfl ?_
  have hin5 : ∀ w ∈ wsX50, w ∈ wsX5_legs := fun w h => List.mem_cons_of_mem _ (List.mem_append_right _ h)
  have hw0 : Cond.fieldLink RX5 24 "HotPipes$Run" "legs" "I" ∈ wsX5_legs := List.mem_of_getElem? (i := 1) rfl
  refine r_aload_n hC dX5_legs_0 rfl 0 rfl ?_
  refine r_get hC hin5 0 rfl rfl 5 (by decide) rfl hw0 rfl dX5_legs_1 ?_
  obtain rfl := so_1 hf
  exact hRet _ _ _ dX5_legs_4 rfl
noncomputable def fX5_unitsOf (c5_units : Nat → Int32) (p1 : Int32) : Option (Int32) := og (vp_in p1 12) (some (c5_units (Int32.toNatClampNeg p1)))
theorem ydX5_unitsOf : yX5_unitsOf.cls = RX5 ∧ yX5_unitsOf.cls ≠ "java/lang/invoke/MethodHandle" ∧ yX5_unitsOf.cls ≠ "java/lang/invoke/VarHandle" ∧ (parseMethodDescriptor yX5_unitsOf.desc).map (fun d => d.parameters.length) = some 1 := by decide +kernel
set_option maxHeartbeats 8000000 in
set_option maxRecDepth 100000 in
theorem kX5_unitsOf (l : Launch) (D : va_G) (cy : Nat → ClassId) (ad : Nat → Nat) (c5_legs : Int32) (c5_length : Int32) (c5_ways : Nat → Int32) (c5_units : Nat → Int32) (c5_stuffOf : Nat → Int32) (c5_point : Nat → Int32) (c6_bytes : Nat → Int32) (c6_sizes : Nat → Int32) (c6_weights : Nat → Int32) (p1 : Int32) {ra : Int32} (hf : fX5_unitsOf c5_units p1 = some ra) : CI l D cy yX5_unitsOf wsX5_unitsOf ({ frames := 0, cells := 0, slots := 0, locals := 0 } : Room) [.ref (ad 50), .int p1] (w5 cy ad c5_legs c5_length c5_ways c5_units c5_stuffOf c5_point c6_bytes c6_sizes c6_weights) ra (w5 cy ad c5_legs c5_length c5_ways c5_units c5_stuffOf c5_point c6_bytes c6_sizes c6_weights) := by
  unfold fX5_unitsOf at hf
  refine c_of_i (ty := .int) (own := RX5) (by decide) rfl rfl (Nat.le_of_ble_eq_true rfl) (fun X hC hRet => ?_)
  refine r_sub [(0, .ref (ad 50)), (1, .int p1)] [0, 1] rfl ?_
  have hin5 : ∀ w ∈ wsX50, w ∈ wsX5_unitsOf := fun w h => List.mem_cons_of_mem _ (List.mem_append_right _ h)
  have hw0 : Cond.fieldLink RX5 15 "HotPipes$Run" "units" "[I" ∈ wsX5_unitsOf := List.mem_of_getElem? (i := 1) rfl
  refine r_aload_n hC dX5_unitsOf_0 rfl 0 rfl ?_
  refine r_get hC hin5 0 rfl rfl 2 (by decide) rfl hw0 rfl dX5_unitsOf_1 ?_
  refine r_iload_n hC dX5_unitsOf_4 rfl 1 rfl ?_
  obtain ⟨g1, hf⟩ := og_some hf
  refine r_iald hC 2 rfl g1 dX5_unitsOf_5 ?_
  obtain rfl := so_1 hf
  exact hRet _ _ _ dX5_unitsOf_6 rfl
noncomputable def fX5_isAcross (c5_ways : Nat → Int32) (p1 : Int32) (p2 : Int32) : Option (Int32) := ob (fX5_axisOf p2) (fun (r1 : Int32) => og (vp_in p1 12) (ob (fX5_axisOf (c5_ways (Int32.toNatClampNeg p1))) (fun (r4 : Int32) => (if r1 = r4 then some 0 else some 1))))
theorem ydX5_isAcross : yX5_isAcross.cls = RX5 ∧ yX5_isAcross.cls ≠ "java/lang/invoke/MethodHandle" ∧ yX5_isAcross.cls ≠ "java/lang/invoke/VarHandle" ∧ (parseMethodDescriptor yX5_isAcross.desc).map (fun d => d.parameters.length) = some 2 := by decide +kernel
set_option maxHeartbeats 8000000 in
set_option maxRecDepth 100000 in
theorem kX5_isAcross (l : Launch) (D : va_G) (cy : Nat → ClassId) (ad : Nat → Nat) (c5_legs : Int32) (c5_length : Int32) (c5_ways : Nat → Int32) (c5_units : Nat → Int32) (c5_stuffOf : Nat → Int32) (c5_point : Nat → Int32) (c6_bytes : Nat → Int32) (c6_sizes : Nat → Int32) (c6_weights : Nat → Int32) (p1 : Int32) (p2 : Int32) {ra : Int32} (hf : fX5_isAcross c5_ways p1 p2 = some ra) : CI l D cy yX5_isAcross wsX5_isAcross ({ frames := 1, cells := 0, slots := 0, locals := 20 } : Room) [.ref (ad 50), .int p1, .int p2] (w5 cy ad c5_legs c5_length c5_ways c5_units c5_stuffOf c5_point c6_bytes c6_sizes c6_weights) ra (w5 cy ad c5_legs c5_length c5_ways c5_units c5_stuffOf c5_point c6_bytes c6_sizes c6_weights) := by
  unfold fX5_isAcross at hf
  refine c_of_i (ty := .boolean) (own := RX5) (by decide) rfl rfl (Nat.le_of_ble_eq_true rfl) (fun X hC hRet => ?_)
  refine r_sub [(0, .ref (ad 50)), (1, .int p1), (2, .int p2)] [0, 1, 2] rfl ?_
  have hin5 : ∀ w ∈ wsX50, w ∈ wsX5_isAcross := fun w h => List.mem_cons_of_mem _ (List.mem_append_right _ h)
  have hw0 : Cond.fieldLink RX5 9 "HotPipes$Run" "ways" "[I" ∈ wsX5_isAcross := List.mem_of_getElem? (i := 1) rfl
  refine r_iload_n hC dX5_isAcross_0 rfl 2 rfl ?_
  obtain ⟨r1, h2, hf⟩ := ob_some hf
  refine r_si (st := []) hC (kX5_axisOf l D cy p2 h2) gX5_isAcross_X5_axisOf rfl ⟨rfl, rfl⟩ ydX5_axisOf ⟨Nat.le_of_ble_eq_true rfl, Nat.le_of_ble_eq_true rfl⟩ ⟨Nat.le_refl 0, Nat.le_refl 0⟩ _ rfl (Nat.le_of_ble_eq_true rfl) dX5_isAcross_1 ?_
  refine r_aload_n hC dX5_isAcross_4 rfl 0 rfl ?_
  refine r_get hC hin5 0 rfl rfl 1 (by decide) rfl hw0 rfl dX5_isAcross_5 ?_
  refine r_iload_n hC dX5_isAcross_8 rfl 1 rfl ?_
  obtain ⟨g3, hf⟩ := og_some hf
  refine r_iald hC 1 rfl g3 dX5_isAcross_9 ?_
  obtain ⟨r4, h5, hf⟩ := ob_some hf
  refine r_si (st := [.int r1]) hC (kX5_axisOf l D cy (c5_ways (Int32.toNatClampNeg p1)) h5) gX5_isAcross_X5_axisOf rfl ⟨rfl, rfl⟩ ydX5_axisOf ⟨Nat.le_of_ble_eq_true rfl, Nat.le_of_ble_eq_true rfl⟩ ⟨Nat.le_refl 0, Nat.le_refl 0⟩ _ rfl (Nat.le_of_ble_eq_true rfl) dX5_isAcross_10 ?_
  refine r_icmp_eq (tgt := 20) hC dX5_isAcross_13 (by decide) (fun c6 => ?_) (fun c6 => ?_)
  · replace hf := o_pos hf c6
    refine r_iconst hC dX5_isAcross_20 ic_0 ?_
    obtain rfl := so_1 hf
    exact hRet _ _ _ dX5_isAcross_21 nb_0
  · replace hf := o_neg hf c6
    refine r_iconst hC dX5_isAcross_16 ic_1 ?_
    refine r_goto (tgt := 21) hC dX5_isAcross_17 (by decide) ?_
    obtain rfl := so_1 hf
    exact hRet _ _ _ dX5_isAcross_21 nb_1
noncomputable def fX5_append (c5_legs : Int32) (c5_length : Int32) (c5_ways : Nat → Int32) (c5_units : Nat → Int32) (c5_stuffOf : Nat → Int32) (p1 : Int32) (p2 : Int32) (p3 : Int32) : Option (Int32 × Int32 × (Nat → Int32) × (Nat → Int32) × (Nat → Int32)) := og (vp_in c5_legs 12) (og (vp_in c5_legs 12) (og (vp_in c5_legs 12) (some ((c5_legs + 1), (c5_length + p2), (upd c5_ways (Int32.toNatClampNeg c5_legs) p1), (upd c5_units (Int32.toNatClampNeg c5_legs) p2), (upd c5_stuffOf (Int32.toNatClampNeg c5_legs) p3)))))
theorem ydX5_append : yX5_append.cls = RX5 ∧ yX5_append.cls ≠ "java/lang/invoke/MethodHandle" ∧ yX5_append.cls ≠ "java/lang/invoke/VarHandle" ∧ (parseMethodDescriptor yX5_append.desc).map (fun d => d.parameters.length) = some 3 := by decide +kernel
set_option maxHeartbeats 8000000 in
set_option maxRecDepth 100000 in
theorem kX5_append (l : Launch) (D : va_G) (cy : Nat → ClassId) (ad : Nat → Nat) (c5_legs : Int32) (c5_length : Int32) (c5_ways : Nat → Int32) (c5_units : Nat → Int32) (c5_stuffOf : Nat → Int32) (c5_point : Nat → Int32) (c6_bytes : Nat → Int32) (c6_sizes : Nat → Int32) (c6_weights : Nat → Int32) (p1 : Int32) (p2 : Int32) (p3 : Int32) {z5_legs : Int32} {z5_length : Int32} {z5_ways : Nat → Int32} {z5_units : Nat → Int32} {z5_stuffOf : Nat → Int32} (hf : fX5_append c5_legs c5_length c5_ways c5_units c5_stuffOf p1 p2 p3 = some (z5_legs, z5_length, z5_ways, z5_units, z5_stuffOf)) : CV l D cy yX5_append wsX5_append ({ frames := 0, cells := 0, slots := 0, locals := 0 } : Room) [.ref (ad 50), .int p1, .int p2, .int p3] (w5 cy ad c5_legs c5_length c5_ways c5_units c5_stuffOf c5_point c6_bytes c6_sizes c6_weights) (w5 cy ad z5_legs z5_length z5_ways z5_units z5_stuffOf c5_point c6_bytes c6_sizes c6_weights) := by
  unfold fX5_append at hf
  refine c_of_v (own := RX5) (by decide) rfl rfl (Nat.le_of_ble_eq_true rfl) (fun X hC hRet => ?_)
  refine r_sub [(0, .ref (ad 50)), (1, .int p1), (2, .int p2), (3, .int p3)] [0, 1, 2, 3] rfl ?_
  have hin5 : ∀ w ∈ wsX50, w ∈ wsX5_append := fun w h => List.mem_cons_of_mem _ (List.mem_append_right _ h)
  have hw0 : Cond.fieldLink RX5 9 "HotPipes$Run" "ways" "[I" ∈ wsX5_append := List.mem_of_getElem? (i := 1) rfl
  have hw1 : Cond.fieldLink RX5 24 "HotPipes$Run" "legs" "I" ∈ wsX5_append := List.mem_of_getElem? (i := 2) rfl
  have hw2 : Cond.fieldLink RX5 15 "HotPipes$Run" "units" "[I" ∈ wsX5_append := List.mem_of_getElem? (i := 3) rfl
  have hw3 : Cond.fieldLink RX5 18 "HotPipes$Run" "stuffOf" "[I" ∈ wsX5_append := List.mem_of_getElem? (i := 4) rfl
  have hw4 : Cond.fieldLink RX5 28 "HotPipes$Run" "length" "I" ∈ wsX5_append := List.mem_of_getElem? (i := 5) rfl
  refine r_aload_n hC dX5_append_0 rfl 0 rfl ?_
  refine r_get hC hin5 0 rfl rfl 1 (by decide) rfl hw0 rfl dX5_append_1 ?_
  refine r_aload_n hC dX5_append_4 rfl 0 rfl ?_
  refine r_get hC hin5 0 rfl rfl 5 (by decide) rfl hw1 rfl dX5_append_5 ?_
  refine r_iload_n hC dX5_append_8 rfl 1 rfl ?_
  obtain ⟨g1, hf⟩ := og_some hf
  refine r_iast hC 1 rfl g1 dX5_append_9 (w5 cy ad c5_legs c5_length (upd c5_ways (Int32.toNatClampNeg c5_legs) p1) c5_units c5_stuffOf c5_point c6_bytes c6_sizes c6_weights) rfl ?_
  refine r_aload_n hC dX5_append_10 rfl 0 rfl ?_
  refine r_get hC hin5 0 rfl rfl 2 (by decide) rfl hw2 rfl dX5_append_11 ?_
  refine r_aload_n hC dX5_append_14 rfl 0 rfl ?_
  refine r_get hC hin5 0 rfl rfl 5 (by decide) rfl hw1 rfl dX5_append_15 ?_
  refine r_iload_n hC dX5_append_18 rfl 2 rfl ?_
  obtain ⟨g2, hf⟩ := og_some hf
  refine r_iast hC 2 rfl g2 dX5_append_19 (w5 cy ad c5_legs c5_length (upd c5_ways (Int32.toNatClampNeg c5_legs) p1) (upd c5_units (Int32.toNatClampNeg c5_legs) p2) c5_stuffOf c5_point c6_bytes c6_sizes c6_weights) rfl ?_
  refine r_aload_n hC dX5_append_20 rfl 0 rfl ?_
  refine r_get hC hin5 0 rfl rfl 3 (by decide) rfl hw3 rfl dX5_append_21 ?_
  refine r_aload_n hC dX5_append_24 rfl 0 rfl ?_
  refine r_get hC hin5 0 rfl rfl 5 (by decide) rfl hw1 rfl dX5_append_25 ?_
  refine r_iload_n hC dX5_append_28 rfl 3 rfl ?_
  obtain ⟨g3, hf⟩ := og_some hf
  refine r_iast hC 3 rfl g3 dX5_append_29 (w5 cy ad c5_legs c5_length (upd c5_ways (Int32.toNatClampNeg c5_legs) p1) (upd c5_units (Int32.toNatClampNeg c5_legs) p2) (upd c5_stuffOf (Int32.toNatClampNeg c5_legs) p3) c5_point c6_bytes c6_sizes c6_weights) rfl ?_
  refine r_aload_n hC dX5_append_30 rfl 0 rfl ?_
  refine r_dup hC dX5_append_31 rfl ?_
  refine r_get hC hin5 0 rfl rfl 5 (by decide) rfl hw1 rfl dX5_append_32 ?_
  refine r_iconst hC dX5_append_35 ic_1 ?_
  refine r_iadd hC dX5_append_36 ?_
  refine r_put (ty := .int) hC hin5 tyX5_ok nmX5 0 rfl rfl 5 (by decide) rfl hw1 rfl rfl rfl rfl (Nat.le_of_ble_eq_true rfl) dX5_append_37 (w5 cy ad (c5_legs + 1) c5_length (upd c5_ways (Int32.toNatClampNeg c5_legs) p1) (upd c5_units (Int32.toNatClampNeg c5_legs) p2) (upd c5_stuffOf (Int32.toNatClampNeg c5_legs) p3) c5_point c6_bytes c6_sizes c6_weights) rfl ?_
  refine r_aload_n hC dX5_append_40 rfl 0 rfl ?_
  refine r_dup hC dX5_append_41 rfl ?_
  refine r_get hC hin5 0 rfl rfl 6 (by decide) rfl hw4 rfl dX5_append_42 ?_
  refine r_iload_n hC dX5_append_45 rfl 2 rfl ?_
  refine r_iadd hC dX5_append_46 ?_
  refine r_put (ty := .int) hC hin5 tyX5_ok nmX5 0 rfl rfl 6 (by decide) rfl hw4 rfl rfl rfl rfl (Nat.le_of_ble_eq_true rfl) dX5_append_47 (w5 cy ad (c5_legs + 1) (c5_length + p2) (upd c5_ways (Int32.toNatClampNeg c5_legs) p1) (upd c5_units (Int32.toNatClampNeg c5_legs) p2) (upd c5_stuffOf (Int32.toNatClampNeg c5_legs) p3) c5_point c6_bytes c6_sizes c6_weights) rfl ?_
  obtain ⟨rfl, rfl, rfl, rfl, rfl⟩ := so_5 hf
  exact hRet _ _ _ dX5_append_50
noncomputable def fX5_removeLast (c5_legs : Int32) (c5_length : Int32) (c5_units : Nat → Int32) : Option (Int32 × Int32) := og (vp_in (c5_legs - 1) 12) (some ((c5_legs - 1), (c5_length - (c5_units (Int32.toNatClampNeg (c5_legs - 1))))))
theorem ydX5_removeLast : yX5_removeLast.cls = RX5 ∧ yX5_removeLast.cls ≠ "java/lang/invoke/MethodHandle" ∧ yX5_removeLast.cls ≠ "java/lang/invoke/VarHandle" ∧ (parseMethodDescriptor yX5_removeLast.desc).map (fun d => d.parameters.length) = some 0 := by decide +kernel
set_option maxHeartbeats 8000000 in
set_option maxRecDepth 100000 in
theorem kX5_removeLast (l : Launch) (D : va_G) (cy : Nat → ClassId) (ad : Nat → Nat) (c5_legs : Int32) (c5_length : Int32) (c5_ways : Nat → Int32) (c5_units : Nat → Int32) (c5_stuffOf : Nat → Int32) (c5_point : Nat → Int32) (c6_bytes : Nat → Int32) (c6_sizes : Nat → Int32) (c6_weights : Nat → Int32) {z5_legs : Int32} {z5_length : Int32} (hf : fX5_removeLast c5_legs c5_length c5_units = some (z5_legs, z5_length)) : CV l D cy yX5_removeLast wsX5_removeLast ({ frames := 0, cells := 0, slots := 0, locals := 0 } : Room) [.ref (ad 50)] (w5 cy ad c5_legs c5_length c5_ways c5_units c5_stuffOf c5_point c6_bytes c6_sizes c6_weights) (w5 cy ad z5_legs z5_length c5_ways c5_units c5_stuffOf c5_point c6_bytes c6_sizes c6_weights) := by
  unfold fX5_removeLast at hf
  refine c_of_v (own := RX5) (by decide) rfl rfl (Nat.le_of_ble_eq_true rfl) (fun X hC hRet => ?_)
  refine r_sub [(0, .ref (ad 50))] [0] rfl ?_
  have hin5 : ∀ w ∈ wsX50, w ∈ wsX5_removeLast := fun w h => List.mem_cons_of_mem _ (List.mem_append_right _ h)
  have hw0 : Cond.fieldLink RX5 24 "HotPipes$Run" "legs" "I" ∈ wsX5_removeLast := List.mem_of_getElem? (i := 1) rfl
  have hw1 : Cond.fieldLink RX5 28 "HotPipes$Run" "length" "I" ∈ wsX5_removeLast := List.mem_of_getElem? (i := 2) rfl
  have hw2 : Cond.fieldLink RX5 15 "HotPipes$Run" "units" "[I" ∈ wsX5_removeLast := List.mem_of_getElem? (i := 3) rfl
  refine r_aload_n hC dX5_removeLast_0 rfl 0 rfl ?_
  refine r_dup hC dX5_removeLast_1 rfl ?_
  refine r_get hC hin5 0 rfl rfl 5 (by decide) rfl hw0 rfl dX5_removeLast_2 ?_
  refine r_iconst hC dX5_removeLast_5 ic_1 ?_
  refine r_isub hC dX5_removeLast_6 ?_
  refine r_put (ty := .int) hC hin5 tyX5_ok nmX5 0 rfl rfl 5 (by decide) rfl hw0 rfl rfl rfl rfl (Nat.le_of_ble_eq_true rfl) dX5_removeLast_7 (w5 cy ad (c5_legs - 1) c5_length c5_ways c5_units c5_stuffOf c5_point c6_bytes c6_sizes c6_weights) rfl ?_
  refine r_aload_n hC dX5_removeLast_10 rfl 0 rfl ?_
  refine r_dup hC dX5_removeLast_11 rfl ?_
  refine r_get hC hin5 0 rfl rfl 6 (by decide) rfl hw1 rfl dX5_removeLast_12 ?_
  refine r_aload_n hC dX5_removeLast_15 rfl 0 rfl ?_
  refine r_get hC hin5 0 rfl rfl 2 (by decide) rfl hw2 rfl dX5_removeLast_16 ?_
  refine r_aload_n hC dX5_removeLast_19 rfl 0 rfl ?_
  refine r_get hC hin5 0 rfl rfl 5 (by decide) rfl hw0 rfl dX5_removeLast_20 ?_
  obtain ⟨g1, hf⟩ := og_some hf
  refine r_iald hC 2 rfl g1 dX5_removeLast_23 ?_
  refine r_isub hC dX5_removeLast_24 ?_
  refine r_put (ty := .int) hC hin5 tyX5_ok nmX5 0 rfl rfl 6 (by decide) rfl hw1 rfl rfl rfl rfl (Nat.le_of_ble_eq_true rfl) dX5_removeLast_25 (w5 cy ad (c5_legs - 1) (c5_length - (c5_units (Int32.toNatClampNeg (c5_legs - 1)))) c5_ways c5_units c5_stuffOf c5_point c6_bytes c6_sizes c6_weights) rfl ?_
  obtain ⟨rfl, rfl⟩ := so_2 hf
  exact hRet _ _ _ dX5_removeLast_28
noncomputable def fX5_position_L8 (c5_legs : Int32) (c5_ways : Nat → Int32) (c5_units : Nat → Int32) (p1 : Int32) (p2 : Int32) : Nat → Int32 → Int32 → Int32 → Option (Int32)
  | 0, _, _, _ => none
  | n + 1, x1, x2, x3 => (if c5_legs ≤ x3 then some x1 else og (vp_in x3 12) (ob (fX5_axisOf (c5_ways (Int32.toNatClampNeg x3))) (fun (r6 : Int32) => ob ((if r6 = p2 then og (vp_in x3 12) (ob (fX5_signOf (c5_ways (Int32.toNatClampNeg x3))) (fun (r15 : Int32) => ob (fX5_unitsBetween c5_units x3 x2 0 p1) (fun (r17 : Int32) => olet (x1 + (r15 * r17)) (fun (x19 : Int32) => some x19)))) else some x1)) (fun (x8 : Int32) => og (vp_in x3 12) (olet (x2 + (c5_units (Int32.toNatClampNeg x3))) (fun (x10 : Int32) => fX5_position_L8 c5_legs c5_ways c5_units p1 p2 n x8 x10 (x3 + 1)))))))
noncomputable def fX5_position (N : Nat) (c5_legs : Int32) (c5_ways : Nat → Int32) (c5_units : Nat → Int32) (p1 : Int32) (p2 : Int32) : Option (Int32) := fX5_position_L8 c5_legs c5_ways c5_units p1 p2 N 0 0 0
theorem ydX5_position : yX5_position.cls = RX5 ∧ yX5_position.cls ≠ "java/lang/invoke/MethodHandle" ∧ yX5_position.cls ≠ "java/lang/invoke/VarHandle" ∧ (parseMethodDescriptor yX5_position.desc).map (fun d => d.parameters.length) = some 2 := by decide +kernel
set_option maxHeartbeats 8000000 in
set_option maxRecDepth 100000 in
theorem kX5_position (l : Launch) (D : va_G) (cy : Nat → ClassId) (ad : Nat → Nat) (c5_legs : Int32) (c5_length : Int32) (c5_ways : Nat → Int32) (c5_units : Nat → Int32) (c5_stuffOf : Nat → Int32) (c5_point : Nat → Int32) (c6_bytes : Nat → Int32) (c6_sizes : Nat → Int32) (c6_weights : Nat → Int32) (p1 : Int32) (p2 : Int32) (N : Nat) {ra : Int32} (hf : fX5_position N c5_legs c5_ways c5_units p1 p2 = some ra) : CI l D cy yX5_position wsX5_position ({ frames := 2, cells := 0, slots := 0, locals := 45 } : Room) [.ref (ad 50), .int p1, .int p2] (w5 cy ad c5_legs c5_length c5_ways c5_units c5_stuffOf c5_point c6_bytes c6_sizes c6_weights) ra (w5 cy ad c5_legs c5_length c5_ways c5_units c5_stuffOf c5_point c6_bytes c6_sizes c6_weights) := by
  unfold fX5_position at hf
  refine c_of_i (ty := .int) (own := RX5) (by decide) rfl rfl (Nat.le_of_ble_eq_true rfl) (fun X hC hRet => ?_)
  refine r_sub [(0, .ref (ad 50)), (1, .int p1), (2, .int p2)] [0, 1, 2] rfl ?_
  have hin5 : ∀ w ∈ wsX50, w ∈ wsX5_position := fun w h => List.mem_cons_of_mem _ (List.mem_append_right _ h)
  have hw0 : Cond.fieldLink RX5 24 "HotPipes$Run" "legs" "I" ∈ wsX5_position := List.mem_of_getElem? (i := 1) rfl
  have hw1 : Cond.fieldLink RX5 9 "HotPipes$Run" "ways" "[I" ∈ wsX5_position := List.mem_of_getElem? (i := 2) rfl
  have hw2 : Cond.fieldLink RX5 15 "HotPipes$Run" "units" "[I" ∈ wsX5_position := List.mem_of_getElem? (i := 3) rfl
  refine r_iconst hC dX5_position_0 ic_0 ?_
  refine r_istore_n hC [(3, .int 0), (0, .ref (ad 50)), (1, .int p1), (2, .int p2)] dX5_position_1 rfl (by decide) rfl ?_
  refine r_iconst hC dX5_position_2 ic_0 ?_
  refine r_istore hC [(4, .int 0), (3, .int 0), (0, .ref (ad 50)), (1, .int p1), (2, .int p2)] dX5_position_3 (by decide) rfl ?_
  refine r_iconst hC dX5_position_5 ic_0 ?_
  refine r_istore hC [(5, .int 0), (4, .int 0), (3, .int 0), (0, .ref (ad 50)), (1, .int p1), (2, .int p2)] dX5_position_6 (by decide) rfl ?_
  have L8 : ∀ (n : Nat) (x1 : Int32) (x2 : Int32) (x3 : Int32), fX5_position_L8 c5_legs c5_ways c5_units p1 p2 n x1 x2 x3 = some ra → GG X 6 0 0 (w5 cy ad c5_legs c5_length c5_ways c5_units c5_stuffOf c5_point c6_bytes c6_sizes c6_weights) [(0, .ref (ad 50)), (1, .int p1), (2, .int p2), (3, .int x1), (4, .int x2), (5, .int x3)] 8 [] := by
    intro n
    induction n with
    | zero => intro x1 x2 x3 hf; cases (show none = some _ from hf)
    | succ n ih =>
      intro x1 x2 x3 hf
      rw [fX5_position_L8] at hf
      refine r_iload hC dX5_position_8 5 rfl ?_
      refine r_aload_n hC dX5_position_10 rfl 0 rfl ?_
      refine r_get hC hin5 0 rfl rfl 5 (by decide) rfl hw0 rfl dX5_position_11 ?_
      refine r_icmp_ge (tgt := 73) hC dX5_position_14 (by decide) (fun c4 => ?_) (fun c4 => ?_)
      · replace hf := o_pos hf c4
        refine r_iload_n hC dX5_position_73 rfl 3 rfl ?_
        obtain rfl := so_1 hf
        exact hRet _ _ _ dX5_position_74 rfl
      · replace hf := o_neg hf c4
        refine r_aload_n hC dX5_position_17 rfl 0 rfl ?_
        refine r_get hC hin5 0 rfl rfl 1 (by decide) rfl hw1 rfl dX5_position_18 ?_
        refine r_iload hC dX5_position_21 5 rfl ?_
        obtain ⟨g5, hf⟩ := og_some hf
        refine r_iald hC 1 rfl g5 dX5_position_23 ?_
        obtain ⟨r6, h7, hf⟩ := ob_some hf
        refine r_si (st := []) hC (kX5_axisOf l D cy (c5_ways (Int32.toNatClampNeg x3)) h7) gX5_position_X5_axisOf rfl ⟨rfl, rfl⟩ ydX5_axisOf ⟨Nat.le_of_ble_eq_true rfl, Nat.le_of_ble_eq_true rfl⟩ ⟨Nat.le_refl 0, Nat.le_refl 0⟩ _ rfl (Nat.le_of_ble_eq_true rfl) dX5_position_24 ?_
        refine r_iload_n hC dX5_position_27 rfl 2 rfl ?_
        obtain ⟨x8, h12, hf⟩ := ob_some hf
        have J55_11 : GG X 6 0 0 (w5 cy ad c5_legs c5_length c5_ways c5_units c5_stuffOf c5_point c6_bytes c6_sizes c6_weights) [(0, .ref (ad 50)), (1, .int p1), (2, .int p2), (3, .int x8), (4, .int x2), (5, .int x3)] 55 [] := by
          refine r_iload hC dX5_position_55 4 rfl ?_
          refine r_aload_n hC dX5_position_57 rfl 0 rfl ?_
          refine r_get hC hin5 0 rfl rfl 2 (by decide) rfl hw2 rfl dX5_position_58 ?_
          refine r_iload hC dX5_position_61 5 rfl ?_
          obtain ⟨g9, hf⟩ := og_some hf
          refine r_iald hC 2 rfl g9 dX5_position_63 ?_
          refine r_iadd hC dX5_position_64 ?_
          refine r_topi (fun x10 ex10 => ?_)
          replace hf := olet_some hf ex10
          refine r_istore hC [(4, .int x10), (0, .ref (ad 50)), (1, .int p1), (2, .int p2), (3, .int x8), (5, .int x3)] dX5_position_65 (by decide) rfl ?_
          refine r_iinc hC [(5, .int (x3 + 1)), (4, .int x10), (0, .ref (ad 50)), (1, .int p1), (2, .int p2), (3, .int x8)] (x3 + 1) dX5_position_67 5 rfl (ii_1 _) (by decide) rfl ?_
          refine r_goto (tgt := 8) hC dX5_position_70 (by decide) ?_
          refine r_sub [(0, .ref (ad 50)), (1, .int p1), (2, .int p2), (3, .int x8), (4, .int x10), (5, .int (x3 + 1))] [2, 3, 4, 5, 1, 0] rfl ?_
          exact ih x8 x10 (x3 + 1) hf
        replace hf := h12
        refine r_icmp_ne (tgt := 55) hC dX5_position_28 (by decide) (fun c13 => ?_) (fun c13 => ?_)
        · replace hf := o_neg hf c13
          obtain rfl := so_1 hf
          exact J55_11
        · replace hf := o_pos hf c13
          refine r_iload_n hC dX5_position_31 rfl 3 rfl ?_
          refine r_aload_n hC dX5_position_32 rfl 0 rfl ?_
          refine r_get hC hin5 0 rfl rfl 1 (by decide) rfl hw1 rfl dX5_position_33 ?_
          refine r_iload hC dX5_position_36 5 rfl ?_
          obtain ⟨g14, hf⟩ := og_some hf
          refine r_iald hC 1 rfl g14 dX5_position_38 ?_
          obtain ⟨r15, h16, hf⟩ := ob_some hf
          refine r_si (st := [.int x1]) hC (kX5_signOf l D cy (c5_ways (Int32.toNatClampNeg x3)) h16) gX5_position_X5_signOf rfl ⟨rfl, rfl⟩ ydX5_signOf ⟨Nat.le_of_ble_eq_true rfl, Nat.le_of_ble_eq_true rfl⟩ ⟨Nat.le_refl 0, Nat.le_refl 0⟩ _ rfl (Nat.le_of_ble_eq_true rfl) dX5_position_39 ?_
          refine r_aload_n hC dX5_position_42 rfl 0 rfl ?_
          refine r_iload hC dX5_position_43 5 rfl ?_
          refine r_iload hC dX5_position_45 4 rfl ?_
          refine r_iconst hC dX5_position_47 ic_0 ?_
          refine r_iload_n hC dX5_position_48 rfl 1 rfl ?_
          obtain ⟨r17, h18, hf⟩ := ob_some hf
          refine r_vi (st := [.int r15, .int x1]) hC (kX5_unitsBetween l D cy ad c5_legs c5_length c5_ways c5_units c5_stuffOf c5_point c6_bytes c6_sizes c6_weights x3 x2 0 p1 h18) gX5_position_X5_unitsBetween rfl ⟨rfl, rfl⟩ ydX5_unitsBetween ⟨Nat.le_of_ble_eq_true rfl, Nat.le_of_ble_eq_true rfl⟩ ⟨Nat.le_refl 0, Nat.le_refl 0⟩ 0 rfl rfl [] [] rfl _ rfl (Nat.le_of_ble_eq_true rfl) dX5_position_49 (w5 cy ad c5_legs c5_length c5_ways c5_units c5_stuffOf c5_point c6_bytes c6_sizes c6_weights) rfl ?_
          refine r_imul hC dX5_position_52 ?_
          refine r_iadd hC dX5_position_53 ?_
          refine r_topi (fun x19 ex19 => ?_)
          replace hf := olet_some hf ex19
          refine r_istore_n hC [(3, .int x19), (0, .ref (ad 50)), (1, .int p1), (2, .int p2), (4, .int x2), (5, .int x3)] dX5_position_54 rfl (by decide) rfl ?_
          obtain rfl := so_1 hf
          refine r_sub [(0, .ref (ad 50)), (1, .int p1), (2, .int p2), (3, .int x19), (4, .int x2), (5, .int x3)] [1, 2, 3, 0, 4, 5] rfl ?_
          exact J55_11
  refine r_sub [(0, .ref (ad 50)), (1, .int p1), (2, .int p2), (3, .int 0), (4, .int 0), (5, .int 0)] [3, 4, 5, 2, 1, 0] rfl ?_
  exact L8 N 0 0 0 hf
noncomputable def fX5_root_L6 (p1 : Int64) : Nat → Int64 → Int32 → Option (Int32)
  | 0, _, _ => none
  | n + 1, x1, x2 => (if x2 < 0 then some (Int64.toInt32 x1) else olet (x1 + (1 <<< (Int32.toInt64 x2 &&& 63))) (fun (x4 : Int64) => ob ((if 0 < (lg_cmp (x4 * x4) p1) then some x1 else some x4)) (fun (x5 : Int64) => fX5_root_L6 p1 n x5 (x2 + (-1)))))
noncomputable def fX5_root (N : Nat) (p1 : Int64) : Option (Int32) := fX5_root_L6 p1 N 0 30
theorem ydX5_root : yX5_root.cls ≠ "java/lang/invoke/MethodHandle" ∧ yX5_root.cls ≠ "java/lang/invoke/VarHandle" ∧ (parseMethodDescriptor yX5_root.desc).map (fun d => d.parameters.length) = some 1 := by decide +kernel
set_option maxHeartbeats 8000000 in
set_option maxRecDepth 100000 in
theorem kX5_root (l : Launch) (D : va_G) (cy : Nat → ClassId) (p1 : Int64) (N : Nat) {ra : Int32} (hf : fX5_root N p1 = some ra) : CI l D cy yX5_root wsX5_root ({ frames := 0, cells := 0, slots := 0, locals := 0 } : Room) [.long p1] [] ra [] := by
  unfold fX5_root at hf
  refine c_of_i (ty := .int) (own := RX5) (by decide) rfl rfl (Nat.le_of_ble_eq_true rfl) (fun X hC hRet => ?_)
  refine r_sub [(0, .long p1)] [0] rfl ?_
  refine r_lconst hC dX5_root_0 lc_0 ?_
  refine r_lstore_n hC [(2, .long 0), (0, .long p1)] dX5_root_1 rfl (by decide) rfl ?_
  refine r_bipush hC dX5_root_2 bp_30 ?_
  refine r_istore hC [(4, .int 30), (2, .long 0), (0, .long p1)] dX5_root_4 (by decide) rfl ?_
  have L6 : ∀ (n : Nat) (x1 : Int64) (x2 : Int32), fX5_root_L6 p1 n x1 x2 = some ra → GG X 7 0 0 [] [(0, .long p1), (2, .long x1), (4, .int x2)] 6 [] := by
    intro n
    induction n with
    | zero => intro x1 x2 hf; cases (show none = some _ from hf)
    | succ n ih =>
      intro x1 x2 hf
      rw [fX5_root_L6] at hf
      refine r_iload hC dX5_root_6 2 rfl ?_
      refine r_if_lt (tgt := 38) hC dX5_root_8 (by decide) (fun c3 => ?_) (fun c3 => ?_)
      · replace hf := o_pos hf c3
        refine r_lload_n hC dX5_root_38 rfl 1 rfl ?_
        refine r_l2i hC dX5_root_39 ?_
        obtain rfl := so_1 hf
        exact hRet _ _ _ dX5_root_40 rfl
      · replace hf := o_neg hf c3
        refine r_lload_n hC dX5_root_11 rfl 1 rfl ?_
        refine r_lconst hC dX5_root_12 lc_1 ?_
        refine r_iload hC dX5_root_13 2 rfl ?_
        refine r_lshl hC dX5_root_15 ?_
        refine r_ladd hC dX5_root_16 ?_
        refine r_topl (fun x4 ex4 => ?_)
        replace hf := olet_some hf ex4
        refine r_lstore hC [(5, .long x4), (0, .long p1), (2, .long x1), (4, .int x2)] dX5_root_17 (by decide) rfl ?_
        refine r_lload hC dX5_root_19 0 rfl ?_
        refine r_lload hC dX5_root_21 0 rfl ?_
        refine r_lmul hC dX5_root_23 ?_
        refine r_lload_n hC dX5_root_24 rfl 1 rfl ?_
        refine r_lcmp hC dX5_root_25 ?_
        obtain ⟨x5, h7, hf⟩ := ob_some hf
        have J32_6 : GG X 7 0 0 [] [(0, .long p1), (2, .long x5), (4, .int x2)] 32 [] := by
          refine r_iinc hC [(4, .int (x2 + (-1))), (0, .long p1), (2, .long x5)] (x2 + (-1)) dX5_root_32 2 rfl (ii_m1 _) (by decide) rfl ?_
          refine r_goto (tgt := 6) hC dX5_root_35 (by decide) ?_
          refine r_sub [(0, .long p1), (2, .long x5), (4, .int (x2 + (-1)))] [1, 2, 0] rfl ?_
          exact ih x5 (x2 + (-1)) hf
        replace hf := h7
        refine r_if_gt (tgt := 32) hC dX5_root_26 (by decide) (fun c8 => ?_) (fun c8 => ?_)
        · replace hf := o_pos hf c8
          obtain rfl := so_1 hf
          refine r_sub [(0, .long p1), (2, .long x1), (4, .int x2)] [1, 2, 3] rfl ?_
          exact J32_6
        · replace hf := o_neg hf c8
          refine r_lload hC dX5_root_29 0 rfl ?_
          refine r_lstore_n hC [(2, .long x4), (5, .long x4), (0, .long p1), (4, .int x2)] dX5_root_31 rfl (by decide) rfl ?_
          obtain rfl := so_1 hf
          refine r_sub [(0, .long p1), (2, .long x4), (4, .int x2)] [2, 0, 3] rfl ?_
          exact J32_6
  refine r_sub [(0, .long p1), (2, .long 0), (4, .int 30)] [2, 1, 0] rfl ?_
  exact L6 N 0 30 hf
noncomputable def fX5_spare_L9 (N : Nat) (c5_legs : Int32) (c5_length : Int32) (c5_ways : Nat → Int32) (c5_units : Nat → Int32) (c5_stuffOf : Nat → Int32) (c6_bytes : Nat → Int32) (c6_sizes : Nat → Int32) (p1 : Int32) (K68_3 : Int64 → Int64 → Option (Int32)) : Nat → Int64 → Int64 → Int32 → Option (Int32)
  | 0, _, _, _ => none
  | n + 1, x9, x10, x11 => (if 3 ≤ x11 then K68_3 x9 x10 else ob (fX5_growth N c5_legs c5_ways c5_units c5_stuffOf c6_bytes c6_sizes c5_length p1 x11) (fun (r13 : Int32) => olet (Int32.toInt64 r13) (fun (x15 : Int64) => ob (fX5_position N c5_legs c5_ways c5_units c5_length x11) (fun (r16 : Int32) => olet (Int32.toInt64 r16) (fun (x18 : Int64) => olet (x9 + (x15 * x15)) (fun (x19 : Int64) => olet (x10 + (x18 * x18)) (fun (x20 : Int64) => fX5_spare_L9 N c5_legs c5_length c5_ways c5_units c5_stuffOf c6_bytes c6_sizes p1 K68_3 n x19 x20 (x11 + 1))))))))
noncomputable def fX5_spare (N : Nat) (c5_legs : Int32) (c5_length : Int32) (c5_ways : Nat → Int32) (c5_units : Nat → Int32) (c5_stuffOf : Nat → Int32) (c6_bytes : Nat → Int32) (c6_sizes : Nat → Int32) (p1 : Int32) (p2 : Int32) (p3 : Int32) : Option (Int32) := oj (fun (x1 : Int64) (x2 : Int64) => ob (fX5_root N x2) (fun (r4 : Int32) => olet ((c5_length + p3) - r4) (fun (x6 : Int32) => ob (fX5_root N x1) (fun (r7 : Int32) => some (((30 * x6) * x6) - (p2 * r7)))))) (fun (K68_3 : Int64 → Int64 → Option (Int32)) => fX5_spare_L9 N c5_legs c5_length c5_ways c5_units c5_stuffOf c6_bytes c6_sizes p1 K68_3 N 0 0 0)
theorem ydX5_spare : yX5_spare.cls = RX5 ∧ yX5_spare.cls ≠ "java/lang/invoke/MethodHandle" ∧ yX5_spare.cls ≠ "java/lang/invoke/VarHandle" ∧ (parseMethodDescriptor yX5_spare.desc).map (fun d => d.parameters.length) = some 3 := by decide +kernel
set_option maxHeartbeats 8000000 in
set_option maxRecDepth 100000 in
theorem kX5_spare (l : Launch) (D : va_G) (cy : Nat → ClassId) (ad : Nat → Nat) (c5_legs : Int32) (c5_length : Int32) (c5_ways : Nat → Int32) (c5_units : Nat → Int32) (c5_stuffOf : Nat → Int32) (c5_point : Nat → Int32) (c6_bytes : Nat → Int32) (c6_sizes : Nat → Int32) (c6_weights : Nat → Int32) (p1 : Int32) (p2 : Int32) (p3 : Int32) (N : Nat) {ra : Int32} (hf : fX5_spare N c5_legs c5_length c5_ways c5_units c5_stuffOf c6_bytes c6_sizes p1 p2 p3 = some ra) : CI l D cy yX5_spare wsX5_spare ({ frames := 3, cells := 0, slots := 0, locals := 72 } : Room) [.ref (ad 50), .int p1, .int p2, .int p3] (w5 cy ad c5_legs c5_length c5_ways c5_units c5_stuffOf c5_point c6_bytes c6_sizes c6_weights) ra (w5 cy ad c5_legs c5_length c5_ways c5_units c5_stuffOf c5_point c6_bytes c6_sizes c6_weights) := by
  unfold fX5_spare at hf
  refine c_of_i (ty := .int) (own := RX5) (by decide) rfl rfl (Nat.le_of_ble_eq_true rfl) (fun X hC hRet => ?_)
  refine r_sub [(0, .ref (ad 50)), (1, .int p1), (2, .int p2), (3, .int p3)] [0, 1, 2, 3] rfl ?_
  have hin5 : ∀ w ∈ wsX50, w ∈ wsX5_spare := fun w h => List.mem_cons_of_mem _ (List.mem_append_left _ (List.mem_append_right _ h))
  have hw0 : Cond.fieldLink RX5 28 "HotPipes$Run" "length" "I" ∈ wsX5_spare := List.mem_of_getElem? (i := 1) rfl
  refine r_lconst hC dX5_spare_0 lc_0 ?_
  refine r_lstore hC [(4, .long 0), (0, .ref (ad 50)), (1, .int p1), (2, .int p2), (3, .int p3)] dX5_spare_1 (by decide) rfl ?_
  refine r_lconst hC dX5_spare_3 lc_0 ?_
  refine r_lstore hC [(6, .long 0), (4, .long 0), (0, .ref (ad 50)), (1, .int p1), (2, .int p2), (3, .int p3)] dX5_spare_4 (by decide) rfl ?_
  refine r_iconst hC dX5_spare_6 ic_0 ?_
  refine r_istore hC [(8, .int 0), (6, .long 0), (4, .long 0), (0, .ref (ad 50)), (1, .int p1), (2, .int p2), (3, .int p3)] dX5_spare_7 (by decide) rfl ?_
  obtain ⟨K68_3, eK68_3, hf⟩ := oj_some hf
  have J68_3 : ∀ (x1 : Int64) (x2 : Int64), K68_3 x1 x2 = some ra → GG X 13 0 0 (w5 cy ad c5_legs c5_length c5_ways c5_units c5_stuffOf c5_point c6_bytes c6_sizes c6_weights) [(0, .ref (ad 50)), (2, .int p2), (3, .int p3), (4, .long x1), (6, .long x2)] 68 [] := by
    intro x1 x2 hf
    replace hf := oa2 eK68_3 hf
    refine r_aload_n hC dX5_spare_68 rfl 0 rfl ?_
    refine r_get hC hin5 0 rfl rfl 6 (by decide) rfl hw0 rfl dX5_spare_69 ?_
    refine r_iload_n hC dX5_spare_72 rfl 2 rfl ?_
    refine r_iadd hC dX5_spare_73 ?_
    refine r_lload hC dX5_spare_74 4 rfl ?_
    obtain ⟨r4, h5, hf⟩ := ob_some hf
    refine r_si (st := [.int (c5_length + p3)]) hC (kX5_root l D cy x2 N h5) gX5_spare_X5_root rfl ⟨rfl, rfl⟩ ydX5_root ⟨Nat.le_of_ble_eq_true rfl, Nat.le_of_ble_eq_true rfl⟩ ⟨Nat.le_refl 0, Nat.le_refl 0⟩ _ rfl (Nat.le_of_ble_eq_true rfl) dX5_spare_76 ?_
    refine r_isub hC dX5_spare_79 ?_
    refine r_topi (fun x6 ex6 => ?_)
    replace hf := olet_some hf ex6
    refine r_istore hC [(8, .int x6), (0, .ref (ad 50)), (2, .int p2), (3, .int p3), (4, .long x1), (6, .long x2)] dX5_spare_80 (by decide) rfl ?_
    refine r_bipush hC dX5_spare_82 bp_30 ?_
    refine r_iload hC dX5_spare_84 0 rfl ?_
    refine r_imul hC dX5_spare_86 ?_
    refine r_iload hC dX5_spare_87 0 rfl ?_
    refine r_imul hC dX5_spare_89 ?_
    refine r_iload_n hC dX5_spare_90 rfl 2 rfl ?_
    refine r_lload hC dX5_spare_91 4 rfl ?_
    obtain ⟨r7, h8, hf⟩ := ob_some hf
    refine r_si (st := [.int p2, .int ((30 * x6) * x6)]) hC (kX5_root l D cy x1 N h8) gX5_spare_X5_root rfl ⟨rfl, rfl⟩ ydX5_root ⟨Nat.le_of_ble_eq_true rfl, Nat.le_of_ble_eq_true rfl⟩ ⟨Nat.le_refl 0, Nat.le_refl 0⟩ _ rfl (Nat.le_of_ble_eq_true rfl) dX5_spare_93 ?_
    refine r_imul hC dX5_spare_96 ?_
    refine r_isub hC dX5_spare_97 ?_
    obtain rfl := so_1 hf
    exact hRet _ _ _ dX5_spare_98 rfl
  have L9 : ∀ (n : Nat) (x9 : Int64) (x10 : Int64) (x11 : Int32), fX5_spare_L9 N c5_legs c5_length c5_ways c5_units c5_stuffOf c6_bytes c6_sizes p1 K68_3 n x9 x10 x11 = some ra → GG X 13 0 0 (w5 cy ad c5_legs c5_length c5_ways c5_units c5_stuffOf c5_point c6_bytes c6_sizes c6_weights) [(0, .ref (ad 50)), (1, .int p1), (2, .int p2), (3, .int p3), (4, .long x9), (6, .long x10), (8, .int x11)] 9 [] := by
    intro n
    induction n with
    | zero => intro x9 x10 x11 hf; cases (show none = some _ from hf)
    | succ n ih =>
      intro x9 x10 x11 hf
      rw [fX5_spare_L9] at hf
      refine r_iload hC dX5_spare_9 6 rfl ?_
      refine r_iconst hC dX5_spare_11 ic_3 ?_
      refine r_icmp_ge (tgt := 68) hC dX5_spare_12 (by decide) (fun c12 => ?_) (fun c12 => ?_)
      · replace hf := o_pos hf c12
        refine r_sub [(0, .ref (ad 50)), (2, .int p2), (3, .int p3), (4, .long x9), (6, .long x10)] [0, 2, 3, 4, 5] rfl ?_
        exact J68_3 x9 x10 hf
      · replace hf := o_neg hf c12
        refine r_aload_n hC dX5_spare_15 rfl 0 rfl ?_
        refine r_aload_n hC dX5_spare_16 rfl 0 rfl ?_
        refine r_get hC hin5 0 rfl rfl 6 (by decide) rfl hw0 rfl dX5_spare_17 ?_
        refine r_iload_n hC dX5_spare_20 rfl 1 rfl ?_
        refine r_iload hC dX5_spare_21 6 rfl ?_
        obtain ⟨r13, h14, hf⟩ := ob_some hf
        refine r_vi (st := []) hC (kX5_growth l D cy ad c5_legs c5_length c5_ways c5_units c5_stuffOf c5_point c6_bytes c6_sizes c6_weights c5_length p1 x11 N h14) gX5_spare_X5_growth rfl ⟨rfl, rfl⟩ ydX5_growth ⟨Nat.le_of_ble_eq_true rfl, Nat.le_of_ble_eq_true rfl⟩ ⟨Nat.le_refl 0, Nat.le_refl 0⟩ 0 rfl rfl [] [] rfl _ rfl (Nat.le_of_ble_eq_true rfl) dX5_spare_23 (w5 cy ad c5_legs c5_length c5_ways c5_units c5_stuffOf c5_point c6_bytes c6_sizes c6_weights) rfl ?_
        refine r_i2l hC dX5_spare_26 ?_
        refine r_topl (fun x15 ex15 => ?_)
        replace hf := olet_some hf ex15
        refine r_lstore hC [(9, .long x15), (0, .ref (ad 50)), (1, .int p1), (2, .int p2), (3, .int p3), (4, .long x9), (6, .long x10), (8, .int x11)] dX5_spare_27 (by decide) rfl ?_
        refine r_aload_n hC dX5_spare_29 rfl 1 rfl ?_
        refine r_aload_n hC dX5_spare_30 rfl 1 rfl ?_
        refine r_get hC hin5 0 rfl rfl 6 (by decide) rfl hw0 rfl dX5_spare_31 ?_
        refine r_iload hC dX5_spare_34 7 rfl ?_
        obtain ⟨r16, h17, hf⟩ := ob_some hf
        refine r_vi (st := []) hC (kX5_position l D cy ad c5_legs c5_length c5_ways c5_units c5_stuffOf c5_point c6_bytes c6_sizes c6_weights c5_length x11 N h17) gX5_spare_X5_position rfl ⟨rfl, rfl⟩ ydX5_position ⟨Nat.le_of_ble_eq_true rfl, Nat.le_of_ble_eq_true rfl⟩ ⟨Nat.le_refl 0, Nat.le_refl 0⟩ 0 rfl rfl [] [] rfl _ rfl (Nat.le_of_ble_eq_true rfl) dX5_spare_36 (w5 cy ad c5_legs c5_length c5_ways c5_units c5_stuffOf c5_point c6_bytes c6_sizes c6_weights) rfl ?_
        refine r_i2l hC dX5_spare_39 ?_
        refine r_topl (fun x18 ex18 => ?_)
        replace hf := olet_some hf ex18
        refine r_lstore hC [(11, .long x18), (9, .long x15), (0, .ref (ad 50)), (1, .int p1), (2, .int p2), (3, .int p3), (4, .long x9), (6, .long x10), (8, .int x11)] dX5_spare_40 (by decide) rfl ?_
        refine r_lload hC dX5_spare_42 6 rfl ?_
        refine r_lload hC dX5_spare_44 1 rfl ?_
        refine r_lload hC dX5_spare_46 1 rfl ?_
        refine r_lmul hC dX5_spare_48 ?_
        refine r_ladd hC dX5_spare_49 ?_
        refine r_topl (fun x19 ex19 => ?_)
        replace hf := olet_some hf ex19
        refine r_lstore hC [(4, .long x19), (11, .long x18), (9, .long x15), (0, .ref (ad 50)), (1, .int p1), (2, .int p2), (3, .int p3), (6, .long x10), (8, .int x11)] dX5_spare_50 (by decide) rfl ?_
        refine r_lload hC dX5_spare_52 7 rfl ?_
        refine r_lload hC dX5_spare_54 1 rfl ?_
        refine r_lload hC dX5_spare_56 1 rfl ?_
        refine r_lmul hC dX5_spare_58 ?_
        refine r_ladd hC dX5_spare_59 ?_
        refine r_topl (fun x20 ex20 => ?_)
        replace hf := olet_some hf ex20
        refine r_lstore hC [(6, .long x20), (4, .long x19), (11, .long x18), (9, .long x15), (0, .ref (ad 50)), (1, .int p1), (2, .int p2), (3, .int p3), (8, .int x11)] dX5_spare_60 (by decide) rfl ?_
        refine r_iinc hC [(8, .int (x11 + 1)), (6, .long x20), (4, .long x19), (11, .long x18), (9, .long x15), (0, .ref (ad 50)), (1, .int p1), (2, .int p2), (3, .int p3)] (x11 + 1) dX5_spare_62 8 rfl (ii_1 _) (by decide) rfl ?_
        refine r_goto (tgt := 9) hC dX5_spare_65 (by decide) ?_
        refine r_sub [(0, .ref (ad 50)), (1, .int p1), (2, .int p2), (3, .int p3), (4, .long x19), (6, .long x20), (8, .int (x11 + 1))] [5, 6, 7, 8, 2, 1, 0] rfl ?_
        exact ih x19 x20 (x11 + 1) hf
  refine r_sub [(0, .ref (ad 50)), (1, .int p1), (2, .int p2), (3, .int p3), (4, .long 0), (6, .long 0), (8, .int 0)] [3, 4, 5, 6, 2, 1, 0] rfl ?_
  exact L9 N 0 0 0 hf
noncomputable def fX5_firstSoft_L2 (N : Nat) (c5_legs : Int32) (c5_length : Int32) (c5_ways : Nat → Int32) (c5_units : Nat → Int32) (c5_stuffOf : Nat → Int32) (c6_bytes : Nat → Int32) (c6_sizes : Nat → Int32) (p1 : Int32) (p2 : Int32) : Nat → Int32 → Option (Int32)
  | 0, _ => none
  | n + 1, x1 => (if 20 < x1 then some 21 else ob (fX5_spare N c5_legs c5_length c5_ways c5_units c5_stuffOf c6_bytes c6_sizes p1 p2 (2 * x1)) (fun (r3 : Int32) => (if r3 < 0 then fX5_firstSoft_L2 N c5_legs c5_length c5_ways c5_units c5_stuffOf c6_bytes c6_sizes p1 p2 n (x1 + 1) else some x1)))
noncomputable def fX5_firstSoft (N : Nat) (c5_legs : Int32) (c5_length : Int32) (c5_ways : Nat → Int32) (c5_units : Nat → Int32) (c5_stuffOf : Nat → Int32) (c6_bytes : Nat → Int32) (c6_sizes : Nat → Int32) (p1 : Int32) (p2 : Int32) : Option (Int32) := fX5_firstSoft_L2 N c5_legs c5_length c5_ways c5_units c5_stuffOf c6_bytes c6_sizes p1 p2 N 1
theorem ydX5_firstSoft : yX5_firstSoft.cls = RX5 ∧ yX5_firstSoft.cls ≠ "java/lang/invoke/MethodHandle" ∧ yX5_firstSoft.cls ≠ "java/lang/invoke/VarHandle" ∧ (parseMethodDescriptor yX5_firstSoft.desc).map (fun d => d.parameters.length) = some 2 := by decide +kernel
set_option maxHeartbeats 8000000 in
set_option maxRecDepth 100000 in
theorem kX5_firstSoft (l : Launch) (D : va_G) (cy : Nat → ClassId) (ad : Nat → Nat) (c5_legs : Int32) (c5_length : Int32) (c5_ways : Nat → Int32) (c5_units : Nat → Int32) (c5_stuffOf : Nat → Int32) (c5_point : Nat → Int32) (c6_bytes : Nat → Int32) (c6_sizes : Nat → Int32) (c6_weights : Nat → Int32) (p1 : Int32) (p2 : Int32) (N : Nat) {ra : Int32} (hf : fX5_firstSoft N c5_legs c5_length c5_ways c5_units c5_stuffOf c6_bytes c6_sizes p1 p2 = some ra) : CI l D cy yX5_firstSoft wsX5_firstSoft ({ frames := 4, cells := 0, slots := 0, locals := 104 } : Room) [.ref (ad 50), .int p1, .int p2] (w5 cy ad c5_legs c5_length c5_ways c5_units c5_stuffOf c5_point c6_bytes c6_sizes c6_weights) ra (w5 cy ad c5_legs c5_length c5_ways c5_units c5_stuffOf c5_point c6_bytes c6_sizes c6_weights) := by
  unfold fX5_firstSoft at hf
  refine c_of_i (ty := .int) (own := RX5) (by decide) rfl rfl (Nat.le_of_ble_eq_true rfl) (fun X hC hRet => ?_)
  refine r_sub [(0, .ref (ad 50)), (1, .int p1), (2, .int p2)] [0, 1, 2] rfl ?_
  refine r_iconst hC dX5_firstSoft_0 ic_1 ?_
  refine r_istore_n hC [(3, .int 1), (0, .ref (ad 50)), (1, .int p1), (2, .int p2)] dX5_firstSoft_1 rfl (by decide) rfl ?_
  have L2 : ∀ (n : Nat) (x1 : Int32), fX5_firstSoft_L2 N c5_legs c5_length c5_ways c5_units c5_stuffOf c6_bytes c6_sizes p1 p2 n x1 = some ra → GG X 4 0 0 (w5 cy ad c5_legs c5_length c5_ways c5_units c5_stuffOf c5_point c6_bytes c6_sizes c6_weights) [(0, .ref (ad 50)), (1, .int p1), (2, .int p2), (3, .int x1)] 2 [] := by
    intro n
    induction n with
    | zero => intro x1 hf; cases (show none = some _ from hf)
    | succ n ih =>
      intro x1 hf
      rw [fX5_firstSoft_L2] at hf
      refine r_iload_n hC dX5_firstSoft_2 rfl 3 rfl ?_
      refine r_bipush hC dX5_firstSoft_3 bp_20 ?_
      refine r_icmp_gt (tgt := 28) hC dX5_firstSoft_5 (by decide) (fun c2 => ?_) (fun c2 => ?_)
      · replace hf := o_pos hf c2
        refine r_bipush hC dX5_firstSoft_28 bp_21 ?_
        obtain rfl := so_1 hf
        exact hRet _ _ _ dX5_firstSoft_30 rfl
      · replace hf := o_neg hf c2
        refine r_aload_n hC dX5_firstSoft_8 rfl 0 rfl ?_
        refine r_iload_n hC dX5_firstSoft_9 rfl 1 rfl ?_
        refine r_iload_n hC dX5_firstSoft_10 rfl 2 rfl ?_
        refine r_iconst hC dX5_firstSoft_11 ic_2 ?_
        refine r_iload_n hC dX5_firstSoft_12 rfl 3 rfl ?_
        refine r_imul hC dX5_firstSoft_13 ?_
        obtain ⟨r3, h4, hf⟩ := ob_some hf
        refine r_vi (st := []) hC (kX5_spare l D cy ad c5_legs c5_length c5_ways c5_units c5_stuffOf c5_point c6_bytes c6_sizes c6_weights p1 p2 (2 * x1) N h4) gX5_firstSoft_X5_spare rfl ⟨rfl, rfl⟩ ydX5_spare ⟨Nat.le_of_ble_eq_true rfl, Nat.le_of_ble_eq_true rfl⟩ ⟨Nat.le_refl 0, Nat.le_refl 0⟩ 0 rfl rfl [] [] rfl _ rfl (Nat.le_of_ble_eq_true rfl) dX5_firstSoft_14 (w5 cy ad c5_legs c5_length c5_ways c5_units c5_stuffOf c5_point c6_bytes c6_sizes c6_weights) rfl ?_
        refine r_if_lt (tgt := 22) hC dX5_firstSoft_17 (by decide) (fun c5 => ?_) (fun c5 => ?_)
        · replace hf := o_pos hf c5
          refine r_iinc hC [(3, .int (x1 + 1)), (0, .ref (ad 50)), (1, .int p1), (2, .int p2)] (x1 + 1) dX5_firstSoft_22 3 rfl (ii_1 _) (by decide) rfl ?_
          refine r_goto (tgt := 2) hC dX5_firstSoft_25 (by decide) ?_
          refine r_sub [(0, .ref (ad 50)), (1, .int p1), (2, .int p2), (3, .int (x1 + 1))] [1, 2, 3, 0] rfl ?_
          exact ih (x1 + 1) hf
        · replace hf := o_neg hf c5
          refine r_iload_n hC dX5_firstSoft_20 rfl 3 rfl ?_
          obtain rfl := so_1 hf
          exact hRet _ _ _ dX5_firstSoft_21 rfl
  refine r_sub [(0, .ref (ad 50)), (1, .int p1), (2, .int p2), (3, .int 1)] [1, 2, 3, 0] rfl ?_
  exact L2 N 1 hf
noncomputable def fX5_startAtFoot_L33 (N : Nat) (c5_legs : Int32) (c5_ways : Nat → Int32) (c5_units : Nat → Int32) (x3 : Int32) : Nat → Int32 → (Nat → Int32) → Option ((Nat → Int32))
  | 0, _, _ => none
  | n + 1, x5, s6 => (if 3 ≤ x5 then some s6 else ob (fX5_position N c5_legs c5_ways c5_units x3 x5) (fun (r8 : Int32) => og (vp_in x5 3) (fX5_startAtFoot_L33 N c5_legs c5_ways c5_units x3 n (x5 + 1) (upd s6 (Int32.toNatClampNeg x5) (-r8)))))
noncomputable def fX5_startAtFoot_L11 (c5_units : Nat → Int32) (p1 : Int32) (K31_4 : Int32 → Option ((Nat → Int32))) : Nat → Int32 → Int32 → Option ((Nat → Int32))
  | 0, _, _ => none
  | n + 1, x11, x12 => (if p1 ≤ x12 then K31_4 x11 else og (vp_in x12 12) (olet (x11 + (c5_units (Int32.toNatClampNeg x12))) (fun (x15 : Int32) => fX5_startAtFoot_L11 c5_units p1 K31_4 n x15 (x12 + 1))))
noncomputable def fX5_startAtFoot (N : Nat) (c5_legs : Int32) (c5_ways : Nat → Int32) (c5_units : Nat → Int32) (c5_point : Nat → Int32) (p1 : Int32) : Option ((Nat → Int32)) := og (vp_in p1 12) (olet ((c5_units (Int32.toNatClampNeg p1)) / 3) (fun (x2 : Int32) => oj (fun (x3 : Int32) => fX5_startAtFoot_L33 N c5_legs c5_ways c5_units x3 N 0 c5_point) (fun (K31_4 : Int32 → Option ((Nat → Int32))) => fX5_startAtFoot_L11 c5_units p1 K31_4 N x2 0)))
theorem ydX5_startAtFoot : yX5_startAtFoot.cls = RX5 ∧ yX5_startAtFoot.cls ≠ "java/lang/invoke/MethodHandle" ∧ yX5_startAtFoot.cls ≠ "java/lang/invoke/VarHandle" ∧ (parseMethodDescriptor yX5_startAtFoot.desc).map (fun d => d.parameters.length) = some 1 := by decide +kernel
set_option maxHeartbeats 8000000 in
set_option maxRecDepth 100000 in
theorem kX5_startAtFoot (l : Launch) (D : va_G) (cy : Nat → ClassId) (ad : Nat → Nat) (c5_legs : Int32) (c5_length : Int32) (c5_ways : Nat → Int32) (c5_units : Nat → Int32) (c5_stuffOf : Nat → Int32) (c5_point : Nat → Int32) (c6_bytes : Nat → Int32) (c6_sizes : Nat → Int32) (c6_weights : Nat → Int32) (p1 : Int32) (N : Nat) {z5_point : Nat → Int32} (hf : fX5_startAtFoot N c5_legs c5_ways c5_units c5_point p1 = some z5_point) : CV l D cy yX5_startAtFoot wsX5_startAtFoot ({ frames := 3, cells := 0, slots := 0, locals := 70 } : Room) [.ref (ad 50), .int p1] (w5 cy ad c5_legs c5_length c5_ways c5_units c5_stuffOf c5_point c6_bytes c6_sizes c6_weights) (w5 cy ad c5_legs c5_length c5_ways c5_units c5_stuffOf z5_point c6_bytes c6_sizes c6_weights) := by
  unfold fX5_startAtFoot at hf
  refine c_of_v (own := RX5) (by decide) rfl rfl (Nat.le_of_ble_eq_true rfl) (fun X hC hRet => ?_)
  refine r_sub [(0, .ref (ad 50)), (1, .int p1)] [0, 1] rfl ?_
  have hin5 : ∀ w ∈ wsX50, w ∈ wsX5_startAtFoot := fun w h => List.mem_cons_of_mem _ (List.mem_append_right _ h)
  have hw0 : Cond.fieldLink RX5 15 "HotPipes$Run" "units" "[I" ∈ wsX5_startAtFoot := List.mem_of_getElem? (i := 1) rfl
  have hw1 : Cond.fieldLink RX5 21 "HotPipes$Run" "point" "[I" ∈ wsX5_startAtFoot := List.mem_of_getElem? (i := 2) rfl
  refine r_aload_n hC dX5_startAtFoot_0 rfl 0 rfl ?_
  refine r_get hC hin5 0 rfl rfl 2 (by decide) rfl hw0 rfl dX5_startAtFoot_1 ?_
  refine r_iload_n hC dX5_startAtFoot_4 rfl 1 rfl ?_
  obtain ⟨g1, hf⟩ := og_some hf
  refine r_iald hC 2 rfl g1 dX5_startAtFoot_5 ?_
  refine r_iconst hC dX5_startAtFoot_6 ic_3 ?_
  refine r_idiv hC dX5_startAtFoot_7 (by decide) ?_
  refine r_topi (fun x2 ex2 => ?_)
  replace hf := olet_some hf ex2
  refine r_istore_n hC [(2, .int x2), (0, .ref (ad 50)), (1, .int p1)] dX5_startAtFoot_8 rfl (by decide) rfl ?_
  refine r_iconst hC dX5_startAtFoot_9 ic_0 ?_
  refine r_istore_n hC [(3, .int 0), (2, .int x2), (0, .ref (ad 50)), (1, .int p1)] dX5_startAtFoot_10 rfl (by decide) rfl ?_
  obtain ⟨K31_4, eK31_4, hf⟩ := oj_some hf
  have J31_4 : ∀ (x3 : Int32), K31_4 x3 = some z5_point → GG X 4 0 0 (w5 cy ad c5_legs c5_length c5_ways c5_units c5_stuffOf c5_point c6_bytes c6_sizes c6_weights) [(0, .ref (ad 50)), (2, .int x3)] 31 [] := by
    intro x3 hf
    replace hf := oa1 eK31_4 hf
    refine r_iconst hC dX5_startAtFoot_31 ic_0 ?_
    refine r_istore_n hC [(3, .int 0), (0, .ref (ad 50)), (2, .int x3)] dX5_startAtFoot_32 rfl (by decide) rfl ?_
    have L33 : ∀ (n : Nat) (x5 : Int32) (s6 : Nat → Int32), fX5_startAtFoot_L33 N c5_legs c5_ways c5_units x3 n x5 s6 = some z5_point → GG X 4 0 0 (w5 cy ad c5_legs c5_length c5_ways c5_units c5_stuffOf s6 c6_bytes c6_sizes c6_weights) [(0, .ref (ad 50)), (2, .int x3), (3, .int x5)] 33 [] := by
      intro n
      induction n with
      | zero => intro x5 s6 hf; cases (show none = some _ from hf)
      | succ n ih =>
        intro x5 s6 hf
        rw [fX5_startAtFoot_L33] at hf
        refine r_iload_n hC dX5_startAtFoot_33 rfl 2 rfl ?_
        refine r_iconst hC dX5_startAtFoot_34 ic_3 ?_
        refine r_icmp_ge (tgt := 57) hC dX5_startAtFoot_35 (by decide) (fun c7 => ?_) (fun c7 => ?_)
        · replace hf := o_pos hf c7
          obtain rfl := so_1 hf
          exact hRet _ _ _ dX5_startAtFoot_57
        · replace hf := o_neg hf c7
          refine r_aload_n hC dX5_startAtFoot_38 rfl 0 rfl ?_
          refine r_get hC hin5 0 rfl rfl 4 (by decide) rfl hw1 rfl dX5_startAtFoot_39 ?_
          refine r_iload_n hC dX5_startAtFoot_42 rfl 2 rfl ?_
          refine r_aload_n hC dX5_startAtFoot_43 rfl 0 rfl ?_
          refine r_iload_n hC dX5_startAtFoot_44 rfl 1 rfl ?_
          refine r_iload_n hC dX5_startAtFoot_45 rfl 2 rfl ?_
          obtain ⟨r8, h9, hf⟩ := ob_some hf
          refine r_vi (st := [.int x5, .ref (ad 1505)]) hC (kX5_position l D cy ad c5_legs c5_length c5_ways c5_units c5_stuffOf s6 c6_bytes c6_sizes c6_weights x3 x5 N h9) gX5_startAtFoot_X5_position rfl ⟨rfl, rfl⟩ ydX5_position ⟨Nat.le_of_ble_eq_true rfl, Nat.le_of_ble_eq_true rfl⟩ ⟨Nat.le_refl 0, Nat.le_refl 0⟩ 0 rfl rfl [] [] rfl _ rfl (Nat.le_of_ble_eq_true rfl) dX5_startAtFoot_46 (w5 cy ad c5_legs c5_length c5_ways c5_units c5_stuffOf s6 c6_bytes c6_sizes c6_weights) rfl ?_
          refine r_ineg hC dX5_startAtFoot_49 ?_
          obtain ⟨g10, hf⟩ := og_some hf
          refine r_iast hC 4 rfl g10 dX5_startAtFoot_50 (w5 cy ad c5_legs c5_length c5_ways c5_units c5_stuffOf (upd s6 (Int32.toNatClampNeg x5) (-r8)) c6_bytes c6_sizes c6_weights) rfl ?_
          refine r_iinc hC [(3, .int (x5 + 1)), (0, .ref (ad 50)), (2, .int x3)] (x5 + 1) dX5_startAtFoot_51 2 rfl (ii_1 _) (by decide) rfl ?_
          refine r_goto (tgt := 33) hC dX5_startAtFoot_54 (by decide) ?_
          refine r_sub [(0, .ref (ad 50)), (2, .int x3), (3, .int (x5 + 1))] [1, 2, 0] rfl ?_
          exact ih (x5 + 1) (upd s6 (Int32.toNatClampNeg x5) (-r8)) hf
    refine r_sub [(0, .ref (ad 50)), (2, .int x3), (3, .int 0)] [1, 2, 0] rfl ?_
    exact L33 N 0 c5_point hf
  have L11 : ∀ (n : Nat) (x11 : Int32) (x12 : Int32), fX5_startAtFoot_L11 c5_units p1 K31_4 n x11 x12 = some z5_point → GG X 4 0 0 (w5 cy ad c5_legs c5_length c5_ways c5_units c5_stuffOf c5_point c6_bytes c6_sizes c6_weights) [(0, .ref (ad 50)), (1, .int p1), (2, .int x11), (3, .int x12)] 11 [] := by
    intro n
    induction n with
    | zero => intro x11 x12 hf; cases (show none = some _ from hf)
    | succ n ih =>
      intro x11 x12 hf
      rw [fX5_startAtFoot_L11] at hf
      refine r_iload_n hC dX5_startAtFoot_11 rfl 3 rfl ?_
      refine r_iload_n hC dX5_startAtFoot_12 rfl 1 rfl ?_
      refine r_icmp_ge (tgt := 31) hC dX5_startAtFoot_13 (by decide) (fun c13 => ?_) (fun c13 => ?_)
      · replace hf := o_pos hf c13
        refine r_sub [(0, .ref (ad 50)), (2, .int x11)] [0, 2] rfl ?_
        exact J31_4 x11 hf
      · replace hf := o_neg hf c13
        refine r_iload_n hC dX5_startAtFoot_16 rfl 2 rfl ?_
        refine r_aload_n hC dX5_startAtFoot_17 rfl 0 rfl ?_
        refine r_get hC hin5 0 rfl rfl 2 (by decide) rfl hw0 rfl dX5_startAtFoot_18 ?_
        refine r_iload_n hC dX5_startAtFoot_21 rfl 3 rfl ?_
        obtain ⟨g14, hf⟩ := og_some hf
        refine r_iald hC 2 rfl g14 dX5_startAtFoot_22 ?_
        refine r_iadd hC dX5_startAtFoot_23 ?_
        refine r_topi (fun x15 ex15 => ?_)
        replace hf := olet_some hf ex15
        refine r_istore_n hC [(2, .int x15), (0, .ref (ad 50)), (1, .int p1), (3, .int x12)] dX5_startAtFoot_24 rfl (by decide) rfl ?_
        refine r_iinc hC [(3, .int (x12 + 1)), (2, .int x15), (0, .ref (ad 50)), (1, .int p1)] (x12 + 1) dX5_startAtFoot_25 3 rfl (ii_1 _) (by decide) rfl ?_
        refine r_goto (tgt := 11) hC dX5_startAtFoot_28 (by decide) ?_
        refine r_sub [(0, .ref (ad 50)), (1, .int p1), (2, .int x15), (3, .int (x12 + 1))] [2, 3, 1, 0] rfl ?_
        exact ih x15 (x12 + 1) hf
  refine r_sub [(0, .ref (ad 50)), (1, .int p1), (2, .int x2), (3, .int 0)] [2, 3, 1, 0] rfl ?_
  exact L11 N x2 0 hf
noncomputable def fX5_loopsThatMeetPoint (c5_ways : Nat → Int32) (c5_units : Nat → Int32) (c5_point : Nat → Int32) (p1 : Int32) (p2 : Int32) : Option (Int32) := og (vp_in p1 12) (ob (fX5_axisOf (c5_ways (Int32.toNatClampNeg p1))) (fun (r2 : Int32) => ob (fX5_axisOf p2) (fun (r4 : Int32) => olet ((3 - r2) - r4) (fun (x6 : Int32) => og (vp_in p1 12) (olet ((c5_units (Int32.toNatClampNeg p1)) / 3) (fun (x8 : Int32) => og (vp_in p1 12) (ob (fX5_signOf (c5_ways (Int32.toNatClampNeg p1))) (fun (r10 : Int32) => og (vp_in r2 3) (olet (r10 * (c5_point (Int32.toNatClampNeg r2))) (fun (x13 : Int32) => ob (fX5_signOf p2) (fun (r14 : Int32) => og (vp_in r4 3) (olet (r14 * (c5_point (Int32.toNatClampNeg r4))) (fun (x17 : Int32) => og (vp_in x6 3) ((if (c5_point (Int32.toNatClampNeg x6)) = 0 then (if x13 < 0 then some 0 else (if x8 < x13 then some 0 else (if x17 < 1 then some 0 else (if x17 ≤ 20 then oj (some ((-1) <<< (x17 &&& 31))) (fun (K115_24 : Option (Int32)) => (if x13 = 0 then K115_24 else (if x13 = x8 then K115_24 else some (1 <<< (x17 &&& 31))))) else some 0)))) else some 0)))))))))))))))
theorem ydX5_loopsThatMeetPoint : yX5_loopsThatMeetPoint.cls = RX5 ∧ yX5_loopsThatMeetPoint.cls ≠ "java/lang/invoke/MethodHandle" ∧ yX5_loopsThatMeetPoint.cls ≠ "java/lang/invoke/VarHandle" ∧ (parseMethodDescriptor yX5_loopsThatMeetPoint.desc).map (fun d => d.parameters.length) = some 2 := by decide +kernel
set_option maxHeartbeats 8000000 in
set_option maxRecDepth 100000 in
theorem kX5_loopsThatMeetPoint (l : Launch) (D : va_G) (cy : Nat → ClassId) (ad : Nat → Nat) (c5_legs : Int32) (c5_length : Int32) (c5_ways : Nat → Int32) (c5_units : Nat → Int32) (c5_stuffOf : Nat → Int32) (c5_point : Nat → Int32) (c6_bytes : Nat → Int32) (c6_sizes : Nat → Int32) (c6_weights : Nat → Int32) (p1 : Int32) (p2 : Int32) {ra : Int32} (hf : fX5_loopsThatMeetPoint c5_ways c5_units c5_point p1 p2 = some ra) : CI l D cy yX5_loopsThatMeetPoint wsX5_loopsThatMeetPoint ({ frames := 1, cells := 0, slots := 0, locals := 20 } : Room) [.ref (ad 50), .int p1, .int p2] (w5 cy ad c5_legs c5_length c5_ways c5_units c5_stuffOf c5_point c6_bytes c6_sizes c6_weights) ra (w5 cy ad c5_legs c5_length c5_ways c5_units c5_stuffOf c5_point c6_bytes c6_sizes c6_weights) := by
  unfold fX5_loopsThatMeetPoint at hf
  refine c_of_i (ty := .int) (own := RX5) (by decide) rfl rfl (Nat.le_of_ble_eq_true rfl) (fun X hC hRet => ?_)
  refine r_sub [(0, .ref (ad 50)), (1, .int p1), (2, .int p2)] [0, 1, 2] rfl ?_
  have hin5 : ∀ w ∈ wsX50, w ∈ wsX5_loopsThatMeetPoint := fun w h => List.mem_cons_of_mem _ (List.mem_append_right _ h)
  have hw0 : Cond.fieldLink RX5 9 "HotPipes$Run" "ways" "[I" ∈ wsX5_loopsThatMeetPoint := List.mem_of_getElem? (i := 1) rfl
  have hw1 : Cond.fieldLink RX5 15 "HotPipes$Run" "units" "[I" ∈ wsX5_loopsThatMeetPoint := List.mem_of_getElem? (i := 2) rfl
  have hw2 : Cond.fieldLink RX5 21 "HotPipes$Run" "point" "[I" ∈ wsX5_loopsThatMeetPoint := List.mem_of_getElem? (i := 3) rfl
  refine r_aload_n hC dX5_loopsThatMeetPoint_0 rfl 0 rfl ?_
  refine r_get hC hin5 0 rfl rfl 1 (by decide) rfl hw0 rfl dX5_loopsThatMeetPoint_1 ?_
  refine r_iload_n hC dX5_loopsThatMeetPoint_4 rfl 1 rfl ?_
  obtain ⟨g1, hf⟩ := og_some hf
  refine r_iald hC 1 rfl g1 dX5_loopsThatMeetPoint_5 ?_
  obtain ⟨r2, h3, hf⟩ := ob_some hf
  refine r_si (st := []) hC (kX5_axisOf l D cy (c5_ways (Int32.toNatClampNeg p1)) h3) gX5_loopsThatMeetPoint_X5_axisOf rfl ⟨rfl, rfl⟩ ydX5_axisOf ⟨Nat.le_of_ble_eq_true rfl, Nat.le_of_ble_eq_true rfl⟩ ⟨Nat.le_refl 0, Nat.le_refl 0⟩ _ rfl (Nat.le_of_ble_eq_true rfl) dX5_loopsThatMeetPoint_6 ?_
  refine r_istore_n hC [(3, .int r2), (0, .ref (ad 50)), (1, .int p1), (2, .int p2)] dX5_loopsThatMeetPoint_9 rfl (by decide) rfl ?_
  refine r_iload_n hC dX5_loopsThatMeetPoint_10 rfl 3 rfl ?_
  obtain ⟨r4, h5, hf⟩ := ob_some hf
  refine r_si (st := []) hC (kX5_axisOf l D cy p2 h5) gX5_loopsThatMeetPoint_X5_axisOf rfl ⟨rfl, rfl⟩ ydX5_axisOf ⟨Nat.le_of_ble_eq_true rfl, Nat.le_of_ble_eq_true rfl⟩ ⟨Nat.le_refl 0, Nat.le_refl 0⟩ _ rfl (Nat.le_of_ble_eq_true rfl) dX5_loopsThatMeetPoint_11 ?_
  refine r_istore hC [(4, .int r4), (3, .int r2), (0, .ref (ad 50)), (1, .int p1), (2, .int p2)] dX5_loopsThatMeetPoint_14 (by decide) rfl ?_
  refine r_iconst hC dX5_loopsThatMeetPoint_16 ic_3 ?_
  refine r_iload_n hC dX5_loopsThatMeetPoint_17 rfl 1 rfl ?_
  refine r_isub hC dX5_loopsThatMeetPoint_18 ?_
  refine r_iload hC dX5_loopsThatMeetPoint_19 0 rfl ?_
  refine r_isub hC dX5_loopsThatMeetPoint_21 ?_
  refine r_topi (fun x6 ex6 => ?_)
  replace hf := olet_some hf ex6
  refine r_istore hC [(5, .int x6), (4, .int r4), (3, .int r2), (0, .ref (ad 50)), (1, .int p1), (2, .int p2)] dX5_loopsThatMeetPoint_22 (by decide) rfl ?_
  refine r_aload_n hC dX5_loopsThatMeetPoint_24 rfl 3 rfl ?_
  refine r_get hC hin5 0 rfl rfl 2 (by decide) rfl hw1 rfl dX5_loopsThatMeetPoint_25 ?_
  refine r_iload_n hC dX5_loopsThatMeetPoint_28 rfl 4 rfl ?_
  obtain ⟨g7, hf⟩ := og_some hf
  refine r_iald hC 2 rfl g7 dX5_loopsThatMeetPoint_29 ?_
  refine r_iconst hC dX5_loopsThatMeetPoint_30 ic_3 ?_
  refine r_idiv hC dX5_loopsThatMeetPoint_31 (by decide) ?_
  refine r_topi (fun x8 ex8 => ?_)
  replace hf := olet_some hf ex8
  refine r_istore hC [(6, .int x8), (5, .int x6), (4, .int r4), (3, .int r2), (0, .ref (ad 50)), (1, .int p1), (2, .int p2)] dX5_loopsThatMeetPoint_32 (by decide) rfl ?_
  refine r_aload_n hC dX5_loopsThatMeetPoint_34 rfl 4 rfl ?_
  refine r_get hC hin5 0 rfl rfl 1 (by decide) rfl hw0 rfl dX5_loopsThatMeetPoint_35 ?_
  refine r_iload_n hC dX5_loopsThatMeetPoint_38 rfl 5 rfl ?_
  obtain ⟨g9, hf⟩ := og_some hf
  refine r_iald hC 1 rfl g9 dX5_loopsThatMeetPoint_39 ?_
  obtain ⟨r10, h11, hf⟩ := ob_some hf
  refine r_si (st := []) hC (kX5_signOf l D cy (c5_ways (Int32.toNatClampNeg p1)) h11) gX5_loopsThatMeetPoint_X5_signOf rfl ⟨rfl, rfl⟩ ydX5_signOf ⟨Nat.le_of_ble_eq_true rfl, Nat.le_of_ble_eq_true rfl⟩ ⟨Nat.le_refl 0, Nat.le_refl 0⟩ _ rfl (Nat.le_of_ble_eq_true rfl) dX5_loopsThatMeetPoint_40 ?_
  refine r_aload_n hC dX5_loopsThatMeetPoint_43 rfl 4 rfl ?_
  refine r_get hC hin5 0 rfl rfl 4 (by decide) rfl hw2 rfl dX5_loopsThatMeetPoint_44 ?_
  refine r_iload_n hC dX5_loopsThatMeetPoint_47 rfl 3 rfl ?_
  obtain ⟨g12, hf⟩ := og_some hf
  refine r_iald hC 4 rfl g12 dX5_loopsThatMeetPoint_48 ?_
  refine r_imul hC dX5_loopsThatMeetPoint_49 ?_
  refine r_topi (fun x13 ex13 => ?_)
  replace hf := olet_some hf ex13
  refine r_istore hC [(7, .int x13), (6, .int x8), (5, .int x6), (4, .int r4), (3, .int r2), (0, .ref (ad 50)), (1, .int p1), (2, .int p2)] dX5_loopsThatMeetPoint_50 (by decide) rfl ?_
  refine r_iload_n hC dX5_loopsThatMeetPoint_52 rfl 7 rfl ?_
  obtain ⟨r14, h15, hf⟩ := ob_some hf
  refine r_si (st := []) hC (kX5_signOf l D cy p2 h15) gX5_loopsThatMeetPoint_X5_signOf rfl ⟨rfl, rfl⟩ ydX5_signOf ⟨Nat.le_of_ble_eq_true rfl, Nat.le_of_ble_eq_true rfl⟩ ⟨Nat.le_refl 0, Nat.le_refl 0⟩ _ rfl (Nat.le_of_ble_eq_true rfl) dX5_loopsThatMeetPoint_53 ?_
  refine r_aload_n hC dX5_loopsThatMeetPoint_56 rfl 5 rfl ?_
  refine r_get hC hin5 0 rfl rfl 4 (by decide) rfl hw2 rfl dX5_loopsThatMeetPoint_57 ?_
  refine r_iload hC dX5_loopsThatMeetPoint_60 3 rfl ?_
  obtain ⟨g16, hf⟩ := og_some hf
  refine r_iald hC 4 rfl g16 dX5_loopsThatMeetPoint_62 ?_
  refine r_imul hC dX5_loopsThatMeetPoint_63 ?_
  refine r_topi (fun x17 ex17 => ?_)
  replace hf := olet_some hf ex17
  refine r_istore hC [(8, .int x17), (7, .int x13), (6, .int x8), (5, .int x6), (4, .int r4), (3, .int r2), (0, .ref (ad 50)), (1, .int p1), (2, .int p2)] dX5_loopsThatMeetPoint_64 (by decide) rfl ?_
  refine r_aload_n hC dX5_loopsThatMeetPoint_66 rfl 6 rfl ?_
  refine r_get hC hin5 0 rfl rfl 4 (by decide) rfl hw2 rfl dX5_loopsThatMeetPoint_67 ?_
  refine r_iload hC dX5_loopsThatMeetPoint_70 3 rfl ?_
  obtain ⟨g18, hf⟩ := og_some hf
  refine r_iald hC 4 rfl g18 dX5_loopsThatMeetPoint_72 ?_
  refine r_if_ne (tgt := 101) hC dX5_loopsThatMeetPoint_73 (by decide) (fun c19 => ?_) (fun c19 => ?_)
  · replace hf := o_neg hf c19
    refine r_iconst hC dX5_loopsThatMeetPoint_101 ic_0 ?_
    obtain rfl := so_1 hf
    exact hRet _ _ _ dX5_loopsThatMeetPoint_102 rfl
  · replace hf := o_pos hf c19
    refine r_iload hC dX5_loopsThatMeetPoint_76 1 rfl ?_
    refine r_if_lt (tgt := 101) hC dX5_loopsThatMeetPoint_78 (by decide) (fun c20 => ?_) (fun c20 => ?_)
    · replace hf := o_pos hf c20
      refine r_iconst hC dX5_loopsThatMeetPoint_101 ic_0 ?_
      obtain rfl := so_1 hf
      exact hRet _ _ _ dX5_loopsThatMeetPoint_102 rfl
    · replace hf := o_neg hf c20
      refine r_iload hC dX5_loopsThatMeetPoint_81 1 rfl ?_
      refine r_iload hC dX5_loopsThatMeetPoint_83 2 rfl ?_
      refine r_icmp_gt (tgt := 101) hC dX5_loopsThatMeetPoint_85 (by decide) (fun c21 => ?_) (fun c21 => ?_)
      · replace hf := o_pos hf c21
        refine r_iconst hC dX5_loopsThatMeetPoint_101 ic_0 ?_
        obtain rfl := so_1 hf
        exact hRet _ _ _ dX5_loopsThatMeetPoint_102 rfl
      · replace hf := o_neg hf c21
        refine r_iload hC dX5_loopsThatMeetPoint_88 0 rfl ?_
        refine r_iconst hC dX5_loopsThatMeetPoint_90 ic_1 ?_
        refine r_icmp_lt (tgt := 101) hC dX5_loopsThatMeetPoint_91 (by decide) (fun c22 => ?_) (fun c22 => ?_)
        · replace hf := o_pos hf c22
          refine r_iconst hC dX5_loopsThatMeetPoint_101 ic_0 ?_
          obtain rfl := so_1 hf
          exact hRet _ _ _ dX5_loopsThatMeetPoint_102 rfl
        · replace hf := o_neg hf c22
          refine r_iload hC dX5_loopsThatMeetPoint_94 0 rfl ?_
          refine r_bipush hC dX5_loopsThatMeetPoint_96 bp_20 ?_
          refine r_icmp_le (tgt := 103) hC dX5_loopsThatMeetPoint_98 (by decide) (fun c23 => ?_) (fun c23 => ?_)
          · replace hf := o_pos hf c23
            refine r_iload hC dX5_loopsThatMeetPoint_103 1 rfl ?_
            obtain ⟨K115_24, eK115_24, hf⟩ := oj_some hf
            have J115_24 : K115_24 = some ra → GG X 9 0 0 (w5 cy ad c5_legs c5_length c5_ways c5_units c5_stuffOf c5_point c6_bytes c6_sizes c6_weights) [(8, .int x17)] 115 [] := by
              intro hf
              replace hf := oa0 eK115_24 hf
              refine r_iconst hC dX5_loopsThatMeetPoint_115 ic_m1 ?_
              refine r_iload hC dX5_loopsThatMeetPoint_116 0 rfl ?_
              refine r_ishl hC dX5_loopsThatMeetPoint_118 ?_
              refine r_goto (tgt := 126) hC dX5_loopsThatMeetPoint_119 (by decide) ?_
              obtain rfl := so_1 hf
              exact hRet _ _ _ dX5_loopsThatMeetPoint_126 rfl
            refine r_if_eq (tgt := 115) hC dX5_loopsThatMeetPoint_105 (by decide) (fun c25 => ?_) (fun c25 => ?_)
            · replace hf := o_pos hf c25
              refine r_sub [(8, .int x17)] [0] rfl ?_
              exact J115_24 hf
            · replace hf := o_neg hf c25
              refine r_iload hC dX5_loopsThatMeetPoint_108 1 rfl ?_
              refine r_iload hC dX5_loopsThatMeetPoint_110 2 rfl ?_
              refine r_icmp_ne (tgt := 122) hC dX5_loopsThatMeetPoint_112 (by decide) (fun c26 => ?_) (fun c26 => ?_)
              · replace hf := o_neg hf c26
                refine r_iconst hC dX5_loopsThatMeetPoint_122 ic_1 ?_
                refine r_iload hC dX5_loopsThatMeetPoint_123 0 rfl ?_
                refine r_ishl hC dX5_loopsThatMeetPoint_125 ?_
                obtain rfl := so_1 hf
                exact hRet _ _ _ dX5_loopsThatMeetPoint_126 rfl
              · replace hf := o_pos hf c26
                refine r_sub [(8, .int x17)] [0] rfl ?_
                exact J115_24 hf
          · replace hf := o_neg hf c23
            refine r_iconst hC dX5_loopsThatMeetPoint_101 ic_0 ?_
            obtain rfl := so_1 hf
            exact hRet _ _ _ dX5_loopsThatMeetPoint_102 rfl
noncomputable def fX5_loopsThatMeet_L39 (c5_ways : Nat → Int32) (c5_units : Nat → Int32) (p1 : Int32) (p2 : Int32) (x6 : Int32) (r10 : Int32) (K86_14 : Int32 → (Nat → Int32) → Option (Int32 × (Nat → Int32))) : Nat → Int32 → Int32 → (Nat → Int32) → Option (Int32 × (Nat → Int32))
  | 0, _, _, _ => none
  | n + 1, x15, x16, s17 => og (vp_in x6 12) ((if (c5_units (Int32.toNatClampNeg x6)) ≤ x16 then K86_14 x15 s17 else og (vp_in r10 3) (og (vp_in x6 12) (ob (fX5_signOf (c5_ways (Int32.toNatClampNeg x6))) (fun (r22 : Int32) => og (vp_in r10 3) (ob (fX5_loopsThatMeetPoint c5_ways c5_units (upd s17 (Int32.toNatClampNeg r10) ((s17 (Int32.toNatClampNeg r10)) + r22)) p1 p2) (fun (r25 : Int32) => olet (x15 ||| r25) (fun (x27 : Int32) => fX5_loopsThatMeet_L39 c5_ways c5_units p1 p2 x6 r10 K86_14 n x27 (x16 + 1) (upd s17 (Int32.toNatClampNeg r10) ((s17 (Int32.toNatClampNeg r10)) + r22))))))))))
noncomputable def fX5_loopsThatMeet_L15 (N : Nat) (c5_legs : Int32) (c5_ways : Nat → Int32) (c5_units : Nat → Int32) (p1 : Int32) (p2 : Int32) : Nat → Int32 → Int32 → (Nat → Int32) → Option (Int32 × (Nat → Int32))
  | 0, _, _, _ => none
  | n + 1, x5, x6, s7 => (if c5_legs ≤ x6 then some (x5, s7) else og (vp_in x6 12) (ob (fX5_axisOf (c5_ways (Int32.toNatClampNeg x6))) (fun (r10 : Int32) => oj (fun (x12 : Int32) (s13 : Nat → Int32) => fX5_loopsThatMeet_L15 N c5_legs c5_ways c5_units p1 p2 n x12 (x6 + 1) s13) (fun (K86_14 : Int32 → (Nat → Int32) → Option (Int32 × (Nat → Int32))) => fX5_loopsThatMeet_L39 c5_ways c5_units p1 p2 x6 r10 K86_14 N x5 0 s7))))
noncomputable def fX5_loopsThatMeet (N : Nat) (c5_legs : Int32) (c5_ways : Nat → Int32) (c5_units : Nat → Int32) (c5_point : Nat → Int32) (p1 : Int32) (p2 : Int32) : Option (Int32 × (Nat → Int32)) := ob (fX5_startAtFoot N c5_legs c5_ways c5_units c5_point p1) (fun (s1 : Nat → Int32) => ob (fX5_loopsThatMeetPoint c5_ways c5_units s1 p1 p2) (fun (r3 : Int32) => fX5_loopsThatMeet_L15 N c5_legs c5_ways c5_units p1 p2 N r3 0 s1))
theorem ydX5_loopsThatMeet : yX5_loopsThatMeet.cls = RX5 ∧ yX5_loopsThatMeet.cls ≠ "java/lang/invoke/MethodHandle" ∧ yX5_loopsThatMeet.cls ≠ "java/lang/invoke/VarHandle" ∧ (parseMethodDescriptor yX5_loopsThatMeet.desc).map (fun d => d.parameters.length) = some 2 := by decide +kernel
set_option maxHeartbeats 8000000 in
set_option maxRecDepth 100000 in
theorem kX5_loopsThatMeet (l : Launch) (D : va_G) (cy : Nat → ClassId) (ad : Nat → Nat) (c5_legs : Int32) (c5_length : Int32) (c5_ways : Nat → Int32) (c5_units : Nat → Int32) (c5_stuffOf : Nat → Int32) (c5_point : Nat → Int32) (c6_bytes : Nat → Int32) (c6_sizes : Nat → Int32) (c6_weights : Nat → Int32) (p1 : Int32) (p2 : Int32) (N : Nat) {ra : Int32} {z5_point : Nat → Int32} (hf : fX5_loopsThatMeet N c5_legs c5_ways c5_units c5_point p1 p2 = some (ra, z5_point)) : CI l D cy yX5_loopsThatMeet wsX5_loopsThatMeet ({ frames := 4, cells := 0, slots := 0, locals := 93 } : Room) [.ref (ad 50), .int p1, .int p2] (w5 cy ad c5_legs c5_length c5_ways c5_units c5_stuffOf c5_point c6_bytes c6_sizes c6_weights) ra (w5 cy ad c5_legs c5_length c5_ways c5_units c5_stuffOf z5_point c6_bytes c6_sizes c6_weights) := by
  unfold fX5_loopsThatMeet at hf
  refine c_of_i (ty := .int) (own := RX5) (by decide) rfl rfl (Nat.le_of_ble_eq_true rfl) (fun X hC hRet => ?_)
  refine r_sub [(0, .ref (ad 50)), (1, .int p1), (2, .int p2)] [0, 1, 2] rfl ?_
  have hin5 : ∀ w ∈ wsX50, w ∈ wsX5_loopsThatMeet := fun w h => List.mem_cons_of_mem _ (List.mem_append_right _ h)
  have hw0 : Cond.fieldLink RX5 24 "HotPipes$Run" "legs" "I" ∈ wsX5_loopsThatMeet := List.mem_of_getElem? (i := 1) rfl
  have hw1 : Cond.fieldLink RX5 9 "HotPipes$Run" "ways" "[I" ∈ wsX5_loopsThatMeet := List.mem_of_getElem? (i := 2) rfl
  have hw2 : Cond.fieldLink RX5 15 "HotPipes$Run" "units" "[I" ∈ wsX5_loopsThatMeet := List.mem_of_getElem? (i := 3) rfl
  have hw3 : Cond.fieldLink RX5 21 "HotPipes$Run" "point" "[I" ∈ wsX5_loopsThatMeet := List.mem_of_getElem? (i := 4) rfl
  refine r_aload_n hC dX5_loopsThatMeet_0 rfl 0 rfl ?_
  refine r_iload_n hC dX5_loopsThatMeet_1 rfl 1 rfl ?_
  obtain ⟨s1, h2, hf⟩ := ob_some hf
  refine r_vv (st := []) hC (kX5_startAtFoot l D cy ad c5_legs c5_length c5_ways c5_units c5_stuffOf c5_point c6_bytes c6_sizes c6_weights p1 N h2) gX5_loopsThatMeet_X5_startAtFoot rfl ⟨rfl, rfl⟩ ydX5_startAtFoot ⟨Nat.le_of_ble_eq_true rfl, Nat.le_of_ble_eq_true rfl⟩ ⟨Nat.le_refl 0, Nat.le_refl 0⟩ 0 rfl rfl [] [] rfl _ rfl (Nat.le_of_ble_eq_true rfl) dX5_loopsThatMeet_2 (w5 cy ad c5_legs c5_length c5_ways c5_units c5_stuffOf s1 c6_bytes c6_sizes c6_weights) rfl ?_
  refine r_aload_n hC dX5_loopsThatMeet_5 rfl 0 rfl ?_
  refine r_iload_n hC dX5_loopsThatMeet_6 rfl 1 rfl ?_
  refine r_iload_n hC dX5_loopsThatMeet_7 rfl 2 rfl ?_
  obtain ⟨r3, h4, hf⟩ := ob_some hf
  refine r_vi (st := []) hC (kX5_loopsThatMeetPoint l D cy ad c5_legs c5_length c5_ways c5_units c5_stuffOf s1 c6_bytes c6_sizes c6_weights p1 p2 h4) gX5_loopsThatMeet_X5_loopsThatMeetPoint rfl ⟨rfl, rfl⟩ ydX5_loopsThatMeetPoint ⟨Nat.le_of_ble_eq_true rfl, Nat.le_of_ble_eq_true rfl⟩ ⟨Nat.le_refl 0, Nat.le_refl 0⟩ 0 rfl rfl [] [] rfl _ rfl (Nat.le_of_ble_eq_true rfl) dX5_loopsThatMeet_8 (w5 cy ad c5_legs c5_length c5_ways c5_units c5_stuffOf s1 c6_bytes c6_sizes c6_weights) rfl ?_
  refine r_istore_n hC [(3, .int r3), (0, .ref (ad 50)), (1, .int p1), (2, .int p2)] dX5_loopsThatMeet_11 rfl (by decide) rfl ?_
  refine r_iconst hC dX5_loopsThatMeet_12 ic_0 ?_
  refine r_istore hC [(4, .int 0), (3, .int r3), (0, .ref (ad 50)), (1, .int p1), (2, .int p2)] dX5_loopsThatMeet_13 (by decide) rfl ?_
  have L15 : ∀ (n : Nat) (x5 : Int32) (x6 : Int32) (s7 : Nat → Int32), fX5_loopsThatMeet_L15 N c5_legs c5_ways c5_units p1 p2 n x5 x6 s7 = some (ra, z5_point) → GG X 7 0 0 (w5 cy ad c5_legs c5_length c5_ways c5_units c5_stuffOf s7 c6_bytes c6_sizes c6_weights) [(0, .ref (ad 50)), (1, .int p1), (2, .int p2), (3, .int x5), (4, .int x6)] 15 [] := by
    intro n
    induction n with
    | zero => intro x5 x6 s7 hf; cases (show none = some _ from hf)
    | succ n ih =>
      intro x5 x6 s7 hf
      rw [fX5_loopsThatMeet_L15] at hf
      refine r_iload hC dX5_loopsThatMeet_15 4 rfl ?_
      refine r_aload_n hC dX5_loopsThatMeet_17 rfl 0 rfl ?_
      refine r_get hC hin5 0 rfl rfl 5 (by decide) rfl hw0 rfl dX5_loopsThatMeet_18 ?_
      refine r_icmp_ge (tgt := 92) hC dX5_loopsThatMeet_21 (by decide) (fun c8 => ?_) (fun c8 => ?_)
      · replace hf := o_pos hf c8
        refine r_iload_n hC dX5_loopsThatMeet_92 rfl 3 rfl ?_
        obtain ⟨rfl, rfl⟩ := so_2 hf
        exact hRet _ _ _ dX5_loopsThatMeet_93 rfl
      · replace hf := o_neg hf c8
        refine r_aload_n hC dX5_loopsThatMeet_24 rfl 0 rfl ?_
        refine r_get hC hin5 0 rfl rfl 1 (by decide) rfl hw1 rfl dX5_loopsThatMeet_25 ?_
        refine r_iload hC dX5_loopsThatMeet_28 4 rfl ?_
        obtain ⟨g9, hf⟩ := og_some hf
        refine r_iald hC 1 rfl g9 dX5_loopsThatMeet_30 ?_
        obtain ⟨r10, h11, hf⟩ := ob_some hf
        refine r_si (st := []) hC (kX5_axisOf l D cy (c5_ways (Int32.toNatClampNeg x6)) h11) gX5_loopsThatMeet_X5_axisOf rfl ⟨rfl, rfl⟩ ydX5_axisOf ⟨Nat.le_of_ble_eq_true rfl, Nat.le_of_ble_eq_true rfl⟩ ⟨Nat.le_refl 0, Nat.le_refl 0⟩ _ rfl (Nat.le_of_ble_eq_true rfl) dX5_loopsThatMeet_31 ?_
        refine r_istore hC [(5, .int r10), (0, .ref (ad 50)), (1, .int p1), (2, .int p2), (3, .int x5), (4, .int x6)] dX5_loopsThatMeet_34 (by decide) rfl ?_
        refine r_iconst hC dX5_loopsThatMeet_36 ic_0 ?_
        refine r_istore hC [(6, .int 0), (5, .int r10), (0, .ref (ad 50)), (1, .int p1), (2, .int p2), (3, .int x5), (4, .int x6)] dX5_loopsThatMeet_37 (by decide) rfl ?_
        obtain ⟨K86_14, eK86_14, hf⟩ := oj_some hf
        have J86_14 : ∀ (x12 : Int32) (s13 : Nat → Int32), K86_14 x12 s13 = some (ra, z5_point) → GG X 7 0 0 (w5 cy ad c5_legs c5_length c5_ways c5_units c5_stuffOf s13 c6_bytes c6_sizes c6_weights) [(0, .ref (ad 50)), (1, .int p1), (2, .int p2), (3, .int x12), (4, .int x6)] 86 [] := by
          intro x12 s13 hf
          replace hf := oa2 eK86_14 hf
          refine r_iinc hC [(4, .int (x6 + 1)), (0, .ref (ad 50)), (1, .int p1), (2, .int p2), (3, .int x12)] (x6 + 1) dX5_loopsThatMeet_86 4 rfl (ii_1 _) (by decide) rfl ?_
          refine r_goto (tgt := 15) hC dX5_loopsThatMeet_89 (by decide) ?_
          refine r_sub [(0, .ref (ad 50)), (1, .int p1), (2, .int p2), (3, .int x12), (4, .int (x6 + 1))] [1, 2, 3, 4, 0] rfl ?_
          exact ih x12 (x6 + 1) s13 hf
        have L39 : ∀ (n : Nat) (x15 : Int32) (x16 : Int32) (s17 : Nat → Int32), fX5_loopsThatMeet_L39 c5_ways c5_units p1 p2 x6 r10 K86_14 n x15 x16 s17 = some (ra, z5_point) → GG X 7 0 0 (w5 cy ad c5_legs c5_length c5_ways c5_units c5_stuffOf s17 c6_bytes c6_sizes c6_weights) [(0, .ref (ad 50)), (1, .int p1), (2, .int p2), (3, .int x15), (4, .int x6), (5, .int r10), (6, .int x16)] 39 [] := by
          intro n
          induction n with
          | zero => intro x15 x16 s17 hf; cases (show none = some _ from hf)
          | succ n ih =>
            intro x15 x16 s17 hf
            rw [fX5_loopsThatMeet_L39] at hf
            refine r_iload hC dX5_loopsThatMeet_39 6 rfl ?_
            refine r_aload_n hC dX5_loopsThatMeet_41 rfl 0 rfl ?_
            refine r_get hC hin5 0 rfl rfl 2 (by decide) rfl hw2 rfl dX5_loopsThatMeet_42 ?_
            refine r_iload hC dX5_loopsThatMeet_45 4 rfl ?_
            obtain ⟨g18, hf⟩ := og_some hf
            refine r_iald hC 2 rfl g18 dX5_loopsThatMeet_47 ?_
            refine r_icmp_ge (tgt := 86) hC dX5_loopsThatMeet_48 (by decide) (fun c19 => ?_) (fun c19 => ?_)
            · replace hf := o_pos hf c19
              refine r_sub [(0, .ref (ad 50)), (1, .int p1), (2, .int p2), (3, .int x15), (4, .int x6)] [0, 1, 2, 3, 4] rfl ?_
              exact J86_14 x15 s17 hf
            · replace hf := o_neg hf c19
              refine r_aload_n hC dX5_loopsThatMeet_51 rfl 0 rfl ?_
              refine r_get hC hin5 0 rfl rfl 4 (by decide) rfl hw3 rfl dX5_loopsThatMeet_52 ?_
              refine r_iload hC dX5_loopsThatMeet_55 5 rfl ?_
              refine r_dup2 hC dX5_loopsThatMeet_57 rfl rfl ?_
              obtain ⟨g20, hf⟩ := og_some hf
              refine r_iald hC 4 rfl g20 dX5_loopsThatMeet_58 ?_
              refine r_aload_n hC dX5_loopsThatMeet_59 rfl 0 rfl ?_
              refine r_get hC hin5 0 rfl rfl 1 (by decide) rfl hw1 rfl dX5_loopsThatMeet_60 ?_
              refine r_iload hC dX5_loopsThatMeet_63 4 rfl ?_
              obtain ⟨g21, hf⟩ := og_some hf
              refine r_iald hC 1 rfl g21 dX5_loopsThatMeet_65 ?_
              obtain ⟨r22, h23, hf⟩ := ob_some hf
              refine r_si (st := [.int (s17 (Int32.toNatClampNeg r10)), .int r10, .ref (ad 1505)]) hC (kX5_signOf l D cy (c5_ways (Int32.toNatClampNeg x6)) h23) gX5_loopsThatMeet_X5_signOf rfl ⟨rfl, rfl⟩ ydX5_signOf ⟨Nat.le_of_ble_eq_true rfl, Nat.le_of_ble_eq_true rfl⟩ ⟨Nat.le_refl 0, Nat.le_refl 0⟩ _ rfl (Nat.le_of_ble_eq_true rfl) dX5_loopsThatMeet_66 ?_
              refine r_iadd hC dX5_loopsThatMeet_69 ?_
              obtain ⟨g24, hf⟩ := og_some hf
              refine r_iast hC 4 rfl g24 dX5_loopsThatMeet_70 (w5 cy ad c5_legs c5_length c5_ways c5_units c5_stuffOf (upd s17 (Int32.toNatClampNeg r10) ((s17 (Int32.toNatClampNeg r10)) + r22)) c6_bytes c6_sizes c6_weights) rfl ?_
              refine r_iload_n hC dX5_loopsThatMeet_71 rfl 3 rfl ?_
              refine r_aload_n hC dX5_loopsThatMeet_72 rfl 0 rfl ?_
              refine r_iload_n hC dX5_loopsThatMeet_73 rfl 1 rfl ?_
              refine r_iload_n hC dX5_loopsThatMeet_74 rfl 2 rfl ?_
              obtain ⟨r25, h26, hf⟩ := ob_some hf
              refine r_vi (st := [.int x15]) hC (kX5_loopsThatMeetPoint l D cy ad c5_legs c5_length c5_ways c5_units c5_stuffOf (upd s17 (Int32.toNatClampNeg r10) ((s17 (Int32.toNatClampNeg r10)) + r22)) c6_bytes c6_sizes c6_weights p1 p2 h26) gX5_loopsThatMeet_X5_loopsThatMeetPoint rfl ⟨rfl, rfl⟩ ydX5_loopsThatMeetPoint ⟨Nat.le_of_ble_eq_true rfl, Nat.le_of_ble_eq_true rfl⟩ ⟨Nat.le_refl 0, Nat.le_refl 0⟩ 0 rfl rfl [] [] rfl _ rfl (Nat.le_of_ble_eq_true rfl) dX5_loopsThatMeet_75 (w5 cy ad c5_legs c5_length c5_ways c5_units c5_stuffOf (upd s17 (Int32.toNatClampNeg r10) ((s17 (Int32.toNatClampNeg r10)) + r22)) c6_bytes c6_sizes c6_weights) rfl ?_
              refine r_ior hC dX5_loopsThatMeet_78 ?_
              refine r_topi (fun x27 ex27 => ?_)
              replace hf := olet_some hf ex27
              refine r_istore_n hC [(3, .int x27), (0, .ref (ad 50)), (1, .int p1), (2, .int p2), (4, .int x6), (5, .int r10), (6, .int x16)] dX5_loopsThatMeet_79 rfl (by decide) rfl ?_
              refine r_iinc hC [(6, .int (x16 + 1)), (3, .int x27), (0, .ref (ad 50)), (1, .int p1), (2, .int p2), (4, .int x6), (5, .int r10)] (x16 + 1) dX5_loopsThatMeet_80 6 rfl (ii_1 _) (by decide) rfl ?_
              refine r_goto (tgt := 39) hC dX5_loopsThatMeet_83 (by decide) ?_
              refine r_sub [(0, .ref (ad 50)), (1, .int p1), (2, .int p2), (3, .int x27), (4, .int x6), (5, .int r10), (6, .int (x16 + 1))] [2, 3, 4, 1, 5, 6, 0] rfl ?_
              exact ih x27 (x16 + 1) (upd s17 (Int32.toNatClampNeg r10) ((s17 (Int32.toNatClampNeg r10)) + r22)) hf
        refine r_sub [(0, .ref (ad 50)), (1, .int p1), (2, .int p2), (3, .int x5), (4, .int x6), (5, .int r10), (6, .int 0)] [2, 3, 4, 5, 6, 1, 0] rfl ?_
        exact L39 N x5 0 s7 hf
  refine r_sub [(0, .ref (ad 50)), (1, .int p1), (2, .int p2), (3, .int r3), (4, .int 0)] [2, 3, 4, 1, 0] rfl ?_
  exact L15 N r3 0 s1 hf
noncomputable def fX5_leastLoop_L39 (r7 : Int32) (s8 : Nat → Int32) : Nat → Int32 → Option (Int32 × (Nat → Int32))
  | 0, _ => none
  | n + 1, x10 => (if 20 < x10 then some ((-9), s8) else (if (r7 &&& (1 <<< (x10 &&& 31))) = 0 then some (x10, s8) else fX5_leastLoop_L39 r7 s8 n (x10 + 1)))
noncomputable def fX5_leastLoop (N : Nat) (c5_legs : Int32) (c5_ways : Nat → Int32) (c5_units : Nat → Int32) (c5_point : Nat → Int32) (p1 : Int32) (p2 : Int32) (p3 : Int32) : Option (Int32 × (Nat → Int32)) := og (vp_in p1 12) ((if (c5_units (Int32.toNatClampNeg p1)) < 3 then some ((-9), c5_point) else ob (fX5_isAcross c5_ways p1 p2) (fun (r3 : Int32) => (if r3 = 0 then some ((-9), c5_point) else (if p3 ≤ 20 then ob2 (fX5_loopsThatMeet N c5_legs c5_ways c5_units c5_point p1 p2) (fun (r7 : Int32) (s8 : Nat → Int32) => fX5_leastLoop_L39 r7 s8 N p3) else some ((-9), c5_point))))))
theorem ydX5_leastLoop : yX5_leastLoop.cls = RX5 ∧ yX5_leastLoop.cls ≠ "java/lang/invoke/MethodHandle" ∧ yX5_leastLoop.cls ≠ "java/lang/invoke/VarHandle" ∧ (parseMethodDescriptor yX5_leastLoop.desc).map (fun d => d.parameters.length) = some 3 := by decide +kernel
set_option maxHeartbeats 8000000 in
set_option maxRecDepth 100000 in
theorem kX5_leastLoop (l : Launch) (D : va_G) (cy : Nat → ClassId) (ad : Nat → Nat) (c5_legs : Int32) (c5_length : Int32) (c5_ways : Nat → Int32) (c5_units : Nat → Int32) (c5_stuffOf : Nat → Int32) (c5_point : Nat → Int32) (c6_bytes : Nat → Int32) (c6_sizes : Nat → Int32) (c6_weights : Nat → Int32) (p1 : Int32) (p2 : Int32) (p3 : Int32) (N : Nat) {ra : Int32} {z5_point : Nat → Int32} (hf : fX5_leastLoop N c5_legs c5_ways c5_units c5_point p1 p2 p3 = some (ra, z5_point)) : CI l D cy yX5_leastLoop wsX5_leastLoop ({ frames := 5, cells := 0, slots := 0, locals := 119 } : Room) [.ref (ad 50), .int p1, .int p2, .int p3] (w5 cy ad c5_legs c5_length c5_ways c5_units c5_stuffOf c5_point c6_bytes c6_sizes c6_weights) ra (w5 cy ad c5_legs c5_length c5_ways c5_units c5_stuffOf z5_point c6_bytes c6_sizes c6_weights) := by
  unfold fX5_leastLoop at hf
  refine c_of_i (ty := .int) (own := RX5) (by decide) rfl rfl (Nat.le_of_ble_eq_true rfl) (fun X hC hRet => ?_)
  refine r_sub [(0, .ref (ad 50)), (1, .int p1), (2, .int p2), (3, .int p3)] [0, 1, 2, 3] rfl ?_
  have hin5 : ∀ w ∈ wsX50, w ∈ wsX5_leastLoop := fun w h => List.mem_cons_of_mem _ (List.mem_append_right _ h)
  have hw0 : Cond.fieldLink RX5 15 "HotPipes$Run" "units" "[I" ∈ wsX5_leastLoop := List.mem_of_getElem? (i := 1) rfl
  refine r_aload_n hC dX5_leastLoop_0 rfl 0 rfl ?_
  refine r_get hC hin5 0 rfl rfl 2 (by decide) rfl hw0 rfl dX5_leastLoop_1 ?_
  refine r_iload_n hC dX5_leastLoop_4 rfl 1 rfl ?_
  obtain ⟨g1, hf⟩ := og_some hf
  refine r_iald hC 2 rfl g1 dX5_leastLoop_5 ?_
  refine r_iconst hC dX5_leastLoop_6 ic_3 ?_
  refine r_icmp_lt (tgt := 25) hC dX5_leastLoop_7 (by decide) (fun c2 => ?_) (fun c2 => ?_)
  · replace hf := o_pos hf c2
    refine r_bipush hC dX5_leastLoop_25 bp_m9 ?_
    obtain ⟨rfl, rfl⟩ := so_2 hf
    exact hRet _ _ _ dX5_leastLoop_27 rfl
  · replace hf := o_neg hf c2
    refine r_aload_n hC dX5_leastLoop_10 rfl 0 rfl ?_
    refine r_iload_n hC dX5_leastLoop_11 rfl 1 rfl ?_
    refine r_iload_n hC dX5_leastLoop_12 rfl 2 rfl ?_
    obtain ⟨r3, h4, hf⟩ := ob_some hf
    refine r_vi (st := []) hC (kX5_isAcross l D cy ad c5_legs c5_length c5_ways c5_units c5_stuffOf c5_point c6_bytes c6_sizes c6_weights p1 p2 h4) gX5_leastLoop_X5_isAcross rfl ⟨rfl, rfl⟩ ydX5_isAcross ⟨Nat.le_of_ble_eq_true rfl, Nat.le_of_ble_eq_true rfl⟩ ⟨Nat.le_refl 0, Nat.le_refl 0⟩ 0 rfl rfl [] [] rfl _ rfl (Nat.le_of_ble_eq_true rfl) dX5_leastLoop_13 (w5 cy ad c5_legs c5_length c5_ways c5_units c5_stuffOf c5_point c6_bytes c6_sizes c6_weights) rfl ?_
    refine r_if_eq (tgt := 25) hC dX5_leastLoop_16 (by decide) (fun c5 => ?_) (fun c5 => ?_)
    · replace hf := o_pos hf c5
      refine r_bipush hC dX5_leastLoop_25 bp_m9 ?_
      obtain ⟨rfl, rfl⟩ := so_2 hf
      exact hRet _ _ _ dX5_leastLoop_27 rfl
    · replace hf := o_neg hf c5
      refine r_iload_n hC dX5_leastLoop_19 rfl 3 rfl ?_
      refine r_bipush hC dX5_leastLoop_20 bp_20 ?_
      refine r_icmp_le (tgt := 28) hC dX5_leastLoop_22 (by decide) (fun c6 => ?_) (fun c6 => ?_)
      · replace hf := o_pos hf c6
        refine r_aload_n hC dX5_leastLoop_28 rfl 0 rfl ?_
        refine r_iload_n hC dX5_leastLoop_29 rfl 1 rfl ?_
        refine r_iload_n hC dX5_leastLoop_30 rfl 2 rfl ?_
        obtain ⟨r7, s8, h9, hf⟩ := ob2_some hf
        refine r_vi (st := []) hC (kX5_loopsThatMeet l D cy ad c5_legs c5_length c5_ways c5_units c5_stuffOf c5_point c6_bytes c6_sizes c6_weights p1 p2 N h9) gX5_leastLoop_X5_loopsThatMeet rfl ⟨rfl, rfl⟩ ydX5_loopsThatMeet ⟨Nat.le_of_ble_eq_true rfl, Nat.le_of_ble_eq_true rfl⟩ ⟨Nat.le_refl 0, Nat.le_refl 0⟩ 0 rfl rfl [] [] rfl _ rfl (Nat.le_of_ble_eq_true rfl) dX5_leastLoop_31 (w5 cy ad c5_legs c5_length c5_ways c5_units c5_stuffOf s8 c6_bytes c6_sizes c6_weights) rfl ?_
        refine r_istore hC [(4, .int r7), (0, .ref (ad 50)), (1, .int p1), (2, .int p2), (3, .int p3)] dX5_leastLoop_34 (by decide) rfl ?_
        refine r_iload_n hC dX5_leastLoop_36 rfl 4 rfl ?_
        refine r_istore hC [(5, .int p3), (4, .int r7), (0, .ref (ad 50)), (1, .int p1), (2, .int p2), (3, .int p3)] dX5_leastLoop_37 (by decide) rfl ?_
        have L39 : ∀ (n : Nat) (x10 : Int32), fX5_leastLoop_L39 r7 s8 n x10 = some (ra, z5_point) → GG X 6 0 0 (w5 cy ad c5_legs c5_length c5_ways c5_units c5_stuffOf s8 c6_bytes c6_sizes c6_weights) [(4, .int r7), (5, .int x10)] 39 [] := by
          intro n
          induction n with
          | zero => intro x10 hf; cases (show none = some _ from hf)
          | succ n ih =>
            intro x10 hf
            rw [fX5_leastLoop_L39] at hf
            refine r_iload hC dX5_leastLoop_39 1 rfl ?_
            refine r_bipush hC dX5_leastLoop_41 bp_20 ?_
            refine r_icmp_gt (tgt := 65) hC dX5_leastLoop_43 (by decide) (fun c11 => ?_) (fun c11 => ?_)
            · replace hf := o_pos hf c11
              refine r_bipush hC dX5_leastLoop_65 bp_m9 ?_
              obtain ⟨rfl, rfl⟩ := so_2 hf
              exact hRet _ _ _ dX5_leastLoop_67 rfl
            · replace hf := o_neg hf c11
              refine r_iload hC dX5_leastLoop_46 0 rfl ?_
              refine r_iconst hC dX5_leastLoop_48 ic_1 ?_
              refine r_iload hC dX5_leastLoop_49 1 rfl ?_
              refine r_ishl hC dX5_leastLoop_51 ?_
              refine r_iand hC dX5_leastLoop_52 ?_
              refine r_if_ne (tgt := 59) hC dX5_leastLoop_53 (by decide) (fun c12 => ?_) (fun c12 => ?_)
              · replace hf := o_neg hf c12
                refine r_iinc hC [(5, .int (x10 + 1)), (4, .int r7)] (x10 + 1) dX5_leastLoop_59 1 rfl (ii_1 _) (by decide) rfl ?_
                refine r_goto (tgt := 39) hC dX5_leastLoop_62 (by decide) ?_
                refine r_sub [(4, .int r7), (5, .int (x10 + 1))] [1, 0] rfl ?_
                exact ih (x10 + 1) hf
              · replace hf := o_pos hf c12
                refine r_iload hC dX5_leastLoop_56 1 rfl ?_
                obtain ⟨rfl, rfl⟩ := so_2 hf
                exact hRet _ _ _ dX5_leastLoop_58 rfl
        refine r_sub [(4, .int r7), (5, .int p3)] [1, 0] rfl ?_
        exact L39 N p3 hf
      · replace hf := o_neg hf c6
        refine r_bipush hC dX5_leastLoop_25 bp_m9 ?_
        obtain ⟨rfl, rfl⟩ := so_2 hf
        exact hRet _ _ _ dX5_leastLoop_27 rfl
noncomputable def fX5_mixInto_L2 (c5_legs : Int32) (c5_ways : Nat → Int32) (c5_units : Nat → Int32) (c5_stuffOf : Nat → Int32) : Nat → Int64 → Int32 → Option (Int64)
  | 0, _, _ => none
  | n + 1, x1, x2 => (if c5_legs ≤ x2 then some x1 else og (vp_in x2 12) (olet ((31 * x1) + (Int32.toInt64 (c5_ways (Int32.toNatClampNeg x2)))) (fun (x5 : Int64) => og (vp_in x2 12) (olet ((31 * x5) + (Int32.toInt64 (c5_units (Int32.toNatClampNeg x2)))) (fun (x7 : Int64) => og (vp_in x2 12) (olet ((31 * x7) + (Int32.toInt64 (c5_stuffOf (Int32.toNatClampNeg x2)))) (fun (x9 : Int64) => fX5_mixInto_L2 c5_legs c5_ways c5_units c5_stuffOf n x9 (x2 + 1))))))))
noncomputable def fX5_mixInto (N : Nat) (c5_legs : Int32) (c5_ways : Nat → Int32) (c5_units : Nat → Int32) (c5_stuffOf : Nat → Int32) (p1 : Int64) : Option (Int64) := fX5_mixInto_L2 c5_legs c5_ways c5_units c5_stuffOf N p1 0
theorem ydX5_mixInto : yX5_mixInto.cls = RX5 ∧ yX5_mixInto.cls ≠ "java/lang/invoke/MethodHandle" ∧ yX5_mixInto.cls ≠ "java/lang/invoke/VarHandle" ∧ (parseMethodDescriptor yX5_mixInto.desc).map (fun d => d.parameters.length) = some 1 := by decide +kernel
set_option maxHeartbeats 8000000 in
set_option maxRecDepth 100000 in
theorem kX5_mixInto (l : Launch) (D : va_G) (cy : Nat → ClassId) (ad : Nat → Nat) (c5_legs : Int32) (c5_length : Int32) (c5_ways : Nat → Int32) (c5_units : Nat → Int32) (c5_stuffOf : Nat → Int32) (c5_point : Nat → Int32) (c6_bytes : Nat → Int32) (c6_sizes : Nat → Int32) (c6_weights : Nat → Int32) (p1 : Int64) (N : Nat) {ra : Int64} (hf : fX5_mixInto N c5_legs c5_ways c5_units c5_stuffOf p1 = some ra) : CL l D cy yX5_mixInto wsX5_mixInto ({ frames := 0, cells := 0, slots := 0, locals := 0 } : Room) [.ref (ad 50), .long p1] (w5 cy ad c5_legs c5_length c5_ways c5_units c5_stuffOf c5_point c6_bytes c6_sizes c6_weights) ra (w5 cy ad c5_legs c5_length c5_ways c5_units c5_stuffOf c5_point c6_bytes c6_sizes c6_weights) := by
  unfold fX5_mixInto at hf
  refine c_of_l (own := RX5) (by decide) rfl rfl (Nat.le_of_ble_eq_true rfl) (fun X hC hRet => ?_)
  refine r_sub [(0, .ref (ad 50)), (1, .long p1)] [0, 1] rfl ?_
  have hin5 : ∀ w ∈ wsX50, w ∈ wsX5_mixInto := fun w h => List.mem_cons_of_mem _ (List.mem_append_right _ h)
  have hw0 : Cond.fieldLink RX5 24 "HotPipes$Run" "legs" "I" ∈ wsX5_mixInto := List.mem_of_getElem? (i := 1) rfl
  have hw1 : Cond.constantLong RX5 91 (31) ∈ wsX5_mixInto := List.mem_of_getElem? (i := 2) rfl
  have hw2 : Cond.fieldLink RX5 9 "HotPipes$Run" "ways" "[I" ∈ wsX5_mixInto := List.mem_of_getElem? (i := 3) rfl
  have hw3 : Cond.fieldLink RX5 15 "HotPipes$Run" "units" "[I" ∈ wsX5_mixInto := List.mem_of_getElem? (i := 4) rfl
  have hw4 : Cond.fieldLink RX5 18 "HotPipes$Run" "stuffOf" "[I" ∈ wsX5_mixInto := List.mem_of_getElem? (i := 5) rfl
  refine r_iconst hC dX5_mixInto_0 ic_0 ?_
  refine r_istore_n hC [(3, .int 0), (0, .ref (ad 50)), (1, .long p1)] dX5_mixInto_1 rfl (by decide) rfl ?_
  have L2 : ∀ (n : Nat) (x1 : Int64) (x2 : Int32), fX5_mixInto_L2 c5_legs c5_ways c5_units c5_stuffOf n x1 x2 = some ra → GG X 4 0 0 (w5 cy ad c5_legs c5_length c5_ways c5_units c5_stuffOf c5_point c6_bytes c6_sizes c6_weights) [(0, .ref (ad 50)), (1, .long x1), (3, .int x2)] 2 [] := by
    intro n
    induction n with
    | zero => intro x1 x2 hf; cases (show none = some _ from hf)
    | succ n ih =>
      intro x1 x2 hf
      rw [fX5_mixInto_L2] at hf
      refine r_iload_n hC dX5_mixInto_2 rfl 2 rfl ?_
      refine r_aload_n hC dX5_mixInto_3 rfl 0 rfl ?_
      refine r_get hC hin5 0 rfl rfl 5 (by decide) rfl hw0 rfl dX5_mixInto_4 ?_
      refine r_icmp_ge (tgt := 58) hC dX5_mixInto_7 (by decide) (fun c3 => ?_) (fun c3 => ?_)
      · replace hf := o_pos hf c3
        refine r_lload_n hC dX5_mixInto_58 rfl 1 rfl ?_
        obtain rfl := so_1 hf
        exact hRet _ _ _ dX5_mixInto_59
      · replace hf := o_neg hf c3
        refine r_ldc2 hC hw1 dX5_mixInto_10 ?_
        refine r_lload_n hC dX5_mixInto_13 rfl 1 rfl ?_
        refine r_lmul hC dX5_mixInto_14 ?_
        refine r_aload_n hC dX5_mixInto_15 rfl 0 rfl ?_
        refine r_get hC hin5 0 rfl rfl 1 (by decide) rfl hw2 rfl dX5_mixInto_16 ?_
        refine r_iload_n hC dX5_mixInto_19 rfl 2 rfl ?_
        obtain ⟨g4, hf⟩ := og_some hf
        refine r_iald hC 1 rfl g4 dX5_mixInto_20 ?_
        refine r_i2l hC dX5_mixInto_21 ?_
        refine r_ladd hC dX5_mixInto_22 ?_
        refine r_topl (fun x5 ex5 => ?_)
        replace hf := olet_some hf ex5
        refine r_lstore_n hC [(1, .long x5), (0, .ref (ad 50)), (3, .int x2)] dX5_mixInto_23 rfl (by decide) rfl ?_
        refine r_ldc2 hC hw1 dX5_mixInto_24 ?_
        refine r_lload_n hC dX5_mixInto_27 rfl 0 rfl ?_
        refine r_lmul hC dX5_mixInto_28 ?_
        refine r_aload_n hC dX5_mixInto_29 rfl 1 rfl ?_
        refine r_get hC hin5 0 rfl rfl 2 (by decide) rfl hw3 rfl dX5_mixInto_30 ?_
        refine r_iload_n hC dX5_mixInto_33 rfl 2 rfl ?_
        obtain ⟨g6, hf⟩ := og_some hf
        refine r_iald hC 2 rfl g6 dX5_mixInto_34 ?_
        refine r_i2l hC dX5_mixInto_35 ?_
        refine r_ladd hC dX5_mixInto_36 ?_
        refine r_topl (fun x7 ex7 => ?_)
        replace hf := olet_some hf ex7
        refine r_lstore_n hC [(1, .long x7), (0, .ref (ad 50)), (3, .int x2)] dX5_mixInto_37 rfl (by decide) rfl ?_
        refine r_ldc2 hC hw1 dX5_mixInto_38 ?_
        refine r_lload_n hC dX5_mixInto_41 rfl 0 rfl ?_
        refine r_lmul hC dX5_mixInto_42 ?_
        refine r_aload_n hC dX5_mixInto_43 rfl 1 rfl ?_
        refine r_get hC hin5 0 rfl rfl 3 (by decide) rfl hw4 rfl dX5_mixInto_44 ?_
        refine r_iload_n hC dX5_mixInto_47 rfl 2 rfl ?_
        obtain ⟨g8, hf⟩ := og_some hf
        refine r_iald hC 3 rfl g8 dX5_mixInto_48 ?_
        refine r_i2l hC dX5_mixInto_49 ?_
        refine r_ladd hC dX5_mixInto_50 ?_
        refine r_topl (fun x9 ex9 => ?_)
        replace hf := olet_some hf ex9
        refine r_lstore_n hC [(1, .long x9), (0, .ref (ad 50)), (3, .int x2)] dX5_mixInto_51 rfl (by decide) rfl ?_
        refine r_iinc hC [(3, .int (x2 + 1)), (1, .long x9), (0, .ref (ad 50))] (x2 + 1) dX5_mixInto_52 2 rfl (ii_1 _) (by decide) rfl ?_
        refine r_goto (tgt := 2) hC dX5_mixInto_55 (by decide) ?_
        refine r_sub [(0, .ref (ad 50)), (1, .long x9), (3, .int (x2 + 1))] [2, 1, 0] rfl ?_
        exact ih x9 (x2 + 1) hf
  refine r_sub [(0, .ref (ad 50)), (1, .long p1), (3, .int 0)] [1, 2, 0] rfl ?_
  exact L2 N p1 0 hf
