noncomputable def fX4_made (c4_made : Int32) : Option (Int32) := some c4_made
theorem ydX4_made : yX4_made.cls = RX4 ∧ yX4_made.cls ≠ "java/lang/invoke/MethodHandle" ∧ yX4_made.cls ≠ "java/lang/invoke/VarHandle" ∧ (parseMethodDescriptor yX4_made.desc).map (fun d => d.parameters.length) = some 0 := by decide +kernel
set_option maxHeartbeats 8000000 in
set_option maxRecDepth 100000 in
theorem kX4_made (l : Launch) (D : va_G) (cy : Nat → ClassId) (ad : Nat → Nat) (c4_made : Int32) (c4_kinds : Nat → Int32) (c4_places : Nat → Int32) (c4_rates : Nat → Int32) (c4_readings : Nat → Int32) (c4_bearing : Nat → Int32) (c5_legs : Int32) (c5_length : Int32) (c5_ways : Nat → Int32) (c5_units : Nat → Int32) (c5_stuffOf : Nat → Int32) (c5_point : Nat → Int32) (c6_bytes : Nat → Int32) (c6_sizes : Nat → Int32) (c6_weights : Nat → Int32) {ra : Int32} (hf : fX4_made c4_made = some ra) : CI l D cy yX4_made wsX4_made ({ frames := 0, cells := 0, slots := 0, locals := 0 } : Room) [.ref (ad 40)] (w4 cy ad c4_made c4_kinds c4_places c4_rates c4_readings c4_bearing c5_legs c5_length c5_ways c5_units c5_stuffOf c5_point c6_bytes c6_sizes c6_weights) ra (w4 cy ad c4_made c4_kinds c4_places c4_rates c4_readings c4_bearing c5_legs c5_length c5_ways c5_units c5_stuffOf c5_point c6_bytes c6_sizes c6_weights) := by
  unfold fX4_made at hf
  refine c_of_i (ty := .int) (own := RX4) (by decide) rfl rfl (Nat.le_of_ble_eq_true rfl) (fun X hC hRet => ?_)
  refine r_sub [(0, .ref (ad 40))] [0] rfl ?_
  have hin4 : ∀ w ∈ wsX40, w ∈ wsX4_made := fun w h => List.mem_cons_of_mem _ (List.mem_append_right _ h)
  have hw0 : Cond.fieldLink RX4 28 "HotPipes$Rests" "made" "I" ∈ wsX4_made := List.mem_of_getElem? (i := 1) rfl
  refine r_aload_n hC dX4_made_0 rfl 0 rfl ?_
  refine r_get hC hin4 0 rfl rfl 6 (by decide) rfl hw0 rfl dX4_made_1 ?_
  obtain rfl := so_1 hf
  exact hRet _ _ _ dX4_made_4 rfl
noncomputable def fX4_isGone (c4_kinds : Nat → Int32) (p1 : Int32) : Option (Int32) := og (vp_in p1 12) ((if (c4_kinds (Int32.toNatClampNeg p1)) = (-1) then some 1 else some 0))
theorem ydX4_isGone : yX4_isGone.cls = RX4 ∧ yX4_isGone.cls ≠ "java/lang/invoke/MethodHandle" ∧ yX4_isGone.cls ≠ "java/lang/invoke/VarHandle" ∧ (parseMethodDescriptor yX4_isGone.desc).map (fun d => d.parameters.length) = some 1 := by decide +kernel
set_option maxHeartbeats 8000000 in
set_option maxRecDepth 100000 in
theorem kX4_isGone (l : Launch) (D : va_G) (cy : Nat → ClassId) (ad : Nat → Nat) (c4_made : Int32) (c4_kinds : Nat → Int32) (c4_places : Nat → Int32) (c4_rates : Nat → Int32) (c4_readings : Nat → Int32) (c4_bearing : Nat → Int32) (c5_legs : Int32) (c5_length : Int32) (c5_ways : Nat → Int32) (c5_units : Nat → Int32) (c5_stuffOf : Nat → Int32) (c5_point : Nat → Int32) (c6_bytes : Nat → Int32) (c6_sizes : Nat → Int32) (c6_weights : Nat → Int32) (p1 : Int32) {ra : Int32} (hf : fX4_isGone c4_kinds p1 = some ra) : CI l D cy yX4_isGone wsX4_isGone ({ frames := 0, cells := 0, slots := 0, locals := 0 } : Room) [.ref (ad 40), .int p1] (w4 cy ad c4_made c4_kinds c4_places c4_rates c4_readings c4_bearing c5_legs c5_length c5_ways c5_units c5_stuffOf c5_point c6_bytes c6_sizes c6_weights) ra (w4 cy ad c4_made c4_kinds c4_places c4_rates c4_readings c4_bearing c5_legs c5_length c5_ways c5_units c5_stuffOf c5_point c6_bytes c6_sizes c6_weights) := by
  unfold fX4_isGone at hf
  refine c_of_i (ty := .boolean) (own := RX4) (by decide) rfl rfl (Nat.le_of_ble_eq_true rfl) (fun X hC hRet => ?_)
  refine r_sub [(0, .ref (ad 40)), (1, .int p1)] [0, 1] rfl ?_
  have hin4 : ∀ w ∈ wsX40, w ∈ wsX4_isGone := fun w h => List.mem_cons_of_mem _ (List.mem_append_right _ h)
  have hw0 : Cond.fieldLink RX4 9 "HotPipes$Rests" "kinds" "[I" ∈ wsX4_isGone := List.mem_of_getElem? (i := 1) rfl
  refine r_aload_n hC dX4_isGone_0 rfl 0 rfl ?_
  refine r_get hC hin4 0 rfl rfl 1 (by decide) rfl hw0 rfl dX4_isGone_1 ?_
  refine r_iload_n hC dX4_isGone_4 rfl 1 rfl ?_
  obtain ⟨g1, hf⟩ := og_some hf
  refine r_iald hC 1 rfl g1 dX4_isGone_5 ?_
  refine r_iconst hC dX4_isGone_6 ic_m1 ?_
  refine r_icmp_ne (tgt := 14) hC dX4_isGone_7 (by decide) (fun c2 => ?_) (fun c2 => ?_)
  · replace hf := o_neg hf c2
    refine r_iconst hC dX4_isGone_14 ic_0 ?_
    obtain rfl := so_1 hf
    exact hRet _ _ _ dX4_isGone_15 nb_0
  · replace hf := o_pos hf c2
    refine r_iconst hC dX4_isGone_10 ic_1 ?_
    refine r_goto (tgt := 15) hC dX4_isGone_11 (by decide) ?_
    obtain rfl := so_1 hf
    exact hRet _ _ _ dX4_isGone_15 nb_1
noncomputable def fX4_kept_L4 (c4_made : Int32) (c4_kinds : Nat → Int32) : Nat → Int32 → Int32 → Option (Int32)
  | 0, _, _ => none
  | n + 1, x1, x2 => (if c4_made ≤ x2 then some x1 else ob (fX4_isGone c4_kinds x2) (fun (r4 : Int32) => ob ((if r4 = 0 then some 1 else some 0)) (fun (t6 : Int32) => olet (x1 + t6) (fun (x7 : Int32) => fX4_kept_L4 c4_made c4_kinds n x7 (x2 + 1)))))
noncomputable def fX4_kept (N : Nat) (c4_made : Int32) (c4_kinds : Nat → Int32) : Option (Int32) := fX4_kept_L4 c4_made c4_kinds N 0 0
theorem ydX4_kept : yX4_kept.cls = RX4 ∧ yX4_kept.cls ≠ "java/lang/invoke/MethodHandle" ∧ yX4_kept.cls ≠ "java/lang/invoke/VarHandle" ∧ (parseMethodDescriptor yX4_kept.desc).map (fun d => d.parameters.length) = some 0 := by decide +kernel
set_option maxHeartbeats 8000000 in
set_option maxRecDepth 100000 in
theorem kX4_kept (l : Launch) (D : va_G) (cy : Nat → ClassId) (ad : Nat → Nat) (c4_made : Int32) (c4_kinds : Nat → Int32) (c4_places : Nat → Int32) (c4_rates : Nat → Int32) (c4_readings : Nat → Int32) (c4_bearing : Nat → Int32) (c5_legs : Int32) (c5_length : Int32) (c5_ways : Nat → Int32) (c5_units : Nat → Int32) (c5_stuffOf : Nat → Int32) (c5_point : Nat → Int32) (c6_bytes : Nat → Int32) (c6_sizes : Nat → Int32) (c6_weights : Nat → Int32) (N : Nat) {ra : Int32} (hf : fX4_kept N c4_made c4_kinds = some ra) : CI l D cy yX4_kept wsX4_kept ({ frames := 1, cells := 0, slots := 0, locals := 21 } : Room) [.ref (ad 40)] (w4 cy ad c4_made c4_kinds c4_places c4_rates c4_readings c4_bearing c5_legs c5_length c5_ways c5_units c5_stuffOf c5_point c6_bytes c6_sizes c6_weights) ra (w4 cy ad c4_made c4_kinds c4_places c4_rates c4_readings c4_bearing c5_legs c5_length c5_ways c5_units c5_stuffOf c5_point c6_bytes c6_sizes c6_weights) := by
  unfold fX4_kept at hf
  refine c_of_i (ty := .int) (own := RX4) (by decide) rfl rfl (Nat.le_of_ble_eq_true rfl) (fun X hC hRet => ?_)
  refine r_sub [(0, .ref (ad 40))] [0] rfl ?_
  have hin4 : ∀ w ∈ wsX40, w ∈ wsX4_kept := fun w h => List.mem_cons_of_mem _ (List.mem_append_right _ h)
  have hw0 : Cond.fieldLink RX4 28 "HotPipes$Rests" "made" "I" ∈ wsX4_kept := List.mem_of_getElem? (i := 1) rfl
  refine r_iconst hC dX4_kept_0 ic_0 ?_
  refine r_istore_n hC [(1, .int 0), (0, .ref (ad 40))] dX4_kept_1 rfl (by decide) rfl ?_
  refine r_iconst hC dX4_kept_2 ic_0 ?_
  refine r_istore_n hC [(2, .int 0), (1, .int 0), (0, .ref (ad 40))] dX4_kept_3 rfl (by decide) rfl ?_
  have L4 : ∀ (n : Nat) (x1 : Int32) (x2 : Int32), fX4_kept_L4 c4_made c4_kinds n x1 x2 = some ra → GG X 3 0 0 (w4 cy ad c4_made c4_kinds c4_places c4_rates c4_readings c4_bearing c5_legs c5_length c5_ways c5_units c5_stuffOf c5_point c6_bytes c6_sizes c6_weights) [(0, .ref (ad 40)), (1, .int x1), (2, .int x2)] 4 [] := by
    intro n
    induction n with
    | zero => intro x1 x2 hf; cases (show none = some _ from hf)
    | succ n ih =>
      intro x1 x2 hf
      rw [fX4_kept_L4] at hf
      refine r_iload_n hC dX4_kept_4 rfl 2 rfl ?_
      refine r_aload_n hC dX4_kept_5 rfl 0 rfl ?_
      refine r_get hC hin4 0 rfl rfl 6 (by decide) rfl hw0 rfl dX4_kept_6 ?_
      refine r_icmp_ge (tgt := 34) hC dX4_kept_9 (by decide) (fun c3 => ?_) (fun c3 => ?_)
      · replace hf := o_pos hf c3
        refine r_iload_n hC dX4_kept_34 rfl 1 rfl ?_
        obtain rfl := so_1 hf
        exact hRet _ _ _ dX4_kept_35 rfl
      · replace hf := o_neg hf c3
        refine r_iload_n hC dX4_kept_12 rfl 1 rfl ?_
        refine r_aload_n hC dX4_kept_13 rfl 0 rfl ?_
        refine r_iload_n hC dX4_kept_14 rfl 2 rfl ?_
        obtain ⟨r4, h5, hf⟩ := ob_some hf
        refine r_vi (st := [.int x1]) hC (kX4_isGone l D cy ad c4_made c4_kinds c4_places c4_rates c4_readings c4_bearing c5_legs c5_length c5_ways c5_units c5_stuffOf c5_point c6_bytes c6_sizes c6_weights x2 h5) gX4_kept_X4_isGone rfl ⟨rfl, rfl⟩ ydX4_isGone ⟨Nat.le_of_ble_eq_true rfl, Nat.le_of_ble_eq_true rfl⟩ ⟨Nat.le_refl 0, Nat.le_refl 0⟩ 0 rfl rfl [] [] rfl _ rfl (Nat.le_of_ble_eq_true rfl) dX4_kept_15 (w4 cy ad c4_made c4_kinds c4_places c4_rates c4_readings c4_bearing c5_legs c5_length c5_ways c5_units c5_stuffOf c5_point c6_bytes c6_sizes c6_weights) rfl ?_
        obtain ⟨t6, h9, hf⟩ := ob_some hf
        have J26_8 : GG X 3 0 0 (w4 cy ad c4_made c4_kinds c4_places c4_rates c4_readings c4_bearing c5_legs c5_length c5_ways c5_units c5_stuffOf c5_point c6_bytes c6_sizes c6_weights) [(0, .ref (ad 40)), (2, .int x2)] 26 [.int t6, .int x1] := by
          refine r_iadd hC dX4_kept_26 ?_
          refine r_topi (fun x7 ex7 => ?_)
          replace hf := olet_some hf ex7
          refine r_istore_n hC [(1, .int x7), (0, .ref (ad 40)), (2, .int x2)] dX4_kept_27 rfl (by decide) rfl ?_
          refine r_iinc hC [(2, .int (x2 + 1)), (1, .int x7), (0, .ref (ad 40))] (x2 + 1) dX4_kept_28 2 rfl (ii_1 _) (by decide) rfl ?_
          refine r_goto (tgt := 4) hC dX4_kept_31 (by decide) ?_
          refine r_sub [(0, .ref (ad 40)), (1, .int x7), (2, .int (x2 + 1))] [2, 1, 0] rfl ?_
          exact ih x7 (x2 + 1) hf
        replace hf := h9
        refine r_if_eq (tgt := 25) hC dX4_kept_18 (by decide) (fun c10 => ?_) (fun c10 => ?_)
        · replace hf := o_pos hf c10
          refine r_iconst hC dX4_kept_25 ic_1 ?_
          obtain rfl := so_1 hf
          refine r_sub [(0, .ref (ad 40)), (2, .int x2)] [0, 2] rfl ?_
          exact J26_8
        · replace hf := o_neg hf c10
          refine r_iconst hC dX4_kept_21 ic_0 ?_
          refine r_goto (tgt := 26) hC dX4_kept_22 (by decide) ?_
          obtain rfl := so_1 hf
          refine r_sub [(0, .ref (ad 40)), (2, .int x2)] [0, 2] rfl ?_
          exact J26_8
  refine r_sub [(0, .ref (ad 40)), (1, .int 0), (2, .int 0)] [2, 1, 0] rfl ?_
  exact L4 N 0 0 hf
noncomputable def fX4_isTaken_L2 (c4_made : Int32) (c4_kinds : Nat → Int32) (c4_places : Nat → Int32) (p1 : Int32) : Nat → Int32 → Option (Int32)
  | 0, _ => none
  | n + 1, x1 => (if c4_made ≤ x1 then some 0 else ob (fX4_isGone c4_kinds x1) (fun (r3 : Int32) => oj (fX4_isTaken_L2 c4_made c4_kinds c4_places p1 n (x1 + 1)) (fun (K30_5 : Option (Int32)) => (if r3 = 0 then og (vp_in x1 12) ((if (c4_places (Int32.toNatClampNeg x1)) = p1 then some 1 else K30_5)) else K30_5))))
noncomputable def fX4_isTaken (N : Nat) (c4_made : Int32) (c4_kinds : Nat → Int32) (c4_places : Nat → Int32) (p1 : Int32) : Option (Int32) := fX4_isTaken_L2 c4_made c4_kinds c4_places p1 N 0
theorem ydX4_isTaken : yX4_isTaken.cls = RX4 ∧ yX4_isTaken.cls ≠ "java/lang/invoke/MethodHandle" ∧ yX4_isTaken.cls ≠ "java/lang/invoke/VarHandle" ∧ (parseMethodDescriptor yX4_isTaken.desc).map (fun d => d.parameters.length) = some 1 := by decide +kernel
set_option maxHeartbeats 8000000 in
set_option maxRecDepth 100000 in
theorem kX4_isTaken (l : Launch) (D : va_G) (cy : Nat → ClassId) (ad : Nat → Nat) (c4_made : Int32) (c4_kinds : Nat → Int32) (c4_places : Nat → Int32) (c4_rates : Nat → Int32) (c4_readings : Nat → Int32) (c4_bearing : Nat → Int32) (c5_legs : Int32) (c5_length : Int32) (c5_ways : Nat → Int32) (c5_units : Nat → Int32) (c5_stuffOf : Nat → Int32) (c5_point : Nat → Int32) (c6_bytes : Nat → Int32) (c6_sizes : Nat → Int32) (c6_weights : Nat → Int32) (p1 : Int32) (N : Nat) {ra : Int32} (hf : fX4_isTaken N c4_made c4_kinds c4_places p1 = some ra) : CI l D cy yX4_isTaken wsX4_isTaken ({ frames := 1, cells := 0, slots := 0, locals := 21 } : Room) [.ref (ad 40), .int p1] (w4 cy ad c4_made c4_kinds c4_places c4_rates c4_readings c4_bearing c5_legs c5_length c5_ways c5_units c5_stuffOf c5_point c6_bytes c6_sizes c6_weights) ra (w4 cy ad c4_made c4_kinds c4_places c4_rates c4_readings c4_bearing c5_legs c5_length c5_ways c5_units c5_stuffOf c5_point c6_bytes c6_sizes c6_weights) := by
  unfold fX4_isTaken at hf
  refine c_of_i (ty := .boolean) (own := RX4) (by decide) rfl rfl (Nat.le_of_ble_eq_true rfl) (fun X hC hRet => ?_)
  refine r_sub [(0, .ref (ad 40)), (1, .int p1)] [0, 1] rfl ?_
  have hin4 : ∀ w ∈ wsX40, w ∈ wsX4_isTaken := fun w h => List.mem_cons_of_mem _ (List.mem_append_right _ h)
  have hw0 : Cond.fieldLink RX4 28 "HotPipes$Rests" "made" "I" ∈ wsX4_isTaken := List.mem_of_getElem? (i := 1) rfl
  have hw1 : Cond.fieldLink RX4 15 "HotPipes$Rests" "places" "[I" ∈ wsX4_isTaken := List.mem_of_getElem? (i := 2) rfl
  refine r_iconst hC dX4_isTaken_0 ic_0 ?_
  refine r_istore_n hC [(2, .int 0), (0, .ref (ad 40)), (1, .int p1)] dX4_isTaken_1 rfl (by decide) rfl ?_
  have L2 : ∀ (n : Nat) (x1 : Int32), fX4_isTaken_L2 c4_made c4_kinds c4_places p1 n x1 = some ra → GG X 3 0 0 (w4 cy ad c4_made c4_kinds c4_places c4_rates c4_readings c4_bearing c5_legs c5_length c5_ways c5_units c5_stuffOf c5_point c6_bytes c6_sizes c6_weights) [(0, .ref (ad 40)), (1, .int p1), (2, .int x1)] 2 [] := by
    intro n
    induction n with
    | zero => intro x1 hf; cases (show none = some _ from hf)
    | succ n ih =>
      intro x1 hf
      rw [fX4_isTaken_L2] at hf
      refine r_iload_n hC dX4_isTaken_2 rfl 2 rfl ?_
      refine r_aload_n hC dX4_isTaken_3 rfl 0 rfl ?_
      refine r_get hC hin4 0 rfl rfl 6 (by decide) rfl hw0 rfl dX4_isTaken_4 ?_
      refine r_icmp_ge (tgt := 36) hC dX4_isTaken_7 (by decide) (fun c2 => ?_) (fun c2 => ?_)
      · replace hf := o_pos hf c2
        refine r_iconst hC dX4_isTaken_36 ic_0 ?_
        obtain rfl := so_1 hf
        exact hRet _ _ _ dX4_isTaken_37 nb_0
      · replace hf := o_neg hf c2
        refine r_aload_n hC dX4_isTaken_10 rfl 0 rfl ?_
        refine r_iload_n hC dX4_isTaken_11 rfl 2 rfl ?_
        obtain ⟨r3, h4, hf⟩ := ob_some hf
        refine r_vi (st := []) hC (kX4_isGone l D cy ad c4_made c4_kinds c4_places c4_rates c4_readings c4_bearing c5_legs c5_length c5_ways c5_units c5_stuffOf c5_point c6_bytes c6_sizes c6_weights x1 h4) gX4_isTaken_X4_isGone rfl ⟨rfl, rfl⟩ ydX4_isGone ⟨Nat.le_of_ble_eq_true rfl, Nat.le_of_ble_eq_true rfl⟩ ⟨Nat.le_refl 0, Nat.le_refl 0⟩ 0 rfl rfl [] [] rfl _ rfl (Nat.le_of_ble_eq_true rfl) dX4_isTaken_12 (w4 cy ad c4_made c4_kinds c4_places c4_rates c4_readings c4_bearing c5_legs c5_length c5_ways c5_units c5_stuffOf c5_point c6_bytes c6_sizes c6_weights) rfl ?_
        obtain ⟨K30_5, eK30_5, hf⟩ := oj_some hf
        have J30_5 : K30_5 = some ra → GG X 3 0 0 (w4 cy ad c4_made c4_kinds c4_places c4_rates c4_readings c4_bearing c5_legs c5_length c5_ways c5_units c5_stuffOf c5_point c6_bytes c6_sizes c6_weights) [(0, .ref (ad 40)), (1, .int p1), (2, .int x1)] 30 [] := by
          intro hf
          replace hf := oa0 eK30_5 hf
          refine r_iinc hC [(2, .int (x1 + 1)), (0, .ref (ad 40)), (1, .int p1)] (x1 + 1) dX4_isTaken_30 2 rfl (ii_1 _) (by decide) rfl ?_
          refine r_goto (tgt := 2) hC dX4_isTaken_33 (by decide) ?_
          refine r_sub [(0, .ref (ad 40)), (1, .int p1), (2, .int (x1 + 1))] [1, 2, 0] rfl ?_
          exact ih (x1 + 1) hf
        refine r_if_ne (tgt := 30) hC dX4_isTaken_15 (by decide) (fun c6 => ?_) (fun c6 => ?_)
        · replace hf := o_neg hf c6
          exact J30_5 hf
        · replace hf := o_pos hf c6
          refine r_aload_n hC dX4_isTaken_18 rfl 0 rfl ?_
          refine r_get hC hin4 0 rfl rfl 2 (by decide) rfl hw1 rfl dX4_isTaken_19 ?_
          refine r_iload_n hC dX4_isTaken_22 rfl 2 rfl ?_
          obtain ⟨g7, hf⟩ := og_some hf
          refine r_iald hC 2 rfl g7 dX4_isTaken_23 ?_
          refine r_iload_n hC dX4_isTaken_24 rfl 1 rfl ?_
          refine r_icmp_ne (tgt := 30) hC dX4_isTaken_25 (by decide) (fun c8 => ?_) (fun c8 => ?_)
          · replace hf := o_neg hf c8
            exact J30_5 hf
          · replace hf := o_pos hf c8
            refine r_iconst hC dX4_isTaken_28 ic_1 ?_
            obtain rfl := so_1 hf
            exact hRet _ _ _ dX4_isTaken_29 nb_1
  refine r_sub [(0, .ref (ad 40)), (1, .int p1), (2, .int 0)] [1, 2, 0] rfl ?_
  exact L2 N 0 hf
noncomputable def fX4_put (c4_made : Int32) (c4_kinds : Nat → Int32) (c4_places : Nat → Int32) (c4_rates : Nat → Int32) (c4_readings : Nat → Int32) (p1 : Int32) (p2 : Int32) (p3 : Int32) : Option (Int32 × Int32 × (Nat → Int32) × (Nat → Int32) × (Nat → Int32) × (Nat → Int32)) := og (vp_in c4_made 12) (og (vp_in c4_made 12) (og (vp_in c4_made 12) (og (vp_in c4_made 12) (some (((c4_made + 1) - 1), (c4_made + 1), (upd c4_kinds (Int32.toNatClampNeg c4_made) p1), (upd c4_places (Int32.toNatClampNeg c4_made) p2), (upd c4_rates (Int32.toNatClampNeg c4_made) p3), (upd c4_readings (Int32.toNatClampNeg c4_made) (-9)))))))
theorem ydX4_put : yX4_put.cls = RX4 ∧ yX4_put.cls ≠ "java/lang/invoke/MethodHandle" ∧ yX4_put.cls ≠ "java/lang/invoke/VarHandle" ∧ (parseMethodDescriptor yX4_put.desc).map (fun d => d.parameters.length) = some 3 := by decide +kernel
set_option maxHeartbeats 8000000 in
set_option maxRecDepth 100000 in
theorem kX4_put (l : Launch) (D : va_G) (cy : Nat → ClassId) (ad : Nat → Nat) (c4_made : Int32) (c4_kinds : Nat → Int32) (c4_places : Nat → Int32) (c4_rates : Nat → Int32) (c4_readings : Nat → Int32) (c4_bearing : Nat → Int32) (c5_legs : Int32) (c5_length : Int32) (c5_ways : Nat → Int32) (c5_units : Nat → Int32) (c5_stuffOf : Nat → Int32) (c5_point : Nat → Int32) (c6_bytes : Nat → Int32) (c6_sizes : Nat → Int32) (c6_weights : Nat → Int32) (p1 : Int32) (p2 : Int32) (p3 : Int32) {ra : Int32} {z4_made : Int32} {z4_kinds : Nat → Int32} {z4_places : Nat → Int32} {z4_rates : Nat → Int32} {z4_readings : Nat → Int32} (hf : fX4_put c4_made c4_kinds c4_places c4_rates c4_readings p1 p2 p3 = some (ra, z4_made, z4_kinds, z4_places, z4_rates, z4_readings)) : CI l D cy yX4_put wsX4_put ({ frames := 0, cells := 0, slots := 0, locals := 0 } : Room) [.ref (ad 40), .int p1, .int p2, .int p3] (w4 cy ad c4_made c4_kinds c4_places c4_rates c4_readings c4_bearing c5_legs c5_length c5_ways c5_units c5_stuffOf c5_point c6_bytes c6_sizes c6_weights) ra (w4 cy ad z4_made z4_kinds z4_places z4_rates z4_readings c4_bearing c5_legs c5_length c5_ways c5_units c5_stuffOf c5_point c6_bytes c6_sizes c6_weights) := by
  unfold fX4_put at hf
  refine c_of_i (ty := .int) (own := RX4) (by decide) rfl rfl (Nat.le_of_ble_eq_true rfl) (fun X hC hRet => ?_)
  refine r_sub [(0, .ref (ad 40)), (1, .int p1), (2, .int p2), (3, .int p3)] [0, 1, 2, 3] rfl ?_
  have hin4 : ∀ w ∈ wsX40, w ∈ wsX4_put := fun w h => List.mem_cons_of_mem _ (List.mem_append_right _ h)
  have hw0 : Cond.fieldLink RX4 9 "HotPipes$Rests" "kinds" "[I" ∈ wsX4_put := List.mem_of_getElem? (i := 1) rfl
  have hw1 : Cond.fieldLink RX4 28 "HotPipes$Rests" "made" "I" ∈ wsX4_put := List.mem_of_getElem? (i := 2) rfl
  have hw2 : Cond.fieldLink RX4 15 "HotPipes$Rests" "places" "[I" ∈ wsX4_put := List.mem_of_getElem? (i := 3) rfl
  have hw3 : Cond.fieldLink RX4 18 "HotPipes$Rests" "rates" "[I" ∈ wsX4_put := List.mem_of_getElem? (i := 4) rfl
  have hw4 : Cond.fieldLink RX4 21 "HotPipes$Rests" "readings" "[I" ∈ wsX4_put := List.mem_of_getElem? (i := 5) rfl
  refine r_aload_n hC dX4_put_0 rfl 0 rfl ?_
  refine r_get hC hin4 0 rfl rfl 1 (by decide) rfl hw0 rfl dX4_put_1 ?_
  refine r_aload_n hC dX4_put_4 rfl 0 rfl ?_
  refine r_get hC hin4 0 rfl rfl 6 (by decide) rfl hw1 rfl dX4_put_5 ?_
  refine r_iload_n hC dX4_put_8 rfl 1 rfl ?_
  obtain ⟨g1, hf⟩ := og_some hf
  refine r_iast hC 1 rfl g1 dX4_put_9 (w4 cy ad c4_made (upd c4_kinds (Int32.toNatClampNeg c4_made) p1) c4_places c4_rates c4_readings c4_bearing c5_legs c5_length c5_ways c5_units c5_stuffOf c5_point c6_bytes c6_sizes c6_weights) rfl ?_
  refine r_aload_n hC dX4_put_10 rfl 0 rfl ?_
  refine r_get hC hin4 0 rfl rfl 2 (by decide) rfl hw2 rfl dX4_put_11 ?_
  refine r_aload_n hC dX4_put_14 rfl 0 rfl ?_
  refine r_get hC hin4 0 rfl rfl 6 (by decide) rfl hw1 rfl dX4_put_15 ?_
  refine r_iload_n hC dX4_put_18 rfl 2 rfl ?_
  obtain ⟨g2, hf⟩ := og_some hf
  refine r_iast hC 2 rfl g2 dX4_put_19 (w4 cy ad c4_made (upd c4_kinds (Int32.toNatClampNeg c4_made) p1) (upd c4_places (Int32.toNatClampNeg c4_made) p2) c4_rates c4_readings c4_bearing c5_legs c5_length c5_ways c5_units c5_stuffOf c5_point c6_bytes c6_sizes c6_weights) rfl ?_
  refine r_aload_n hC dX4_put_20 rfl 0 rfl ?_
  refine r_get hC hin4 0 rfl rfl 3 (by decide) rfl hw3 rfl dX4_put_21 ?_
  refine r_aload_n hC dX4_put_24 rfl 0 rfl ?_
  refine r_get hC hin4 0 rfl rfl 6 (by decide) rfl hw1 rfl dX4_put_25 ?_
  refine r_iload_n hC dX4_put_28 rfl 3 rfl ?_
  obtain ⟨g3, hf⟩ := og_some hf
  refine r_iast hC 3 rfl g3 dX4_put_29 (w4 cy ad c4_made (upd c4_kinds (Int32.toNatClampNeg c4_made) p1) (upd c4_places (Int32.toNatClampNeg c4_made) p2) (upd c4_rates (Int32.toNatClampNeg c4_made) p3) c4_readings c4_bearing c5_legs c5_length c5_ways c5_units c5_stuffOf c5_point c6_bytes c6_sizes c6_weights) rfl ?_
  refine r_aload_n hC dX4_put_30 rfl 0 rfl ?_
  refine r_get hC hin4 0 rfl rfl 4 (by decide) rfl hw4 rfl dX4_put_31 ?_
  refine r_aload_n hC dX4_put_34 rfl 0 rfl ?_
  refine r_get hC hin4 0 rfl rfl 6 (by decide) rfl hw1 rfl dX4_put_35 ?_
  refine r_bipush hC dX4_put_38 bp_m9 ?_
  obtain ⟨g4, hf⟩ := og_some hf
  refine r_iast hC 4 rfl g4 dX4_put_40 (w4 cy ad c4_made (upd c4_kinds (Int32.toNatClampNeg c4_made) p1) (upd c4_places (Int32.toNatClampNeg c4_made) p2) (upd c4_rates (Int32.toNatClampNeg c4_made) p3) (upd c4_readings (Int32.toNatClampNeg c4_made) (-9)) c4_bearing c5_legs c5_length c5_ways c5_units c5_stuffOf c5_point c6_bytes c6_sizes c6_weights) rfl ?_
  refine r_aload_n hC dX4_put_41 rfl 0 rfl ?_
  refine r_dup hC dX4_put_42 rfl ?_
  refine r_get hC hin4 0 rfl rfl 6 (by decide) rfl hw1 rfl dX4_put_43 ?_
  refine r_iconst hC dX4_put_46 ic_1 ?_
  refine r_iadd hC dX4_put_47 ?_
  refine r_put (ty := .int) hC hin4 tyX4_ok nmX4 0 rfl rfl 6 (by decide) rfl hw1 rfl rfl rfl rfl (Nat.le_of_ble_eq_true rfl) dX4_put_48 (w4 cy ad (c4_made + 1) (upd c4_kinds (Int32.toNatClampNeg c4_made) p1) (upd c4_places (Int32.toNatClampNeg c4_made) p2) (upd c4_rates (Int32.toNatClampNeg c4_made) p3) (upd c4_readings (Int32.toNatClampNeg c4_made) (-9)) c4_bearing c5_legs c5_length c5_ways c5_units c5_stuffOf c5_point c6_bytes c6_sizes c6_weights) rfl ?_
  refine r_aload_n hC dX4_put_51 rfl 0 rfl ?_
  refine r_get hC hin4 0 rfl rfl 6 (by decide) rfl hw1 rfl dX4_put_52 ?_
  refine r_iconst hC dX4_put_55 ic_1 ?_
  refine r_isub hC dX4_put_56 ?_
  obtain ⟨rfl, rfl, rfl, rfl, rfl, rfl⟩ := so_6 hf
  exact hRet _ _ _ dX4_put_57 rfl
noncomputable def fX4_remove (c4_kinds : Nat → Int32) (p1 : Int32) : Option ((Nat → Int32)) := og (vp_in p1 12) (some (upd c4_kinds (Int32.toNatClampNeg p1) (-1)))
theorem ydX4_remove : yX4_remove.cls = RX4 ∧ yX4_remove.cls ≠ "java/lang/invoke/MethodHandle" ∧ yX4_remove.cls ≠ "java/lang/invoke/VarHandle" ∧ (parseMethodDescriptor yX4_remove.desc).map (fun d => d.parameters.length) = some 1 := by decide +kernel
set_option maxHeartbeats 8000000 in
set_option maxRecDepth 100000 in
theorem kX4_remove (l : Launch) (D : va_G) (cy : Nat → ClassId) (ad : Nat → Nat) (c4_made : Int32) (c4_kinds : Nat → Int32) (c4_places : Nat → Int32) (c4_rates : Nat → Int32) (c4_readings : Nat → Int32) (c4_bearing : Nat → Int32) (c5_legs : Int32) (c5_length : Int32) (c5_ways : Nat → Int32) (c5_units : Nat → Int32) (c5_stuffOf : Nat → Int32) (c5_point : Nat → Int32) (c6_bytes : Nat → Int32) (c6_sizes : Nat → Int32) (c6_weights : Nat → Int32) (p1 : Int32) {z4_kinds : Nat → Int32} (hf : fX4_remove c4_kinds p1 = some z4_kinds) : CV l D cy yX4_remove wsX4_remove ({ frames := 0, cells := 0, slots := 0, locals := 0 } : Room) [.ref (ad 40), .int p1] (w4 cy ad c4_made c4_kinds c4_places c4_rates c4_readings c4_bearing c5_legs c5_length c5_ways c5_units c5_stuffOf c5_point c6_bytes c6_sizes c6_weights) (w4 cy ad c4_made z4_kinds c4_places c4_rates c4_readings c4_bearing c5_legs c5_length c5_ways c5_units c5_stuffOf c5_point c6_bytes c6_sizes c6_weights) := by
  unfold fX4_remove at hf
  refine c_of_v (own := RX4) (by decide) rfl rfl (Nat.le_of_ble_eq_true rfl) (fun X hC hRet => ?_)
  refine r_sub [(0, .ref (ad 40)), (1, .int p1)] [0, 1] rfl ?_
  have hin4 : ∀ w ∈ wsX40, w ∈ wsX4_remove := fun w h => List.mem_cons_of_mem _ (List.mem_append_right _ h)
  have hw0 : Cond.fieldLink RX4 9 "HotPipes$Rests" "kinds" "[I" ∈ wsX4_remove := List.mem_of_getElem? (i := 1) rfl
  refine r_aload_n hC dX4_remove_0 rfl 0 rfl ?_
  refine r_get hC hin4 0 rfl rfl 1 (by decide) rfl hw0 rfl dX4_remove_1 ?_
  refine r_iload_n hC dX4_remove_4 rfl 1 rfl ?_
  refine r_iconst hC dX4_remove_5 ic_m1 ?_
  obtain ⟨g1, hf⟩ := og_some hf
  refine r_iast hC 1 rfl g1 dX4_remove_6 (w4 cy ad c4_made (upd c4_kinds (Int32.toNatClampNeg p1) (-1)) c4_places c4_rates c4_readings c4_bearing c5_legs c5_length c5_ways c5_units c5_stuffOf c5_point c6_bytes c6_sizes c6_weights) rfl ?_
  obtain rfl := so_1 hf
  exact hRet _ _ _ dX4_remove_7
noncomputable def fX4_isPresent (c4_kinds : Nat → Int32) (c4_places : Nat → Int32) (c5_length : Int32) (p1 : Int32) : Option (Int32) := ob (fX4_isGone c4_kinds p1) (fun (r1 : Int32) => oj (some 0) (fun (K28_3 : Option (Int32)) => (if r1 = 0 then og (vp_in p1 12) (ob (fX5_length c5_length) (fun (r6 : Int32) => (if r6 ≤ (c4_places (Int32.toNatClampNeg p1)) then K28_3 else some 1))) else K28_3)))
theorem ydX4_isPresent : yX4_isPresent.cls = RX4 ∧ yX4_isPresent.cls ≠ "java/lang/invoke/MethodHandle" ∧ yX4_isPresent.cls ≠ "java/lang/invoke/VarHandle" ∧ (parseMethodDescriptor yX4_isPresent.desc).map (fun d => d.parameters.length) = some 1 := by decide +kernel
set_option maxHeartbeats 8000000 in
set_option maxRecDepth 100000 in
theorem kX4_isPresent (l : Launch) (D : va_G) (cy : Nat → ClassId) (ad : Nat → Nat) (c4_made : Int32) (c4_kinds : Nat → Int32) (c4_places : Nat → Int32) (c4_rates : Nat → Int32) (c4_readings : Nat → Int32) (c4_bearing : Nat → Int32) (c5_legs : Int32) (c5_length : Int32) (c5_ways : Nat → Int32) (c5_units : Nat → Int32) (c5_stuffOf : Nat → Int32) (c5_point : Nat → Int32) (c6_bytes : Nat → Int32) (c6_sizes : Nat → Int32) (c6_weights : Nat → Int32) (p1 : Int32) {ra : Int32} (hf : fX4_isPresent c4_kinds c4_places c5_length p1 = some ra) : CI l D cy yX4_isPresent wsX4_isPresent ({ frames := 1, cells := 0, slots := 0, locals := 21 } : Room) [.ref (ad 40), .int p1] (w4 cy ad c4_made c4_kinds c4_places c4_rates c4_readings c4_bearing c5_legs c5_length c5_ways c5_units c5_stuffOf c5_point c6_bytes c6_sizes c6_weights) ra (w4 cy ad c4_made c4_kinds c4_places c4_rates c4_readings c4_bearing c5_legs c5_length c5_ways c5_units c5_stuffOf c5_point c6_bytes c6_sizes c6_weights) := by
  unfold fX4_isPresent at hf
  refine c_of_i (ty := .boolean) (own := RX4) (by decide) rfl rfl (Nat.le_of_ble_eq_true rfl) (fun X hC hRet => ?_)
  refine r_sub [(0, .ref (ad 40)), (1, .int p1)] [0, 1] rfl ?_
  have hin4 : ∀ w ∈ wsX40, w ∈ wsX4_isPresent := fun w h => List.mem_cons_of_mem _ (List.mem_append_left _ (List.mem_append_right _ h))
  have hw0 : Cond.fieldLink RX4 15 "HotPipes$Rests" "places" "[I" ∈ wsX4_isPresent := List.mem_of_getElem? (i := 1) rfl
  have hw1 : Cond.fieldLink RX4 32 "HotPipes$Rests" "run" "LHotPipes$Run;" ∈ wsX4_isPresent := List.mem_of_getElem? (i := 2) rfl
  refine r_aload_n hC dX4_isPresent_0 rfl 0 rfl ?_
  refine r_iload_n hC dX4_isPresent_1 rfl 1 rfl ?_
  obtain ⟨r1, h2, hf⟩ := ob_some hf
  refine r_vi (st := []) hC (kX4_isGone l D cy ad c4_made c4_kinds c4_places c4_rates c4_readings c4_bearing c5_legs c5_length c5_ways c5_units c5_stuffOf c5_point c6_bytes c6_sizes c6_weights p1 h2) gX4_isPresent_X4_isGone rfl ⟨rfl, rfl⟩ ydX4_isGone ⟨Nat.le_of_ble_eq_true rfl, Nat.le_of_ble_eq_true rfl⟩ ⟨Nat.le_refl 0, Nat.le_refl 0⟩ 0 rfl rfl [] [] rfl _ rfl (Nat.le_of_ble_eq_true rfl) dX4_isPresent_2 (w4 cy ad c4_made c4_kinds c4_places c4_rates c4_readings c4_bearing c5_legs c5_length c5_ways c5_units c5_stuffOf c5_point c6_bytes c6_sizes c6_weights) rfl ?_
  obtain ⟨K28_3, eK28_3, hf⟩ := oj_some hf
  have J28_3 : K28_3 = some ra → GG X 2 0 0 (w4 cy ad c4_made c4_kinds c4_places c4_rates c4_readings c4_bearing c5_legs c5_length c5_ways c5_units c5_stuffOf c5_point c6_bytes c6_sizes c6_weights) [] 28 [] := by
    intro hf
    replace hf := oa0 eK28_3 hf
    refine r_iconst hC dX4_isPresent_28 ic_0 ?_
    obtain rfl := so_1 hf
    exact hRet _ _ _ dX4_isPresent_29 nb_0
  refine r_if_ne (tgt := 28) hC dX4_isPresent_5 (by decide) (fun c4 => ?_) (fun c4 => ?_)
  · replace hf := o_neg hf c4
    refine r_sub [] [] rfl ?_
    exact J28_3 hf
  · replace hf := o_pos hf c4
    refine r_aload_n hC dX4_isPresent_8 rfl 0 rfl ?_
    refine r_get hC hin4 0 rfl rfl 2 (by decide) rfl hw0 rfl dX4_isPresent_9 ?_
    refine r_iload_n hC dX4_isPresent_12 rfl 1 rfl ?_
    obtain ⟨g5, hf⟩ := og_some hf
    refine r_iald hC 2 rfl g5 dX4_isPresent_13 ?_
    refine r_aload_n hC dX4_isPresent_14 rfl 0 rfl ?_
    refine r_get hC hin4 0 rfl rfl 0 (by decide) rfl hw1 rfl dX4_isPresent_15 ?_
    obtain ⟨r6, h7, hf⟩ := ob_some hf
    refine r_vi (st := [.int (c4_places (Int32.toNatClampNeg p1))]) hC (kX5_length l D cy ad c5_legs c5_length c5_ways c5_units c5_stuffOf c5_point c6_bytes c6_sizes c6_weights  h7) gX4_isPresent_X5_length rfl ⟨rfl, rfl⟩ ydX5_length ⟨Nat.le_of_ble_eq_true rfl, Nat.le_of_ble_eq_true rfl⟩ ⟨Nat.le_refl 0, Nat.le_refl 0⟩ 0 rfl rfl (v4 cy ad c4_made c4_kinds c4_places c4_rates c4_readings c4_bearing) [] rfl _ rfl (Nat.le_of_ble_eq_true rfl) dX4_isPresent_18 (w4 cy ad c4_made c4_kinds c4_places c4_rates c4_readings c4_bearing c5_legs c5_length c5_ways c5_units c5_stuffOf c5_point c6_bytes c6_sizes c6_weights) rfl ?_
    refine r_icmp_ge (tgt := 28) hC dX4_isPresent_21 (by decide) (fun c8 => ?_) (fun c8 => ?_)
    · replace hf := o_pos hf c8
      refine r_sub [] [] rfl ?_
      exact J28_3 hf
    · replace hf := o_neg hf c8
      refine r_iconst hC dX4_isPresent_24 ic_1 ?_
      refine r_goto (tgt := 29) hC dX4_isPresent_25 (by decide) ?_
      obtain rfl := so_1 hf
      exact hRet _ _ _ dX4_isPresent_29 nb_1
noncomputable def fX4_tell (c4_kinds : Nat → Int32) (c4_places : Nat → Int32) (c4_rates : Nat → Int32) (c5_length : Int32) (p1 : Int32) (p2 : Int32) : Option (Int32) := (if p2 = 0 then og (vp_in p1 12) (some (c4_kinds (Int32.toNatClampNeg p1))) else (if p2 = 1 then og (vp_in p1 12) (some (c4_places (Int32.toNatClampNeg p1))) else (if p2 = 2 then og (vp_in p1 12) (some (c4_rates (Int32.toNatClampNeg p1))) else (ob (fX4_isPresent c4_kinds c4_places c5_length p1) (fun (r7 : Int32) => (if r7 = 0 then some 0 else some 1))))))
theorem ydX4_tell : yX4_tell.cls = RX4 ∧ yX4_tell.cls ≠ "java/lang/invoke/MethodHandle" ∧ yX4_tell.cls ≠ "java/lang/invoke/VarHandle" ∧ (parseMethodDescriptor yX4_tell.desc).map (fun d => d.parameters.length) = some 2 := by decide +kernel
set_option maxHeartbeats 8000000 in
set_option maxRecDepth 100000 in
theorem kX4_tell (l : Launch) (D : va_G) (cy : Nat → ClassId) (ad : Nat → Nat) (c4_made : Int32) (c4_kinds : Nat → Int32) (c4_places : Nat → Int32) (c4_rates : Nat → Int32) (c4_readings : Nat → Int32) (c4_bearing : Nat → Int32) (c5_legs : Int32) (c5_length : Int32) (c5_ways : Nat → Int32) (c5_units : Nat → Int32) (c5_stuffOf : Nat → Int32) (c5_point : Nat → Int32) (c6_bytes : Nat → Int32) (c6_sizes : Nat → Int32) (c6_weights : Nat → Int32) (p1 : Int32) (p2 : Int32) {ra : Int32} (hf : fX4_tell c4_kinds c4_places c4_rates c5_length p1 p2 = some ra) : CI l D cy yX4_tell wsX4_tell ({ frames := 2, cells := 0, slots := 0, locals := 42 } : Room) [.ref (ad 40), .int p1, .int p2] (w4 cy ad c4_made c4_kinds c4_places c4_rates c4_readings c4_bearing c5_legs c5_length c5_ways c5_units c5_stuffOf c5_point c6_bytes c6_sizes c6_weights) ra (w4 cy ad c4_made c4_kinds c4_places c4_rates c4_readings c4_bearing c5_legs c5_length c5_ways c5_units c5_stuffOf c5_point c6_bytes c6_sizes c6_weights) := by
  unfold fX4_tell at hf
  refine c_of_i (ty := .int) (own := RX4) (by decide) rfl rfl (Nat.le_of_ble_eq_true rfl) (fun X hC hRet => ?_)
  refine r_sub [(0, .ref (ad 40)), (1, .int p1), (2, .int p2)] [0, 1, 2] rfl ?_
  have hin4 : ∀ w ∈ wsX40, w ∈ wsX4_tell := fun w h => List.mem_cons_of_mem _ (List.mem_append_left _ (List.mem_append_right _ h))
  have hw0 : Cond.fieldLink RX4 9 "HotPipes$Rests" "kinds" "[I" ∈ wsX4_tell := List.mem_of_getElem? (i := 1) rfl
  have hw1 : Cond.fieldLink RX4 15 "HotPipes$Rests" "places" "[I" ∈ wsX4_tell := List.mem_of_getElem? (i := 2) rfl
  have hw2 : Cond.fieldLink RX4 18 "HotPipes$Rests" "rates" "[I" ∈ wsX4_tell := List.mem_of_getElem? (i := 3) rfl
  refine r_iload_n hC dX4_tell_0 rfl 2 rfl ?_
  by_cases c1 : p2 = 0
  · replace hf := o_pos hf c1
    refine r_tableIn (off := 27) (tgt := 28) hC dX4_tell_1 (by rw [c1]; decide) (by rw [c1]; decide) (by rw [c1]; rfl) (by decide) ?_
    refine r_aload_n hC dX4_tell_28 rfl 0 rfl ?_
    refine r_get hC hin4 0 rfl rfl 1 (by decide) rfl hw0 rfl dX4_tell_29 ?_
    refine r_iload_n hC dX4_tell_32 rfl 1 rfl ?_
    obtain ⟨g2, hf⟩ := og_some hf
    refine r_iald hC 1 rfl g2 dX4_tell_33 ?_
    obtain rfl := so_1 hf
    exact hRet _ _ _ dX4_tell_34 rfl
  replace hf := o_neg hf c1
  by_cases c3 : p2 = 1
  · replace hf := o_pos hf c3
    refine r_tableIn (off := 34) (tgt := 35) hC dX4_tell_1 (by rw [c3]; decide) (by rw [c3]; decide) (by rw [c3]; rfl) (by decide) ?_
    refine r_aload_n hC dX4_tell_35 rfl 0 rfl ?_
    refine r_get hC hin4 0 rfl rfl 2 (by decide) rfl hw1 rfl dX4_tell_36 ?_
    refine r_iload_n hC dX4_tell_39 rfl 1 rfl ?_
    obtain ⟨g4, hf⟩ := og_some hf
    refine r_iald hC 2 rfl g4 dX4_tell_40 ?_
    obtain rfl := so_1 hf
    exact hRet _ _ _ dX4_tell_41 rfl
  replace hf := o_neg hf c3
  by_cases c5 : p2 = 2
  · replace hf := o_pos hf c5
    refine r_tableIn (off := 41) (tgt := 42) hC dX4_tell_1 (by rw [c5]; decide) (by rw [c5]; decide) (by rw [c5]; rfl) (by decide) ?_
    refine r_aload_n hC dX4_tell_42 rfl 0 rfl ?_
    refine r_get hC hin4 0 rfl rfl 3 (by decide) rfl hw2 rfl dX4_tell_43 ?_
    refine r_iload_n hC dX4_tell_46 rfl 1 rfl ?_
    obtain ⟨g6, hf⟩ := og_some hf
    refine r_iald hC 3 rfl g6 dX4_tell_47 ?_
    obtain rfl := so_1 hf
    exact hRet _ _ _ dX4_tell_48 rfl
  replace hf := o_neg hf c5
  refine r_tableOut (tgt := 49) hC dX4_tell_1 (tb_2 c1 c3 c5) (by decide) ?_
  refine r_aload_n hC dX4_tell_49 rfl 0 rfl ?_
  refine r_iload_n hC dX4_tell_50 rfl 1 rfl ?_
  obtain ⟨r7, h8, hf⟩ := ob_some hf
  refine r_vi (st := []) hC (kX4_isPresent l D cy ad c4_made c4_kinds c4_places c4_rates c4_readings c4_bearing c5_legs c5_length c5_ways c5_units c5_stuffOf c5_point c6_bytes c6_sizes c6_weights p1 h8) gX4_tell_X4_isPresent rfl ⟨rfl, rfl⟩ ydX4_isPresent ⟨Nat.le_of_ble_eq_true rfl, Nat.le_of_ble_eq_true rfl⟩ ⟨Nat.le_refl 0, Nat.le_refl 0⟩ 0 rfl rfl [] [] rfl _ rfl (Nat.le_of_ble_eq_true rfl) dX4_tell_51 (w4 cy ad c4_made c4_kinds c4_places c4_rates c4_readings c4_bearing c5_legs c5_length c5_ways c5_units c5_stuffOf c5_point c6_bytes c6_sizes c6_weights) rfl ?_
  refine r_if_eq (tgt := 61) hC dX4_tell_54 (by decide) (fun c9 => ?_) (fun c9 => ?_)
  · replace hf := o_pos hf c9
    refine r_iconst hC dX4_tell_61 ic_0 ?_
    obtain rfl := so_1 hf
    exact hRet _ _ _ dX4_tell_62 rfl
  · replace hf := o_neg hf c9
    refine r_iconst hC dX4_tell_57 ic_1 ?_
    refine r_goto (tgt := 62) hC dX4_tell_58 (by decide) ?_
    obtain rfl := so_1 hf
    exact hRet _ _ _ dX4_tell_62 rfl
noncomputable def fX4_isOfKind (c4_kinds : Nat → Int32) (p1 : Int32) (p2 : Int32) : Option (Int32) := og (vp_in p1 12) (olet (c4_kinds (Int32.toNatClampNeg p1)) (fun (x2 : Int32) => oj (some 1) (fun (K26_3 : Option (Int32)) => (if x2 = p2 then K26_3 else (if p2 = 0 then K26_3 else oj (some 0) (fun (K30_6 : Option (Int32)) => (if p2 = 1 then (if x2 = 2 then K26_3 else K30_6) else K30_6)))))))
theorem ydX4_isOfKind : yX4_isOfKind.cls = RX4 ∧ yX4_isOfKind.cls ≠ "java/lang/invoke/MethodHandle" ∧ yX4_isOfKind.cls ≠ "java/lang/invoke/VarHandle" ∧ (parseMethodDescriptor yX4_isOfKind.desc).map (fun d => d.parameters.length) = some 2 := by decide +kernel
set_option maxHeartbeats 8000000 in
set_option maxRecDepth 100000 in
theorem kX4_isOfKind (l : Launch) (D : va_G) (cy : Nat → ClassId) (ad : Nat → Nat) (c4_made : Int32) (c4_kinds : Nat → Int32) (c4_places : Nat → Int32) (c4_rates : Nat → Int32) (c4_readings : Nat → Int32) (c4_bearing : Nat → Int32) (c5_legs : Int32) (c5_length : Int32) (c5_ways : Nat → Int32) (c5_units : Nat → Int32) (c5_stuffOf : Nat → Int32) (c5_point : Nat → Int32) (c6_bytes : Nat → Int32) (c6_sizes : Nat → Int32) (c6_weights : Nat → Int32) (p1 : Int32) (p2 : Int32) {ra : Int32} (hf : fX4_isOfKind c4_kinds p1 p2 = some ra) : CI l D cy yX4_isOfKind wsX4_isOfKind ({ frames := 0, cells := 0, slots := 0, locals := 0 } : Room) [.ref (ad 40), .int p1, .int p2] (w4 cy ad c4_made c4_kinds c4_places c4_rates c4_readings c4_bearing c5_legs c5_length c5_ways c5_units c5_stuffOf c5_point c6_bytes c6_sizes c6_weights) ra (w4 cy ad c4_made c4_kinds c4_places c4_rates c4_readings c4_bearing c5_legs c5_length c5_ways c5_units c5_stuffOf c5_point c6_bytes c6_sizes c6_weights) := by
  unfold fX4_isOfKind at hf
  refine c_of_i (ty := .boolean) (own := RX4) (by decide) rfl rfl (Nat.le_of_ble_eq_true rfl) (fun X hC hRet => ?_)
  refine r_sub [(0, .ref (ad 40)), (1, .int p1), (2, .int p2)] [0, 1, 2] rfl ?_
  have hin4 : ∀ w ∈ wsX40, w ∈ wsX4_isOfKind := fun w h => List.mem_cons_of_mem _ (List.mem_append_right _ h)
  have hw0 : Cond.fieldLink RX4 9 "HotPipes$Rests" "kinds" "[I" ∈ wsX4_isOfKind := List.mem_of_getElem? (i := 1) rfl
  refine r_aload_n hC dX4_isOfKind_0 rfl 0 rfl ?_
  refine r_get hC hin4 0 rfl rfl 1 (by decide) rfl hw0 rfl dX4_isOfKind_1 ?_
  refine r_iload_n hC dX4_isOfKind_4 rfl 1 rfl ?_
  obtain ⟨g1, hf⟩ := og_some hf
  refine r_iald hC 1 rfl g1 dX4_isOfKind_5 ?_
  refine r_topi (fun x2 ex2 => ?_)
  replace hf := olet_some hf ex2
  refine r_istore_n hC [(3, .int x2), (0, .ref (ad 40)), (1, .int p1), (2, .int p2)] dX4_isOfKind_6 rfl (by decide) rfl ?_
  refine r_iload_n hC dX4_isOfKind_7 rfl 0 rfl ?_
  refine r_iload_n hC dX4_isOfKind_8 rfl 3 rfl ?_
  obtain ⟨K26_3, eK26_3, hf⟩ := oj_some hf
  have J26_3 : K26_3 = some ra → GG X 4 0 0 (w4 cy ad c4_made c4_kinds c4_places c4_rates c4_readings c4_bearing c5_legs c5_length c5_ways c5_units c5_stuffOf c5_point c6_bytes c6_sizes c6_weights) [] 26 [] := by
    intro hf
    replace hf := oa0 eK26_3 hf
    refine r_iconst hC dX4_isOfKind_26 ic_1 ?_
    refine r_goto (tgt := 31) hC dX4_isOfKind_27 (by decide) ?_
    obtain rfl := so_1 hf
    exact hRet _ _ _ dX4_isOfKind_31 nb_1
  refine r_icmp_eq (tgt := 26) hC dX4_isOfKind_9 (by decide) (fun c4 => ?_) (fun c4 => ?_)
  · replace hf := o_pos hf c4
    refine r_sub [] [] rfl ?_
    exact J26_3 hf
  · replace hf := o_neg hf c4
    refine r_iload_n hC dX4_isOfKind_12 rfl 3 rfl ?_
    refine r_if_eq (tgt := 26) hC dX4_isOfKind_13 (by decide) (fun c5 => ?_) (fun c5 => ?_)
    · replace hf := o_pos hf c5
      refine r_sub [] [] rfl ?_
      exact J26_3 hf
    · replace hf := o_neg hf c5
      refine r_iload_n hC dX4_isOfKind_16 rfl 3 rfl ?_
      refine r_iconst hC dX4_isOfKind_17 ic_1 ?_
      obtain ⟨K30_6, eK30_6, hf⟩ := oj_some hf
      have J30_6 : K30_6 = some ra → GG X 4 0 0 (w4 cy ad c4_made c4_kinds c4_places c4_rates c4_readings c4_bearing c5_legs c5_length c5_ways c5_units c5_stuffOf c5_point c6_bytes c6_sizes c6_weights) [] 30 [] := by
        intro hf
        replace hf := oa0 eK30_6 hf
        refine r_iconst hC dX4_isOfKind_30 ic_0 ?_
        obtain rfl := so_1 hf
        exact hRet _ _ _ dX4_isOfKind_31 nb_0
      refine r_icmp_ne (tgt := 30) hC dX4_isOfKind_18 (by decide) (fun c7 => ?_) (fun c7 => ?_)
      · replace hf := o_neg hf c7
        refine r_sub [] [] rfl ?_
        exact J30_6 hf
      · replace hf := o_pos hf c7
        refine r_iload_n hC dX4_isOfKind_21 rfl 0 rfl ?_
        refine r_iconst hC dX4_isOfKind_22 ic_2 ?_
        refine r_icmp_ne (tgt := 30) hC dX4_isOfKind_23 (by decide) (fun c8 => ?_) (fun c8 => ?_)
        · replace hf := o_neg hf c8
          refine r_sub [] [] rfl ?_
          exact J30_6 hf
        · replace hf := o_pos hf c8
          refine r_sub [] [] rfl ?_
          exact J26_3 hf
noncomputable def fX4_isLifted (N : Nat) (c4_kinds : Nat → Int32) (c4_places : Nat → Int32) (c5_legs : Int32) (c5_length : Int32) (c5_ways : Nat → Int32) (c5_units : Nat → Int32) (c5_stuffOf : Nat → Int32) (c6_bytes : Nat → Int32) (c6_sizes : Nat → Int32) (p1 : Int32) (p2 : Int32) : Option (Int32) := ob (fX4_isPresent c4_kinds c4_places c5_length p1) (fun (r1 : Int32) => ob (oj (some 0) (fun (K31_12 : Option (Int32)) => (if r1 = 0 then K31_12 else og (vp_in p1 12) (oj (some 1) (fun (K27_15 : Option (Int32)) => (if (c4_kinds (Int32.toNatClampNeg p1)) = 0 then K27_15 else og (vp_in p1 12) ((if (c4_kinds (Int32.toNatClampNeg p1)) = 1 then K27_15 else K31_12)))))))) (fun (t3 : Int32) => oj (some 0) (fun (K59_4 : Option (Int32)) => (if t3 = 0 then K59_4 else og (vp_in p1 12) (ob (fX5_growth N c5_legs c5_ways c5_units c5_stuffOf c6_bytes c6_sizes (c4_places (Int32.toNatClampNeg p1)) p2 2) (fun (r7 : Int32) => (if r7 ≤ 0 then K59_4 else some 1)))))))
theorem ydX4_isLifted : yX4_isLifted.cls = RX4 ∧ yX4_isLifted.cls ≠ "java/lang/invoke/MethodHandle" ∧ yX4_isLifted.cls ≠ "java/lang/invoke/VarHandle" ∧ (parseMethodDescriptor yX4_isLifted.desc).map (fun d => d.parameters.length) = some 2 := by decide +kernel
set_option maxHeartbeats 8000000 in
set_option maxRecDepth 100000 in
theorem kX4_isLifted (l : Launch) (D : va_G) (cy : Nat → ClassId) (ad : Nat → Nat) (c4_made : Int32) (c4_kinds : Nat → Int32) (c4_places : Nat → Int32) (c4_rates : Nat → Int32) (c4_readings : Nat → Int32) (c4_bearing : Nat → Int32) (c5_legs : Int32) (c5_length : Int32) (c5_ways : Nat → Int32) (c5_units : Nat → Int32) (c5_stuffOf : Nat → Int32) (c5_point : Nat → Int32) (c6_bytes : Nat → Int32) (c6_sizes : Nat → Int32) (c6_weights : Nat → Int32) (p1 : Int32) (p2 : Int32) (N : Nat) {ra : Int32} (hf : fX4_isLifted N c4_kinds c4_places c5_legs c5_length c5_ways c5_units c5_stuffOf c6_bytes c6_sizes p1 p2 = some ra) : CI l D cy yX4_isLifted wsX4_isLifted ({ frames := 3, cells := 0, slots := 0, locals := 72 } : Room) [.ref (ad 40), .int p1, .int p2] (w4 cy ad c4_made c4_kinds c4_places c4_rates c4_readings c4_bearing c5_legs c5_length c5_ways c5_units c5_stuffOf c5_point c6_bytes c6_sizes c6_weights) ra (w4 cy ad c4_made c4_kinds c4_places c4_rates c4_readings c4_bearing c5_legs c5_length c5_ways c5_units c5_stuffOf c5_point c6_bytes c6_sizes c6_weights) := by
  unfold fX4_isLifted at hf
  refine c_of_i (ty := .boolean) (own := RX4) (by decide) rfl rfl (Nat.le_of_ble_eq_true rfl) (fun X hC hRet => ?_)
  refine r_sub [(0, .ref (ad 40)), (1, .int p1), (2, .int p2)] [0, 1, 2] rfl ?_
  have hin4 : ∀ w ∈ wsX40, w ∈ wsX4_isLifted := fun w h => List.mem_cons_of_mem _ (List.mem_append_left _ (List.mem_append_left _ (List.mem_append_right _ h)))
  have hw0 : Cond.fieldLink RX4 32 "HotPipes$Rests" "run" "LHotPipes$Run;" ∈ wsX4_isLifted := List.mem_of_getElem? (i := 2) rfl
  have hw1 : Cond.fieldLink RX4 15 "HotPipes$Rests" "places" "[I" ∈ wsX4_isLifted := List.mem_of_getElem? (i := 3) rfl
  have hw2 : Cond.fieldLink RX4 9 "HotPipes$Rests" "kinds" "[I" ∈ wsX4_isLifted := List.mem_of_getElem? (i := 1) rfl
  refine r_aload_n hC dX4_isLifted_0 rfl 0 rfl ?_
  refine r_iload_n hC dX4_isLifted_1 rfl 1 rfl ?_
  obtain ⟨r1, h2, hf⟩ := ob_some hf
  refine r_vi (st := []) hC (kX4_isPresent l D cy ad c4_made c4_kinds c4_places c4_rates c4_readings c4_bearing c5_legs c5_length c5_ways c5_units c5_stuffOf c5_point c6_bytes c6_sizes c6_weights p1 h2) gX4_isLifted_X4_isPresent rfl ⟨rfl, rfl⟩ ydX4_isPresent ⟨Nat.le_of_ble_eq_true rfl, Nat.le_of_ble_eq_true rfl⟩ ⟨Nat.le_refl 0, Nat.le_refl 0⟩ 0 rfl rfl [] [] rfl _ rfl (Nat.le_of_ble_eq_true rfl) dX4_isLifted_2 (w4 cy ad c4_made c4_kinds c4_places c4_rates c4_readings c4_bearing c5_legs c5_length c5_ways c5_units c5_stuffOf c5_point c6_bytes c6_sizes c6_weights) rfl ?_
  obtain ⟨t3, h11, hf⟩ := ob_some hf
  have J32_10 : GG X 4 0 0 (w4 cy ad c4_made c4_kinds c4_places c4_rates c4_readings c4_bearing c5_legs c5_length c5_ways c5_units c5_stuffOf c5_point c6_bytes c6_sizes c6_weights) [(0, .ref (ad 40)), (1, .int p1), (2, .int p2)] 32 [.int t3] := by
    refine r_istore_n hC [(3, .int t3), (0, .ref (ad 40)), (1, .int p1), (2, .int p2)] dX4_isLifted_32 rfl (by decide) rfl ?_
    refine r_iload_n hC dX4_isLifted_33 rfl 0 rfl ?_
    obtain ⟨K59_4, eK59_4, hf⟩ := oj_some hf
    have J59_4 : K59_4 = some ra → GG X 4 0 0 (w4 cy ad c4_made c4_kinds c4_places c4_rates c4_readings c4_bearing c5_legs c5_length c5_ways c5_units c5_stuffOf c5_point c6_bytes c6_sizes c6_weights) [] 59 [] := by
      intro hf
      replace hf := oa0 eK59_4 hf
      refine r_iconst hC dX4_isLifted_59 ic_0 ?_
      obtain rfl := so_1 hf
      exact hRet _ _ _ dX4_isLifted_60 nb_0
    refine r_if_eq (tgt := 59) hC dX4_isLifted_34 (by decide) (fun c5 => ?_) (fun c5 => ?_)
    · replace hf := o_pos hf c5
      refine r_sub [] [] rfl ?_
      exact J59_4 hf
    · replace hf := o_neg hf c5
      refine r_aload_n hC dX4_isLifted_37 rfl 1 rfl ?_
      refine r_get hC hin4 0 rfl rfl 0 (by decide) rfl hw0 rfl dX4_isLifted_38 ?_
      refine r_aload_n hC dX4_isLifted_41 rfl 1 rfl ?_
      refine r_get hC hin4 0 rfl rfl 2 (by decide) rfl hw1 rfl dX4_isLifted_42 ?_
      refine r_iload_n hC dX4_isLifted_45 rfl 2 rfl ?_
      obtain ⟨g6, hf⟩ := og_some hf
      refine r_iald hC 2 rfl g6 dX4_isLifted_46 ?_
      refine r_iload_n hC dX4_isLifted_47 rfl 3 rfl ?_
      refine r_iconst hC dX4_isLifted_48 ic_2 ?_
      obtain ⟨r7, h8, hf⟩ := ob_some hf
      refine r_vi (st := []) hC (kX5_growth l D cy ad c5_legs c5_length c5_ways c5_units c5_stuffOf c5_point c6_bytes c6_sizes c6_weights (c4_places (Int32.toNatClampNeg p1)) p2 2 N h8) gX4_isLifted_X5_growth rfl ⟨rfl, rfl⟩ ydX5_growth ⟨Nat.le_of_ble_eq_true rfl, Nat.le_of_ble_eq_true rfl⟩ ⟨Nat.le_refl 0, Nat.le_refl 0⟩ 0 rfl rfl (v4 cy ad c4_made c4_kinds c4_places c4_rates c4_readings c4_bearing) [] rfl _ rfl (Nat.le_of_ble_eq_true rfl) dX4_isLifted_49 (w4 cy ad c4_made c4_kinds c4_places c4_rates c4_readings c4_bearing c5_legs c5_length c5_ways c5_units c5_stuffOf c5_point c6_bytes c6_sizes c6_weights) rfl ?_
      refine r_if_le (tgt := 59) hC dX4_isLifted_52 (by decide) (fun c9 => ?_) (fun c9 => ?_)
      · replace hf := o_pos hf c9
        refine r_sub [] [] rfl ?_
        exact J59_4 hf
      · replace hf := o_neg hf c9
        refine r_iconst hC dX4_isLifted_55 ic_1 ?_
        refine r_goto (tgt := 60) hC dX4_isLifted_56 (by decide) ?_
        obtain rfl := so_1 hf
        exact hRet _ _ _ dX4_isLifted_60 nb_1
  replace hf := h11
  obtain ⟨K31_12, eK31_12, hf⟩ := oj_some hf
  have J31_12 : K31_12 = some t3 → GG X 4 0 0 (w4 cy ad c4_made c4_kinds c4_places c4_rates c4_readings c4_bearing c5_legs c5_length c5_ways c5_units c5_stuffOf c5_point c6_bytes c6_sizes c6_weights) [(0, .ref (ad 40)), (1, .int p1), (2, .int p2)] 31 [] := by
    intro hf
    replace hf := oa0 eK31_12 hf
    refine r_iconst hC dX4_isLifted_31 ic_0 ?_
    obtain rfl := so_1 hf
    exact J32_10
  refine r_if_eq (tgt := 31) hC dX4_isLifted_5 (by decide) (fun c13 => ?_) (fun c13 => ?_)
  · replace hf := o_pos hf c13
    exact J31_12 hf
  · replace hf := o_neg hf c13
    refine r_aload_n hC dX4_isLifted_8 rfl 0 rfl ?_
    refine r_get hC hin4 0 rfl rfl 1 (by decide) rfl hw2 rfl dX4_isLifted_9 ?_
    refine r_iload_n hC dX4_isLifted_12 rfl 1 rfl ?_
    obtain ⟨g14, hf⟩ := og_some hf
    refine r_iald hC 1 rfl g14 dX4_isLifted_13 ?_
    obtain ⟨K27_15, eK27_15, hf⟩ := oj_some hf
    have J27_15 : K27_15 = some t3 → GG X 4 0 0 (w4 cy ad c4_made c4_kinds c4_places c4_rates c4_readings c4_bearing c5_legs c5_length c5_ways c5_units c5_stuffOf c5_point c6_bytes c6_sizes c6_weights) [(0, .ref (ad 40)), (1, .int p1), (2, .int p2)] 27 [] := by
      intro hf
      replace hf := oa0 eK27_15 hf
      refine r_iconst hC dX4_isLifted_27 ic_1 ?_
      refine r_goto (tgt := 32) hC dX4_isLifted_28 (by decide) ?_
      obtain rfl := so_1 hf
      exact J32_10
    refine r_if_eq (tgt := 27) hC dX4_isLifted_14 (by decide) (fun c16 => ?_) (fun c16 => ?_)
    · replace hf := o_pos hf c16
      exact J27_15 hf
    · replace hf := o_neg hf c16
      refine r_aload_n hC dX4_isLifted_17 rfl 0 rfl ?_
      refine r_get hC hin4 0 rfl rfl 1 (by decide) rfl hw2 rfl dX4_isLifted_18 ?_
      refine r_iload_n hC dX4_isLifted_21 rfl 1 rfl ?_
      obtain ⟨g17, hf⟩ := og_some hf
      refine r_iald hC 1 rfl g17 dX4_isLifted_22 ?_
      refine r_iconst hC dX4_isLifted_23 ic_1 ?_
      refine r_icmp_ne (tgt := 31) hC dX4_isLifted_24 (by decide) (fun c18 => ?_) (fun c18 => ?_)
      · replace hf := o_neg hf c18
        exact J31_12 hf
      · replace hf := o_pos hf c18
        exact J27_15 hf
noncomputable def fX4_rateOf (c4_rates : Nat → Int32) (p1 : Int32) : Option (Int32) := og (vp_in p1 12) (some (c4_rates (Int32.toNatClampNeg p1)))
theorem ydX4_rateOf : yX4_rateOf.cls = RX4 ∧ yX4_rateOf.cls ≠ "java/lang/invoke/MethodHandle" ∧ yX4_rateOf.cls ≠ "java/lang/invoke/VarHandle" ∧ (parseMethodDescriptor yX4_rateOf.desc).map (fun d => d.parameters.length) = some 1 := by decide +kernel
set_option maxHeartbeats 8000000 in
set_option maxRecDepth 100000 in
theorem kX4_rateOf (l : Launch) (D : va_G) (cy : Nat → ClassId) (ad : Nat → Nat) (c4_made : Int32) (c4_kinds : Nat → Int32) (c4_places : Nat → Int32) (c4_rates : Nat → Int32) (c4_readings : Nat → Int32) (c4_bearing : Nat → Int32) (c5_legs : Int32) (c5_length : Int32) (c5_ways : Nat → Int32) (c5_units : Nat → Int32) (c5_stuffOf : Nat → Int32) (c5_point : Nat → Int32) (c6_bytes : Nat → Int32) (c6_sizes : Nat → Int32) (c6_weights : Nat → Int32) (p1 : Int32) {ra : Int32} (hf : fX4_rateOf c4_rates p1 = some ra) : CI l D cy yX4_rateOf wsX4_rateOf ({ frames := 0, cells := 0, slots := 0, locals := 0 } : Room) [.ref (ad 40), .int p1] (w4 cy ad c4_made c4_kinds c4_places c4_rates c4_readings c4_bearing c5_legs c5_length c5_ways c5_units c5_stuffOf c5_point c6_bytes c6_sizes c6_weights) ra (w4 cy ad c4_made c4_kinds c4_places c4_rates c4_readings c4_bearing c5_legs c5_length c5_ways c5_units c5_stuffOf c5_point c6_bytes c6_sizes c6_weights) := by
  unfold fX4_rateOf at hf
  refine c_of_i (ty := .int) (own := RX4) (by decide) rfl rfl (Nat.le_of_ble_eq_true rfl) (fun X hC hRet => ?_)
  refine r_sub [(0, .ref (ad 40)), (1, .int p1)] [0, 1] rfl ?_
  have hin4 : ∀ w ∈ wsX40, w ∈ wsX4_rateOf := fun w h => List.mem_cons_of_mem _ (List.mem_append_right _ h)
  have hw0 : Cond.fieldLink RX4 18 "HotPipes$Rests" "rates" "[I" ∈ wsX4_rateOf := List.mem_of_getElem? (i := 1) rfl
  refine r_aload_n hC dX4_rateOf_0 rfl 0 rfl ?_
  refine r_get hC hin4 0 rfl rfl 3 (by decide) rfl hw0 rfl dX4_rateOf_1 ?_
  refine r_iload_n hC dX4_rateOf_4 rfl 1 rfl ?_
  obtain ⟨g1, hf⟩ := og_some hf
  refine r_iald hC 3 rfl g1 dX4_rateOf_5 ?_
  obtain rfl := so_1 hf
  exact hRet _ _ _ dX4_rateOf_6 rfl
noncomputable def fX4_setRate (c4_rates : Nat → Int32) (p1 : Int32) (p2 : Int32) : Option ((Nat → Int32)) := og (vp_in p1 12) (some (upd c4_rates (Int32.toNatClampNeg p1) p2))
theorem ydX4_setRate : yX4_setRate.cls = RX4 ∧ yX4_setRate.cls ≠ "java/lang/invoke/MethodHandle" ∧ yX4_setRate.cls ≠ "java/lang/invoke/VarHandle" ∧ (parseMethodDescriptor yX4_setRate.desc).map (fun d => d.parameters.length) = some 2 := by decide +kernel
set_option maxHeartbeats 8000000 in
set_option maxRecDepth 100000 in
theorem kX4_setRate (l : Launch) (D : va_G) (cy : Nat → ClassId) (ad : Nat → Nat) (c4_made : Int32) (c4_kinds : Nat → Int32) (c4_places : Nat → Int32) (c4_rates : Nat → Int32) (c4_readings : Nat → Int32) (c4_bearing : Nat → Int32) (c5_legs : Int32) (c5_length : Int32) (c5_ways : Nat → Int32) (c5_units : Nat → Int32) (c5_stuffOf : Nat → Int32) (c5_point : Nat → Int32) (c6_bytes : Nat → Int32) (c6_sizes : Nat → Int32) (c6_weights : Nat → Int32) (p1 : Int32) (p2 : Int32) {z4_rates : Nat → Int32} (hf : fX4_setRate c4_rates p1 p2 = some z4_rates) : CV l D cy yX4_setRate wsX4_setRate ({ frames := 0, cells := 0, slots := 0, locals := 0 } : Room) [.ref (ad 40), .int p1, .int p2] (w4 cy ad c4_made c4_kinds c4_places c4_rates c4_readings c4_bearing c5_legs c5_length c5_ways c5_units c5_stuffOf c5_point c6_bytes c6_sizes c6_weights) (w4 cy ad c4_made c4_kinds c4_places z4_rates c4_readings c4_bearing c5_legs c5_length c5_ways c5_units c5_stuffOf c5_point c6_bytes c6_sizes c6_weights) := by
  unfold fX4_setRate at hf
  refine c_of_v (own := RX4) (by decide) rfl rfl (Nat.le_of_ble_eq_true rfl) (fun X hC hRet => ?_)
  refine r_sub [(0, .ref (ad 40)), (1, .int p1), (2, .int p2)] [0, 1, 2] rfl ?_
  have hin4 : ∀ w ∈ wsX40, w ∈ wsX4_setRate := fun w h => List.mem_cons_of_mem _ (List.mem_append_right _ h)
  have hw0 : Cond.fieldLink RX4 18 "HotPipes$Rests" "rates" "[I" ∈ wsX4_setRate := List.mem_of_getElem? (i := 1) rfl
  refine r_aload_n hC dX4_setRate_0 rfl 0 rfl ?_
  refine r_get hC hin4 0 rfl rfl 3 (by decide) rfl hw0 rfl dX4_setRate_1 ?_
  refine r_iload_n hC dX4_setRate_4 rfl 1 rfl ?_
  refine r_iload_n hC dX4_setRate_5 rfl 2 rfl ?_
  obtain ⟨g1, hf⟩ := og_some hf
  refine r_iast hC 3 rfl g1 dX4_setRate_6 (w4 cy ad c4_made c4_kinds c4_places (upd c4_rates (Int32.toNatClampNeg p1) p2) c4_readings c4_bearing c5_legs c5_length c5_ways c5_units c5_stuffOf c5_point c6_bytes c6_sizes c6_weights) rfl ?_
  obtain rfl := so_1 hf
  exact hRet _ _ _ dX4_setRate_7
noncomputable def fX4_travel (N : Nat) (c4_places : Nat → Int32) (c5_legs : Int32) (c5_ways : Nat → Int32) (c5_units : Nat → Int32) (c5_stuffOf : Nat → Int32) (c6_bytes : Nat → Int32) (c6_sizes : Nat → Int32) (p1 : Int32) (p2 : Int32) : Option (Int32) := og (vp_in p1 12) (ob (fX5_growth N c5_legs c5_ways c5_units c5_stuffOf c6_bytes c6_sizes (c4_places (Int32.toNatClampNeg p1)) p2 2) (fun (r2 : Int32) => some (if 0 ≤ r2 then r2 else 0 - r2)))
theorem ydX4_travel : yX4_travel.cls = RX4 ∧ yX4_travel.cls ≠ "java/lang/invoke/MethodHandle" ∧ yX4_travel.cls ≠ "java/lang/invoke/VarHandle" ∧ (parseMethodDescriptor yX4_travel.desc).map (fun d => d.parameters.length) = some 2 := by decide +kernel
set_option maxHeartbeats 8000000 in
set_option maxRecDepth 100000 in
theorem kX4_travel (l : Launch) (D : va_G) (cy : Nat → ClassId) (ad : Nat → Nat) (c4_made : Int32) (c4_kinds : Nat → Int32) (c4_places : Nat → Int32) (c4_rates : Nat → Int32) (c4_readings : Nat → Int32) (c4_bearing : Nat → Int32) (c5_legs : Int32) (c5_length : Int32) (c5_ways : Nat → Int32) (c5_units : Nat → Int32) (c5_stuffOf : Nat → Int32) (c5_point : Nat → Int32) (c6_bytes : Nat → Int32) (c6_sizes : Nat → Int32) (c6_weights : Nat → Int32) (p1 : Int32) (p2 : Int32) (N : Nat) {ra : Int32} (hf : fX4_travel N c4_places c5_legs c5_ways c5_units c5_stuffOf c6_bytes c6_sizes p1 p2 = some ra) : CI l D cy yX4_travel wsX4_travel ({ frames := 3, cells := 0, slots := 0, locals := 72 } : Room) [.ref (ad 40), .int p1, .int p2] (w4 cy ad c4_made c4_kinds c4_places c4_rates c4_readings c4_bearing c5_legs c5_length c5_ways c5_units c5_stuffOf c5_point c6_bytes c6_sizes c6_weights) ra (w4 cy ad c4_made c4_kinds c4_places c4_rates c4_readings c4_bearing c5_legs c5_length c5_ways c5_units c5_stuffOf c5_point c6_bytes c6_sizes c6_weights) := by
  unfold fX4_travel at hf
  refine c_of_i (ty := .int) (own := RX4) (by decide) rfl rfl (Nat.le_of_ble_eq_true rfl) (fun X hC hRet => ?_)
  refine r_sub [(0, .ref (ad 40)), (1, .int p1), (2, .int p2)] [0, 1, 2] rfl ?_
  have hin4 : ∀ w ∈ wsX40, w ∈ wsX4_travel := fun w h => List.mem_cons_of_mem _ (List.mem_append_left _ (List.mem_append_left _ (List.mem_append_right _ h)))
  have hw0 : Cond.fieldLink RX4 32 "HotPipes$Rests" "run" "LHotPipes$Run;" ∈ wsX4_travel := List.mem_of_getElem? (i := 1) rfl
  have hw1 : Cond.fieldLink RX4 15 "HotPipes$Rests" "places" "[I" ∈ wsX4_travel := List.mem_of_getElem? (i := 2) rfl
  have hw2 : Cond.methodLink RX4 53 Lib.Math.abs.name ∈ wsX4_travel := List.mem_of_getElem? (i := 3) rfl
  have hw3 : Cond.static Lib.Math.abs.name ∈ wsX4_travel := List.mem_of_getElem? (i := 4) rfl
  have hw4 : Cond.initialized "java/lang/Math" ∈ wsX4_travel := List.mem_of_getElem? (i := 5) rfl
  have hw5 : Cond.code Lib.Math.abs.name Lib.Math.abs.code 1 (some .int) ∈ wsX4_travel := List.mem_of_getElem? (i := 6) rfl
  refine r_aload_n hC dX4_travel_0 rfl 0 rfl ?_
  refine r_get hC hin4 0 rfl rfl 0 (by decide) rfl hw0 rfl dX4_travel_1 ?_
  refine r_aload_n hC dX4_travel_4 rfl 0 rfl ?_
  refine r_get hC hin4 0 rfl rfl 2 (by decide) rfl hw1 rfl dX4_travel_5 ?_
  refine r_iload_n hC dX4_travel_8 rfl 1 rfl ?_
  obtain ⟨g1, hf⟩ := og_some hf
  refine r_iald hC 2 rfl g1 dX4_travel_9 ?_
  refine r_iload_n hC dX4_travel_10 rfl 2 rfl ?_
  refine r_iconst hC dX4_travel_11 ic_2 ?_
  obtain ⟨r2, h3, hf⟩ := ob_some hf
  refine r_vi (st := []) hC (kX5_growth l D cy ad c5_legs c5_length c5_ways c5_units c5_stuffOf c5_point c6_bytes c6_sizes c6_weights (c4_places (Int32.toNatClampNeg p1)) p2 2 N h3) gX4_travel_X5_growth rfl ⟨rfl, rfl⟩ ydX5_growth ⟨Nat.le_of_ble_eq_true rfl, Nat.le_of_ble_eq_true rfl⟩ ⟨Nat.le_refl 0, Nat.le_refl 0⟩ 0 rfl rfl (v4 cy ad c4_made c4_kinds c4_places c4_rates c4_readings c4_bearing) [] rfl _ rfl (Nat.le_of_ble_eq_true rfl) dX4_travel_12 (w4 cy ad c4_made c4_kinds c4_places c4_rates c4_readings c4_bearing c5_legs c5_length c5_ways c5_units c5_stuffOf c5_point c6_bytes c6_sizes c6_weights) rfl ?_
  refine r_mabs hC hw2 hw3 hw4 hw5 (Nat.le_of_ble_eq_true rfl) (Nat.le_of_ble_eq_true rfl) (Nat.le_refl 0) (Nat.le_refl 0) dX4_travel_15 ?_
  obtain rfl := so_1 hf
  exact hRet _ _ _ dX4_travel_18 rfl
noncomputable def fX4_noteBearing_L2 (N : Nat) (c4_made : Int32) (c4_kinds : Nat → Int32) (c4_places : Nat → Int32) (c5_legs : Int32) (c5_length : Int32) (c5_ways : Nat → Int32) (c5_units : Nat → Int32) (c5_stuffOf : Nat → Int32) (c6_bytes : Nat → Int32) (c6_sizes : Nat → Int32) (p1 : Int32) : Nat → Int32 → (Nat → Int32) → Option ((Nat → Int32))
  | 0, _, _ => none
  | n + 1, x1, s2 => (if c4_made ≤ x1 then some s2 else ob (fX4_isPresent c4_kinds c4_places c5_length x1) (fun (r4 : Int32) => ob (oj (some 0) (fun (K46_10 : Option (Int32)) => (if r4 = 0 then K46_10 else og (vp_in x1 12) ((if (c4_kinds (Int32.toNatClampNeg x1)) = 3 then K46_10 else ob (fX4_isLifted N c4_kinds c4_places c5_legs c5_length c5_ways c5_units c5_stuffOf c6_bytes c6_sizes x1 p1) (fun (r14 : Int32) => (if r14 = 0 then some 1 else K46_10))))))) (fun (t6 : Int32) => og (vp_in x1 12) (fX4_noteBearing_L2 N c4_made c4_kinds c4_places c5_legs c5_length c5_ways c5_units c5_stuffOf c6_bytes c6_sizes p1 n (x1 + 1) (upd s2 (Int32.toNatClampNeg x1) (vp_nar .boolean t6))))))
noncomputable def fX4_noteBearing (N : Nat) (c4_made : Int32) (c4_kinds : Nat → Int32) (c4_places : Nat → Int32) (c4_bearing : Nat → Int32) (c5_legs : Int32) (c5_length : Int32) (c5_ways : Nat → Int32) (c5_units : Nat → Int32) (c5_stuffOf : Nat → Int32) (c6_bytes : Nat → Int32) (c6_sizes : Nat → Int32) (p1 : Int32) : Option ((Nat → Int32)) := fX4_noteBearing_L2 N c4_made c4_kinds c4_places c5_legs c5_length c5_ways c5_units c5_stuffOf c6_bytes c6_sizes p1 N 0 c4_bearing
theorem ydX4_noteBearing : yX4_noteBearing.cls = RX4 ∧ yX4_noteBearing.cls ≠ "java/lang/invoke/MethodHandle" ∧ yX4_noteBearing.cls ≠ "java/lang/invoke/VarHandle" ∧ (parseMethodDescriptor yX4_noteBearing.desc).map (fun d => d.parameters.length) = some 1 := by decide +kernel
set_option maxHeartbeats 8000000 in
set_option maxRecDepth 100000 in
theorem kX4_noteBearing (l : Launch) (D : va_G) (cy : Nat → ClassId) (ad : Nat → Nat) (c4_made : Int32) (c4_kinds : Nat → Int32) (c4_places : Nat → Int32) (c4_rates : Nat → Int32) (c4_readings : Nat → Int32) (c4_bearing : Nat → Int32) (c5_legs : Int32) (c5_length : Int32) (c5_ways : Nat → Int32) (c5_units : Nat → Int32) (c5_stuffOf : Nat → Int32) (c5_point : Nat → Int32) (c6_bytes : Nat → Int32) (c6_sizes : Nat → Int32) (c6_weights : Nat → Int32) (p1 : Int32) (N : Nat) {z4_bearing : Nat → Int32} (hf : fX4_noteBearing N c4_made c4_kinds c4_places c4_bearing c5_legs c5_length c5_ways c5_units c5_stuffOf c6_bytes c6_sizes p1 = some z4_bearing) : CV l D cy yX4_noteBearing wsX4_noteBearing ({ frames := 4, cells := 0, slots := 0, locals := 95 } : Room) [.ref (ad 40), .int p1] (w4 cy ad c4_made c4_kinds c4_places c4_rates c4_readings c4_bearing c5_legs c5_length c5_ways c5_units c5_stuffOf c5_point c6_bytes c6_sizes c6_weights) (w4 cy ad c4_made c4_kinds c4_places c4_rates c4_readings z4_bearing c5_legs c5_length c5_ways c5_units c5_stuffOf c5_point c6_bytes c6_sizes c6_weights) := by
  unfold fX4_noteBearing at hf
  refine c_of_v (own := RX4) (by decide) rfl rfl (Nat.le_of_ble_eq_true rfl) (fun X hC hRet => ?_)
  refine r_sub [(0, .ref (ad 40)), (1, .int p1)] [0, 1] rfl ?_
  have hin4 : ∀ w ∈ wsX40, w ∈ wsX4_noteBearing := fun w h => List.mem_cons_of_mem _ (List.mem_append_left _ (List.mem_append_left _ (List.mem_append_right _ h)))
  have hw0 : Cond.fieldLink RX4 28 "HotPipes$Rests" "made" "I" ∈ wsX4_noteBearing := List.mem_of_getElem? (i := 1) rfl
  have hw1 : Cond.fieldLink RX4 24 "HotPipes$Rests" "bearing" "[Z" ∈ wsX4_noteBearing := List.mem_of_getElem? (i := 2) rfl
  have hw2 : Cond.fieldLink RX4 9 "HotPipes$Rests" "kinds" "[I" ∈ wsX4_noteBearing := List.mem_of_getElem? (i := 3) rfl
  refine r_iconst hC dX4_noteBearing_0 ic_0 ?_
  refine r_istore_n hC [(2, .int 0), (0, .ref (ad 40)), (1, .int p1)] dX4_noteBearing_1 rfl (by decide) rfl ?_
  have L2 : ∀ (n : Nat) (x1 : Int32) (s2 : Nat → Int32), fX4_noteBearing_L2 N c4_made c4_kinds c4_places c5_legs c5_length c5_ways c5_units c5_stuffOf c6_bytes c6_sizes p1 n x1 s2 = some z4_bearing → GG X 3 0 0 (w4 cy ad c4_made c4_kinds c4_places c4_rates c4_readings s2 c5_legs c5_length c5_ways c5_units c5_stuffOf c5_point c6_bytes c6_sizes c6_weights) [(0, .ref (ad 40)), (1, .int p1), (2, .int x1)] 2 [] := by
    intro n
    induction n with
    | zero => intro x1 s2 hf; cases (show none = some _ from hf)
    | succ n ih =>
      intro x1 s2 hf
      rw [fX4_noteBearing_L2] at hf
      refine r_iload_n hC dX4_noteBearing_2 rfl 2 rfl ?_
      refine r_aload_n hC dX4_noteBearing_3 rfl 0 rfl ?_
      refine r_get hC hin4 0 rfl rfl 6 (by decide) rfl hw0 rfl dX4_noteBearing_4 ?_
      refine r_icmp_ge (tgt := 54) hC dX4_noteBearing_7 (by decide) (fun c3 => ?_) (fun c3 => ?_)
      · replace hf := o_pos hf c3
        obtain rfl := so_1 hf
        exact hRet _ _ _ dX4_noteBearing_54
      · replace hf := o_neg hf c3
        refine r_aload_n hC dX4_noteBearing_10 rfl 0 rfl ?_
        refine r_get hC hin4 0 rfl rfl 5 (by decide) rfl hw1 rfl dX4_noteBearing_11 ?_
        refine r_iload_n hC dX4_noteBearing_14 rfl 2 rfl ?_
        refine r_aload_n hC dX4_noteBearing_15 rfl 0 rfl ?_
        refine r_iload_n hC dX4_noteBearing_16 rfl 2 rfl ?_
        obtain ⟨r4, h5, hf⟩ := ob_some hf
        refine r_vi (st := [.int x1, .ref (ad 1406)]) hC (kX4_isPresent l D cy ad c4_made c4_kinds c4_places c4_rates c4_readings s2 c5_legs c5_length c5_ways c5_units c5_stuffOf c5_point c6_bytes c6_sizes c6_weights x1 h5) gX4_noteBearing_X4_isPresent rfl ⟨rfl, rfl⟩ ydX4_isPresent ⟨Nat.le_of_ble_eq_true rfl, Nat.le_of_ble_eq_true rfl⟩ ⟨Nat.le_refl 0, Nat.le_refl 0⟩ 0 rfl rfl [] [] rfl _ rfl (Nat.le_of_ble_eq_true rfl) dX4_noteBearing_17 (w4 cy ad c4_made c4_kinds c4_places c4_rates c4_readings s2 c5_legs c5_length c5_ways c5_units c5_stuffOf c5_point c6_bytes c6_sizes c6_weights) rfl ?_
        obtain ⟨t6, h9, hf⟩ := ob_some hf
        have J47_8 : GG X 3 0 0 (w4 cy ad c4_made c4_kinds c4_places c4_rates c4_readings s2 c5_legs c5_length c5_ways c5_units c5_stuffOf c5_point c6_bytes c6_sizes c6_weights) [(0, .ref (ad 40)), (1, .int p1), (2, .int x1)] 47 [.int t6, .int x1, .ref (ad 1406)] := by
          obtain ⟨g7, hf⟩ := og_some hf
          refine r_zast hC 5 rfl g7 dX4_noteBearing_47 (w4 cy ad c4_made c4_kinds c4_places c4_rates c4_readings (upd s2 (Int32.toNatClampNeg x1) (vp_nar .boolean t6)) c5_legs c5_length c5_ways c5_units c5_stuffOf c5_point c6_bytes c6_sizes c6_weights) rfl ?_
          refine r_iinc hC [(2, .int (x1 + 1)), (0, .ref (ad 40)), (1, .int p1)] (x1 + 1) dX4_noteBearing_48 2 rfl (ii_1 _) (by decide) rfl ?_
          refine r_goto (tgt := 2) hC dX4_noteBearing_51 (by decide) ?_
          refine r_sub [(0, .ref (ad 40)), (1, .int p1), (2, .int (x1 + 1))] [1, 2, 0] rfl ?_
          exact ih (x1 + 1) (upd s2 (Int32.toNatClampNeg x1) (vp_nar .boolean t6)) hf
        replace hf := h9
        obtain ⟨K46_10, eK46_10, hf⟩ := oj_some hf
        have J46_10 : K46_10 = some t6 → GG X 3 0 0 (w4 cy ad c4_made c4_kinds c4_places c4_rates c4_readings s2 c5_legs c5_length c5_ways c5_units c5_stuffOf c5_point c6_bytes c6_sizes c6_weights) [(0, .ref (ad 40)), (1, .int p1), (2, .int x1)] 46 [.int x1, .ref (ad 1406)] := by
          intro hf
          replace hf := oa0 eK46_10 hf
          refine r_iconst hC dX4_noteBearing_46 ic_0 ?_
          obtain rfl := so_1 hf
          exact J47_8
        refine r_if_eq (tgt := 46) hC dX4_noteBearing_20 (by decide) (fun c11 => ?_) (fun c11 => ?_)
        · replace hf := o_pos hf c11
          exact J46_10 hf
        · replace hf := o_neg hf c11
          refine r_aload_n hC dX4_noteBearing_23 rfl 0 rfl ?_
          refine r_get hC hin4 0 rfl rfl 1 (by decide) rfl hw2 rfl dX4_noteBearing_24 ?_
          refine r_iload_n hC dX4_noteBearing_27 rfl 2 rfl ?_
          obtain ⟨g12, hf⟩ := og_some hf
          refine r_iald hC 1 rfl g12 dX4_noteBearing_28 ?_
          refine r_iconst hC dX4_noteBearing_29 ic_3 ?_
          refine r_icmp_eq (tgt := 46) hC dX4_noteBearing_30 (by decide) (fun c13 => ?_) (fun c13 => ?_)
          · replace hf := o_pos hf c13
            exact J46_10 hf
          · replace hf := o_neg hf c13
            refine r_aload_n hC dX4_noteBearing_33 rfl 0 rfl ?_
            refine r_iload_n hC dX4_noteBearing_34 rfl 2 rfl ?_
            refine r_iload_n hC dX4_noteBearing_35 rfl 1 rfl ?_
            obtain ⟨r14, h15, hf⟩ := ob_some hf
            refine r_vi (st := [.int x1, .ref (ad 1406)]) hC (kX4_isLifted l D cy ad c4_made c4_kinds c4_places c4_rates c4_readings s2 c5_legs c5_length c5_ways c5_units c5_stuffOf c5_point c6_bytes c6_sizes c6_weights x1 p1 N h15) gX4_noteBearing_X4_isLifted rfl ⟨rfl, rfl⟩ ydX4_isLifted ⟨Nat.le_of_ble_eq_true rfl, Nat.le_of_ble_eq_true rfl⟩ ⟨Nat.le_refl 0, Nat.le_refl 0⟩ 0 rfl rfl [] [] rfl _ rfl (Nat.le_of_ble_eq_true rfl) dX4_noteBearing_36 (w4 cy ad c4_made c4_kinds c4_places c4_rates c4_readings s2 c5_legs c5_length c5_ways c5_units c5_stuffOf c5_point c6_bytes c6_sizes c6_weights) rfl ?_
            refine r_if_ne (tgt := 46) hC dX4_noteBearing_39 (by decide) (fun c16 => ?_) (fun c16 => ?_)
            · replace hf := o_neg hf c16
              exact J46_10 hf
            · replace hf := o_pos hf c16
              refine r_iconst hC dX4_noteBearing_42 ic_1 ?_
              refine r_goto (tgt := 47) hC dX4_noteBearing_43 (by decide) ?_
              obtain rfl := so_1 hf
              exact J47_8
  refine r_sub [(0, .ref (ad 40)), (1, .int p1), (2, .int 0)] [1, 2, 0] rfl ?_
  exact L2 N 0 c4_bearing hf
noncomputable def fX4_isBearing (c4_bearing : Nat → Int32) (p1 : Int32) : Option (Int32) := og (vp_in p1 12) (og ((c4_bearing (Int32.toNatClampNeg p1)) = 0 ∨ (c4_bearing (Int32.toNatClampNeg p1)) = 1) (some (c4_bearing (Int32.toNatClampNeg p1))))
theorem ydX4_isBearing : yX4_isBearing.cls = RX4 ∧ yX4_isBearing.cls ≠ "java/lang/invoke/MethodHandle" ∧ yX4_isBearing.cls ≠ "java/lang/invoke/VarHandle" ∧ (parseMethodDescriptor yX4_isBearing.desc).map (fun d => d.parameters.length) = some 1 := by decide +kernel
set_option maxHeartbeats 8000000 in
set_option maxRecDepth 100000 in
theorem kX4_isBearing (l : Launch) (D : va_G) (cy : Nat → ClassId) (ad : Nat → Nat) (c4_made : Int32) (c4_kinds : Nat → Int32) (c4_places : Nat → Int32) (c4_rates : Nat → Int32) (c4_readings : Nat → Int32) (c4_bearing : Nat → Int32) (c5_legs : Int32) (c5_length : Int32) (c5_ways : Nat → Int32) (c5_units : Nat → Int32) (c5_stuffOf : Nat → Int32) (c5_point : Nat → Int32) (c6_bytes : Nat → Int32) (c6_sizes : Nat → Int32) (c6_weights : Nat → Int32) (p1 : Int32) {ra : Int32} (hf : fX4_isBearing c4_bearing p1 = some ra) : CI l D cy yX4_isBearing wsX4_isBearing ({ frames := 0, cells := 0, slots := 0, locals := 0 } : Room) [.ref (ad 40), .int p1] (w4 cy ad c4_made c4_kinds c4_places c4_rates c4_readings c4_bearing c5_legs c5_length c5_ways c5_units c5_stuffOf c5_point c6_bytes c6_sizes c6_weights) ra (w4 cy ad c4_made c4_kinds c4_places c4_rates c4_readings c4_bearing c5_legs c5_length c5_ways c5_units c5_stuffOf c5_point c6_bytes c6_sizes c6_weights) := by
  unfold fX4_isBearing at hf
  refine c_of_i (ty := .boolean) (own := RX4) (by decide) rfl rfl (Nat.le_of_ble_eq_true rfl) (fun X hC hRet => ?_)
  refine r_sub [(0, .ref (ad 40)), (1, .int p1)] [0, 1] rfl ?_
  have hin4 : ∀ w ∈ wsX40, w ∈ wsX4_isBearing := fun w h => List.mem_cons_of_mem _ (List.mem_append_right _ h)
  have hw0 : Cond.fieldLink RX4 24 "HotPipes$Rests" "bearing" "[Z" ∈ wsX4_isBearing := List.mem_of_getElem? (i := 1) rfl
  refine r_aload_n hC dX4_isBearing_0 rfl 0 rfl ?_
  refine r_get hC hin4 0 rfl rfl 5 (by decide) rfl hw0 rfl dX4_isBearing_1 ?_
  refine r_iload_n hC dX4_isBearing_4 rfl 1 rfl ?_
  obtain ⟨g1, hf⟩ := og_some hf
  refine r_zald hC 5 rfl g1 dX4_isBearing_5 ?_
  obtain ⟨g2, hf⟩ := og_some hf
  obtain rfl := so_1 hf
  exact hRet _ _ _ dX4_isBearing_6 (nb_of g2)
noncomputable def fX4_twiceLoad_L30 (c4_made : Int32) (c4_places : Nat → Int32) (c4_bearing : Nat → Int32) (p1 : Int32) (p2 : Int32) (K122_8 : Int32 → Int32 → Option (Int32)) : Nat → Int32 → Int32 → Int32 → Option (Int32)
  | 0, _, _, _ => none
  | n + 1, x11, x12, x13 => (if c4_made ≤ x13 then K122_8 x11 x12 else og (vp_in x13 12) (ob2 ((if (c4_bearing (Int32.toNatClampNeg x13)) = 0 then some (x11, x12) else (if x13 = p2 then some (x11, x12) else og (vp_in x13 12) (og (vp_in p1 12) ((if (c4_places (Int32.toNatClampNeg p1)) ≤ (c4_places (Int32.toNatClampNeg x13)) then og (vp_in x13 12) (og (vp_in p1 12) ((if (c4_places (Int32.toNatClampNeg x13)) ≤ (c4_places (Int32.toNatClampNeg p1)) then some (x11, x12) else og (vp_in x13 12) (olet (if (c4_places (Int32.toNatClampNeg x13)) < x12 then (c4_places (Int32.toNatClampNeg x13)) else x12) (fun (x29 : Int32) => some (x11, x29)))))) else og (vp_in x13 12) (olet (if x11 < (c4_places (Int32.toNatClampNeg x13)) then (c4_places (Int32.toNatClampNeg x13)) else x11) (fun (x31 : Int32) => some (x31, x12))))))))) (fun (x16 : Int32) (x17 : Int32) => fX4_twiceLoad_L30 c4_made c4_places c4_bearing p1 p2 K122_8 n x16 x17 (x13 + 1))))
noncomputable def fX4_twiceLoad (N : Nat) (c4_made : Int32) (c4_places : Nat → Int32) (c4_bearing : Nat → Int32) (c5_legs : Int32) (c5_length : Int32) (c5_units : Nat → Int32) (c5_stuffOf : Nat → Int32) (c6_weights : Nat → Int32) (p1 : Int32) (p2 : Int32) : Option (Int32) := og (vp_in p1 12) ((if (c4_bearing (Int32.toNatClampNeg p1)) = 0 then some 0 else (if p1 = p2 then some 0 else ob (fX5_length c5_length) (fun (r4 : Int32) => oj (fun (x6 : Int32) (x7 : Int32) => ob (fX5_weight N c5_legs c5_units c5_stuffOf c6_weights x6 x7) (fun (r9 : Int32) => some r9)) (fun (K122_8 : Int32 → Int32 → Option (Int32)) => fX4_twiceLoad_L30 c4_made c4_places c4_bearing p1 p2 K122_8 N 0 r4 0)))))
theorem ydX4_twiceLoad : yX4_twiceLoad.cls = RX4 ∧ yX4_twiceLoad.cls ≠ "java/lang/invoke/MethodHandle" ∧ yX4_twiceLoad.cls ≠ "java/lang/invoke/VarHandle" ∧ (parseMethodDescriptor yX4_twiceLoad.desc).map (fun d => d.parameters.length) = some 2 := by decide +kernel
set_option maxHeartbeats 8000000 in
set_option maxRecDepth 100000 in
theorem kX4_twiceLoad (l : Launch) (D : va_G) (cy : Nat → ClassId) (ad : Nat → Nat) (c4_made : Int32) (c4_kinds : Nat → Int32) (c4_places : Nat → Int32) (c4_rates : Nat → Int32) (c4_readings : Nat → Int32) (c4_bearing : Nat → Int32) (c5_legs : Int32) (c5_length : Int32) (c5_ways : Nat → Int32) (c5_units : Nat → Int32) (c5_stuffOf : Nat → Int32) (c5_point : Nat → Int32) (c6_bytes : Nat → Int32) (c6_sizes : Nat → Int32) (c6_weights : Nat → Int32) (p1 : Int32) (p2 : Int32) (N : Nat) {ra : Int32} (hf : fX4_twiceLoad N c4_made c4_places c4_bearing c5_legs c5_length c5_units c5_stuffOf c6_weights p1 p2 = some ra) : CI l D cy yX4_twiceLoad wsX4_twiceLoad ({ frames := 3, cells := 0, slots := 0, locals := 70 } : Room) [.ref (ad 40), .int p1, .int p2] (w4 cy ad c4_made c4_kinds c4_places c4_rates c4_readings c4_bearing c5_legs c5_length c5_ways c5_units c5_stuffOf c5_point c6_bytes c6_sizes c6_weights) ra (w4 cy ad c4_made c4_kinds c4_places c4_rates c4_readings c4_bearing c5_legs c5_length c5_ways c5_units c5_stuffOf c5_point c6_bytes c6_sizes c6_weights) := by
  unfold fX4_twiceLoad at hf
  refine c_of_i (ty := .int) (own := RX4) (by decide) rfl rfl (Nat.le_of_ble_eq_true rfl) (fun X hC hRet => ?_)
  refine r_sub [(0, .ref (ad 40)), (1, .int p1), (2, .int p2)] [0, 1, 2] rfl ?_
  have hin4 : ∀ w ∈ wsX40, w ∈ wsX4_twiceLoad := fun w h => List.mem_cons_of_mem _ (List.mem_append_left _ (List.mem_append_left _ (List.mem_append_right _ h)))
  have hw0 : Cond.fieldLink RX4 24 "HotPipes$Rests" "bearing" "[Z" ∈ wsX4_twiceLoad := List.mem_of_getElem? (i := 1) rfl
  have hw1 : Cond.fieldLink RX4 32 "HotPipes$Rests" "run" "LHotPipes$Run;" ∈ wsX4_twiceLoad := List.mem_of_getElem? (i := 2) rfl
  have hw2 : Cond.fieldLink RX4 28 "HotPipes$Rests" "made" "I" ∈ wsX4_twiceLoad := List.mem_of_getElem? (i := 3) rfl
  have hw3 : Cond.fieldLink RX4 15 "HotPipes$Rests" "places" "[I" ∈ wsX4_twiceLoad := List.mem_of_getElem? (i := 4) rfl
  have hw4 : Cond.methodLink RX4 67 Lib.Math.min.name ∈ wsX4_twiceLoad := List.mem_of_getElem? (i := 9) rfl
  have hw5 : Cond.static Lib.Math.min.name ∈ wsX4_twiceLoad := List.mem_of_getElem? (i := 10) rfl
  have hw6 : Cond.initialized "java/lang/Math" ∈ wsX4_twiceLoad := List.mem_of_getElem? (i := 7) rfl
  have hw7 : Cond.code Lib.Math.min.name Lib.Math.min.code 2 (some .int) ∈ wsX4_twiceLoad := List.mem_of_getElem? (i := 11) rfl
  have hw8 : Cond.methodLink RX4 63 Lib.Math.max.name ∈ wsX4_twiceLoad := List.mem_of_getElem? (i := 5) rfl
  have hw9 : Cond.static Lib.Math.max.name ∈ wsX4_twiceLoad := List.mem_of_getElem? (i := 6) rfl
  have hw10 : Cond.code Lib.Math.max.name Lib.Math.max.code 2 (some .int) ∈ wsX4_twiceLoad := List.mem_of_getElem? (i := 8) rfl
  refine r_aload_n hC dX4_twiceLoad_0 rfl 0 rfl ?_
  refine r_get hC hin4 0 rfl rfl 5 (by decide) rfl hw0 rfl dX4_twiceLoad_1 ?_
  refine r_iload_n hC dX4_twiceLoad_4 rfl 1 rfl ?_
  obtain ⟨g1, hf⟩ := og_some hf
  refine r_zald hC 5 rfl g1 dX4_twiceLoad_5 ?_
  refine r_if_eq (tgt := 14) hC dX4_twiceLoad_6 (by decide) (fun c2 => ?_) (fun c2 => ?_)
  · replace hf := o_pos hf c2
    refine r_iconst hC dX4_twiceLoad_14 ic_0 ?_
    obtain rfl := so_1 hf
    exact hRet _ _ _ dX4_twiceLoad_15 rfl
  · replace hf := o_neg hf c2
    refine r_iload_n hC dX4_twiceLoad_9 rfl 1 rfl ?_
    refine r_iload_n hC dX4_twiceLoad_10 rfl 2 rfl ?_
    refine r_icmp_ne (tgt := 16) hC dX4_twiceLoad_11 (by decide) (fun c3 => ?_) (fun c3 => ?_)
    · replace hf := o_neg hf c3
      refine r_iconst hC dX4_twiceLoad_16 ic_0 ?_
      refine r_istore_n hC [(3, .int 0), (0, .ref (ad 40)), (1, .int p1), (2, .int p2)] dX4_twiceLoad_17 rfl (by decide) rfl ?_
      refine r_aload_n hC dX4_twiceLoad_18 rfl 1 rfl ?_
      refine r_get hC hin4 0 rfl rfl 0 (by decide) rfl hw1 rfl dX4_twiceLoad_19 ?_
      obtain ⟨r4, h5, hf⟩ := ob_some hf
      refine r_vi (st := []) hC (kX5_length l D cy ad c5_legs c5_length c5_ways c5_units c5_stuffOf c5_point c6_bytes c6_sizes c6_weights  h5) gX4_twiceLoad_X5_length rfl ⟨rfl, rfl⟩ ydX5_length ⟨Nat.le_of_ble_eq_true rfl, Nat.le_of_ble_eq_true rfl⟩ ⟨Nat.le_refl 0, Nat.le_refl 0⟩ 0 rfl rfl (v4 cy ad c4_made c4_kinds c4_places c4_rates c4_readings c4_bearing) [] rfl _ rfl (Nat.le_of_ble_eq_true rfl) dX4_twiceLoad_22 (w4 cy ad c4_made c4_kinds c4_places c4_rates c4_readings c4_bearing c5_legs c5_length c5_ways c5_units c5_stuffOf c5_point c6_bytes c6_sizes c6_weights) rfl ?_
      refine r_istore hC [(4, .int r4), (3, .int 0), (0, .ref (ad 40)), (1, .int p1), (2, .int p2)] dX4_twiceLoad_25 (by decide) rfl ?_
      refine r_iconst hC dX4_twiceLoad_27 ic_0 ?_
      refine r_istore hC [(5, .int 0), (4, .int r4), (3, .int 0), (0, .ref (ad 40)), (1, .int p1), (2, .int p2)] dX4_twiceLoad_28 (by decide) rfl ?_
      obtain ⟨K122_8, eK122_8, hf⟩ := oj_some hf
      have J122_8 : ∀ (x6 : Int32) (x7 : Int32), K122_8 x6 x7 = some ra → GG X 6 0 0 (w4 cy ad c4_made c4_kinds c4_places c4_rates c4_readings c4_bearing c5_legs c5_length c5_ways c5_units c5_stuffOf c5_point c6_bytes c6_sizes c6_weights) [(0, .ref (ad 40)), (3, .int x6), (4, .int x7)] 122 [] := by
        intro x6 x7 hf
        replace hf := oa2 eK122_8 hf
        refine r_aload_n hC dX4_twiceLoad_122 rfl 0 rfl ?_
        refine r_get hC hin4 0 rfl rfl 0 (by decide) rfl hw1 rfl dX4_twiceLoad_123 ?_
        refine r_iload_n hC dX4_twiceLoad_126 rfl 1 rfl ?_
        refine r_iload hC dX4_twiceLoad_127 2 rfl ?_
        obtain ⟨r9, h10, hf⟩ := ob_some hf
        refine r_vi (st := []) hC (kX5_weight l D cy ad c5_legs c5_length c5_ways c5_units c5_stuffOf c5_point c6_bytes c6_sizes c6_weights x6 x7 N h10) gX4_twiceLoad_X5_weight rfl ⟨rfl, rfl⟩ ydX5_weight ⟨Nat.le_of_ble_eq_true rfl, Nat.le_of_ble_eq_true rfl⟩ ⟨Nat.le_refl 0, Nat.le_refl 0⟩ 0 rfl rfl (v4 cy ad c4_made c4_kinds c4_places c4_rates c4_readings c4_bearing) [] rfl _ rfl (Nat.le_of_ble_eq_true rfl) dX4_twiceLoad_129 (w4 cy ad c4_made c4_kinds c4_places c4_rates c4_readings c4_bearing c5_legs c5_length c5_ways c5_units c5_stuffOf c5_point c6_bytes c6_sizes c6_weights) rfl ?_
        obtain rfl := so_1 hf
        exact hRet _ _ _ dX4_twiceLoad_132 rfl
      have L30 : ∀ (n : Nat) (x11 : Int32) (x12 : Int32) (x13 : Int32), fX4_twiceLoad_L30 c4_made c4_places c4_bearing p1 p2 K122_8 n x11 x12 x13 = some ra → GG X 6 0 0 (w4 cy ad c4_made c4_kinds c4_places c4_rates c4_readings c4_bearing c5_legs c5_length c5_ways c5_units c5_stuffOf c5_point c6_bytes c6_sizes c6_weights) [(0, .ref (ad 40)), (1, .int p1), (2, .int p2), (3, .int x11), (4, .int x12), (5, .int x13)] 30 [] := by
        intro n
        induction n with
        | zero => intro x11 x12 x13 hf; cases (show none = some _ from hf)
        | succ n ih =>
          intro x11 x12 x13 hf
          rw [fX4_twiceLoad_L30] at hf
          refine r_iload hC dX4_twiceLoad_30 5 rfl ?_
          refine r_aload_n hC dX4_twiceLoad_32 rfl 0 rfl ?_
          refine r_get hC hin4 0 rfl rfl 6 (by decide) rfl hw2 rfl dX4_twiceLoad_33 ?_
          refine r_icmp_ge (tgt := 122) hC dX4_twiceLoad_36 (by decide) (fun c14 => ?_) (fun c14 => ?_)
          · replace hf := o_pos hf c14
            refine r_sub [(0, .ref (ad 40)), (3, .int x11), (4, .int x12)] [0, 3, 4] rfl ?_
            exact J122_8 x11 x12 hf
          · replace hf := o_neg hf c14
            refine r_aload_n hC dX4_twiceLoad_39 rfl 0 rfl ?_
            refine r_get hC hin4 0 rfl rfl 5 (by decide) rfl hw0 rfl dX4_twiceLoad_40 ?_
            refine r_iload hC dX4_twiceLoad_43 5 rfl ?_
            obtain ⟨g15, hf⟩ := og_some hf
            refine r_zald hC 5 rfl g15 dX4_twiceLoad_45 ?_
            obtain ⟨x16, x17, h19, hf⟩ := ob2_some hf
            have J116_18 : GG X 6 0 0 (w4 cy ad c4_made c4_kinds c4_places c4_rates c4_readings c4_bearing c5_legs c5_length c5_ways c5_units c5_stuffOf c5_point c6_bytes c6_sizes c6_weights) [(0, .ref (ad 40)), (1, .int p1), (2, .int p2), (3, .int x16), (4, .int x17), (5, .int x13)] 116 [] := by
              refine r_iinc hC [(5, .int (x13 + 1)), (0, .ref (ad 40)), (1, .int p1), (2, .int p2), (3, .int x16), (4, .int x17)] (x13 + 1) dX4_twiceLoad_116 5 rfl (ii_1 _) (by decide) rfl ?_
              refine r_goto (tgt := 30) hC dX4_twiceLoad_119 (by decide) ?_
              refine r_sub [(0, .ref (ad 40)), (1, .int p1), (2, .int p2), (3, .int x16), (4, .int x17), (5, .int (x13 + 1))] [1, 2, 3, 4, 5, 0] rfl ?_
              exact ih x16 x17 (x13 + 1) hf
            replace hf := h19
            refine r_if_eq (tgt := 116) hC dX4_twiceLoad_46 (by decide) (fun c20 => ?_) (fun c20 => ?_)
            · replace hf := o_pos hf c20
              obtain ⟨rfl, rfl⟩ := so_2 hf
              exact J116_18
            · replace hf := o_neg hf c20
              refine r_iload hC dX4_twiceLoad_49 5 rfl ?_
              refine r_iload_n hC dX4_twiceLoad_51 rfl 2 rfl ?_
              refine r_icmp_eq (tgt := 116) hC dX4_twiceLoad_52 (by decide) (fun c21 => ?_) (fun c21 => ?_)
              · replace hf := o_pos hf c21
                obtain ⟨rfl, rfl⟩ := so_2 hf
                exact J116_18
              · replace hf := o_neg hf c21
                refine r_aload_n hC dX4_twiceLoad_55 rfl 0 rfl ?_
                refine r_get hC hin4 0 rfl rfl 2 (by decide) rfl hw3 rfl dX4_twiceLoad_56 ?_
                refine r_iload hC dX4_twiceLoad_59 5 rfl ?_
                obtain ⟨g22, hf⟩ := og_some hf
                refine r_iald hC 2 rfl g22 dX4_twiceLoad_61 ?_
                refine r_aload_n hC dX4_twiceLoad_62 rfl 0 rfl ?_
                refine r_get hC hin4 0 rfl rfl 2 (by decide) rfl hw3 rfl dX4_twiceLoad_63 ?_
                refine r_iload_n hC dX4_twiceLoad_66 rfl 1 rfl ?_
                obtain ⟨g23, hf⟩ := og_some hf
                refine r_iald hC 2 rfl g23 dX4_twiceLoad_67 ?_
                refine r_icmp_ge (tgt := 86) hC dX4_twiceLoad_68 (by decide) (fun c24 => ?_) (fun c24 => ?_)
                · replace hf := o_pos hf c24
                  refine r_aload_n hC dX4_twiceLoad_86 rfl 0 rfl ?_
                  refine r_get hC hin4 0 rfl rfl 2 (by decide) rfl hw3 rfl dX4_twiceLoad_87 ?_
                  refine r_iload hC dX4_twiceLoad_90 5 rfl ?_
                  obtain ⟨g25, hf⟩ := og_some hf
                  refine r_iald hC 2 rfl g25 dX4_twiceLoad_92 ?_
                  refine r_aload_n hC dX4_twiceLoad_93 rfl 0 rfl ?_
                  refine r_get hC hin4 0 rfl rfl 2 (by decide) rfl hw3 rfl dX4_twiceLoad_94 ?_
                  refine r_iload_n hC dX4_twiceLoad_97 rfl 1 rfl ?_
                  obtain ⟨g26, hf⟩ := og_some hf
                  refine r_iald hC 2 rfl g26 dX4_twiceLoad_98 ?_
                  refine r_icmp_le (tgt := 116) hC dX4_twiceLoad_99 (by decide) (fun c27 => ?_) (fun c27 => ?_)
                  · replace hf := o_pos hf c27
                    obtain ⟨rfl, rfl⟩ := so_2 hf
                    exact J116_18
                  · replace hf := o_neg hf c27
                    refine r_iload hC dX4_twiceLoad_102 4 rfl ?_
                    refine r_aload_n hC dX4_twiceLoad_104 rfl 0 rfl ?_
                    refine r_get hC hin4 0 rfl rfl 2 (by decide) rfl hw3 rfl dX4_twiceLoad_105 ?_
                    refine r_iload hC dX4_twiceLoad_108 5 rfl ?_
                    obtain ⟨g28, hf⟩ := og_some hf
                    refine r_iald hC 2 rfl g28 dX4_twiceLoad_110 ?_
                    refine r_mmin hC hw4 hw5 hw6 hw7 (Nat.le_of_ble_eq_true rfl) (Nat.le_of_ble_eq_true rfl) (Nat.le_refl 0) (Nat.le_refl 0) dX4_twiceLoad_111 ?_
                    refine r_topi (fun x29 ex29 => ?_)
                    replace hf := olet_some hf ex29
                    refine r_istore hC [(4, .int x29), (0, .ref (ad 40)), (1, .int p1), (2, .int p2), (3, .int x11), (5, .int x13)] dX4_twiceLoad_114 (by decide) rfl ?_
                    obtain ⟨rfl, rfl⟩ := so_2 hf
                    refine r_sub [(0, .ref (ad 40)), (1, .int p1), (2, .int p2), (3, .int x11), (4, .int x29), (5, .int x13)] [1, 2, 3, 4, 0, 5] rfl ?_
                    exact J116_18
                · replace hf := o_neg hf c24
                  refine r_iload_n hC dX4_twiceLoad_71 rfl 3 rfl ?_
                  refine r_aload_n hC dX4_twiceLoad_72 rfl 0 rfl ?_
                  refine r_get hC hin4 0 rfl rfl 2 (by decide) rfl hw3 rfl dX4_twiceLoad_73 ?_
                  refine r_iload hC dX4_twiceLoad_76 5 rfl ?_
                  obtain ⟨g30, hf⟩ := og_some hf
                  refine r_iald hC 2 rfl g30 dX4_twiceLoad_78 ?_
                  refine r_mmax hC hw8 hw9 hw6 hw10 (Nat.le_of_ble_eq_true rfl) (Nat.le_of_ble_eq_true rfl) (Nat.le_refl 0) (Nat.le_refl 0) dX4_twiceLoad_79 ?_
                  refine r_topi (fun x31 ex31 => ?_)
                  replace hf := olet_some hf ex31
                  refine r_istore_n hC [(3, .int x31), (0, .ref (ad 40)), (1, .int p1), (2, .int p2), (4, .int x12), (5, .int x13)] dX4_twiceLoad_82 rfl (by decide) rfl ?_
                  refine r_goto (tgt := 116) hC dX4_twiceLoad_83 (by decide) ?_
                  obtain ⟨rfl, rfl⟩ := so_2 hf
                  refine r_sub [(0, .ref (ad 40)), (1, .int p1), (2, .int p2), (3, .int x31), (4, .int x12), (5, .int x13)] [1, 2, 3, 0, 4, 5] rfl ?_
                  exact J116_18
      refine r_sub [(0, .ref (ad 40)), (1, .int p1), (2, .int p2), (3, .int 0), (4, .int r4), (5, .int 0)] [3, 4, 5, 2, 1, 0] rfl ?_
      exact L30 N 0 r4 0 hf
    · replace hf := o_pos hf c3
      refine r_iconst hC dX4_twiceLoad_14 ic_0 ?_
      obtain rfl := so_1 hf
      exact hRet _ _ _ dX4_twiceLoad_15 rfl
noncomputable def fX4_replaceReading (c4_readings : Nat → Int32) (p1 : Int32) (p2 : Int32) : Option (Int32 × (Nat → Int32)) := og (vp_in p1 12) (olet (c4_readings (Int32.toNatClampNeg p1)) (fun (x2 : Int32) => og (vp_in p1 12) (some (x2, (upd c4_readings (Int32.toNatClampNeg p1) p2)))))
theorem ydX4_replaceReading : yX4_replaceReading.cls = RX4 ∧ yX4_replaceReading.cls ≠ "java/lang/invoke/MethodHandle" ∧ yX4_replaceReading.cls ≠ "java/lang/invoke/VarHandle" ∧ (parseMethodDescriptor yX4_replaceReading.desc).map (fun d => d.parameters.length) = some 2 := by decide +kernel
set_option maxHeartbeats 8000000 in
set_option maxRecDepth 100000 in
theorem kX4_replaceReading (l : Launch) (D : va_G) (cy : Nat → ClassId) (ad : Nat → Nat) (c4_made : Int32) (c4_kinds : Nat → Int32) (c4_places : Nat → Int32) (c4_rates : Nat → Int32) (c4_readings : Nat → Int32) (c4_bearing : Nat → Int32) (c5_legs : Int32) (c5_length : Int32) (c5_ways : Nat → Int32) (c5_units : Nat → Int32) (c5_stuffOf : Nat → Int32) (c5_point : Nat → Int32) (c6_bytes : Nat → Int32) (c6_sizes : Nat → Int32) (c6_weights : Nat → Int32) (p1 : Int32) (p2 : Int32) {ra : Int32} {z4_readings : Nat → Int32} (hf : fX4_replaceReading c4_readings p1 p2 = some (ra, z4_readings)) : CI l D cy yX4_replaceReading wsX4_replaceReading ({ frames := 0, cells := 0, slots := 0, locals := 0 } : Room) [.ref (ad 40), .int p1, .int p2] (w4 cy ad c4_made c4_kinds c4_places c4_rates c4_readings c4_bearing c5_legs c5_length c5_ways c5_units c5_stuffOf c5_point c6_bytes c6_sizes c6_weights) ra (w4 cy ad c4_made c4_kinds c4_places c4_rates z4_readings c4_bearing c5_legs c5_length c5_ways c5_units c5_stuffOf c5_point c6_bytes c6_sizes c6_weights) := by
  unfold fX4_replaceReading at hf
  refine c_of_i (ty := .int) (own := RX4) (by decide) rfl rfl (Nat.le_of_ble_eq_true rfl) (fun X hC hRet => ?_)
  refine r_sub [(0, .ref (ad 40)), (1, .int p1), (2, .int p2)] [0, 1, 2] rfl ?_
  have hin4 : ∀ w ∈ wsX40, w ∈ wsX4_replaceReading := fun w h => List.mem_cons_of_mem _ (List.mem_append_right _ h)
  have hw0 : Cond.fieldLink RX4 21 "HotPipes$Rests" "readings" "[I" ∈ wsX4_replaceReading := List.mem_of_getElem? (i := 1) rfl
  refine r_aload_n hC dX4_replaceReading_0 rfl 0 rfl ?_
  refine r_get hC hin4 0 rfl rfl 4 (by decide) rfl hw0 rfl dX4_replaceReading_1 ?_
  refine r_iload_n hC dX4_replaceReading_4 rfl 1 rfl ?_
  obtain ⟨g1, hf⟩ := og_some hf
  refine r_iald hC 4 rfl g1 dX4_replaceReading_5 ?_
  refine r_topi (fun x2 ex2 => ?_)
  replace hf := olet_some hf ex2
  refine r_istore_n hC [(3, .int x2), (0, .ref (ad 40)), (1, .int p1), (2, .int p2)] dX4_replaceReading_6 rfl (by decide) rfl ?_
  refine r_aload_n hC dX4_replaceReading_7 rfl 1 rfl ?_
  refine r_get hC hin4 0 rfl rfl 4 (by decide) rfl hw0 rfl dX4_replaceReading_8 ?_
  refine r_iload_n hC dX4_replaceReading_11 rfl 2 rfl ?_
  refine r_iload_n hC dX4_replaceReading_12 rfl 3 rfl ?_
  obtain ⟨g3, hf⟩ := og_some hf
  refine r_iast hC 4 rfl g3 dX4_replaceReading_13 (w4 cy ad c4_made c4_kinds c4_places c4_rates (upd c4_readings (Int32.toNatClampNeg p1) p2) c4_bearing c5_legs c5_length c5_ways c5_units c5_stuffOf c5_point c6_bytes c6_sizes c6_weights) rfl ?_
  refine r_iload_n hC dX4_replaceReading_14 rfl 0 rfl ?_
  obtain ⟨rfl, rfl⟩ := so_2 hf
  exact hRet _ _ _ dX4_replaceReading_15 rfl
noncomputable def fX4_isRead (c4_kinds : Nat → Int32) (c4_readings : Nat → Int32) (p1 : Int32) : Option (Int32) := ob (fX4_isGone c4_kinds p1) (fun (r1 : Int32) => oj (some 0) (fun (K23_3 : Option (Int32)) => (if r1 = 0 then og (vp_in p1 12) ((if (c4_readings (Int32.toNatClampNeg p1)) = (-9) then K23_3 else some 1)) else K23_3)))
theorem ydX4_isRead : yX4_isRead.cls = RX4 ∧ yX4_isRead.cls ≠ "java/lang/invoke/MethodHandle" ∧ yX4_isRead.cls ≠ "java/lang/invoke/VarHandle" ∧ (parseMethodDescriptor yX4_isRead.desc).map (fun d => d.parameters.length) = some 1 := by decide +kernel
set_option maxHeartbeats 8000000 in
set_option maxRecDepth 100000 in
theorem kX4_isRead (l : Launch) (D : va_G) (cy : Nat → ClassId) (ad : Nat → Nat) (c4_made : Int32) (c4_kinds : Nat → Int32) (c4_places : Nat → Int32) (c4_rates : Nat → Int32) (c4_readings : Nat → Int32) (c4_bearing : Nat → Int32) (c5_legs : Int32) (c5_length : Int32) (c5_ways : Nat → Int32) (c5_units : Nat → Int32) (c5_stuffOf : Nat → Int32) (c5_point : Nat → Int32) (c6_bytes : Nat → Int32) (c6_sizes : Nat → Int32) (c6_weights : Nat → Int32) (p1 : Int32) {ra : Int32} (hf : fX4_isRead c4_kinds c4_readings p1 = some ra) : CI l D cy yX4_isRead wsX4_isRead ({ frames := 1, cells := 0, slots := 0, locals := 21 } : Room) [.ref (ad 40), .int p1] (w4 cy ad c4_made c4_kinds c4_places c4_rates c4_readings c4_bearing c5_legs c5_length c5_ways c5_units c5_stuffOf c5_point c6_bytes c6_sizes c6_weights) ra (w4 cy ad c4_made c4_kinds c4_places c4_rates c4_readings c4_bearing c5_legs c5_length c5_ways c5_units c5_stuffOf c5_point c6_bytes c6_sizes c6_weights) := by
  unfold fX4_isRead at hf
  refine c_of_i (ty := .boolean) (own := RX4) (by decide) rfl rfl (Nat.le_of_ble_eq_true rfl) (fun X hC hRet => ?_)
  refine r_sub [(0, .ref (ad 40)), (1, .int p1)] [0, 1] rfl ?_
  have hin4 : ∀ w ∈ wsX40, w ∈ wsX4_isRead := fun w h => List.mem_cons_of_mem _ (List.mem_append_right _ h)
  have hw0 : Cond.fieldLink RX4 21 "HotPipes$Rests" "readings" "[I" ∈ wsX4_isRead := List.mem_of_getElem? (i := 1) rfl
  refine r_aload_n hC dX4_isRead_0 rfl 0 rfl ?_
  refine r_iload_n hC dX4_isRead_1 rfl 1 rfl ?_
  obtain ⟨r1, h2, hf⟩ := ob_some hf
  refine r_vi (st := []) hC (kX4_isGone l D cy ad c4_made c4_kinds c4_places c4_rates c4_readings c4_bearing c5_legs c5_length c5_ways c5_units c5_stuffOf c5_point c6_bytes c6_sizes c6_weights p1 h2) gX4_isRead_X4_isGone rfl ⟨rfl, rfl⟩ ydX4_isGone ⟨Nat.le_of_ble_eq_true rfl, Nat.le_of_ble_eq_true rfl⟩ ⟨Nat.le_refl 0, Nat.le_refl 0⟩ 0 rfl rfl [] [] rfl _ rfl (Nat.le_of_ble_eq_true rfl) dX4_isRead_2 (w4 cy ad c4_made c4_kinds c4_places c4_rates c4_readings c4_bearing c5_legs c5_length c5_ways c5_units c5_stuffOf c5_point c6_bytes c6_sizes c6_weights) rfl ?_
  obtain ⟨K23_3, eK23_3, hf⟩ := oj_some hf
  have J23_3 : K23_3 = some ra → GG X 2 0 0 (w4 cy ad c4_made c4_kinds c4_places c4_rates c4_readings c4_bearing c5_legs c5_length c5_ways c5_units c5_stuffOf c5_point c6_bytes c6_sizes c6_weights) [] 23 [] := by
    intro hf
    replace hf := oa0 eK23_3 hf
    refine r_iconst hC dX4_isRead_23 ic_0 ?_
    obtain rfl := so_1 hf
    exact hRet _ _ _ dX4_isRead_24 nb_0
  refine r_if_ne (tgt := 23) hC dX4_isRead_5 (by decide) (fun c4 => ?_) (fun c4 => ?_)
  · replace hf := o_neg hf c4
    refine r_sub [] [] rfl ?_
    exact J23_3 hf
  · replace hf := o_pos hf c4
    refine r_aload_n hC dX4_isRead_8 rfl 0 rfl ?_
    refine r_get hC hin4 0 rfl rfl 4 (by decide) rfl hw0 rfl dX4_isRead_9 ?_
    refine r_iload_n hC dX4_isRead_12 rfl 1 rfl ?_
    obtain ⟨g5, hf⟩ := og_some hf
    refine r_iald hC 4 rfl g5 dX4_isRead_13 ?_
    refine r_bipush hC dX4_isRead_14 bp_m9 ?_
    refine r_icmp_eq (tgt := 23) hC dX4_isRead_16 (by decide) (fun c6 => ?_) (fun c6 => ?_)
    · replace hf := o_pos hf c6
      refine r_sub [] [] rfl ?_
      exact J23_3 hf
    · replace hf := o_neg hf c6
      refine r_iconst hC dX4_isRead_19 ic_1 ?_
      refine r_goto (tgt := 24) hC dX4_isRead_20 (by decide) ?_
      obtain rfl := so_1 hf
      exact hRet _ _ _ dX4_isRead_24 nb_1
noncomputable def fX4_hasReading_L2 (c4_made : Int32) (c4_kinds : Nat → Int32) (c4_readings : Nat → Int32) : Nat → Int32 → Option (Int32)
  | 0, _ => none
  | n + 1, x1 => (if c4_made ≤ x1 then some 0 else ob (fX4_isRead c4_kinds c4_readings x1) (fun (r3 : Int32) => (if r3 = 0 then fX4_hasReading_L2 c4_made c4_kinds c4_readings n (x1 + 1) else some 1)))
noncomputable def fX4_hasReading (N : Nat) (c4_made : Int32) (c4_kinds : Nat → Int32) (c4_readings : Nat → Int32) : Option (Int32) := fX4_hasReading_L2 c4_made c4_kinds c4_readings N 0
theorem ydX4_hasReading : yX4_hasReading.cls = RX4 ∧ yX4_hasReading.cls ≠ "java/lang/invoke/MethodHandle" ∧ yX4_hasReading.cls ≠ "java/lang/invoke/VarHandle" ∧ (parseMethodDescriptor yX4_hasReading.desc).map (fun d => d.parameters.length) = some 0 := by decide +kernel
set_option maxHeartbeats 8000000 in
set_option maxRecDepth 100000 in
theorem kX4_hasReading (l : Launch) (D : va_G) (cy : Nat → ClassId) (ad : Nat → Nat) (c4_made : Int32) (c4_kinds : Nat → Int32) (c4_places : Nat → Int32) (c4_rates : Nat → Int32) (c4_readings : Nat → Int32) (c4_bearing : Nat → Int32) (c5_legs : Int32) (c5_length : Int32) (c5_ways : Nat → Int32) (c5_units : Nat → Int32) (c5_stuffOf : Nat → Int32) (c5_point : Nat → Int32) (c6_bytes : Nat → Int32) (c6_sizes : Nat → Int32) (c6_weights : Nat → Int32) (N : Nat) {ra : Int32} (hf : fX4_hasReading N c4_made c4_kinds c4_readings = some ra) : CI l D cy yX4_hasReading wsX4_hasReading ({ frames := 2, cells := 0, slots := 0, locals := 42 } : Room) [.ref (ad 40)] (w4 cy ad c4_made c4_kinds c4_places c4_rates c4_readings c4_bearing c5_legs c5_length c5_ways c5_units c5_stuffOf c5_point c6_bytes c6_sizes c6_weights) ra (w4 cy ad c4_made c4_kinds c4_places c4_rates c4_readings c4_bearing c5_legs c5_length c5_ways c5_units c5_stuffOf c5_point c6_bytes c6_sizes c6_weights) := by
  unfold fX4_hasReading at hf
  refine c_of_i (ty := .boolean) (own := RX4) (by decide) rfl rfl (Nat.le_of_ble_eq_true rfl) (fun X hC hRet => ?_)
  refine r_sub [(0, .ref (ad 40))] [0] rfl ?_
  have hin4 : ∀ w ∈ wsX40, w ∈ wsX4_hasReading := fun w h => List.mem_cons_of_mem _ (List.mem_append_right _ h)
  have hw0 : Cond.fieldLink RX4 28 "HotPipes$Rests" "made" "I" ∈ wsX4_hasReading := List.mem_of_getElem? (i := 1) rfl
  refine r_iconst hC dX4_hasReading_0 ic_0 ?_
  refine r_istore_n hC [(1, .int 0), (0, .ref (ad 40))] dX4_hasReading_1 rfl (by decide) rfl ?_
  have L2 : ∀ (n : Nat) (x1 : Int32), fX4_hasReading_L2 c4_made c4_kinds c4_readings n x1 = some ra → GG X 2 0 0 (w4 cy ad c4_made c4_kinds c4_places c4_rates c4_readings c4_bearing c5_legs c5_length c5_ways c5_units c5_stuffOf c5_point c6_bytes c6_sizes c6_weights) [(0, .ref (ad 40)), (1, .int x1)] 2 [] := by
    intro n
    induction n with
    | zero => intro x1 hf; cases (show none = some _ from hf)
    | succ n ih =>
      intro x1 hf
      rw [fX4_hasReading_L2] at hf
      refine r_iload_n hC dX4_hasReading_2 rfl 1 rfl ?_
      refine r_aload_n hC dX4_hasReading_3 rfl 0 rfl ?_
      refine r_get hC hin4 0 rfl rfl 6 (by decide) rfl hw0 rfl dX4_hasReading_4 ?_
      refine r_icmp_ge (tgt := 26) hC dX4_hasReading_7 (by decide) (fun c2 => ?_) (fun c2 => ?_)
      · replace hf := o_pos hf c2
        refine r_iconst hC dX4_hasReading_26 ic_0 ?_
        obtain rfl := so_1 hf
        exact hRet _ _ _ dX4_hasReading_27 nb_0
      · replace hf := o_neg hf c2
        refine r_aload_n hC dX4_hasReading_10 rfl 0 rfl ?_
        refine r_iload_n hC dX4_hasReading_11 rfl 1 rfl ?_
        obtain ⟨r3, h4, hf⟩ := ob_some hf
        refine r_vi (st := []) hC (kX4_isRead l D cy ad c4_made c4_kinds c4_places c4_rates c4_readings c4_bearing c5_legs c5_length c5_ways c5_units c5_stuffOf c5_point c6_bytes c6_sizes c6_weights x1 h4) gX4_hasReading_X4_isRead rfl ⟨rfl, rfl⟩ ydX4_isRead ⟨Nat.le_of_ble_eq_true rfl, Nat.le_of_ble_eq_true rfl⟩ ⟨Nat.le_refl 0, Nat.le_refl 0⟩ 0 rfl rfl [] [] rfl _ rfl (Nat.le_of_ble_eq_true rfl) dX4_hasReading_12 (w4 cy ad c4_made c4_kinds c4_places c4_rates c4_readings c4_bearing c5_legs c5_length c5_ways c5_units c5_stuffOf c5_point c6_bytes c6_sizes c6_weights) rfl ?_
        refine r_if_eq (tgt := 20) hC dX4_hasReading_15 (by decide) (fun c5 => ?_) (fun c5 => ?_)
        · replace hf := o_pos hf c5
          refine r_iinc hC [(1, .int (x1 + 1)), (0, .ref (ad 40))] (x1 + 1) dX4_hasReading_20 1 rfl (ii_1 _) (by decide) rfl ?_
          refine r_goto (tgt := 2) hC dX4_hasReading_23 (by decide) ?_
          refine r_sub [(0, .ref (ad 40)), (1, .int (x1 + 1))] [1, 0] rfl ?_
          exact ih (x1 + 1) hf
        · replace hf := o_neg hf c5
          refine r_iconst hC dX4_hasReading_18 ic_1 ?_
          obtain rfl := so_1 hf
          exact hRet _ _ _ dX4_hasReading_19 nb_1
  refine r_sub [(0, .ref (ad 40)), (1, .int 0)] [1, 0] rfl ?_
  exact L2 N 0 hf
noncomputable def fX4_differenceWithout_L4 (N : Nat) (c4_made : Int32) (c4_kinds : Nat → Int32) (c4_places : Nat → Int32) (c4_readings : Nat → Int32) (c4_bearing : Nat → Int32) (c5_legs : Int32) (c5_length : Int32) (c5_units : Nat → Int32) (c5_stuffOf : Nat → Int32) (c6_weights : Nat → Int32) (p1 : Int32) : Nat → Int32 → Int32 → Option (Int32)
  | 0, _, _ => none
  | n + 1, x1, x2 => (if c4_made ≤ x2 then some x1 else ob (fX4_isRead c4_kinds c4_readings x2) (fun (r4 : Int32) => ob ((if r4 = 0 then some x1 else (if x2 = p1 then some x1 else ob (fX4_twiceLoad N c4_made c4_places c4_bearing c5_legs c5_length c5_units c5_stuffOf c6_weights x2 p1) (fun (r11 : Int32) => og (vp_in x2 12) (olet (x1 + (if 0 ≤ (r11 - (c4_readings (Int32.toNatClampNeg x2))) then (r11 - (c4_readings (Int32.toNatClampNeg x2))) else 0 - (r11 - (c4_readings (Int32.toNatClampNeg x2))))) (fun (x14 : Int32) => some x14)))))) (fun (x6 : Int32) => fX4_differenceWithout_L4 N c4_made c4_kinds c4_places c4_readings c4_bearing c5_legs c5_length c5_units c5_stuffOf c6_weights p1 n x6 (x2 + 1))))
noncomputable def fX4_differenceWithout (N : Nat) (c4_made : Int32) (c4_kinds : Nat → Int32) (c4_places : Nat → Int32) (c4_readings : Nat → Int32) (c4_bearing : Nat → Int32) (c5_legs : Int32) (c5_length : Int32) (c5_units : Nat → Int32) (c5_stuffOf : Nat → Int32) (c6_weights : Nat → Int32) (p1 : Int32) : Option (Int32) := fX4_differenceWithout_L4 N c4_made c4_kinds c4_places c4_readings c4_bearing c5_legs c5_length c5_units c5_stuffOf c6_weights p1 N 0 0
theorem ydX4_differenceWithout : yX4_differenceWithout.cls = RX4 ∧ yX4_differenceWithout.cls ≠ "java/lang/invoke/MethodHandle" ∧ yX4_differenceWithout.cls ≠ "java/lang/invoke/VarHandle" ∧ (parseMethodDescriptor yX4_differenceWithout.desc).map (fun d => d.parameters.length) = some 1 := by decide +kernel
set_option maxHeartbeats 8000000 in
set_option maxRecDepth 100000 in
theorem kX4_differenceWithout (l : Launch) (D : va_G) (cy : Nat → ClassId) (ad : Nat → Nat) (c4_made : Int32) (c4_kinds : Nat → Int32) (c4_places : Nat → Int32) (c4_rates : Nat → Int32) (c4_readings : Nat → Int32) (c4_bearing : Nat → Int32) (c5_legs : Int32) (c5_length : Int32) (c5_ways : Nat → Int32) (c5_units : Nat → Int32) (c5_stuffOf : Nat → Int32) (c5_point : Nat → Int32) (c6_bytes : Nat → Int32) (c6_sizes : Nat → Int32) (c6_weights : Nat → Int32) (p1 : Int32) (N : Nat) {ra : Int32} (hf : fX4_differenceWithout N c4_made c4_kinds c4_places c4_readings c4_bearing c5_legs c5_length c5_units c5_stuffOf c6_weights p1 = some ra) : CI l D cy yX4_differenceWithout wsX4_differenceWithout ({ frames := 4, cells := 0, slots := 0, locals := 95 } : Room) [.ref (ad 40), .int p1] (w4 cy ad c4_made c4_kinds c4_places c4_rates c4_readings c4_bearing c5_legs c5_length c5_ways c5_units c5_stuffOf c5_point c6_bytes c6_sizes c6_weights) ra (w4 cy ad c4_made c4_kinds c4_places c4_rates c4_readings c4_bearing c5_legs c5_length c5_ways c5_units c5_stuffOf c5_point c6_bytes c6_sizes c6_weights) := by
  unfold fX4_differenceWithout at hf
  refine c_of_i (ty := .int) (own := RX4) (by decide) rfl rfl (Nat.le_of_ble_eq_true rfl) (fun X hC hRet => ?_)
  refine r_sub [(0, .ref (ad 40)), (1, .int p1)] [0, 1] rfl ?_
  have hin4 : ∀ w ∈ wsX40, w ∈ wsX4_differenceWithout := fun w h => List.mem_cons_of_mem _ (List.mem_append_left _ (List.mem_append_left _ (List.mem_append_right _ h)))
  have hw0 : Cond.fieldLink RX4 28 "HotPipes$Rests" "made" "I" ∈ wsX4_differenceWithout := List.mem_of_getElem? (i := 1) rfl
  have hw1 : Cond.fieldLink RX4 21 "HotPipes$Rests" "readings" "[I" ∈ wsX4_differenceWithout := List.mem_of_getElem? (i := 2) rfl
  have hw2 : Cond.methodLink RX4 53 Lib.Math.abs.name ∈ wsX4_differenceWithout := List.mem_of_getElem? (i := 3) rfl
  have hw3 : Cond.static Lib.Math.abs.name ∈ wsX4_differenceWithout := List.mem_of_getElem? (i := 4) rfl
  have hw4 : Cond.initialized "java/lang/Math" ∈ wsX4_differenceWithout := List.mem_of_getElem? (i := 5) rfl
  have hw5 : Cond.code Lib.Math.abs.name Lib.Math.abs.code 1 (some .int) ∈ wsX4_differenceWithout := List.mem_of_getElem? (i := 6) rfl
  refine r_iconst hC dX4_differenceWithout_0 ic_0 ?_
  refine r_istore_n hC [(2, .int 0), (0, .ref (ad 40)), (1, .int p1)] dX4_differenceWithout_1 rfl (by decide) rfl ?_
  refine r_iconst hC dX4_differenceWithout_2 ic_0 ?_
  refine r_istore_n hC [(3, .int 0), (2, .int 0), (0, .ref (ad 40)), (1, .int p1)] dX4_differenceWithout_3 rfl (by decide) rfl ?_
  have L4 : ∀ (n : Nat) (x1 : Int32) (x2 : Int32), fX4_differenceWithout_L4 N c4_made c4_kinds c4_places c4_readings c4_bearing c5_legs c5_length c5_units c5_stuffOf c6_weights p1 n x1 x2 = some ra → GG X 4 0 0 (w4 cy ad c4_made c4_kinds c4_places c4_rates c4_readings c4_bearing c5_legs c5_length c5_ways c5_units c5_stuffOf c5_point c6_bytes c6_sizes c6_weights) [(0, .ref (ad 40)), (1, .int p1), (2, .int x1), (3, .int x2)] 4 [] := by
    intro n
    induction n with
    | zero => intro x1 x2 hf; cases (show none = some _ from hf)
    | succ n ih =>
      intro x1 x2 hf
      rw [fX4_differenceWithout_L4] at hf
      refine r_iload_n hC dX4_differenceWithout_4 rfl 3 rfl ?_
      refine r_aload_n hC dX4_differenceWithout_5 rfl 0 rfl ?_
      refine r_get hC hin4 0 rfl rfl 6 (by decide) rfl hw0 rfl dX4_differenceWithout_6 ?_
      refine r_icmp_ge (tgt := 50) hC dX4_differenceWithout_9 (by decide) (fun c3 => ?_) (fun c3 => ?_)
      · replace hf := o_pos hf c3
        refine r_iload_n hC dX4_differenceWithout_50 rfl 2 rfl ?_
        obtain rfl := so_1 hf
        exact hRet _ _ _ dX4_differenceWithout_51 rfl
      · replace hf := o_neg hf c3
        refine r_aload_n hC dX4_differenceWithout_12 rfl 0 rfl ?_
        refine r_iload_n hC dX4_differenceWithout_13 rfl 3 rfl ?_
        obtain ⟨r4, h5, hf⟩ := ob_some hf
        refine r_vi (st := []) hC (kX4_isRead l D cy ad c4_made c4_kinds c4_places c4_rates c4_readings c4_bearing c5_legs c5_length c5_ways c5_units c5_stuffOf c5_point c6_bytes c6_sizes c6_weights x2 h5) gX4_differenceWithout_X4_isRead rfl ⟨rfl, rfl⟩ ydX4_isRead ⟨Nat.le_of_ble_eq_true rfl, Nat.le_of_ble_eq_true rfl⟩ ⟨Nat.le_refl 0, Nat.le_refl 0⟩ 0 rfl rfl [] [] rfl _ rfl (Nat.le_of_ble_eq_true rfl) dX4_differenceWithout_14 (w4 cy ad c4_made c4_kinds c4_places c4_rates c4_readings c4_bearing c5_legs c5_length c5_ways c5_units c5_stuffOf c5_point c6_bytes c6_sizes c6_weights) rfl ?_
        obtain ⟨x6, h8, hf⟩ := ob_some hf
        have J44_7 : GG X 4 0 0 (w4 cy ad c4_made c4_kinds c4_places c4_rates c4_readings c4_bearing c5_legs c5_length c5_ways c5_units c5_stuffOf c5_point c6_bytes c6_sizes c6_weights) [(0, .ref (ad 40)), (1, .int p1), (2, .int x6), (3, .int x2)] 44 [] := by
          refine r_iinc hC [(3, .int (x2 + 1)), (0, .ref (ad 40)), (1, .int p1), (2, .int x6)] (x2 + 1) dX4_differenceWithout_44 3 rfl (ii_1 _) (by decide) rfl ?_
          refine r_goto (tgt := 4) hC dX4_differenceWithout_47 (by decide) ?_
          refine r_sub [(0, .ref (ad 40)), (1, .int p1), (2, .int x6), (3, .int (x2 + 1))] [1, 2, 3, 0] rfl ?_
          exact ih x6 (x2 + 1) hf
        replace hf := h8
        refine r_if_eq (tgt := 44) hC dX4_differenceWithout_17 (by decide) (fun c9 => ?_) (fun c9 => ?_)
        · replace hf := o_pos hf c9
          obtain rfl := so_1 hf
          exact J44_7
        · replace hf := o_neg hf c9
          refine r_iload_n hC dX4_differenceWithout_20 rfl 3 rfl ?_
          refine r_iload_n hC dX4_differenceWithout_21 rfl 1 rfl ?_
          refine r_icmp_eq (tgt := 44) hC dX4_differenceWithout_22 (by decide) (fun c10 => ?_) (fun c10 => ?_)
          · replace hf := o_pos hf c10
            obtain rfl := so_1 hf
            exact J44_7
          · replace hf := o_neg hf c10
            refine r_iload_n hC dX4_differenceWithout_25 rfl 2 rfl ?_
            refine r_aload_n hC dX4_differenceWithout_26 rfl 0 rfl ?_
            refine r_iload_n hC dX4_differenceWithout_27 rfl 3 rfl ?_
            refine r_iload_n hC dX4_differenceWithout_28 rfl 1 rfl ?_
            obtain ⟨r11, h12, hf⟩ := ob_some hf
            refine r_vi (st := [.int x1]) hC (kX4_twiceLoad l D cy ad c4_made c4_kinds c4_places c4_rates c4_readings c4_bearing c5_legs c5_length c5_ways c5_units c5_stuffOf c5_point c6_bytes c6_sizes c6_weights x2 p1 N h12) gX4_differenceWithout_X4_twiceLoad rfl ⟨rfl, rfl⟩ ydX4_twiceLoad ⟨Nat.le_of_ble_eq_true rfl, Nat.le_of_ble_eq_true rfl⟩ ⟨Nat.le_refl 0, Nat.le_refl 0⟩ 0 rfl rfl [] [] rfl _ rfl (Nat.le_of_ble_eq_true rfl) dX4_differenceWithout_29 (w4 cy ad c4_made c4_kinds c4_places c4_rates c4_readings c4_bearing c5_legs c5_length c5_ways c5_units c5_stuffOf c5_point c6_bytes c6_sizes c6_weights) rfl ?_
            refine r_aload_n hC dX4_differenceWithout_32 rfl 0 rfl ?_
            refine r_get hC hin4 0 rfl rfl 4 (by decide) rfl hw1 rfl dX4_differenceWithout_33 ?_
            refine r_iload_n hC dX4_differenceWithout_36 rfl 3 rfl ?_
            obtain ⟨g13, hf⟩ := og_some hf
            refine r_iald hC 4 rfl g13 dX4_differenceWithout_37 ?_
            refine r_isub hC dX4_differenceWithout_38 ?_
            refine r_mabs hC hw2 hw3 hw4 hw5 (Nat.le_of_ble_eq_true rfl) (Nat.le_of_ble_eq_true rfl) (Nat.le_refl 0) (Nat.le_refl 0) dX4_differenceWithout_39 ?_
            refine r_iadd hC dX4_differenceWithout_42 ?_
            refine r_topi (fun x14 ex14 => ?_)
            replace hf := olet_some hf ex14
            refine r_istore_n hC [(2, .int x14), (0, .ref (ad 40)), (1, .int p1), (3, .int x2)] dX4_differenceWithout_43 rfl (by decide) rfl ?_
            obtain rfl := so_1 hf
            refine r_sub [(0, .ref (ad 40)), (1, .int p1), (2, .int x14), (3, .int x2)] [1, 2, 0, 3] rfl ?_
            exact J44_7
  refine r_sub [(0, .ref (ad 40)), (1, .int p1), (2, .int 0), (3, .int 0)] [2, 3, 1, 0] rfl ?_
  exact L4 N 0 0 hf
noncomputable def fX4_mixInto_L32 (c4_kinds : Nat → Int32) (c4_places : Nat → Int32) (c4_rates : Nat → Int32) (c5_length : Int32) (x2 : Int32) (K59_10 : Int64 → Option (Int64)) : Nat → Int64 → Int32 → Option (Int64)
  | 0, _, _ => none
  | n + 1, x13, x14 => (if 3 < x14 then K59_10 x13 else ob (fX4_tell c4_kinds c4_places c4_rates c5_length x2 x14) (fun (r16 : Int32) => olet ((31 * x13) + (Int32.toInt64 r16)) (fun (x18 : Int64) => fX4_mixInto_L32 c4_kinds c4_places c4_rates c5_length x2 K59_10 n x18 (x14 + 1))))
noncomputable def fX4_mixInto_L2 (N : Nat) (c4_made : Int32) (c4_kinds : Nat → Int32) (c4_places : Nat → Int32) (c4_rates : Nat → Int32) (c4_readings : Nat → Int32) (c5_length : Int32) : Nat → Int64 → Int32 → Option (Int64)
  | 0, _, _ => none
  | n + 1, x1, x2 => (if c4_made ≤ x2 then some x1 else ob (fX4_isGone c4_kinds x2) (fun (r4 : Int32) => oj (fun (x6 : Int64) => fX4_mixInto_L2 N c4_made c4_kinds c4_places c4_rates c4_readings c5_length n x6 (x2 + 1)) (fun (K73_7 : Int64 → Option (Int64)) => (if r4 = 0 then oj (fun (x9 : Int64) => og (vp_in x2 12) (olet ((31 * x9) + (Int32.toInt64 (c4_readings (Int32.toNatClampNeg x2)))) (fun (x12 : Int64) => K73_7 x12))) (fun (K59_10 : Int64 → Option (Int64)) => fX4_mixInto_L32 c4_kinds c4_places c4_rates c5_length x2 K59_10 N x1 0) else olet ((31 * x1) - 1) (fun (x19 : Int64) => K73_7 x19)))))
noncomputable def fX4_mixInto (N : Nat) (c4_made : Int32) (c4_kinds : Nat → Int32) (c4_places : Nat → Int32) (c4_rates : Nat → Int32) (c4_readings : Nat → Int32) (c5_length : Int32) (p1 : Int64) : Option (Int64) := fX4_mixInto_L2 N c4_made c4_kinds c4_places c4_rates c4_readings c5_length N p1 0
theorem ydX4_mixInto : yX4_mixInto.cls = RX4 ∧ yX4_mixInto.cls ≠ "java/lang/invoke/MethodHandle" ∧ yX4_mixInto.cls ≠ "java/lang/invoke/VarHandle" ∧ (parseMethodDescriptor yX4_mixInto.desc).map (fun d => d.parameters.length) = some 1 := by decide +kernel
set_option maxHeartbeats 8000000 in
set_option maxRecDepth 100000 in
theorem kX4_mixInto (l : Launch) (D : va_G) (cy : Nat → ClassId) (ad : Nat → Nat) (c4_made : Int32) (c4_kinds : Nat → Int32) (c4_places : Nat → Int32) (c4_rates : Nat → Int32) (c4_readings : Nat → Int32) (c4_bearing : Nat → Int32) (c5_legs : Int32) (c5_length : Int32) (c5_ways : Nat → Int32) (c5_units : Nat → Int32) (c5_stuffOf : Nat → Int32) (c5_point : Nat → Int32) (c6_bytes : Nat → Int32) (c6_sizes : Nat → Int32) (c6_weights : Nat → Int32) (p1 : Int64) (N : Nat) {ra : Int64} (hf : fX4_mixInto N c4_made c4_kinds c4_places c4_rates c4_readings c5_length p1 = some ra) : CL l D cy yX4_mixInto wsX4_mixInto ({ frames := 3, cells := 0, slots := 0, locals := 64 } : Room) [.ref (ad 40), .long p1] (w4 cy ad c4_made c4_kinds c4_places c4_rates c4_readings c4_bearing c5_legs c5_length c5_ways c5_units c5_stuffOf c5_point c6_bytes c6_sizes c6_weights) ra (w4 cy ad c4_made c4_kinds c4_places c4_rates c4_readings c4_bearing c5_legs c5_length c5_ways c5_units c5_stuffOf c5_point c6_bytes c6_sizes c6_weights) := by
  unfold fX4_mixInto at hf
  refine c_of_l (own := RX4) (by decide) rfl rfl (Nat.le_of_ble_eq_true rfl) (fun X hC hRet => ?_)
  refine r_sub [(0, .ref (ad 40)), (1, .long p1)] [0, 1] rfl ?_
  have hin4 : ∀ w ∈ wsX40, w ∈ wsX4_mixInto := fun w h => List.mem_cons_of_mem _ (List.mem_append_left _ (List.mem_append_right _ h))
  have hw0 : Cond.fieldLink RX4 28 "HotPipes$Rests" "made" "I" ∈ wsX4_mixInto := List.mem_of_getElem? (i := 1) rfl
  have hw1 : Cond.constantLong RX4 79 (31) ∈ wsX4_mixInto := List.mem_of_getElem? (i := 2) rfl
  have hw2 : Cond.fieldLink RX4 21 "HotPipes$Rests" "readings" "[I" ∈ wsX4_mixInto := List.mem_of_getElem? (i := 3) rfl
  refine r_iconst hC dX4_mixInto_0 ic_0 ?_
  refine r_istore_n hC [(3, .int 0), (0, .ref (ad 40)), (1, .long p1)] dX4_mixInto_1 rfl (by decide) rfl ?_
  have L2 : ∀ (n : Nat) (x1 : Int64) (x2 : Int32), fX4_mixInto_L2 N c4_made c4_kinds c4_places c4_rates c4_readings c5_length n x1 x2 = some ra → GG X 5 0 0 (w4 cy ad c4_made c4_kinds c4_places c4_rates c4_readings c4_bearing c5_legs c5_length c5_ways c5_units c5_stuffOf c5_point c6_bytes c6_sizes c6_weights) [(0, .ref (ad 40)), (1, .long x1), (3, .int x2)] 2 [] := by
    intro n
    induction n with
    | zero => intro x1 x2 hf; cases (show none = some _ from hf)
    | succ n ih =>
      intro x1 x2 hf
      rw [fX4_mixInto_L2] at hf
      refine r_iload_n hC dX4_mixInto_2 rfl 2 rfl ?_
      refine r_aload_n hC dX4_mixInto_3 rfl 0 rfl ?_
      refine r_get hC hin4 0 rfl rfl 6 (by decide) rfl hw0 rfl dX4_mixInto_4 ?_
      refine r_icmp_ge (tgt := 79) hC dX4_mixInto_7 (by decide) (fun c3 => ?_) (fun c3 => ?_)
      · replace hf := o_pos hf c3
        refine r_lload_n hC dX4_mixInto_79 rfl 1 rfl ?_
        obtain rfl := so_1 hf
        exact hRet _ _ _ dX4_mixInto_80
      · replace hf := o_neg hf c3
        refine r_aload_n hC dX4_mixInto_10 rfl 0 rfl ?_
        refine r_iload_n hC dX4_mixInto_11 rfl 2 rfl ?_
        obtain ⟨r4, h5, hf⟩ := ob_some hf
        refine r_vi (st := []) hC (kX4_isGone l D cy ad c4_made c4_kinds c4_places c4_rates c4_readings c4_bearing c5_legs c5_length c5_ways c5_units c5_stuffOf c5_point c6_bytes c6_sizes c6_weights x2 h5) gX4_mixInto_X4_isGone rfl ⟨rfl, rfl⟩ ydX4_isGone ⟨Nat.le_of_ble_eq_true rfl, Nat.le_of_ble_eq_true rfl⟩ ⟨Nat.le_refl 0, Nat.le_refl 0⟩ 0 rfl rfl [] [] rfl _ rfl (Nat.le_of_ble_eq_true rfl) dX4_mixInto_12 (w4 cy ad c4_made c4_kinds c4_places c4_rates c4_readings c4_bearing c5_legs c5_length c5_ways c5_units c5_stuffOf c5_point c6_bytes c6_sizes c6_weights) rfl ?_
        obtain ⟨K73_7, eK73_7, hf⟩ := oj_some hf
        have J73_7 : ∀ (x6 : Int64), K73_7 x6 = some ra → GG X 5 0 0 (w4 cy ad c4_made c4_kinds c4_places c4_rates c4_readings c4_bearing c5_legs c5_length c5_ways c5_units c5_stuffOf c5_point c6_bytes c6_sizes c6_weights) [(0, .ref (ad 40)), (1, .long x6), (3, .int x2)] 73 [] := by
          intro x6 hf
          replace hf := oa1 eK73_7 hf
          refine r_iinc hC [(3, .int (x2 + 1)), (0, .ref (ad 40)), (1, .long x6)] (x2 + 1) dX4_mixInto_73 2 rfl (ii_1 _) (by decide) rfl ?_
          refine r_goto (tgt := 2) hC dX4_mixInto_76 (by decide) ?_
          refine r_sub [(0, .ref (ad 40)), (1, .long x6), (3, .int (x2 + 1))] [1, 2, 0] rfl ?_
          exact ih x6 (x2 + 1) hf
        refine r_if_eq (tgt := 29) hC dX4_mixInto_15 (by decide) (fun c8 => ?_) (fun c8 => ?_)
        · replace hf := o_pos hf c8
          refine r_iconst hC dX4_mixInto_29 ic_0 ?_
          refine r_istore hC [(4, .int 0), (0, .ref (ad 40)), (1, .long x1), (3, .int x2)] dX4_mixInto_30 (by decide) rfl ?_
          obtain ⟨K59_10, eK59_10, hf⟩ := oj_some hf
          have J59_10 : ∀ (x9 : Int64), K59_10 x9 = some ra → GG X 5 0 0 (w4 cy ad c4_made c4_kinds c4_places c4_rates c4_readings c4_bearing c5_legs c5_length c5_ways c5_units c5_stuffOf c5_point c6_bytes c6_sizes c6_weights) [(0, .ref (ad 40)), (1, .long x9), (3, .int x2)] 59 [] := by
            intro x9 hf
            replace hf := oa1 eK59_10 hf
            refine r_ldc2 hC hw1 dX4_mixInto_59 ?_
            refine r_lload_n hC dX4_mixInto_62 rfl 1 rfl ?_
            refine r_lmul hC dX4_mixInto_63 ?_
            refine r_aload_n hC dX4_mixInto_64 rfl 0 rfl ?_
            refine r_get hC hin4 0 rfl rfl 4 (by decide) rfl hw2 rfl dX4_mixInto_65 ?_
            refine r_iload_n hC dX4_mixInto_68 rfl 2 rfl ?_
            obtain ⟨g11, hf⟩ := og_some hf
            refine r_iald hC 4 rfl g11 dX4_mixInto_69 ?_
            refine r_i2l hC dX4_mixInto_70 ?_
            refine r_ladd hC dX4_mixInto_71 ?_
            refine r_topl (fun x12 ex12 => ?_)
            replace hf := olet_some hf ex12
            refine r_lstore_n hC [(1, .long x12), (0, .ref (ad 40)), (3, .int x2)] dX4_mixInto_72 rfl (by decide) rfl ?_
            refine r_sub [(0, .ref (ad 40)), (1, .long x12), (3, .int x2)] [1, 0, 2] rfl ?_
            exact J73_7 x12 hf
          have L32 : ∀ (n : Nat) (x13 : Int64) (x14 : Int32), fX4_mixInto_L32 c4_kinds c4_places c4_rates c5_length x2 K59_10 n x13 x14 = some ra → GG X 5 0 0 (w4 cy ad c4_made c4_kinds c4_places c4_rates c4_readings c4_bearing c5_legs c5_length c5_ways c5_units c5_stuffOf c5_point c6_bytes c6_sizes c6_weights) [(0, .ref (ad 40)), (1, .long x13), (3, .int x2), (4, .int x14)] 32 [] := by
            intro n
            induction n with
            | zero => intro x13 x14 hf; cases (show none = some _ from hf)
            | succ n ih =>
              intro x13 x14 hf
              rw [fX4_mixInto_L32] at hf
              refine r_iload hC dX4_mixInto_32 3 rfl ?_
              refine r_iconst hC dX4_mixInto_34 ic_3 ?_
              refine r_icmp_gt (tgt := 59) hC dX4_mixInto_35 (by decide) (fun c15 => ?_) (fun c15 => ?_)
              · replace hf := o_pos hf c15
                refine r_sub [(0, .ref (ad 40)), (1, .long x13), (3, .int x2)] [0, 1, 2] rfl ?_
                exact J59_10 x13 hf
              · replace hf := o_neg hf c15
                refine r_ldc2 hC hw1 dX4_mixInto_38 ?_
                refine r_lload_n hC dX4_mixInto_41 rfl 1 rfl ?_
                refine r_lmul hC dX4_mixInto_42 ?_
                refine r_aload_n hC dX4_mixInto_43 rfl 0 rfl ?_
                refine r_iload_n hC dX4_mixInto_44 rfl 2 rfl ?_
                refine r_iload hC dX4_mixInto_45 3 rfl ?_
                obtain ⟨r16, h17, hf⟩ := ob_some hf
                refine r_vi (st := [.long (31 * x13)]) hC (kX4_tell l D cy ad c4_made c4_kinds c4_places c4_rates c4_readings c4_bearing c5_legs c5_length c5_ways c5_units c5_stuffOf c5_point c6_bytes c6_sizes c6_weights x2 x14 h17) gX4_mixInto_X4_tell rfl ⟨rfl, rfl⟩ ydX4_tell ⟨Nat.le_of_ble_eq_true rfl, Nat.le_of_ble_eq_true rfl⟩ ⟨Nat.le_refl 0, Nat.le_refl 0⟩ 0 rfl rfl [] [] rfl _ rfl (Nat.le_of_ble_eq_true rfl) dX4_mixInto_47 (w4 cy ad c4_made c4_kinds c4_places c4_rates c4_readings c4_bearing c5_legs c5_length c5_ways c5_units c5_stuffOf c5_point c6_bytes c6_sizes c6_weights) rfl ?_
                refine r_i2l hC dX4_mixInto_50 ?_
                refine r_ladd hC dX4_mixInto_51 ?_
                refine r_topl (fun x18 ex18 => ?_)
                replace hf := olet_some hf ex18
                refine r_lstore_n hC [(1, .long x18), (0, .ref (ad 40)), (3, .int x2), (4, .int x14)] dX4_mixInto_52 rfl (by decide) rfl ?_
                refine r_iinc hC [(4, .int (x14 + 1)), (1, .long x18), (0, .ref (ad 40)), (3, .int x2)] (x14 + 1) dX4_mixInto_53 3 rfl (ii_1 _) (by decide) rfl ?_
                refine r_goto (tgt := 32) hC dX4_mixInto_56 (by decide) ?_
                refine r_sub [(0, .ref (ad 40)), (1, .long x18), (3, .int x2), (4, .int (x14 + 1))] [2, 1, 3, 0] rfl ?_
                exact ih x18 (x14 + 1) hf
          refine r_sub [(0, .ref (ad 40)), (1, .long x1), (3, .int x2), (4, .int 0)] [1, 2, 3, 0] rfl ?_
          exact L32 N x1 0 hf
        · replace hf := o_neg hf c8
          refine r_ldc2 hC hw1 dX4_mixInto_18 ?_
          refine r_lload_n hC dX4_mixInto_21 rfl 1 rfl ?_
          refine r_lmul hC dX4_mixInto_22 ?_
          refine r_lconst hC dX4_mixInto_23 lc_1 ?_
          refine r_lsub hC dX4_mixInto_24 ?_
          refine r_topl (fun x19 ex19 => ?_)
          replace hf := olet_some hf ex19
          refine r_lstore_n hC [(1, .long x19), (0, .ref (ad 40)), (3, .int x2)] dX4_mixInto_25 rfl (by decide) rfl ?_
          refine r_goto (tgt := 73) hC dX4_mixInto_26 (by decide) ?_
          refine r_sub [(0, .ref (ad 40)), (1, .long x19), (3, .int x2)] [1, 0, 2] rfl ?_
          exact J73_7 x19 hf
  refine r_sub [(0, .ref (ad 40)), (1, .long p1), (3, .int 0)] [1, 2, 0] rfl ?_
  exact L2 N p1 0 hf
