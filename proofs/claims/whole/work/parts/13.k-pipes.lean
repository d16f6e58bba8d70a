noncomputable def fX7_isWithin (p1 : Int32) (p2 : Int32) (p3 : Int32) : Option (Int32) := oj (some 0) (fun (K14_1 : Option (Int32)) => (if p1 < p2 then K14_1 else (if p3 < p1 then K14_1 else some 1)))
theorem ydX7_isWithin : yX7_isWithin.cls ≠ "java/lang/invoke/MethodHandle" ∧ yX7_isWithin.cls ≠ "java/lang/invoke/VarHandle" ∧ (parseMethodDescriptor yX7_isWithin.desc).map (fun d => d.parameters.length) = some 3 := by decide +kernel
set_option maxHeartbeats 8000000 in
set_option maxRecDepth 100000 in
theorem kX7_isWithin (l : Launch) (D : va_G) (cy : Nat → ClassId) (p1 : Int32) (p2 : Int32) (p3 : Int32) {ra : Int32} (hf : fX7_isWithin p1 p2 p3 = some ra) : CI l D cy yX7_isWithin wsX7_isWithin ({ frames := 0, cells := 0, slots := 0, locals := 0 } : Room) [.int p1, .int p2, .int p3] [] ra [] := by
  unfold fX7_isWithin at hf
  refine c_of_i (ty := .boolean) (own := RX7) (by decide) rfl rfl (Nat.le_of_ble_eq_true rfl) (fun X hC hRet => ?_)
  refine r_sub [(0, .int p1), (1, .int p2), (2, .int p3)] [0, 1, 2] rfl ?_
  refine r_iload_n hC dX7_isWithin_0 rfl 0 rfl ?_
  refine r_iload_n hC dX7_isWithin_1 rfl 1 rfl ?_
  obtain ⟨K14_1, eK14_1, hf⟩ := oj_some hf
  have J14_1 : K14_1 = some ra → GG X 3 0 0 [] [] 14 [] := by
    intro hf
    replace hf := oa0 eK14_1 hf
    refine r_iconst hC dX7_isWithin_14 ic_0 ?_
    obtain rfl := so_1 hf
    exact hRet _ _ _ dX7_isWithin_15 nb_0
  refine r_icmp_lt (tgt := 14) hC dX7_isWithin_2 (by decide) (fun c2 => ?_) (fun c2 => ?_)
  · replace hf := o_pos hf c2
    refine r_sub [] [] rfl ?_
    exact J14_1 hf
  · replace hf := o_neg hf c2
    refine r_iload_n hC dX7_isWithin_5 rfl 0 rfl ?_
    refine r_iload_n hC dX7_isWithin_6 rfl 2 rfl ?_
    refine r_icmp_gt (tgt := 14) hC dX7_isWithin_7 (by decide) (fun c3 => ?_) (fun c3 => ?_)
    · replace hf := o_pos hf c3
      refine r_sub [] [] rfl ?_
      exact J14_1 hf
    · replace hf := o_neg hf c3
      refine r_iconst hC dX7_isWithin_10 ic_1 ?_
      refine r_goto (tgt := 15) hC dX7_isWithin_11 (by decide) ?_
      obtain rfl := so_1 hf
      exact hRet _ _ _ dX7_isWithin_15 nb_1
noncomputable def fX7_isStuff (p1 : Int32) : Option (Int32) := ob (fX7_isWithin p1 0 3) (fun (r1 : Int32) => og (r1 = 0 ∨ r1 = 1) (some r1))
theorem ydX7_isStuff : yX7_isStuff.cls ≠ "java/lang/invoke/MethodHandle" ∧ yX7_isStuff.cls ≠ "java/lang/invoke/VarHandle" ∧ (parseMethodDescriptor yX7_isStuff.desc).map (fun d => d.parameters.length) = some 1 := by decide +kernel
set_option maxHeartbeats 8000000 in
set_option maxRecDepth 100000 in
theorem kX7_isStuff (l : Launch) (D : va_G) (cy : Nat → ClassId) (p1 : Int32) {ra : Int32} (hf : fX7_isStuff p1 = some ra) : CI l D cy yX7_isStuff wsX7_isStuff ({ frames := 1, cells := 0, slots := 0, locals := 22 } : Room) [.int p1] [] ra [] := by
  unfold fX7_isStuff at hf
  refine c_of_i (ty := .boolean) (own := RX7) (by decide) rfl rfl (Nat.le_of_ble_eq_true rfl) (fun X hC hRet => ?_)
  refine r_sub [(0, .int p1)] [0] rfl ?_
  refine r_iload_n hC dX7_isStuff_0 rfl 0 rfl ?_
  refine r_iconst hC dX7_isStuff_1 ic_0 ?_
  refine r_iconst hC dX7_isStuff_2 ic_3 ?_
  obtain ⟨r1, h2, hf⟩ := ob_some hf
  refine r_si (st := []) hC (kX7_isWithin l D cy p1 0 3 h2) gX7_isStuff_X7_isWithin rfl ⟨rfl, rfl⟩ ydX7_isWithin ⟨Nat.le_of_ble_eq_true rfl, Nat.le_of_ble_eq_true rfl⟩ ⟨Nat.le_refl 0, Nat.le_refl 0⟩ _ rfl (Nat.le_of_ble_eq_true rfl) dX7_isStuff_3 ?_
  obtain ⟨g3, hf⟩ := og_some hf
  obtain rfl := so_1 hf
  exact hRet _ _ _ dX7_isStuff_6 (nb_of g3)
noncomputable def fX7_refuse (c7_lastFound : Int32) (c7_found : Nat → Int32) (p1 : Int32) : Option (Int32 × Int32 × (Nat → Int32)) := ob (fX7_isWithin p1 1 5) (fun (r1 : Int32) => (if r1 = 0 then some ((-3), c7_lastFound, c7_found) else og (vp_in p1 6) (og (vp_in p1 6) (some ((-3), p1, (upd c7_found (Int32.toNatClampNeg p1) ((c7_found (Int32.toNatClampNeg p1)) + 1)))))))
theorem ydX7_refuse : yX7_refuse.cls = RX7 ∧ yX7_refuse.cls ≠ "java/lang/invoke/MethodHandle" ∧ yX7_refuse.cls ≠ "java/lang/invoke/VarHandle" ∧ (parseMethodDescriptor yX7_refuse.desc).map (fun d => d.parameters.length) = some 1 := by decide +kernel
set_option maxHeartbeats 8000000 in
set_option maxRecDepth 100000 in
theorem kX7_refuse (l : Launch) (D : va_G) (cy : Nat → ClassId) (ad : Nat → Nat) (c7_lastFound : Int32) (c7_lastAsked : Int32) (c7_found : Nat → Int32) (c4_made : Int32) (c4_kinds : Nat → Int32) (c4_places : Nat → Int32) (c4_rates : Nat → Int32) (c4_readings : Nat → Int32) (c4_bearing : Nat → Int32) (c5_legs : Int32) (c5_length : Int32) (c5_ways : Nat → Int32) (c5_units : Nat → Int32) (c5_stuffOf : Nat → Int32) (c5_point : Nat → Int32) (c6_bytes : Nat → Int32) (c6_sizes : Nat → Int32) (c6_weights : Nat → Int32) (c3_size : Int32) (c3_rates : Nat → Int32) (c0_amounts : Nat → Int32) (c0_lows : Nat → Int32) (c0_highs : Nat → Int32) (c0_barred : Nat → Int32) (c1_lines : Int32) (c1_parts : Int64) (c2_above : Int64) (c2_below : Int64) (p1 : Int32) {ra : Int32} {z7_lastFound : Int32} {z7_found : Nat → Int32} (hf : fX7_refuse c7_lastFound c7_found p1 = some (ra, z7_lastFound, z7_found)) : CI l D cy yX7_refuse wsX7_refuse ({ frames := 1, cells := 0, slots := 0, locals := 22 } : Room) [.ref (ad 70), .int p1] (w7 cy ad c7_lastFound c7_lastAsked c7_found c4_made c4_kinds c4_places c4_rates c4_readings c4_bearing c5_legs c5_length c5_ways c5_units c5_stuffOf c5_point c6_bytes c6_sizes c6_weights c3_size c3_rates c0_amounts c0_lows c0_highs c0_barred c1_lines c1_parts c2_above c2_below) ra (w7 cy ad z7_lastFound c7_lastAsked z7_found c4_made c4_kinds c4_places c4_rates c4_readings c4_bearing c5_legs c5_length c5_ways c5_units c5_stuffOf c5_point c6_bytes c6_sizes c6_weights c3_size c3_rates c0_amounts c0_lows c0_highs c0_barred c1_lines c1_parts c2_above c2_below) := by
  unfold fX7_refuse at hf
  refine c_of_i (ty := .int) (own := RX7) (by decide) rfl rfl (Nat.le_of_ble_eq_true rfl) (fun X hC hRet => ?_)
  refine r_sub [(0, .ref (ad 70)), (1, .int p1)] [0, 1] rfl ?_
  have hin7 : ∀ w ∈ wsX70, w ∈ wsX7_refuse := fun w h => List.mem_cons_of_mem _ (List.mem_append_right _ h)
  have hw0 : Cond.fieldLink RX7 62 "HotPipes" "found" "[I" ∈ wsX7_refuse := List.mem_of_getElem? (i := 1) rfl
  have hw1 : Cond.fieldLink RX7 66 "HotPipes" "lastFound" "I" ∈ wsX7_refuse := List.mem_of_getElem? (i := 2) rfl
  refine r_iload_n hC dX7_refuse_0 rfl 1 rfl ?_
  refine r_iconst hC dX7_refuse_1 ic_1 ?_
  refine r_iconst hC dX7_refuse_2 ic_5 ?_
  obtain ⟨r1, h2, hf⟩ := ob_some hf
  refine r_si (st := []) hC (kX7_isWithin l D cy p1 1 5 h2) gX7_refuse_X7_isWithin rfl ⟨rfl, rfl⟩ ydX7_isWithin ⟨Nat.le_of_ble_eq_true rfl, Nat.le_of_ble_eq_true rfl⟩ ⟨Nat.le_refl 0, Nat.le_refl 0⟩ _ rfl (Nat.le_of_ble_eq_true rfl) dX7_refuse_3 ?_
  refine r_if_eq (tgt := 24) hC dX7_refuse_6 (by decide) (fun c3 => ?_) (fun c3 => ?_)
  · replace hf := o_pos hf c3
    refine r_bipush hC dX7_refuse_24 bp_m3 ?_
    obtain ⟨rfl, rfl, rfl⟩ := so_3 hf
    exact hRet _ _ _ dX7_refuse_26 rfl
  · replace hf := o_neg hf c3
    refine r_aload_n hC dX7_refuse_9 rfl 0 rfl ?_
    refine r_get hC hin7 0 rfl rfl 7 (by decide) rfl hw0 rfl dX7_refuse_10 ?_
    refine r_iload_n hC dX7_refuse_13 rfl 1 rfl ?_
    refine r_dup2 hC dX7_refuse_14 rfl rfl ?_
    obtain ⟨g4, hf⟩ := og_some hf
    refine r_iald hC 1 rfl g4 dX7_refuse_15 ?_
    refine r_iconst hC dX7_refuse_16 ic_1 ?_
    refine r_iadd hC dX7_refuse_17 ?_
    obtain ⟨g5, hf⟩ := og_some hf
    refine r_iast hC 1 rfl g5 dX7_refuse_18 (w7 cy ad c7_lastFound c7_lastAsked (upd c7_found (Int32.toNatClampNeg p1) ((c7_found (Int32.toNatClampNeg p1)) + 1)) c4_made c4_kinds c4_places c4_rates c4_readings c4_bearing c5_legs c5_length c5_ways c5_units c5_stuffOf c5_point c6_bytes c6_sizes c6_weights c3_size c3_rates c0_amounts c0_lows c0_highs c0_barred c1_lines c1_parts c2_above c2_below) rfl ?_
    refine r_aload_n hC dX7_refuse_19 rfl 0 rfl ?_
    refine r_iload_n hC dX7_refuse_20 rfl 1 rfl ?_
    refine r_put (ty := .int) hC hin7 tyX7_ok nmX7 0 rfl rfl 8 (by decide) rfl hw1 rfl rfl rfl rfl (Nat.le_of_ble_eq_true rfl) dX7_refuse_21 (w7 cy ad p1 c7_lastAsked (upd c7_found (Int32.toNatClampNeg p1) ((c7_found (Int32.toNatClampNeg p1)) + 1)) c4_made c4_kinds c4_places c4_rates c4_readings c4_bearing c5_legs c5_length c5_ways c5_units c5_stuffOf c5_point c6_bytes c6_sizes c6_weights c3_size c3_rates c0_amounts c0_lows c0_highs c0_barred c1_lines c1_parts c2_above c2_below) rfl ?_
    refine r_bipush hC dX7_refuse_24 bp_m3 ?_
    obtain ⟨rfl, rfl, rfl⟩ := so_3 hf
    exact hRet _ _ _ dX7_refuse_26 rfl
noncomputable def fX7_stuff (N : Nat) (c7_lastFound : Int32) (c7_found : Nat → Int32) (c6_bytes : Nat → Int32) (c6_sizes : Nat → Int32) (p1 : Int32) (p2 : Int32) : Option (Int32 × Int32 × (Nat → Int32) × (Nat → Int32) × (Nat → Int32)) := ob (fX7_isStuff p1) (fun (r1 : Int32) => (if r1 = 0 then some ((-1), c7_lastFound, c7_found, c6_bytes, c6_sizes) else (if p2 ≤ 16 then (if 0 ≤ p2 then ob2 (fX6_begin N c6_bytes c6_sizes p1 p2) (fun (s6 : Nat → Int32) (s7 : Nat → Int32) => some (p2, c7_lastFound, c7_found, s6, s7)) else ob3 (fX7_refuse c7_lastFound c7_found 5) (fun (r9 : Int32) (s10 : Int32) (s11 : Nat → Int32) => some (r9, s10, s11, c6_bytes, c6_sizes))) else some ((-1), c7_lastFound, c7_found, c6_bytes, c6_sizes))))
theorem ydX7_stuff : yX7_stuff.cls = RX7 ∧ yX7_stuff.cls ≠ "java/lang/invoke/MethodHandle" ∧ yX7_stuff.cls ≠ "java/lang/invoke/VarHandle" ∧ (parseMethodDescriptor yX7_stuff.desc).map (fun d => d.parameters.length) = some 2 := by decide +kernel
set_option maxHeartbeats 8000000 in
set_option maxRecDepth 100000 in
theorem kX7_stuff (l : Launch) (D : va_G) (cy : Nat → ClassId) (ad : Nat → Nat) (c7_lastFound : Int32) (c7_lastAsked : Int32) (c7_found : Nat → Int32) (c4_made : Int32) (c4_kinds : Nat → Int32) (c4_places : Nat → Int32) (c4_rates : Nat → Int32) (c4_readings : Nat → Int32) (c4_bearing : Nat → Int32) (c5_legs : Int32) (c5_length : Int32) (c5_ways : Nat → Int32) (c5_units : Nat → Int32) (c5_stuffOf : Nat → Int32) (c5_point : Nat → Int32) (c6_bytes : Nat → Int32) (c6_sizes : Nat → Int32) (c6_weights : Nat → Int32) (c3_size : Int32) (c3_rates : Nat → Int32) (c0_amounts : Nat → Int32) (c0_lows : Nat → Int32) (c0_highs : Nat → Int32) (c0_barred : Nat → Int32) (c1_lines : Int32) (c1_parts : Int64) (c2_above : Int64) (c2_below : Int64) (p1 : Int32) (p2 : Int32) (N : Nat) {ra : Int32} {z7_lastFound : Int32} {z7_found : Nat → Int32} {z6_bytes : Nat → Int32} {z6_sizes : Nat → Int32} (hf : fX7_stuff N c7_lastFound c7_found c6_bytes c6_sizes p1 p2 = some (ra, z7_lastFound, z7_found, z6_bytes, z6_sizes)) : CI l D cy yX7_stuff wsX7_stuff ({ frames := 2, cells := 0, slots := 0, locals := 43 } : Room) [.ref (ad 70), .int p1, .int p2] (w7 cy ad c7_lastFound c7_lastAsked c7_found c4_made c4_kinds c4_places c4_rates c4_readings c4_bearing c5_legs c5_length c5_ways c5_units c5_stuffOf c5_point c6_bytes c6_sizes c6_weights c3_size c3_rates c0_amounts c0_lows c0_highs c0_barred c1_lines c1_parts c2_above c2_below) ra (w7 cy ad z7_lastFound c7_lastAsked z7_found c4_made c4_kinds c4_places c4_rates c4_readings c4_bearing c5_legs c5_length c5_ways c5_units c5_stuffOf c5_point z6_bytes z6_sizes c6_weights c3_size c3_rates c0_amounts c0_lows c0_highs c0_barred c1_lines c1_parts c2_above c2_below) := by
  unfold fX7_stuff at hf
  refine c_of_i (ty := .int) (own := RX7) (by decide) rfl rfl (Nat.le_of_ble_eq_true rfl) (fun X hC hRet => ?_)
  refine r_sub [(0, .ref (ad 70)), (1, .int p1), (2, .int p2)] [0, 1, 2] rfl ?_
  have hin7 : ∀ w ∈ wsX70, w ∈ wsX7_stuff := fun w h => List.mem_cons_of_mem _ (List.mem_append_left _ (List.mem_append_right _ h))
  have hw0 : Cond.fieldLink RX7 10 "HotPipes" "stuffs" "LHotPipes$Stuffs;" ∈ wsX7_stuff := List.mem_of_getElem? (i := 1) rfl
  refine r_iload_n hC dX7_stuff_0 rfl 1 rfl ?_
  obtain ⟨r1, h2, hf⟩ := ob_some hf
  refine r_si (st := []) hC (kX7_isStuff l D cy p1 h2) gX7_stuff_X7_isStuff rfl ⟨rfl, rfl⟩ ydX7_isStuff ⟨Nat.le_of_ble_eq_true rfl, Nat.le_of_ble_eq_true rfl⟩ ⟨Nat.le_refl 0, Nat.le_refl 0⟩ _ rfl (Nat.le_of_ble_eq_true rfl) dX7_stuff_1 ?_
  refine r_if_eq (tgt := 13) hC dX7_stuff_4 (by decide) (fun c3 => ?_) (fun c3 => ?_)
  · replace hf := o_pos hf c3
    refine r_iconst hC dX7_stuff_13 ic_m1 ?_
    obtain ⟨rfl, rfl, rfl, rfl, rfl⟩ := so_5 hf
    exact hRet _ _ _ dX7_stuff_14 rfl
  · replace hf := o_neg hf c3
    refine r_iload_n hC dX7_stuff_7 rfl 2 rfl ?_
    refine r_bipush hC dX7_stuff_8 bp_16 ?_
    refine r_icmp_le (tgt := 15) hC dX7_stuff_10 (by decide) (fun c4 => ?_) (fun c4 => ?_)
    · replace hf := o_pos hf c4
      refine r_iload_n hC dX7_stuff_15 rfl 2 rfl ?_
      refine r_if_ge (tgt := 25) hC dX7_stuff_16 (by decide) (fun c5 => ?_) (fun c5 => ?_)
      · replace hf := o_pos hf c5
        refine r_aload_n hC dX7_stuff_25 rfl 0 rfl ?_
        refine r_get hC hin7 0 rfl rfl 0 (by decide) rfl hw0 rfl dX7_stuff_26 ?_
        refine r_iload_n hC dX7_stuff_29 rfl 1 rfl ?_
        refine r_iload_n hC dX7_stuff_30 rfl 2 rfl ?_
        obtain ⟨s6, s7, h8, hf⟩ := ob2_some hf
        refine r_vv (st := []) hC (kX6_begin l D cy ad c6_bytes c6_sizes c6_weights p1 p2 N h8) gX7_stuff_X6_begin rfl ⟨rfl, rfl⟩ ydX6_begin ⟨Nat.le_of_ble_eq_true rfl, Nat.le_of_ble_eq_true rfl⟩ ⟨Nat.le_refl 0, Nat.le_refl 0⟩ 0 rfl rfl (v7 cy ad c7_lastFound c7_lastAsked c7_found ++ (v4 cy ad c4_made c4_kinds c4_places c4_rates c4_readings c4_bearing ++ (v5 cy ad c5_legs c5_length c5_ways c5_units c5_stuffOf c5_point))) (w3 cy ad c3_size c3_rates ++ (w0 cy ad c0_amounts c0_lows c0_highs c0_barred ++ (w1 cy ad c1_lines c1_parts ++ (w2 cy ad c2_above c2_below)))) rfl _ rfl (Nat.le_of_ble_eq_true rfl) dX7_stuff_31 (w7 cy ad c7_lastFound c7_lastAsked c7_found c4_made c4_kinds c4_places c4_rates c4_readings c4_bearing c5_legs c5_length c5_ways c5_units c5_stuffOf c5_point s6 s7 c6_weights c3_size c3_rates c0_amounts c0_lows c0_highs c0_barred c1_lines c1_parts c2_above c2_below) rfl ?_
        refine r_iload_n hC dX7_stuff_34 rfl 2 rfl ?_
        obtain ⟨rfl, rfl, rfl, rfl, rfl⟩ := so_5 hf
        exact hRet _ _ _ dX7_stuff_35 rfl
      · replace hf := o_neg hf c5
        refine r_aload_n hC dX7_stuff_19 rfl 0 rfl ?_
        refine r_iconst hC dX7_stuff_20 ic_5 ?_
        obtain ⟨r9, s10, s11, h12, hf⟩ := ob3_some hf
        refine r_vi (st := []) hC (kX7_refuse l D cy ad c7_lastFound c7_lastAsked c7_found c4_made c4_kinds c4_places c4_rates c4_readings c4_bearing c5_legs c5_length c5_ways c5_units c5_stuffOf c5_point c6_bytes c6_sizes c6_weights c3_size c3_rates c0_amounts c0_lows c0_highs c0_barred c1_lines c1_parts c2_above c2_below 5 h12) gX7_stuff_X7_refuse rfl ⟨rfl, rfl⟩ ydX7_refuse ⟨Nat.le_of_ble_eq_true rfl, Nat.le_of_ble_eq_true rfl⟩ ⟨Nat.le_refl 0, Nat.le_refl 0⟩ 0 rfl rfl [] [] rfl _ rfl (Nat.le_of_ble_eq_true rfl) dX7_stuff_21 (w7 cy ad s10 c7_lastAsked s11 c4_made c4_kinds c4_places c4_rates c4_readings c4_bearing c5_legs c5_length c5_ways c5_units c5_stuffOf c5_point c6_bytes c6_sizes c6_weights c3_size c3_rates c0_amounts c0_lows c0_highs c0_barred c1_lines c1_parts c2_above c2_below) rfl ?_
        obtain ⟨rfl, rfl, rfl, rfl, rfl⟩ := so_5 hf
        exact hRet _ _ _ dX7_stuff_24 rfl
    · replace hf := o_neg hf c4
      refine r_iconst hC dX7_stuff_13 ic_m1 ?_
      obtain ⟨rfl, rfl, rfl, rfl, rfl⟩ := so_5 hf
      exact hRet _ _ _ dX7_stuff_14 rfl
noncomputable def fX7_refusalOfStuff (c7_lastFound : Int32) (c7_found : Nat → Int32) (c6_sizes : Nat → Int32) (p1 : Int32) : Option (Int32 × Int32 × (Nat → Int32)) := ob (fX7_isStuff p1) (fun (r1 : Int32) => (if r1 = 0 then some ((-1), c7_lastFound, c7_found) else ob (fX6_isThere c6_sizes p1) (fun (r4 : Int32) => (if r4 = 0 then ob3 (fX7_refuse c7_lastFound c7_found 1) (fun (r7 : Int32) (s8 : Int32) (s9 : Nat → Int32) => some (r7, s8, s9)) else some (0, c7_lastFound, c7_found)))))
theorem ydX7_refusalOfStuff : yX7_refusalOfStuff.cls = RX7 ∧ yX7_refusalOfStuff.cls ≠ "java/lang/invoke/MethodHandle" ∧ yX7_refusalOfStuff.cls ≠ "java/lang/invoke/VarHandle" ∧ (parseMethodDescriptor yX7_refusalOfStuff.desc).map (fun d => d.parameters.length) = some 1 := by decide +kernel
set_option maxHeartbeats 8000000 in
set_option maxRecDepth 100000 in
theorem kX7_refusalOfStuff (l : Launch) (D : va_G) (cy : Nat → ClassId) (ad : Nat → Nat) (c7_lastFound : Int32) (c7_lastAsked : Int32) (c7_found : Nat → Int32) (c4_made : Int32) (c4_kinds : Nat → Int32) (c4_places : Nat → Int32) (c4_rates : Nat → Int32) (c4_readings : Nat → Int32) (c4_bearing : Nat → Int32) (c5_legs : Int32) (c5_length : Int32) (c5_ways : Nat → Int32) (c5_units : Nat → Int32) (c5_stuffOf : Nat → Int32) (c5_point : Nat → Int32) (c6_bytes : Nat → Int32) (c6_sizes : Nat → Int32) (c6_weights : Nat → Int32) (c3_size : Int32) (c3_rates : Nat → Int32) (c0_amounts : Nat → Int32) (c0_lows : Nat → Int32) (c0_highs : Nat → Int32) (c0_barred : Nat → Int32) (c1_lines : Int32) (c1_parts : Int64) (c2_above : Int64) (c2_below : Int64) (p1 : Int32) {ra : Int32} {z7_lastFound : Int32} {z7_found : Nat → Int32} (hf : fX7_refusalOfStuff c7_lastFound c7_found c6_sizes p1 = some (ra, z7_lastFound, z7_found)) : CI l D cy yX7_refusalOfStuff wsX7_refusalOfStuff ({ frames := 2, cells := 0, slots := 0, locals := 43 } : Room) [.ref (ad 70), .int p1] (w7 cy ad c7_lastFound c7_lastAsked c7_found c4_made c4_kinds c4_places c4_rates c4_readings c4_bearing c5_legs c5_length c5_ways c5_units c5_stuffOf c5_point c6_bytes c6_sizes c6_weights c3_size c3_rates c0_amounts c0_lows c0_highs c0_barred c1_lines c1_parts c2_above c2_below) ra (w7 cy ad z7_lastFound c7_lastAsked z7_found c4_made c4_kinds c4_places c4_rates c4_readings c4_bearing c5_legs c5_length c5_ways c5_units c5_stuffOf c5_point c6_bytes c6_sizes c6_weights c3_size c3_rates c0_amounts c0_lows c0_highs c0_barred c1_lines c1_parts c2_above c2_below) := by
  unfold fX7_refusalOfStuff at hf
  refine c_of_i (ty := .int) (own := RX7) (by decide) rfl rfl (Nat.le_of_ble_eq_true rfl) (fun X hC hRet => ?_)
  refine r_sub [(0, .ref (ad 70)), (1, .int p1)] [0, 1] rfl ?_
  have hin7 : ∀ w ∈ wsX70, w ∈ wsX7_refusalOfStuff := fun w h => List.mem_cons_of_mem _ (List.mem_append_left _ (List.mem_append_right _ h))
  have hw0 : Cond.fieldLink RX7 10 "HotPipes" "stuffs" "LHotPipes$Stuffs;" ∈ wsX7_refusalOfStuff := List.mem_of_getElem? (i := 1) rfl
  refine r_iload_n hC dX7_refusalOfStuff_0 rfl 1 rfl ?_
  obtain ⟨r1, h2, hf⟩ := ob_some hf
  refine r_si (st := []) hC (kX7_isStuff l D cy p1 h2) gX7_refusalOfStuff_X7_isStuff rfl ⟨rfl, rfl⟩ ydX7_isStuff ⟨Nat.le_of_ble_eq_true rfl, Nat.le_of_ble_eq_true rfl⟩ ⟨Nat.le_refl 0, Nat.le_refl 0⟩ _ rfl (Nat.le_of_ble_eq_true rfl) dX7_refusalOfStuff_1 ?_
  refine r_if_ne (tgt := 9) hC dX7_refusalOfStuff_4 (by decide) (fun c3 => ?_) (fun c3 => ?_)
  · replace hf := o_neg hf c3
    refine r_aload_n hC dX7_refusalOfStuff_9 rfl 0 rfl ?_
    refine r_get hC hin7 0 rfl rfl 0 (by decide) rfl hw0 rfl dX7_refusalOfStuff_10 ?_
    refine r_iload_n hC dX7_refusalOfStuff_13 rfl 1 rfl ?_
    obtain ⟨r4, h5, hf⟩ := ob_some hf
    refine r_vi (st := []) hC (kX6_isThere l D cy ad c6_bytes c6_sizes c6_weights p1 h5) gX7_refusalOfStuff_X6_isThere rfl ⟨rfl, rfl⟩ ydX6_isThere ⟨Nat.le_of_ble_eq_true rfl, Nat.le_of_ble_eq_true rfl⟩ ⟨Nat.le_refl 0, Nat.le_refl 0⟩ 0 rfl rfl (v7 cy ad c7_lastFound c7_lastAsked c7_found ++ (v4 cy ad c4_made c4_kinds c4_places c4_rates c4_readings c4_bearing ++ (v5 cy ad c5_legs c5_length c5_ways c5_units c5_stuffOf c5_point))) (w3 cy ad c3_size c3_rates ++ (w0 cy ad c0_amounts c0_lows c0_highs c0_barred ++ (w1 cy ad c1_lines c1_parts ++ (w2 cy ad c2_above c2_below)))) rfl _ rfl (Nat.le_of_ble_eq_true rfl) dX7_refusalOfStuff_14 (w7 cy ad c7_lastFound c7_lastAsked c7_found c4_made c4_kinds c4_places c4_rates c4_readings c4_bearing c5_legs c5_length c5_ways c5_units c5_stuffOf c5_point c6_bytes c6_sizes c6_weights c3_size c3_rates c0_amounts c0_lows c0_highs c0_barred c1_lines c1_parts c2_above c2_below) rfl ?_
    refine r_if_eq (tgt := 24) hC dX7_refusalOfStuff_17 (by decide) (fun c6 => ?_) (fun c6 => ?_)
    · replace hf := o_pos hf c6
      refine r_aload_n hC dX7_refusalOfStuff_24 rfl 0 rfl ?_
      refine r_iconst hC dX7_refusalOfStuff_25 ic_1 ?_
      obtain ⟨r7, s8, s9, h10, hf⟩ := ob3_some hf
      refine r_vi (st := []) hC (kX7_refuse l D cy ad c7_lastFound c7_lastAsked c7_found c4_made c4_kinds c4_places c4_rates c4_readings c4_bearing c5_legs c5_length c5_ways c5_units c5_stuffOf c5_point c6_bytes c6_sizes c6_weights c3_size c3_rates c0_amounts c0_lows c0_highs c0_barred c1_lines c1_parts c2_above c2_below 1 h10) gX7_refusalOfStuff_X7_refuse rfl ⟨rfl, rfl⟩ ydX7_refuse ⟨Nat.le_of_ble_eq_true rfl, Nat.le_of_ble_eq_true rfl⟩ ⟨Nat.le_refl 0, Nat.le_refl 0⟩ 0 rfl rfl [] [] rfl _ rfl (Nat.le_of_ble_eq_true rfl) dX7_refusalOfStuff_26 (w7 cy ad s8 c7_lastAsked s9 c4_made c4_kinds c4_places c4_rates c4_readings c4_bearing c5_legs c5_length c5_ways c5_units c5_stuffOf c5_point c6_bytes c6_sizes c6_weights c3_size c3_rates c0_amounts c0_lows c0_highs c0_barred c1_lines c1_parts c2_above c2_below) rfl ?_
      obtain ⟨rfl, rfl, rfl⟩ := so_3 hf
      exact hRet _ _ _ dX7_refusalOfStuff_29 rfl
    · replace hf := o_neg hf c6
      refine r_iconst hC dX7_refusalOfStuff_20 ic_0 ?_
      refine r_goto (tgt := 29) hC dX7_refusalOfStuff_21 (by decide) ?_
      obtain ⟨rfl, rfl, rfl⟩ := so_3 hf
      exact hRet _ _ _ dX7_refusalOfStuff_29 rfl
  · replace hf := o_pos hf c3
    refine r_iconst hC dX7_refusalOfStuff_7 ic_m1 ?_
    obtain ⟨rfl, rfl, rfl⟩ := so_3 hf
    exact hRet _ _ _ dX7_refusalOfStuff_8 rfl
noncomputable def fX7_lay (c7_lastFound : Int32) (c7_found : Nat → Int32) (c6_bytes : Nat → Int32) (c6_sizes : Nat → Int32) (p1 : Int32) (p2 : Int32) (p3 : Int32) : Option (Int32 × Int32 × (Nat → Int32) × (Nat → Int32)) := ob3 (fX7_refusalOfStuff c7_lastFound c7_found c6_sizes p1) (fun (r1 : Int32) (s2 : Int32) (s3 : Nat → Int32) => (if r1 = 0 then ob (fX6_hasBytes c6_sizes p1 p2 1) (fun (r6 : Int32) => (if r6 = 0 then ob3 (fX7_refuse s2 s3 2) (fun (r12 : Int32) (s13 : Int32) (s14 : Nat → Int32) => some (r12, s13, s14, c6_bytes)) else ob2 (fX6_replace c6_bytes p1 p2 (Int8.toInt32 (Int32.toInt8 p3))) (fun (r9 : Int32) (s10 : Nat → Int32) => some ((r9 + 1000), s2, s3, s10)))) else some (r1, s2, s3, c6_bytes)))
theorem ydX7_lay : yX7_lay.cls = RX7 ∧ yX7_lay.cls ≠ "java/lang/invoke/MethodHandle" ∧ yX7_lay.cls ≠ "java/lang/invoke/VarHandle" ∧ (parseMethodDescriptor yX7_lay.desc).map (fun d => d.parameters.length) = some 3 := by decide +kernel
set_option maxHeartbeats 8000000 in
set_option maxRecDepth 100000 in
theorem kX7_lay (l : Launch) (D : va_G) (cy : Nat → ClassId) (ad : Nat → Nat) (c7_lastFound : Int32) (c7_lastAsked : Int32) (c7_found : Nat → Int32) (c4_made : Int32) (c4_kinds : Nat → Int32) (c4_places : Nat → Int32) (c4_rates : Nat → Int32) (c4_readings : Nat → Int32) (c4_bearing : Nat → Int32) (c5_legs : Int32) (c5_length : Int32) (c5_ways : Nat → Int32) (c5_units : Nat → Int32) (c5_stuffOf : Nat → Int32) (c5_point : Nat → Int32) (c6_bytes : Nat → Int32) (c6_sizes : Nat → Int32) (c6_weights : Nat → Int32) (c3_size : Int32) (c3_rates : Nat → Int32) (c0_amounts : Nat → Int32) (c0_lows : Nat → Int32) (c0_highs : Nat → Int32) (c0_barred : Nat → Int32) (c1_lines : Int32) (c1_parts : Int64) (c2_above : Int64) (c2_below : Int64) (p1 : Int32) (p2 : Int32) (p3 : Int32) {ra : Int32} {z7_lastFound : Int32} {z7_found : Nat → Int32} {z6_bytes : Nat → Int32} (hf : fX7_lay c7_lastFound c7_found c6_bytes c6_sizes p1 p2 p3 = some (ra, z7_lastFound, z7_found, z6_bytes)) : CI l D cy yX7_lay wsX7_lay ({ frames := 3, cells := 0, slots := 0, locals := 64 } : Room) [.ref (ad 70), .int p1, .int p2, .int p3] (w7 cy ad c7_lastFound c7_lastAsked c7_found c4_made c4_kinds c4_places c4_rates c4_readings c4_bearing c5_legs c5_length c5_ways c5_units c5_stuffOf c5_point c6_bytes c6_sizes c6_weights c3_size c3_rates c0_amounts c0_lows c0_highs c0_barred c1_lines c1_parts c2_above c2_below) ra (w7 cy ad z7_lastFound c7_lastAsked z7_found c4_made c4_kinds c4_places c4_rates c4_readings c4_bearing c5_legs c5_length c5_ways c5_units c5_stuffOf c5_point z6_bytes c6_sizes c6_weights c3_size c3_rates c0_amounts c0_lows c0_highs c0_barred c1_lines c1_parts c2_above c2_below) := by
  unfold fX7_lay at hf
  refine c_of_i (ty := .int) (own := RX7) (by decide) rfl rfl (Nat.le_of_ble_eq_true rfl) (fun X hC hRet => ?_)
  refine r_sub [(0, .ref (ad 70)), (1, .int p1), (2, .int p2), (3, .int p3)] [0, 1, 2, 3] rfl ?_
  have hin7 : ∀ w ∈ wsX70, w ∈ wsX7_lay := fun w h => List.mem_cons_of_mem _ (List.mem_append_left _ (List.mem_append_right _ h))
  have hw0 : Cond.fieldLink RX7 10 "HotPipes" "stuffs" "LHotPipes$Stuffs;" ∈ wsX7_lay := List.mem_of_getElem? (i := 1) rfl
  refine r_aload_n hC dX7_lay_0 rfl 0 rfl ?_
  refine r_iload_n hC dX7_lay_1 rfl 1 rfl ?_
  obtain ⟨r1, s2, s3, h4, hf⟩ := ob3_some hf
  refine r_vi (st := []) hC (kX7_refusalOfStuff l D cy ad c7_lastFound c7_lastAsked c7_found c4_made c4_kinds c4_places c4_rates c4_readings c4_bearing c5_legs c5_length c5_ways c5_units c5_stuffOf c5_point c6_bytes c6_sizes c6_weights c3_size c3_rates c0_amounts c0_lows c0_highs c0_barred c1_lines c1_parts c2_above c2_below p1 h4) gX7_lay_X7_refusalOfStuff rfl ⟨rfl, rfl⟩ ydX7_refusalOfStuff ⟨Nat.le_of_ble_eq_true rfl, Nat.le_of_ble_eq_true rfl⟩ ⟨Nat.le_refl 0, Nat.le_refl 0⟩ 0 rfl rfl [] [] rfl _ rfl (Nat.le_of_ble_eq_true rfl) dX7_lay_2 (w7 cy ad s2 c7_lastAsked s3 c4_made c4_kinds c4_places c4_rates c4_readings c4_bearing c5_legs c5_length c5_ways c5_units c5_stuffOf c5_point c6_bytes c6_sizes c6_weights c3_size c3_rates c0_amounts c0_lows c0_highs c0_barred c1_lines c1_parts c2_above c2_below) rfl ?_
  refine r_istore hC [(4, .int r1), (0, .ref (ad 70)), (1, .int p1), (2, .int p2), (3, .int p3)] dX7_lay_5 (by decide) rfl ?_
  refine r_iload hC dX7_lay_7 0 rfl ?_
  refine r_if_eq (tgt := 15) hC dX7_lay_9 (by decide) (fun c5 => ?_) (fun c5 => ?_)
  · replace hf := o_pos hf c5
    refine r_aload_n hC dX7_lay_15 rfl 1 rfl ?_
    refine r_get hC hin7 0 rfl rfl 0 (by decide) rfl hw0 rfl dX7_lay_16 ?_
    refine r_iload_n hC dX7_lay_19 rfl 2 rfl ?_
    refine r_iload_n hC dX7_lay_20 rfl 3 rfl ?_
    refine r_iconst hC dX7_lay_21 ic_1 ?_
    obtain ⟨r6, h7, hf⟩ := ob_some hf
    refine r_vi (st := []) hC (kX6_hasBytes l D cy ad c6_bytes c6_sizes c6_weights p1 p2 1 h7) gX7_lay_X6_hasBytes rfl ⟨rfl, rfl⟩ ydX6_hasBytes ⟨Nat.le_of_ble_eq_true rfl, Nat.le_of_ble_eq_true rfl⟩ ⟨Nat.le_refl 0, Nat.le_refl 0⟩ 0 rfl rfl (v7 cy ad s2 c7_lastAsked s3 ++ (v4 cy ad c4_made c4_kinds c4_places c4_rates c4_readings c4_bearing ++ (v5 cy ad c5_legs c5_length c5_ways c5_units c5_stuffOf c5_point))) (w3 cy ad c3_size c3_rates ++ (w0 cy ad c0_amounts c0_lows c0_highs c0_barred ++ (w1 cy ad c1_lines c1_parts ++ (w2 cy ad c2_above c2_below)))) rfl _ rfl (Nat.le_of_ble_eq_true rfl) dX7_lay_22 (w7 cy ad s2 c7_lastAsked s3 c4_made c4_kinds c4_places c4_rates c4_readings c4_bearing c5_legs c5_length c5_ways c5_units c5_stuffOf c5_point c6_bytes c6_sizes c6_weights c3_size c3_rates c0_amounts c0_lows c0_highs c0_barred c1_lines c1_parts c2_above c2_below) rfl ?_
    refine r_if_ne (tgt := 34) hC dX7_lay_25 (by decide) (fun c8 => ?_) (fun c8 => ?_)
    · replace hf := o_neg hf c8
      refine r_aload_n hC dX7_lay_34 rfl 1 rfl ?_
      refine r_get hC hin7 0 rfl rfl 0 (by decide) rfl hw0 rfl dX7_lay_35 ?_
      refine r_iload_n hC dX7_lay_38 rfl 2 rfl ?_
      refine r_iload_n hC dX7_lay_39 rfl 3 rfl ?_
      refine r_iload_n hC dX7_lay_40 rfl 4 rfl ?_
      refine r_i2b hC dX7_lay_41 ?_
      obtain ⟨r9, s10, h11, hf⟩ := ob2_some hf
      refine r_vi (st := []) hC (kX6_replace l D cy ad c6_bytes c6_sizes c6_weights p1 p2 (Int8.toInt32 (Int32.toInt8 p3)) h11) gX7_lay_X6_replace rfl ⟨rfl, rfl⟩ ydX6_replace ⟨Nat.le_of_ble_eq_true rfl, Nat.le_of_ble_eq_true rfl⟩ ⟨Nat.le_refl 0, Nat.le_refl 0⟩ 0 rfl rfl (v7 cy ad s2 c7_lastAsked s3 ++ (v4 cy ad c4_made c4_kinds c4_places c4_rates c4_readings c4_bearing ++ (v5 cy ad c5_legs c5_length c5_ways c5_units c5_stuffOf c5_point))) (w3 cy ad c3_size c3_rates ++ (w0 cy ad c0_amounts c0_lows c0_highs c0_barred ++ (w1 cy ad c1_lines c1_parts ++ (w2 cy ad c2_above c2_below)))) rfl _ rfl (Nat.le_of_ble_eq_true rfl) dX7_lay_42 (w7 cy ad s2 c7_lastAsked s3 c4_made c4_kinds c4_places c4_rates c4_readings c4_bearing c5_legs c5_length c5_ways c5_units c5_stuffOf c5_point s10 c6_sizes c6_weights c3_size c3_rates c0_amounts c0_lows c0_highs c0_barred c1_lines c1_parts c2_above c2_below) rfl ?_
      refine r_sipush hC dX7_lay_45 sp_1000 ?_
      refine r_iadd hC dX7_lay_48 ?_
      obtain ⟨rfl, rfl, rfl, rfl⟩ := so_4 hf
      exact hRet _ _ _ dX7_lay_49 rfl
    · replace hf := o_pos hf c8
      refine r_aload_n hC dX7_lay_28 rfl 1 rfl ?_
      refine r_iconst hC dX7_lay_29 ic_2 ?_
      obtain ⟨r12, s13, s14, h15, hf⟩ := ob3_some hf
      refine r_vi (st := []) hC (kX7_refuse l D cy ad s2 c7_lastAsked s3 c4_made c4_kinds c4_places c4_rates c4_readings c4_bearing c5_legs c5_length c5_ways c5_units c5_stuffOf c5_point c6_bytes c6_sizes c6_weights c3_size c3_rates c0_amounts c0_lows c0_highs c0_barred c1_lines c1_parts c2_above c2_below 2 h15) gX7_lay_X7_refuse rfl ⟨rfl, rfl⟩ ydX7_refuse ⟨Nat.le_of_ble_eq_true rfl, Nat.le_of_ble_eq_true rfl⟩ ⟨Nat.le_refl 0, Nat.le_refl 0⟩ 0 rfl rfl [] [] rfl _ rfl (Nat.le_of_ble_eq_true rfl) dX7_lay_30 (w7 cy ad s13 c7_lastAsked s14 c4_made c4_kinds c4_places c4_rates c4_readings c4_bearing c5_legs c5_length c5_ways c5_units c5_stuffOf c5_point c6_bytes c6_sizes c6_weights c3_size c3_rates c0_amounts c0_lows c0_highs c0_barred c1_lines c1_parts c2_above c2_below) rfl ?_
      obtain ⟨rfl, rfl, rfl, rfl⟩ := so_4 hf
      exact hRet _ _ _ dX7_lay_33 rfl
  · replace hf := o_neg hf c5
    refine r_iload hC dX7_lay_12 0 rfl ?_
    obtain ⟨rfl, rfl, rfl, rfl⟩ := so_4 hf
    exact hRet _ _ _ dX7_lay_14 rfl
noncomputable def fX7_tear (c7_lastFound : Int32) (c7_found : Nat → Int32) (c6_sizes : Nat → Int32) (p1 : Int32) : Option (Int32 × Int32 × (Nat → Int32) × (Nat → Int32)) := ob3 (fX7_refusalOfStuff c7_lastFound c7_found c6_sizes p1) (fun (r1 : Int32) (s2 : Int32) (s3 : Nat → Int32) => (if r1 = 0 then ob (fX6_end c6_sizes p1) (fun (s6 : Nat → Int32) => some (1, s2, s3, s6)) else some (r1, s2, s3, c6_sizes)))
theorem ydX7_tear : yX7_tear.cls = RX7 ∧ yX7_tear.cls ≠ "java/lang/invoke/MethodHandle" ∧ yX7_tear.cls ≠ "java/lang/invoke/VarHandle" ∧ (parseMethodDescriptor yX7_tear.desc).map (fun d => d.parameters.length) = some 1 := by decide +kernel
set_option maxHeartbeats 8000000 in
set_option maxRecDepth 100000 in
theorem kX7_tear (l : Launch) (D : va_G) (cy : Nat → ClassId) (ad : Nat → Nat) (c7_lastFound : Int32) (c7_lastAsked : Int32) (c7_found : Nat → Int32) (c4_made : Int32) (c4_kinds : Nat → Int32) (c4_places : Nat → Int32) (c4_rates : Nat → Int32) (c4_readings : Nat → Int32) (c4_bearing : Nat → Int32) (c5_legs : Int32) (c5_length : Int32) (c5_ways : Nat → Int32) (c5_units : Nat → Int32) (c5_stuffOf : Nat → Int32) (c5_point : Nat → Int32) (c6_bytes : Nat → Int32) (c6_sizes : Nat → Int32) (c6_weights : Nat → Int32) (c3_size : Int32) (c3_rates : Nat → Int32) (c0_amounts : Nat → Int32) (c0_lows : Nat → Int32) (c0_highs : Nat → Int32) (c0_barred : Nat → Int32) (c1_lines : Int32) (c1_parts : Int64) (c2_above : Int64) (c2_below : Int64) (p1 : Int32) {ra : Int32} {z7_lastFound : Int32} {z7_found : Nat → Int32} {z6_sizes : Nat → Int32} (hf : fX7_tear c7_lastFound c7_found c6_sizes p1 = some (ra, z7_lastFound, z7_found, z6_sizes)) : CI l D cy yX7_tear wsX7_tear ({ frames := 3, cells := 0, slots := 0, locals := 64 } : Room) [.ref (ad 70), .int p1] (w7 cy ad c7_lastFound c7_lastAsked c7_found c4_made c4_kinds c4_places c4_rates c4_readings c4_bearing c5_legs c5_length c5_ways c5_units c5_stuffOf c5_point c6_bytes c6_sizes c6_weights c3_size c3_rates c0_amounts c0_lows c0_highs c0_barred c1_lines c1_parts c2_above c2_below) ra (w7 cy ad z7_lastFound c7_lastAsked z7_found c4_made c4_kinds c4_places c4_rates c4_readings c4_bearing c5_legs c5_length c5_ways c5_units c5_stuffOf c5_point c6_bytes z6_sizes c6_weights c3_size c3_rates c0_amounts c0_lows c0_highs c0_barred c1_lines c1_parts c2_above c2_below) := by
  unfold fX7_tear at hf
  refine c_of_i (ty := .int) (own := RX7) (by decide) rfl rfl (Nat.le_of_ble_eq_true rfl) (fun X hC hRet => ?_)
  refine r_sub [(0, .ref (ad 70)), (1, .int p1)] [0, 1] rfl ?_
  have hin7 : ∀ w ∈ wsX70, w ∈ wsX7_tear := fun w h => List.mem_cons_of_mem _ (List.mem_append_left _ (List.mem_append_right _ h))
  have hw0 : Cond.fieldLink RX7 10 "HotPipes" "stuffs" "LHotPipes$Stuffs;" ∈ wsX7_tear := List.mem_of_getElem? (i := 1) rfl
  refine r_aload_n hC dX7_tear_0 rfl 0 rfl ?_
  refine r_iload_n hC dX7_tear_1 rfl 1 rfl ?_
  obtain ⟨r1, s2, s3, h4, hf⟩ := ob3_some hf
  refine r_vi (st := []) hC (kX7_refusalOfStuff l D cy ad c7_lastFound c7_lastAsked c7_found c4_made c4_kinds c4_places c4_rates c4_readings c4_bearing c5_legs c5_length c5_ways c5_units c5_stuffOf c5_point c6_bytes c6_sizes c6_weights c3_size c3_rates c0_amounts c0_lows c0_highs c0_barred c1_lines c1_parts c2_above c2_below p1 h4) gX7_tear_X7_refusalOfStuff rfl ⟨rfl, rfl⟩ ydX7_refusalOfStuff ⟨Nat.le_of_ble_eq_true rfl, Nat.le_of_ble_eq_true rfl⟩ ⟨Nat.le_refl 0, Nat.le_refl 0⟩ 0 rfl rfl [] [] rfl _ rfl (Nat.le_of_ble_eq_true rfl) dX7_tear_2 (w7 cy ad s2 c7_lastAsked s3 c4_made c4_kinds c4_places c4_rates c4_readings c4_bearing c5_legs c5_length c5_ways c5_units c5_stuffOf c5_point c6_bytes c6_sizes c6_weights c3_size c3_rates c0_amounts c0_lows c0_highs c0_barred c1_lines c1_parts c2_above c2_below) rfl ?_
  refine r_istore_n hC [(2, .int r1), (0, .ref (ad 70)), (1, .int p1)] dX7_tear_5 rfl (by decide) rfl ?_
  refine r_iload_n hC dX7_tear_6 rfl 0 rfl ?_
  refine r_if_eq (tgt := 12) hC dX7_tear_7 (by decide) (fun c5 => ?_) (fun c5 => ?_)
  · replace hf := o_pos hf c5
    refine r_aload_n hC dX7_tear_12 rfl 1 rfl ?_
    refine r_get hC hin7 0 rfl rfl 0 (by decide) rfl hw0 rfl dX7_tear_13 ?_
    refine r_iload_n hC dX7_tear_16 rfl 2 rfl ?_
    obtain ⟨s6, h7, hf⟩ := ob_some hf
    refine r_vv (st := []) hC (kX6_end l D cy ad c6_bytes c6_sizes c6_weights p1 h7) gX7_tear_X6_end rfl ⟨rfl, rfl⟩ ydX6_end ⟨Nat.le_of_ble_eq_true rfl, Nat.le_of_ble_eq_true rfl⟩ ⟨Nat.le_refl 0, Nat.le_refl 0⟩ 0 rfl rfl (v7 cy ad s2 c7_lastAsked s3 ++ (v4 cy ad c4_made c4_kinds c4_places c4_rates c4_readings c4_bearing ++ (v5 cy ad c5_legs c5_length c5_ways c5_units c5_stuffOf c5_point))) (w3 cy ad c3_size c3_rates ++ (w0 cy ad c0_amounts c0_lows c0_highs c0_barred ++ (w1 cy ad c1_lines c1_parts ++ (w2 cy ad c2_above c2_below)))) rfl _ rfl (Nat.le_of_ble_eq_true rfl) dX7_tear_17 (w7 cy ad s2 c7_lastAsked s3 c4_made c4_kinds c4_places c4_rates c4_readings c4_bearing c5_legs c5_length c5_ways c5_units c5_stuffOf c5_point c6_bytes s6 c6_weights c3_size c3_rates c0_amounts c0_lows c0_highs c0_barred c1_lines c1_parts c2_above c2_below) rfl ?_
    refine r_iconst hC dX7_tear_20 ic_1 ?_
    obtain ⟨rfl, rfl, rfl, rfl⟩ := so_4 hf
    exact hRet _ _ _ dX7_tear_21 rfl
  · replace hf := o_neg hf c5
    refine r_iload_n hC dX7_tear_10 rfl 0 rfl ?_
    obtain ⟨rfl, rfl, rfl, rfl⟩ := so_4 hf
    exact hRet _ _ _ dX7_tear_11 rfl
noncomputable def fX7_copy (c7_lastFound : Int32) (c7_found : Nat → Int32) (c6_bytes : Nat → Int32) (c6_sizes : Nat → Int32) (p1 : Int32) (p2 : Int32) (p3 : Int32) (p4 : Int32) (p5 : Int32) : Option (Int32 × Int32 × (Nat → Int32) × (Nat → Int32)) := ob (fX7_isStuff p1) (fun (r1 : Int32) => (if r1 = 0 then some ((-1), c7_lastFound, c7_found, c6_bytes) else ob (fX7_isStuff p3) (fun (r4 : Int32) => (if r4 = 0 then some ((-1), c7_lastFound, c7_found, c6_bytes) else ob (fX6_isThere c6_sizes p1) (fun (r7 : Int32) => oj (ob3 (fX7_refuse c7_lastFound c7_found 1) (fun (r10 : Int32) (s11 : Int32) (s12 : Nat → Int32) => some (r10, s11, s12, c6_bytes))) (fun (K38_9 : Option (Int32 × Int32 × (Nat → Int32) × (Nat → Int32))) => (if r7 = 0 then K38_9 else ob (fX6_isThere c6_sizes p3) (fun (r15 : Int32) => (if r15 = 0 then K38_9 else ob (fX6_hasBytes c6_sizes p1 p2 p5) (fun (r18 : Int32) => oj (ob3 (fX7_refuse c7_lastFound c7_found 2) (fun (r21 : Int32) (s22 : Int32) (s23 : Nat → Int32) => some (r21, s22, s23, c6_bytes))) (fun (K73_20 : Option (Int32 × Int32 × (Nat → Int32) × (Nat → Int32))) => (if r18 = 0 then K73_20 else ob (fX6_hasBytes c6_sizes p3 p4 p5) (fun (r26 : Int32) => (if r26 = 0 then K73_20 else ob (fX6_transfer c6_bytes p1 p2 p3 p4 p5) (fun (s29 : Nat → Int32) => some (1, c7_lastFound, c7_found, s29))))))))))))))))
theorem ydX7_copy : yX7_copy.cls = RX7 ∧ yX7_copy.cls ≠ "java/lang/invoke/MethodHandle" ∧ yX7_copy.cls ≠ "java/lang/invoke/VarHandle" ∧ (parseMethodDescriptor yX7_copy.desc).map (fun d => d.parameters.length) = some 5 := by decide +kernel
set_option maxHeartbeats 8000000 in
set_option maxRecDepth 100000 in
theorem kX7_copy (l : Launch) (D : va_G) (cy : Nat → ClassId) (ad : Nat → Nat) (c7_lastFound : Int32) (c7_lastAsked : Int32) (c7_found : Nat → Int32) (c4_made : Int32) (c4_kinds : Nat → Int32) (c4_places : Nat → Int32) (c4_rates : Nat → Int32) (c4_readings : Nat → Int32) (c4_bearing : Nat → Int32) (c5_legs : Int32) (c5_length : Int32) (c5_ways : Nat → Int32) (c5_units : Nat → Int32) (c5_stuffOf : Nat → Int32) (c5_point : Nat → Int32) (c6_bytes : Nat → Int32) (c6_sizes : Nat → Int32) (c6_weights : Nat → Int32) (c3_size : Int32) (c3_rates : Nat → Int32) (c0_amounts : Nat → Int32) (c0_lows : Nat → Int32) (c0_highs : Nat → Int32) (c0_barred : Nat → Int32) (c1_lines : Int32) (c1_parts : Int64) (c2_above : Int64) (c2_below : Int64) (p1 : Int32) (p2 : Int32) (p3 : Int32) (p4 : Int32) (p5 : Int32) {ra : Int32} {z7_lastFound : Int32} {z7_found : Nat → Int32} {z6_bytes : Nat → Int32} (hf : fX7_copy c7_lastFound c7_found c6_bytes c6_sizes p1 p2 p3 p4 p5 = some (ra, z7_lastFound, z7_found, z6_bytes)) : CI l D cy yX7_copy wsX7_copy ({ frames := 2, cells := 0, slots := 0, locals := 65 } : Room) [.ref (ad 70), .int p1, .int p2, .int p3, .int p4, .int p5] (w7 cy ad c7_lastFound c7_lastAsked c7_found c4_made c4_kinds c4_places c4_rates c4_readings c4_bearing c5_legs c5_length c5_ways c5_units c5_stuffOf c5_point c6_bytes c6_sizes c6_weights c3_size c3_rates c0_amounts c0_lows c0_highs c0_barred c1_lines c1_parts c2_above c2_below) ra (w7 cy ad z7_lastFound c7_lastAsked z7_found c4_made c4_kinds c4_places c4_rates c4_readings c4_bearing c5_legs c5_length c5_ways c5_units c5_stuffOf c5_point z6_bytes c6_sizes c6_weights c3_size c3_rates c0_amounts c0_lows c0_highs c0_barred c1_lines c1_parts c2_above c2_below) := by
  unfold fX7_copy at hf
  refine c_of_i (ty := .int) (own := RX7) (by decide) rfl rfl (Nat.le_of_ble_eq_true rfl) (fun X hC hRet => ?_)
  refine r_sub [(0, .ref (ad 70)), (1, .int p1), (2, .int p2), (3, .int p3), (4, .int p4), (5, .int p5)] [0, 1, 2, 3, 4, 5] rfl ?_
  have hin7 : ∀ w ∈ wsX70, w ∈ wsX7_copy := fun w h => List.mem_cons_of_mem _ (List.mem_append_left _ (List.mem_append_right _ h))
  have hw0 : Cond.fieldLink RX7 10 "HotPipes" "stuffs" "LHotPipes$Stuffs;" ∈ wsX7_copy := List.mem_of_getElem? (i := 1) rfl
  refine r_iload_n hC dX7_copy_0 rfl 1 rfl ?_
  obtain ⟨r1, h2, hf⟩ := ob_some hf
  refine r_si (st := []) hC (kX7_isStuff l D cy p1 h2) gX7_copy_X7_isStuff rfl ⟨rfl, rfl⟩ ydX7_isStuff ⟨Nat.le_of_ble_eq_true rfl, Nat.le_of_ble_eq_true rfl⟩ ⟨Nat.le_refl 0, Nat.le_refl 0⟩ _ rfl (Nat.le_of_ble_eq_true rfl) dX7_copy_1 ?_
  refine r_if_eq (tgt := 14) hC dX7_copy_4 (by decide) (fun c3 => ?_) (fun c3 => ?_)
  · replace hf := o_pos hf c3
    refine r_iconst hC dX7_copy_14 ic_m1 ?_
    obtain ⟨rfl, rfl, rfl, rfl⟩ := so_4 hf
    exact hRet _ _ _ dX7_copy_15 rfl
  · replace hf := o_neg hf c3
    refine r_iload_n hC dX7_copy_7 rfl 3 rfl ?_
    obtain ⟨r4, h5, hf⟩ := ob_some hf
    refine r_si (st := []) hC (kX7_isStuff l D cy p3 h5) gX7_copy_X7_isStuff rfl ⟨rfl, rfl⟩ ydX7_isStuff ⟨Nat.le_of_ble_eq_true rfl, Nat.le_of_ble_eq_true rfl⟩ ⟨Nat.le_refl 0, Nat.le_refl 0⟩ _ rfl (Nat.le_of_ble_eq_true rfl) dX7_copy_8 ?_
    refine r_if_ne (tgt := 16) hC dX7_copy_11 (by decide) (fun c6 => ?_) (fun c6 => ?_)
    · replace hf := o_neg hf c6
      refine r_aload_n hC dX7_copy_16 rfl 0 rfl ?_
      refine r_get hC hin7 0 rfl rfl 0 (by decide) rfl hw0 rfl dX7_copy_17 ?_
      refine r_iload_n hC dX7_copy_20 rfl 1 rfl ?_
      obtain ⟨r7, h8, hf⟩ := ob_some hf
      refine r_vi (st := []) hC (kX6_isThere l D cy ad c6_bytes c6_sizes c6_weights p1 h8) gX7_copy_X6_isThere rfl ⟨rfl, rfl⟩ ydX6_isThere ⟨Nat.le_of_ble_eq_true rfl, Nat.le_of_ble_eq_true rfl⟩ ⟨Nat.le_refl 0, Nat.le_refl 0⟩ 0 rfl rfl (v7 cy ad c7_lastFound c7_lastAsked c7_found ++ (v4 cy ad c4_made c4_kinds c4_places c4_rates c4_readings c4_bearing ++ (v5 cy ad c5_legs c5_length c5_ways c5_units c5_stuffOf c5_point))) (w3 cy ad c3_size c3_rates ++ (w0 cy ad c0_amounts c0_lows c0_highs c0_barred ++ (w1 cy ad c1_lines c1_parts ++ (w2 cy ad c2_above c2_below)))) rfl _ rfl (Nat.le_of_ble_eq_true rfl) dX7_copy_21 (w7 cy ad c7_lastFound c7_lastAsked c7_found c4_made c4_kinds c4_places c4_rates c4_readings c4_bearing c5_legs c5_length c5_ways c5_units c5_stuffOf c5_point c6_bytes c6_sizes c6_weights c3_size c3_rates c0_amounts c0_lows c0_highs c0_barred c1_lines c1_parts c2_above c2_below) rfl ?_
      obtain ⟨K38_9, eK38_9, hf⟩ := oj_some hf
      have J38_9 : K38_9 = some (ra, z7_lastFound, z7_found, z6_bytes) → GG X 6 0 0 (w7 cy ad c7_lastFound c7_lastAsked c7_found c4_made c4_kinds c4_places c4_rates c4_readings c4_bearing c5_legs c5_length c5_ways c5_units c5_stuffOf c5_point c6_bytes c6_sizes c6_weights c3_size c3_rates c0_amounts c0_lows c0_highs c0_barred c1_lines c1_parts c2_above c2_below) [(0, .ref (ad 70))] 38 [] := by
        intro hf
        replace hf := oa0 eK38_9 hf
        refine r_aload_n hC dX7_copy_38 rfl 0 rfl ?_
        refine r_iconst hC dX7_copy_39 ic_1 ?_
        obtain ⟨r10, s11, s12, h13, hf⟩ := ob3_some hf
        refine r_vi (st := []) hC (kX7_refuse l D cy ad c7_lastFound c7_lastAsked c7_found c4_made c4_kinds c4_places c4_rates c4_readings c4_bearing c5_legs c5_length c5_ways c5_units c5_stuffOf c5_point c6_bytes c6_sizes c6_weights c3_size c3_rates c0_amounts c0_lows c0_highs c0_barred c1_lines c1_parts c2_above c2_below 1 h13) gX7_copy_X7_refuse rfl ⟨rfl, rfl⟩ ydX7_refuse ⟨Nat.le_of_ble_eq_true rfl, Nat.le_of_ble_eq_true rfl⟩ ⟨Nat.le_refl 0, Nat.le_refl 0⟩ 0 rfl rfl [] [] rfl _ rfl (Nat.le_of_ble_eq_true rfl) dX7_copy_40 (w7 cy ad s11 c7_lastAsked s12 c4_made c4_kinds c4_places c4_rates c4_readings c4_bearing c5_legs c5_length c5_ways c5_units c5_stuffOf c5_point c6_bytes c6_sizes c6_weights c3_size c3_rates c0_amounts c0_lows c0_highs c0_barred c1_lines c1_parts c2_above c2_below) rfl ?_
        obtain ⟨rfl, rfl, rfl, rfl⟩ := so_4 hf
        exact hRet _ _ _ dX7_copy_43 rfl
      refine r_if_eq (tgt := 38) hC dX7_copy_24 (by decide) (fun c14 => ?_) (fun c14 => ?_)
      · replace hf := o_pos hf c14
        refine r_sub [(0, .ref (ad 70))] [0] rfl ?_
        exact J38_9 hf
      · replace hf := o_neg hf c14
        refine r_aload_n hC dX7_copy_27 rfl 0 rfl ?_
        refine r_get hC hin7 0 rfl rfl 0 (by decide) rfl hw0 rfl dX7_copy_28 ?_
        refine r_iload_n hC dX7_copy_31 rfl 3 rfl ?_
        obtain ⟨r15, h16, hf⟩ := ob_some hf
        refine r_vi (st := []) hC (kX6_isThere l D cy ad c6_bytes c6_sizes c6_weights p3 h16) gX7_copy_X6_isThere rfl ⟨rfl, rfl⟩ ydX6_isThere ⟨Nat.le_of_ble_eq_true rfl, Nat.le_of_ble_eq_true rfl⟩ ⟨Nat.le_refl 0, Nat.le_refl 0⟩ 0 rfl rfl (v7 cy ad c7_lastFound c7_lastAsked c7_found ++ (v4 cy ad c4_made c4_kinds c4_places c4_rates c4_readings c4_bearing ++ (v5 cy ad c5_legs c5_length c5_ways c5_units c5_stuffOf c5_point))) (w3 cy ad c3_size c3_rates ++ (w0 cy ad c0_amounts c0_lows c0_highs c0_barred ++ (w1 cy ad c1_lines c1_parts ++ (w2 cy ad c2_above c2_below)))) rfl _ rfl (Nat.le_of_ble_eq_true rfl) dX7_copy_32 (w7 cy ad c7_lastFound c7_lastAsked c7_found c4_made c4_kinds c4_places c4_rates c4_readings c4_bearing c5_legs c5_length c5_ways c5_units c5_stuffOf c5_point c6_bytes c6_sizes c6_weights c3_size c3_rates c0_amounts c0_lows c0_highs c0_barred c1_lines c1_parts c2_above c2_below) rfl ?_
        refine r_if_ne (tgt := 44) hC dX7_copy_35 (by decide) (fun c17 => ?_) (fun c17 => ?_)
        · replace hf := o_neg hf c17
          refine r_aload_n hC dX7_copy_44 rfl 0 rfl ?_
          refine r_get hC hin7 0 rfl rfl 0 (by decide) rfl hw0 rfl dX7_copy_45 ?_
          refine r_iload_n hC dX7_copy_48 rfl 1 rfl ?_
          refine r_iload_n hC dX7_copy_49 rfl 2 rfl ?_
          refine r_iload hC dX7_copy_50 5 rfl ?_
          obtain ⟨r18, h19, hf⟩ := ob_some hf
          refine r_vi (st := []) hC (kX6_hasBytes l D cy ad c6_bytes c6_sizes c6_weights p1 p2 p5 h19) gX7_copy_X6_hasBytes rfl ⟨rfl, rfl⟩ ydX6_hasBytes ⟨Nat.le_of_ble_eq_true rfl, Nat.le_of_ble_eq_true rfl⟩ ⟨Nat.le_refl 0, Nat.le_refl 0⟩ 0 rfl rfl (v7 cy ad c7_lastFound c7_lastAsked c7_found ++ (v4 cy ad c4_made c4_kinds c4_places c4_rates c4_readings c4_bearing ++ (v5 cy ad c5_legs c5_length c5_ways c5_units c5_stuffOf c5_point))) (w3 cy ad c3_size c3_rates ++ (w0 cy ad c0_amounts c0_lows c0_highs c0_barred ++ (w1 cy ad c1_lines c1_parts ++ (w2 cy ad c2_above c2_below)))) rfl _ rfl (Nat.le_of_ble_eq_true rfl) dX7_copy_52 (w7 cy ad c7_lastFound c7_lastAsked c7_found c4_made c4_kinds c4_places c4_rates c4_readings c4_bearing c5_legs c5_length c5_ways c5_units c5_stuffOf c5_point c6_bytes c6_sizes c6_weights c3_size c3_rates c0_amounts c0_lows c0_highs c0_barred c1_lines c1_parts c2_above c2_below) rfl ?_
          obtain ⟨K73_20, eK73_20, hf⟩ := oj_some hf
          have J73_20 : K73_20 = some (ra, z7_lastFound, z7_found, z6_bytes) → GG X 6 0 0 (w7 cy ad c7_lastFound c7_lastAsked c7_found c4_made c4_kinds c4_places c4_rates c4_readings c4_bearing c5_legs c5_length c5_ways c5_units c5_stuffOf c5_point c6_bytes c6_sizes c6_weights c3_size c3_rates c0_amounts c0_lows c0_highs c0_barred c1_lines c1_parts c2_above c2_below) [(0, .ref (ad 70))] 73 [] := by
            intro hf
            replace hf := oa0 eK73_20 hf
            refine r_aload_n hC dX7_copy_73 rfl 0 rfl ?_
            refine r_iconst hC dX7_copy_74 ic_2 ?_
            obtain ⟨r21, s22, s23, h24, hf⟩ := ob3_some hf
            refine r_vi (st := []) hC (kX7_refuse l D cy ad c7_lastFound c7_lastAsked c7_found c4_made c4_kinds c4_places c4_rates c4_readings c4_bearing c5_legs c5_length c5_ways c5_units c5_stuffOf c5_point c6_bytes c6_sizes c6_weights c3_size c3_rates c0_amounts c0_lows c0_highs c0_barred c1_lines c1_parts c2_above c2_below 2 h24) gX7_copy_X7_refuse rfl ⟨rfl, rfl⟩ ydX7_refuse ⟨Nat.le_of_ble_eq_true rfl, Nat.le_of_ble_eq_true rfl⟩ ⟨Nat.le_refl 0, Nat.le_refl 0⟩ 0 rfl rfl [] [] rfl _ rfl (Nat.le_of_ble_eq_true rfl) dX7_copy_75 (w7 cy ad s22 c7_lastAsked s23 c4_made c4_kinds c4_places c4_rates c4_readings c4_bearing c5_legs c5_length c5_ways c5_units c5_stuffOf c5_point c6_bytes c6_sizes c6_weights c3_size c3_rates c0_amounts c0_lows c0_highs c0_barred c1_lines c1_parts c2_above c2_below) rfl ?_
            obtain ⟨rfl, rfl, rfl, rfl⟩ := so_4 hf
            exact hRet _ _ _ dX7_copy_78 rfl
          refine r_if_eq (tgt := 73) hC dX7_copy_55 (by decide) (fun c25 => ?_) (fun c25 => ?_)
          · replace hf := o_pos hf c25
            refine r_sub [(0, .ref (ad 70))] [0] rfl ?_
            exact J73_20 hf
          · replace hf := o_neg hf c25
            refine r_aload_n hC dX7_copy_58 rfl 0 rfl ?_
            refine r_get hC hin7 0 rfl rfl 0 (by decide) rfl hw0 rfl dX7_copy_59 ?_
            refine r_iload_n hC dX7_copy_62 rfl 3 rfl ?_
            refine r_iload hC dX7_copy_63 4 rfl ?_
            refine r_iload hC dX7_copy_65 5 rfl ?_
            obtain ⟨r26, h27, hf⟩ := ob_some hf
            refine r_vi (st := []) hC (kX6_hasBytes l D cy ad c6_bytes c6_sizes c6_weights p3 p4 p5 h27) gX7_copy_X6_hasBytes rfl ⟨rfl, rfl⟩ ydX6_hasBytes ⟨Nat.le_of_ble_eq_true rfl, Nat.le_of_ble_eq_true rfl⟩ ⟨Nat.le_refl 0, Nat.le_refl 0⟩ 0 rfl rfl (v7 cy ad c7_lastFound c7_lastAsked c7_found ++ (v4 cy ad c4_made c4_kinds c4_places c4_rates c4_readings c4_bearing ++ (v5 cy ad c5_legs c5_length c5_ways c5_units c5_stuffOf c5_point))) (w3 cy ad c3_size c3_rates ++ (w0 cy ad c0_amounts c0_lows c0_highs c0_barred ++ (w1 cy ad c1_lines c1_parts ++ (w2 cy ad c2_above c2_below)))) rfl _ rfl (Nat.le_of_ble_eq_true rfl) dX7_copy_67 (w7 cy ad c7_lastFound c7_lastAsked c7_found c4_made c4_kinds c4_places c4_rates c4_readings c4_bearing c5_legs c5_length c5_ways c5_units c5_stuffOf c5_point c6_bytes c6_sizes c6_weights c3_size c3_rates c0_amounts c0_lows c0_highs c0_barred c1_lines c1_parts c2_above c2_below) rfl ?_
            refine r_if_ne (tgt := 79) hC dX7_copy_70 (by decide) (fun c28 => ?_) (fun c28 => ?_)
            · replace hf := o_neg hf c28
              refine r_aload_n hC dX7_copy_79 rfl 0 rfl ?_
              refine r_get hC hin7 0 rfl rfl 0 (by decide) rfl hw0 rfl dX7_copy_80 ?_
              refine r_iload_n hC dX7_copy_83 rfl 1 rfl ?_
              refine r_iload_n hC dX7_copy_84 rfl 2 rfl ?_
              refine r_iload_n hC dX7_copy_85 rfl 3 rfl ?_
              refine r_iload hC dX7_copy_86 4 rfl ?_
              refine r_iload hC dX7_copy_88 5 rfl ?_
              obtain ⟨s29, h30, hf⟩ := ob_some hf
              refine r_vv (st := []) hC (kX6_transfer l D cy ad c6_bytes c6_sizes c6_weights p1 p2 p3 p4 p5 h30) gX7_copy_X6_transfer rfl ⟨rfl, rfl⟩ ydX6_transfer ⟨Nat.le_of_ble_eq_true rfl, Nat.le_of_ble_eq_true rfl⟩ ⟨Nat.le_refl 0, Nat.le_refl 0⟩ 0 rfl rfl (v7 cy ad c7_lastFound c7_lastAsked c7_found ++ (v4 cy ad c4_made c4_kinds c4_places c4_rates c4_readings c4_bearing ++ (v5 cy ad c5_legs c5_length c5_ways c5_units c5_stuffOf c5_point))) (w3 cy ad c3_size c3_rates ++ (w0 cy ad c0_amounts c0_lows c0_highs c0_barred ++ (w1 cy ad c1_lines c1_parts ++ (w2 cy ad c2_above c2_below)))) rfl _ rfl (Nat.le_of_ble_eq_true rfl) dX7_copy_90 (w7 cy ad c7_lastFound c7_lastAsked c7_found c4_made c4_kinds c4_places c4_rates c4_readings c4_bearing c5_legs c5_length c5_ways c5_units c5_stuffOf c5_point s29 c6_sizes c6_weights c3_size c3_rates c0_amounts c0_lows c0_highs c0_barred c1_lines c1_parts c2_above c2_below) rfl ?_
              refine r_iconst hC dX7_copy_93 ic_1 ?_
              obtain ⟨rfl, rfl, rfl, rfl⟩ := so_4 hf
              exact hRet _ _ _ dX7_copy_94 rfl
            · replace hf := o_pos hf c28
              refine r_sub [(0, .ref (ad 70))] [0] rfl ?_
              exact J73_20 hf
        · replace hf := o_pos hf c17
          refine r_sub [(0, .ref (ad 70))] [0] rfl ?_
          exact J38_9 hf
    · replace hf := o_pos hf c6
      refine r_iconst hC dX7_copy_14 ic_m1 ?_
      obtain ⟨rfl, rfl, rfl, rfl⟩ := so_4 hf
      exact hRet _ _ _ dX7_copy_15 rfl
noncomputable def fX7_weigh (c6_weights : Nat → Int32) (p1 : Int32) (p2 : Int32) : Option (Int32 × (Nat → Int32)) := ob (fX7_isStuff p1) (fun (r1 : Int32) => (if r1 = 0 then some ((-1), c6_weights) else ob (fX7_isWithin p2 1 50) (fun (r4 : Int32) => (if r4 = 0 then some ((-1), c6_weights) else ob2 (fX6_reweigh c6_weights p1 p2) (fun (r7 : Int32) (s8 : Nat → Int32) => some (r7, s8))))))
theorem ydX7_weigh : yX7_weigh.cls = RX7 ∧ yX7_weigh.cls ≠ "java/lang/invoke/MethodHandle" ∧ yX7_weigh.cls ≠ "java/lang/invoke/VarHandle" ∧ (parseMethodDescriptor yX7_weigh.desc).map (fun d => d.parameters.length) = some 2 := by decide +kernel
set_option maxHeartbeats 8000000 in
set_option maxRecDepth 100000 in
theorem kX7_weigh (l : Launch) (D : va_G) (cy : Nat → ClassId) (ad : Nat → Nat) (c7_lastFound : Int32) (c7_lastAsked : Int32) (c7_found : Nat → Int32) (c4_made : Int32) (c4_kinds : Nat → Int32) (c4_places : Nat → Int32) (c4_rates : Nat → Int32) (c4_readings : Nat → Int32) (c4_bearing : Nat → Int32) (c5_legs : Int32) (c5_length : Int32) (c5_ways : Nat → Int32) (c5_units : Nat → Int32) (c5_stuffOf : Nat → Int32) (c5_point : Nat → Int32) (c6_bytes : Nat → Int32) (c6_sizes : Nat → Int32) (c6_weights : Nat → Int32) (c3_size : Int32) (c3_rates : Nat → Int32) (c0_amounts : Nat → Int32) (c0_lows : Nat → Int32) (c0_highs : Nat → Int32) (c0_barred : Nat → Int32) (c1_lines : Int32) (c1_parts : Int64) (c2_above : Int64) (c2_below : Int64) (p1 : Int32) (p2 : Int32) {ra : Int32} {z6_weights : Nat → Int32} (hf : fX7_weigh c6_weights p1 p2 = some (ra, z6_weights)) : CI l D cy yX7_weigh wsX7_weigh ({ frames := 2, cells := 0, slots := 0, locals := 42 } : Room) [.ref (ad 70), .int p1, .int p2] (w7 cy ad c7_lastFound c7_lastAsked c7_found c4_made c4_kinds c4_places c4_rates c4_readings c4_bearing c5_legs c5_length c5_ways c5_units c5_stuffOf c5_point c6_bytes c6_sizes c6_weights c3_size c3_rates c0_amounts c0_lows c0_highs c0_barred c1_lines c1_parts c2_above c2_below) ra (w7 cy ad c7_lastFound c7_lastAsked c7_found c4_made c4_kinds c4_places c4_rates c4_readings c4_bearing c5_legs c5_length c5_ways c5_units c5_stuffOf c5_point c6_bytes c6_sizes z6_weights c3_size c3_rates c0_amounts c0_lows c0_highs c0_barred c1_lines c1_parts c2_above c2_below) := by
  unfold fX7_weigh at hf
  refine c_of_i (ty := .int) (own := RX7) (by decide) rfl rfl (Nat.le_of_ble_eq_true rfl) (fun X hC hRet => ?_)
  refine r_sub [(0, .ref (ad 70)), (1, .int p1), (2, .int p2)] [0, 1, 2] rfl ?_
  have hin7 : ∀ w ∈ wsX70, w ∈ wsX7_weigh := fun w h => List.mem_cons_of_mem _ (List.mem_append_left _ (List.mem_append_right _ h))
  have hw0 : Cond.fieldLink RX7 10 "HotPipes" "stuffs" "LHotPipes$Stuffs;" ∈ wsX7_weigh := List.mem_of_getElem? (i := 1) rfl
  refine r_iload_n hC dX7_weigh_0 rfl 1 rfl ?_
  obtain ⟨r1, h2, hf⟩ := ob_some hf
  refine r_si (st := []) hC (kX7_isStuff l D cy p1 h2) gX7_weigh_X7_isStuff rfl ⟨rfl, rfl⟩ ydX7_isStuff ⟨Nat.le_of_ble_eq_true rfl, Nat.le_of_ble_eq_true rfl⟩ ⟨Nat.le_refl 0, Nat.le_refl 0⟩ _ rfl (Nat.le_of_ble_eq_true rfl) dX7_weigh_1 ?_
  refine r_if_eq (tgt := 17) hC dX7_weigh_4 (by decide) (fun c3 => ?_) (fun c3 => ?_)
  · replace hf := o_pos hf c3
    refine r_iconst hC dX7_weigh_17 ic_m1 ?_
    obtain ⟨rfl, rfl⟩ := so_2 hf
    exact hRet _ _ _ dX7_weigh_18 rfl
  · replace hf := o_neg hf c3
    refine r_iload_n hC dX7_weigh_7 rfl 2 rfl ?_
    refine r_iconst hC dX7_weigh_8 ic_1 ?_
    refine r_bipush hC dX7_weigh_9 bp_50 ?_
    obtain ⟨r4, h5, hf⟩ := ob_some hf
    refine r_si (st := []) hC (kX7_isWithin l D cy p2 1 50 h5) gX7_weigh_X7_isWithin rfl ⟨rfl, rfl⟩ ydX7_isWithin ⟨Nat.le_of_ble_eq_true rfl, Nat.le_of_ble_eq_true rfl⟩ ⟨Nat.le_refl 0, Nat.le_refl 0⟩ _ rfl (Nat.le_of_ble_eq_true rfl) dX7_weigh_11 ?_
    refine r_if_ne (tgt := 19) hC dX7_weigh_14 (by decide) (fun c6 => ?_) (fun c6 => ?_)
    · replace hf := o_neg hf c6
      refine r_aload_n hC dX7_weigh_19 rfl 0 rfl ?_
      refine r_get hC hin7 0 rfl rfl 0 (by decide) rfl hw0 rfl dX7_weigh_20 ?_
      refine r_iload_n hC dX7_weigh_23 rfl 1 rfl ?_
      refine r_iload_n hC dX7_weigh_24 rfl 2 rfl ?_
      obtain ⟨r7, s8, h9, hf⟩ := ob2_some hf
      refine r_vi (st := []) hC (kX6_reweigh l D cy ad c6_bytes c6_sizes c6_weights p1 p2 h9) gX7_weigh_X6_reweigh rfl ⟨rfl, rfl⟩ ydX6_reweigh ⟨Nat.le_of_ble_eq_true rfl, Nat.le_of_ble_eq_true rfl⟩ ⟨Nat.le_refl 0, Nat.le_refl 0⟩ 0 rfl rfl (v7 cy ad c7_lastFound c7_lastAsked c7_found ++ (v4 cy ad c4_made c4_kinds c4_places c4_rates c4_readings c4_bearing ++ (v5 cy ad c5_legs c5_length c5_ways c5_units c5_stuffOf c5_point))) (w3 cy ad c3_size c3_rates ++ (w0 cy ad c0_amounts c0_lows c0_highs c0_barred ++ (w1 cy ad c1_lines c1_parts ++ (w2 cy ad c2_above c2_below)))) rfl _ rfl (Nat.le_of_ble_eq_true rfl) dX7_weigh_25 (w7 cy ad c7_lastFound c7_lastAsked c7_found c4_made c4_kinds c4_places c4_rates c4_readings c4_bearing c5_legs c5_length c5_ways c5_units c5_stuffOf c5_point c6_bytes c6_sizes s8 c3_size c3_rates c0_amounts c0_lows c0_highs c0_barred c1_lines c1_parts c2_above c2_below) rfl ?_
      obtain ⟨rfl, rfl⟩ := so_2 hf
      exact hRet _ _ _ dX7_weigh_28 rfl
    · replace hf := o_pos hf c6
      refine r_iconst hC dX7_weigh_17 ic_m1 ?_
      obtain ⟨rfl, rfl⟩ := so_2 hf
      exact hRet _ _ _ dX7_weigh_18 rfl
noncomputable def fX7_mean (N : Nat) (c7_lastFound : Int32) (c7_found : Nat → Int32) (c6_bytes : Nat → Int32) (c6_sizes : Nat → Int32) (p1 : Int32) : Option (Int32 × Int32 × (Nat → Int32)) := ob3 (fX7_refusalOfStuff c7_lastFound c7_found c6_sizes p1) (fun (r1 : Int32) (s2 : Int32) (s3 : Nat → Int32) => (if r1 = 0 then ob (fX6_sizeOf c6_sizes p1) (fun (r6 : Int32) => (if 0 < r6 then ob (fX6_sumOf N c6_bytes c6_sizes p1) (fun (r9 : Int32) => og (¬ r6 = 0) (some ((r9 / r6), s2, s3))) else ob3 (fX7_refuse s2 s3 4) (fun (r12 : Int32) (s13 : Int32) (s14 : Nat → Int32) => some (r12, s13, s14)))) else some (r1, s2, s3)))
theorem ydX7_mean : yX7_mean.cls = RX7 ∧ yX7_mean.cls ≠ "java/lang/invoke/MethodHandle" ∧ yX7_mean.cls ≠ "java/lang/invoke/VarHandle" ∧ (parseMethodDescriptor yX7_mean.desc).map (fun d => d.parameters.length) = some 1 := by decide +kernel
set_option maxHeartbeats 8000000 in
set_option maxRecDepth 100000 in
theorem kX7_mean (l : Launch) (D : va_G) (cy : Nat → ClassId) (ad : Nat → Nat) (c7_lastFound : Int32) (c7_lastAsked : Int32) (c7_found : Nat → Int32) (c4_made : Int32) (c4_kinds : Nat → Int32) (c4_places : Nat → Int32) (c4_rates : Nat → Int32) (c4_readings : Nat → Int32) (c4_bearing : Nat → Int32) (c5_legs : Int32) (c5_length : Int32) (c5_ways : Nat → Int32) (c5_units : Nat → Int32) (c5_stuffOf : Nat → Int32) (c5_point : Nat → Int32) (c6_bytes : Nat → Int32) (c6_sizes : Nat → Int32) (c6_weights : Nat → Int32) (c3_size : Int32) (c3_rates : Nat → Int32) (c0_amounts : Nat → Int32) (c0_lows : Nat → Int32) (c0_highs : Nat → Int32) (c0_barred : Nat → Int32) (c1_lines : Int32) (c1_parts : Int64) (c2_above : Int64) (c2_below : Int64) (p1 : Int32) (N : Nat) {ra : Int32} {z7_lastFound : Int32} {z7_found : Nat → Int32} (hf : fX7_mean N c7_lastFound c7_found c6_bytes c6_sizes p1 = some (ra, z7_lastFound, z7_found)) : CI l D cy yX7_mean wsX7_mean ({ frames := 3, cells := 0, slots := 0, locals := 64 } : Room) [.ref (ad 70), .int p1] (w7 cy ad c7_lastFound c7_lastAsked c7_found c4_made c4_kinds c4_places c4_rates c4_readings c4_bearing c5_legs c5_length c5_ways c5_units c5_stuffOf c5_point c6_bytes c6_sizes c6_weights c3_size c3_rates c0_amounts c0_lows c0_highs c0_barred c1_lines c1_parts c2_above c2_below) ra (w7 cy ad z7_lastFound c7_lastAsked z7_found c4_made c4_kinds c4_places c4_rates c4_readings c4_bearing c5_legs c5_length c5_ways c5_units c5_stuffOf c5_point c6_bytes c6_sizes c6_weights c3_size c3_rates c0_amounts c0_lows c0_highs c0_barred c1_lines c1_parts c2_above c2_below) := by
  unfold fX7_mean at hf
  refine c_of_i (ty := .int) (own := RX7) (by decide) rfl rfl (Nat.le_of_ble_eq_true rfl) (fun X hC hRet => ?_)
  refine r_sub [(0, .ref (ad 70)), (1, .int p1)] [0, 1] rfl ?_
  have hin7 : ∀ w ∈ wsX70, w ∈ wsX7_mean := fun w h => List.mem_cons_of_mem _ (List.mem_append_left _ (List.mem_append_right _ h))
  have hw0 : Cond.fieldLink RX7 10 "HotPipes" "stuffs" "LHotPipes$Stuffs;" ∈ wsX7_mean := List.mem_of_getElem? (i := 1) rfl
  refine r_aload_n hC dX7_mean_0 rfl 0 rfl ?_
  refine r_iload_n hC dX7_mean_1 rfl 1 rfl ?_
  obtain ⟨r1, s2, s3, h4, hf⟩ := ob3_some hf
  refine r_vi (st := []) hC (kX7_refusalOfStuff l D cy ad c7_lastFound c7_lastAsked c7_found c4_made c4_kinds c4_places c4_rates c4_readings c4_bearing c5_legs c5_length c5_ways c5_units c5_stuffOf c5_point c6_bytes c6_sizes c6_weights c3_size c3_rates c0_amounts c0_lows c0_highs c0_barred c1_lines c1_parts c2_above c2_below p1 h4) gX7_mean_X7_refusalOfStuff rfl ⟨rfl, rfl⟩ ydX7_refusalOfStuff ⟨Nat.le_of_ble_eq_true rfl, Nat.le_of_ble_eq_true rfl⟩ ⟨Nat.le_refl 0, Nat.le_refl 0⟩ 0 rfl rfl [] [] rfl _ rfl (Nat.le_of_ble_eq_true rfl) dX7_mean_2 (w7 cy ad s2 c7_lastAsked s3 c4_made c4_kinds c4_places c4_rates c4_readings c4_bearing c5_legs c5_length c5_ways c5_units c5_stuffOf c5_point c6_bytes c6_sizes c6_weights c3_size c3_rates c0_amounts c0_lows c0_highs c0_barred c1_lines c1_parts c2_above c2_below) rfl ?_
  refine r_istore_n hC [(2, .int r1), (0, .ref (ad 70)), (1, .int p1)] dX7_mean_5 rfl (by decide) rfl ?_
  refine r_iload_n hC dX7_mean_6 rfl 0 rfl ?_
  refine r_if_eq (tgt := 12) hC dX7_mean_7 (by decide) (fun c5 => ?_) (fun c5 => ?_)
  · replace hf := o_pos hf c5
    refine r_aload_n hC dX7_mean_12 rfl 1 rfl ?_
    refine r_get hC hin7 0 rfl rfl 0 (by decide) rfl hw0 rfl dX7_mean_13 ?_
    refine r_iload_n hC dX7_mean_16 rfl 2 rfl ?_
    obtain ⟨r6, h7, hf⟩ := ob_some hf
    refine r_vi (st := []) hC (kX6_sizeOf l D cy ad c6_bytes c6_sizes c6_weights p1 h7) gX7_mean_X6_sizeOf rfl ⟨rfl, rfl⟩ ydX6_sizeOf ⟨Nat.le_of_ble_eq_true rfl, Nat.le_of_ble_eq_true rfl⟩ ⟨Nat.le_refl 0, Nat.le_refl 0⟩ 0 rfl rfl (v7 cy ad s2 c7_lastAsked s3 ++ (v4 cy ad c4_made c4_kinds c4_places c4_rates c4_readings c4_bearing ++ (v5 cy ad c5_legs c5_length c5_ways c5_units c5_stuffOf c5_point))) (w3 cy ad c3_size c3_rates ++ (w0 cy ad c0_amounts c0_lows c0_highs c0_barred ++ (w1 cy ad c1_lines c1_parts ++ (w2 cy ad c2_above c2_below)))) rfl _ rfl (Nat.le_of_ble_eq_true rfl) dX7_mean_17 (w7 cy ad s2 c7_lastAsked s3 c4_made c4_kinds c4_places c4_rates c4_readings c4_bearing c5_legs c5_length c5_ways c5_units c5_stuffOf c5_point c6_bytes c6_sizes c6_weights c3_size c3_rates c0_amounts c0_lows c0_highs c0_barred c1_lines c1_parts c2_above c2_below) rfl ?_
    refine r_istore_n hC [(3, .int r6), (2, .int r1), (0, .ref (ad 70)), (1, .int p1)] dX7_mean_20 rfl (by decide) rfl ?_
    refine r_iload_n hC dX7_mean_21 rfl 0 rfl ?_
    refine r_if_gt (tgt := 31) hC dX7_mean_22 (by decide) (fun c8 => ?_) (fun c8 => ?_)
    · replace hf := o_pos hf c8
      refine r_aload_n hC dX7_mean_31 rfl 2 rfl ?_
      refine r_get hC hin7 0 rfl rfl 0 (by decide) rfl hw0 rfl dX7_mean_32 ?_
      refine r_iload_n hC dX7_mean_35 rfl 3 rfl ?_
      obtain ⟨r9, h10, hf⟩ := ob_some hf
      refine r_vi (st := []) hC (kX6_sumOf l D cy ad c6_bytes c6_sizes c6_weights p1 N h10) gX7_mean_X6_sumOf rfl ⟨rfl, rfl⟩ ydX6_sumOf ⟨Nat.le_of_ble_eq_true rfl, Nat.le_of_ble_eq_true rfl⟩ ⟨Nat.le_refl 0, Nat.le_refl 0⟩ 0 rfl rfl (v7 cy ad s2 c7_lastAsked s3 ++ (v4 cy ad c4_made c4_kinds c4_places c4_rates c4_readings c4_bearing ++ (v5 cy ad c5_legs c5_length c5_ways c5_units c5_stuffOf c5_point))) (w3 cy ad c3_size c3_rates ++ (w0 cy ad c0_amounts c0_lows c0_highs c0_barred ++ (w1 cy ad c1_lines c1_parts ++ (w2 cy ad c2_above c2_below)))) rfl _ rfl (Nat.le_of_ble_eq_true rfl) dX7_mean_36 (w7 cy ad s2 c7_lastAsked s3 c4_made c4_kinds c4_places c4_rates c4_readings c4_bearing c5_legs c5_length c5_ways c5_units c5_stuffOf c5_point c6_bytes c6_sizes c6_weights c3_size c3_rates c0_amounts c0_lows c0_highs c0_barred c1_lines c1_parts c2_above c2_below) rfl ?_
      refine r_iload_n hC dX7_mean_39 rfl 0 rfl ?_
      obtain ⟨g11, hf⟩ := og_some hf
      refine r_idiv hC dX7_mean_40 g11 ?_
      obtain ⟨rfl, rfl, rfl⟩ := so_3 hf
      exact hRet _ _ _ dX7_mean_41 rfl
    · replace hf := o_neg hf c8
      refine r_aload_n hC dX7_mean_25 rfl 2 rfl ?_
      refine r_iconst hC dX7_mean_26 ic_4 ?_
      obtain ⟨r12, s13, s14, h15, hf⟩ := ob3_some hf
      refine r_vi (st := []) hC (kX7_refuse l D cy ad s2 c7_lastAsked s3 c4_made c4_kinds c4_places c4_rates c4_readings c4_bearing c5_legs c5_length c5_ways c5_units c5_stuffOf c5_point c6_bytes c6_sizes c6_weights c3_size c3_rates c0_amounts c0_lows c0_highs c0_barred c1_lines c1_parts c2_above c2_below 4 h15) gX7_mean_X7_refuse rfl ⟨rfl, rfl⟩ ydX7_refuse ⟨Nat.le_of_ble_eq_true rfl, Nat.le_of_ble_eq_true rfl⟩ ⟨Nat.le_refl 0, Nat.le_refl 0⟩ 0 rfl rfl [] [] rfl _ rfl (Nat.le_of_ble_eq_true rfl) dX7_mean_27 (w7 cy ad s13 c7_lastAsked s14 c4_made c4_kinds c4_places c4_rates c4_readings c4_bearing c5_legs c5_length c5_ways c5_units c5_stuffOf c5_point c6_bytes c6_sizes c6_weights c3_size c3_rates c0_amounts c0_lows c0_highs c0_barred c1_lines c1_parts c2_above c2_below) rfl ?_
      obtain ⟨rfl, rfl, rfl⟩ := so_3 hf
      exact hRet _ _ _ dX7_mean_30 rfl
  · replace hf := o_neg hf c5
    refine r_iload_n hC dX7_mean_10 rfl 0 rfl ?_
    obtain ⟨rfl, rfl, rfl⟩ := so_3 hf
    exact hRet _ _ _ dX7_mean_11 rfl
noncomputable def fX7_isWay (p1 : Int32) : Option (Int32) := ob (fX7_isWithin p1 0 5) (fun (r1 : Int32) => og (r1 = 0 ∨ r1 = 1) (some r1))
theorem ydX7_isWay : yX7_isWay.cls ≠ "java/lang/invoke/MethodHandle" ∧ yX7_isWay.cls ≠ "java/lang/invoke/VarHandle" ∧ (parseMethodDescriptor yX7_isWay.desc).map (fun d => d.parameters.length) = some 1 := by decide +kernel
set_option maxHeartbeats 8000000 in
set_option maxRecDepth 100000 in
theorem kX7_isWay (l : Launch) (D : va_G) (cy : Nat → ClassId) (p1 : Int32) {ra : Int32} (hf : fX7_isWay p1 = some ra) : CI l D cy yX7_isWay wsX7_isWay ({ frames := 1, cells := 0, slots := 0, locals := 22 } : Room) [.int p1] [] ra [] := by
  unfold fX7_isWay at hf
  refine c_of_i (ty := .boolean) (own := RX7) (by decide) rfl rfl (Nat.le_of_ble_eq_true rfl) (fun X hC hRet => ?_)
  refine r_sub [(0, .int p1)] [0] rfl ?_
  refine r_iload_n hC dX7_isWay_0 rfl 0 rfl ?_
  refine r_iconst hC dX7_isWay_1 ic_0 ?_
  refine r_iconst hC dX7_isWay_2 ic_5 ?_
  obtain ⟨r1, h2, hf⟩ := ob_some hf
  refine r_si (st := []) hC (kX7_isWithin l D cy p1 0 5 h2) gX7_isWay_X7_isWithin rfl ⟨rfl, rfl⟩ ydX7_isWithin ⟨Nat.le_of_ble_eq_true rfl, Nat.le_of_ble_eq_true rfl⟩ ⟨Nat.le_refl 0, Nat.le_refl 0⟩ _ rfl (Nat.le_of_ble_eq_true rfl) dX7_isWay_3 ?_
  obtain ⟨g3, hf⟩ := og_some hf
  obtain rfl := so_1 hf
  exact hRet _ _ _ dX7_isWay_6 (nb_of g3)
noncomputable def fX7_leg (c5_legs : Int32) (c5_length : Int32) (c5_ways : Nat → Int32) (c5_units : Nat → Int32) (c5_stuffOf : Nat → Int32) (p1 : Int32) (p2 : Int32) (p3 : Int32) : Option (Int32 × Int32 × Int32 × (Nat → Int32) × (Nat → Int32) × (Nat → Int32)) := ob (fX7_isWay p1) (fun (r1 : Int32) => (if r1 = 0 then some ((-1), c5_legs, c5_length, c5_ways, c5_units, c5_stuffOf) else ob (fX7_isWithin p2 1 20) (fun (r4 : Int32) => (if r4 = 0 then some ((-1), c5_legs, c5_length, c5_ways, c5_units, c5_stuffOf) else ob (fX7_isStuff p3) (fun (r7 : Int32) => (if r7 = 0 then some ((-1), c5_legs, c5_length, c5_ways, c5_units, c5_stuffOf) else ob (fX5_legs c5_legs) (fun (r10 : Int32) => (if r10 < 12 then ob5 (fX5_append c5_legs c5_length c5_ways c5_units c5_stuffOf p1 p2 p3) (fun (s13 : Int32) (s14 : Int32) (s15 : Nat → Int32) (s16 : Nat → Int32) (s17 : Nat → Int32) => ob (fX5_legs s13) (fun (r19 : Int32) => some (r19, s13, s14, s15, s16, s17))) else some ((-2), c5_legs, c5_length, c5_ways, c5_units, c5_stuffOf)))))))))
theorem ydX7_leg : yX7_leg.cls = RX7 ∧ yX7_leg.cls ≠ "java/lang/invoke/MethodHandle" ∧ yX7_leg.cls ≠ "java/lang/invoke/VarHandle" ∧ (parseMethodDescriptor yX7_leg.desc).map (fun d => d.parameters.length) = some 3 := by decide +kernel
set_option maxHeartbeats 8000000 in
set_option maxRecDepth 100000 in
theorem kX7_leg (l : Launch) (D : va_G) (cy : Nat → ClassId) (ad : Nat → Nat) (c7_lastFound : Int32) (c7_lastAsked : Int32) (c7_found : Nat → Int32) (c4_made : Int32) (c4_kinds : Nat → Int32) (c4_places : Nat → Int32) (c4_rates : Nat → Int32) (c4_readings : Nat → Int32) (c4_bearing : Nat → Int32) (c5_legs : Int32) (c5_length : Int32) (c5_ways : Nat → Int32) (c5_units : Nat → Int32) (c5_stuffOf : Nat → Int32) (c5_point : Nat → Int32) (c6_bytes : Nat → Int32) (c6_sizes : Nat → Int32) (c6_weights : Nat → Int32) (c3_size : Int32) (c3_rates : Nat → Int32) (c0_amounts : Nat → Int32) (c0_lows : Nat → Int32) (c0_highs : Nat → Int32) (c0_barred : Nat → Int32) (c1_lines : Int32) (c1_parts : Int64) (c2_above : Int64) (c2_below : Int64) (p1 : Int32) (p2 : Int32) (p3 : Int32) {ra : Int32} {z5_legs : Int32} {z5_length : Int32} {z5_ways : Nat → Int32} {z5_units : Nat → Int32} {z5_stuffOf : Nat → Int32} (hf : fX7_leg c5_legs c5_length c5_ways c5_units c5_stuffOf p1 p2 p3 = some (ra, z5_legs, z5_length, z5_ways, z5_units, z5_stuffOf)) : CI l D cy yX7_leg wsX7_leg ({ frames := 2, cells := 0, slots := 0, locals := 42 } : Room) [.ref (ad 70), .int p1, .int p2, .int p3] (w7 cy ad c7_lastFound c7_lastAsked c7_found c4_made c4_kinds c4_places c4_rates c4_readings c4_bearing c5_legs c5_length c5_ways c5_units c5_stuffOf c5_point c6_bytes c6_sizes c6_weights c3_size c3_rates c0_amounts c0_lows c0_highs c0_barred c1_lines c1_parts c2_above c2_below) ra (w7 cy ad c7_lastFound c7_lastAsked c7_found c4_made c4_kinds c4_places c4_rates c4_readings c4_bearing z5_legs z5_length z5_ways z5_units z5_stuffOf c5_point c6_bytes c6_sizes c6_weights c3_size c3_rates c0_amounts c0_lows c0_highs c0_barred c1_lines c1_parts c2_above c2_below) := by
  unfold fX7_leg at hf
  refine c_of_i (ty := .int) (own := RX7) (by decide) rfl rfl (Nat.le_of_ble_eq_true rfl) (fun X hC hRet => ?_)
  refine r_sub [(0, .ref (ad 70)), (1, .int p1), (2, .int p2), (3, .int p3)] [0, 1, 2, 3] rfl ?_
  have hin7 : ∀ w ∈ wsX70, w ∈ wsX7_leg := fun w h => List.mem_cons_of_mem _ (List.mem_append_left _ (List.mem_append_right _ h))
  have hw0 : Cond.fieldLink RX7 21 "HotPipes" "run" "LHotPipes$Run;" ∈ wsX7_leg := List.mem_of_getElem? (i := 1) rfl
  refine r_iload_n hC dX7_leg_0 rfl 1 rfl ?_
  obtain ⟨r1, h2, hf⟩ := ob_some hf
  refine r_si (st := []) hC (kX7_isWay l D cy p1 h2) gX7_leg_X7_isWay rfl ⟨rfl, rfl⟩ ydX7_isWay ⟨Nat.le_of_ble_eq_true rfl, Nat.le_of_ble_eq_true rfl⟩ ⟨Nat.le_refl 0, Nat.le_refl 0⟩ _ rfl (Nat.le_of_ble_eq_true rfl) dX7_leg_1 ?_
  refine r_if_eq (tgt := 24) hC dX7_leg_4 (by decide) (fun c3 => ?_) (fun c3 => ?_)
  · replace hf := o_pos hf c3
    refine r_iconst hC dX7_leg_24 ic_m1 ?_
    obtain ⟨rfl, rfl, rfl, rfl, rfl, rfl⟩ := so_6 hf
    exact hRet _ _ _ dX7_leg_25 rfl
  · replace hf := o_neg hf c3
    refine r_iload_n hC dX7_leg_7 rfl 2 rfl ?_
    refine r_iconst hC dX7_leg_8 ic_1 ?_
    refine r_bipush hC dX7_leg_9 bp_20 ?_
    obtain ⟨r4, h5, hf⟩ := ob_some hf
    refine r_si (st := []) hC (kX7_isWithin l D cy p2 1 20 h5) gX7_leg_X7_isWithin rfl ⟨rfl, rfl⟩ ydX7_isWithin ⟨Nat.le_of_ble_eq_true rfl, Nat.le_of_ble_eq_true rfl⟩ ⟨Nat.le_refl 0, Nat.le_refl 0⟩ _ rfl (Nat.le_of_ble_eq_true rfl) dX7_leg_11 ?_
    refine r_if_eq (tgt := 24) hC dX7_leg_14 (by decide) (fun c6 => ?_) (fun c6 => ?_)
    · replace hf := o_pos hf c6
      refine r_iconst hC dX7_leg_24 ic_m1 ?_
      obtain ⟨rfl, rfl, rfl, rfl, rfl, rfl⟩ := so_6 hf
      exact hRet _ _ _ dX7_leg_25 rfl
    · replace hf := o_neg hf c6
      refine r_iload_n hC dX7_leg_17 rfl 3 rfl ?_
      obtain ⟨r7, h8, hf⟩ := ob_some hf
      refine r_si (st := []) hC (kX7_isStuff l D cy p3 h8) gX7_leg_X7_isStuff rfl ⟨rfl, rfl⟩ ydX7_isStuff ⟨Nat.le_of_ble_eq_true rfl, Nat.le_of_ble_eq_true rfl⟩ ⟨Nat.le_refl 0, Nat.le_refl 0⟩ _ rfl (Nat.le_of_ble_eq_true rfl) dX7_leg_18 ?_
      refine r_if_ne (tgt := 26) hC dX7_leg_21 (by decide) (fun c9 => ?_) (fun c9 => ?_)
      · replace hf := o_neg hf c9
        refine r_aload_n hC dX7_leg_26 rfl 0 rfl ?_
        refine r_get hC hin7 0 rfl rfl 1 (by decide) rfl hw0 rfl dX7_leg_27 ?_
        obtain ⟨r10, h11, hf⟩ := ob_some hf
        refine r_vi (st := []) hC (kX5_legs l D cy ad c5_legs c5_length c5_ways c5_units c5_stuffOf c5_point c6_bytes c6_sizes c6_weights  h11) gX7_leg_X5_legs rfl ⟨rfl, rfl⟩ ydX5_legs ⟨Nat.le_of_ble_eq_true rfl, Nat.le_of_ble_eq_true rfl⟩ ⟨Nat.le_refl 0, Nat.le_refl 0⟩ 0 rfl rfl (v7 cy ad c7_lastFound c7_lastAsked c7_found ++ (v4 cy ad c4_made c4_kinds c4_places c4_rates c4_readings c4_bearing)) (w3 cy ad c3_size c3_rates ++ (w0 cy ad c0_amounts c0_lows c0_highs c0_barred ++ (w1 cy ad c1_lines c1_parts ++ (w2 cy ad c2_above c2_below)))) rfl _ rfl (Nat.le_of_ble_eq_true rfl) dX7_leg_30 (w7 cy ad c7_lastFound c7_lastAsked c7_found c4_made c4_kinds c4_places c4_rates c4_readings c4_bearing c5_legs c5_length c5_ways c5_units c5_stuffOf c5_point c6_bytes c6_sizes c6_weights c3_size c3_rates c0_amounts c0_lows c0_highs c0_barred c1_lines c1_parts c2_above c2_below) rfl ?_
        refine r_bipush hC dX7_leg_33 bp_12 ?_
        refine r_icmp_lt (tgt := 41) hC dX7_leg_35 (by decide) (fun c12 => ?_) (fun c12 => ?_)
        · replace hf := o_pos hf c12
          refine r_aload_n hC dX7_leg_41 rfl 0 rfl ?_
          refine r_get hC hin7 0 rfl rfl 1 (by decide) rfl hw0 rfl dX7_leg_42 ?_
          refine r_iload_n hC dX7_leg_45 rfl 1 rfl ?_
          refine r_iload_n hC dX7_leg_46 rfl 2 rfl ?_
          refine r_iload_n hC dX7_leg_47 rfl 3 rfl ?_
          obtain ⟨s13, s14, s15, s16, s17, h18, hf⟩ := ob5_some hf
          refine r_vv (st := []) hC (kX5_append l D cy ad c5_legs c5_length c5_ways c5_units c5_stuffOf c5_point c6_bytes c6_sizes c6_weights p1 p2 p3 h18) gX7_leg_X5_append rfl ⟨rfl, rfl⟩ ydX5_append ⟨Nat.le_of_ble_eq_true rfl, Nat.le_of_ble_eq_true rfl⟩ ⟨Nat.le_refl 0, Nat.le_refl 0⟩ 0 rfl rfl (v7 cy ad c7_lastFound c7_lastAsked c7_found ++ (v4 cy ad c4_made c4_kinds c4_places c4_rates c4_readings c4_bearing)) (w3 cy ad c3_size c3_rates ++ (w0 cy ad c0_amounts c0_lows c0_highs c0_barred ++ (w1 cy ad c1_lines c1_parts ++ (w2 cy ad c2_above c2_below)))) rfl _ rfl (Nat.le_of_ble_eq_true rfl) dX7_leg_48 (w7 cy ad c7_lastFound c7_lastAsked c7_found c4_made c4_kinds c4_places c4_rates c4_readings c4_bearing s13 s14 s15 s16 s17 c5_point c6_bytes c6_sizes c6_weights c3_size c3_rates c0_amounts c0_lows c0_highs c0_barred c1_lines c1_parts c2_above c2_below) rfl ?_
          refine r_aload_n hC dX7_leg_51 rfl 0 rfl ?_
          refine r_get hC hin7 0 rfl rfl 1 (by decide) rfl hw0 rfl dX7_leg_52 ?_
          obtain ⟨r19, h20, hf⟩ := ob_some hf
          refine r_vi (st := []) hC (kX5_legs l D cy ad s13 s14 s15 s16 s17 c5_point c6_bytes c6_sizes c6_weights  h20) gX7_leg_X5_legs rfl ⟨rfl, rfl⟩ ydX5_legs ⟨Nat.le_of_ble_eq_true rfl, Nat.le_of_ble_eq_true rfl⟩ ⟨Nat.le_refl 0, Nat.le_refl 0⟩ 0 rfl rfl (v7 cy ad c7_lastFound c7_lastAsked c7_found ++ (v4 cy ad c4_made c4_kinds c4_places c4_rates c4_readings c4_bearing)) (w3 cy ad c3_size c3_rates ++ (w0 cy ad c0_amounts c0_lows c0_highs c0_barred ++ (w1 cy ad c1_lines c1_parts ++ (w2 cy ad c2_above c2_below)))) rfl _ rfl (Nat.le_of_ble_eq_true rfl) dX7_leg_55 (w7 cy ad c7_lastFound c7_lastAsked c7_found c4_made c4_kinds c4_places c4_rates c4_readings c4_bearing s13 s14 s15 s16 s17 c5_point c6_bytes c6_sizes c6_weights c3_size c3_rates c0_amounts c0_lows c0_highs c0_barred c1_lines c1_parts c2_above c2_below) rfl ?_
          obtain ⟨rfl, rfl, rfl, rfl, rfl, rfl⟩ := so_6 hf
          exact hRet _ _ _ dX7_leg_58 rfl
        · replace hf := o_neg hf c12
          refine r_bipush hC dX7_leg_38 bp_m2 ?_
          obtain ⟨rfl, rfl, rfl, rfl, rfl, rfl⟩ := so_6 hf
          exact hRet _ _ _ dX7_leg_40 rfl
      · replace hf := o_pos hf c9
        refine r_iconst hC dX7_leg_24 ic_m1 ?_
        obtain ⟨rfl, rfl, rfl, rfl, rfl, rfl⟩ := so_6 hf
        exact hRet _ _ _ dX7_leg_25 rfl
noncomputable def fX7_cut (c5_legs : Int32) (c5_length : Int32) (c5_units : Nat → Int32) : Option (Int32 × Int32 × Int32) := ob (fX5_legs c5_legs) (fun (r1 : Int32) => (if r1 = 0 then some ((-4), c5_legs, c5_length) else ob2 (fX5_removeLast c5_legs c5_length c5_units) (fun (s4 : Int32) (s5 : Int32) => ob (fX5_legs s4) (fun (r7 : Int32) => some (r7, s4, s5)))))
theorem ydX7_cut : yX7_cut.cls = RX7 ∧ yX7_cut.cls ≠ "java/lang/invoke/MethodHandle" ∧ yX7_cut.cls ≠ "java/lang/invoke/VarHandle" ∧ (parseMethodDescriptor yX7_cut.desc).map (fun d => d.parameters.length) = some 0 := by decide +kernel
set_option maxHeartbeats 8000000 in
set_option maxRecDepth 100000 in
theorem kX7_cut (l : Launch) (D : va_G) (cy : Nat → ClassId) (ad : Nat → Nat) (c7_lastFound : Int32) (c7_lastAsked : Int32) (c7_found : Nat → Int32) (c4_made : Int32) (c4_kinds : Nat → Int32) (c4_places : Nat → Int32) (c4_rates : Nat → Int32) (c4_readings : Nat → Int32) (c4_bearing : Nat → Int32) (c5_legs : Int32) (c5_length : Int32) (c5_ways : Nat → Int32) (c5_units : Nat → Int32) (c5_stuffOf : Nat → Int32) (c5_point : Nat → Int32) (c6_bytes : Nat → Int32) (c6_sizes : Nat → Int32) (c6_weights : Nat → Int32) (c3_size : Int32) (c3_rates : Nat → Int32) (c0_amounts : Nat → Int32) (c0_lows : Nat → Int32) (c0_highs : Nat → Int32) (c0_barred : Nat → Int32) (c1_lines : Int32) (c1_parts : Int64) (c2_above : Int64) (c2_below : Int64) {ra : Int32} {z5_legs : Int32} {z5_length : Int32} (hf : fX7_cut c5_legs c5_length c5_units = some (ra, z5_legs, z5_length)) : CI l D cy yX7_cut wsX7_cut ({ frames := 1, cells := 0, slots := 0, locals := 20 } : Room) [.ref (ad 70)] (w7 cy ad c7_lastFound c7_lastAsked c7_found c4_made c4_kinds c4_places c4_rates c4_readings c4_bearing c5_legs c5_length c5_ways c5_units c5_stuffOf c5_point c6_bytes c6_sizes c6_weights c3_size c3_rates c0_amounts c0_lows c0_highs c0_barred c1_lines c1_parts c2_above c2_below) ra (w7 cy ad c7_lastFound c7_lastAsked c7_found c4_made c4_kinds c4_places c4_rates c4_readings c4_bearing z5_legs z5_length c5_ways c5_units c5_stuffOf c5_point c6_bytes c6_sizes c6_weights c3_size c3_rates c0_amounts c0_lows c0_highs c0_barred c1_lines c1_parts c2_above c2_below) := by
  unfold fX7_cut at hf
  refine c_of_i (ty := .int) (own := RX7) (by decide) rfl rfl (Nat.le_of_ble_eq_true rfl) (fun X hC hRet => ?_)
  refine r_sub [(0, .ref (ad 70))] [0] rfl ?_
  have hin7 : ∀ w ∈ wsX70, w ∈ wsX7_cut := fun w h => List.mem_cons_of_mem _ (List.mem_append_left _ (List.mem_append_right _ h))
  have hw0 : Cond.fieldLink RX7 21 "HotPipes" "run" "LHotPipes$Run;" ∈ wsX7_cut := List.mem_of_getElem? (i := 1) rfl
  refine r_aload_n hC dX7_cut_0 rfl 0 rfl ?_
  refine r_get hC hin7 0 rfl rfl 1 (by decide) rfl hw0 rfl dX7_cut_1 ?_
  obtain ⟨r1, h2, hf⟩ := ob_some hf
  refine r_vi (st := []) hC (kX5_legs l D cy ad c5_legs c5_length c5_ways c5_units c5_stuffOf c5_point c6_bytes c6_sizes c6_weights  h2) gX7_cut_X5_legs rfl ⟨rfl, rfl⟩ ydX5_legs ⟨Nat.le_of_ble_eq_true rfl, Nat.le_of_ble_eq_true rfl⟩ ⟨Nat.le_refl 0, Nat.le_refl 0⟩ 0 rfl rfl (v7 cy ad c7_lastFound c7_lastAsked c7_found ++ (v4 cy ad c4_made c4_kinds c4_places c4_rates c4_readings c4_bearing)) (w3 cy ad c3_size c3_rates ++ (w0 cy ad c0_amounts c0_lows c0_highs c0_barred ++ (w1 cy ad c1_lines c1_parts ++ (w2 cy ad c2_above c2_below)))) rfl _ rfl (Nat.le_of_ble_eq_true rfl) dX7_cut_4 (w7 cy ad c7_lastFound c7_lastAsked c7_found c4_made c4_kinds c4_places c4_rates c4_readings c4_bearing c5_legs c5_length c5_ways c5_units c5_stuffOf c5_point c6_bytes c6_sizes c6_weights c3_size c3_rates c0_amounts c0_lows c0_highs c0_barred c1_lines c1_parts c2_above c2_below) rfl ?_
  refine r_if_ne (tgt := 13) hC dX7_cut_7 (by decide) (fun c3 => ?_) (fun c3 => ?_)
  · replace hf := o_neg hf c3
    refine r_aload_n hC dX7_cut_13 rfl 0 rfl ?_
    refine r_get hC hin7 0 rfl rfl 1 (by decide) rfl hw0 rfl dX7_cut_14 ?_
    obtain ⟨s4, s5, h6, hf⟩ := ob2_some hf
    refine r_vv (st := []) hC (kX5_removeLast l D cy ad c5_legs c5_length c5_ways c5_units c5_stuffOf c5_point c6_bytes c6_sizes c6_weights  h6) gX7_cut_X5_removeLast rfl ⟨rfl, rfl⟩ ydX5_removeLast ⟨Nat.le_of_ble_eq_true rfl, Nat.le_of_ble_eq_true rfl⟩ ⟨Nat.le_refl 0, Nat.le_refl 0⟩ 0 rfl rfl (v7 cy ad c7_lastFound c7_lastAsked c7_found ++ (v4 cy ad c4_made c4_kinds c4_places c4_rates c4_readings c4_bearing)) (w3 cy ad c3_size c3_rates ++ (w0 cy ad c0_amounts c0_lows c0_highs c0_barred ++ (w1 cy ad c1_lines c1_parts ++ (w2 cy ad c2_above c2_below)))) rfl _ rfl (Nat.le_of_ble_eq_true rfl) dX7_cut_17 (w7 cy ad c7_lastFound c7_lastAsked c7_found c4_made c4_kinds c4_places c4_rates c4_readings c4_bearing s4 s5 c5_ways c5_units c5_stuffOf c5_point c6_bytes c6_sizes c6_weights c3_size c3_rates c0_amounts c0_lows c0_highs c0_barred c1_lines c1_parts c2_above c2_below) rfl ?_
    refine r_aload_n hC dX7_cut_20 rfl 0 rfl ?_
    refine r_get hC hin7 0 rfl rfl 1 (by decide) rfl hw0 rfl dX7_cut_21 ?_
    obtain ⟨r7, h8, hf⟩ := ob_some hf
    refine r_vi (st := []) hC (kX5_legs l D cy ad s4 s5 c5_ways c5_units c5_stuffOf c5_point c6_bytes c6_sizes c6_weights  h8) gX7_cut_X5_legs rfl ⟨rfl, rfl⟩ ydX5_legs ⟨Nat.le_of_ble_eq_true rfl, Nat.le_of_ble_eq_true rfl⟩ ⟨Nat.le_refl 0, Nat.le_refl 0⟩ 0 rfl rfl (v7 cy ad c7_lastFound c7_lastAsked c7_found ++ (v4 cy ad c4_made c4_kinds c4_places c4_rates c4_readings c4_bearing)) (w3 cy ad c3_size c3_rates ++ (w0 cy ad c0_amounts c0_lows c0_highs c0_barred ++ (w1 cy ad c1_lines c1_parts ++ (w2 cy ad c2_above c2_below)))) rfl _ rfl (Nat.le_of_ble_eq_true rfl) dX7_cut_24 (w7 cy ad c7_lastFound c7_lastAsked c7_found c4_made c4_kinds c4_places c4_rates c4_readings c4_bearing s4 s5 c5_ways c5_units c5_stuffOf c5_point c6_bytes c6_sizes c6_weights c3_size c3_rates c0_amounts c0_lows c0_highs c0_barred c1_lines c1_parts c2_above c2_below) rfl ?_
    obtain ⟨rfl, rfl, rfl⟩ := so_3 hf
    exact hRet _ _ _ dX7_cut_27 rfl
  · replace hf := o_pos hf c3
    refine r_bipush hC dX7_cut_10 bp_m4 ?_
    obtain ⟨rfl, rfl, rfl⟩ := so_3 hf
    exact hRet _ _ _ dX7_cut_12 rfl
noncomputable def fX7_isAxis (p1 : Int32) : Option (Int32) := ob (fX7_isWithin p1 0 2) (fun (r1 : Int32) => og (r1 = 0 ∨ r1 = 1) (some r1))
theorem ydX7_isAxis : yX7_isAxis.cls ≠ "java/lang/invoke/MethodHandle" ∧ yX7_isAxis.cls ≠ "java/lang/invoke/VarHandle" ∧ (parseMethodDescriptor yX7_isAxis.desc).map (fun d => d.parameters.length) = some 1 := by decide +kernel
set_option maxHeartbeats 8000000 in
set_option maxRecDepth 100000 in
theorem kX7_isAxis (l : Launch) (D : va_G) (cy : Nat → ClassId) (p1 : Int32) {ra : Int32} (hf : fX7_isAxis p1 = some ra) : CI l D cy yX7_isAxis wsX7_isAxis ({ frames := 1, cells := 0, slots := 0, locals := 22 } : Room) [.int p1] [] ra [] := by
  unfold fX7_isAxis at hf
  refine c_of_i (ty := .boolean) (own := RX7) (by decide) rfl rfl (Nat.le_of_ble_eq_true rfl) (fun X hC hRet => ?_)
  refine r_sub [(0, .int p1)] [0] rfl ?_
  refine r_iload_n hC dX7_isAxis_0 rfl 0 rfl ?_
  refine r_iconst hC dX7_isAxis_1 ic_0 ?_
  refine r_iconst hC dX7_isAxis_2 ic_2 ?_
  obtain ⟨r1, h2, hf⟩ := ob_some hf
  refine r_si (st := []) hC (kX7_isWithin l D cy p1 0 2 h2) gX7_isAxis_X7_isWithin rfl ⟨rfl, rfl⟩ ydX7_isWithin ⟨Nat.le_of_ble_eq_true rfl, Nat.le_of_ble_eq_true rfl⟩ ⟨Nat.le_refl 0, Nat.le_refl 0⟩ _ rfl (Nat.le_of_ble_eq_true rfl) dX7_isAxis_3 ?_
  obtain ⟨g3, hf⟩ := og_some hf
  obtain rfl := so_1 hf
  exact hRet _ _ _ dX7_isAxis_6 (nb_of g3)
noncomputable def fX7_where (N : Nat) (c7_lastAsked : Int32) (c5_legs : Int32) (c5_length : Int32) (c5_ways : Nat → Int32) (c5_units : Nat → Int32) (p1 : Int32) (p2 : Int32) : Option (Int32 × Int32) := ob (fX5_length c5_length) (fun (r1 : Int32) => ob (fX7_isWithin p1 0 r1) (fun (r3 : Int32) => (if r3 = 0 then some ((-1), c7_lastAsked) else ob (fX7_isAxis p2) (fun (r6 : Int32) => (if r6 = 0 then some ((-1), c7_lastAsked) else ob (fX5_position N c5_legs c5_ways c5_units p1 p2) (fun (r9 : Int32) => some (1, r9)))))))
theorem ydX7_where : yX7_where.cls = RX7 ∧ yX7_where.cls ≠ "java/lang/invoke/MethodHandle" ∧ yX7_where.cls ≠ "java/lang/invoke/VarHandle" ∧ (parseMethodDescriptor yX7_where.desc).map (fun d => d.parameters.length) = some 2 := by decide +kernel
set_option maxHeartbeats 8000000 in
set_option maxRecDepth 100000 in
theorem kX7_where (l : Launch) (D : va_G) (cy : Nat → ClassId) (ad : Nat → Nat) (c7_lastFound : Int32) (c7_lastAsked : Int32) (c7_found : Nat → Int32) (c4_made : Int32) (c4_kinds : Nat → Int32) (c4_places : Nat → Int32) (c4_rates : Nat → Int32) (c4_readings : Nat → Int32) (c4_bearing : Nat → Int32) (c5_legs : Int32) (c5_length : Int32) (c5_ways : Nat → Int32) (c5_units : Nat → Int32) (c5_stuffOf : Nat → Int32) (c5_point : Nat → Int32) (c6_bytes : Nat → Int32) (c6_sizes : Nat → Int32) (c6_weights : Nat → Int32) (c3_size : Int32) (c3_rates : Nat → Int32) (c0_amounts : Nat → Int32) (c0_lows : Nat → Int32) (c0_highs : Nat → Int32) (c0_barred : Nat → Int32) (c1_lines : Int32) (c1_parts : Int64) (c2_above : Int64) (c2_below : Int64) (p1 : Int32) (p2 : Int32) (N : Nat) {ra : Int32} {z7_lastAsked : Int32} (hf : fX7_where N c7_lastAsked c5_legs c5_length c5_ways c5_units p1 p2 = some (ra, z7_lastAsked)) : CI l D cy yX7_where wsX7_where ({ frames := 3, cells := 0, slots := 0, locals := 70 } : Room) [.ref (ad 70), .int p1, .int p2] (w7 cy ad c7_lastFound c7_lastAsked c7_found c4_made c4_kinds c4_places c4_rates c4_readings c4_bearing c5_legs c5_length c5_ways c5_units c5_stuffOf c5_point c6_bytes c6_sizes c6_weights c3_size c3_rates c0_amounts c0_lows c0_highs c0_barred c1_lines c1_parts c2_above c2_below) ra (w7 cy ad c7_lastFound z7_lastAsked c7_found c4_made c4_kinds c4_places c4_rates c4_readings c4_bearing c5_legs c5_length c5_ways c5_units c5_stuffOf c5_point c6_bytes c6_sizes c6_weights c3_size c3_rates c0_amounts c0_lows c0_highs c0_barred c1_lines c1_parts c2_above c2_below) := by
  unfold fX7_where at hf
  refine c_of_i (ty := .int) (own := RX7) (by decide) rfl rfl (Nat.le_of_ble_eq_true rfl) (fun X hC hRet => ?_)
  refine r_sub [(0, .ref (ad 70)), (1, .int p1), (2, .int p2)] [0, 1, 2] rfl ?_
  have hin7 : ∀ w ∈ wsX70, w ∈ wsX7_where := fun w h => List.mem_cons_of_mem _ (List.mem_append_left _ (List.mem_append_right _ h))
  have hw0 : Cond.fieldLink RX7 21 "HotPipes" "run" "LHotPipes$Run;" ∈ wsX7_where := List.mem_of_getElem? (i := 1) rfl
  have hw1 : Cond.fieldLink RX7 70 "HotPipes" "lastAsked" "I" ∈ wsX7_where := List.mem_of_getElem? (i := 2) rfl
  refine r_iload_n hC dX7_where_0 rfl 1 rfl ?_
  refine r_iconst hC dX7_where_1 ic_0 ?_
  refine r_aload_n hC dX7_where_2 rfl 0 rfl ?_
  refine r_get hC hin7 0 rfl rfl 1 (by decide) rfl hw0 rfl dX7_where_3 ?_
  obtain ⟨r1, h2, hf⟩ := ob_some hf
  refine r_vi (st := [.int 0, .int p1]) hC (kX5_length l D cy ad c5_legs c5_length c5_ways c5_units c5_stuffOf c5_point c6_bytes c6_sizes c6_weights  h2) gX7_where_X5_length rfl ⟨rfl, rfl⟩ ydX5_length ⟨Nat.le_of_ble_eq_true rfl, Nat.le_of_ble_eq_true rfl⟩ ⟨Nat.le_refl 0, Nat.le_refl 0⟩ 0 rfl rfl (v7 cy ad c7_lastFound c7_lastAsked c7_found ++ (v4 cy ad c4_made c4_kinds c4_places c4_rates c4_readings c4_bearing)) (w3 cy ad c3_size c3_rates ++ (w0 cy ad c0_amounts c0_lows c0_highs c0_barred ++ (w1 cy ad c1_lines c1_parts ++ (w2 cy ad c2_above c2_below)))) rfl _ rfl (Nat.le_of_ble_eq_true rfl) dX7_where_6 (w7 cy ad c7_lastFound c7_lastAsked c7_found c4_made c4_kinds c4_places c4_rates c4_readings c4_bearing c5_legs c5_length c5_ways c5_units c5_stuffOf c5_point c6_bytes c6_sizes c6_weights c3_size c3_rates c0_amounts c0_lows c0_highs c0_barred c1_lines c1_parts c2_above c2_below) rfl ?_
  obtain ⟨r3, h4, hf⟩ := ob_some hf
  refine r_si (st := []) hC (kX7_isWithin l D cy p1 0 r1 h4) gX7_where_X7_isWithin rfl ⟨rfl, rfl⟩ ydX7_isWithin ⟨Nat.le_of_ble_eq_true rfl, Nat.le_of_ble_eq_true rfl⟩ ⟨Nat.le_refl 0, Nat.le_refl 0⟩ _ rfl (Nat.le_of_ble_eq_true rfl) dX7_where_9 ?_
  refine r_if_eq (tgt := 22) hC dX7_where_12 (by decide) (fun c5 => ?_) (fun c5 => ?_)
  · replace hf := o_pos hf c5
    refine r_iconst hC dX7_where_22 ic_m1 ?_
    obtain ⟨rfl, rfl⟩ := so_2 hf
    exact hRet _ _ _ dX7_where_23 rfl
  · replace hf := o_neg hf c5
    refine r_iload_n hC dX7_where_15 rfl 2 rfl ?_
    obtain ⟨r6, h7, hf⟩ := ob_some hf
    refine r_si (st := []) hC (kX7_isAxis l D cy p2 h7) gX7_where_X7_isAxis rfl ⟨rfl, rfl⟩ ydX7_isAxis ⟨Nat.le_of_ble_eq_true rfl, Nat.le_of_ble_eq_true rfl⟩ ⟨Nat.le_refl 0, Nat.le_refl 0⟩ _ rfl (Nat.le_of_ble_eq_true rfl) dX7_where_16 ?_
    refine r_if_ne (tgt := 24) hC dX7_where_19 (by decide) (fun c8 => ?_) (fun c8 => ?_)
    · replace hf := o_neg hf c8
      refine r_aload_n hC dX7_where_24 rfl 0 rfl ?_
      refine r_aload_n hC dX7_where_25 rfl 0 rfl ?_
      refine r_get hC hin7 0 rfl rfl 1 (by decide) rfl hw0 rfl dX7_where_26 ?_
      refine r_iload_n hC dX7_where_29 rfl 1 rfl ?_
      refine r_iload_n hC dX7_where_30 rfl 2 rfl ?_
      obtain ⟨r9, h10, hf⟩ := ob_some hf
      refine r_vi (st := [.ref (ad 70)]) hC (kX5_position l D cy ad c5_legs c5_length c5_ways c5_units c5_stuffOf c5_point c6_bytes c6_sizes c6_weights p1 p2 N h10) gX7_where_X5_position rfl ⟨rfl, rfl⟩ ydX5_position ⟨Nat.le_of_ble_eq_true rfl, Nat.le_of_ble_eq_true rfl⟩ ⟨Nat.le_refl 0, Nat.le_refl 0⟩ 0 rfl rfl (v7 cy ad c7_lastFound c7_lastAsked c7_found ++ (v4 cy ad c4_made c4_kinds c4_places c4_rates c4_readings c4_bearing)) (w3 cy ad c3_size c3_rates ++ (w0 cy ad c0_amounts c0_lows c0_highs c0_barred ++ (w1 cy ad c1_lines c1_parts ++ (w2 cy ad c2_above c2_below)))) rfl _ rfl (Nat.le_of_ble_eq_true rfl) dX7_where_31 (w7 cy ad c7_lastFound c7_lastAsked c7_found c4_made c4_kinds c4_places c4_rates c4_readings c4_bearing c5_legs c5_length c5_ways c5_units c5_stuffOf c5_point c6_bytes c6_sizes c6_weights c3_size c3_rates c0_amounts c0_lows c0_highs c0_barred c1_lines c1_parts c2_above c2_below) rfl ?_
      refine r_put (ty := .int) hC hin7 tyX7_ok nmX7 0 rfl rfl 9 (by decide) rfl hw1 rfl rfl rfl rfl (Nat.le_of_ble_eq_true rfl) dX7_where_34 (w7 cy ad c7_lastFound r9 c7_found c4_made c4_kinds c4_places c4_rates c4_readings c4_bearing c5_legs c5_length c5_ways c5_units c5_stuffOf c5_point c6_bytes c6_sizes c6_weights c3_size c3_rates c0_amounts c0_lows c0_highs c0_barred c1_lines c1_parts c2_above c2_below) rfl ?_
      refine r_iconst hC dX7_where_37 ic_1 ?_
      obtain ⟨rfl, rfl⟩ := so_2 hf
      exact hRet _ _ _ dX7_where_38 rfl
    · replace hf := o_pos hf c8
      refine r_iconst hC dX7_where_22 ic_m1 ?_
      obtain ⟨rfl, rfl⟩ := so_2 hf
      exact hRet _ _ _ dX7_where_23 rfl
noncomputable def fX7_isStep (p1 : Int32) : Option (Int32) := ob (fX7_isWithin p1 0 15) (fun (r1 : Int32) => og (r1 = 0 ∨ r1 = 1) (some r1))
theorem ydX7_isStep : yX7_isStep.cls ≠ "java/lang/invoke/MethodHandle" ∧ yX7_isStep.cls ≠ "java/lang/invoke/VarHandle" ∧ (parseMethodDescriptor yX7_isStep.desc).map (fun d => d.parameters.length) = some 1 := by decide +kernel
set_option maxHeartbeats 8000000 in
set_option maxRecDepth 100000 in
theorem kX7_isStep (l : Launch) (D : va_G) (cy : Nat → ClassId) (p1 : Int32) {ra : Int32} (hf : fX7_isStep p1 = some ra) : CI l D cy yX7_isStep wsX7_isStep ({ frames := 1, cells := 0, slots := 0, locals := 22 } : Room) [.int p1] [] ra [] := by
  unfold fX7_isStep at hf
  refine c_of_i (ty := .boolean) (own := RX7) (by decide) rfl rfl (Nat.le_of_ble_eq_true rfl) (fun X hC hRet => ?_)
  refine r_sub [(0, .int p1)] [0] rfl ?_
  refine r_iload_n hC dX7_isStep_0 rfl 0 rfl ?_
  refine r_iconst hC dX7_isStep_1 ic_0 ?_
  refine r_bipush hC dX7_isStep_2 bp_15 ?_
  obtain ⟨r1, h2, hf⟩ := ob_some hf
  refine r_si (st := []) hC (kX7_isWithin l D cy p1 0 15 h2) gX7_isStep_X7_isWithin rfl ⟨rfl, rfl⟩ ydX7_isWithin ⟨Nat.le_of_ble_eq_true rfl, Nat.le_of_ble_eq_true rfl⟩ ⟨Nat.le_refl 0, Nat.le_refl 0⟩ _ rfl (Nat.le_of_ble_eq_true rfl) dX7_isStep_4 ?_
  obtain ⟨g3, hf⟩ := og_some hf
  obtain rfl := so_1 hf
  exact hRet _ _ _ dX7_isStep_7 (nb_of g3)
noncomputable def fX7_grown (N : Nat) (c7_lastAsked : Int32) (c5_legs : Int32) (c5_length : Int32) (c5_ways : Nat → Int32) (c5_units : Nat → Int32) (c5_stuffOf : Nat → Int32) (c6_bytes : Nat → Int32) (c6_sizes : Nat → Int32) (p1 : Int32) (p2 : Int32) : Option (Int32 × Int32) := ob (fX7_isStep p1) (fun (r1 : Int32) => (if r1 = 0 then some ((-1), c7_lastAsked) else ob (fX7_isAxis p2) (fun (r4 : Int32) => (if r4 = 0 then some ((-1), c7_lastAsked) else ob (fX5_length c5_length) (fun (r7 : Int32) => ob (fX5_growth N c5_legs c5_ways c5_units c5_stuffOf c6_bytes c6_sizes r7 p1 p2) (fun (r9 : Int32) => some (1, r9)))))))
theorem ydX7_grown : yX7_grown.cls = RX7 ∧ yX7_grown.cls ≠ "java/lang/invoke/MethodHandle" ∧ yX7_grown.cls ≠ "java/lang/invoke/VarHandle" ∧ (parseMethodDescriptor yX7_grown.desc).map (fun d => d.parameters.length) = some 2 := by decide +kernel
set_option maxHeartbeats 8000000 in
set_option maxRecDepth 100000 in
theorem kX7_grown (l : Launch) (D : va_G) (cy : Nat → ClassId) (ad : Nat → Nat) (c7_lastFound : Int32) (c7_lastAsked : Int32) (c7_found : Nat → Int32) (c4_made : Int32) (c4_kinds : Nat → Int32) (c4_places : Nat → Int32) (c4_rates : Nat → Int32) (c4_readings : Nat → Int32) (c4_bearing : Nat → Int32) (c5_legs : Int32) (c5_length : Int32) (c5_ways : Nat → Int32) (c5_units : Nat → Int32) (c5_stuffOf : Nat → Int32) (c5_point : Nat → Int32) (c6_bytes : Nat → Int32) (c6_sizes : Nat → Int32) (c6_weights : Nat → Int32) (c3_size : Int32) (c3_rates : Nat → Int32) (c0_amounts : Nat → Int32) (c0_lows : Nat → Int32) (c0_highs : Nat → Int32) (c0_barred : Nat → Int32) (c1_lines : Int32) (c1_parts : Int64) (c2_above : Int64) (c2_below : Int64) (p1 : Int32) (p2 : Int32) (N : Nat) {ra : Int32} {z7_lastAsked : Int32} (hf : fX7_grown N c7_lastAsked c5_legs c5_length c5_ways c5_units c5_stuffOf c6_bytes c6_sizes p1 p2 = some (ra, z7_lastAsked)) : CI l D cy yX7_grown wsX7_grown ({ frames := 3, cells := 0, slots := 0, locals := 72 } : Room) [.ref (ad 70), .int p1, .int p2] (w7 cy ad c7_lastFound c7_lastAsked c7_found c4_made c4_kinds c4_places c4_rates c4_readings c4_bearing c5_legs c5_length c5_ways c5_units c5_stuffOf c5_point c6_bytes c6_sizes c6_weights c3_size c3_rates c0_amounts c0_lows c0_highs c0_barred c1_lines c1_parts c2_above c2_below) ra (w7 cy ad c7_lastFound z7_lastAsked c7_found c4_made c4_kinds c4_places c4_rates c4_readings c4_bearing c5_legs c5_length c5_ways c5_units c5_stuffOf c5_point c6_bytes c6_sizes c6_weights c3_size c3_rates c0_amounts c0_lows c0_highs c0_barred c1_lines c1_parts c2_above c2_below) := by
  unfold fX7_grown at hf
  refine c_of_i (ty := .int) (own := RX7) (by decide) rfl rfl (Nat.le_of_ble_eq_true rfl) (fun X hC hRet => ?_)
  refine r_sub [(0, .ref (ad 70)), (1, .int p1), (2, .int p2)] [0, 1, 2] rfl ?_
  have hin7 : ∀ w ∈ wsX70, w ∈ wsX7_grown := fun w h => List.mem_cons_of_mem _ (List.mem_append_left _ (List.mem_append_left _ (List.mem_append_right _ h)))
  have hw0 : Cond.fieldLink RX7 21 "HotPipes" "run" "LHotPipes$Run;" ∈ wsX7_grown := List.mem_of_getElem? (i := 1) rfl
  have hw1 : Cond.fieldLink RX7 70 "HotPipes" "lastAsked" "I" ∈ wsX7_grown := List.mem_of_getElem? (i := 2) rfl
  refine r_iload_n hC dX7_grown_0 rfl 1 rfl ?_
  obtain ⟨r1, h2, hf⟩ := ob_some hf
  refine r_si (st := []) hC (kX7_isStep l D cy p1 h2) gX7_grown_X7_isStep rfl ⟨rfl, rfl⟩ ydX7_isStep ⟨Nat.le_of_ble_eq_true rfl, Nat.le_of_ble_eq_true rfl⟩ ⟨Nat.le_refl 0, Nat.le_refl 0⟩ _ rfl (Nat.le_of_ble_eq_true rfl) dX7_grown_1 ?_
  refine r_if_eq (tgt := 14) hC dX7_grown_4 (by decide) (fun c3 => ?_) (fun c3 => ?_)
  · replace hf := o_pos hf c3
    refine r_iconst hC dX7_grown_14 ic_m1 ?_
    obtain ⟨rfl, rfl⟩ := so_2 hf
    exact hRet _ _ _ dX7_grown_15 rfl
  · replace hf := o_neg hf c3
    refine r_iload_n hC dX7_grown_7 rfl 2 rfl ?_
    obtain ⟨r4, h5, hf⟩ := ob_some hf
    refine r_si (st := []) hC (kX7_isAxis l D cy p2 h5) gX7_grown_X7_isAxis rfl ⟨rfl, rfl⟩ ydX7_isAxis ⟨Nat.le_of_ble_eq_true rfl, Nat.le_of_ble_eq_true rfl⟩ ⟨Nat.le_refl 0, Nat.le_refl 0⟩ _ rfl (Nat.le_of_ble_eq_true rfl) dX7_grown_8 ?_
    refine r_if_ne (tgt := 16) hC dX7_grown_11 (by decide) (fun c6 => ?_) (fun c6 => ?_)
    · replace hf := o_neg hf c6
      refine r_aload_n hC dX7_grown_16 rfl 0 rfl ?_
      refine r_aload_n hC dX7_grown_17 rfl 0 rfl ?_
      refine r_get hC hin7 0 rfl rfl 1 (by decide) rfl hw0 rfl dX7_grown_18 ?_
      refine r_aload_n hC dX7_grown_21 rfl 0 rfl ?_
      refine r_get hC hin7 0 rfl rfl 1 (by decide) rfl hw0 rfl dX7_grown_22 ?_
      obtain ⟨r7, h8, hf⟩ := ob_some hf
      refine r_vi (st := [.ref (ad 50), .ref (ad 70)]) hC (kX5_length l D cy ad c5_legs c5_length c5_ways c5_units c5_stuffOf c5_point c6_bytes c6_sizes c6_weights  h8) gX7_grown_X5_length rfl ⟨rfl, rfl⟩ ydX5_length ⟨Nat.le_of_ble_eq_true rfl, Nat.le_of_ble_eq_true rfl⟩ ⟨Nat.le_refl 0, Nat.le_refl 0⟩ 0 rfl rfl (v7 cy ad c7_lastFound c7_lastAsked c7_found ++ (v4 cy ad c4_made c4_kinds c4_places c4_rates c4_readings c4_bearing)) (w3 cy ad c3_size c3_rates ++ (w0 cy ad c0_amounts c0_lows c0_highs c0_barred ++ (w1 cy ad c1_lines c1_parts ++ (w2 cy ad c2_above c2_below)))) rfl _ rfl (Nat.le_of_ble_eq_true rfl) dX7_grown_25 (w7 cy ad c7_lastFound c7_lastAsked c7_found c4_made c4_kinds c4_places c4_rates c4_readings c4_bearing c5_legs c5_length c5_ways c5_units c5_stuffOf c5_point c6_bytes c6_sizes c6_weights c3_size c3_rates c0_amounts c0_lows c0_highs c0_barred c1_lines c1_parts c2_above c2_below) rfl ?_
      refine r_iload_n hC dX7_grown_28 rfl 1 rfl ?_
      refine r_iload_n hC dX7_grown_29 rfl 2 rfl ?_
      obtain ⟨r9, h10, hf⟩ := ob_some hf
      refine r_vi (st := [.ref (ad 70)]) hC (kX5_growth l D cy ad c5_legs c5_length c5_ways c5_units c5_stuffOf c5_point c6_bytes c6_sizes c6_weights r7 p1 p2 N h10) gX7_grown_X5_growth rfl ⟨rfl, rfl⟩ ydX5_growth ⟨Nat.le_of_ble_eq_true rfl, Nat.le_of_ble_eq_true rfl⟩ ⟨Nat.le_refl 0, Nat.le_refl 0⟩ 0 rfl rfl (v7 cy ad c7_lastFound c7_lastAsked c7_found ++ (v4 cy ad c4_made c4_kinds c4_places c4_rates c4_readings c4_bearing)) (w3 cy ad c3_size c3_rates ++ (w0 cy ad c0_amounts c0_lows c0_highs c0_barred ++ (w1 cy ad c1_lines c1_parts ++ (w2 cy ad c2_above c2_below)))) rfl _ rfl (Nat.le_of_ble_eq_true rfl) dX7_grown_30 (w7 cy ad c7_lastFound c7_lastAsked c7_found c4_made c4_kinds c4_places c4_rates c4_readings c4_bearing c5_legs c5_length c5_ways c5_units c5_stuffOf c5_point c6_bytes c6_sizes c6_weights c3_size c3_rates c0_amounts c0_lows c0_highs c0_barred c1_lines c1_parts c2_above c2_below) rfl ?_
      refine r_put (ty := .int) hC hin7 tyX7_ok nmX7 0 rfl rfl 9 (by decide) rfl hw1 rfl rfl rfl rfl (Nat.le_of_ble_eq_true rfl) dX7_grown_33 (w7 cy ad c7_lastFound r9 c7_found c4_made c4_kinds c4_places c4_rates c4_readings c4_bearing c5_legs c5_length c5_ways c5_units c5_stuffOf c5_point c6_bytes c6_sizes c6_weights c3_size c3_rates c0_amounts c0_lows c0_highs c0_barred c1_lines c1_parts c2_above c2_below) rfl ?_
      refine r_iconst hC dX7_grown_36 ic_1 ?_
      obtain ⟨rfl, rfl⟩ := so_2 hf
      exact hRet _ _ _ dX7_grown_37 rfl
    · replace hf := o_pos hf c6
      refine r_iconst hC dX7_grown_14 ic_m1 ?_
      obtain ⟨rfl, rfl⟩ := so_2 hf
      exact hRet _ _ _ dX7_grown_15 rfl
noncomputable def fX7_move (N : Nat) (c7_lastAsked : Int32) (c5_legs : Int32) (c5_length : Int32) (c5_ways : Nat → Int32) (c5_units : Nat → Int32) (c5_stuffOf : Nat → Int32) (c6_bytes : Nat → Int32) (c6_sizes : Nat → Int32) (p1 : Int32) (p2 : Int32) : Option (Int32 × Int32) := ob (fX5_length c5_length) (fun (r1 : Int32) => ob (fX7_isWithin p1 0 r1) (fun (r3 : Int32) => (if r3 = 0 then some ((-1), c7_lastAsked) else ob (fX7_isStep p2) (fun (r6 : Int32) => (if r6 = 0 then some ((-1), c7_lastAsked) else ob (fX5_growth N c5_legs c5_ways c5_units c5_stuffOf c6_bytes c6_sizes p1 p2 2) (fun (r9 : Int32) => some (1, r9)))))))
theorem ydX7_move : yX7_move.cls = RX7 ∧ yX7_move.cls ≠ "java/lang/invoke/MethodHandle" ∧ yX7_move.cls ≠ "java/lang/invoke/VarHandle" ∧ (parseMethodDescriptor yX7_move.desc).map (fun d => d.parameters.length) = some 2 := by decide +kernel
set_option maxHeartbeats 8000000 in
set_option maxRecDepth 100000 in
theorem kX7_move (l : Launch) (D : va_G) (cy : Nat → ClassId) (ad : Nat → Nat) (c7_lastFound : Int32) (c7_lastAsked : Int32) (c7_found : Nat → Int32) (c4_made : Int32) (c4_kinds : Nat → Int32) (c4_places : Nat → Int32) (c4_rates : Nat → Int32) (c4_readings : Nat → Int32) (c4_bearing : Nat → Int32) (c5_legs : Int32) (c5_length : Int32) (c5_ways : Nat → Int32) (c5_units : Nat → Int32) (c5_stuffOf : Nat → Int32) (c5_point : Nat → Int32) (c6_bytes : Nat → Int32) (c6_sizes : Nat → Int32) (c6_weights : Nat → Int32) (c3_size : Int32) (c3_rates : Nat → Int32) (c0_amounts : Nat → Int32) (c0_lows : Nat → Int32) (c0_highs : Nat → Int32) (c0_barred : Nat → Int32) (c1_lines : Int32) (c1_parts : Int64) (c2_above : Int64) (c2_below : Int64) (p1 : Int32) (p2 : Int32) (N : Nat) {ra : Int32} {z7_lastAsked : Int32} (hf : fX7_move N c7_lastAsked c5_legs c5_length c5_ways c5_units c5_stuffOf c6_bytes c6_sizes p1 p2 = some (ra, z7_lastAsked)) : CI l D cy yX7_move wsX7_move ({ frames := 3, cells := 0, slots := 0, locals := 72 } : Room) [.ref (ad 70), .int p1, .int p2] (w7 cy ad c7_lastFound c7_lastAsked c7_found c4_made c4_kinds c4_places c4_rates c4_readings c4_bearing c5_legs c5_length c5_ways c5_units c5_stuffOf c5_point c6_bytes c6_sizes c6_weights c3_size c3_rates c0_amounts c0_lows c0_highs c0_barred c1_lines c1_parts c2_above c2_below) ra (w7 cy ad c7_lastFound z7_lastAsked c7_found c4_made c4_kinds c4_places c4_rates c4_readings c4_bearing c5_legs c5_length c5_ways c5_units c5_stuffOf c5_point c6_bytes c6_sizes c6_weights c3_size c3_rates c0_amounts c0_lows c0_highs c0_barred c1_lines c1_parts c2_above c2_below) := by
  unfold fX7_move at hf
  refine c_of_i (ty := .int) (own := RX7) (by decide) rfl rfl (Nat.le_of_ble_eq_true rfl) (fun X hC hRet => ?_)
  refine r_sub [(0, .ref (ad 70)), (1, .int p1), (2, .int p2)] [0, 1, 2] rfl ?_
  have hin7 : ∀ w ∈ wsX70, w ∈ wsX7_move := fun w h => List.mem_cons_of_mem _ (List.mem_append_left _ (List.mem_append_left _ (List.mem_append_right _ h)))
  have hw0 : Cond.fieldLink RX7 21 "HotPipes" "run" "LHotPipes$Run;" ∈ wsX7_move := List.mem_of_getElem? (i := 1) rfl
  have hw1 : Cond.fieldLink RX7 70 "HotPipes" "lastAsked" "I" ∈ wsX7_move := List.mem_of_getElem? (i := 2) rfl
  refine r_iload_n hC dX7_move_0 rfl 1 rfl ?_
  refine r_iconst hC dX7_move_1 ic_0 ?_
  refine r_aload_n hC dX7_move_2 rfl 0 rfl ?_
  refine r_get hC hin7 0 rfl rfl 1 (by decide) rfl hw0 rfl dX7_move_3 ?_
  obtain ⟨r1, h2, hf⟩ := ob_some hf
  refine r_vi (st := [.int 0, .int p1]) hC (kX5_length l D cy ad c5_legs c5_length c5_ways c5_units c5_stuffOf c5_point c6_bytes c6_sizes c6_weights  h2) gX7_move_X5_length rfl ⟨rfl, rfl⟩ ydX5_length ⟨Nat.le_of_ble_eq_true rfl, Nat.le_of_ble_eq_true rfl⟩ ⟨Nat.le_refl 0, Nat.le_refl 0⟩ 0 rfl rfl (v7 cy ad c7_lastFound c7_lastAsked c7_found ++ (v4 cy ad c4_made c4_kinds c4_places c4_rates c4_readings c4_bearing)) (w3 cy ad c3_size c3_rates ++ (w0 cy ad c0_amounts c0_lows c0_highs c0_barred ++ (w1 cy ad c1_lines c1_parts ++ (w2 cy ad c2_above c2_below)))) rfl _ rfl (Nat.le_of_ble_eq_true rfl) dX7_move_6 (w7 cy ad c7_lastFound c7_lastAsked c7_found c4_made c4_kinds c4_places c4_rates c4_readings c4_bearing c5_legs c5_length c5_ways c5_units c5_stuffOf c5_point c6_bytes c6_sizes c6_weights c3_size c3_rates c0_amounts c0_lows c0_highs c0_barred c1_lines c1_parts c2_above c2_below) rfl ?_
  obtain ⟨r3, h4, hf⟩ := ob_some hf
  refine r_si (st := []) hC (kX7_isWithin l D cy p1 0 r1 h4) gX7_move_X7_isWithin rfl ⟨rfl, rfl⟩ ydX7_isWithin ⟨Nat.le_of_ble_eq_true rfl, Nat.le_of_ble_eq_true rfl⟩ ⟨Nat.le_refl 0, Nat.le_refl 0⟩ _ rfl (Nat.le_of_ble_eq_true rfl) dX7_move_9 ?_
  refine r_if_eq (tgt := 22) hC dX7_move_12 (by decide) (fun c5 => ?_) (fun c5 => ?_)
  · replace hf := o_pos hf c5
    refine r_iconst hC dX7_move_22 ic_m1 ?_
    obtain ⟨rfl, rfl⟩ := so_2 hf
    exact hRet _ _ _ dX7_move_23 rfl
  · replace hf := o_neg hf c5
    refine r_iload_n hC dX7_move_15 rfl 2 rfl ?_
    obtain ⟨r6, h7, hf⟩ := ob_some hf
    refine r_si (st := []) hC (kX7_isStep l D cy p2 h7) gX7_move_X7_isStep rfl ⟨rfl, rfl⟩ ydX7_isStep ⟨Nat.le_of_ble_eq_true rfl, Nat.le_of_ble_eq_true rfl⟩ ⟨Nat.le_refl 0, Nat.le_refl 0⟩ _ rfl (Nat.le_of_ble_eq_true rfl) dX7_move_16 ?_
    refine r_if_ne (tgt := 24) hC dX7_move_19 (by decide) (fun c8 => ?_) (fun c8 => ?_)
    · replace hf := o_neg hf c8
      refine r_aload_n hC dX7_move_24 rfl 0 rfl ?_
      refine r_aload_n hC dX7_move_25 rfl 0 rfl ?_
      refine r_get hC hin7 0 rfl rfl 1 (by decide) rfl hw0 rfl dX7_move_26 ?_
      refine r_iload_n hC dX7_move_29 rfl 1 rfl ?_
      refine r_iload_n hC dX7_move_30 rfl 2 rfl ?_
      refine r_iconst hC dX7_move_31 ic_2 ?_
      obtain ⟨r9, h10, hf⟩ := ob_some hf
      refine r_vi (st := [.ref (ad 70)]) hC (kX5_growth l D cy ad c5_legs c5_length c5_ways c5_units c5_stuffOf c5_point c6_bytes c6_sizes c6_weights p1 p2 2 N h10) gX7_move_X5_growth rfl ⟨rfl, rfl⟩ ydX5_growth ⟨Nat.le_of_ble_eq_true rfl, Nat.le_of_ble_eq_true rfl⟩ ⟨Nat.le_refl 0, Nat.le_refl 0⟩ 0 rfl rfl (v7 cy ad c7_lastFound c7_lastAsked c7_found ++ (v4 cy ad c4_made c4_kinds c4_places c4_rates c4_readings c4_bearing)) (w3 cy ad c3_size c3_rates ++ (w0 cy ad c0_amounts c0_lows c0_highs c0_barred ++ (w1 cy ad c1_lines c1_parts ++ (w2 cy ad c2_above c2_below)))) rfl _ rfl (Nat.le_of_ble_eq_true rfl) dX7_move_32 (w7 cy ad c7_lastFound c7_lastAsked c7_found c4_made c4_kinds c4_places c4_rates c4_readings c4_bearing c5_legs c5_length c5_ways c5_units c5_stuffOf c5_point c6_bytes c6_sizes c6_weights c3_size c3_rates c0_amounts c0_lows c0_highs c0_barred c1_lines c1_parts c2_above c2_below) rfl ?_
      refine r_put (ty := .int) hC hin7 tyX7_ok nmX7 0 rfl rfl 9 (by decide) rfl hw1 rfl rfl rfl rfl (Nat.le_of_ble_eq_true rfl) dX7_move_35 (w7 cy ad c7_lastFound r9 c7_found c4_made c4_kinds c4_places c4_rates c4_readings c4_bearing c5_legs c5_length c5_ways c5_units c5_stuffOf c5_point c6_bytes c6_sizes c6_weights c3_size c3_rates c0_amounts c0_lows c0_highs c0_barred c1_lines c1_parts c2_above c2_below) rfl ?_
      refine r_iconst hC dX7_move_38 ic_1 ?_
      obtain ⟨rfl, rfl⟩ := so_2 hf
      exact hRet _ _ _ dX7_move_39 rfl
    · replace hf := o_pos hf c8
      refine r_iconst hC dX7_move_22 ic_m1 ?_
      obtain ⟨rfl, rfl⟩ := so_2 hf
      exact hRet _ _ _ dX7_move_23 rfl
noncomputable def fX7_isThickness (p1 : Int32) : Option (Int32) := ob (fX7_isWithin p1 1 100) (fun (r1 : Int32) => og (r1 = 0 ∨ r1 = 1) (some r1))
theorem ydX7_isThickness : yX7_isThickness.cls ≠ "java/lang/invoke/MethodHandle" ∧ yX7_isThickness.cls ≠ "java/lang/invoke/VarHandle" ∧ (parseMethodDescriptor yX7_isThickness.desc).map (fun d => d.parameters.length) = some 1 := by decide +kernel
set_option maxHeartbeats 8000000 in
set_option maxRecDepth 100000 in
theorem kX7_isThickness (l : Launch) (D : va_G) (cy : Nat → ClassId) (p1 : Int32) {ra : Int32} (hf : fX7_isThickness p1 = some ra) : CI l D cy yX7_isThickness wsX7_isThickness ({ frames := 1, cells := 0, slots := 0, locals := 22 } : Room) [.int p1] [] ra [] := by
  unfold fX7_isThickness at hf
  refine c_of_i (ty := .boolean) (own := RX7) (by decide) rfl rfl (Nat.le_of_ble_eq_true rfl) (fun X hC hRet => ?_)
  refine r_sub [(0, .int p1)] [0] rfl ?_
  refine r_iload_n hC dX7_isThickness_0 rfl 0 rfl ?_
  refine r_iconst hC dX7_isThickness_1 ic_1 ?_
  refine r_bipush hC dX7_isThickness_2 bp_100 ?_
  obtain ⟨r1, h2, hf⟩ := ob_some hf
  refine r_si (st := []) hC (kX7_isWithin l D cy p1 1 100 h2) gX7_isThickness_X7_isWithin rfl ⟨rfl, rfl⟩ ydX7_isWithin ⟨Nat.le_of_ble_eq_true rfl, Nat.le_of_ble_eq_true rfl⟩ ⟨Nat.le_refl 0, Nat.le_refl 0⟩ _ rfl (Nat.le_of_ble_eq_true rfl) dX7_isThickness_4 ?_
  obtain ⟨g3, hf⟩ := og_some hf
  obtain rfl := so_1 hf
  exact hRet _ _ _ dX7_isThickness_7 (nb_of g3)
noncomputable def fX7_soft (N : Nat) (c7_lastAsked : Int32) (c5_legs : Int32) (c5_length : Int32) (c5_ways : Nat → Int32) (c5_units : Nat → Int32) (c5_stuffOf : Nat → Int32) (c6_bytes : Nat → Int32) (c6_sizes : Nat → Int32) (p1 : Int32) (p2 : Int32) : Option (Int32 × Int32) := ob (fX7_isStep p1) (fun (r1 : Int32) => (if r1 = 0 then some ((-1), c7_lastAsked) else ob (fX7_isThickness p2) (fun (r4 : Int32) => (if r4 = 0 then some ((-1), c7_lastAsked) else ob (fX5_legs c5_legs) (fun (r7 : Int32) => (if r7 = 0 then some ((-4), c7_lastAsked) else ob (fX5_spare N c5_legs c5_length c5_ways c5_units c5_stuffOf c6_bytes c6_sizes p1 p2 0) (fun (r10 : Int32) => (if r10 < 0 then some (0, r10) else some (1, r10)))))))))
theorem ydX7_soft : yX7_soft.cls = RX7 ∧ yX7_soft.cls ≠ "java/lang/invoke/MethodHandle" ∧ yX7_soft.cls ≠ "java/lang/invoke/VarHandle" ∧ (parseMethodDescriptor yX7_soft.desc).map (fun d => d.parameters.length) = some 2 := by decide +kernel
set_option maxHeartbeats 8000000 in
set_option maxRecDepth 100000 in
theorem kX7_soft (l : Launch) (D : va_G) (cy : Nat → ClassId) (ad : Nat → Nat) (c7_lastFound : Int32) (c7_lastAsked : Int32) (c7_found : Nat → Int32) (c4_made : Int32) (c4_kinds : Nat → Int32) (c4_places : Nat → Int32) (c4_rates : Nat → Int32) (c4_readings : Nat → Int32) (c4_bearing : Nat → Int32) (c5_legs : Int32) (c5_length : Int32) (c5_ways : Nat → Int32) (c5_units : Nat → Int32) (c5_stuffOf : Nat → Int32) (c5_point : Nat → Int32) (c6_bytes : Nat → Int32) (c6_sizes : Nat → Int32) (c6_weights : Nat → Int32) (c3_size : Int32) (c3_rates : Nat → Int32) (c0_amounts : Nat → Int32) (c0_lows : Nat → Int32) (c0_highs : Nat → Int32) (c0_barred : Nat → Int32) (c1_lines : Int32) (c1_parts : Int64) (c2_above : Int64) (c2_below : Int64) (p1 : Int32) (p2 : Int32) (N : Nat) {ra : Int32} {z7_lastAsked : Int32} (hf : fX7_soft N c7_lastAsked c5_legs c5_length c5_ways c5_units c5_stuffOf c6_bytes c6_sizes p1 p2 = some (ra, z7_lastAsked)) : CI l D cy yX7_soft wsX7_soft ({ frames := 4, cells := 0, slots := 0, locals := 104 } : Room) [.ref (ad 70), .int p1, .int p2] (w7 cy ad c7_lastFound c7_lastAsked c7_found c4_made c4_kinds c4_places c4_rates c4_readings c4_bearing c5_legs c5_length c5_ways c5_units c5_stuffOf c5_point c6_bytes c6_sizes c6_weights c3_size c3_rates c0_amounts c0_lows c0_highs c0_barred c1_lines c1_parts c2_above c2_below) ra (w7 cy ad c7_lastFound z7_lastAsked c7_found c4_made c4_kinds c4_places c4_rates c4_readings c4_bearing c5_legs c5_length c5_ways c5_units c5_stuffOf c5_point c6_bytes c6_sizes c6_weights c3_size c3_rates c0_amounts c0_lows c0_highs c0_barred c1_lines c1_parts c2_above c2_below) := by
  unfold fX7_soft at hf
  refine c_of_i (ty := .int) (own := RX7) (by decide) rfl rfl (Nat.le_of_ble_eq_true rfl) (fun X hC hRet => ?_)
  refine r_sub [(0, .ref (ad 70)), (1, .int p1), (2, .int p2)] [0, 1, 2] rfl ?_
  have hin7 : ∀ w ∈ wsX70, w ∈ wsX7_soft := fun w h => List.mem_cons_of_mem _ (List.mem_append_left _ (List.mem_append_left _ (List.mem_append_right _ h)))
  have hw0 : Cond.fieldLink RX7 21 "HotPipes" "run" "LHotPipes$Run;" ∈ wsX7_soft := List.mem_of_getElem? (i := 1) rfl
  have hw1 : Cond.fieldLink RX7 70 "HotPipes" "lastAsked" "I" ∈ wsX7_soft := List.mem_of_getElem? (i := 2) rfl
  refine r_iload_n hC dX7_soft_0 rfl 1 rfl ?_
  obtain ⟨r1, h2, hf⟩ := ob_some hf
  refine r_si (st := []) hC (kX7_isStep l D cy p1 h2) gX7_soft_X7_isStep rfl ⟨rfl, rfl⟩ ydX7_isStep ⟨Nat.le_of_ble_eq_true rfl, Nat.le_of_ble_eq_true rfl⟩ ⟨Nat.le_refl 0, Nat.le_refl 0⟩ _ rfl (Nat.le_of_ble_eq_true rfl) dX7_soft_1 ?_
  refine r_if_eq (tgt := 14) hC dX7_soft_4 (by decide) (fun c3 => ?_) (fun c3 => ?_)
  · replace hf := o_pos hf c3
    refine r_iconst hC dX7_soft_14 ic_m1 ?_
    obtain ⟨rfl, rfl⟩ := so_2 hf
    exact hRet _ _ _ dX7_soft_15 rfl
  · replace hf := o_neg hf c3
    refine r_iload_n hC dX7_soft_7 rfl 2 rfl ?_
    obtain ⟨r4, h5, hf⟩ := ob_some hf
    refine r_si (st := []) hC (kX7_isThickness l D cy p2 h5) gX7_soft_X7_isThickness rfl ⟨rfl, rfl⟩ ydX7_isThickness ⟨Nat.le_of_ble_eq_true rfl, Nat.le_of_ble_eq_true rfl⟩ ⟨Nat.le_refl 0, Nat.le_refl 0⟩ _ rfl (Nat.le_of_ble_eq_true rfl) dX7_soft_8 ?_
    refine r_if_ne (tgt := 16) hC dX7_soft_11 (by decide) (fun c6 => ?_) (fun c6 => ?_)
    · replace hf := o_neg hf c6
      refine r_aload_n hC dX7_soft_16 rfl 0 rfl ?_
      refine r_get hC hin7 0 rfl rfl 1 (by decide) rfl hw0 rfl dX7_soft_17 ?_
      obtain ⟨r7, h8, hf⟩ := ob_some hf
      refine r_vi (st := []) hC (kX5_legs l D cy ad c5_legs c5_length c5_ways c5_units c5_stuffOf c5_point c6_bytes c6_sizes c6_weights  h8) gX7_soft_X5_legs rfl ⟨rfl, rfl⟩ ydX5_legs ⟨Nat.le_of_ble_eq_true rfl, Nat.le_of_ble_eq_true rfl⟩ ⟨Nat.le_refl 0, Nat.le_refl 0⟩ 0 rfl rfl (v7 cy ad c7_lastFound c7_lastAsked c7_found ++ (v4 cy ad c4_made c4_kinds c4_places c4_rates c4_readings c4_bearing)) (w3 cy ad c3_size c3_rates ++ (w0 cy ad c0_amounts c0_lows c0_highs c0_barred ++ (w1 cy ad c1_lines c1_parts ++ (w2 cy ad c2_above c2_below)))) rfl _ rfl (Nat.le_of_ble_eq_true rfl) dX7_soft_20 (w7 cy ad c7_lastFound c7_lastAsked c7_found c4_made c4_kinds c4_places c4_rates c4_readings c4_bearing c5_legs c5_length c5_ways c5_units c5_stuffOf c5_point c6_bytes c6_sizes c6_weights c3_size c3_rates c0_amounts c0_lows c0_highs c0_barred c1_lines c1_parts c2_above c2_below) rfl ?_
      refine r_if_ne (tgt := 29) hC dX7_soft_23 (by decide) (fun c9 => ?_) (fun c9 => ?_)
      · replace hf := o_neg hf c9
        refine r_aload_n hC dX7_soft_29 rfl 0 rfl ?_
        refine r_aload_n hC dX7_soft_30 rfl 0 rfl ?_
        refine r_get hC hin7 0 rfl rfl 1 (by decide) rfl hw0 rfl dX7_soft_31 ?_
        refine r_iload_n hC dX7_soft_34 rfl 1 rfl ?_
        refine r_iload_n hC dX7_soft_35 rfl 2 rfl ?_
        refine r_iconst hC dX7_soft_36 ic_0 ?_
        obtain ⟨r10, h11, hf⟩ := ob_some hf
        refine r_vi (st := [.ref (ad 70)]) hC (kX5_spare l D cy ad c5_legs c5_length c5_ways c5_units c5_stuffOf c5_point c6_bytes c6_sizes c6_weights p1 p2 0 N h11) gX7_soft_X5_spare rfl ⟨rfl, rfl⟩ ydX5_spare ⟨Nat.le_of_ble_eq_true rfl, Nat.le_of_ble_eq_true rfl⟩ ⟨Nat.le_refl 0, Nat.le_refl 0⟩ 0 rfl rfl (v7 cy ad c7_lastFound c7_lastAsked c7_found ++ (v4 cy ad c4_made c4_kinds c4_places c4_rates c4_readings c4_bearing)) (w3 cy ad c3_size c3_rates ++ (w0 cy ad c0_amounts c0_lows c0_highs c0_barred ++ (w1 cy ad c1_lines c1_parts ++ (w2 cy ad c2_above c2_below)))) rfl _ rfl (Nat.le_of_ble_eq_true rfl) dX7_soft_37 (w7 cy ad c7_lastFound c7_lastAsked c7_found c4_made c4_kinds c4_places c4_rates c4_readings c4_bearing c5_legs c5_length c5_ways c5_units c5_stuffOf c5_point c6_bytes c6_sizes c6_weights c3_size c3_rates c0_amounts c0_lows c0_highs c0_barred c1_lines c1_parts c2_above c2_below) rfl ?_
        refine r_put (ty := .int) hC hin7 tyX7_ok nmX7 0 rfl rfl 9 (by decide) rfl hw1 rfl rfl rfl rfl (Nat.le_of_ble_eq_true rfl) dX7_soft_40 (w7 cy ad c7_lastFound r10 c7_found c4_made c4_kinds c4_places c4_rates c4_readings c4_bearing c5_legs c5_length c5_ways c5_units c5_stuffOf c5_point c6_bytes c6_sizes c6_weights c3_size c3_rates c0_amounts c0_lows c0_highs c0_barred c1_lines c1_parts c2_above c2_below) rfl ?_
        refine r_aload_n hC dX7_soft_43 rfl 0 rfl ?_
        refine r_get hC hin7 0 rfl rfl 9 (by decide) rfl hw1 rfl dX7_soft_44 ?_
        refine r_if_lt (tgt := 54) hC dX7_soft_47 (by decide) (fun c12 => ?_) (fun c12 => ?_)
        · replace hf := o_pos hf c12
          refine r_iconst hC dX7_soft_54 ic_0 ?_
          obtain ⟨rfl, rfl⟩ := so_2 hf
          exact hRet _ _ _ dX7_soft_55 rfl
        · replace hf := o_neg hf c12
          refine r_iconst hC dX7_soft_50 ic_1 ?_
          refine r_goto (tgt := 55) hC dX7_soft_51 (by decide) ?_
          obtain ⟨rfl, rfl⟩ := so_2 hf
          exact hRet _ _ _ dX7_soft_55 rfl
      · replace hf := o_pos hf c9
        refine r_bipush hC dX7_soft_26 bp_m4 ?_
        obtain ⟨rfl, rfl⟩ := so_2 hf
        exact hRet _ _ _ dX7_soft_28 rfl
    · replace hf := o_pos hf c6
      refine r_iconst hC dX7_soft_14 ic_m1 ?_
      obtain ⟨rfl, rfl⟩ := so_2 hf
      exact hRet _ _ _ dX7_soft_15 rfl
noncomputable def fX7_loop (N : Nat) (c5_legs : Int32) (c5_length : Int32) (c5_ways : Nat → Int32) (c5_units : Nat → Int32) (c5_stuffOf : Nat → Int32) (c5_point : Nat → Int32) (c6_bytes : Nat → Int32) (c6_sizes : Nat → Int32) (p1 : Int32) (p2 : Int32) (p3 : Int32) (p4 : Int32) : Option (Int32 × (Nat → Int32)) := ob (fX5_legs c5_legs) (fun (r1 : Int32) => ob (fX7_isWithin p1 0 (r1 - 1)) (fun (r3 : Int32) => (if r3 = 0 then some ((-1), c5_point) else ob (fX7_isWay p2) (fun (r6 : Int32) => (if r6 = 0 then some ((-1), c5_point) else ob (fX7_isStep p3) (fun (r9 : Int32) => (if r9 = 0 then some ((-1), c5_point) else ob (fX7_isThickness p4) (fun (r12 : Int32) => (if r12 = 0 then some ((-1), c5_point) else ob (fX5_isAcross c5_ways p1 p2) (fun (r15 : Int32) => (if r15 = 0 then some ((-1), c5_point) else ob (fX5_unitsOf c5_units p1) (fun (r18 : Int32) => (if 3 ≤ r18 then ob (fX5_firstSoft N c5_legs c5_length c5_ways c5_units c5_stuffOf c6_bytes c6_sizes p3 p4) (fun (r21 : Int32) => ob2 (fX5_leastLoop N c5_legs c5_ways c5_units c5_point p1 p2 r21) (fun (r23 : Int32) (s24 : Nat → Int32) => some (r23, s24))) else some ((-4), c5_point))))))))))))))
theorem ydX7_loop : yX7_loop.cls = RX7 ∧ yX7_loop.cls ≠ "java/lang/invoke/MethodHandle" ∧ yX7_loop.cls ≠ "java/lang/invoke/VarHandle" ∧ (parseMethodDescriptor yX7_loop.desc).map (fun d => d.parameters.length) = some 4 := by decide +kernel
set_option maxHeartbeats 8000000 in
set_option maxRecDepth 100000 in
theorem kX7_loop (l : Launch) (D : va_G) (cy : Nat → ClassId) (ad : Nat → Nat) (c7_lastFound : Int32) (c7_lastAsked : Int32) (c7_found : Nat → Int32) (c4_made : Int32) (c4_kinds : Nat → Int32) (c4_places : Nat → Int32) (c4_rates : Nat → Int32) (c4_readings : Nat → Int32) (c4_bearing : Nat → Int32) (c5_legs : Int32) (c5_length : Int32) (c5_ways : Nat → Int32) (c5_units : Nat → Int32) (c5_stuffOf : Nat → Int32) (c5_point : Nat → Int32) (c6_bytes : Nat → Int32) (c6_sizes : Nat → Int32) (c6_weights : Nat → Int32) (c3_size : Int32) (c3_rates : Nat → Int32) (c0_amounts : Nat → Int32) (c0_lows : Nat → Int32) (c0_highs : Nat → Int32) (c0_barred : Nat → Int32) (c1_lines : Int32) (c1_parts : Int64) (c2_above : Int64) (c2_below : Int64) (p1 : Int32) (p2 : Int32) (p3 : Int32) (p4 : Int32) (N : Nat) {ra : Int32} {z5_point : Nat → Int32} (hf : fX7_loop N c5_legs c5_length c5_ways c5_units c5_stuffOf c5_point c6_bytes c6_sizes p1 p2 p3 p4 = some (ra, z5_point)) : CI l D cy yX7_loop wsX7_loop ({ frames := 6, cells := 0, slots := 0, locals := 144 } : Room) [.ref (ad 70), .int p1, .int p2, .int p3, .int p4] (w7 cy ad c7_lastFound c7_lastAsked c7_found c4_made c4_kinds c4_places c4_rates c4_readings c4_bearing c5_legs c5_length c5_ways c5_units c5_stuffOf c5_point c6_bytes c6_sizes c6_weights c3_size c3_rates c0_amounts c0_lows c0_highs c0_barred c1_lines c1_parts c2_above c2_below) ra (w7 cy ad c7_lastFound c7_lastAsked c7_found c4_made c4_kinds c4_places c4_rates c4_readings c4_bearing c5_legs c5_length c5_ways c5_units c5_stuffOf z5_point c6_bytes c6_sizes c6_weights c3_size c3_rates c0_amounts c0_lows c0_highs c0_barred c1_lines c1_parts c2_above c2_below) := by
  unfold fX7_loop at hf
  refine c_of_i (ty := .int) (own := RX7) (by decide) rfl rfl (Nat.le_of_ble_eq_true rfl) (fun X hC hRet => ?_)
  refine r_sub [(0, .ref (ad 70)), (1, .int p1), (2, .int p2), (3, .int p3), (4, .int p4)] [0, 1, 2, 3, 4] rfl ?_
  have hin7 : ∀ w ∈ wsX70, w ∈ wsX7_loop := fun w h => List.mem_cons_of_mem _ (List.mem_append_left _ (List.mem_append_left _ (List.mem_append_right _ h)))
  have hw0 : Cond.fieldLink RX7 21 "HotPipes" "run" "LHotPipes$Run;" ∈ wsX7_loop := List.mem_of_getElem? (i := 1) rfl
  refine r_iload_n hC dX7_loop_0 rfl 1 rfl ?_
  refine r_iconst hC dX7_loop_1 ic_0 ?_
  refine r_aload_n hC dX7_loop_2 rfl 0 rfl ?_
  refine r_get hC hin7 0 rfl rfl 1 (by decide) rfl hw0 rfl dX7_loop_3 ?_
  obtain ⟨r1, h2, hf⟩ := ob_some hf
  refine r_vi (st := [.int 0, .int p1]) hC (kX5_legs l D cy ad c5_legs c5_length c5_ways c5_units c5_stuffOf c5_point c6_bytes c6_sizes c6_weights  h2) gX7_loop_X5_legs rfl ⟨rfl, rfl⟩ ydX5_legs ⟨Nat.le_of_ble_eq_true rfl, Nat.le_of_ble_eq_true rfl⟩ ⟨Nat.le_refl 0, Nat.le_refl 0⟩ 0 rfl rfl (v7 cy ad c7_lastFound c7_lastAsked c7_found ++ (v4 cy ad c4_made c4_kinds c4_places c4_rates c4_readings c4_bearing)) (w3 cy ad c3_size c3_rates ++ (w0 cy ad c0_amounts c0_lows c0_highs c0_barred ++ (w1 cy ad c1_lines c1_parts ++ (w2 cy ad c2_above c2_below)))) rfl _ rfl (Nat.le_of_ble_eq_true rfl) dX7_loop_6 (w7 cy ad c7_lastFound c7_lastAsked c7_found c4_made c4_kinds c4_places c4_rates c4_readings c4_bearing c5_legs c5_length c5_ways c5_units c5_stuffOf c5_point c6_bytes c6_sizes c6_weights c3_size c3_rates c0_amounts c0_lows c0_highs c0_barred c1_lines c1_parts c2_above c2_below) rfl ?_
  refine r_iconst hC dX7_loop_9 ic_1 ?_
  refine r_isub hC dX7_loop_10 ?_
  obtain ⟨r3, h4, hf⟩ := ob_some hf
  refine r_si (st := []) hC (kX7_isWithin l D cy p1 0 (r1 - 1) h4) gX7_loop_X7_isWithin rfl ⟨rfl, rfl⟩ ydX7_isWithin ⟨Nat.le_of_ble_eq_true rfl, Nat.le_of_ble_eq_true rfl⟩ ⟨Nat.le_refl 0, Nat.le_refl 0⟩ _ rfl (Nat.le_of_ble_eq_true rfl) dX7_loop_11 ?_
  refine r_if_eq (tgt := 39) hC dX7_loop_14 (by decide) (fun c5 => ?_) (fun c5 => ?_)
  · replace hf := o_pos hf c5
    refine r_iconst hC dX7_loop_39 ic_m1 ?_
    obtain ⟨rfl, rfl⟩ := so_2 hf
    exact hRet _ _ _ dX7_loop_40 rfl
  · replace hf := o_neg hf c5
    refine r_iload_n hC dX7_loop_17 rfl 2 rfl ?_
    obtain ⟨r6, h7, hf⟩ := ob_some hf
    refine r_si (st := []) hC (kX7_isWay l D cy p2 h7) gX7_loop_X7_isWay rfl ⟨rfl, rfl⟩ ydX7_isWay ⟨Nat.le_of_ble_eq_true rfl, Nat.le_of_ble_eq_true rfl⟩ ⟨Nat.le_refl 0, Nat.le_refl 0⟩ _ rfl (Nat.le_of_ble_eq_true rfl) dX7_loop_18 ?_
    refine r_if_eq (tgt := 39) hC dX7_loop_21 (by decide) (fun c8 => ?_) (fun c8 => ?_)
    · replace hf := o_pos hf c8
      refine r_iconst hC dX7_loop_39 ic_m1 ?_
      obtain ⟨rfl, rfl⟩ := so_2 hf
      exact hRet _ _ _ dX7_loop_40 rfl
    · replace hf := o_neg hf c8
      refine r_iload_n hC dX7_loop_24 rfl 3 rfl ?_
      obtain ⟨r9, h10, hf⟩ := ob_some hf
      refine r_si (st := []) hC (kX7_isStep l D cy p3 h10) gX7_loop_X7_isStep rfl ⟨rfl, rfl⟩ ydX7_isStep ⟨Nat.le_of_ble_eq_true rfl, Nat.le_of_ble_eq_true rfl⟩ ⟨Nat.le_refl 0, Nat.le_refl 0⟩ _ rfl (Nat.le_of_ble_eq_true rfl) dX7_loop_25 ?_
      refine r_if_eq (tgt := 39) hC dX7_loop_28 (by decide) (fun c11 => ?_) (fun c11 => ?_)
      · replace hf := o_pos hf c11
        refine r_iconst hC dX7_loop_39 ic_m1 ?_
        obtain ⟨rfl, rfl⟩ := so_2 hf
        exact hRet _ _ _ dX7_loop_40 rfl
      · replace hf := o_neg hf c11
        refine r_iload hC dX7_loop_31 4 rfl ?_
        obtain ⟨r12, h13, hf⟩ := ob_some hf
        refine r_si (st := []) hC (kX7_isThickness l D cy p4 h13) gX7_loop_X7_isThickness rfl ⟨rfl, rfl⟩ ydX7_isThickness ⟨Nat.le_of_ble_eq_true rfl, Nat.le_of_ble_eq_true rfl⟩ ⟨Nat.le_refl 0, Nat.le_refl 0⟩ _ rfl (Nat.le_of_ble_eq_true rfl) dX7_loop_33 ?_
        refine r_if_ne (tgt := 41) hC dX7_loop_36 (by decide) (fun c14 => ?_) (fun c14 => ?_)
        · replace hf := o_neg hf c14
          refine r_aload_n hC dX7_loop_41 rfl 0 rfl ?_
          refine r_get hC hin7 0 rfl rfl 1 (by decide) rfl hw0 rfl dX7_loop_42 ?_
          refine r_iload_n hC dX7_loop_45 rfl 1 rfl ?_
          refine r_iload_n hC dX7_loop_46 rfl 2 rfl ?_
          obtain ⟨r15, h16, hf⟩ := ob_some hf
          refine r_vi (st := []) hC (kX5_isAcross l D cy ad c5_legs c5_length c5_ways c5_units c5_stuffOf c5_point c6_bytes c6_sizes c6_weights p1 p2 h16) gX7_loop_X5_isAcross rfl ⟨rfl, rfl⟩ ydX5_isAcross ⟨Nat.le_of_ble_eq_true rfl, Nat.le_of_ble_eq_true rfl⟩ ⟨Nat.le_refl 0, Nat.le_refl 0⟩ 0 rfl rfl (v7 cy ad c7_lastFound c7_lastAsked c7_found ++ (v4 cy ad c4_made c4_kinds c4_places c4_rates c4_readings c4_bearing)) (w3 cy ad c3_size c3_rates ++ (w0 cy ad c0_amounts c0_lows c0_highs c0_barred ++ (w1 cy ad c1_lines c1_parts ++ (w2 cy ad c2_above c2_below)))) rfl _ rfl (Nat.le_of_ble_eq_true rfl) dX7_loop_47 (w7 cy ad c7_lastFound c7_lastAsked c7_found c4_made c4_kinds c4_places c4_rates c4_readings c4_bearing c5_legs c5_length c5_ways c5_units c5_stuffOf c5_point c6_bytes c6_sizes c6_weights c3_size c3_rates c0_amounts c0_lows c0_highs c0_barred c1_lines c1_parts c2_above c2_below) rfl ?_
          refine r_if_ne (tgt := 55) hC dX7_loop_50 (by decide) (fun c17 => ?_) (fun c17 => ?_)
          · replace hf := o_neg hf c17
            refine r_aload_n hC dX7_loop_55 rfl 0 rfl ?_
            refine r_get hC hin7 0 rfl rfl 1 (by decide) rfl hw0 rfl dX7_loop_56 ?_
            refine r_iload_n hC dX7_loop_59 rfl 1 rfl ?_
            obtain ⟨r18, h19, hf⟩ := ob_some hf
            refine r_vi (st := []) hC (kX5_unitsOf l D cy ad c5_legs c5_length c5_ways c5_units c5_stuffOf c5_point c6_bytes c6_sizes c6_weights p1 h19) gX7_loop_X5_unitsOf rfl ⟨rfl, rfl⟩ ydX5_unitsOf ⟨Nat.le_of_ble_eq_true rfl, Nat.le_of_ble_eq_true rfl⟩ ⟨Nat.le_refl 0, Nat.le_refl 0⟩ 0 rfl rfl (v7 cy ad c7_lastFound c7_lastAsked c7_found ++ (v4 cy ad c4_made c4_kinds c4_places c4_rates c4_readings c4_bearing)) (w3 cy ad c3_size c3_rates ++ (w0 cy ad c0_amounts c0_lows c0_highs c0_barred ++ (w1 cy ad c1_lines c1_parts ++ (w2 cy ad c2_above c2_below)))) rfl _ rfl (Nat.le_of_ble_eq_true rfl) dX7_loop_60 (w7 cy ad c7_lastFound c7_lastAsked c7_found c4_made c4_kinds c4_places c4_rates c4_readings c4_bearing c5_legs c5_length c5_ways c5_units c5_stuffOf c5_point c6_bytes c6_sizes c6_weights c3_size c3_rates c0_amounts c0_lows c0_highs c0_barred c1_lines c1_parts c2_above c2_below) rfl ?_
            refine r_iconst hC dX7_loop_63 ic_3 ?_
            refine r_icmp_ge (tgt := 70) hC dX7_loop_64 (by decide) (fun c20 => ?_) (fun c20 => ?_)
            · replace hf := o_pos hf c20
              refine r_aload_n hC dX7_loop_70 rfl 0 rfl ?_
              refine r_get hC hin7 0 rfl rfl 1 (by decide) rfl hw0 rfl dX7_loop_71 ?_
              refine r_iload_n hC dX7_loop_74 rfl 1 rfl ?_
              refine r_iload_n hC dX7_loop_75 rfl 2 rfl ?_
              refine r_aload_n hC dX7_loop_76 rfl 0 rfl ?_
              refine r_get hC hin7 0 rfl rfl 1 (by decide) rfl hw0 rfl dX7_loop_77 ?_
              refine r_iload_n hC dX7_loop_80 rfl 3 rfl ?_
              refine r_iload hC dX7_loop_81 4 rfl ?_
              obtain ⟨r21, h22, hf⟩ := ob_some hf
              refine r_vi (st := [.int p2, .int p1, .ref (ad 50)]) hC (kX5_firstSoft l D cy ad c5_legs c5_length c5_ways c5_units c5_stuffOf c5_point c6_bytes c6_sizes c6_weights p3 p4 N h22) gX7_loop_X5_firstSoft rfl ⟨rfl, rfl⟩ ydX5_firstSoft ⟨Nat.le_of_ble_eq_true rfl, Nat.le_of_ble_eq_true rfl⟩ ⟨Nat.le_refl 0, Nat.le_refl 0⟩ 0 rfl rfl (v7 cy ad c7_lastFound c7_lastAsked c7_found ++ (v4 cy ad c4_made c4_kinds c4_places c4_rates c4_readings c4_bearing)) (w3 cy ad c3_size c3_rates ++ (w0 cy ad c0_amounts c0_lows c0_highs c0_barred ++ (w1 cy ad c1_lines c1_parts ++ (w2 cy ad c2_above c2_below)))) rfl _ rfl (Nat.le_of_ble_eq_true rfl) dX7_loop_83 (w7 cy ad c7_lastFound c7_lastAsked c7_found c4_made c4_kinds c4_places c4_rates c4_readings c4_bearing c5_legs c5_length c5_ways c5_units c5_stuffOf c5_point c6_bytes c6_sizes c6_weights c3_size c3_rates c0_amounts c0_lows c0_highs c0_barred c1_lines c1_parts c2_above c2_below) rfl ?_
              obtain ⟨r23, s24, h25, hf⟩ := ob2_some hf
              refine r_vi (st := []) hC (kX5_leastLoop l D cy ad c5_legs c5_length c5_ways c5_units c5_stuffOf c5_point c6_bytes c6_sizes c6_weights p1 p2 r21 N h25) gX7_loop_X5_leastLoop rfl ⟨rfl, rfl⟩ ydX5_leastLoop ⟨Nat.le_of_ble_eq_true rfl, Nat.le_of_ble_eq_true rfl⟩ ⟨Nat.le_refl 0, Nat.le_refl 0⟩ 0 rfl rfl (v7 cy ad c7_lastFound c7_lastAsked c7_found ++ (v4 cy ad c4_made c4_kinds c4_places c4_rates c4_readings c4_bearing)) (w3 cy ad c3_size c3_rates ++ (w0 cy ad c0_amounts c0_lows c0_highs c0_barred ++ (w1 cy ad c1_lines c1_parts ++ (w2 cy ad c2_above c2_below)))) rfl _ rfl (Nat.le_of_ble_eq_true rfl) dX7_loop_86 (w7 cy ad c7_lastFound c7_lastAsked c7_found c4_made c4_kinds c4_places c4_rates c4_readings c4_bearing c5_legs c5_length c5_ways c5_units c5_stuffOf s24 c6_bytes c6_sizes c6_weights c3_size c3_rates c0_amounts c0_lows c0_highs c0_barred c1_lines c1_parts c2_above c2_below) rfl ?_
              obtain ⟨rfl, rfl⟩ := so_2 hf
              exact hRet _ _ _ dX7_loop_89 rfl
            · replace hf := o_neg hf c20
              refine r_bipush hC dX7_loop_67 bp_m4 ?_
              obtain ⟨rfl, rfl⟩ := so_2 hf
              exact hRet _ _ _ dX7_loop_69 rfl
          · replace hf := o_pos hf c17
            refine r_iconst hC dX7_loop_53 ic_m1 ?_
            obtain ⟨rfl, rfl⟩ := so_2 hf
            exact hRet _ _ _ dX7_loop_54 rfl
        · replace hf := o_pos hf c14
          refine r_iconst hC dX7_loop_39 ic_m1 ?_
          obtain ⟨rfl, rfl⟩ := so_2 hf
          exact hRet _ _ _ dX7_loop_40 rfl
noncomputable def fX7_bestLoop_L68 (N : Nat) (c5_legs : Int32) (c5_ways : Nat → Int32) (c5_units : Nat → Int32) (r10 : Int32) (x21 : Int32) (K121_30 : Int32 → Int32 → Int32 → (Nat → Int32) → Option (Int32 × Int32 × (Nat → Int32))) : Nat → Int32 → Int32 → Int32 → Int32 → (Nat → Int32) → Option (Int32 × Int32 × (Nat → Int32))
  | 0, _, _, _, _, _ => none
  | n + 1, x31, x32, x33, x34, s35 => (if 6 ≤ x34 then K121_30 x31 x32 x33 s35 else ob2 (fX5_leastLoop N c5_legs c5_ways c5_units s35 x21 x34 r10) (fun (r37 : Int32) (s38 : Nat → Int32) => ob3 ((if r37 = (-9) then some (x31, x32, x33) else (if x33 ≤ r37 then some (x31, x32, x33) else some (x21, x34, r37)))) (fun (x40 : Int32) (x41 : Int32) (x42 : Int32) => fX7_bestLoop_L68 N c5_legs c5_ways c5_units r10 x21 K121_30 n x40 x41 x42 (x34 + 1) s38)))
noncomputable def fX7_bestLoop_L53 (N : Nat) (c5_legs : Int32) (c5_ways : Nat → Int32) (c5_units : Nat → Int32) (r10 : Int32) (K127_16 : Int32 → Int32 → Int32 → (Nat → Int32) → Option (Int32 × Int32 × (Nat → Int32))) : Nat → Int32 → Int32 → Int32 → Int32 → (Nat → Int32) → Option (Int32 × Int32 × (Nat → Int32))
  | 0, _, _, _, _, _ => none
  | n + 1, x18, x19, x20, x21, s22 => ob (fX5_legs c5_legs) (fun (r23 : Int32) => (if r23 ≤ x21 then K127_16 x18 x19 x20 s22 else oj (fun (x26 : Int32) (x27 : Int32) (x28 : Int32) (s29 : Nat → Int32) => fX7_bestLoop_L53 N c5_legs c5_ways c5_units r10 K127_16 n x26 x27 x28 (x21 + 1) s29) (fun (K121_30 : Int32 → Int32 → Int32 → (Nat → Int32) → Option (Int32 × Int32 × (Nat → Int32))) => fX7_bestLoop_L68 N c5_legs c5_ways c5_units r10 x21 K121_30 N x18 x19 x20 0 s22)))
noncomputable def fX7_bestLoop (N : Nat) (c7_lastAsked : Int32) (c5_legs : Int32) (c5_length : Int32) (c5_ways : Nat → Int32) (c5_units : Nat → Int32) (c5_stuffOf : Nat → Int32) (c5_point : Nat → Int32) (c6_bytes : Nat → Int32) (c6_sizes : Nat → Int32) (p1 : Int32) (p2 : Int32) : Option (Int32 × Int32 × (Nat → Int32)) := ob (fX7_isStep p1) (fun (r1 : Int32) => (if r1 = 0 then some ((-1), c7_lastAsked, c5_point) else ob (fX7_isThickness p2) (fun (r4 : Int32) => (if r4 = 0 then some ((-1), c7_lastAsked, c5_point) else ob (fX5_legs c5_legs) (fun (r7 : Int32) => (if r7 = 0 then some ((-4), c7_lastAsked, c5_point) else ob (fX5_firstSoft N c5_legs c5_length c5_ways c5_units c5_stuffOf c6_bytes c6_sizes p1 p2) (fun (r10 : Int32) => oj (fun (x12 : Int32) (x13 : Int32) (x14 : Int32) (s15 : Nat → Int32) => (if x12 = (-9) then some (x12, c7_lastAsked, s15) else some (x12, (x14 + (100 * x13)), s15))) (fun (K127_16 : Int32 → Int32 → Int32 → (Nat → Int32) → Option (Int32 × Int32 × (Nat → Int32))) => fX7_bestLoop_L53 N c5_legs c5_ways c5_units r10 K127_16 N (-9) 0 21 0 c5_point))))))))
theorem ydX7_bestLoop : yX7_bestLoop.cls = RX7 ∧ yX7_bestLoop.cls ≠ "java/lang/invoke/MethodHandle" ∧ yX7_bestLoop.cls ≠ "java/lang/invoke/VarHandle" ∧ (parseMethodDescriptor yX7_bestLoop.desc).map (fun d => d.parameters.length) = some 2 := by decide +kernel
set_option maxHeartbeats 8000000 in
set_option maxRecDepth 100000 in
theorem kX7_bestLoop (l : Launch) (D : va_G) (cy : Nat → ClassId) (ad : Nat → Nat) (c7_lastFound : Int32) (c7_lastAsked : Int32) (c7_found : Nat → Int32) (c4_made : Int32) (c4_kinds : Nat → Int32) (c4_places : Nat → Int32) (c4_rates : Nat → Int32) (c4_readings : Nat → Int32) (c4_bearing : Nat → Int32) (c5_legs : Int32) (c5_length : Int32) (c5_ways : Nat → Int32) (c5_units : Nat → Int32) (c5_stuffOf : Nat → Int32) (c5_point : Nat → Int32) (c6_bytes : Nat → Int32) (c6_sizes : Nat → Int32) (c6_weights : Nat → Int32) (c3_size : Int32) (c3_rates : Nat → Int32) (c0_amounts : Nat → Int32) (c0_lows : Nat → Int32) (c0_highs : Nat → Int32) (c0_barred : Nat → Int32) (c1_lines : Int32) (c1_parts : Int64) (c2_above : Int64) (c2_below : Int64) (p1 : Int32) (p2 : Int32) (N : Nat) {ra : Int32} {z7_lastAsked : Int32} {z5_point : Nat → Int32} (hf : fX7_bestLoop N c7_lastAsked c5_legs c5_length c5_ways c5_units c5_stuffOf c5_point c6_bytes c6_sizes p1 p2 = some (ra, z7_lastAsked, z5_point)) : CI l D cy yX7_bestLoop wsX7_bestLoop ({ frames := 6, cells := 0, slots := 0, locals := 144 } : Room) [.ref (ad 70), .int p1, .int p2] (w7 cy ad c7_lastFound c7_lastAsked c7_found c4_made c4_kinds c4_places c4_rates c4_readings c4_bearing c5_legs c5_length c5_ways c5_units c5_stuffOf c5_point c6_bytes c6_sizes c6_weights c3_size c3_rates c0_amounts c0_lows c0_highs c0_barred c1_lines c1_parts c2_above c2_below) ra (w7 cy ad c7_lastFound z7_lastAsked c7_found c4_made c4_kinds c4_places c4_rates c4_readings c4_bearing c5_legs c5_length c5_ways c5_units c5_stuffOf z5_point c6_bytes c6_sizes c6_weights c3_size c3_rates c0_amounts c0_lows c0_highs c0_barred c1_lines c1_parts c2_above c2_below) := by
  unfold fX7_bestLoop at hf
  refine c_of_i (ty := .int) (own := RX7) (by decide) rfl rfl (Nat.le_of_ble_eq_true rfl) (fun X hC hRet => ?_)
  refine r_sub [(0, .ref (ad 70)), (1, .int p1), (2, .int p2)] [0, 1, 2] rfl ?_
  have hin7 : ∀ w ∈ wsX70, w ∈ wsX7_bestLoop := fun w h => List.mem_cons_of_mem _ (List.mem_append_left _ (List.mem_append_left _ (List.mem_append_right _ h)))
  have hw0 : Cond.fieldLink RX7 21 "HotPipes" "run" "LHotPipes$Run;" ∈ wsX7_bestLoop := List.mem_of_getElem? (i := 1) rfl
  have hw1 : Cond.fieldLink RX7 70 "HotPipes" "lastAsked" "I" ∈ wsX7_bestLoop := List.mem_of_getElem? (i := 2) rfl
  refine r_iload_n hC dX7_bestLoop_0 rfl 1 rfl ?_
  obtain ⟨r1, h2, hf⟩ := ob_some hf
  refine r_si (st := []) hC (kX7_isStep l D cy p1 h2) gX7_bestLoop_X7_isStep rfl ⟨rfl, rfl⟩ ydX7_isStep ⟨Nat.le_of_ble_eq_true rfl, Nat.le_of_ble_eq_true rfl⟩ ⟨Nat.le_refl 0, Nat.le_refl 0⟩ _ rfl (Nat.le_of_ble_eq_true rfl) dX7_bestLoop_1 ?_
  refine r_if_eq (tgt := 14) hC dX7_bestLoop_4 (by decide) (fun c3 => ?_) (fun c3 => ?_)
  · replace hf := o_pos hf c3
    refine r_iconst hC dX7_bestLoop_14 ic_m1 ?_
    obtain ⟨rfl, rfl, rfl⟩ := so_3 hf
    exact hRet _ _ _ dX7_bestLoop_15 rfl
  · replace hf := o_neg hf c3
    refine r_iload_n hC dX7_bestLoop_7 rfl 2 rfl ?_
    obtain ⟨r4, h5, hf⟩ := ob_some hf
    refine r_si (st := []) hC (kX7_isThickness l D cy p2 h5) gX7_bestLoop_X7_isThickness rfl ⟨rfl, rfl⟩ ydX7_isThickness ⟨Nat.le_of_ble_eq_true rfl, Nat.le_of_ble_eq_true rfl⟩ ⟨Nat.le_refl 0, Nat.le_refl 0⟩ _ rfl (Nat.le_of_ble_eq_true rfl) dX7_bestLoop_8 ?_
    refine r_if_ne (tgt := 16) hC dX7_bestLoop_11 (by decide) (fun c6 => ?_) (fun c6 => ?_)
    · replace hf := o_neg hf c6
      refine r_aload_n hC dX7_bestLoop_16 rfl 0 rfl ?_
      refine r_get hC hin7 0 rfl rfl 1 (by decide) rfl hw0 rfl dX7_bestLoop_17 ?_
      obtain ⟨r7, h8, hf⟩ := ob_some hf
      refine r_vi (st := []) hC (kX5_legs l D cy ad c5_legs c5_length c5_ways c5_units c5_stuffOf c5_point c6_bytes c6_sizes c6_weights  h8) gX7_bestLoop_X5_legs rfl ⟨rfl, rfl⟩ ydX5_legs ⟨Nat.le_of_ble_eq_true rfl, Nat.le_of_ble_eq_true rfl⟩ ⟨Nat.le_refl 0, Nat.le_refl 0⟩ 0 rfl rfl (v7 cy ad c7_lastFound c7_lastAsked c7_found ++ (v4 cy ad c4_made c4_kinds c4_places c4_rates c4_readings c4_bearing)) (w3 cy ad c3_size c3_rates ++ (w0 cy ad c0_amounts c0_lows c0_highs c0_barred ++ (w1 cy ad c1_lines c1_parts ++ (w2 cy ad c2_above c2_below)))) rfl _ rfl (Nat.le_of_ble_eq_true rfl) dX7_bestLoop_20 (w7 cy ad c7_lastFound c7_lastAsked c7_found c4_made c4_kinds c4_places c4_rates c4_readings c4_bearing c5_legs c5_length c5_ways c5_units c5_stuffOf c5_point c6_bytes c6_sizes c6_weights c3_size c3_rates c0_amounts c0_lows c0_highs c0_barred c1_lines c1_parts c2_above c2_below) rfl ?_
      refine r_if_ne (tgt := 29) hC dX7_bestLoop_23 (by decide) (fun c9 => ?_) (fun c9 => ?_)
      · replace hf := o_neg hf c9
        refine r_aload_n hC dX7_bestLoop_29 rfl 0 rfl ?_
        refine r_get hC hin7 0 rfl rfl 1 (by decide) rfl hw0 rfl dX7_bestLoop_30 ?_
        refine r_iload_n hC dX7_bestLoop_33 rfl 1 rfl ?_
        refine r_iload_n hC dX7_bestLoop_34 rfl 2 rfl ?_
        obtain ⟨r10, h11, hf⟩ := ob_some hf
        refine r_vi (st := []) hC (kX5_firstSoft l D cy ad c5_legs c5_length c5_ways c5_units c5_stuffOf c5_point c6_bytes c6_sizes c6_weights p1 p2 N h11) gX7_bestLoop_X5_firstSoft rfl ⟨rfl, rfl⟩ ydX5_firstSoft ⟨Nat.le_of_ble_eq_true rfl, Nat.le_of_ble_eq_true rfl⟩ ⟨Nat.le_refl 0, Nat.le_refl 0⟩ 0 rfl rfl (v7 cy ad c7_lastFound c7_lastAsked c7_found ++ (v4 cy ad c4_made c4_kinds c4_places c4_rates c4_readings c4_bearing)) (w3 cy ad c3_size c3_rates ++ (w0 cy ad c0_amounts c0_lows c0_highs c0_barred ++ (w1 cy ad c1_lines c1_parts ++ (w2 cy ad c2_above c2_below)))) rfl _ rfl (Nat.le_of_ble_eq_true rfl) dX7_bestLoop_35 (w7 cy ad c7_lastFound c7_lastAsked c7_found c4_made c4_kinds c4_places c4_rates c4_readings c4_bearing c5_legs c5_length c5_ways c5_units c5_stuffOf c5_point c6_bytes c6_sizes c6_weights c3_size c3_rates c0_amounts c0_lows c0_highs c0_barred c1_lines c1_parts c2_above c2_below) rfl ?_
        refine r_istore_n hC [(3, .int r10), (0, .ref (ad 70)), (1, .int p1), (2, .int p2)] dX7_bestLoop_38 rfl (by decide) rfl ?_
        refine r_bipush hC dX7_bestLoop_39 bp_m9 ?_
        refine r_istore hC [(4, .int (-9)), (3, .int r10), (0, .ref (ad 70)), (1, .int p1), (2, .int p2)] dX7_bestLoop_41 (by decide) rfl ?_
        refine r_iconst hC dX7_bestLoop_43 ic_0 ?_
        refine r_istore hC [(5, .int 0), (4, .int (-9)), (3, .int r10), (0, .ref (ad 70)), (1, .int p1), (2, .int p2)] dX7_bestLoop_44 (by decide) rfl ?_
        refine r_bipush hC dX7_bestLoop_46 bp_21 ?_
        refine r_istore hC [(6, .int 21), (5, .int 0), (4, .int (-9)), (3, .int r10), (0, .ref (ad 70)), (1, .int p1), (2, .int p2)] dX7_bestLoop_48 (by decide) rfl ?_
        refine r_iconst hC dX7_bestLoop_50 ic_0 ?_
        refine r_istore hC [(7, .int 0), (6, .int 21), (5, .int 0), (4, .int (-9)), (3, .int r10), (0, .ref (ad 70)), (1, .int p1), (2, .int p2)] dX7_bestLoop_51 (by decide) rfl ?_
        obtain ⟨K127_16, eK127_16, hf⟩ := oj_some hf
        have J127_16 : ∀ (x12 : Int32) (x13 : Int32) (x14 : Int32) (s15 : Nat → Int32), K127_16 x12 x13 x14 s15 = some (ra, z7_lastAsked, z5_point) → GG X 10 0 0 (w7 cy ad c7_lastFound c7_lastAsked c7_found c4_made c4_kinds c4_places c4_rates c4_readings c4_bearing c5_legs c5_length c5_ways c5_units c5_stuffOf s15 c6_bytes c6_sizes c6_weights c3_size c3_rates c0_amounts c0_lows c0_highs c0_barred c1_lines c1_parts c2_above c2_below) [(0, .ref (ad 70)), (4, .int x12), (5, .int x13), (6, .int x14)] 127 [] := by
          intro x12 x13 x14 s15 hf
          replace hf := oa4 eK127_16 hf
          refine r_iload hC dX7_bestLoop_127 1 rfl ?_
          refine r_bipush hC dX7_bestLoop_129 bp_m9 ?_
          refine r_icmp_eq (tgt := 146) hC dX7_bestLoop_131 (by decide) (fun c17 => ?_) (fun c17 => ?_)
          · replace hf := o_pos hf c17
            refine r_iload hC dX7_bestLoop_146 1 rfl ?_
            obtain ⟨rfl, rfl, rfl⟩ := so_3 hf
            exact hRet _ _ _ dX7_bestLoop_148 rfl
          · replace hf := o_neg hf c17
            refine r_aload_n hC dX7_bestLoop_134 rfl 0 rfl ?_
            refine r_iload hC dX7_bestLoop_135 3 rfl ?_
            refine r_bipush hC dX7_bestLoop_137 bp_100 ?_
            refine r_iload hC dX7_bestLoop_139 2 rfl ?_
            refine r_imul hC dX7_bestLoop_141 ?_
            refine r_iadd hC dX7_bestLoop_142 ?_
            refine r_put (ty := .int) hC hin7 tyX7_ok nmX7 0 rfl rfl 9 (by decide) rfl hw1 rfl rfl rfl rfl (Nat.le_of_ble_eq_true rfl) dX7_bestLoop_143 (w7 cy ad c7_lastFound (x14 + (100 * x13)) c7_found c4_made c4_kinds c4_places c4_rates c4_readings c4_bearing c5_legs c5_length c5_ways c5_units c5_stuffOf s15 c6_bytes c6_sizes c6_weights c3_size c3_rates c0_amounts c0_lows c0_highs c0_barred c1_lines c1_parts c2_above c2_below) rfl ?_
            refine r_iload hC dX7_bestLoop_146 1 rfl ?_
            obtain ⟨rfl, rfl, rfl⟩ := so_3 hf
            exact hRet _ _ _ dX7_bestLoop_148 rfl
        have L53 : ∀ (n : Nat) (x18 : Int32) (x19 : Int32) (x20 : Int32) (x21 : Int32) (s22 : Nat → Int32), fX7_bestLoop_L53 N c5_legs c5_ways c5_units r10 K127_16 n x18 x19 x20 x21 s22 = some (ra, z7_lastAsked, z5_point) → GG X 10 0 0 (w7 cy ad c7_lastFound c7_lastAsked c7_found c4_made c4_kinds c4_places c4_rates c4_readings c4_bearing c5_legs c5_length c5_ways c5_units c5_stuffOf s22 c6_bytes c6_sizes c6_weights c3_size c3_rates c0_amounts c0_lows c0_highs c0_barred c1_lines c1_parts c2_above c2_below) [(0, .ref (ad 70)), (3, .int r10), (4, .int x18), (5, .int x19), (6, .int x20), (7, .int x21)] 53 [] := by
          intro n
          induction n with
          | zero => intro x18 x19 x20 x21 s22 hf; cases (show none = some _ from hf)
          | succ n ih =>
            intro x18 x19 x20 x21 s22 hf
            rw [fX7_bestLoop_L53] at hf
            refine r_iload hC dX7_bestLoop_53 5 rfl ?_
            refine r_aload_n hC dX7_bestLoop_55 rfl 0 rfl ?_
            refine r_get hC hin7 0 rfl rfl 1 (by decide) rfl hw0 rfl dX7_bestLoop_56 ?_
            obtain ⟨r23, h24, hf⟩ := ob_some hf
            refine r_vi (st := [.int x21]) hC (kX5_legs l D cy ad c5_legs c5_length c5_ways c5_units c5_stuffOf s22 c6_bytes c6_sizes c6_weights  h24) gX7_bestLoop_X5_legs rfl ⟨rfl, rfl⟩ ydX5_legs ⟨Nat.le_of_ble_eq_true rfl, Nat.le_of_ble_eq_true rfl⟩ ⟨Nat.le_refl 0, Nat.le_refl 0⟩ 0 rfl rfl (v7 cy ad c7_lastFound c7_lastAsked c7_found ++ (v4 cy ad c4_made c4_kinds c4_places c4_rates c4_readings c4_bearing)) (w3 cy ad c3_size c3_rates ++ (w0 cy ad c0_amounts c0_lows c0_highs c0_barred ++ (w1 cy ad c1_lines c1_parts ++ (w2 cy ad c2_above c2_below)))) rfl _ rfl (Nat.le_of_ble_eq_true rfl) dX7_bestLoop_59 (w7 cy ad c7_lastFound c7_lastAsked c7_found c4_made c4_kinds c4_places c4_rates c4_readings c4_bearing c5_legs c5_length c5_ways c5_units c5_stuffOf s22 c6_bytes c6_sizes c6_weights c3_size c3_rates c0_amounts c0_lows c0_highs c0_barred c1_lines c1_parts c2_above c2_below) rfl ?_
            refine r_icmp_ge (tgt := 127) hC dX7_bestLoop_62 (by decide) (fun c25 => ?_) (fun c25 => ?_)
            · replace hf := o_pos hf c25
              refine r_sub [(0, .ref (ad 70)), (4, .int x18), (5, .int x19), (6, .int x20)] [0, 2, 3, 4] rfl ?_
              exact J127_16 x18 x19 x20 s22 hf
            · replace hf := o_neg hf c25
              refine r_iconst hC dX7_bestLoop_65 ic_0 ?_
              refine r_istore hC [(8, .int 0), (0, .ref (ad 70)), (3, .int r10), (4, .int x18), (5, .int x19), (6, .int x20), (7, .int x21)] dX7_bestLoop_66 (by decide) rfl ?_
              obtain ⟨K121_30, eK121_30, hf⟩ := oj_some hf
              have J121_30 : ∀ (x26 : Int32) (x27 : Int32) (x28 : Int32) (s29 : Nat → Int32), K121_30 x26 x27 x28 s29 = some (ra, z7_lastAsked, z5_point) → GG X 10 0 0 (w7 cy ad c7_lastFound c7_lastAsked c7_found c4_made c4_kinds c4_places c4_rates c4_readings c4_bearing c5_legs c5_length c5_ways c5_units c5_stuffOf s29 c6_bytes c6_sizes c6_weights c3_size c3_rates c0_amounts c0_lows c0_highs c0_barred c1_lines c1_parts c2_above c2_below) [(0, .ref (ad 70)), (3, .int r10), (4, .int x26), (5, .int x27), (6, .int x28), (7, .int x21)] 121 [] := by
                intro x26 x27 x28 s29 hf
                replace hf := oa4 eK121_30 hf
                refine r_iinc hC [(7, .int (x21 + 1)), (0, .ref (ad 70)), (3, .int r10), (4, .int x26), (5, .int x27), (6, .int x28)] (x21 + 1) dX7_bestLoop_121 5 rfl (ii_1 _) (by decide) rfl ?_
                refine r_goto (tgt := 53) hC dX7_bestLoop_124 (by decide) ?_
                refine r_sub [(0, .ref (ad 70)), (3, .int r10), (4, .int x26), (5, .int x27), (6, .int x28), (7, .int (x21 + 1))] [1, 2, 3, 4, 5, 0] rfl ?_
                exact ih x26 x27 x28 (x21 + 1) s29 hf
              have L68 : ∀ (n : Nat) (x31 : Int32) (x32 : Int32) (x33 : Int32) (x34 : Int32) (s35 : Nat → Int32), fX7_bestLoop_L68 N c5_legs c5_ways c5_units r10 x21 K121_30 n x31 x32 x33 x34 s35 = some (ra, z7_lastAsked, z5_point) → GG X 10 0 0 (w7 cy ad c7_lastFound c7_lastAsked c7_found c4_made c4_kinds c4_places c4_rates c4_readings c4_bearing c5_legs c5_length c5_ways c5_units c5_stuffOf s35 c6_bytes c6_sizes c6_weights c3_size c3_rates c0_amounts c0_lows c0_highs c0_barred c1_lines c1_parts c2_above c2_below) [(0, .ref (ad 70)), (3, .int r10), (4, .int x31), (5, .int x32), (6, .int x33), (7, .int x21), (8, .int x34)] 68 [] := by
                intro n
                induction n with
                | zero => intro x31 x32 x33 x34 s35 hf; cases (show none = some _ from hf)
                | succ n ih =>
                  intro x31 x32 x33 x34 s35 hf
                  rw [fX7_bestLoop_L68] at hf
                  refine r_iload hC dX7_bestLoop_68 6 rfl ?_
                  refine r_bipush hC dX7_bestLoop_70 bp_6 ?_
                  refine r_icmp_ge (tgt := 121) hC dX7_bestLoop_72 (by decide) (fun c36 => ?_) (fun c36 => ?_)
                  · replace hf := o_pos hf c36
                    refine r_sub [(0, .ref (ad 70)), (3, .int r10), (4, .int x31), (5, .int x32), (6, .int x33), (7, .int x21)] [0, 1, 2, 3, 4, 5] rfl ?_
                    exact J121_30 x31 x32 x33 s35 hf
                  · replace hf := o_neg hf c36
                    refine r_aload_n hC dX7_bestLoop_75 rfl 0 rfl ?_
                    refine r_get hC hin7 0 rfl rfl 1 (by decide) rfl hw0 rfl dX7_bestLoop_76 ?_
                    refine r_iload hC dX7_bestLoop_79 5 rfl ?_
                    refine r_iload hC dX7_bestLoop_81 6 rfl ?_
                    refine r_iload_n hC dX7_bestLoop_83 rfl 1 rfl ?_
                    obtain ⟨r37, s38, h39, hf⟩ := ob2_some hf
                    refine r_vi (st := []) hC (kX5_leastLoop l D cy ad c5_legs c5_length c5_ways c5_units c5_stuffOf s35 c6_bytes c6_sizes c6_weights x21 x34 r10 N h39) gX7_bestLoop_X5_leastLoop rfl ⟨rfl, rfl⟩ ydX5_leastLoop ⟨Nat.le_of_ble_eq_true rfl, Nat.le_of_ble_eq_true rfl⟩ ⟨Nat.le_refl 0, Nat.le_refl 0⟩ 0 rfl rfl (v7 cy ad c7_lastFound c7_lastAsked c7_found ++ (v4 cy ad c4_made c4_kinds c4_places c4_rates c4_readings c4_bearing)) (w3 cy ad c3_size c3_rates ++ (w0 cy ad c0_amounts c0_lows c0_highs c0_barred ++ (w1 cy ad c1_lines c1_parts ++ (w2 cy ad c2_above c2_below)))) rfl _ rfl (Nat.le_of_ble_eq_true rfl) dX7_bestLoop_84 (w7 cy ad c7_lastFound c7_lastAsked c7_found c4_made c4_kinds c4_places c4_rates c4_readings c4_bearing c5_legs c5_length c5_ways c5_units c5_stuffOf s38 c6_bytes c6_sizes c6_weights c3_size c3_rates c0_amounts c0_lows c0_highs c0_barred c1_lines c1_parts c2_above c2_below) rfl ?_
                    refine r_istore hC [(9, .int r37), (0, .ref (ad 70)), (3, .int r10), (4, .int x31), (5, .int x32), (6, .int x33), (7, .int x21), (8, .int x34)] dX7_bestLoop_87 (by decide) rfl ?_
                    refine r_iload hC dX7_bestLoop_89 0 rfl ?_
                    refine r_bipush hC dX7_bestLoop_91 bp_m9 ?_
                    obtain ⟨x40, x41, x42, h44, hf⟩ := ob3_some hf
                    have J115_43 : GG X 10 0 0 (w7 cy ad c7_lastFound c7_lastAsked c7_found c4_made c4_kinds c4_places c4_rates c4_readings c4_bearing c5_legs c5_length c5_ways c5_units c5_stuffOf s38 c6_bytes c6_sizes c6_weights c3_size c3_rates c0_amounts c0_lows c0_highs c0_barred c1_lines c1_parts c2_above c2_below) [(0, .ref (ad 70)), (3, .int r10), (4, .int x40), (5, .int x41), (6, .int x42), (7, .int x21), (8, .int x34)] 115 [] := by
                      refine r_iinc hC [(8, .int (x34 + 1)), (0, .ref (ad 70)), (3, .int r10), (4, .int x40), (5, .int x41), (6, .int x42), (7, .int x21)] (x34 + 1) dX7_bestLoop_115 6 rfl (ii_1 _) (by decide) rfl ?_
                      refine r_goto (tgt := 68) hC dX7_bestLoop_118 (by decide) ?_
                      refine r_sub [(0, .ref (ad 70)), (3, .int r10), (4, .int x40), (5, .int x41), (6, .int x42), (7, .int x21), (8, .int (x34 + 1))] [1, 2, 3, 4, 5, 6, 0] rfl ?_
                      exact ih x40 x41 x42 (x34 + 1) s38 hf
                    replace hf := h44
                    refine r_icmp_eq (tgt := 115) hC dX7_bestLoop_93 (by decide) (fun c45 => ?_) (fun c45 => ?_)
                    · replace hf := o_pos hf c45
                      obtain ⟨rfl, rfl, rfl⟩ := so_3 hf
                      refine r_sub [(0, .ref (ad 70)), (3, .int r10), (4, .int x31), (5, .int x32), (6, .int x33), (7, .int x21), (8, .int x34)] [1, 2, 3, 4, 5, 6, 7] rfl ?_
                      exact J115_43
                    · replace hf := o_neg hf c45
                      refine r_iload hC dX7_bestLoop_96 0 rfl ?_
                      refine r_iload hC dX7_bestLoop_98 5 rfl ?_
                      refine r_icmp_ge (tgt := 115) hC dX7_bestLoop_100 (by decide) (fun c46 => ?_) (fun c46 => ?_)
                      · replace hf := o_pos hf c46
                        obtain ⟨rfl, rfl, rfl⟩ := so_3 hf
                        refine r_sub [(0, .ref (ad 70)), (3, .int r10), (4, .int x31), (5, .int x32), (6, .int x33), (7, .int x21), (8, .int x34)] [1, 2, 3, 4, 5, 6, 7] rfl ?_
                        exact J115_43
                      · replace hf := o_neg hf c46
                        refine r_iload hC dX7_bestLoop_103 6 rfl ?_
                        refine r_istore hC [(4, .int x21), (9, .int r37), (0, .ref (ad 70)), (3, .int r10), (5, .int x32), (6, .int x33), (7, .int x21), (8, .int x34)] dX7_bestLoop_105 (by decide) rfl ?_
                        refine r_iload hC dX7_bestLoop_107 7 rfl ?_
                        refine r_istore hC [(5, .int x34), (4, .int x21), (9, .int r37), (0, .ref (ad 70)), (3, .int r10), (6, .int x33), (7, .int x21), (8, .int x34)] dX7_bestLoop_109 (by decide) rfl ?_
                        refine r_iload hC dX7_bestLoop_111 2 rfl ?_
                        refine r_istore hC [(6, .int r37), (5, .int x34), (4, .int x21), (9, .int r37), (0, .ref (ad 70)), (3, .int r10), (7, .int x21), (8, .int x34)] dX7_bestLoop_113 (by decide) rfl ?_
                        obtain ⟨rfl, rfl, rfl⟩ := so_3 hf
                        refine r_sub [(0, .ref (ad 70)), (3, .int r10), (4, .int x21), (5, .int x34), (6, .int r37), (7, .int x21), (8, .int x34)] [4, 5, 2, 1, 0, 6, 7] rfl ?_
                        exact J115_43
              refine r_sub [(0, .ref (ad 70)), (3, .int r10), (4, .int x18), (5, .int x19), (6, .int x20), (7, .int x21), (8, .int 0)] [1, 2, 3, 4, 5, 6, 0] rfl ?_
              exact L68 N x18 x19 x20 0 s22 hf
        refine r_sub [(0, .ref (ad 70)), (3, .int r10), (4, .int (-9)), (5, .int 0), (6, .int 21), (7, .int 0)] [5, 4, 3, 2, 1, 0] rfl ?_
        exact L53 N (-9) 0 21 0 c5_point hf
      · replace hf := o_pos hf c9
        refine r_bipush hC dX7_bestLoop_26 bp_m4 ?_
        obtain ⟨rfl, rfl, rfl⟩ := so_3 hf
        exact hRet _ _ _ dX7_bestLoop_28 rfl
    · replace hf := o_pos hf c6
      refine r_iconst hC dX7_bestLoop_14 ic_m1 ?_
      obtain ⟨rfl, rfl, rfl⟩ := so_3 hf
      exact hRet _ _ _ dX7_bestLoop_15 rfl
noncomputable def fX7_isKind (p1 : Int32) : Option (Int32) := ob (fX7_isWithin p1 0 3) (fun (r1 : Int32) => og (r1 = 0 ∨ r1 = 1) (some r1))
theorem ydX7_isKind : yX7_isKind.cls ≠ "java/lang/invoke/MethodHandle" ∧ yX7_isKind.cls ≠ "java/lang/invoke/VarHandle" ∧ (parseMethodDescriptor yX7_isKind.desc).map (fun d => d.parameters.length) = some 1 := by decide +kernel
set_option maxHeartbeats 8000000 in
set_option maxRecDepth 100000 in
theorem kX7_isKind (l : Launch) (D : va_G) (cy : Nat → ClassId) (p1 : Int32) {ra : Int32} (hf : fX7_isKind p1 = some ra) : CI l D cy yX7_isKind wsX7_isKind ({ frames := 1, cells := 0, slots := 0, locals := 22 } : Room) [.int p1] [] ra [] := by
  unfold fX7_isKind at hf
  refine c_of_i (ty := .boolean) (own := RX7) (by decide) rfl rfl (Nat.le_of_ble_eq_true rfl) (fun X hC hRet => ?_)
  refine r_sub [(0, .int p1)] [0] rfl ?_
  refine r_iload_n hC dX7_isKind_0 rfl 0 rfl ?_
  refine r_iconst hC dX7_isKind_1 ic_0 ?_
  refine r_iconst hC dX7_isKind_2 ic_3 ?_
  obtain ⟨r1, h2, hf⟩ := ob_some hf
  refine r_si (st := []) hC (kX7_isWithin l D cy p1 0 3 h2) gX7_isKind_X7_isWithin rfl ⟨rfl, rfl⟩ ydX7_isWithin ⟨Nat.le_of_ble_eq_true rfl, Nat.le_of_ble_eq_true rfl⟩ ⟨Nat.le_refl 0, Nat.le_refl 0⟩ _ rfl (Nat.le_of_ble_eq_true rfl) dX7_isKind_3 ?_
  obtain ⟨g3, hf⟩ := og_some hf
  obtain rfl := so_1 hf
  exact hRet _ _ _ dX7_isKind_6 (nb_of g3)
noncomputable def fX7_isRate (p1 : Int32) : Option (Int32) := ob (fX7_isWithin p1 1 500) (fun (r1 : Int32) => og (r1 = 0 ∨ r1 = 1) (some r1))
theorem ydX7_isRate : yX7_isRate.cls ≠ "java/lang/invoke/MethodHandle" ∧ yX7_isRate.cls ≠ "java/lang/invoke/VarHandle" ∧ (parseMethodDescriptor yX7_isRate.desc).map (fun d => d.parameters.length) = some 1 := by decide +kernel
set_option maxHeartbeats 8000000 in
set_option maxRecDepth 100000 in
theorem kX7_isRate (l : Launch) (D : va_G) (cy : Nat → ClassId) (p1 : Int32) {ra : Int32} (hf : fX7_isRate p1 = some ra) : CI l D cy yX7_isRate wsX7_isRate ({ frames := 1, cells := 0, slots := 0, locals := 22 } : Room) [.int p1] [] ra [] := by
  unfold fX7_isRate at hf
  refine c_of_i (ty := .boolean) (own := RX7) (by decide) rfl rfl (Nat.le_of_ble_eq_true rfl) (fun X hC hRet => ?_)
  refine r_sub [(0, .int p1)] [0] rfl ?_
  refine r_iload_n hC dX7_isRate_0 rfl 0 rfl ?_
  refine r_iconst hC dX7_isRate_1 ic_1 ?_
  refine r_sipush hC dX7_isRate_2 sp_500 ?_
  obtain ⟨r1, h2, hf⟩ := ob_some hf
  refine r_si (st := []) hC (kX7_isWithin l D cy p1 1 500 h2) gX7_isRate_X7_isWithin rfl ⟨rfl, rfl⟩ ydX7_isWithin ⟨Nat.le_of_ble_eq_true rfl, Nat.le_of_ble_eq_true rfl⟩ ⟨Nat.le_refl 0, Nat.le_refl 0⟩ _ rfl (Nat.le_of_ble_eq_true rfl) dX7_isRate_5 ?_
  obtain ⟨g3, hf⟩ := og_some hf
  obtain rfl := so_1 hf
  exact hRet _ _ _ dX7_isRate_8 (nb_of g3)
noncomputable def fX7_rest (N : Nat) (c4_made : Int32) (c4_kinds : Nat → Int32) (c4_places : Nat → Int32) (c4_rates : Nat → Int32) (c4_readings : Nat → Int32) (c5_length : Int32) (p1 : Int32) (p2 : Int32) (p3 : Int32) : Option (Int32 × Int32 × (Nat → Int32) × (Nat → Int32) × (Nat → Int32) × (Nat → Int32)) := ob (fX7_isKind p1) (fun (r1 : Int32) => (if r1 = 0 then some ((-1), c4_made, c4_kinds, c4_places, c4_rates, c4_readings) else ob (fX5_length c5_length) (fun (r4 : Int32) => ob (fX7_isWithin p2 1 (r4 - 1)) (fun (r6 : Int32) => (if r6 = 0 then some ((-1), c4_made, c4_kinds, c4_places, c4_rates, c4_readings) else ob (fX4_isTaken N c4_made c4_kinds c4_places p2) (fun (r9 : Int32) => (if r9 = 0 then oj (ob (fX4_made c4_made) (fun (r13 : Int32) => (if r13 < 12 then ob ((if p1 = 2 then some p3 else some (-9))) (fun (t16 : Int32) => ob6 (fX4_put c4_made c4_kinds c4_places c4_rates c4_readings p1 p2 t16) (fun (r17 : Int32) (s18 : Int32) (s19 : Nat → Int32) (s20 : Nat → Int32) (s21 : Nat → Int32) (s22 : Nat → Int32) => some (r17, s18, s19, s20, s21, s22))) else some ((-2), c4_made, c4_kinds, c4_places, c4_rates, c4_readings)))) (fun (K51_12 : Option (Int32 × Int32 × (Nat → Int32) × (Nat → Int32) × (Nat → Int32) × (Nat → Int32))) => (if p1 = 2 then ob (fX7_isRate p3) (fun (r28 : Int32) => (if r28 = 0 then some ((-1), c4_made, c4_kinds, c4_places, c4_rates, c4_readings) else K51_12)) else K51_12)) else some ((-1), c4_made, c4_kinds, c4_places, c4_rates, c4_readings))))))))
theorem ydX7_rest : yX7_rest.cls = RX7 ∧ yX7_rest.cls ≠ "java/lang/invoke/MethodHandle" ∧ yX7_rest.cls ≠ "java/lang/invoke/VarHandle" ∧ (parseMethodDescriptor yX7_rest.desc).map (fun d => d.parameters.length) = some 3 := by decide +kernel
set_option maxHeartbeats 8000000 in
set_option maxRecDepth 100000 in
theorem kX7_rest (l : Launch) (D : va_G) (cy : Nat → ClassId) (ad : Nat → Nat) (c7_lastFound : Int32) (c7_lastAsked : Int32) (c7_found : Nat → Int32) (c4_made : Int32) (c4_kinds : Nat → Int32) (c4_places : Nat → Int32) (c4_rates : Nat → Int32) (c4_readings : Nat → Int32) (c4_bearing : Nat → Int32) (c5_legs : Int32) (c5_length : Int32) (c5_ways : Nat → Int32) (c5_units : Nat → Int32) (c5_stuffOf : Nat → Int32) (c5_point : Nat → Int32) (c6_bytes : Nat → Int32) (c6_sizes : Nat → Int32) (c6_weights : Nat → Int32) (c3_size : Int32) (c3_rates : Nat → Int32) (c0_amounts : Nat → Int32) (c0_lows : Nat → Int32) (c0_highs : Nat → Int32) (c0_barred : Nat → Int32) (c1_lines : Int32) (c1_parts : Int64) (c2_above : Int64) (c2_below : Int64) (p1 : Int32) (p2 : Int32) (p3 : Int32) (N : Nat) {ra : Int32} {z4_made : Int32} {z4_kinds : Nat → Int32} {z4_places : Nat → Int32} {z4_rates : Nat → Int32} {z4_readings : Nat → Int32} (hf : fX7_rest N c4_made c4_kinds c4_places c4_rates c4_readings c5_length p1 p2 p3 = some (ra, z4_made, z4_kinds, z4_places, z4_rates, z4_readings)) : CI l D cy yX7_rest wsX7_rest ({ frames := 2, cells := 0, slots := 0, locals := 43 } : Room) [.ref (ad 70), .int p1, .int p2, .int p3] (w7 cy ad c7_lastFound c7_lastAsked c7_found c4_made c4_kinds c4_places c4_rates c4_readings c4_bearing c5_legs c5_length c5_ways c5_units c5_stuffOf c5_point c6_bytes c6_sizes c6_weights c3_size c3_rates c0_amounts c0_lows c0_highs c0_barred c1_lines c1_parts c2_above c2_below) ra (w7 cy ad c7_lastFound c7_lastAsked c7_found z4_made z4_kinds z4_places z4_rates z4_readings c4_bearing c5_legs c5_length c5_ways c5_units c5_stuffOf c5_point c6_bytes c6_sizes c6_weights c3_size c3_rates c0_amounts c0_lows c0_highs c0_barred c1_lines c1_parts c2_above c2_below) := by
  unfold fX7_rest at hf
  refine c_of_i (ty := .int) (own := RX7) (by decide) rfl rfl (Nat.le_of_ble_eq_true rfl) (fun X hC hRet => ?_)
  refine r_sub [(0, .ref (ad 70)), (1, .int p1), (2, .int p2), (3, .int p3)] [0, 1, 2, 3] rfl ?_
  have hin7 : ∀ w ∈ wsX70, w ∈ wsX7_rest := fun w h => List.mem_cons_of_mem _ (List.mem_append_left _ (List.mem_append_left _ (List.mem_append_right _ h)))
  have hw0 : Cond.fieldLink RX7 21 "HotPipes" "run" "LHotPipes$Run;" ∈ wsX7_rest := List.mem_of_getElem? (i := 1) rfl
  have hw1 : Cond.fieldLink RX7 30 "HotPipes" "rests" "LHotPipes$Rests;" ∈ wsX7_rest := List.mem_of_getElem? (i := 2) rfl
  refine r_iload_n hC dX7_rest_0 rfl 1 rfl ?_
  obtain ⟨r1, h2, hf⟩ := ob_some hf
  refine r_si (st := []) hC (kX7_isKind l D cy p1 h2) gX7_rest_X7_isKind rfl ⟨rfl, rfl⟩ ydX7_isKind ⟨Nat.le_of_ble_eq_true rfl, Nat.le_of_ble_eq_true rfl⟩ ⟨Nat.le_refl 0, Nat.le_refl 0⟩ _ rfl (Nat.le_of_ble_eq_true rfl) dX7_rest_1 ?_
  refine r_if_eq (tgt := 35) hC dX7_rest_4 (by decide) (fun c3 => ?_) (fun c3 => ?_)
  · replace hf := o_pos hf c3
    refine r_iconst hC dX7_rest_35 ic_m1 ?_
    obtain ⟨rfl, rfl, rfl, rfl, rfl, rfl⟩ := so_6 hf
    exact hRet _ _ _ dX7_rest_36 rfl
  · replace hf := o_neg hf c3
    refine r_iload_n hC dX7_rest_7 rfl 2 rfl ?_
    refine r_iconst hC dX7_rest_8 ic_1 ?_
    refine r_aload_n hC dX7_rest_9 rfl 0 rfl ?_
    refine r_get hC hin7 0 rfl rfl 1 (by decide) rfl hw0 rfl dX7_rest_10 ?_
    obtain ⟨r4, h5, hf⟩ := ob_some hf
    refine r_vi (st := [.int 1, .int p2]) hC (kX5_length l D cy ad c5_legs c5_length c5_ways c5_units c5_stuffOf c5_point c6_bytes c6_sizes c6_weights  h5) gX7_rest_X5_length rfl ⟨rfl, rfl⟩ ydX5_length ⟨Nat.le_of_ble_eq_true rfl, Nat.le_of_ble_eq_true rfl⟩ ⟨Nat.le_refl 0, Nat.le_refl 0⟩ 0 rfl rfl (v7 cy ad c7_lastFound c7_lastAsked c7_found ++ (v4 cy ad c4_made c4_kinds c4_places c4_rates c4_readings c4_bearing)) (w3 cy ad c3_size c3_rates ++ (w0 cy ad c0_amounts c0_lows c0_highs c0_barred ++ (w1 cy ad c1_lines c1_parts ++ (w2 cy ad c2_above c2_below)))) rfl _ rfl (Nat.le_of_ble_eq_true rfl) dX7_rest_13 (w7 cy ad c7_lastFound c7_lastAsked c7_found c4_made c4_kinds c4_places c4_rates c4_readings c4_bearing c5_legs c5_length c5_ways c5_units c5_stuffOf c5_point c6_bytes c6_sizes c6_weights c3_size c3_rates c0_amounts c0_lows c0_highs c0_barred c1_lines c1_parts c2_above c2_below) rfl ?_
    refine r_iconst hC dX7_rest_16 ic_1 ?_
    refine r_isub hC dX7_rest_17 ?_
    obtain ⟨r6, h7, hf⟩ := ob_some hf
    refine r_si (st := []) hC (kX7_isWithin l D cy p2 1 (r4 - 1) h7) gX7_rest_X7_isWithin rfl ⟨rfl, rfl⟩ ydX7_isWithin ⟨Nat.le_of_ble_eq_true rfl, Nat.le_of_ble_eq_true rfl⟩ ⟨Nat.le_refl 0, Nat.le_refl 0⟩ _ rfl (Nat.le_of_ble_eq_true rfl) dX7_rest_18 ?_
    refine r_if_eq (tgt := 35) hC dX7_rest_21 (by decide) (fun c8 => ?_) (fun c8 => ?_)
    · replace hf := o_pos hf c8
      refine r_iconst hC dX7_rest_35 ic_m1 ?_
      obtain ⟨rfl, rfl, rfl, rfl, rfl, rfl⟩ := so_6 hf
      exact hRet _ _ _ dX7_rest_36 rfl
    · replace hf := o_neg hf c8
      refine r_aload_n hC dX7_rest_24 rfl 0 rfl ?_
      refine r_get hC hin7 0 rfl rfl 2 (by decide) rfl hw1 rfl dX7_rest_25 ?_
      refine r_iload_n hC dX7_rest_28 rfl 2 rfl ?_
      obtain ⟨r9, h10, hf⟩ := ob_some hf
      refine r_vi (st := []) hC (kX4_isTaken l D cy ad c4_made c4_kinds c4_places c4_rates c4_readings c4_bearing c5_legs c5_length c5_ways c5_units c5_stuffOf c5_point c6_bytes c6_sizes c6_weights p2 N h10) gX7_rest_X4_isTaken rfl ⟨rfl, rfl⟩ ydX4_isTaken ⟨Nat.le_of_ble_eq_true rfl, Nat.le_of_ble_eq_true rfl⟩ ⟨Nat.le_refl 0, Nat.le_refl 0⟩ 0 rfl rfl (v7 cy ad c7_lastFound c7_lastAsked c7_found) (w3 cy ad c3_size c3_rates ++ (w0 cy ad c0_amounts c0_lows c0_highs c0_barred ++ (w1 cy ad c1_lines c1_parts ++ (w2 cy ad c2_above c2_below)))) rfl _ rfl (Nat.le_of_ble_eq_true rfl) dX7_rest_29 (w7 cy ad c7_lastFound c7_lastAsked c7_found c4_made c4_kinds c4_places c4_rates c4_readings c4_bearing c5_legs c5_length c5_ways c5_units c5_stuffOf c5_point c6_bytes c6_sizes c6_weights c3_size c3_rates c0_amounts c0_lows c0_highs c0_barred c1_lines c1_parts c2_above c2_below) rfl ?_
      refine r_if_eq (tgt := 37) hC dX7_rest_32 (by decide) (fun c11 => ?_) (fun c11 => ?_)
      · replace hf := o_pos hf c11
        refine r_iload_n hC dX7_rest_37 rfl 1 rfl ?_
        refine r_iconst hC dX7_rest_38 ic_2 ?_
        obtain ⟨K51_12, eK51_12, hf⟩ := oj_some hf
        have J51_12 : K51_12 = some (ra, z4_made, z4_kinds, z4_places, z4_rates, z4_readings) → GG X 4 0 0 (w7 cy ad c7_lastFound c7_lastAsked c7_found c4_made c4_kinds c4_places c4_rates c4_readings c4_bearing c5_legs c5_length c5_ways c5_units c5_stuffOf c5_point c6_bytes c6_sizes c6_weights c3_size c3_rates c0_amounts c0_lows c0_highs c0_barred c1_lines c1_parts c2_above c2_below) [(0, .ref (ad 70)), (1, .int p1), (2, .int p2), (3, .int p3)] 51 [] := by
          intro hf
          replace hf := oa0 eK51_12 hf
          refine r_aload_n hC dX7_rest_51 rfl 0 rfl ?_
          refine r_get hC hin7 0 rfl rfl 2 (by decide) rfl hw1 rfl dX7_rest_52 ?_
          obtain ⟨r13, h14, hf⟩ := ob_some hf
          refine r_vi (st := []) hC (kX4_made l D cy ad c4_made c4_kinds c4_places c4_rates c4_readings c4_bearing c5_legs c5_length c5_ways c5_units c5_stuffOf c5_point c6_bytes c6_sizes c6_weights  h14) gX7_rest_X4_made rfl ⟨rfl, rfl⟩ ydX4_made ⟨Nat.le_of_ble_eq_true rfl, Nat.le_of_ble_eq_true rfl⟩ ⟨Nat.le_refl 0, Nat.le_refl 0⟩ 0 rfl rfl (v7 cy ad c7_lastFound c7_lastAsked c7_found) (w3 cy ad c3_size c3_rates ++ (w0 cy ad c0_amounts c0_lows c0_highs c0_barred ++ (w1 cy ad c1_lines c1_parts ++ (w2 cy ad c2_above c2_below)))) rfl _ rfl (Nat.le_of_ble_eq_true rfl) dX7_rest_55 (w7 cy ad c7_lastFound c7_lastAsked c7_found c4_made c4_kinds c4_places c4_rates c4_readings c4_bearing c5_legs c5_length c5_ways c5_units c5_stuffOf c5_point c6_bytes c6_sizes c6_weights c3_size c3_rates c0_amounts c0_lows c0_highs c0_barred c1_lines c1_parts c2_above c2_below) rfl ?_
          refine r_bipush hC dX7_rest_58 bp_12 ?_
          refine r_icmp_lt (tgt := 66) hC dX7_rest_60 (by decide) (fun c15 => ?_) (fun c15 => ?_)
          · replace hf := o_pos hf c15
            refine r_aload_n hC dX7_rest_66 rfl 0 rfl ?_
            refine r_get hC hin7 0 rfl rfl 2 (by decide) rfl hw1 rfl dX7_rest_67 ?_
            refine r_iload_n hC dX7_rest_70 rfl 1 rfl ?_
            refine r_iload_n hC dX7_rest_71 rfl 2 rfl ?_
            refine r_iload_n hC dX7_rest_72 rfl 1 rfl ?_
            refine r_iconst hC dX7_rest_73 ic_2 ?_
            obtain ⟨t16, h25, hf⟩ := ob_some hf
            have J83_24 : GG X 4 0 0 (w7 cy ad c7_lastFound c7_lastAsked c7_found c4_made c4_kinds c4_places c4_rates c4_readings c4_bearing c5_legs c5_length c5_ways c5_units c5_stuffOf c5_point c6_bytes c6_sizes c6_weights c3_size c3_rates c0_amounts c0_lows c0_highs c0_barred c1_lines c1_parts c2_above c2_below) [] 83 [.int t16, .int p2, .int p1, .ref (ad 40)] := by
              obtain ⟨r17, s18, s19, s20, s21, s22, h23, hf⟩ := ob6_some hf
              refine r_vi (st := []) hC (kX4_put l D cy ad c4_made c4_kinds c4_places c4_rates c4_readings c4_bearing c5_legs c5_length c5_ways c5_units c5_stuffOf c5_point c6_bytes c6_sizes c6_weights p1 p2 t16 h23) gX7_rest_X4_put rfl ⟨rfl, rfl⟩ ydX4_put ⟨Nat.le_of_ble_eq_true rfl, Nat.le_of_ble_eq_true rfl⟩ ⟨Nat.le_refl 0, Nat.le_refl 0⟩ 0 rfl rfl (v7 cy ad c7_lastFound c7_lastAsked c7_found) (w3 cy ad c3_size c3_rates ++ (w0 cy ad c0_amounts c0_lows c0_highs c0_barred ++ (w1 cy ad c1_lines c1_parts ++ (w2 cy ad c2_above c2_below)))) rfl _ rfl (Nat.le_of_ble_eq_true rfl) dX7_rest_83 (w7 cy ad c7_lastFound c7_lastAsked c7_found s18 s19 s20 s21 s22 c4_bearing c5_legs c5_length c5_ways c5_units c5_stuffOf c5_point c6_bytes c6_sizes c6_weights c3_size c3_rates c0_amounts c0_lows c0_highs c0_barred c1_lines c1_parts c2_above c2_below) rfl ?_
              obtain ⟨rfl, rfl, rfl, rfl, rfl, rfl⟩ := so_6 hf
              exact hRet _ _ _ dX7_rest_86 rfl
            replace hf := h25
            refine r_icmp_ne (tgt := 81) hC dX7_rest_74 (by decide) (fun c26 => ?_) (fun c26 => ?_)
            · replace hf := o_neg hf c26
              refine r_bipush hC dX7_rest_81 bp_m9 ?_
              obtain rfl := so_1 hf
              refine r_sub [] [] rfl ?_
              exact J83_24
            · replace hf := o_pos hf c26
              refine r_iload_n hC dX7_rest_77 rfl 3 rfl ?_
              refine r_goto (tgt := 83) hC dX7_rest_78 (by decide) ?_
              obtain rfl := so_1 hf
              refine r_sub [] [] rfl ?_
              exact J83_24
          · replace hf := o_neg hf c15
            refine r_bipush hC dX7_rest_63 bp_m2 ?_
            obtain ⟨rfl, rfl, rfl, rfl, rfl, rfl⟩ := so_6 hf
            exact hRet _ _ _ dX7_rest_65 rfl
        refine r_icmp_ne (tgt := 51) hC dX7_rest_39 (by decide) (fun c27 => ?_) (fun c27 => ?_)
        · replace hf := o_neg hf c27
          exact J51_12 hf
        · replace hf := o_pos hf c27
          refine r_iload_n hC dX7_rest_42 rfl 3 rfl ?_
          obtain ⟨r28, h29, hf⟩ := ob_some hf
          refine r_si (st := []) hC (kX7_isRate l D cy p3 h29) gX7_rest_X7_isRate rfl ⟨rfl, rfl⟩ ydX7_isRate ⟨Nat.le_of_ble_eq_true rfl, Nat.le_of_ble_eq_true rfl⟩ ⟨Nat.le_refl 0, Nat.le_refl 0⟩ _ rfl (Nat.le_of_ble_eq_true rfl) dX7_rest_43 ?_
          refine r_if_ne (tgt := 51) hC dX7_rest_46 (by decide) (fun c30 => ?_) (fun c30 => ?_)
          · replace hf := o_neg hf c30
            exact J51_12 hf
          · replace hf := o_pos hf c30
            refine r_iconst hC dX7_rest_49 ic_m1 ?_
            obtain ⟨rfl, rfl, rfl, rfl, rfl, rfl⟩ := so_6 hf
            exact hRet _ _ _ dX7_rest_50 rfl
      · replace hf := o_neg hf c11
        refine r_iconst hC dX7_rest_35 ic_m1 ?_
        obtain ⟨rfl, rfl, rfl, rfl, rfl, rfl⟩ := so_6 hf
        exact hRet _ _ _ dX7_rest_36 rfl
noncomputable def fX7_refusalOfRest (c7_lastFound : Int32) (c7_found : Nat → Int32) (c4_made : Int32) (c4_kinds : Nat → Int32) (p1 : Int32) (p2 : Int32) : Option (Int32 × Int32 × (Nat → Int32)) := ob (fX4_made c4_made) (fun (r1 : Int32) => ob (fX7_isWithin p1 0 (r1 - 1)) (fun (r3 : Int32) => (if r3 = 0 then some ((-1), c7_lastFound, c7_found) else (if p2 = 0 then some ((-1), c7_lastFound, c7_found) else ob (fX4_isGone c4_kinds p1) (fun (r7 : Int32) => (if r7 = 0 then some (0, c7_lastFound, c7_found) else ob3 (fX7_refuse c7_lastFound c7_found 1) (fun (r10 : Int32) (s11 : Int32) (s12 : Nat → Int32) => some (r10, s11, s12))))))))
theorem ydX7_refusalOfRest : yX7_refusalOfRest.cls = RX7 ∧ yX7_refusalOfRest.cls ≠ "java/lang/invoke/MethodHandle" ∧ yX7_refusalOfRest.cls ≠ "java/lang/invoke/VarHandle" ∧ (parseMethodDescriptor yX7_refusalOfRest.desc).map (fun d => d.parameters.length) = some 2 := by decide +kernel
set_option maxHeartbeats 8000000 in
set_option maxRecDepth 100000 in
theorem kX7_refusalOfRest (l : Launch) (D : va_G) (cy : Nat → ClassId) (ad : Nat → Nat) (c7_lastFound : Int32) (c7_lastAsked : Int32) (c7_found : Nat → Int32) (c4_made : Int32) (c4_kinds : Nat → Int32) (c4_places : Nat → Int32) (c4_rates : Nat → Int32) (c4_readings : Nat → Int32) (c4_bearing : Nat → Int32) (c5_legs : Int32) (c5_length : Int32) (c5_ways : Nat → Int32) (c5_units : Nat → Int32) (c5_stuffOf : Nat → Int32) (c5_point : Nat → Int32) (c6_bytes : Nat → Int32) (c6_sizes : Nat → Int32) (c6_weights : Nat → Int32) (c3_size : Int32) (c3_rates : Nat → Int32) (c0_amounts : Nat → Int32) (c0_lows : Nat → Int32) (c0_highs : Nat → Int32) (c0_barred : Nat → Int32) (c1_lines : Int32) (c1_parts : Int64) (c2_above : Int64) (c2_below : Int64) (p1 : Int32) (p2 : Int32) {ra : Int32} {z7_lastFound : Int32} {z7_found : Nat → Int32} (hf : fX7_refusalOfRest c7_lastFound c7_found c4_made c4_kinds p1 p2 = some (ra, z7_lastFound, z7_found)) : CI l D cy yX7_refusalOfRest wsX7_refusalOfRest ({ frames := 2, cells := 0, slots := 0, locals := 43 } : Room) [.ref (ad 70), .int p1, .int p2] (w7 cy ad c7_lastFound c7_lastAsked c7_found c4_made c4_kinds c4_places c4_rates c4_readings c4_bearing c5_legs c5_length c5_ways c5_units c5_stuffOf c5_point c6_bytes c6_sizes c6_weights c3_size c3_rates c0_amounts c0_lows c0_highs c0_barred c1_lines c1_parts c2_above c2_below) ra (w7 cy ad z7_lastFound c7_lastAsked z7_found c4_made c4_kinds c4_places c4_rates c4_readings c4_bearing c5_legs c5_length c5_ways c5_units c5_stuffOf c5_point c6_bytes c6_sizes c6_weights c3_size c3_rates c0_amounts c0_lows c0_highs c0_barred c1_lines c1_parts c2_above c2_below) := by
  unfold fX7_refusalOfRest at hf
  refine c_of_i (ty := .int) (own := RX7) (by decide) rfl rfl (Nat.le_of_ble_eq_true rfl) (fun X hC hRet => ?_)
  refine r_sub [(0, .ref (ad 70)), (1, .int p1), (2, .int p2)] [0, 1, 2] rfl ?_
  have hin7 : ∀ w ∈ wsX70, w ∈ wsX7_refusalOfRest := fun w h => List.mem_cons_of_mem _ (List.mem_append_left _ (List.mem_append_right _ h))
  have hw0 : Cond.fieldLink RX7 30 "HotPipes" "rests" "LHotPipes$Rests;" ∈ wsX7_refusalOfRest := List.mem_of_getElem? (i := 1) rfl
  refine r_iload_n hC dX7_refusalOfRest_0 rfl 1 rfl ?_
  refine r_iconst hC dX7_refusalOfRest_1 ic_0 ?_
  refine r_aload_n hC dX7_refusalOfRest_2 rfl 0 rfl ?_
  refine r_get hC hin7 0 rfl rfl 2 (by decide) rfl hw0 rfl dX7_refusalOfRest_3 ?_
  obtain ⟨r1, h2, hf⟩ := ob_some hf
  refine r_vi (st := [.int 0, .int p1]) hC (kX4_made l D cy ad c4_made c4_kinds c4_places c4_rates c4_readings c4_bearing c5_legs c5_length c5_ways c5_units c5_stuffOf c5_point c6_bytes c6_sizes c6_weights  h2) gX7_refusalOfRest_X4_made rfl ⟨rfl, rfl⟩ ydX4_made ⟨Nat.le_of_ble_eq_true rfl, Nat.le_of_ble_eq_true rfl⟩ ⟨Nat.le_refl 0, Nat.le_refl 0⟩ 0 rfl rfl (v7 cy ad c7_lastFound c7_lastAsked c7_found) (w3 cy ad c3_size c3_rates ++ (w0 cy ad c0_amounts c0_lows c0_highs c0_barred ++ (w1 cy ad c1_lines c1_parts ++ (w2 cy ad c2_above c2_below)))) rfl _ rfl (Nat.le_of_ble_eq_true rfl) dX7_refusalOfRest_6 (w7 cy ad c7_lastFound c7_lastAsked c7_found c4_made c4_kinds c4_places c4_rates c4_readings c4_bearing c5_legs c5_length c5_ways c5_units c5_stuffOf c5_point c6_bytes c6_sizes c6_weights c3_size c3_rates c0_amounts c0_lows c0_highs c0_barred c1_lines c1_parts c2_above c2_below) rfl ?_
  refine r_iconst hC dX7_refusalOfRest_9 ic_1 ?_
  refine r_isub hC dX7_refusalOfRest_10 ?_
  obtain ⟨r3, h4, hf⟩ := ob_some hf
  refine r_si (st := []) hC (kX7_isWithin l D cy p1 0 (r1 - 1) h4) gX7_refusalOfRest_X7_isWithin rfl ⟨rfl, rfl⟩ ydX7_isWithin ⟨Nat.le_of_ble_eq_true rfl, Nat.le_of_ble_eq_true rfl⟩ ⟨Nat.le_refl 0, Nat.le_refl 0⟩ _ rfl (Nat.le_of_ble_eq_true rfl) dX7_refusalOfRest_11 ?_
  refine r_if_eq (tgt := 21) hC dX7_refusalOfRest_14 (by decide) (fun c5 => ?_) (fun c5 => ?_)
  · replace hf := o_pos hf c5
    refine r_iconst hC dX7_refusalOfRest_21 ic_m1 ?_
    obtain ⟨rfl, rfl, rfl⟩ := so_3 hf
    exact hRet _ _ _ dX7_refusalOfRest_22 rfl
  · replace hf := o_neg hf c5
    refine r_iload_n hC dX7_refusalOfRest_17 rfl 2 rfl ?_
    refine r_if_ne (tgt := 23) hC dX7_refusalOfRest_18 (by decide) (fun c6 => ?_) (fun c6 => ?_)
    · replace hf := o_neg hf c6
      refine r_aload_n hC dX7_refusalOfRest_23 rfl 0 rfl ?_
      refine r_get hC hin7 0 rfl rfl 2 (by decide) rfl hw0 rfl dX7_refusalOfRest_24 ?_
      refine r_iload_n hC dX7_refusalOfRest_27 rfl 1 rfl ?_
      obtain ⟨r7, h8, hf⟩ := ob_some hf
      refine r_vi (st := []) hC (kX4_isGone l D cy ad c4_made c4_kinds c4_places c4_rates c4_readings c4_bearing c5_legs c5_length c5_ways c5_units c5_stuffOf c5_point c6_bytes c6_sizes c6_weights p1 h8) gX7_refusalOfRest_X4_isGone rfl ⟨rfl, rfl⟩ ydX4_isGone ⟨Nat.le_of_ble_eq_true rfl, Nat.le_of_ble_eq_true rfl⟩ ⟨Nat.le_refl 0, Nat.le_refl 0⟩ 0 rfl rfl (v7 cy ad c7_lastFound c7_lastAsked c7_found) (w3 cy ad c3_size c3_rates ++ (w0 cy ad c0_amounts c0_lows c0_highs c0_barred ++ (w1 cy ad c1_lines c1_parts ++ (w2 cy ad c2_above c2_below)))) rfl _ rfl (Nat.le_of_ble_eq_true rfl) dX7_refusalOfRest_28 (w7 cy ad c7_lastFound c7_lastAsked c7_found c4_made c4_kinds c4_places c4_rates c4_readings c4_bearing c5_legs c5_length c5_ways c5_units c5_stuffOf c5_point c6_bytes c6_sizes c6_weights c3_size c3_rates c0_amounts c0_lows c0_highs c0_barred c1_lines c1_parts c2_above c2_below) rfl ?_
      refine r_if_eq (tgt := 42) hC dX7_refusalOfRest_31 (by decide) (fun c9 => ?_) (fun c9 => ?_)
      · replace hf := o_pos hf c9
        refine r_iconst hC dX7_refusalOfRest_42 ic_0 ?_
        obtain ⟨rfl, rfl, rfl⟩ := so_3 hf
        exact hRet _ _ _ dX7_refusalOfRest_43 rfl
      · replace hf := o_neg hf c9
        refine r_aload_n hC dX7_refusalOfRest_34 rfl 0 rfl ?_
        refine r_iconst hC dX7_refusalOfRest_35 ic_1 ?_
        obtain ⟨r10, s11, s12, h13, hf⟩ := ob3_some hf
        refine r_vi (st := []) hC (kX7_refuse l D cy ad c7_lastFound c7_lastAsked c7_found c4_made c4_kinds c4_places c4_rates c4_readings c4_bearing c5_legs c5_length c5_ways c5_units c5_stuffOf c5_point c6_bytes c6_sizes c6_weights c3_size c3_rates c0_amounts c0_lows c0_highs c0_barred c1_lines c1_parts c2_above c2_below 1 h13) gX7_refusalOfRest_X7_refuse rfl ⟨rfl, rfl⟩ ydX7_refuse ⟨Nat.le_of_ble_eq_true rfl, Nat.le_of_ble_eq_true rfl⟩ ⟨Nat.le_refl 0, Nat.le_refl 0⟩ 0 rfl rfl [] [] rfl _ rfl (Nat.le_of_ble_eq_true rfl) dX7_refusalOfRest_36 (w7 cy ad s11 c7_lastAsked s12 c4_made c4_kinds c4_places c4_rates c4_readings c4_bearing c5_legs c5_length c5_ways c5_units c5_stuffOf c5_point c6_bytes c6_sizes c6_weights c3_size c3_rates c0_amounts c0_lows c0_highs c0_barred c1_lines c1_parts c2_above c2_below) rfl ?_
        refine r_goto (tgt := 43) hC dX7_refusalOfRest_39 (by decide) ?_
        obtain ⟨rfl, rfl, rfl⟩ := so_3 hf
        exact hRet _ _ _ dX7_refusalOfRest_43 rfl
    · replace hf := o_pos hf c6
      refine r_iconst hC dX7_refusalOfRest_21 ic_m1 ?_
      obtain ⟨rfl, rfl, rfl⟩ := so_3 hf
      exact hRet _ _ _ dX7_refusalOfRest_22 rfl
noncomputable def fX7_drop (c7_lastFound : Int32) (c7_found : Nat → Int32) (c4_made : Int32) (c4_kinds : Nat → Int32) (p1 : Int32) : Option (Int32 × Int32 × (Nat → Int32) × (Nat → Int32)) := ob3 (fX7_refusalOfRest c7_lastFound c7_found c4_made c4_kinds p1 1) (fun (r1 : Int32) (s2 : Int32) (s3 : Nat → Int32) => (if r1 = 0 then ob (fX4_remove c4_kinds p1) (fun (s6 : Nat → Int32) => some (1, s2, s3, s6)) else some (r1, s2, s3, c4_kinds)))
theorem ydX7_drop : yX7_drop.cls = RX7 ∧ yX7_drop.cls ≠ "java/lang/invoke/MethodHandle" ∧ yX7_drop.cls ≠ "java/lang/invoke/VarHandle" ∧ (parseMethodDescriptor yX7_drop.desc).map (fun d => d.parameters.length) = some 1 := by decide +kernel
set_option maxHeartbeats 8000000 in
set_option maxRecDepth 100000 in
theorem kX7_drop (l : Launch) (D : va_G) (cy : Nat → ClassId) (ad : Nat → Nat) (c7_lastFound : Int32) (c7_lastAsked : Int32) (c7_found : Nat → Int32) (c4_made : Int32) (c4_kinds : Nat → Int32) (c4_places : Nat → Int32) (c4_rates : Nat → Int32) (c4_readings : Nat → Int32) (c4_bearing : Nat → Int32) (c5_legs : Int32) (c5_length : Int32) (c5_ways : Nat → Int32) (c5_units : Nat → Int32) (c5_stuffOf : Nat → Int32) (c5_point : Nat → Int32) (c6_bytes : Nat → Int32) (c6_sizes : Nat → Int32) (c6_weights : Nat → Int32) (c3_size : Int32) (c3_rates : Nat → Int32) (c0_amounts : Nat → Int32) (c0_lows : Nat → Int32) (c0_highs : Nat → Int32) (c0_barred : Nat → Int32) (c1_lines : Int32) (c1_parts : Int64) (c2_above : Int64) (c2_below : Int64) (p1 : Int32) {ra : Int32} {z7_lastFound : Int32} {z7_found : Nat → Int32} {z4_kinds : Nat → Int32} (hf : fX7_drop c7_lastFound c7_found c4_made c4_kinds p1 = some (ra, z7_lastFound, z7_found, z4_kinds)) : CI l D cy yX7_drop wsX7_drop ({ frames := 3, cells := 0, slots := 0, locals := 65 } : Room) [.ref (ad 70), .int p1] (w7 cy ad c7_lastFound c7_lastAsked c7_found c4_made c4_kinds c4_places c4_rates c4_readings c4_bearing c5_legs c5_length c5_ways c5_units c5_stuffOf c5_point c6_bytes c6_sizes c6_weights c3_size c3_rates c0_amounts c0_lows c0_highs c0_barred c1_lines c1_parts c2_above c2_below) ra (w7 cy ad z7_lastFound c7_lastAsked z7_found c4_made z4_kinds c4_places c4_rates c4_readings c4_bearing c5_legs c5_length c5_ways c5_units c5_stuffOf c5_point c6_bytes c6_sizes c6_weights c3_size c3_rates c0_amounts c0_lows c0_highs c0_barred c1_lines c1_parts c2_above c2_below) := by
  unfold fX7_drop at hf
  refine c_of_i (ty := .int) (own := RX7) (by decide) rfl rfl (Nat.le_of_ble_eq_true rfl) (fun X hC hRet => ?_)
  refine r_sub [(0, .ref (ad 70)), (1, .int p1)] [0, 1] rfl ?_
  have hin7 : ∀ w ∈ wsX70, w ∈ wsX7_drop := fun w h => List.mem_cons_of_mem _ (List.mem_append_left _ (List.mem_append_right _ h))
  have hw0 : Cond.fieldLink RX7 30 "HotPipes" "rests" "LHotPipes$Rests;" ∈ wsX7_drop := List.mem_of_getElem? (i := 1) rfl
  refine r_aload_n hC dX7_drop_0 rfl 0 rfl ?_
  refine r_iload_n hC dX7_drop_1 rfl 1 rfl ?_
  refine r_iconst hC dX7_drop_2 ic_1 ?_
  obtain ⟨r1, s2, s3, h4, hf⟩ := ob3_some hf
  refine r_vi (st := []) hC (kX7_refusalOfRest l D cy ad c7_lastFound c7_lastAsked c7_found c4_made c4_kinds c4_places c4_rates c4_readings c4_bearing c5_legs c5_length c5_ways c5_units c5_stuffOf c5_point c6_bytes c6_sizes c6_weights c3_size c3_rates c0_amounts c0_lows c0_highs c0_barred c1_lines c1_parts c2_above c2_below p1 1 h4) gX7_drop_X7_refusalOfRest rfl ⟨rfl, rfl⟩ ydX7_refusalOfRest ⟨Nat.le_of_ble_eq_true rfl, Nat.le_of_ble_eq_true rfl⟩ ⟨Nat.le_refl 0, Nat.le_refl 0⟩ 0 rfl rfl [] [] rfl _ rfl (Nat.le_of_ble_eq_true rfl) dX7_drop_3 (w7 cy ad s2 c7_lastAsked s3 c4_made c4_kinds c4_places c4_rates c4_readings c4_bearing c5_legs c5_length c5_ways c5_units c5_stuffOf c5_point c6_bytes c6_sizes c6_weights c3_size c3_rates c0_amounts c0_lows c0_highs c0_barred c1_lines c1_parts c2_above c2_below) rfl ?_
  refine r_istore_n hC [(2, .int r1), (0, .ref (ad 70)), (1, .int p1)] dX7_drop_6 rfl (by decide) rfl ?_
  refine r_iload_n hC dX7_drop_7 rfl 0 rfl ?_
  refine r_if_eq (tgt := 13) hC dX7_drop_8 (by decide) (fun c5 => ?_) (fun c5 => ?_)
  · replace hf := o_pos hf c5
    refine r_aload_n hC dX7_drop_13 rfl 1 rfl ?_
    refine r_get hC hin7 0 rfl rfl 2 (by decide) rfl hw0 rfl dX7_drop_14 ?_
    refine r_iload_n hC dX7_drop_17 rfl 2 rfl ?_
    obtain ⟨s6, h7, hf⟩ := ob_some hf
    refine r_vv (st := []) hC (kX4_remove l D cy ad c4_made c4_kinds c4_places c4_rates c4_readings c4_bearing c5_legs c5_length c5_ways c5_units c5_stuffOf c5_point c6_bytes c6_sizes c6_weights p1 h7) gX7_drop_X4_remove rfl ⟨rfl, rfl⟩ ydX4_remove ⟨Nat.le_of_ble_eq_true rfl, Nat.le_of_ble_eq_true rfl⟩ ⟨Nat.le_refl 0, Nat.le_refl 0⟩ 0 rfl rfl (v7 cy ad s2 c7_lastAsked s3) (w3 cy ad c3_size c3_rates ++ (w0 cy ad c0_amounts c0_lows c0_highs c0_barred ++ (w1 cy ad c1_lines c1_parts ++ (w2 cy ad c2_above c2_below)))) rfl _ rfl (Nat.le_of_ble_eq_true rfl) dX7_drop_18 (w7 cy ad s2 c7_lastAsked s3 c4_made s6 c4_places c4_rates c4_readings c4_bearing c5_legs c5_length c5_ways c5_units c5_stuffOf c5_point c6_bytes c6_sizes c6_weights c3_size c3_rates c0_amounts c0_lows c0_highs c0_barred c1_lines c1_parts c2_above c2_below) rfl ?_
    refine r_iconst hC dX7_drop_21 ic_1 ?_
    obtain ⟨rfl, rfl, rfl, rfl⟩ := so_4 hf
    exact hRet _ _ _ dX7_drop_22 rfl
  · replace hf := o_neg hf c5
    refine r_iload_n hC dX7_drop_11 rfl 0 rfl ?_
    obtain ⟨rfl, rfl, rfl, rfl⟩ := so_4 hf
    exact hRet _ _ _ dX7_drop_12 rfl
noncomputable def fX7_told (c7_lastFound : Int32) (c7_found : Nat → Int32) (c4_made : Int32) (c4_kinds : Nat → Int32) (c4_places : Nat → Int32) (c4_rates : Nat → Int32) (c5_length : Int32) (p1 : Int32) (p2 : Int32) : Option (Int32 × Int32 × (Nat → Int32)) := ob (fX7_isWithin p2 0 3) (fun (r1 : Int32) => ob3 (fX7_refusalOfRest c7_lastFound c7_found c4_made c4_kinds p1 r1) (fun (r3 : Int32) (s4 : Int32) (s5 : Nat → Int32) => (if r3 = 0 then ob (fX4_tell c4_kinds c4_places c4_rates c5_length p1 p2) (fun (r8 : Int32) => some (r8, s4, s5)) else some (r3, s4, s5))))
theorem ydX7_told : yX7_told.cls = RX7 ∧ yX7_told.cls ≠ "java/lang/invoke/MethodHandle" ∧ yX7_told.cls ≠ "java/lang/invoke/VarHandle" ∧ (parseMethodDescriptor yX7_told.desc).map (fun d => d.parameters.length) = some 2 := by decide +kernel
set_option maxHeartbeats 8000000 in
set_option maxRecDepth 100000 in
theorem kX7_told (l : Launch) (D : va_G) (cy : Nat → ClassId) (ad : Nat → Nat) (c7_lastFound : Int32) (c7_lastAsked : Int32) (c7_found : Nat → Int32) (c4_made : Int32) (c4_kinds : Nat → Int32) (c4_places : Nat → Int32) (c4_rates : Nat → Int32) (c4_readings : Nat → Int32) (c4_bearing : Nat → Int32) (c5_legs : Int32) (c5_length : Int32) (c5_ways : Nat → Int32) (c5_units : Nat → Int32) (c5_stuffOf : Nat → Int32) (c5_point : Nat → Int32) (c6_bytes : Nat → Int32) (c6_sizes : Nat → Int32) (c6_weights : Nat → Int32) (c3_size : Int32) (c3_rates : Nat → Int32) (c0_amounts : Nat → Int32) (c0_lows : Nat → Int32) (c0_highs : Nat → Int32) (c0_barred : Nat → Int32) (c1_lines : Int32) (c1_parts : Int64) (c2_above : Int64) (c2_below : Int64) (p1 : Int32) (p2 : Int32) {ra : Int32} {z7_lastFound : Int32} {z7_found : Nat → Int32} (hf : fX7_told c7_lastFound c7_found c4_made c4_kinds c4_places c4_rates c5_length p1 p2 = some (ra, z7_lastFound, z7_found)) : CI l D cy yX7_told wsX7_told ({ frames := 3, cells := 0, slots := 0, locals := 65 } : Room) [.ref (ad 70), .int p1, .int p2] (w7 cy ad c7_lastFound c7_lastAsked c7_found c4_made c4_kinds c4_places c4_rates c4_readings c4_bearing c5_legs c5_length c5_ways c5_units c5_stuffOf c5_point c6_bytes c6_sizes c6_weights c3_size c3_rates c0_amounts c0_lows c0_highs c0_barred c1_lines c1_parts c2_above c2_below) ra (w7 cy ad z7_lastFound c7_lastAsked z7_found c4_made c4_kinds c4_places c4_rates c4_readings c4_bearing c5_legs c5_length c5_ways c5_units c5_stuffOf c5_point c6_bytes c6_sizes c6_weights c3_size c3_rates c0_amounts c0_lows c0_highs c0_barred c1_lines c1_parts c2_above c2_below) := by
  unfold fX7_told at hf
  refine c_of_i (ty := .int) (own := RX7) (by decide) rfl rfl (Nat.le_of_ble_eq_true rfl) (fun X hC hRet => ?_)
  refine r_sub [(0, .ref (ad 70)), (1, .int p1), (2, .int p2)] [0, 1, 2] rfl ?_
  have hin7 : ∀ w ∈ wsX70, w ∈ wsX7_told := fun w h => List.mem_cons_of_mem _ (List.mem_append_left _ (List.mem_append_left _ (List.mem_append_right _ h)))
  have hw0 : Cond.fieldLink RX7 30 "HotPipes" "rests" "LHotPipes$Rests;" ∈ wsX7_told := List.mem_of_getElem? (i := 1) rfl
  refine r_aload_n hC dX7_told_0 rfl 0 rfl ?_
  refine r_iload_n hC dX7_told_1 rfl 1 rfl ?_
  refine r_iload_n hC dX7_told_2 rfl 2 rfl ?_
  refine r_iconst hC dX7_told_3 ic_0 ?_
  refine r_iconst hC dX7_told_4 ic_3 ?_
  obtain ⟨r1, h2, hf⟩ := ob_some hf
  refine r_si (st := [.int p1, .ref (ad 70)]) hC (kX7_isWithin l D cy p2 0 3 h2) gX7_told_X7_isWithin rfl ⟨rfl, rfl⟩ ydX7_isWithin ⟨Nat.le_of_ble_eq_true rfl, Nat.le_of_ble_eq_true rfl⟩ ⟨Nat.le_refl 0, Nat.le_refl 0⟩ _ rfl (Nat.le_of_ble_eq_true rfl) dX7_told_5 ?_
  obtain ⟨r3, s4, s5, h6, hf⟩ := ob3_some hf
  refine r_vi (st := []) hC (kX7_refusalOfRest l D cy ad c7_lastFound c7_lastAsked c7_found c4_made c4_kinds c4_places c4_rates c4_readings c4_bearing c5_legs c5_length c5_ways c5_units c5_stuffOf c5_point c6_bytes c6_sizes c6_weights c3_size c3_rates c0_amounts c0_lows c0_highs c0_barred c1_lines c1_parts c2_above c2_below p1 r1 h6) gX7_told_X7_refusalOfRest rfl ⟨rfl, rfl⟩ ydX7_refusalOfRest ⟨Nat.le_of_ble_eq_true rfl, Nat.le_of_ble_eq_true rfl⟩ ⟨Nat.le_refl 0, Nat.le_refl 0⟩ 0 rfl rfl [] [] rfl _ rfl (Nat.le_of_ble_eq_true rfl) dX7_told_8 (w7 cy ad s4 c7_lastAsked s5 c4_made c4_kinds c4_places c4_rates c4_readings c4_bearing c5_legs c5_length c5_ways c5_units c5_stuffOf c5_point c6_bytes c6_sizes c6_weights c3_size c3_rates c0_amounts c0_lows c0_highs c0_barred c1_lines c1_parts c2_above c2_below) rfl ?_
  refine r_istore_n hC [(3, .int r3), (0, .ref (ad 70)), (1, .int p1), (2, .int p2)] dX7_told_11 rfl (by decide) rfl ?_
  refine r_iload_n hC dX7_told_12 rfl 0 rfl ?_
  refine r_if_eq (tgt := 18) hC dX7_told_13 (by decide) (fun c7 => ?_) (fun c7 => ?_)
  · replace hf := o_pos hf c7
    refine r_aload_n hC dX7_told_18 rfl 1 rfl ?_
    refine r_get hC hin7 0 rfl rfl 2 (by decide) rfl hw0 rfl dX7_told_19 ?_
    refine r_iload_n hC dX7_told_22 rfl 2 rfl ?_
    refine r_iload_n hC dX7_told_23 rfl 3 rfl ?_
    obtain ⟨r8, h9, hf⟩ := ob_some hf
    refine r_vi (st := []) hC (kX4_tell l D cy ad c4_made c4_kinds c4_places c4_rates c4_readings c4_bearing c5_legs c5_length c5_ways c5_units c5_stuffOf c5_point c6_bytes c6_sizes c6_weights p1 p2 h9) gX7_told_X4_tell rfl ⟨rfl, rfl⟩ ydX4_tell ⟨Nat.le_of_ble_eq_true rfl, Nat.le_of_ble_eq_true rfl⟩ ⟨Nat.le_refl 0, Nat.le_refl 0⟩ 0 rfl rfl (v7 cy ad s4 c7_lastAsked s5) (w3 cy ad c3_size c3_rates ++ (w0 cy ad c0_amounts c0_lows c0_highs c0_barred ++ (w1 cy ad c1_lines c1_parts ++ (w2 cy ad c2_above c2_below)))) rfl _ rfl (Nat.le_of_ble_eq_true rfl) dX7_told_24 (w7 cy ad s4 c7_lastAsked s5 c4_made c4_kinds c4_places c4_rates c4_readings c4_bearing c5_legs c5_length c5_ways c5_units c5_stuffOf c5_point c6_bytes c6_sizes c6_weights c3_size c3_rates c0_amounts c0_lows c0_highs c0_barred c1_lines c1_parts c2_above c2_below) rfl ?_
    obtain ⟨rfl, rfl, rfl⟩ := so_3 hf
    exact hRet _ _ _ dX7_told_27 rfl
  · replace hf := o_neg hf c7
    refine r_iload_n hC dX7_told_16 rfl 0 rfl ?_
    obtain ⟨rfl, rfl, rfl⟩ := so_3 hf
    exact hRet _ _ _ dX7_told_17 rfl
noncomputable def fX7_is (c7_lastFound : Int32) (c7_found : Nat → Int32) (c4_made : Int32) (c4_kinds : Nat → Int32) (p1 : Int32) (p2 : Int32) : Option (Int32 × Int32 × (Nat → Int32)) := ob (fX7_isKind p2) (fun (r1 : Int32) => ob3 (fX7_refusalOfRest c7_lastFound c7_found c4_made c4_kinds p1 r1) (fun (r3 : Int32) (s4 : Int32) (s5 : Nat → Int32) => (if r3 = 0 then ob (fX4_isOfKind c4_kinds p1 p2) (fun (r8 : Int32) => (if r8 = 0 then some (0, s4, s5) else some (1, s4, s5))) else some (r3, s4, s5))))
theorem ydX7_is : yX7_is.cls = RX7 ∧ yX7_is.cls ≠ "java/lang/invoke/MethodHandle" ∧ yX7_is.cls ≠ "java/lang/invoke/VarHandle" ∧ (parseMethodDescriptor yX7_is.desc).map (fun d => d.parameters.length) = some 2 := by decide +kernel
set_option maxHeartbeats 8000000 in
set_option maxRecDepth 100000 in
theorem kX7_is (l : Launch) (D : va_G) (cy : Nat → ClassId) (ad : Nat → Nat) (c7_lastFound : Int32) (c7_lastAsked : Int32) (c7_found : Nat → Int32) (c4_made : Int32) (c4_kinds : Nat → Int32) (c4_places : Nat → Int32) (c4_rates : Nat → Int32) (c4_readings : Nat → Int32) (c4_bearing : Nat → Int32) (c5_legs : Int32) (c5_length : Int32) (c5_ways : Nat → Int32) (c5_units : Nat → Int32) (c5_stuffOf : Nat → Int32) (c5_point : Nat → Int32) (c6_bytes : Nat → Int32) (c6_sizes : Nat → Int32) (c6_weights : Nat → Int32) (c3_size : Int32) (c3_rates : Nat → Int32) (c0_amounts : Nat → Int32) (c0_lows : Nat → Int32) (c0_highs : Nat → Int32) (c0_barred : Nat → Int32) (c1_lines : Int32) (c1_parts : Int64) (c2_above : Int64) (c2_below : Int64) (p1 : Int32) (p2 : Int32) {ra : Int32} {z7_lastFound : Int32} {z7_found : Nat → Int32} (hf : fX7_is c7_lastFound c7_found c4_made c4_kinds p1 p2 = some (ra, z7_lastFound, z7_found)) : CI l D cy yX7_is wsX7_is ({ frames := 3, cells := 0, slots := 0, locals := 65 } : Room) [.ref (ad 70), .int p1, .int p2] (w7 cy ad c7_lastFound c7_lastAsked c7_found c4_made c4_kinds c4_places c4_rates c4_readings c4_bearing c5_legs c5_length c5_ways c5_units c5_stuffOf c5_point c6_bytes c6_sizes c6_weights c3_size c3_rates c0_amounts c0_lows c0_highs c0_barred c1_lines c1_parts c2_above c2_below) ra (w7 cy ad z7_lastFound c7_lastAsked z7_found c4_made c4_kinds c4_places c4_rates c4_readings c4_bearing c5_legs c5_length c5_ways c5_units c5_stuffOf c5_point c6_bytes c6_sizes c6_weights c3_size c3_rates c0_amounts c0_lows c0_highs c0_barred c1_lines c1_parts c2_above c2_below) := by
  unfold fX7_is at hf
  refine c_of_i (ty := .int) (own := RX7) (by decide) rfl rfl (Nat.le_of_ble_eq_true rfl) (fun X hC hRet => ?_)
  refine r_sub [(0, .ref (ad 70)), (1, .int p1), (2, .int p2)] [0, 1, 2] rfl ?_
  have hin7 : ∀ w ∈ wsX70, w ∈ wsX7_is := fun w h => List.mem_cons_of_mem _ (List.mem_append_left _ (List.mem_append_right _ h))
  have hw0 : Cond.fieldLink RX7 30 "HotPipes" "rests" "LHotPipes$Rests;" ∈ wsX7_is := List.mem_of_getElem? (i := 1) rfl
  refine r_aload_n hC dX7_is_0 rfl 0 rfl ?_
  refine r_iload_n hC dX7_is_1 rfl 1 rfl ?_
  refine r_iload_n hC dX7_is_2 rfl 2 rfl ?_
  obtain ⟨r1, h2, hf⟩ := ob_some hf
  refine r_si (st := [.int p1, .ref (ad 70)]) hC (kX7_isKind l D cy p2 h2) gX7_is_X7_isKind rfl ⟨rfl, rfl⟩ ydX7_isKind ⟨Nat.le_of_ble_eq_true rfl, Nat.le_of_ble_eq_true rfl⟩ ⟨Nat.le_refl 0, Nat.le_refl 0⟩ _ rfl (Nat.le_of_ble_eq_true rfl) dX7_is_3 ?_
  obtain ⟨r3, s4, s5, h6, hf⟩ := ob3_some hf
  refine r_vi (st := []) hC (kX7_refusalOfRest l D cy ad c7_lastFound c7_lastAsked c7_found c4_made c4_kinds c4_places c4_rates c4_readings c4_bearing c5_legs c5_length c5_ways c5_units c5_stuffOf c5_point c6_bytes c6_sizes c6_weights c3_size c3_rates c0_amounts c0_lows c0_highs c0_barred c1_lines c1_parts c2_above c2_below p1 r1 h6) gX7_is_X7_refusalOfRest rfl ⟨rfl, rfl⟩ ydX7_refusalOfRest ⟨Nat.le_of_ble_eq_true rfl, Nat.le_of_ble_eq_true rfl⟩ ⟨Nat.le_refl 0, Nat.le_refl 0⟩ 0 rfl rfl [] [] rfl _ rfl (Nat.le_of_ble_eq_true rfl) dX7_is_6 (w7 cy ad s4 c7_lastAsked s5 c4_made c4_kinds c4_places c4_rates c4_readings c4_bearing c5_legs c5_length c5_ways c5_units c5_stuffOf c5_point c6_bytes c6_sizes c6_weights c3_size c3_rates c0_amounts c0_lows c0_highs c0_barred c1_lines c1_parts c2_above c2_below) rfl ?_
  refine r_istore_n hC [(3, .int r3), (0, .ref (ad 70)), (1, .int p1), (2, .int p2)] dX7_is_9 rfl (by decide) rfl ?_
  refine r_iload_n hC dX7_is_10 rfl 0 rfl ?_
  refine r_if_eq (tgt := 16) hC dX7_is_11 (by decide) (fun c7 => ?_) (fun c7 => ?_)
  · replace hf := o_pos hf c7
    refine r_aload_n hC dX7_is_16 rfl 1 rfl ?_
    refine r_get hC hin7 0 rfl rfl 2 (by decide) rfl hw0 rfl dX7_is_17 ?_
    refine r_iload_n hC dX7_is_20 rfl 2 rfl ?_
    refine r_iload_n hC dX7_is_21 rfl 3 rfl ?_
    obtain ⟨r8, h9, hf⟩ := ob_some hf
    refine r_vi (st := []) hC (kX4_isOfKind l D cy ad c4_made c4_kinds c4_places c4_rates c4_readings c4_bearing c5_legs c5_length c5_ways c5_units c5_stuffOf c5_point c6_bytes c6_sizes c6_weights p1 p2 h9) gX7_is_X4_isOfKind rfl ⟨rfl, rfl⟩ ydX4_isOfKind ⟨Nat.le_of_ble_eq_true rfl, Nat.le_of_ble_eq_true rfl⟩ ⟨Nat.le_refl 0, Nat.le_refl 0⟩ 0 rfl rfl (v7 cy ad s4 c7_lastAsked s5) (w3 cy ad c3_size c3_rates ++ (w0 cy ad c0_amounts c0_lows c0_highs c0_barred ++ (w1 cy ad c1_lines c1_parts ++ (w2 cy ad c2_above c2_below)))) rfl _ rfl (Nat.le_of_ble_eq_true rfl) dX7_is_22 (w7 cy ad s4 c7_lastAsked s5 c4_made c4_kinds c4_places c4_rates c4_readings c4_bearing c5_legs c5_length c5_ways c5_units c5_stuffOf c5_point c6_bytes c6_sizes c6_weights c3_size c3_rates c0_amounts c0_lows c0_highs c0_barred c1_lines c1_parts c2_above c2_below) rfl ?_
    refine r_if_eq (tgt := 32) hC dX7_is_25 (by decide) (fun c10 => ?_) (fun c10 => ?_)
    · replace hf := o_pos hf c10
      refine r_iconst hC dX7_is_32 ic_0 ?_
      obtain ⟨rfl, rfl, rfl⟩ := so_3 hf
      exact hRet _ _ _ dX7_is_33 rfl
    · replace hf := o_neg hf c10
      refine r_iconst hC dX7_is_28 ic_1 ?_
      refine r_goto (tgt := 33) hC dX7_is_29 (by decide) ?_
      obtain ⟨rfl, rfl, rfl⟩ := so_3 hf
      exact hRet _ _ _ dX7_is_33 rfl
  · replace hf := o_neg hf c7
    refine r_iload_n hC dX7_is_14 rfl 0 rfl ?_
    obtain ⟨rfl, rfl, rfl⟩ := so_3 hf
    exact hRet _ _ _ dX7_is_15 rfl
noncomputable def fX7_lifts (N : Nat) (c7_lastFound : Int32) (c7_found : Nat → Int32) (c4_made : Int32) (c4_kinds : Nat → Int32) (c4_places : Nat → Int32) (c5_legs : Int32) (c5_length : Int32) (c5_ways : Nat → Int32) (c5_units : Nat → Int32) (c5_stuffOf : Nat → Int32) (c6_bytes : Nat → Int32) (c6_sizes : Nat → Int32) (p1 : Int32) (p2 : Int32) : Option (Int32 × Int32 × (Nat → Int32)) := ob (fX7_isStep p2) (fun (r1 : Int32) => ob3 (fX7_refusalOfRest c7_lastFound c7_found c4_made c4_kinds p1 r1) (fun (r3 : Int32) (s4 : Int32) (s5 : Nat → Int32) => (if r3 = 0 then ob (fX4_isLifted N c4_kinds c4_places c5_legs c5_length c5_ways c5_units c5_stuffOf c6_bytes c6_sizes p1 p2) (fun (r8 : Int32) => (if r8 = 0 then some (0, s4, s5) else some (1, s4, s5))) else some (r3, s4, s5))))
theorem ydX7_lifts : yX7_lifts.cls = RX7 ∧ yX7_lifts.cls ≠ "java/lang/invoke/MethodHandle" ∧ yX7_lifts.cls ≠ "java/lang/invoke/VarHandle" ∧ (parseMethodDescriptor yX7_lifts.desc).map (fun d => d.parameters.length) = some 2 := by decide +kernel
set_option maxHeartbeats 8000000 in
set_option maxRecDepth 100000 in
theorem kX7_lifts (l : Launch) (D : va_G) (cy : Nat → ClassId) (ad : Nat → Nat) (c7_lastFound : Int32) (c7_lastAsked : Int32) (c7_found : Nat → Int32) (c4_made : Int32) (c4_kinds : Nat → Int32) (c4_places : Nat → Int32) (c4_rates : Nat → Int32) (c4_readings : Nat → Int32) (c4_bearing : Nat → Int32) (c5_legs : Int32) (c5_length : Int32) (c5_ways : Nat → Int32) (c5_units : Nat → Int32) (c5_stuffOf : Nat → Int32) (c5_point : Nat → Int32) (c6_bytes : Nat → Int32) (c6_sizes : Nat → Int32) (c6_weights : Nat → Int32) (c3_size : Int32) (c3_rates : Nat → Int32) (c0_amounts : Nat → Int32) (c0_lows : Nat → Int32) (c0_highs : Nat → Int32) (c0_barred : Nat → Int32) (c1_lines : Int32) (c1_parts : Int64) (c2_above : Int64) (c2_below : Int64) (p1 : Int32) (p2 : Int32) (N : Nat) {ra : Int32} {z7_lastFound : Int32} {z7_found : Nat → Int32} (hf : fX7_lifts N c7_lastFound c7_found c4_made c4_kinds c4_places c5_legs c5_length c5_ways c5_units c5_stuffOf c6_bytes c6_sizes p1 p2 = some (ra, z7_lastFound, z7_found)) : CI l D cy yX7_lifts wsX7_lifts ({ frames := 4, cells := 0, slots := 0, locals := 95 } : Room) [.ref (ad 70), .int p1, .int p2] (w7 cy ad c7_lastFound c7_lastAsked c7_found c4_made c4_kinds c4_places c4_rates c4_readings c4_bearing c5_legs c5_length c5_ways c5_units c5_stuffOf c5_point c6_bytes c6_sizes c6_weights c3_size c3_rates c0_amounts c0_lows c0_highs c0_barred c1_lines c1_parts c2_above c2_below) ra (w7 cy ad z7_lastFound c7_lastAsked z7_found c4_made c4_kinds c4_places c4_rates c4_readings c4_bearing c5_legs c5_length c5_ways c5_units c5_stuffOf c5_point c6_bytes c6_sizes c6_weights c3_size c3_rates c0_amounts c0_lows c0_highs c0_barred c1_lines c1_parts c2_above c2_below) := by
  unfold fX7_lifts at hf
  refine c_of_i (ty := .int) (own := RX7) (by decide) rfl rfl (Nat.le_of_ble_eq_true rfl) (fun X hC hRet => ?_)
  refine r_sub [(0, .ref (ad 70)), (1, .int p1), (2, .int p2)] [0, 1, 2] rfl ?_
  have hin7 : ∀ w ∈ wsX70, w ∈ wsX7_lifts := fun w h => List.mem_cons_of_mem _ (List.mem_append_left _ (List.mem_append_left _ (List.mem_append_left _ (List.mem_append_right _ h))))
  have hw0 : Cond.fieldLink RX7 30 "HotPipes" "rests" "LHotPipes$Rests;" ∈ wsX7_lifts := List.mem_of_getElem? (i := 1) rfl
  refine r_aload_n hC dX7_lifts_0 rfl 0 rfl ?_
  refine r_iload_n hC dX7_lifts_1 rfl 1 rfl ?_
  refine r_iload_n hC dX7_lifts_2 rfl 2 rfl ?_
  obtain ⟨r1, h2, hf⟩ := ob_some hf
  refine r_si (st := [.int p1, .ref (ad 70)]) hC (kX7_isStep l D cy p2 h2) gX7_lifts_X7_isStep rfl ⟨rfl, rfl⟩ ydX7_isStep ⟨Nat.le_of_ble_eq_true rfl, Nat.le_of_ble_eq_true rfl⟩ ⟨Nat.le_refl 0, Nat.le_refl 0⟩ _ rfl (Nat.le_of_ble_eq_true rfl) dX7_lifts_3 ?_
  obtain ⟨r3, s4, s5, h6, hf⟩ := ob3_some hf
  refine r_vi (st := []) hC (kX7_refusalOfRest l D cy ad c7_lastFound c7_lastAsked c7_found c4_made c4_kinds c4_places c4_rates c4_readings c4_bearing c5_legs c5_length c5_ways c5_units c5_stuffOf c5_point c6_bytes c6_sizes c6_weights c3_size c3_rates c0_amounts c0_lows c0_highs c0_barred c1_lines c1_parts c2_above c2_below p1 r1 h6) gX7_lifts_X7_refusalOfRest rfl ⟨rfl, rfl⟩ ydX7_refusalOfRest ⟨Nat.le_of_ble_eq_true rfl, Nat.le_of_ble_eq_true rfl⟩ ⟨Nat.le_refl 0, Nat.le_refl 0⟩ 0 rfl rfl [] [] rfl _ rfl (Nat.le_of_ble_eq_true rfl) dX7_lifts_6 (w7 cy ad s4 c7_lastAsked s5 c4_made c4_kinds c4_places c4_rates c4_readings c4_bearing c5_legs c5_length c5_ways c5_units c5_stuffOf c5_point c6_bytes c6_sizes c6_weights c3_size c3_rates c0_amounts c0_lows c0_highs c0_barred c1_lines c1_parts c2_above c2_below) rfl ?_
  refine r_istore_n hC [(3, .int r3), (0, .ref (ad 70)), (1, .int p1), (2, .int p2)] dX7_lifts_9 rfl (by decide) rfl ?_
  refine r_iload_n hC dX7_lifts_10 rfl 0 rfl ?_
  refine r_if_eq (tgt := 16) hC dX7_lifts_11 (by decide) (fun c7 => ?_) (fun c7 => ?_)
  · replace hf := o_pos hf c7
    refine r_aload_n hC dX7_lifts_16 rfl 1 rfl ?_
    refine r_get hC hin7 0 rfl rfl 2 (by decide) rfl hw0 rfl dX7_lifts_17 ?_
    refine r_iload_n hC dX7_lifts_20 rfl 2 rfl ?_
    refine r_iload_n hC dX7_lifts_21 rfl 3 rfl ?_
    obtain ⟨r8, h9, hf⟩ := ob_some hf
    refine r_vi (st := []) hC (kX4_isLifted l D cy ad c4_made c4_kinds c4_places c4_rates c4_readings c4_bearing c5_legs c5_length c5_ways c5_units c5_stuffOf c5_point c6_bytes c6_sizes c6_weights p1 p2 N h9) gX7_lifts_X4_isLifted rfl ⟨rfl, rfl⟩ ydX4_isLifted ⟨Nat.le_of_ble_eq_true rfl, Nat.le_of_ble_eq_true rfl⟩ ⟨Nat.le_refl 0, Nat.le_refl 0⟩ 0 rfl rfl (v7 cy ad s4 c7_lastAsked s5) (w3 cy ad c3_size c3_rates ++ (w0 cy ad c0_amounts c0_lows c0_highs c0_barred ++ (w1 cy ad c1_lines c1_parts ++ (w2 cy ad c2_above c2_below)))) rfl _ rfl (Nat.le_of_ble_eq_true rfl) dX7_lifts_22 (w7 cy ad s4 c7_lastAsked s5 c4_made c4_kinds c4_places c4_rates c4_readings c4_bearing c5_legs c5_length c5_ways c5_units c5_stuffOf c5_point c6_bytes c6_sizes c6_weights c3_size c3_rates c0_amounts c0_lows c0_highs c0_barred c1_lines c1_parts c2_above c2_below) rfl ?_
    refine r_if_eq (tgt := 32) hC dX7_lifts_25 (by decide) (fun c10 => ?_) (fun c10 => ?_)
    · replace hf := o_pos hf c10
      refine r_iconst hC dX7_lifts_32 ic_0 ?_
      obtain ⟨rfl, rfl, rfl⟩ := so_3 hf
      exact hRet _ _ _ dX7_lifts_33 rfl
    · replace hf := o_neg hf c10
      refine r_iconst hC dX7_lifts_28 ic_1 ?_
      refine r_goto (tgt := 33) hC dX7_lifts_29 (by decide) ?_
      obtain ⟨rfl, rfl, rfl⟩ := so_3 hf
      exact hRet _ _ _ dX7_lifts_33 rfl
  · replace hf := o_neg hf c7
    refine r_iload_n hC dX7_lifts_14 rfl 0 rfl ?_
    obtain ⟨rfl, rfl, rfl⟩ := so_3 hf
    exact hRet _ _ _ dX7_lifts_15 rfl
noncomputable def fX7_load (N : Nat) (c7_lastFound : Int32) (c7_found : Nat → Int32) (c4_made : Int32) (c4_kinds : Nat → Int32) (c4_places : Nat → Int32) (c4_bearing : Nat → Int32) (c5_legs : Int32) (c5_length : Int32) (c5_ways : Nat → Int32) (c5_units : Nat → Int32) (c5_stuffOf : Nat → Int32) (c6_bytes : Nat → Int32) (c6_sizes : Nat → Int32) (c6_weights : Nat → Int32) (c2_above : Int64) (c2_below : Int64) (p1 : Int32) (p2 : Int32) : Option (Int32 × Int32 × (Nat → Int32) × (Nat → Int32) × Int64 × Int64) := ob (fX7_isStep p2) (fun (r1 : Int32) => ob3 (fX7_refusalOfRest c7_lastFound c7_found c4_made c4_kinds p1 r1) (fun (r3 : Int32) (s4 : Int32) (s5 : Nat → Int32) => (if r3 = 0 then ob (fX4_noteBearing N c4_made c4_kinds c4_places c4_bearing c5_legs c5_length c5_ways c5_units c5_stuffOf c6_bytes c6_sizes p2) (fun (s8 : Nat → Int32) => ob (fX4_twiceLoad N c4_made c4_places s8 c5_legs c5_length c5_units c5_stuffOf c6_weights p1 (-9)) (fun (r10 : Int32) => ob2 (fX2_put N c2_above c2_below (Int32.toInt64 r10) 2) (fun (s12 : Int64) (s13 : Int64) => some (1, s4, s5, s8, s12, s13)))) else some (r3, s4, s5, c4_bearing, c2_above, c2_below))))
theorem ydX7_load : yX7_load.cls = RX7 ∧ yX7_load.cls ≠ "java/lang/invoke/MethodHandle" ∧ yX7_load.cls ≠ "java/lang/invoke/VarHandle" ∧ (parseMethodDescriptor yX7_load.desc).map (fun d => d.parameters.length) = some 2 := by decide +kernel
set_option maxHeartbeats 8000000 in
set_option maxRecDepth 100000 in
theorem kX7_load (l : Launch) (D : va_G) (cy : Nat → ClassId) (ad : Nat → Nat) (c7_lastFound : Int32) (c7_lastAsked : Int32) (c7_found : Nat → Int32) (c4_made : Int32) (c4_kinds : Nat → Int32) (c4_places : Nat → Int32) (c4_rates : Nat → Int32) (c4_readings : Nat → Int32) (c4_bearing : Nat → Int32) (c5_legs : Int32) (c5_length : Int32) (c5_ways : Nat → Int32) (c5_units : Nat → Int32) (c5_stuffOf : Nat → Int32) (c5_point : Nat → Int32) (c6_bytes : Nat → Int32) (c6_sizes : Nat → Int32) (c6_weights : Nat → Int32) (c3_size : Int32) (c3_rates : Nat → Int32) (c0_amounts : Nat → Int32) (c0_lows : Nat → Int32) (c0_highs : Nat → Int32) (c0_barred : Nat → Int32) (c1_lines : Int32) (c1_parts : Int64) (c2_above : Int64) (c2_below : Int64) (p1 : Int32) (p2 : Int32) (N : Nat) {ra : Int32} {z7_lastFound : Int32} {z7_found : Nat → Int32} {z4_bearing : Nat → Int32} {z2_above : Int64} {z2_below : Int64} (hf : fX7_load N c7_lastFound c7_found c4_made c4_kinds c4_places c4_bearing c5_legs c5_length c5_ways c5_units c5_stuffOf c6_bytes c6_sizes c6_weights c2_above c2_below p1 p2 = some (ra, z7_lastFound, z7_found, z4_bearing, z2_above, z2_below)) : CI l D cy yX7_load wsX7_load ({ frames := 5, cells := 0, slots := 0, locals := 117 } : Room) [.ref (ad 70), .int p1, .int p2] (w7 cy ad c7_lastFound c7_lastAsked c7_found c4_made c4_kinds c4_places c4_rates c4_readings c4_bearing c5_legs c5_length c5_ways c5_units c5_stuffOf c5_point c6_bytes c6_sizes c6_weights c3_size c3_rates c0_amounts c0_lows c0_highs c0_barred c1_lines c1_parts c2_above c2_below) ra (w7 cy ad z7_lastFound c7_lastAsked z7_found c4_made c4_kinds c4_places c4_rates c4_readings z4_bearing c5_legs c5_length c5_ways c5_units c5_stuffOf c5_point c6_bytes c6_sizes c6_weights c3_size c3_rates c0_amounts c0_lows c0_highs c0_barred c1_lines c1_parts z2_above z2_below) := by
  unfold fX7_load at hf
  refine c_of_i (ty := .int) (own := RX7) (by decide) rfl rfl (Nat.le_of_ble_eq_true rfl) (fun X hC hRet => ?_)
  refine r_sub [(0, .ref (ad 70)), (1, .int p1), (2, .int p2)] [0, 1, 2] rfl ?_
  have hin7 : ∀ w ∈ wsX70, w ∈ wsX7_load := fun w h => List.mem_cons_of_mem _ (List.mem_append_left _ (List.mem_append_left _ (List.mem_append_left _ (List.mem_append_left _ (List.mem_append_right _ h)))))
  have hw0 : Cond.fieldLink RX7 30 "HotPipes" "rests" "LHotPipes$Rests;" ∈ wsX7_load := List.mem_of_getElem? (i := 1) rfl
  have hw1 : Cond.fieldLink RX7 58 "HotPipes" "fraction" "LHotPipes$Fraction;" ∈ wsX7_load := List.mem_of_getElem? (i := 2) rfl
  have hw2 : Cond.constantLong RX7 206 (2) ∈ wsX7_load := List.mem_of_getElem? (i := 3) rfl
  refine r_aload_n hC dX7_load_0 rfl 0 rfl ?_
  refine r_iload_n hC dX7_load_1 rfl 1 rfl ?_
  refine r_iload_n hC dX7_load_2 rfl 2 rfl ?_
  obtain ⟨r1, h2, hf⟩ := ob_some hf
  refine r_si (st := [.int p1, .ref (ad 70)]) hC (kX7_isStep l D cy p2 h2) gX7_load_X7_isStep rfl ⟨rfl, rfl⟩ ydX7_isStep ⟨Nat.le_of_ble_eq_true rfl, Nat.le_of_ble_eq_true rfl⟩ ⟨Nat.le_refl 0, Nat.le_refl 0⟩ _ rfl (Nat.le_of_ble_eq_true rfl) dX7_load_3 ?_
  obtain ⟨r3, s4, s5, h6, hf⟩ := ob3_some hf
  refine r_vi (st := []) hC (kX7_refusalOfRest l D cy ad c7_lastFound c7_lastAsked c7_found c4_made c4_kinds c4_places c4_rates c4_readings c4_bearing c5_legs c5_length c5_ways c5_units c5_stuffOf c5_point c6_bytes c6_sizes c6_weights c3_size c3_rates c0_amounts c0_lows c0_highs c0_barred c1_lines c1_parts c2_above c2_below p1 r1 h6) gX7_load_X7_refusalOfRest rfl ⟨rfl, rfl⟩ ydX7_refusalOfRest ⟨Nat.le_of_ble_eq_true rfl, Nat.le_of_ble_eq_true rfl⟩ ⟨Nat.le_refl 0, Nat.le_refl 0⟩ 0 rfl rfl [] [] rfl _ rfl (Nat.le_of_ble_eq_true rfl) dX7_load_6 (w7 cy ad s4 c7_lastAsked s5 c4_made c4_kinds c4_places c4_rates c4_readings c4_bearing c5_legs c5_length c5_ways c5_units c5_stuffOf c5_point c6_bytes c6_sizes c6_weights c3_size c3_rates c0_amounts c0_lows c0_highs c0_barred c1_lines c1_parts c2_above c2_below) rfl ?_
  refine r_istore_n hC [(3, .int r3), (0, .ref (ad 70)), (1, .int p1), (2, .int p2)] dX7_load_9 rfl (by decide) rfl ?_
  refine r_iload_n hC dX7_load_10 rfl 0 rfl ?_
  refine r_if_eq (tgt := 16) hC dX7_load_11 (by decide) (fun c7 => ?_) (fun c7 => ?_)
  · replace hf := o_pos hf c7
    refine r_aload_n hC dX7_load_16 rfl 1 rfl ?_
    refine r_get hC hin7 0 rfl rfl 2 (by decide) rfl hw0 rfl dX7_load_17 ?_
    refine r_iload_n hC dX7_load_20 rfl 3 rfl ?_
    obtain ⟨s8, h9, hf⟩ := ob_some hf
    refine r_vv (st := []) hC (kX4_noteBearing l D cy ad c4_made c4_kinds c4_places c4_rates c4_readings c4_bearing c5_legs c5_length c5_ways c5_units c5_stuffOf c5_point c6_bytes c6_sizes c6_weights p2 N h9) gX7_load_X4_noteBearing rfl ⟨rfl, rfl⟩ ydX4_noteBearing ⟨Nat.le_of_ble_eq_true rfl, Nat.le_of_ble_eq_true rfl⟩ ⟨Nat.le_refl 0, Nat.le_refl 0⟩ 0 rfl rfl (v7 cy ad s4 c7_lastAsked s5) (w3 cy ad c3_size c3_rates ++ (w0 cy ad c0_amounts c0_lows c0_highs c0_barred ++ (w1 cy ad c1_lines c1_parts ++ (w2 cy ad c2_above c2_below)))) rfl _ rfl (Nat.le_of_ble_eq_true rfl) dX7_load_21 (w7 cy ad s4 c7_lastAsked s5 c4_made c4_kinds c4_places c4_rates c4_readings s8 c5_legs c5_length c5_ways c5_units c5_stuffOf c5_point c6_bytes c6_sizes c6_weights c3_size c3_rates c0_amounts c0_lows c0_highs c0_barred c1_lines c1_parts c2_above c2_below) rfl ?_
    refine r_aload_n hC dX7_load_24 rfl 1 rfl ?_
    refine r_get hC hin7 0 rfl rfl 6 (by decide) rfl hw1 rfl dX7_load_25 ?_
    refine r_aload_n hC dX7_load_28 rfl 1 rfl ?_
    refine r_get hC hin7 0 rfl rfl 2 (by decide) rfl hw0 rfl dX7_load_29 ?_
    refine r_iload_n hC dX7_load_32 rfl 2 rfl ?_
    refine r_bipush hC dX7_load_33 bp_m9 ?_
    obtain ⟨r10, h11, hf⟩ := ob_some hf
    refine r_vi (st := [.ref (ad 20)]) hC (kX4_twiceLoad l D cy ad c4_made c4_kinds c4_places c4_rates c4_readings s8 c5_legs c5_length c5_ways c5_units c5_stuffOf c5_point c6_bytes c6_sizes c6_weights p1 (-9) N h11) gX7_load_X4_twiceLoad rfl ⟨rfl, rfl⟩ ydX4_twiceLoad ⟨Nat.le_of_ble_eq_true rfl, Nat.le_of_ble_eq_true rfl⟩ ⟨Nat.le_refl 0, Nat.le_refl 0⟩ 0 rfl rfl (v7 cy ad s4 c7_lastAsked s5) (w3 cy ad c3_size c3_rates ++ (w0 cy ad c0_amounts c0_lows c0_highs c0_barred ++ (w1 cy ad c1_lines c1_parts ++ (w2 cy ad c2_above c2_below)))) rfl _ rfl (Nat.le_of_ble_eq_true rfl) dX7_load_35 (w7 cy ad s4 c7_lastAsked s5 c4_made c4_kinds c4_places c4_rates c4_readings s8 c5_legs c5_length c5_ways c5_units c5_stuffOf c5_point c6_bytes c6_sizes c6_weights c3_size c3_rates c0_amounts c0_lows c0_highs c0_barred c1_lines c1_parts c2_above c2_below) rfl ?_
    refine r_i2l hC dX7_load_38 ?_
    refine r_ldc2 hC hw2 dX7_load_39 ?_
    obtain ⟨s12, s13, h14, hf⟩ := ob2_some hf
    refine r_vv (st := []) hC (kX2_put l D cy ad c2_above c2_below (Int32.toInt64 r10) 2 N h14) gX7_load_X2_put rfl ⟨rfl, rfl⟩ ydX2_put ⟨Nat.le_of_ble_eq_true rfl, Nat.le_of_ble_eq_true rfl⟩ ⟨Nat.le_refl 0, Nat.le_refl 0⟩ 0 rfl rfl (v7 cy ad s4 c7_lastAsked s5 ++ (w4 cy ad c4_made c4_kinds c4_places c4_rates c4_readings s8 c5_legs c5_length c5_ways c5_units c5_stuffOf c5_point c6_bytes c6_sizes c6_weights ++ (w3 cy ad c3_size c3_rates ++ (w0 cy ad c0_amounts c0_lows c0_highs c0_barred ++ (w1 cy ad c1_lines c1_parts))))) [] rfl _ rfl (Nat.le_of_ble_eq_true rfl) dX7_load_42 (w7 cy ad s4 c7_lastAsked s5 c4_made c4_kinds c4_places c4_rates c4_readings s8 c5_legs c5_length c5_ways c5_units c5_stuffOf c5_point c6_bytes c6_sizes c6_weights c3_size c3_rates c0_amounts c0_lows c0_highs c0_barred c1_lines c1_parts s12 s13) rfl ?_
    refine r_iconst hC dX7_load_45 ic_1 ?_
    obtain ⟨rfl, rfl, rfl, rfl, rfl, rfl⟩ := so_6 hf
    exact hRet _ _ _ dX7_load_46 rfl
  · replace hf := o_neg hf c7
    refine r_iload_n hC dX7_load_14 rfl 0 rfl ?_
    obtain ⟨rfl, rfl, rfl, rfl, rfl, rfl⟩ := so_6 hf
    exact hRet _ _ _ dX7_load_15 rfl
noncomputable def fX7_refusalOfSpring (c7_lastFound : Int32) (c7_found : Nat → Int32) (c4_made : Int32) (c4_kinds : Nat → Int32) (p1 : Int32) (p2 : Int32) : Option (Int32 × Int32 × (Nat → Int32)) := ob (fX7_isStep p2) (fun (r1 : Int32) => ob3 (fX7_refusalOfRest c7_lastFound c7_found c4_made c4_kinds p1 r1) (fun (r3 : Int32) (s4 : Int32) (s5 : Nat → Int32) => (if r3 = 0 then ob (fX4_isOfKind c4_kinds p1 2) (fun (r8 : Int32) => (if r8 = 0 then ob3 (fX7_refuse s4 s5 3) (fun (r11 : Int32) (s12 : Int32) (s13 : Nat → Int32) => some (r11, s12, s13)) else some (0, s4, s5))) else some (r3, s4, s5))))
theorem ydX7_refusalOfSpring : yX7_refusalOfSpring.cls = RX7 ∧ yX7_refusalOfSpring.cls ≠ "java/lang/invoke/MethodHandle" ∧ yX7_refusalOfSpring.cls ≠ "java/lang/invoke/VarHandle" ∧ (parseMethodDescriptor yX7_refusalOfSpring.desc).map (fun d => d.parameters.length) = some 2 := by decide +kernel
set_option maxHeartbeats 8000000 in
set_option maxRecDepth 100000 in
theorem kX7_refusalOfSpring (l : Launch) (D : va_G) (cy : Nat → ClassId) (ad : Nat → Nat) (c7_lastFound : Int32) (c7_lastAsked : Int32) (c7_found : Nat → Int32) (c4_made : Int32) (c4_kinds : Nat → Int32) (c4_places : Nat → Int32) (c4_rates : Nat → Int32) (c4_readings : Nat → Int32) (c4_bearing : Nat → Int32) (c5_legs : Int32) (c5_length : Int32) (c5_ways : Nat → Int32) (c5_units : Nat → Int32) (c5_stuffOf : Nat → Int32) (c5_point : Nat → Int32) (c6_bytes : Nat → Int32) (c6_sizes : Nat → Int32) (c6_weights : Nat → Int32) (c3_size : Int32) (c3_rates : Nat → Int32) (c0_amounts : Nat → Int32) (c0_lows : Nat → Int32) (c0_highs : Nat → Int32) (c0_barred : Nat → Int32) (c1_lines : Int32) (c1_parts : Int64) (c2_above : Int64) (c2_below : Int64) (p1 : Int32) (p2 : Int32) {ra : Int32} {z7_lastFound : Int32} {z7_found : Nat → Int32} (hf : fX7_refusalOfSpring c7_lastFound c7_found c4_made c4_kinds p1 p2 = some (ra, z7_lastFound, z7_found)) : CI l D cy yX7_refusalOfSpring wsX7_refusalOfSpring ({ frames := 3, cells := 0, slots := 0, locals := 65 } : Room) [.ref (ad 70), .int p1, .int p2] (w7 cy ad c7_lastFound c7_lastAsked c7_found c4_made c4_kinds c4_places c4_rates c4_readings c4_bearing c5_legs c5_length c5_ways c5_units c5_stuffOf c5_point c6_bytes c6_sizes c6_weights c3_size c3_rates c0_amounts c0_lows c0_highs c0_barred c1_lines c1_parts c2_above c2_below) ra (w7 cy ad z7_lastFound c7_lastAsked z7_found c4_made c4_kinds c4_places c4_rates c4_readings c4_bearing c5_legs c5_length c5_ways c5_units c5_stuffOf c5_point c6_bytes c6_sizes c6_weights c3_size c3_rates c0_amounts c0_lows c0_highs c0_barred c1_lines c1_parts c2_above c2_below) := by
  unfold fX7_refusalOfSpring at hf
  refine c_of_i (ty := .int) (own := RX7) (by decide) rfl rfl (Nat.le_of_ble_eq_true rfl) (fun X hC hRet => ?_)
  refine r_sub [(0, .ref (ad 70)), (1, .int p1), (2, .int p2)] [0, 1, 2] rfl ?_
  have hin7 : ∀ w ∈ wsX70, w ∈ wsX7_refusalOfSpring := fun w h => List.mem_cons_of_mem _ (List.mem_append_left _ (List.mem_append_right _ h))
  have hw0 : Cond.fieldLink RX7 30 "HotPipes" "rests" "LHotPipes$Rests;" ∈ wsX7_refusalOfSpring := List.mem_of_getElem? (i := 1) rfl
  refine r_aload_n hC dX7_refusalOfSpring_0 rfl 0 rfl ?_
  refine r_iload_n hC dX7_refusalOfSpring_1 rfl 1 rfl ?_
  refine r_iload_n hC dX7_refusalOfSpring_2 rfl 2 rfl ?_
  obtain ⟨r1, h2, hf⟩ := ob_some hf
  refine r_si (st := [.int p1, .ref (ad 70)]) hC (kX7_isStep l D cy p2 h2) gX7_refusalOfSpring_X7_isStep rfl ⟨rfl, rfl⟩ ydX7_isStep ⟨Nat.le_of_ble_eq_true rfl, Nat.le_of_ble_eq_true rfl⟩ ⟨Nat.le_refl 0, Nat.le_refl 0⟩ _ rfl (Nat.le_of_ble_eq_true rfl) dX7_refusalOfSpring_3 ?_
  obtain ⟨r3, s4, s5, h6, hf⟩ := ob3_some hf
  refine r_vi (st := []) hC (kX7_refusalOfRest l D cy ad c7_lastFound c7_lastAsked c7_found c4_made c4_kinds c4_places c4_rates c4_readings c4_bearing c5_legs c5_length c5_ways c5_units c5_stuffOf c5_point c6_bytes c6_sizes c6_weights c3_size c3_rates c0_amounts c0_lows c0_highs c0_barred c1_lines c1_parts c2_above c2_below p1 r1 h6) gX7_refusalOfSpring_X7_refusalOfRest rfl ⟨rfl, rfl⟩ ydX7_refusalOfRest ⟨Nat.le_of_ble_eq_true rfl, Nat.le_of_ble_eq_true rfl⟩ ⟨Nat.le_refl 0, Nat.le_refl 0⟩ 0 rfl rfl [] [] rfl _ rfl (Nat.le_of_ble_eq_true rfl) dX7_refusalOfSpring_6 (w7 cy ad s4 c7_lastAsked s5 c4_made c4_kinds c4_places c4_rates c4_readings c4_bearing c5_legs c5_length c5_ways c5_units c5_stuffOf c5_point c6_bytes c6_sizes c6_weights c3_size c3_rates c0_amounts c0_lows c0_highs c0_barred c1_lines c1_parts c2_above c2_below) rfl ?_
  refine r_istore_n hC [(3, .int r3), (0, .ref (ad 70)), (1, .int p1), (2, .int p2)] dX7_refusalOfSpring_9 rfl (by decide) rfl ?_
  refine r_iload_n hC dX7_refusalOfSpring_10 rfl 0 rfl ?_
  refine r_if_eq (tgt := 16) hC dX7_refusalOfSpring_11 (by decide) (fun c7 => ?_) (fun c7 => ?_)
  · replace hf := o_pos hf c7
    refine r_aload_n hC dX7_refusalOfSpring_16 rfl 1 rfl ?_
    refine r_get hC hin7 0 rfl rfl 2 (by decide) rfl hw0 rfl dX7_refusalOfSpring_17 ?_
    refine r_iload_n hC dX7_refusalOfSpring_20 rfl 2 rfl ?_
    refine r_iconst hC dX7_refusalOfSpring_21 ic_2 ?_
    obtain ⟨r8, h9, hf⟩ := ob_some hf
    refine r_vi (st := []) hC (kX4_isOfKind l D cy ad c4_made c4_kinds c4_places c4_rates c4_readings c4_bearing c5_legs c5_length c5_ways c5_units c5_stuffOf c5_point c6_bytes c6_sizes c6_weights p1 2 h9) gX7_refusalOfSpring_X4_isOfKind rfl ⟨rfl, rfl⟩ ydX4_isOfKind ⟨Nat.le_of_ble_eq_true rfl, Nat.le_of_ble_eq_true rfl⟩ ⟨Nat.le_refl 0, Nat.le_refl 0⟩ 0 rfl rfl (v7 cy ad s4 c7_lastAsked s5) (w3 cy ad c3_size c3_rates ++ (w0 cy ad c0_amounts c0_lows c0_highs c0_barred ++ (w1 cy ad c1_lines c1_parts ++ (w2 cy ad c2_above c2_below)))) rfl _ rfl (Nat.le_of_ble_eq_true rfl) dX7_refusalOfSpring_22 (w7 cy ad s4 c7_lastAsked s5 c4_made c4_kinds c4_places c4_rates c4_readings c4_bearing c5_legs c5_length c5_ways c5_units c5_stuffOf c5_point c6_bytes c6_sizes c6_weights c3_size c3_rates c0_amounts c0_lows c0_highs c0_barred c1_lines c1_parts c2_above c2_below) rfl ?_
    refine r_if_eq (tgt := 32) hC dX7_refusalOfSpring_25 (by decide) (fun c10 => ?_) (fun c10 => ?_)
    · replace hf := o_pos hf c10
      refine r_aload_n hC dX7_refusalOfSpring_32 rfl 1 rfl ?_
      refine r_iconst hC dX7_refusalOfSpring_33 ic_3 ?_
      obtain ⟨r11, s12, s13, h14, hf⟩ := ob3_some hf
      refine r_vi (st := []) hC (kX7_refuse l D cy ad s4 c7_lastAsked s5 c4_made c4_kinds c4_places c4_rates c4_readings c4_bearing c5_legs c5_length c5_ways c5_units c5_stuffOf c5_point c6_bytes c6_sizes c6_weights c3_size c3_rates c0_amounts c0_lows c0_highs c0_barred c1_lines c1_parts c2_above c2_below 3 h14) gX7_refusalOfSpring_X7_refuse rfl ⟨rfl, rfl⟩ ydX7_refuse ⟨Nat.le_of_ble_eq_true rfl, Nat.le_of_ble_eq_true rfl⟩ ⟨Nat.le_refl 0, Nat.le_refl 0⟩ 0 rfl rfl [] [] rfl _ rfl (Nat.le_of_ble_eq_true rfl) dX7_refusalOfSpring_34 (w7 cy ad s12 c7_lastAsked s13 c4_made c4_kinds c4_places c4_rates c4_readings c4_bearing c5_legs c5_length c5_ways c5_units c5_stuffOf c5_point c6_bytes c6_sizes c6_weights c3_size c3_rates c0_amounts c0_lows c0_highs c0_barred c1_lines c1_parts c2_above c2_below) rfl ?_
      obtain ⟨rfl, rfl, rfl⟩ := so_3 hf
      exact hRet _ _ _ dX7_refusalOfSpring_37 rfl
    · replace hf := o_neg hf c10
      refine r_iconst hC dX7_refusalOfSpring_28 ic_0 ?_
      refine r_goto (tgt := 37) hC dX7_refusalOfSpring_29 (by decide) ?_
      obtain ⟨rfl, rfl, rfl⟩ := so_3 hf
      exact hRet _ _ _ dX7_refusalOfSpring_37 rfl
  · replace hf := o_neg hf c7
    refine r_iload_n hC dX7_refusalOfSpring_14 rfl 0 rfl ?_
    obtain ⟨rfl, rfl, rfl⟩ := so_3 hf
    exact hRet _ _ _ dX7_refusalOfSpring_15 rfl
noncomputable def fX7_change (N : Nat) (c7_lastFound : Int32) (c7_found : Nat → Int32) (c4_made : Int32) (c4_kinds : Nat → Int32) (c4_places : Nat → Int32) (c4_rates : Nat → Int32) (c5_legs : Int32) (c5_ways : Nat → Int32) (c5_units : Nat → Int32) (c5_stuffOf : Nat → Int32) (c6_bytes : Nat → Int32) (c6_sizes : Nat → Int32) (c2_above : Int64) (c2_below : Int64) (p1 : Int32) (p2 : Int32) : Option (Int32 × Int32 × (Nat → Int32) × Int64 × Int64) := ob3 (fX7_refusalOfSpring c7_lastFound c7_found c4_made c4_kinds p1 p2) (fun (r1 : Int32) (s2 : Int32) (s3 : Nat → Int32) => (if r1 = 0 then ob (fX4_rateOf c4_rates p1) (fun (r6 : Int32) => ob (fX4_travel N c4_places c5_legs c5_ways c5_units c5_stuffOf c6_bytes c6_sizes p1 p2) (fun (r8 : Int32) => ob2 (fX2_put N c2_above c2_below ((Int32.toInt64 r6) * (Int32.toInt64 r8)) 1000) (fun (s10 : Int64) (s11 : Int64) => some (1, s2, s3, s10, s11)))) else some (r1, s2, s3, c2_above, c2_below)))
theorem ydX7_change : yX7_change.cls = RX7 ∧ yX7_change.cls ≠ "java/lang/invoke/MethodHandle" ∧ yX7_change.cls ≠ "java/lang/invoke/VarHandle" ∧ (parseMethodDescriptor yX7_change.desc).map (fun d => d.parameters.length) = some 2 := by decide +kernel
set_option maxHeartbeats 8000000 in
set_option maxRecDepth 100000 in
theorem kX7_change (l : Launch) (D : va_G) (cy : Nat → ClassId) (ad : Nat → Nat) (c7_lastFound : Int32) (c7_lastAsked : Int32) (c7_found : Nat → Int32) (c4_made : Int32) (c4_kinds : Nat → Int32) (c4_places : Nat → Int32) (c4_rates : Nat → Int32) (c4_readings : Nat → Int32) (c4_bearing : Nat → Int32) (c5_legs : Int32) (c5_length : Int32) (c5_ways : Nat → Int32) (c5_units : Nat → Int32) (c5_stuffOf : Nat → Int32) (c5_point : Nat → Int32) (c6_bytes : Nat → Int32) (c6_sizes : Nat → Int32) (c6_weights : Nat → Int32) (c3_size : Int32) (c3_rates : Nat → Int32) (c0_amounts : Nat → Int32) (c0_lows : Nat → Int32) (c0_highs : Nat → Int32) (c0_barred : Nat → Int32) (c1_lines : Int32) (c1_parts : Int64) (c2_above : Int64) (c2_below : Int64) (p1 : Int32) (p2 : Int32) (N : Nat) {ra : Int32} {z7_lastFound : Int32} {z7_found : Nat → Int32} {z2_above : Int64} {z2_below : Int64} (hf : fX7_change N c7_lastFound c7_found c4_made c4_kinds c4_places c4_rates c5_legs c5_ways c5_units c5_stuffOf c6_bytes c6_sizes c2_above c2_below p1 p2 = some (ra, z7_lastFound, z7_found, z2_above, z2_below)) : CI l D cy yX7_change wsX7_change ({ frames := 4, cells := 0, slots := 0, locals := 94 } : Room) [.ref (ad 70), .int p1, .int p2] (w7 cy ad c7_lastFound c7_lastAsked c7_found c4_made c4_kinds c4_places c4_rates c4_readings c4_bearing c5_legs c5_length c5_ways c5_units c5_stuffOf c5_point c6_bytes c6_sizes c6_weights c3_size c3_rates c0_amounts c0_lows c0_highs c0_barred c1_lines c1_parts c2_above c2_below) ra (w7 cy ad z7_lastFound c7_lastAsked z7_found c4_made c4_kinds c4_places c4_rates c4_readings c4_bearing c5_legs c5_length c5_ways c5_units c5_stuffOf c5_point c6_bytes c6_sizes c6_weights c3_size c3_rates c0_amounts c0_lows c0_highs c0_barred c1_lines c1_parts z2_above z2_below) := by
  unfold fX7_change at hf
  refine c_of_i (ty := .int) (own := RX7) (by decide) rfl rfl (Nat.le_of_ble_eq_true rfl) (fun X hC hRet => ?_)
  refine r_sub [(0, .ref (ad 70)), (1, .int p1), (2, .int p2)] [0, 1, 2] rfl ?_
  have hin7 : ∀ w ∈ wsX70, w ∈ wsX7_change := fun w h => List.mem_cons_of_mem _ (List.mem_append_left _ (List.mem_append_left _ (List.mem_append_left _ (List.mem_append_left _ (List.mem_append_right _ h)))))
  have hw0 : Cond.fieldLink RX7 58 "HotPipes" "fraction" "LHotPipes$Fraction;" ∈ wsX7_change := List.mem_of_getElem? (i := 1) rfl
  have hw1 : Cond.fieldLink RX7 30 "HotPipes" "rests" "LHotPipes$Rests;" ∈ wsX7_change := List.mem_of_getElem? (i := 2) rfl
  have hw2 : Cond.constantLong RX7 220 (1000) ∈ wsX7_change := List.mem_of_getElem? (i := 3) rfl
  refine r_aload_n hC dX7_change_0 rfl 0 rfl ?_
  refine r_iload_n hC dX7_change_1 rfl 1 rfl ?_
  refine r_iload_n hC dX7_change_2 rfl 2 rfl ?_
  obtain ⟨r1, s2, s3, h4, hf⟩ := ob3_some hf
  refine r_vi (st := []) hC (kX7_refusalOfSpring l D cy ad c7_lastFound c7_lastAsked c7_found c4_made c4_kinds c4_places c4_rates c4_readings c4_bearing c5_legs c5_length c5_ways c5_units c5_stuffOf c5_point c6_bytes c6_sizes c6_weights c3_size c3_rates c0_amounts c0_lows c0_highs c0_barred c1_lines c1_parts c2_above c2_below p1 p2 h4) gX7_change_X7_refusalOfSpring rfl ⟨rfl, rfl⟩ ydX7_refusalOfSpring ⟨Nat.le_of_ble_eq_true rfl, Nat.le_of_ble_eq_true rfl⟩ ⟨Nat.le_refl 0, Nat.le_refl 0⟩ 0 rfl rfl [] [] rfl _ rfl (Nat.le_of_ble_eq_true rfl) dX7_change_3 (w7 cy ad s2 c7_lastAsked s3 c4_made c4_kinds c4_places c4_rates c4_readings c4_bearing c5_legs c5_length c5_ways c5_units c5_stuffOf c5_point c6_bytes c6_sizes c6_weights c3_size c3_rates c0_amounts c0_lows c0_highs c0_barred c1_lines c1_parts c2_above c2_below) rfl ?_
  refine r_istore_n hC [(3, .int r1), (0, .ref (ad 70)), (1, .int p1), (2, .int p2)] dX7_change_6 rfl (by decide) rfl ?_
  refine r_iload_n hC dX7_change_7 rfl 0 rfl ?_
  refine r_if_eq (tgt := 13) hC dX7_change_8 (by decide) (fun c5 => ?_) (fun c5 => ?_)
  · replace hf := o_pos hf c5
    refine r_aload_n hC dX7_change_13 rfl 1 rfl ?_
    refine r_get hC hin7 0 rfl rfl 6 (by decide) rfl hw0 rfl dX7_change_14 ?_
    refine r_aload_n hC dX7_change_17 rfl 1 rfl ?_
    refine r_get hC hin7 0 rfl rfl 2 (by decide) rfl hw1 rfl dX7_change_18 ?_
    refine r_iload_n hC dX7_change_21 rfl 2 rfl ?_
    obtain ⟨r6, h7, hf⟩ := ob_some hf
    refine r_vi (st := [.ref (ad 20)]) hC (kX4_rateOf l D cy ad c4_made c4_kinds c4_places c4_rates c4_readings c4_bearing c5_legs c5_length c5_ways c5_units c5_stuffOf c5_point c6_bytes c6_sizes c6_weights p1 h7) gX7_change_X4_rateOf rfl ⟨rfl, rfl⟩ ydX4_rateOf ⟨Nat.le_of_ble_eq_true rfl, Nat.le_of_ble_eq_true rfl⟩ ⟨Nat.le_refl 0, Nat.le_refl 0⟩ 0 rfl rfl (v7 cy ad s2 c7_lastAsked s3) (w3 cy ad c3_size c3_rates ++ (w0 cy ad c0_amounts c0_lows c0_highs c0_barred ++ (w1 cy ad c1_lines c1_parts ++ (w2 cy ad c2_above c2_below)))) rfl _ rfl (Nat.le_of_ble_eq_true rfl) dX7_change_22 (w7 cy ad s2 c7_lastAsked s3 c4_made c4_kinds c4_places c4_rates c4_readings c4_bearing c5_legs c5_length c5_ways c5_units c5_stuffOf c5_point c6_bytes c6_sizes c6_weights c3_size c3_rates c0_amounts c0_lows c0_highs c0_barred c1_lines c1_parts c2_above c2_below) rfl ?_
    refine r_i2l hC dX7_change_25 ?_
    refine r_aload_n hC dX7_change_26 rfl 1 rfl ?_
    refine r_get hC hin7 0 rfl rfl 2 (by decide) rfl hw1 rfl dX7_change_27 ?_
    refine r_iload_n hC dX7_change_30 rfl 2 rfl ?_
    refine r_iload_n hC dX7_change_31 rfl 3 rfl ?_
    obtain ⟨r8, h9, hf⟩ := ob_some hf
    refine r_vi (st := [.long (Int32.toInt64 r6), .ref (ad 20)]) hC (kX4_travel l D cy ad c4_made c4_kinds c4_places c4_rates c4_readings c4_bearing c5_legs c5_length c5_ways c5_units c5_stuffOf c5_point c6_bytes c6_sizes c6_weights p1 p2 N h9) gX7_change_X4_travel rfl ⟨rfl, rfl⟩ ydX4_travel ⟨Nat.le_of_ble_eq_true rfl, Nat.le_of_ble_eq_true rfl⟩ ⟨Nat.le_refl 0, Nat.le_refl 0⟩ 0 rfl rfl (v7 cy ad s2 c7_lastAsked s3) (w3 cy ad c3_size c3_rates ++ (w0 cy ad c0_amounts c0_lows c0_highs c0_barred ++ (w1 cy ad c1_lines c1_parts ++ (w2 cy ad c2_above c2_below)))) rfl _ rfl (Nat.le_of_ble_eq_true rfl) dX7_change_32 (w7 cy ad s2 c7_lastAsked s3 c4_made c4_kinds c4_places c4_rates c4_readings c4_bearing c5_legs c5_length c5_ways c5_units c5_stuffOf c5_point c6_bytes c6_sizes c6_weights c3_size c3_rates c0_amounts c0_lows c0_highs c0_barred c1_lines c1_parts c2_above c2_below) rfl ?_
    refine r_i2l hC dX7_change_35 ?_
    refine r_lmul hC dX7_change_36 ?_
    refine r_ldc2 hC hw2 dX7_change_37 ?_
    obtain ⟨s10, s11, h12, hf⟩ := ob2_some hf
    refine r_vv (st := []) hC (kX2_put l D cy ad c2_above c2_below ((Int32.toInt64 r6) * (Int32.toInt64 r8)) 1000 N h12) gX7_change_X2_put rfl ⟨rfl, rfl⟩ ydX2_put ⟨Nat.le_of_ble_eq_true rfl, Nat.le_of_ble_eq_true rfl⟩ ⟨Nat.le_refl 0, Nat.le_refl 0⟩ 0 rfl rfl (v7 cy ad s2 c7_lastAsked s3 ++ (w4 cy ad c4_made c4_kinds c4_places c4_rates c4_readings c4_bearing c5_legs c5_length c5_ways c5_units c5_stuffOf c5_point c6_bytes c6_sizes c6_weights ++ (w3 cy ad c3_size c3_rates ++ (w0 cy ad c0_amounts c0_lows c0_highs c0_barred ++ (w1 cy ad c1_lines c1_parts))))) [] rfl _ rfl (Nat.le_of_ble_eq_true rfl) dX7_change_40 (w7 cy ad s2 c7_lastAsked s3 c4_made c4_kinds c4_places c4_rates c4_readings c4_bearing c5_legs c5_length c5_ways c5_units c5_stuffOf c5_point c6_bytes c6_sizes c6_weights c3_size c3_rates c0_amounts c0_lows c0_highs c0_barred c1_lines c1_parts s10 s11) rfl ?_
    refine r_iconst hC dX7_change_43 ic_1 ?_
    obtain ⟨rfl, rfl, rfl, rfl, rfl⟩ := so_5 hf
    exact hRet _ _ _ dX7_change_44 rfl
  · replace hf := o_neg hf c5
    refine r_iload_n hC dX7_change_11 rfl 0 rfl ?_
    obtain ⟨rfl, rfl, rfl, rfl, rfl⟩ := so_5 hf
    exact hRet _ _ _ dX7_change_12 rfl
noncomputable def fX7_firm (N : Nat) (c7_lastFound : Int32) (c7_found : Nat → Int32) (c4_made : Int32) (c4_kinds : Nat → Int32) (c4_places : Nat → Int32) (c4_rates : Nat → Int32) (c4_bearing : Nat → Int32) (c5_legs : Int32) (c5_length : Int32) (c5_ways : Nat → Int32) (c5_units : Nat → Int32) (c5_stuffOf : Nat → Int32) (c6_bytes : Nat → Int32) (c6_sizes : Nat → Int32) (c6_weights : Nat → Int32) (c2_above : Int64) (c2_below : Int64) (p1 : Int32) (p2 : Int32) : Option (Int32 × Int32 × (Nat → Int32) × (Nat → Int32) × Int64 × Int64) := ob3 (fX7_refusalOfSpring c7_lastFound c7_found c4_made c4_kinds p1 p2) (fun (r1 : Int32) (s2 : Int32) (s3 : Nat → Int32) => (if r1 = 0 then ob (fX4_noteBearing N c4_made c4_kinds c4_places c4_bearing c5_legs c5_length c5_ways c5_units c5_stuffOf c6_bytes c6_sizes p2) (fun (s6 : Nat → Int32) => ob (fX4_twiceLoad N c4_made c4_places s6 c5_legs c5_length c5_units c5_stuffOf c6_weights p1 (-9)) (fun (r8 : Int32) => olet (Int32.toInt64 r8) (fun (x10 : Int64) => (if (lg_cmp x10 0) = 0 then ob3 (fX7_refuse s2 s3 4) (fun (r19 : Int32) (s20 : Int32) (s21 : Nat → Int32) => some (r19, s20, s21, s6, c2_above, c2_below)) else ob (fX4_rateOf c4_rates p1) (fun (r12 : Int32) => ob (fX4_travel N c4_places c5_legs c5_ways c5_units c5_stuffOf c6_bytes c6_sizes p1 p2) (fun (r14 : Int32) => ob2 (fX2_put N c2_above c2_below ((2 * (Int32.toInt64 r12)) * (Int32.toInt64 r14)) (1000 * x10)) (fun (s16 : Int64) (s17 : Int64) => some (1, s2, s3, s6, s16, s17)))))))) else some (r1, s2, s3, c4_bearing, c2_above, c2_below)))
theorem ydX7_firm : yX7_firm.cls = RX7 ∧ yX7_firm.cls ≠ "java/lang/invoke/MethodHandle" ∧ yX7_firm.cls ≠ "java/lang/invoke/VarHandle" ∧ (parseMethodDescriptor yX7_firm.desc).map (fun d => d.parameters.length) = some 2 := by decide +kernel
set_option maxHeartbeats 8000000 in
set_option maxRecDepth 100000 in
theorem kX7_firm (l : Launch) (D : va_G) (cy : Nat → ClassId) (ad : Nat → Nat) (c7_lastFound : Int32) (c7_lastAsked : Int32) (c7_found : Nat → Int32) (c4_made : Int32) (c4_kinds : Nat → Int32) (c4_places : Nat → Int32) (c4_rates : Nat → Int32) (c4_readings : Nat → Int32) (c4_bearing : Nat → Int32) (c5_legs : Int32) (c5_length : Int32) (c5_ways : Nat → Int32) (c5_units : Nat → Int32) (c5_stuffOf : Nat → Int32) (c5_point : Nat → Int32) (c6_bytes : Nat → Int32) (c6_sizes : Nat → Int32) (c6_weights : Nat → Int32) (c3_size : Int32) (c3_rates : Nat → Int32) (c0_amounts : Nat → Int32) (c0_lows : Nat → Int32) (c0_highs : Nat → Int32) (c0_barred : Nat → Int32) (c1_lines : Int32) (c1_parts : Int64) (c2_above : Int64) (c2_below : Int64) (p1 : Int32) (p2 : Int32) (N : Nat) {ra : Int32} {z7_lastFound : Int32} {z7_found : Nat → Int32} {z4_bearing : Nat → Int32} {z2_above : Int64} {z2_below : Int64} (hf : fX7_firm N c7_lastFound c7_found c4_made c4_kinds c4_places c4_rates c4_bearing c5_legs c5_length c5_ways c5_units c5_stuffOf c6_bytes c6_sizes c6_weights c2_above c2_below p1 p2 = some (ra, z7_lastFound, z7_found, z4_bearing, z2_above, z2_below)) : CI l D cy yX7_firm wsX7_firm ({ frames := 5, cells := 0, slots := 0, locals := 117 } : Room) [.ref (ad 70), .int p1, .int p2] (w7 cy ad c7_lastFound c7_lastAsked c7_found c4_made c4_kinds c4_places c4_rates c4_readings c4_bearing c5_legs c5_length c5_ways c5_units c5_stuffOf c5_point c6_bytes c6_sizes c6_weights c3_size c3_rates c0_amounts c0_lows c0_highs c0_barred c1_lines c1_parts c2_above c2_below) ra (w7 cy ad z7_lastFound c7_lastAsked z7_found c4_made c4_kinds c4_places c4_rates c4_readings z4_bearing c5_legs c5_length c5_ways c5_units c5_stuffOf c5_point c6_bytes c6_sizes c6_weights c3_size c3_rates c0_amounts c0_lows c0_highs c0_barred c1_lines c1_parts z2_above z2_below) := by
  unfold fX7_firm at hf
  refine c_of_i (ty := .int) (own := RX7) (by decide) rfl rfl (Nat.le_of_ble_eq_true rfl) (fun X hC hRet => ?_)
  refine r_sub [(0, .ref (ad 70)), (1, .int p1), (2, .int p2)] [0, 1, 2] rfl ?_
  have hin7 : ∀ w ∈ wsX70, w ∈ wsX7_firm := fun w h => List.mem_cons_of_mem _ (List.mem_append_left _ (List.mem_append_left _ (List.mem_append_left _ (List.mem_append_left _ (List.mem_append_right _ h)))))
  have hw0 : Cond.fieldLink RX7 30 "HotPipes" "rests" "LHotPipes$Rests;" ∈ wsX7_firm := List.mem_of_getElem? (i := 1) rfl
  have hw1 : Cond.fieldLink RX7 58 "HotPipes" "fraction" "LHotPipes$Fraction;" ∈ wsX7_firm := List.mem_of_getElem? (i := 2) rfl
  have hw2 : Cond.constantLong RX7 206 (2) ∈ wsX7_firm := List.mem_of_getElem? (i := 3) rfl
  have hw3 : Cond.constantLong RX7 220 (1000) ∈ wsX7_firm := List.mem_of_getElem? (i := 4) rfl
  refine r_aload_n hC dX7_firm_0 rfl 0 rfl ?_
  refine r_iload_n hC dX7_firm_1 rfl 1 rfl ?_
  refine r_iload_n hC dX7_firm_2 rfl 2 rfl ?_
  obtain ⟨r1, s2, s3, h4, hf⟩ := ob3_some hf
  refine r_vi (st := []) hC (kX7_refusalOfSpring l D cy ad c7_lastFound c7_lastAsked c7_found c4_made c4_kinds c4_places c4_rates c4_readings c4_bearing c5_legs c5_length c5_ways c5_units c5_stuffOf c5_point c6_bytes c6_sizes c6_weights c3_size c3_rates c0_amounts c0_lows c0_highs c0_barred c1_lines c1_parts c2_above c2_below p1 p2 h4) gX7_firm_X7_refusalOfSpring rfl ⟨rfl, rfl⟩ ydX7_refusalOfSpring ⟨Nat.le_of_ble_eq_true rfl, Nat.le_of_ble_eq_true rfl⟩ ⟨Nat.le_refl 0, Nat.le_refl 0⟩ 0 rfl rfl [] [] rfl _ rfl (Nat.le_of_ble_eq_true rfl) dX7_firm_3 (w7 cy ad s2 c7_lastAsked s3 c4_made c4_kinds c4_places c4_rates c4_readings c4_bearing c5_legs c5_length c5_ways c5_units c5_stuffOf c5_point c6_bytes c6_sizes c6_weights c3_size c3_rates c0_amounts c0_lows c0_highs c0_barred c1_lines c1_parts c2_above c2_below) rfl ?_
  refine r_istore_n hC [(3, .int r1), (0, .ref (ad 70)), (1, .int p1), (2, .int p2)] dX7_firm_6 rfl (by decide) rfl ?_
  refine r_iload_n hC dX7_firm_7 rfl 0 rfl ?_
  refine r_if_eq (tgt := 13) hC dX7_firm_8 (by decide) (fun c5 => ?_) (fun c5 => ?_)
  · replace hf := o_pos hf c5
    refine r_aload_n hC dX7_firm_13 rfl 1 rfl ?_
    refine r_get hC hin7 0 rfl rfl 2 (by decide) rfl hw0 rfl dX7_firm_14 ?_
    refine r_iload_n hC dX7_firm_17 rfl 3 rfl ?_
    obtain ⟨s6, h7, hf⟩ := ob_some hf
    refine r_vv (st := []) hC (kX4_noteBearing l D cy ad c4_made c4_kinds c4_places c4_rates c4_readings c4_bearing c5_legs c5_length c5_ways c5_units c5_stuffOf c5_point c6_bytes c6_sizes c6_weights p2 N h7) gX7_firm_X4_noteBearing rfl ⟨rfl, rfl⟩ ydX4_noteBearing ⟨Nat.le_of_ble_eq_true rfl, Nat.le_of_ble_eq_true rfl⟩ ⟨Nat.le_refl 0, Nat.le_refl 0⟩ 0 rfl rfl (v7 cy ad s2 c7_lastAsked s3) (w3 cy ad c3_size c3_rates ++ (w0 cy ad c0_amounts c0_lows c0_highs c0_barred ++ (w1 cy ad c1_lines c1_parts ++ (w2 cy ad c2_above c2_below)))) rfl _ rfl (Nat.le_of_ble_eq_true rfl) dX7_firm_18 (w7 cy ad s2 c7_lastAsked s3 c4_made c4_kinds c4_places c4_rates c4_readings s6 c5_legs c5_length c5_ways c5_units c5_stuffOf c5_point c6_bytes c6_sizes c6_weights c3_size c3_rates c0_amounts c0_lows c0_highs c0_barred c1_lines c1_parts c2_above c2_below) rfl ?_
    refine r_aload_n hC dX7_firm_21 rfl 1 rfl ?_
    refine r_get hC hin7 0 rfl rfl 2 (by decide) rfl hw0 rfl dX7_firm_22 ?_
    refine r_iload_n hC dX7_firm_25 rfl 2 rfl ?_
    refine r_bipush hC dX7_firm_26 bp_m9 ?_
    obtain ⟨r8, h9, hf⟩ := ob_some hf
    refine r_vi (st := []) hC (kX4_twiceLoad l D cy ad c4_made c4_kinds c4_places c4_rates c4_readings s6 c5_legs c5_length c5_ways c5_units c5_stuffOf c5_point c6_bytes c6_sizes c6_weights p1 (-9) N h9) gX7_firm_X4_twiceLoad rfl ⟨rfl, rfl⟩ ydX4_twiceLoad ⟨Nat.le_of_ble_eq_true rfl, Nat.le_of_ble_eq_true rfl⟩ ⟨Nat.le_refl 0, Nat.le_refl 0⟩ 0 rfl rfl (v7 cy ad s2 c7_lastAsked s3) (w3 cy ad c3_size c3_rates ++ (w0 cy ad c0_amounts c0_lows c0_highs c0_barred ++ (w1 cy ad c1_lines c1_parts ++ (w2 cy ad c2_above c2_below)))) rfl _ rfl (Nat.le_of_ble_eq_true rfl) dX7_firm_28 (w7 cy ad s2 c7_lastAsked s3 c4_made c4_kinds c4_places c4_rates c4_readings s6 c5_legs c5_length c5_ways c5_units c5_stuffOf c5_point c6_bytes c6_sizes c6_weights c3_size c3_rates c0_amounts c0_lows c0_highs c0_barred c1_lines c1_parts c2_above c2_below) rfl ?_
    refine r_i2l hC dX7_firm_31 ?_
    refine r_topl (fun x10 ex10 => ?_)
    replace hf := olet_some hf ex10
    refine r_lstore hC [(4, .long x10), (3, .int r1), (0, .ref (ad 70)), (1, .int p1), (2, .int p2)] dX7_firm_32 (by decide) rfl ?_
    refine r_lload hC dX7_firm_34 0 rfl ?_
    refine r_lconst hC dX7_firm_36 lc_0 ?_
    refine r_lcmp hC dX7_firm_37 ?_
    refine r_if_ne (tgt := 47) hC dX7_firm_38 (by decide) (fun c11 => ?_) (fun c11 => ?_)
    · replace hf := o_neg hf c11
      refine r_aload_n hC dX7_firm_47 rfl 2 rfl ?_
      refine r_get hC hin7 0 rfl rfl 6 (by decide) rfl hw1 rfl dX7_firm_48 ?_
      refine r_ldc2 hC hw2 dX7_firm_51 ?_
      refine r_aload_n hC dX7_firm_54 rfl 2 rfl ?_
      refine r_get hC hin7 0 rfl rfl 2 (by decide) rfl hw0 rfl dX7_firm_55 ?_
      refine r_iload_n hC dX7_firm_58 rfl 3 rfl ?_
      obtain ⟨r12, h13, hf⟩ := ob_some hf
      refine r_vi (st := [.long 2, .ref (ad 20)]) hC (kX4_rateOf l D cy ad c4_made c4_kinds c4_places c4_rates c4_readings s6 c5_legs c5_length c5_ways c5_units c5_stuffOf c5_point c6_bytes c6_sizes c6_weights p1 h13) gX7_firm_X4_rateOf rfl ⟨rfl, rfl⟩ ydX4_rateOf ⟨Nat.le_of_ble_eq_true rfl, Nat.le_of_ble_eq_true rfl⟩ ⟨Nat.le_refl 0, Nat.le_refl 0⟩ 0 rfl rfl (v7 cy ad s2 c7_lastAsked s3) (w3 cy ad c3_size c3_rates ++ (w0 cy ad c0_amounts c0_lows c0_highs c0_barred ++ (w1 cy ad c1_lines c1_parts ++ (w2 cy ad c2_above c2_below)))) rfl _ rfl (Nat.le_of_ble_eq_true rfl) dX7_firm_59 (w7 cy ad s2 c7_lastAsked s3 c4_made c4_kinds c4_places c4_rates c4_readings s6 c5_legs c5_length c5_ways c5_units c5_stuffOf c5_point c6_bytes c6_sizes c6_weights c3_size c3_rates c0_amounts c0_lows c0_highs c0_barred c1_lines c1_parts c2_above c2_below) rfl ?_
      refine r_i2l hC dX7_firm_62 ?_
      refine r_lmul hC dX7_firm_63 ?_
      refine r_aload_n hC dX7_firm_64 rfl 2 rfl ?_
      refine r_get hC hin7 0 rfl rfl 2 (by decide) rfl hw0 rfl dX7_firm_65 ?_
      refine r_iload_n hC dX7_firm_68 rfl 3 rfl ?_
      refine r_iload_n hC dX7_firm_69 rfl 4 rfl ?_
      obtain ⟨r14, h15, hf⟩ := ob_some hf
      refine r_vi (st := [.long (2 * (Int32.toInt64 r12)), .ref (ad 20)]) hC (kX4_travel l D cy ad c4_made c4_kinds c4_places c4_rates c4_readings s6 c5_legs c5_length c5_ways c5_units c5_stuffOf c5_point c6_bytes c6_sizes c6_weights p1 p2 N h15) gX7_firm_X4_travel rfl ⟨rfl, rfl⟩ ydX4_travel ⟨Nat.le_of_ble_eq_true rfl, Nat.le_of_ble_eq_true rfl⟩ ⟨Nat.le_refl 0, Nat.le_refl 0⟩ 0 rfl rfl (v7 cy ad s2 c7_lastAsked s3) (w3 cy ad c3_size c3_rates ++ (w0 cy ad c0_amounts c0_lows c0_highs c0_barred ++ (w1 cy ad c1_lines c1_parts ++ (w2 cy ad c2_above c2_below)))) rfl _ rfl (Nat.le_of_ble_eq_true rfl) dX7_firm_70 (w7 cy ad s2 c7_lastAsked s3 c4_made c4_kinds c4_places c4_rates c4_readings s6 c5_legs c5_length c5_ways c5_units c5_stuffOf c5_point c6_bytes c6_sizes c6_weights c3_size c3_rates c0_amounts c0_lows c0_highs c0_barred c1_lines c1_parts c2_above c2_below) rfl ?_
      refine r_i2l hC dX7_firm_73 ?_
      refine r_lmul hC dX7_firm_74 ?_
      refine r_ldc2 hC hw3 dX7_firm_75 ?_
      refine r_lload hC dX7_firm_78 0 rfl ?_
      refine r_lmul hC dX7_firm_80 ?_
      obtain ⟨s16, s17, h18, hf⟩ := ob2_some hf
      refine r_vv (st := []) hC (kX2_put l D cy ad c2_above c2_below ((2 * (Int32.toInt64 r12)) * (Int32.toInt64 r14)) (1000 * x10) N h18) gX7_firm_X2_put rfl ⟨rfl, rfl⟩ ydX2_put ⟨Nat.le_of_ble_eq_true rfl, Nat.le_of_ble_eq_true rfl⟩ ⟨Nat.le_refl 0, Nat.le_refl 0⟩ 0 rfl rfl (v7 cy ad s2 c7_lastAsked s3 ++ (w4 cy ad c4_made c4_kinds c4_places c4_rates c4_readings s6 c5_legs c5_length c5_ways c5_units c5_stuffOf c5_point c6_bytes c6_sizes c6_weights ++ (w3 cy ad c3_size c3_rates ++ (w0 cy ad c0_amounts c0_lows c0_highs c0_barred ++ (w1 cy ad c1_lines c1_parts))))) [] rfl _ rfl (Nat.le_of_ble_eq_true rfl) dX7_firm_81 (w7 cy ad s2 c7_lastAsked s3 c4_made c4_kinds c4_places c4_rates c4_readings s6 c5_legs c5_length c5_ways c5_units c5_stuffOf c5_point c6_bytes c6_sizes c6_weights c3_size c3_rates c0_amounts c0_lows c0_highs c0_barred c1_lines c1_parts s16 s17) rfl ?_
      refine r_iconst hC dX7_firm_84 ic_1 ?_
      obtain ⟨rfl, rfl, rfl, rfl, rfl, rfl⟩ := so_6 hf
      exact hRet _ _ _ dX7_firm_85 rfl
    · replace hf := o_pos hf c11
      refine r_aload_n hC dX7_firm_41 rfl 2 rfl ?_
      refine r_iconst hC dX7_firm_42 ic_4 ?_
      obtain ⟨r19, s20, s21, h22, hf⟩ := ob3_some hf
      refine r_vi (st := []) hC (kX7_refuse l D cy ad s2 c7_lastAsked s3 c4_made c4_kinds c4_places c4_rates c4_readings s6 c5_legs c5_length c5_ways c5_units c5_stuffOf c5_point c6_bytes c6_sizes c6_weights c3_size c3_rates c0_amounts c0_lows c0_highs c0_barred c1_lines c1_parts c2_above c2_below 4 h22) gX7_firm_X7_refuse rfl ⟨rfl, rfl⟩ ydX7_refuse ⟨Nat.le_of_ble_eq_true rfl, Nat.le_of_ble_eq_true rfl⟩ ⟨Nat.le_refl 0, Nat.le_refl 0⟩ 0 rfl rfl [] [] rfl _ rfl (Nat.le_of_ble_eq_true rfl) dX7_firm_43 (w7 cy ad s20 c7_lastAsked s21 c4_made c4_kinds c4_places c4_rates c4_readings s6 c5_legs c5_length c5_ways c5_units c5_stuffOf c5_point c6_bytes c6_sizes c6_weights c3_size c3_rates c0_amounts c0_lows c0_highs c0_barred c1_lines c1_parts c2_above c2_below) rfl ?_
      obtain ⟨rfl, rfl, rfl, rfl, rfl, rfl⟩ := so_6 hf
      exact hRet _ _ _ dX7_firm_46 rfl
  · replace hf := o_neg hf c5
    refine r_iload_n hC dX7_firm_11 rfl 0 rfl ?_
    obtain ⟨rfl, rfl, rfl, rfl, rfl, rfl⟩ := so_6 hf
    exact hRet _ _ _ dX7_firm_12 rfl
noncomputable def fX7_list (c3_size : Int32) (c3_rates : Nat → Int32) (p1 : Int32) : Option (Int32 × Int32 × (Nat → Int32)) := ob (fX7_isRate p1) (fun (r1 : Int32) => (if r1 = 0 then some ((-1), c3_size, c3_rates) else ob (fX3_size c3_size) (fun (r4 : Int32) => (if r4 < 12 then ob2 (fX3_append c3_size c3_rates p1) (fun (s7 : Int32) (s8 : Nat → Int32) => ob (fX3_size s7) (fun (r10 : Int32) => some (r10, s7, s8))) else some ((-2), c3_size, c3_rates)))))
theorem ydX7_list : yX7_list.cls = RX7 ∧ yX7_list.cls ≠ "java/lang/invoke/MethodHandle" ∧ yX7_list.cls ≠ "java/lang/invoke/VarHandle" ∧ (parseMethodDescriptor yX7_list.desc).map (fun d => d.parameters.length) = some 1 := by decide +kernel
set_option maxHeartbeats 8000000 in
set_option maxRecDepth 100000 in
theorem kX7_list (l : Launch) (D : va_G) (cy : Nat → ClassId) (ad : Nat → Nat) (c7_lastFound : Int32) (c7_lastAsked : Int32) (c7_found : Nat → Int32) (c4_made : Int32) (c4_kinds : Nat → Int32) (c4_places : Nat → Int32) (c4_rates : Nat → Int32) (c4_readings : Nat → Int32) (c4_bearing : Nat → Int32) (c5_legs : Int32) (c5_length : Int32) (c5_ways : Nat → Int32) (c5_units : Nat → Int32) (c5_stuffOf : Nat → Int32) (c5_point : Nat → Int32) (c6_bytes : Nat → Int32) (c6_sizes : Nat → Int32) (c6_weights : Nat → Int32) (c3_size : Int32) (c3_rates : Nat → Int32) (c0_amounts : Nat → Int32) (c0_lows : Nat → Int32) (c0_highs : Nat → Int32) (c0_barred : Nat → Int32) (c1_lines : Int32) (c1_parts : Int64) (c2_above : Int64) (c2_below : Int64) (p1 : Int32) {ra : Int32} {z3_size : Int32} {z3_rates : Nat → Int32} (hf : fX7_list c3_size c3_rates p1 = some (ra, z3_size, z3_rates)) : CI l D cy yX7_list wsX7_list ({ frames := 2, cells := 0, slots := 0, locals := 42 } : Room) [.ref (ad 70), .int p1] (w7 cy ad c7_lastFound c7_lastAsked c7_found c4_made c4_kinds c4_places c4_rates c4_readings c4_bearing c5_legs c5_length c5_ways c5_units c5_stuffOf c5_point c6_bytes c6_sizes c6_weights c3_size c3_rates c0_amounts c0_lows c0_highs c0_barred c1_lines c1_parts c2_above c2_below) ra (w7 cy ad c7_lastFound c7_lastAsked c7_found c4_made c4_kinds c4_places c4_rates c4_readings c4_bearing c5_legs c5_length c5_ways c5_units c5_stuffOf c5_point c6_bytes c6_sizes c6_weights z3_size z3_rates c0_amounts c0_lows c0_highs c0_barred c1_lines c1_parts c2_above c2_below) := by
  unfold fX7_list at hf
  refine c_of_i (ty := .int) (own := RX7) (by decide) rfl rfl (Nat.le_of_ble_eq_true rfl) (fun X hC hRet => ?_)
  refine r_sub [(0, .ref (ad 70)), (1, .int p1)] [0, 1] rfl ?_
  have hin7 : ∀ w ∈ wsX70, w ∈ wsX7_list := fun w h => List.mem_cons_of_mem _ (List.mem_append_left _ (List.mem_append_right _ h))
  have hw0 : Cond.fieldLink RX7 37 "HotPipes" "rates" "LHotPipes$Rates;" ∈ wsX7_list := List.mem_of_getElem? (i := 1) rfl
  refine r_iload_n hC dX7_list_0 rfl 1 rfl ?_
  obtain ⟨r1, h2, hf⟩ := ob_some hf
  refine r_si (st := []) hC (kX7_isRate l D cy p1 h2) gX7_list_X7_isRate rfl ⟨rfl, rfl⟩ ydX7_isRate ⟨Nat.le_of_ble_eq_true rfl, Nat.le_of_ble_eq_true rfl⟩ ⟨Nat.le_refl 0, Nat.le_refl 0⟩ _ rfl (Nat.le_of_ble_eq_true rfl) dX7_list_1 ?_
  refine r_if_ne (tgt := 9) hC dX7_list_4 (by decide) (fun c3 => ?_) (fun c3 => ?_)
  · replace hf := o_neg hf c3
    refine r_aload_n hC dX7_list_9 rfl 0 rfl ?_
    refine r_get hC hin7 0 rfl rfl 3 (by decide) rfl hw0 rfl dX7_list_10 ?_
    obtain ⟨r4, h5, hf⟩ := ob_some hf
    refine r_vi (st := []) hC (kX3_size l D cy ad c3_size c3_rates  h5) gX7_list_X3_size rfl ⟨rfl, rfl⟩ ydX3_size ⟨Nat.le_of_ble_eq_true rfl, Nat.le_of_ble_eq_true rfl⟩ ⟨Nat.le_refl 0, Nat.le_refl 0⟩ 0 rfl rfl (v7 cy ad c7_lastFound c7_lastAsked c7_found ++ (w4 cy ad c4_made c4_kinds c4_places c4_rates c4_readings c4_bearing c5_legs c5_length c5_ways c5_units c5_stuffOf c5_point c6_bytes c6_sizes c6_weights)) (w0 cy ad c0_amounts c0_lows c0_highs c0_barred ++ (w1 cy ad c1_lines c1_parts ++ (w2 cy ad c2_above c2_below))) rfl _ rfl (Nat.le_of_ble_eq_true rfl) dX7_list_13 (w7 cy ad c7_lastFound c7_lastAsked c7_found c4_made c4_kinds c4_places c4_rates c4_readings c4_bearing c5_legs c5_length c5_ways c5_units c5_stuffOf c5_point c6_bytes c6_sizes c6_weights c3_size c3_rates c0_amounts c0_lows c0_highs c0_barred c1_lines c1_parts c2_above c2_below) rfl ?_
    refine r_bipush hC dX7_list_16 bp_12 ?_
    refine r_icmp_lt (tgt := 24) hC dX7_list_18 (by decide) (fun c6 => ?_) (fun c6 => ?_)
    · replace hf := o_pos hf c6
      refine r_aload_n hC dX7_list_24 rfl 0 rfl ?_
      refine r_get hC hin7 0 rfl rfl 3 (by decide) rfl hw0 rfl dX7_list_25 ?_
      refine r_iload_n hC dX7_list_28 rfl 1 rfl ?_
      obtain ⟨s7, s8, h9, hf⟩ := ob2_some hf
      refine r_vv (st := []) hC (kX3_append l D cy ad c3_size c3_rates p1 h9) gX7_list_X3_append rfl ⟨rfl, rfl⟩ ydX3_append ⟨Nat.le_of_ble_eq_true rfl, Nat.le_of_ble_eq_true rfl⟩ ⟨Nat.le_refl 0, Nat.le_refl 0⟩ 0 rfl rfl (v7 cy ad c7_lastFound c7_lastAsked c7_found ++ (w4 cy ad c4_made c4_kinds c4_places c4_rates c4_readings c4_bearing c5_legs c5_length c5_ways c5_units c5_stuffOf c5_point c6_bytes c6_sizes c6_weights)) (w0 cy ad c0_amounts c0_lows c0_highs c0_barred ++ (w1 cy ad c1_lines c1_parts ++ (w2 cy ad c2_above c2_below))) rfl _ rfl (Nat.le_of_ble_eq_true rfl) dX7_list_29 (w7 cy ad c7_lastFound c7_lastAsked c7_found c4_made c4_kinds c4_places c4_rates c4_readings c4_bearing c5_legs c5_length c5_ways c5_units c5_stuffOf c5_point c6_bytes c6_sizes c6_weights s7 s8 c0_amounts c0_lows c0_highs c0_barred c1_lines c1_parts c2_above c2_below) rfl ?_
      refine r_aload_n hC dX7_list_32 rfl 0 rfl ?_
      refine r_get hC hin7 0 rfl rfl 3 (by decide) rfl hw0 rfl dX7_list_33 ?_
      obtain ⟨r10, h11, hf⟩ := ob_some hf
      refine r_vi (st := []) hC (kX3_size l D cy ad s7 s8  h11) gX7_list_X3_size rfl ⟨rfl, rfl⟩ ydX3_size ⟨Nat.le_of_ble_eq_true rfl, Nat.le_of_ble_eq_true rfl⟩ ⟨Nat.le_refl 0, Nat.le_refl 0⟩ 0 rfl rfl (v7 cy ad c7_lastFound c7_lastAsked c7_found ++ (w4 cy ad c4_made c4_kinds c4_places c4_rates c4_readings c4_bearing c5_legs c5_length c5_ways c5_units c5_stuffOf c5_point c6_bytes c6_sizes c6_weights)) (w0 cy ad c0_amounts c0_lows c0_highs c0_barred ++ (w1 cy ad c1_lines c1_parts ++ (w2 cy ad c2_above c2_below))) rfl _ rfl (Nat.le_of_ble_eq_true rfl) dX7_list_36 (w7 cy ad c7_lastFound c7_lastAsked c7_found c4_made c4_kinds c4_places c4_rates c4_readings c4_bearing c5_legs c5_length c5_ways c5_units c5_stuffOf c5_point c6_bytes c6_sizes c6_weights s7 s8 c0_amounts c0_lows c0_highs c0_barred c1_lines c1_parts c2_above c2_below) rfl ?_
      obtain ⟨rfl, rfl, rfl⟩ := so_3 hf
      exact hRet _ _ _ dX7_list_39 rfl
    · replace hf := o_neg hf c6
      refine r_bipush hC dX7_list_21 bp_m2 ?_
      obtain ⟨rfl, rfl, rfl⟩ := so_3 hf
      exact hRet _ _ _ dX7_list_23 rfl
  · replace hf := o_pos hf c3
    refine r_iconst hC dX7_list_7 ic_m1 ?_
    obtain ⟨rfl, rfl, rfl⟩ := so_3 hf
    exact hRet _ _ _ dX7_list_8 rfl
noncomputable def fX7_choose (N : Nat) (c7_lastFound : Int32) (c7_found : Nat → Int32) (c4_made : Int32) (c4_kinds : Nat → Int32) (c4_places : Nat → Int32) (c4_rates : Nat → Int32) (c4_bearing : Nat → Int32) (c5_legs : Int32) (c5_length : Int32) (c5_ways : Nat → Int32) (c5_units : Nat → Int32) (c5_stuffOf : Nat → Int32) (c6_bytes : Nat → Int32) (c6_sizes : Nat → Int32) (c6_weights : Nat → Int32) (c3_size : Int32) (c3_rates : Nat → Int32) (p1 : Int32) (p2 : Int32) : Option (Int32 × Int32 × (Nat → Int32) × (Nat → Int32) × (Nat → Int32)) := ob3 (fX7_refusalOfSpring c7_lastFound c7_found c4_made c4_kinds p1 p2) (fun (r1 : Int32) (s2 : Int32) (s3 : Nat → Int32) => (if r1 = 0 then ob (fX4_noteBearing N c4_made c4_kinds c4_places c4_bearing c5_legs c5_length c5_ways c5_units c5_stuffOf c6_bytes c6_sizes p2) (fun (s6 : Nat → Int32) => ob (fX4_twiceLoad N c4_made c4_places s6 c5_legs c5_length c5_units c5_stuffOf c6_weights p1 (-9)) (fun (r8 : Int32) => (if r8 = 0 then ob3 (fX7_refuse s2 s3 4) (fun (r18 : Int32) (s19 : Int32) (s20 : Nat → Int32) => some (r18, s19, s20, c4_rates, s6)) else ob (fX4_travel N c4_places c5_legs c5_ways c5_units c5_stuffOf c6_bytes c6_sizes p1 p2) (fun (r11 : Int32) => ob (fX3_greatestFirmEnough N c3_size c3_rates r11 r8) (fun (r13 : Int32) => (if r13 = (-9) then some (r13, s2, s3, c4_rates, s6) else ob (fX4_setRate c4_rates p1 r13) (fun (s16 : Nat → Int32) => some (r13, s2, s3, s16, s6)))))))) else some (r1, s2, s3, c4_rates, c4_bearing)))
theorem ydX7_choose : yX7_choose.cls = RX7 ∧ yX7_choose.cls ≠ "java/lang/invoke/MethodHandle" ∧ yX7_choose.cls ≠ "java/lang/invoke/VarHandle" ∧ (parseMethodDescriptor yX7_choose.desc).map (fun d => d.parameters.length) = some 2 := by decide +kernel
set_option maxHeartbeats 8000000 in
set_option maxRecDepth 100000 in
theorem kX7_choose (l : Launch) (D : va_G) (cy : Nat → ClassId) (ad : Nat → Nat) (c7_lastFound : Int32) (c7_lastAsked : Int32) (c7_found : Nat → Int32) (c4_made : Int32) (c4_kinds : Nat → Int32) (c4_places : Nat → Int32) (c4_rates : Nat → Int32) (c4_readings : Nat → Int32) (c4_bearing : Nat → Int32) (c5_legs : Int32) (c5_length : Int32) (c5_ways : Nat → Int32) (c5_units : Nat → Int32) (c5_stuffOf : Nat → Int32) (c5_point : Nat → Int32) (c6_bytes : Nat → Int32) (c6_sizes : Nat → Int32) (c6_weights : Nat → Int32) (c3_size : Int32) (c3_rates : Nat → Int32) (c0_amounts : Nat → Int32) (c0_lows : Nat → Int32) (c0_highs : Nat → Int32) (c0_barred : Nat → Int32) (c1_lines : Int32) (c1_parts : Int64) (c2_above : Int64) (c2_below : Int64) (p1 : Int32) (p2 : Int32) (N : Nat) {ra : Int32} {z7_lastFound : Int32} {z7_found : Nat → Int32} {z4_rates : Nat → Int32} {z4_bearing : Nat → Int32} (hf : fX7_choose N c7_lastFound c7_found c4_made c4_kinds c4_places c4_rates c4_bearing c5_legs c5_length c5_ways c5_units c5_stuffOf c6_bytes c6_sizes c6_weights c3_size c3_rates p1 p2 = some (ra, z7_lastFound, z7_found, z4_rates, z4_bearing)) : CI l D cy yX7_choose wsX7_choose ({ frames := 5, cells := 0, slots := 0, locals := 117 } : Room) [.ref (ad 70), .int p1, .int p2] (w7 cy ad c7_lastFound c7_lastAsked c7_found c4_made c4_kinds c4_places c4_rates c4_readings c4_bearing c5_legs c5_length c5_ways c5_units c5_stuffOf c5_point c6_bytes c6_sizes c6_weights c3_size c3_rates c0_amounts c0_lows c0_highs c0_barred c1_lines c1_parts c2_above c2_below) ra (w7 cy ad z7_lastFound c7_lastAsked z7_found c4_made c4_kinds c4_places z4_rates c4_readings z4_bearing c5_legs c5_length c5_ways c5_units c5_stuffOf c5_point c6_bytes c6_sizes c6_weights c3_size c3_rates c0_amounts c0_lows c0_highs c0_barred c1_lines c1_parts c2_above c2_below) := by
  unfold fX7_choose at hf
  refine c_of_i (ty := .int) (own := RX7) (by decide) rfl rfl (Nat.le_of_ble_eq_true rfl) (fun X hC hRet => ?_)
  refine r_sub [(0, .ref (ad 70)), (1, .int p1), (2, .int p2)] [0, 1, 2] rfl ?_
  have hin7 : ∀ w ∈ wsX70, w ∈ wsX7_choose := fun w h => List.mem_cons_of_mem _ (List.mem_append_left _ (List.mem_append_left _ (List.mem_append_left _ (List.mem_append_left _ (List.mem_append_right _ h)))))
  have hw0 : Cond.fieldLink RX7 30 "HotPipes" "rests" "LHotPipes$Rests;" ∈ wsX7_choose := List.mem_of_getElem? (i := 1) rfl
  have hw1 : Cond.fieldLink RX7 37 "HotPipes" "rates" "LHotPipes$Rates;" ∈ wsX7_choose := List.mem_of_getElem? (i := 2) rfl
  refine r_aload_n hC dX7_choose_0 rfl 0 rfl ?_
  refine r_iload_n hC dX7_choose_1 rfl 1 rfl ?_
  refine r_iload_n hC dX7_choose_2 rfl 2 rfl ?_
  obtain ⟨r1, s2, s3, h4, hf⟩ := ob3_some hf
  refine r_vi (st := []) hC (kX7_refusalOfSpring l D cy ad c7_lastFound c7_lastAsked c7_found c4_made c4_kinds c4_places c4_rates c4_readings c4_bearing c5_legs c5_length c5_ways c5_units c5_stuffOf c5_point c6_bytes c6_sizes c6_weights c3_size c3_rates c0_amounts c0_lows c0_highs c0_barred c1_lines c1_parts c2_above c2_below p1 p2 h4) gX7_choose_X7_refusalOfSpring rfl ⟨rfl, rfl⟩ ydX7_refusalOfSpring ⟨Nat.le_of_ble_eq_true rfl, Nat.le_of_ble_eq_true rfl⟩ ⟨Nat.le_refl 0, Nat.le_refl 0⟩ 0 rfl rfl [] [] rfl _ rfl (Nat.le_of_ble_eq_true rfl) dX7_choose_3 (w7 cy ad s2 c7_lastAsked s3 c4_made c4_kinds c4_places c4_rates c4_readings c4_bearing c5_legs c5_length c5_ways c5_units c5_stuffOf c5_point c6_bytes c6_sizes c6_weights c3_size c3_rates c0_amounts c0_lows c0_highs c0_barred c1_lines c1_parts c2_above c2_below) rfl ?_
  refine r_istore_n hC [(3, .int r1), (0, .ref (ad 70)), (1, .int p1), (2, .int p2)] dX7_choose_6 rfl (by decide) rfl ?_
  refine r_iload_n hC dX7_choose_7 rfl 0 rfl ?_
  refine r_if_eq (tgt := 13) hC dX7_choose_8 (by decide) (fun c5 => ?_) (fun c5 => ?_)
  · replace hf := o_pos hf c5
    refine r_aload_n hC dX7_choose_13 rfl 1 rfl ?_
    refine r_get hC hin7 0 rfl rfl 2 (by decide) rfl hw0 rfl dX7_choose_14 ?_
    refine r_iload_n hC dX7_choose_17 rfl 3 rfl ?_
    obtain ⟨s6, h7, hf⟩ := ob_some hf
    refine r_vv (st := []) hC (kX4_noteBearing l D cy ad c4_made c4_kinds c4_places c4_rates c4_readings c4_bearing c5_legs c5_length c5_ways c5_units c5_stuffOf c5_point c6_bytes c6_sizes c6_weights p2 N h7) gX7_choose_X4_noteBearing rfl ⟨rfl, rfl⟩ ydX4_noteBearing ⟨Nat.le_of_ble_eq_true rfl, Nat.le_of_ble_eq_true rfl⟩ ⟨Nat.le_refl 0, Nat.le_refl 0⟩ 0 rfl rfl (v7 cy ad s2 c7_lastAsked s3) (w3 cy ad c3_size c3_rates ++ (w0 cy ad c0_amounts c0_lows c0_highs c0_barred ++ (w1 cy ad c1_lines c1_parts ++ (w2 cy ad c2_above c2_below)))) rfl _ rfl (Nat.le_of_ble_eq_true rfl) dX7_choose_18 (w7 cy ad s2 c7_lastAsked s3 c4_made c4_kinds c4_places c4_rates c4_readings s6 c5_legs c5_length c5_ways c5_units c5_stuffOf c5_point c6_bytes c6_sizes c6_weights c3_size c3_rates c0_amounts c0_lows c0_highs c0_barred c1_lines c1_parts c2_above c2_below) rfl ?_
    refine r_aload_n hC dX7_choose_21 rfl 1 rfl ?_
    refine r_get hC hin7 0 rfl rfl 2 (by decide) rfl hw0 rfl dX7_choose_22 ?_
    refine r_iload_n hC dX7_choose_25 rfl 2 rfl ?_
    refine r_bipush hC dX7_choose_26 bp_m9 ?_
    obtain ⟨r8, h9, hf⟩ := ob_some hf
    refine r_vi (st := []) hC (kX4_twiceLoad l D cy ad c4_made c4_kinds c4_places c4_rates c4_readings s6 c5_legs c5_length c5_ways c5_units c5_stuffOf c5_point c6_bytes c6_sizes c6_weights p1 (-9) N h9) gX7_choose_X4_twiceLoad rfl ⟨rfl, rfl⟩ ydX4_twiceLoad ⟨Nat.le_of_ble_eq_true rfl, Nat.le_of_ble_eq_true rfl⟩ ⟨Nat.le_refl 0, Nat.le_refl 0⟩ 0 rfl rfl (v7 cy ad s2 c7_lastAsked s3) (w3 cy ad c3_size c3_rates ++ (w0 cy ad c0_amounts c0_lows c0_highs c0_barred ++ (w1 cy ad c1_lines c1_parts ++ (w2 cy ad c2_above c2_below)))) rfl _ rfl (Nat.le_of_ble_eq_true rfl) dX7_choose_28 (w7 cy ad s2 c7_lastAsked s3 c4_made c4_kinds c4_places c4_rates c4_readings s6 c5_legs c5_length c5_ways c5_units c5_stuffOf c5_point c6_bytes c6_sizes c6_weights c3_size c3_rates c0_amounts c0_lows c0_highs c0_barred c1_lines c1_parts c2_above c2_below) rfl ?_
    refine r_istore hC [(4, .int r8), (3, .int r1), (0, .ref (ad 70)), (1, .int p1), (2, .int p2)] dX7_choose_31 (by decide) rfl ?_
    refine r_iload hC dX7_choose_33 0 rfl ?_
    refine r_if_ne (tgt := 44) hC dX7_choose_35 (by decide) (fun c10 => ?_) (fun c10 => ?_)
    · replace hf := o_neg hf c10
      refine r_aload_n hC dX7_choose_44 rfl 2 rfl ?_
      refine r_get hC hin7 0 rfl rfl 3 (by decide) rfl hw1 rfl dX7_choose_45 ?_
      refine r_aload_n hC dX7_choose_48 rfl 2 rfl ?_
      refine r_get hC hin7 0 rfl rfl 2 (by decide) rfl hw0 rfl dX7_choose_49 ?_
      refine r_iload_n hC dX7_choose_52 rfl 3 rfl ?_
      refine r_iload_n hC dX7_choose_53 rfl 4 rfl ?_
      obtain ⟨r11, h12, hf⟩ := ob_some hf
      refine r_vi (st := [.ref (ad 30)]) hC (kX4_travel l D cy ad c4_made c4_kinds c4_places c4_rates c4_readings s6 c5_legs c5_length c5_ways c5_units c5_stuffOf c5_point c6_bytes c6_sizes c6_weights p1 p2 N h12) gX7_choose_X4_travel rfl ⟨rfl, rfl⟩ ydX4_travel ⟨Nat.le_of_ble_eq_true rfl, Nat.le_of_ble_eq_true rfl⟩ ⟨Nat.le_refl 0, Nat.le_refl 0⟩ 0 rfl rfl (v7 cy ad s2 c7_lastAsked s3) (w3 cy ad c3_size c3_rates ++ (w0 cy ad c0_amounts c0_lows c0_highs c0_barred ++ (w1 cy ad c1_lines c1_parts ++ (w2 cy ad c2_above c2_below)))) rfl _ rfl (Nat.le_of_ble_eq_true rfl) dX7_choose_54 (w7 cy ad s2 c7_lastAsked s3 c4_made c4_kinds c4_places c4_rates c4_readings s6 c5_legs c5_length c5_ways c5_units c5_stuffOf c5_point c6_bytes c6_sizes c6_weights c3_size c3_rates c0_amounts c0_lows c0_highs c0_barred c1_lines c1_parts c2_above c2_below) rfl ?_
      refine r_iload hC dX7_choose_57 0 rfl ?_
      obtain ⟨r13, h14, hf⟩ := ob_some hf
      refine r_vi (st := []) hC (kX3_greatestFirmEnough l D cy ad c3_size c3_rates r11 r8 N h14) gX7_choose_X3_greatestFirmEnough rfl ⟨rfl, rfl⟩ ydX3_greatestFirmEnough ⟨Nat.le_of_ble_eq_true rfl, Nat.le_of_ble_eq_true rfl⟩ ⟨Nat.le_refl 0, Nat.le_refl 0⟩ 0 rfl rfl (v7 cy ad s2 c7_lastAsked s3 ++ (w4 cy ad c4_made c4_kinds c4_places c4_rates c4_readings s6 c5_legs c5_length c5_ways c5_units c5_stuffOf c5_point c6_bytes c6_sizes c6_weights)) (w0 cy ad c0_amounts c0_lows c0_highs c0_barred ++ (w1 cy ad c1_lines c1_parts ++ (w2 cy ad c2_above c2_below))) rfl _ rfl (Nat.le_of_ble_eq_true rfl) dX7_choose_59 (w7 cy ad s2 c7_lastAsked s3 c4_made c4_kinds c4_places c4_rates c4_readings s6 c5_legs c5_length c5_ways c5_units c5_stuffOf c5_point c6_bytes c6_sizes c6_weights c3_size c3_rates c0_amounts c0_lows c0_highs c0_barred c1_lines c1_parts c2_above c2_below) rfl ?_
      refine r_istore hC [(5, .int r13), (4, .int r8), (3, .int r1), (0, .ref (ad 70)), (1, .int p1), (2, .int p2)] dX7_choose_62 (by decide) rfl ?_
      refine r_iload hC dX7_choose_64 0 rfl ?_
      refine r_bipush hC dX7_choose_66 bp_m9 ?_
      refine r_icmp_eq (tgt := 81) hC dX7_choose_68 (by decide) (fun c15 => ?_) (fun c15 => ?_)
      · replace hf := o_pos hf c15
        refine r_iload hC dX7_choose_81 0 rfl ?_
        obtain ⟨rfl, rfl, rfl, rfl, rfl⟩ := so_5 hf
        exact hRet _ _ _ dX7_choose_83 rfl
      · replace hf := o_neg hf c15
        refine r_aload_n hC dX7_choose_71 rfl 3 rfl ?_
        refine r_get hC hin7 0 rfl rfl 2 (by decide) rfl hw0 rfl dX7_choose_72 ?_
        refine r_iload_n hC dX7_choose_75 rfl 4 rfl ?_
        refine r_iload hC dX7_choose_76 0 rfl ?_
        obtain ⟨s16, h17, hf⟩ := ob_some hf
        refine r_vv (st := []) hC (kX4_setRate l D cy ad c4_made c4_kinds c4_places c4_rates c4_readings s6 c5_legs c5_length c5_ways c5_units c5_stuffOf c5_point c6_bytes c6_sizes c6_weights p1 r13 h17) gX7_choose_X4_setRate rfl ⟨rfl, rfl⟩ ydX4_setRate ⟨Nat.le_of_ble_eq_true rfl, Nat.le_of_ble_eq_true rfl⟩ ⟨Nat.le_refl 0, Nat.le_refl 0⟩ 0 rfl rfl (v7 cy ad s2 c7_lastAsked s3) (w3 cy ad c3_size c3_rates ++ (w0 cy ad c0_amounts c0_lows c0_highs c0_barred ++ (w1 cy ad c1_lines c1_parts ++ (w2 cy ad c2_above c2_below)))) rfl _ rfl (Nat.le_of_ble_eq_true rfl) dX7_choose_78 (w7 cy ad s2 c7_lastAsked s3 c4_made c4_kinds c4_places s16 c4_readings s6 c5_legs c5_length c5_ways c5_units c5_stuffOf c5_point c6_bytes c6_sizes c6_weights c3_size c3_rates c0_amounts c0_lows c0_highs c0_barred c1_lines c1_parts c2_above c2_below) rfl ?_
        refine r_iload hC dX7_choose_81 0 rfl ?_
        obtain ⟨rfl, rfl, rfl, rfl, rfl⟩ := so_5 hf
        exact hRet _ _ _ dX7_choose_83 rfl
    · replace hf := o_pos hf c10
      refine r_aload_n hC dX7_choose_38 rfl 2 rfl ?_
      refine r_iconst hC dX7_choose_39 ic_4 ?_
      obtain ⟨r18, s19, s20, h21, hf⟩ := ob3_some hf
      refine r_vi (st := []) hC (kX7_refuse l D cy ad s2 c7_lastAsked s3 c4_made c4_kinds c4_places c4_rates c4_readings s6 c5_legs c5_length c5_ways c5_units c5_stuffOf c5_point c6_bytes c6_sizes c6_weights c3_size c3_rates c0_amounts c0_lows c0_highs c0_barred c1_lines c1_parts c2_above c2_below 4 h21) gX7_choose_X7_refuse rfl ⟨rfl, rfl⟩ ydX7_refuse ⟨Nat.le_of_ble_eq_true rfl, Nat.le_of_ble_eq_true rfl⟩ ⟨Nat.le_refl 0, Nat.le_refl 0⟩ 0 rfl rfl [] [] rfl _ rfl (Nat.le_of_ble_eq_true rfl) dX7_choose_40 (w7 cy ad s19 c7_lastAsked s20 c4_made c4_kinds c4_places c4_rates c4_readings s6 c5_legs c5_length c5_ways c5_units c5_stuffOf c5_point c6_bytes c6_sizes c6_weights c3_size c3_rates c0_amounts c0_lows c0_highs c0_barred c1_lines c1_parts c2_above c2_below) rfl ?_
      obtain ⟨rfl, rfl, rfl, rfl, rfl⟩ := so_5 hf
      exact hRet _ _ _ dX7_choose_43 rfl
  · replace hf := o_neg hf c5
    refine r_iload_n hC dX7_choose_11 rfl 0 rfl ?_
    obtain ⟨rfl, rfl, rfl, rfl, rfl⟩ := so_5 hf
    exact hRet _ _ _ dX7_choose_12 rfl
noncomputable def fX7_isCase (p1 : Int32) : Option (Int32) := ob (fX7_isWithin p1 0 7) (fun (r1 : Int32) => og (r1 = 0 ∨ r1 = 1) (some r1))
theorem ydX7_isCase : yX7_isCase.cls ≠ "java/lang/invoke/MethodHandle" ∧ yX7_isCase.cls ≠ "java/lang/invoke/VarHandle" ∧ (parseMethodDescriptor yX7_isCase.desc).map (fun d => d.parameters.length) = some 1 := by decide +kernel
set_option maxHeartbeats 8000000 in
set_option maxRecDepth 100000 in
theorem kX7_isCase (l : Launch) (D : va_G) (cy : Nat → ClassId) (p1 : Int32) {ra : Int32} (hf : fX7_isCase p1 = some ra) : CI l D cy yX7_isCase wsX7_isCase ({ frames := 1, cells := 0, slots := 0, locals := 22 } : Room) [.int p1] [] ra [] := by
  unfold fX7_isCase at hf
  refine c_of_i (ty := .boolean) (own := RX7) (by decide) rfl rfl (Nat.le_of_ble_eq_true rfl) (fun X hC hRet => ?_)
  refine r_sub [(0, .int p1)] [0] rfl ?_
  refine r_iload_n hC dX7_isCase_0 rfl 0 rfl ?_
  refine r_iconst hC dX7_isCase_1 ic_0 ?_
  refine r_bipush hC dX7_isCase_2 bp_7 ?_
  obtain ⟨r1, h2, hf⟩ := ob_some hf
  refine r_si (st := []) hC (kX7_isWithin l D cy p1 0 7 h2) gX7_isCase_X7_isWithin rfl ⟨rfl, rfl⟩ ydX7_isWithin ⟨Nat.le_of_ble_eq_true rfl, Nat.le_of_ble_eq_true rfl⟩ ⟨Nat.le_refl 0, Nat.le_refl 0⟩ _ rfl (Nat.le_of_ble_eq_true rfl) dX7_isCase_4 ?_
  obtain ⟨g3, hf⟩ := og_some hf
  obtain rfl := so_1 hf
  exact hRet _ _ _ dX7_isCase_7 (nb_of g3)
noncomputable def fX7_amount (c0_amounts : Nat → Int32) (c0_lows : Nat → Int32) (c0_highs : Nat → Int32) (p1 : Int32) (p2 : Int32) (p3 : Int32) (p4 : Int32) : Option (Int32 × (Nat → Int32) × (Nat → Int32) × (Nat → Int32)) := ob (fX7_isCase p1) (fun (r1 : Int32) => (if r1 = 0 then some ((-1), c0_amounts, c0_lows, c0_highs) else ob (fX7_isWithin p2 (-10000) 10000) (fun (r4 : Int32) => (if r4 = 0 then some ((-1), c0_amounts, c0_lows, c0_highs) else ob (fX7_isWithin p3 (-9) p4) (fun (r7 : Int32) => (if r7 = 0 then some ((-1), c0_amounts, c0_lows, c0_highs) else (if p4 ≤ 9 then ob3 (fX0_put c0_amounts c0_lows c0_highs p1 p2 p3 p4) (fun (s11 : Nat → Int32) (s12 : Nat → Int32) (s13 : Nat → Int32) => some (1, s11, s12, s13)) else some ((-1), c0_amounts, c0_lows, c0_highs))))))))
theorem ydX7_amount : yX7_amount.cls = RX7 ∧ yX7_amount.cls ≠ "java/lang/invoke/MethodHandle" ∧ yX7_amount.cls ≠ "java/lang/invoke/VarHandle" ∧ (parseMethodDescriptor yX7_amount.desc).map (fun d => d.parameters.length) = some 4 := by decide +kernel
set_option maxHeartbeats 8000000 in
set_option maxRecDepth 100000 in
theorem kX7_amount (l : Launch) (D : va_G) (cy : Nat → ClassId) (ad : Nat → Nat) (c7_lastFound : Int32) (c7_lastAsked : Int32) (c7_found : Nat → Int32) (c4_made : Int32) (c4_kinds : Nat → Int32) (c4_places : Nat → Int32) (c4_rates : Nat → Int32) (c4_readings : Nat → Int32) (c4_bearing : Nat → Int32) (c5_legs : Int32) (c5_length : Int32) (c5_ways : Nat → Int32) (c5_units : Nat → Int32) (c5_stuffOf : Nat → Int32) (c5_point : Nat → Int32) (c6_bytes : Nat → Int32) (c6_sizes : Nat → Int32) (c6_weights : Nat → Int32) (c3_size : Int32) (c3_rates : Nat → Int32) (c0_amounts : Nat → Int32) (c0_lows : Nat → Int32) (c0_highs : Nat → Int32) (c0_barred : Nat → Int32) (c1_lines : Int32) (c1_parts : Int64) (c2_above : Int64) (c2_below : Int64) (p1 : Int32) (p2 : Int32) (p3 : Int32) (p4 : Int32) {ra : Int32} {z0_amounts : Nat → Int32} {z0_lows : Nat → Int32} {z0_highs : Nat → Int32} (hf : fX7_amount c0_amounts c0_lows c0_highs p1 p2 p3 p4 = some (ra, z0_amounts, z0_lows, z0_highs)) : CI l D cy yX7_amount wsX7_amount ({ frames := 2, cells := 0, slots := 0, locals := 42 } : Room) [.ref (ad 70), .int p1, .int p2, .int p3, .int p4] (w7 cy ad c7_lastFound c7_lastAsked c7_found c4_made c4_kinds c4_places c4_rates c4_readings c4_bearing c5_legs c5_length c5_ways c5_units c5_stuffOf c5_point c6_bytes c6_sizes c6_weights c3_size c3_rates c0_amounts c0_lows c0_highs c0_barred c1_lines c1_parts c2_above c2_below) ra (w7 cy ad c7_lastFound c7_lastAsked c7_found c4_made c4_kinds c4_places c4_rates c4_readings c4_bearing c5_legs c5_length c5_ways c5_units c5_stuffOf c5_point c6_bytes c6_sizes c6_weights c3_size c3_rates z0_amounts z0_lows z0_highs c0_barred c1_lines c1_parts c2_above c2_below) := by
  unfold fX7_amount at hf
  refine c_of_i (ty := .int) (own := RX7) (by decide) rfl rfl (Nat.le_of_ble_eq_true rfl) (fun X hC hRet => ?_)
  refine r_sub [(0, .ref (ad 70)), (1, .int p1), (2, .int p2), (3, .int p3), (4, .int p4)] [0, 1, 2, 3, 4] rfl ?_
  have hin7 : ∀ w ∈ wsX70, w ∈ wsX7_amount := fun w h => List.mem_cons_of_mem _ (List.mem_append_left _ (List.mem_append_right _ h))
  have hw0 : Cond.fieldLink RX7 44 "HotPipes" "cases" "LHotPipes$Cases;" ∈ wsX7_amount := List.mem_of_getElem? (i := 1) rfl
  refine r_iload_n hC dX7_amount_0 rfl 1 rfl ?_
  obtain ⟨r1, h2, hf⟩ := ob_some hf
  refine r_si (st := []) hC (kX7_isCase l D cy p1 h2) gX7_amount_X7_isCase rfl ⟨rfl, rfl⟩ ydX7_isCase ⟨Nat.le_of_ble_eq_true rfl, Nat.le_of_ble_eq_true rfl⟩ ⟨Nat.le_refl 0, Nat.le_refl 0⟩ _ rfl (Nat.le_of_ble_eq_true rfl) dX7_amount_1 ?_
  refine r_if_eq (tgt := 20) hC dX7_amount_4 (by decide) (fun c3 => ?_) (fun c3 => ?_)
  · replace hf := o_pos hf c3
    refine r_iconst hC dX7_amount_20 ic_m1 ?_
    obtain ⟨rfl, rfl, rfl, rfl⟩ := so_4 hf
    exact hRet _ _ _ dX7_amount_21 rfl
  · replace hf := o_neg hf c3
    refine r_iload_n hC dX7_amount_7 rfl 2 rfl ?_
    refine r_sipush hC dX7_amount_8 sp_m10000 ?_
    refine r_sipush hC dX7_amount_11 sp_10000 ?_
    obtain ⟨r4, h5, hf⟩ := ob_some hf
    refine r_si (st := []) hC (kX7_isWithin l D cy p2 (-10000) 10000 h5) gX7_amount_X7_isWithin rfl ⟨rfl, rfl⟩ ydX7_isWithin ⟨Nat.le_of_ble_eq_true rfl, Nat.le_of_ble_eq_true rfl⟩ ⟨Nat.le_refl 0, Nat.le_refl 0⟩ _ rfl (Nat.le_of_ble_eq_true rfl) dX7_amount_14 ?_
    refine r_if_ne (tgt := 22) hC dX7_amount_17 (by decide) (fun c6 => ?_) (fun c6 => ?_)
    · replace hf := o_neg hf c6
      refine r_iload_n hC dX7_amount_22 rfl 3 rfl ?_
      refine r_bipush hC dX7_amount_23 bp_m9 ?_
      refine r_iload hC dX7_amount_25 4 rfl ?_
      obtain ⟨r7, h8, hf⟩ := ob_some hf
      refine r_si (st := []) hC (kX7_isWithin l D cy p3 (-9) p4 h8) gX7_amount_X7_isWithin rfl ⟨rfl, rfl⟩ ydX7_isWithin ⟨Nat.le_of_ble_eq_true rfl, Nat.le_of_ble_eq_true rfl⟩ ⟨Nat.le_refl 0, Nat.le_refl 0⟩ _ rfl (Nat.le_of_ble_eq_true rfl) dX7_amount_27 ?_
      refine r_if_eq (tgt := 40) hC dX7_amount_30 (by decide) (fun c9 => ?_) (fun c9 => ?_)
      · replace hf := o_pos hf c9
        refine r_iconst hC dX7_amount_40 ic_m1 ?_
        obtain ⟨rfl, rfl, rfl, rfl⟩ := so_4 hf
        exact hRet _ _ _ dX7_amount_41 rfl
      · replace hf := o_neg hf c9
        refine r_iload hC dX7_amount_33 4 rfl ?_
        refine r_bipush hC dX7_amount_35 bp_9 ?_
        refine r_icmp_le (tgt := 42) hC dX7_amount_37 (by decide) (fun c10 => ?_) (fun c10 => ?_)
        · replace hf := o_pos hf c10
          refine r_aload_n hC dX7_amount_42 rfl 0 rfl ?_
          refine r_get hC hin7 0 rfl rfl 4 (by decide) rfl hw0 rfl dX7_amount_43 ?_
          refine r_iload_n hC dX7_amount_46 rfl 1 rfl ?_
          refine r_iload_n hC dX7_amount_47 rfl 2 rfl ?_
          refine r_iload_n hC dX7_amount_48 rfl 3 rfl ?_
          refine r_iload hC dX7_amount_49 4 rfl ?_
          obtain ⟨s11, s12, s13, h14, hf⟩ := ob3_some hf
          refine r_vv (st := []) hC (kX0_put l D cy ad c0_amounts c0_lows c0_highs c0_barred p1 p2 p3 p4 h14) gX7_amount_X0_put rfl ⟨rfl, rfl⟩ ydX0_put ⟨Nat.le_of_ble_eq_true rfl, Nat.le_of_ble_eq_true rfl⟩ ⟨Nat.le_refl 0, Nat.le_refl 0⟩ 0 rfl rfl (v7 cy ad c7_lastFound c7_lastAsked c7_found ++ (w4 cy ad c4_made c4_kinds c4_places c4_rates c4_readings c4_bearing c5_legs c5_length c5_ways c5_units c5_stuffOf c5_point c6_bytes c6_sizes c6_weights ++ (w3 cy ad c3_size c3_rates))) (w1 cy ad c1_lines c1_parts ++ (w2 cy ad c2_above c2_below)) rfl _ rfl (Nat.le_of_ble_eq_true rfl) dX7_amount_51 (w7 cy ad c7_lastFound c7_lastAsked c7_found c4_made c4_kinds c4_places c4_rates c4_readings c4_bearing c5_legs c5_length c5_ways c5_units c5_stuffOf c5_point c6_bytes c6_sizes c6_weights c3_size c3_rates s11 s12 s13 c0_barred c1_lines c1_parts c2_above c2_below) rfl ?_
          refine r_iconst hC dX7_amount_54 ic_1 ?_
          obtain ⟨rfl, rfl, rfl, rfl⟩ := so_4 hf
          exact hRet _ _ _ dX7_amount_55 rfl
        · replace hf := o_neg hf c10
          refine r_iconst hC dX7_amount_40 ic_m1 ?_
          obtain ⟨rfl, rfl, rfl, rfl⟩ := so_4 hf
          exact hRet _ _ _ dX7_amount_41 rfl
    · replace hf := o_pos hf c6
      refine r_iconst hC dX7_amount_20 ic_m1 ?_
      obtain ⟨rfl, rfl, rfl, rfl⟩ := so_4 hf
      exact hRet _ _ _ dX7_amount_21 rfl
noncomputable def fX7_bar (c0_barred : Nat → Int32) (p1 : Int32) (p2 : Int32) (p3 : Int32) : Option (Int32 × (Nat → Int32)) := ob (fX7_isCase p1) (fun (r1 : Int32) => (if r1 = 0 then some ((-1), c0_barred) else ob (fX7_isCase p2) (fun (r4 : Int32) => (if r4 = 0 then some ((-1), c0_barred) else (if p1 = p2 then some ((-1), c0_barred) else ob2 (fX0_setBarred c0_barred p1 p2 p3) (fun (r8 : Int32) (s9 : Nat → Int32) => (if r8 = 0 then some (0, s9) else some (1, s9))))))))
theorem ydX7_bar : yX7_bar.cls = RX7 ∧ yX7_bar.cls ≠ "java/lang/invoke/MethodHandle" ∧ yX7_bar.cls ≠ "java/lang/invoke/VarHandle" ∧ (parseMethodDescriptor yX7_bar.desc).map (fun d => d.parameters.length) = some 3 := by decide +kernel
set_option maxHeartbeats 8000000 in
set_option maxRecDepth 100000 in
theorem kX7_bar (l : Launch) (D : va_G) (cy : Nat → ClassId) (ad : Nat → Nat) (c7_lastFound : Int32) (c7_lastAsked : Int32) (c7_found : Nat → Int32) (c4_made : Int32) (c4_kinds : Nat → Int32) (c4_places : Nat → Int32) (c4_rates : Nat → Int32) (c4_readings : Nat → Int32) (c4_bearing : Nat → Int32) (c5_legs : Int32) (c5_length : Int32) (c5_ways : Nat → Int32) (c5_units : Nat → Int32) (c5_stuffOf : Nat → Int32) (c5_point : Nat → Int32) (c6_bytes : Nat → Int32) (c6_sizes : Nat → Int32) (c6_weights : Nat → Int32) (c3_size : Int32) (c3_rates : Nat → Int32) (c0_amounts : Nat → Int32) (c0_lows : Nat → Int32) (c0_highs : Nat → Int32) (c0_barred : Nat → Int32) (c1_lines : Int32) (c1_parts : Int64) (c2_above : Int64) (c2_below : Int64) (p1 : Int32) (p2 : Int32) (p3 : Int32) {ra : Int32} {z0_barred : Nat → Int32} (hf : fX7_bar c0_barred p1 p2 p3 = some (ra, z0_barred)) : CI l D cy yX7_bar wsX7_bar ({ frames := 2, cells := 0, slots := 0, locals := 42 } : Room) [.ref (ad 70), .int p1, .int p2, .int p3] (w7 cy ad c7_lastFound c7_lastAsked c7_found c4_made c4_kinds c4_places c4_rates c4_readings c4_bearing c5_legs c5_length c5_ways c5_units c5_stuffOf c5_point c6_bytes c6_sizes c6_weights c3_size c3_rates c0_amounts c0_lows c0_highs c0_barred c1_lines c1_parts c2_above c2_below) ra (w7 cy ad c7_lastFound c7_lastAsked c7_found c4_made c4_kinds c4_places c4_rates c4_readings c4_bearing c5_legs c5_length c5_ways c5_units c5_stuffOf c5_point c6_bytes c6_sizes c6_weights c3_size c3_rates c0_amounts c0_lows c0_highs z0_barred c1_lines c1_parts c2_above c2_below) := by
  unfold fX7_bar at hf
  refine c_of_i (ty := .int) (own := RX7) (by decide) rfl rfl (Nat.le_of_ble_eq_true rfl) (fun X hC hRet => ?_)
  refine r_sub [(0, .ref (ad 70)), (1, .int p1), (2, .int p2), (3, .int p3)] [0, 1, 2, 3] rfl ?_
  have hin7 : ∀ w ∈ wsX70, w ∈ wsX7_bar := fun w h => List.mem_cons_of_mem _ (List.mem_append_left _ (List.mem_append_right _ h))
  have hw0 : Cond.fieldLink RX7 44 "HotPipes" "cases" "LHotPipes$Cases;" ∈ wsX7_bar := List.mem_of_getElem? (i := 1) rfl
  refine r_iload_n hC dX7_bar_0 rfl 1 rfl ?_
  obtain ⟨r1, h2, hf⟩ := ob_some hf
  refine r_si (st := []) hC (kX7_isCase l D cy p1 h2) gX7_bar_X7_isCase rfl ⟨rfl, rfl⟩ ydX7_isCase ⟨Nat.le_of_ble_eq_true rfl, Nat.le_of_ble_eq_true rfl⟩ ⟨Nat.le_refl 0, Nat.le_refl 0⟩ _ rfl (Nat.le_of_ble_eq_true rfl) dX7_bar_1 ?_
  refine r_if_eq (tgt := 19) hC dX7_bar_4 (by decide) (fun c3 => ?_) (fun c3 => ?_)
  · replace hf := o_pos hf c3
    refine r_iconst hC dX7_bar_19 ic_m1 ?_
    obtain ⟨rfl, rfl⟩ := so_2 hf
    exact hRet _ _ _ dX7_bar_20 rfl
  · replace hf := o_neg hf c3
    refine r_iload_n hC dX7_bar_7 rfl 2 rfl ?_
    obtain ⟨r4, h5, hf⟩ := ob_some hf
    refine r_si (st := []) hC (kX7_isCase l D cy p2 h5) gX7_bar_X7_isCase rfl ⟨rfl, rfl⟩ ydX7_isCase ⟨Nat.le_of_ble_eq_true rfl, Nat.le_of_ble_eq_true rfl⟩ ⟨Nat.le_refl 0, Nat.le_refl 0⟩ _ rfl (Nat.le_of_ble_eq_true rfl) dX7_bar_8 ?_
    refine r_if_eq (tgt := 19) hC dX7_bar_11 (by decide) (fun c6 => ?_) (fun c6 => ?_)
    · replace hf := o_pos hf c6
      refine r_iconst hC dX7_bar_19 ic_m1 ?_
      obtain ⟨rfl, rfl⟩ := so_2 hf
      exact hRet _ _ _ dX7_bar_20 rfl
    · replace hf := o_neg hf c6
      refine r_iload_n hC dX7_bar_14 rfl 1 rfl ?_
      refine r_iload_n hC dX7_bar_15 rfl 2 rfl ?_
      refine r_icmp_ne (tgt := 21) hC dX7_bar_16 (by decide) (fun c7 => ?_) (fun c7 => ?_)
      · replace hf := o_neg hf c7
        refine r_aload_n hC dX7_bar_21 rfl 0 rfl ?_
        refine r_get hC hin7 0 rfl rfl 4 (by decide) rfl hw0 rfl dX7_bar_22 ?_
        refine r_iload_n hC dX7_bar_25 rfl 1 rfl ?_
        refine r_iload_n hC dX7_bar_26 rfl 2 rfl ?_
        refine r_iload_n hC dX7_bar_27 rfl 3 rfl ?_
        obtain ⟨r8, s9, h10, hf⟩ := ob2_some hf
        refine r_vi (st := []) hC (kX0_setBarred l D cy ad c0_amounts c0_lows c0_highs c0_barred p1 p2 p3 h10) gX7_bar_X0_setBarred rfl ⟨rfl, rfl⟩ ydX0_setBarred ⟨Nat.le_of_ble_eq_true rfl, Nat.le_of_ble_eq_true rfl⟩ ⟨Nat.le_refl 0, Nat.le_refl 0⟩ 0 rfl rfl (v7 cy ad c7_lastFound c7_lastAsked c7_found ++ (w4 cy ad c4_made c4_kinds c4_places c4_rates c4_readings c4_bearing c5_legs c5_length c5_ways c5_units c5_stuffOf c5_point c6_bytes c6_sizes c6_weights ++ (w3 cy ad c3_size c3_rates))) (w1 cy ad c1_lines c1_parts ++ (w2 cy ad c2_above c2_below)) rfl _ rfl (Nat.le_of_ble_eq_true rfl) dX7_bar_28 (w7 cy ad c7_lastFound c7_lastAsked c7_found c4_made c4_kinds c4_places c4_rates c4_readings c4_bearing c5_legs c5_length c5_ways c5_units c5_stuffOf c5_point c6_bytes c6_sizes c6_weights c3_size c3_rates c0_amounts c0_lows c0_highs s9 c1_lines c1_parts c2_above c2_below) rfl ?_
        refine r_if_eq (tgt := 38) hC dX7_bar_31 (by decide) (fun c11 => ?_) (fun c11 => ?_)
        · replace hf := o_pos hf c11
          refine r_iconst hC dX7_bar_38 ic_0 ?_
          obtain ⟨rfl, rfl⟩ := so_2 hf
          exact hRet _ _ _ dX7_bar_39 rfl
        · replace hf := o_neg hf c11
          refine r_iconst hC dX7_bar_34 ic_1 ?_
          refine r_goto (tgt := 39) hC dX7_bar_35 (by decide) ?_
          obtain ⟨rfl, rfl⟩ := so_2 hf
          exact hRet _ _ _ dX7_bar_39 rfl
      · replace hf := o_pos hf c7
        refine r_iconst hC dX7_bar_19 ic_m1 ?_
        obtain ⟨rfl, rfl⟩ := so_2 hf
        exact hRet _ _ _ dX7_bar_20 rfl
noncomputable def fX7_worst (N : Nat) (c7_lastAsked : Int32) (c0_amounts : Nat → Int32) (c0_lows : Nat → Int32) (c0_highs : Nat → Int32) (c0_barred : Nat → Int32) : Option (Int32 × Int32) := ob (fX0_worstSet N c0_amounts c0_lows c0_highs c0_barred) (fun (r1 : Int32) => ob (fX0_joined N c0_amounts c0_lows c0_highs r1) (fun (r3 : Int32) => some (r3, r1)))
theorem ydX7_worst : yX7_worst.cls = RX7 ∧ yX7_worst.cls ≠ "java/lang/invoke/MethodHandle" ∧ yX7_worst.cls ≠ "java/lang/invoke/VarHandle" ∧ (parseMethodDescriptor yX7_worst.desc).map (fun d => d.parameters.length) = some 0 := by decide +kernel
set_option maxHeartbeats 8000000 in
set_option maxRecDepth 100000 in
theorem kX7_worst (l : Launch) (D : va_G) (cy : Nat → ClassId) (ad : Nat → Nat) (c7_lastFound : Int32) (c7_lastAsked : Int32) (c7_found : Nat → Int32) (c4_made : Int32) (c4_kinds : Nat → Int32) (c4_places : Nat → Int32) (c4_rates : Nat → Int32) (c4_readings : Nat → Int32) (c4_bearing : Nat → Int32) (c5_legs : Int32) (c5_length : Int32) (c5_ways : Nat → Int32) (c5_units : Nat → Int32) (c5_stuffOf : Nat → Int32) (c5_point : Nat → Int32) (c6_bytes : Nat → Int32) (c6_sizes : Nat → Int32) (c6_weights : Nat → Int32) (c3_size : Int32) (c3_rates : Nat → Int32) (c0_amounts : Nat → Int32) (c0_lows : Nat → Int32) (c0_highs : Nat → Int32) (c0_barred : Nat → Int32) (c1_lines : Int32) (c1_parts : Int64) (c2_above : Int64) (c2_below : Int64) (N : Nat) {ra : Int32} {z7_lastAsked : Int32} (hf : fX7_worst N c7_lastAsked c0_amounts c0_lows c0_highs c0_barred = some (ra, z7_lastAsked)) : CI l D cy yX7_worst wsX7_worst ({ frames := 3, cells := 0, slots := 0, locals := 68 } : Room) [.ref (ad 70)] (w7 cy ad c7_lastFound c7_lastAsked c7_found c4_made c4_kinds c4_places c4_rates c4_readings c4_bearing c5_legs c5_length c5_ways c5_units c5_stuffOf c5_point c6_bytes c6_sizes c6_weights c3_size c3_rates c0_amounts c0_lows c0_highs c0_barred c1_lines c1_parts c2_above c2_below) ra (w7 cy ad c7_lastFound z7_lastAsked c7_found c4_made c4_kinds c4_places c4_rates c4_readings c4_bearing c5_legs c5_length c5_ways c5_units c5_stuffOf c5_point c6_bytes c6_sizes c6_weights c3_size c3_rates c0_amounts c0_lows c0_highs c0_barred c1_lines c1_parts c2_above c2_below) := by
  unfold fX7_worst at hf
  refine c_of_i (ty := .int) (own := RX7) (by decide) rfl rfl (Nat.le_of_ble_eq_true rfl) (fun X hC hRet => ?_)
  refine r_sub [(0, .ref (ad 70))] [0] rfl ?_
  have hin7 : ∀ w ∈ wsX70, w ∈ wsX7_worst := fun w h => List.mem_cons_of_mem _ (List.mem_append_left _ (List.mem_append_right _ h))
  have hw0 : Cond.fieldLink RX7 44 "HotPipes" "cases" "LHotPipes$Cases;" ∈ wsX7_worst := List.mem_of_getElem? (i := 1) rfl
  have hw1 : Cond.fieldLink RX7 70 "HotPipes" "lastAsked" "I" ∈ wsX7_worst := List.mem_of_getElem? (i := 2) rfl
  refine r_aload_n hC dX7_worst_0 rfl 0 rfl ?_
  refine r_aload_n hC dX7_worst_1 rfl 0 rfl ?_
  refine r_get hC hin7 0 rfl rfl 4 (by decide) rfl hw0 rfl dX7_worst_2 ?_
  obtain ⟨r1, h2, hf⟩ := ob_some hf
  refine r_vi (st := [.ref (ad 70)]) hC (kX0_worstSet l D cy ad c0_amounts c0_lows c0_highs c0_barred  N h2) gX7_worst_X0_worstSet rfl ⟨rfl, rfl⟩ ydX0_worstSet ⟨Nat.le_of_ble_eq_true rfl, Nat.le_of_ble_eq_true rfl⟩ ⟨Nat.le_refl 0, Nat.le_refl 0⟩ 0 rfl rfl (v7 cy ad c7_lastFound c7_lastAsked c7_found ++ (w4 cy ad c4_made c4_kinds c4_places c4_rates c4_readings c4_bearing c5_legs c5_length c5_ways c5_units c5_stuffOf c5_point c6_bytes c6_sizes c6_weights ++ (w3 cy ad c3_size c3_rates))) (w1 cy ad c1_lines c1_parts ++ (w2 cy ad c2_above c2_below)) rfl _ rfl (Nat.le_of_ble_eq_true rfl) dX7_worst_5 (w7 cy ad c7_lastFound c7_lastAsked c7_found c4_made c4_kinds c4_places c4_rates c4_readings c4_bearing c5_legs c5_length c5_ways c5_units c5_stuffOf c5_point c6_bytes c6_sizes c6_weights c3_size c3_rates c0_amounts c0_lows c0_highs c0_barred c1_lines c1_parts c2_above c2_below) rfl ?_
  refine r_put (ty := .int) hC hin7 tyX7_ok nmX7 0 rfl rfl 9 (by decide) rfl hw1 rfl rfl rfl rfl (Nat.le_of_ble_eq_true rfl) dX7_worst_8 (w7 cy ad c7_lastFound r1 c7_found c4_made c4_kinds c4_places c4_rates c4_readings c4_bearing c5_legs c5_length c5_ways c5_units c5_stuffOf c5_point c6_bytes c6_sizes c6_weights c3_size c3_rates c0_amounts c0_lows c0_highs c0_barred c1_lines c1_parts c2_above c2_below) rfl ?_
  refine r_aload_n hC dX7_worst_11 rfl 0 rfl ?_
  refine r_get hC hin7 0 rfl rfl 4 (by decide) rfl hw0 rfl dX7_worst_12 ?_
  refine r_aload_n hC dX7_worst_15 rfl 0 rfl ?_
  refine r_get hC hin7 0 rfl rfl 9 (by decide) rfl hw1 rfl dX7_worst_16 ?_
  obtain ⟨r3, h4, hf⟩ := ob_some hf
  refine r_vi (st := []) hC (kX0_joined l D cy ad c0_amounts c0_lows c0_highs c0_barred r1 N h4) gX7_worst_X0_joined rfl ⟨rfl, rfl⟩ ydX0_joined ⟨Nat.le_of_ble_eq_true rfl, Nat.le_of_ble_eq_true rfl⟩ ⟨Nat.le_refl 0, Nat.le_refl 0⟩ 0 rfl rfl (v7 cy ad c7_lastFound r1 c7_found ++ (w4 cy ad c4_made c4_kinds c4_places c4_rates c4_readings c4_bearing c5_legs c5_length c5_ways c5_units c5_stuffOf c5_point c6_bytes c6_sizes c6_weights ++ (w3 cy ad c3_size c3_rates))) (w1 cy ad c1_lines c1_parts ++ (w2 cy ad c2_above c2_below)) rfl _ rfl (Nat.le_of_ble_eq_true rfl) dX7_worst_19 (w7 cy ad c7_lastFound r1 c7_found c4_made c4_kinds c4_places c4_rates c4_readings c4_bearing c5_legs c5_length c5_ways c5_units c5_stuffOf c5_point c6_bytes c6_sizes c6_weights c3_size c3_rates c0_amounts c0_lows c0_highs c0_barred c1_lines c1_parts c2_above c2_below) rfl ?_
  obtain ⟨rfl, rfl⟩ := so_2 hf
  exact hRet _ _ _ dX7_worst_22 rfl
noncomputable def fX7_cycle (c1_lines : Int32) (c1_parts : Int64) (p1 : Int32) (p2 : Int32) : Option (Int32 × Int32 × Int64) := ob (fX7_isWithin p1 1 100000) (fun (r1 : Int32) => (if r1 = 0 then some ((-1), c1_lines, c1_parts) else ob (fX7_isWithin p2 1 60) (fun (r4 : Int32) => (if r4 = 0 then some ((-1), c1_lines, c1_parts) else ob (fX1_lines c1_lines) (fun (r7 : Int32) => (if r7 < 30 then ob2 (fX1_append c1_lines c1_parts p1 p2) (fun (s10 : Int32) (s11 : Int64) => ob (fX1_lines s10) (fun (r13 : Int32) => some (r13, s10, s11))) else some ((-2), c1_lines, c1_parts)))))))
theorem ydX7_cycle : yX7_cycle.cls = RX7 ∧ yX7_cycle.cls ≠ "java/lang/invoke/MethodHandle" ∧ yX7_cycle.cls ≠ "java/lang/invoke/VarHandle" ∧ (parseMethodDescriptor yX7_cycle.desc).map (fun d => d.parameters.length) = some 2 := by decide +kernel
set_option maxHeartbeats 8000000 in
set_option maxRecDepth 100000 in
theorem kX7_cycle (l : Launch) (D : va_G) (cy : Nat → ClassId) (ad : Nat → Nat) (c7_lastFound : Int32) (c7_lastAsked : Int32) (c7_found : Nat → Int32) (c4_made : Int32) (c4_kinds : Nat → Int32) (c4_places : Nat → Int32) (c4_rates : Nat → Int32) (c4_readings : Nat → Int32) (c4_bearing : Nat → Int32) (c5_legs : Int32) (c5_length : Int32) (c5_ways : Nat → Int32) (c5_units : Nat → Int32) (c5_stuffOf : Nat → Int32) (c5_point : Nat → Int32) (c6_bytes : Nat → Int32) (c6_sizes : Nat → Int32) (c6_weights : Nat → Int32) (c3_size : Int32) (c3_rates : Nat → Int32) (c0_amounts : Nat → Int32) (c0_lows : Nat → Int32) (c0_highs : Nat → Int32) (c0_barred : Nat → Int32) (c1_lines : Int32) (c1_parts : Int64) (c2_above : Int64) (c2_below : Int64) (p1 : Int32) (p2 : Int32) {ra : Int32} {z1_lines : Int32} {z1_parts : Int64} (hf : fX7_cycle c1_lines c1_parts p1 p2 = some (ra, z1_lines, z1_parts)) : CI l D cy yX7_cycle wsX7_cycle ({ frames := 1, cells := 0, slots := 0, locals := 22 } : Room) [.ref (ad 70), .int p1, .int p2] (w7 cy ad c7_lastFound c7_lastAsked c7_found c4_made c4_kinds c4_places c4_rates c4_readings c4_bearing c5_legs c5_length c5_ways c5_units c5_stuffOf c5_point c6_bytes c6_sizes c6_weights c3_size c3_rates c0_amounts c0_lows c0_highs c0_barred c1_lines c1_parts c2_above c2_below) ra (w7 cy ad c7_lastFound c7_lastAsked c7_found c4_made c4_kinds c4_places c4_rates c4_readings c4_bearing c5_legs c5_length c5_ways c5_units c5_stuffOf c5_point c6_bytes c6_sizes c6_weights c3_size c3_rates c0_amounts c0_lows c0_highs c0_barred z1_lines z1_parts c2_above c2_below) := by
  unfold fX7_cycle at hf
  refine c_of_i (ty := .int) (own := RX7) (by decide) rfl rfl (Nat.le_of_ble_eq_true rfl) (fun X hC hRet => ?_)
  refine r_sub [(0, .ref (ad 70)), (1, .int p1), (2, .int p2)] [0, 1, 2] rfl ?_
  have hin7 : ∀ w ∈ wsX70, w ∈ wsX7_cycle := fun w h => List.mem_cons_of_mem _ (List.mem_append_left _ (List.mem_append_right _ h))
  have hw0 : Cond.constant RX7 249 (100000) ∈ wsX7_cycle := List.mem_of_getElem? (i := 1) rfl
  have hw1 : Cond.fieldLink RX7 51 "HotPipes" "cycles" "LHotPipes$Cycles;" ∈ wsX7_cycle := List.mem_of_getElem? (i := 2) rfl
  refine r_iload_n hC dX7_cycle_0 rfl 1 rfl ?_
  refine r_iconst hC dX7_cycle_1 ic_1 ?_
  refine r_ldc hC hw0 dX7_cycle_2 ?_
  obtain ⟨r1, h2, hf⟩ := ob_some hf
  refine r_si (st := []) hC (kX7_isWithin l D cy p1 1 100000 h2) gX7_cycle_X7_isWithin rfl ⟨rfl, rfl⟩ ydX7_isWithin ⟨Nat.le_of_ble_eq_true rfl, Nat.le_of_ble_eq_true rfl⟩ ⟨Nat.le_refl 0, Nat.le_refl 0⟩ _ rfl (Nat.le_of_ble_eq_true rfl) dX7_cycle_4 ?_
  refine r_if_eq (tgt := 20) hC dX7_cycle_7 (by decide) (fun c3 => ?_) (fun c3 => ?_)
  · replace hf := o_pos hf c3
    refine r_iconst hC dX7_cycle_20 ic_m1 ?_
    obtain ⟨rfl, rfl, rfl⟩ := so_3 hf
    exact hRet _ _ _ dX7_cycle_21 rfl
  · replace hf := o_neg hf c3
    refine r_iload_n hC dX7_cycle_10 rfl 2 rfl ?_
    refine r_iconst hC dX7_cycle_11 ic_1 ?_
    refine r_bipush hC dX7_cycle_12 bp_60 ?_
    obtain ⟨r4, h5, hf⟩ := ob_some hf
    refine r_si (st := []) hC (kX7_isWithin l D cy p2 1 60 h5) gX7_cycle_X7_isWithin rfl ⟨rfl, rfl⟩ ydX7_isWithin ⟨Nat.le_of_ble_eq_true rfl, Nat.le_of_ble_eq_true rfl⟩ ⟨Nat.le_refl 0, Nat.le_refl 0⟩ _ rfl (Nat.le_of_ble_eq_true rfl) dX7_cycle_14 ?_
    refine r_if_ne (tgt := 22) hC dX7_cycle_17 (by decide) (fun c6 => ?_) (fun c6 => ?_)
    · replace hf := o_neg hf c6
      refine r_aload_n hC dX7_cycle_22 rfl 0 rfl ?_
      refine r_get hC hin7 0 rfl rfl 5 (by decide) rfl hw1 rfl dX7_cycle_23 ?_
      obtain ⟨r7, h8, hf⟩ := ob_some hf
      refine r_vi (st := []) hC (kX1_lines l D cy ad c1_lines c1_parts  h8) gX7_cycle_X1_lines rfl ⟨rfl, rfl⟩ ydX1_lines ⟨Nat.le_of_ble_eq_true rfl, Nat.le_of_ble_eq_true rfl⟩ ⟨Nat.le_refl 0, Nat.le_refl 0⟩ 0 rfl rfl (v7 cy ad c7_lastFound c7_lastAsked c7_found ++ (w4 cy ad c4_made c4_kinds c4_places c4_rates c4_readings c4_bearing c5_legs c5_length c5_ways c5_units c5_stuffOf c5_point c6_bytes c6_sizes c6_weights ++ (w3 cy ad c3_size c3_rates ++ (w0 cy ad c0_amounts c0_lows c0_highs c0_barred)))) (w2 cy ad c2_above c2_below) rfl _ rfl (Nat.le_of_ble_eq_true rfl) dX7_cycle_26 (w7 cy ad c7_lastFound c7_lastAsked c7_found c4_made c4_kinds c4_places c4_rates c4_readings c4_bearing c5_legs c5_length c5_ways c5_units c5_stuffOf c5_point c6_bytes c6_sizes c6_weights c3_size c3_rates c0_amounts c0_lows c0_highs c0_barred c1_lines c1_parts c2_above c2_below) rfl ?_
      refine r_bipush hC dX7_cycle_29 bp_30 ?_
      refine r_icmp_lt (tgt := 37) hC dX7_cycle_31 (by decide) (fun c9 => ?_) (fun c9 => ?_)
      · replace hf := o_pos hf c9
        refine r_aload_n hC dX7_cycle_37 rfl 0 rfl ?_
        refine r_get hC hin7 0 rfl rfl 5 (by decide) rfl hw1 rfl dX7_cycle_38 ?_
        refine r_iload_n hC dX7_cycle_41 rfl 1 rfl ?_
        refine r_iload_n hC dX7_cycle_42 rfl 2 rfl ?_
        obtain ⟨s10, s11, h12, hf⟩ := ob2_some hf
        refine r_vv (st := []) hC (kX1_append l D cy ad c1_lines c1_parts p1 p2 h12) gX7_cycle_X1_append rfl ⟨rfl, rfl⟩ ydX1_append ⟨Nat.le_of_ble_eq_true rfl, Nat.le_of_ble_eq_true rfl⟩ ⟨Nat.le_refl 0, Nat.le_refl 0⟩ 0 rfl rfl (v7 cy ad c7_lastFound c7_lastAsked c7_found ++ (w4 cy ad c4_made c4_kinds c4_places c4_rates c4_readings c4_bearing c5_legs c5_length c5_ways c5_units c5_stuffOf c5_point c6_bytes c6_sizes c6_weights ++ (w3 cy ad c3_size c3_rates ++ (w0 cy ad c0_amounts c0_lows c0_highs c0_barred)))) (w2 cy ad c2_above c2_below) rfl _ rfl (Nat.le_of_ble_eq_true rfl) dX7_cycle_43 (w7 cy ad c7_lastFound c7_lastAsked c7_found c4_made c4_kinds c4_places c4_rates c4_readings c4_bearing c5_legs c5_length c5_ways c5_units c5_stuffOf c5_point c6_bytes c6_sizes c6_weights c3_size c3_rates c0_amounts c0_lows c0_highs c0_barred s10 s11 c2_above c2_below) rfl ?_
        refine r_aload_n hC dX7_cycle_46 rfl 0 rfl ?_
        refine r_get hC hin7 0 rfl rfl 5 (by decide) rfl hw1 rfl dX7_cycle_47 ?_
        obtain ⟨r13, h14, hf⟩ := ob_some hf
        refine r_vi (st := []) hC (kX1_lines l D cy ad s10 s11  h14) gX7_cycle_X1_lines rfl ⟨rfl, rfl⟩ ydX1_lines ⟨Nat.le_of_ble_eq_true rfl, Nat.le_of_ble_eq_true rfl⟩ ⟨Nat.le_refl 0, Nat.le_refl 0⟩ 0 rfl rfl (v7 cy ad c7_lastFound c7_lastAsked c7_found ++ (w4 cy ad c4_made c4_kinds c4_places c4_rates c4_readings c4_bearing c5_legs c5_length c5_ways c5_units c5_stuffOf c5_point c6_bytes c6_sizes c6_weights ++ (w3 cy ad c3_size c3_rates ++ (w0 cy ad c0_amounts c0_lows c0_highs c0_barred)))) (w2 cy ad c2_above c2_below) rfl _ rfl (Nat.le_of_ble_eq_true rfl) dX7_cycle_50 (w7 cy ad c7_lastFound c7_lastAsked c7_found c4_made c4_kinds c4_places c4_rates c4_readings c4_bearing c5_legs c5_length c5_ways c5_units c5_stuffOf c5_point c6_bytes c6_sizes c6_weights c3_size c3_rates c0_amounts c0_lows c0_highs c0_barred s10 s11 c2_above c2_below) rfl ?_
        obtain ⟨rfl, rfl, rfl⟩ := so_3 hf
        exact hRet _ _ _ dX7_cycle_53 rfl
      · replace hf := o_neg hf c9
        refine r_bipush hC dX7_cycle_34 bp_m2 ?_
        obtain ⟨rfl, rfl, rfl⟩ := so_3 hf
        exact hRet _ _ _ dX7_cycle_36 rfl
    · replace hf := o_pos hf c6
      refine r_iconst hC dX7_cycle_20 ic_m1 ?_
      obtain ⟨rfl, rfl, rfl⟩ := so_3 hf
      exact hRet _ _ _ dX7_cycle_21 rfl
noncomputable def fX7_used (N : Nat) (c1_parts : Int64) (c2_above : Int64) (c2_below : Int64) : Option (Int32 × Int64 × Int64) := ob (fX1_partsUsed c1_parts) (fun (r1 : Int64) => ob2 (fX2_put N c2_above c2_below r1 65536) (fun (s3 : Int64) (s4 : Int64) => (if (lg_cmp r1 65536) ≤ 0 then some (0, s3, s4) else some (1, s3, s4))))
theorem ydX7_used : yX7_used.cls = RX7 ∧ yX7_used.cls ≠ "java/lang/invoke/MethodHandle" ∧ yX7_used.cls ≠ "java/lang/invoke/VarHandle" ∧ (parseMethodDescriptor yX7_used.desc).map (fun d => d.parameters.length) = some 0 := by decide +kernel
set_option maxHeartbeats 8000000 in
set_option maxRecDepth 100000 in
theorem kX7_used (l : Launch) (D : va_G) (cy : Nat → ClassId) (ad : Nat → Nat) (c7_lastFound : Int32) (c7_lastAsked : Int32) (c7_found : Nat → Int32) (c4_made : Int32) (c4_kinds : Nat → Int32) (c4_places : Nat → Int32) (c4_rates : Nat → Int32) (c4_readings : Nat → Int32) (c4_bearing : Nat → Int32) (c5_legs : Int32) (c5_length : Int32) (c5_ways : Nat → Int32) (c5_units : Nat → Int32) (c5_stuffOf : Nat → Int32) (c5_point : Nat → Int32) (c6_bytes : Nat → Int32) (c6_sizes : Nat → Int32) (c6_weights : Nat → Int32) (c3_size : Int32) (c3_rates : Nat → Int32) (c0_amounts : Nat → Int32) (c0_lows : Nat → Int32) (c0_highs : Nat → Int32) (c0_barred : Nat → Int32) (c1_lines : Int32) (c1_parts : Int64) (c2_above : Int64) (c2_below : Int64) (N : Nat) {ra : Int32} {z2_above : Int64} {z2_below : Int64} (hf : fX7_used N c1_parts c2_above c2_below = some (ra, z2_above, z2_below)) : CI l D cy yX7_used wsX7_used ({ frames := 2, cells := 0, slots := 0, locals := 52 } : Room) [.ref (ad 70)] (w7 cy ad c7_lastFound c7_lastAsked c7_found c4_made c4_kinds c4_places c4_rates c4_readings c4_bearing c5_legs c5_length c5_ways c5_units c5_stuffOf c5_point c6_bytes c6_sizes c6_weights c3_size c3_rates c0_amounts c0_lows c0_highs c0_barred c1_lines c1_parts c2_above c2_below) ra (w7 cy ad c7_lastFound c7_lastAsked c7_found c4_made c4_kinds c4_places c4_rates c4_readings c4_bearing c5_legs c5_length c5_ways c5_units c5_stuffOf c5_point c6_bytes c6_sizes c6_weights c3_size c3_rates c0_amounts c0_lows c0_highs c0_barred c1_lines c1_parts z2_above z2_below) := by
  unfold fX7_used at hf
  refine c_of_i (ty := .int) (own := RX7) (by decide) rfl rfl (Nat.le_of_ble_eq_true rfl) (fun X hC hRet => ?_)
  refine r_sub [(0, .ref (ad 70))] [0] rfl ?_
  have hin7 : ∀ w ∈ wsX70, w ∈ wsX7_used := fun w h => List.mem_cons_of_mem _ (List.mem_append_left _ (List.mem_append_left _ (List.mem_append_right _ h)))
  have hw0 : Cond.fieldLink RX7 51 "HotPipes" "cycles" "LHotPipes$Cycles;" ∈ wsX7_used := List.mem_of_getElem? (i := 1) rfl
  have hw1 : Cond.fieldLink RX7 58 "HotPipes" "fraction" "LHotPipes$Fraction;" ∈ wsX7_used := List.mem_of_getElem? (i := 2) rfl
  have hw2 : Cond.constantLong RX7 259 (65536) ∈ wsX7_used := List.mem_of_getElem? (i := 3) rfl
  refine r_aload_n hC dX7_used_0 rfl 0 rfl ?_
  refine r_get hC hin7 0 rfl rfl 5 (by decide) rfl hw0 rfl dX7_used_1 ?_
  obtain ⟨r1, h2, hf⟩ := ob_some hf
  refine r_vl (st := []) hC (kX1_partsUsed l D cy ad c1_lines c1_parts  h2) gX7_used_X1_partsUsed rfl ⟨rfl, rfl⟩ ydX1_partsUsed ⟨Nat.le_of_ble_eq_true rfl, Nat.le_of_ble_eq_true rfl⟩ ⟨Nat.le_refl 0, Nat.le_refl 0⟩ 0 rfl rfl (v7 cy ad c7_lastFound c7_lastAsked c7_found ++ (w4 cy ad c4_made c4_kinds c4_places c4_rates c4_readings c4_bearing c5_legs c5_length c5_ways c5_units c5_stuffOf c5_point c6_bytes c6_sizes c6_weights ++ (w3 cy ad c3_size c3_rates ++ (w0 cy ad c0_amounts c0_lows c0_highs c0_barred)))) (w2 cy ad c2_above c2_below) rfl _ rfl (Nat.le_of_ble_eq_true rfl) dX7_used_4 (w7 cy ad c7_lastFound c7_lastAsked c7_found c4_made c4_kinds c4_places c4_rates c4_readings c4_bearing c5_legs c5_length c5_ways c5_units c5_stuffOf c5_point c6_bytes c6_sizes c6_weights c3_size c3_rates c0_amounts c0_lows c0_highs c0_barred c1_lines c1_parts c2_above c2_below) rfl ?_
  refine r_lstore_n hC [(1, .long r1), (0, .ref (ad 70))] dX7_used_7 rfl (by decide) rfl ?_
  refine r_aload_n hC dX7_used_8 rfl 1 rfl ?_
  refine r_get hC hin7 0 rfl rfl 6 (by decide) rfl hw1 rfl dX7_used_9 ?_
  refine r_lload_n hC dX7_used_12 rfl 0 rfl ?_
  refine r_ldc2 hC hw2 dX7_used_13 ?_
  obtain ⟨s3, s4, h5, hf⟩ := ob2_some hf
  refine r_vv (st := []) hC (kX2_put l D cy ad c2_above c2_below r1 65536 N h5) gX7_used_X2_put rfl ⟨rfl, rfl⟩ ydX2_put ⟨Nat.le_of_ble_eq_true rfl, Nat.le_of_ble_eq_true rfl⟩ ⟨Nat.le_refl 0, Nat.le_refl 0⟩ 0 rfl rfl (v7 cy ad c7_lastFound c7_lastAsked c7_found ++ (w4 cy ad c4_made c4_kinds c4_places c4_rates c4_readings c4_bearing c5_legs c5_length c5_ways c5_units c5_stuffOf c5_point c6_bytes c6_sizes c6_weights ++ (w3 cy ad c3_size c3_rates ++ (w0 cy ad c0_amounts c0_lows c0_highs c0_barred ++ (w1 cy ad c1_lines c1_parts))))) [] rfl _ rfl (Nat.le_of_ble_eq_true rfl) dX7_used_16 (w7 cy ad c7_lastFound c7_lastAsked c7_found c4_made c4_kinds c4_places c4_rates c4_readings c4_bearing c5_legs c5_length c5_ways c5_units c5_stuffOf c5_point c6_bytes c6_sizes c6_weights c3_size c3_rates c0_amounts c0_lows c0_highs c0_barred c1_lines c1_parts s3 s4) rfl ?_
  refine r_lload_n hC dX7_used_19 rfl 0 rfl ?_
  refine r_ldc2 hC hw2 dX7_used_20 ?_
  refine r_lcmp hC dX7_used_23 ?_
  refine r_if_le (tgt := 31) hC dX7_used_24 (by decide) (fun c6 => ?_) (fun c6 => ?_)
  · replace hf := o_pos hf c6
    refine r_iconst hC dX7_used_31 ic_0 ?_
    obtain ⟨rfl, rfl, rfl⟩ := so_3 hf
    exact hRet _ _ _ dX7_used_32 rfl
  · replace hf := o_neg hf c6
    refine r_iconst hC dX7_used_27 ic_1 ?_
    refine r_goto (tgt := 32) hC dX7_used_28 (by decide) ?_
    obtain ⟨rfl, rfl, rfl⟩ := so_3 hf
    exact hRet _ _ _ dX7_used_32 rfl
noncomputable def fX7_read (c7_lastFound : Int32) (c7_found : Nat → Int32) (c4_made : Int32) (c4_kinds : Nat → Int32) (c4_readings : Nat → Int32) (p1 : Int32) (p2 : Int32) : Option (Int32 × Int32 × (Nat → Int32) × (Nat → Int32)) := ob (oj (some 1) (fun (K18_12 : Option (Int32)) => (if p2 = (-9) then K18_12 else ob (fX7_isWithin p2 0 100000) (fun (r14 : Int32) => (if r14 = 0 then some 0 else K18_12))))) (fun (t1 : Int32) => ob3 (fX7_refusalOfRest c7_lastFound c7_found c4_made c4_kinds p1 t1) (fun (r2 : Int32) (s3 : Int32) (s4 : Nat → Int32) => (if r2 = 0 then ob2 (fX4_replaceReading c4_readings p1 p2) (fun (r7 : Int32) (s8 : Nat → Int32) => some (r7, s3, s4, s8)) else some (r2, s3, s4, c4_readings))))
theorem ydX7_read : yX7_read.cls = RX7 ∧ yX7_read.cls ≠ "java/lang/invoke/MethodHandle" ∧ yX7_read.cls ≠ "java/lang/invoke/VarHandle" ∧ (parseMethodDescriptor yX7_read.desc).map (fun d => d.parameters.length) = some 2 := by decide +kernel
set_option maxHeartbeats 8000000 in
set_option maxRecDepth 100000 in
theorem kX7_read (l : Launch) (D : va_G) (cy : Nat → ClassId) (ad : Nat → Nat) (c7_lastFound : Int32) (c7_lastAsked : Int32) (c7_found : Nat → Int32) (c4_made : Int32) (c4_kinds : Nat → Int32) (c4_places : Nat → Int32) (c4_rates : Nat → Int32) (c4_readings : Nat → Int32) (c4_bearing : Nat → Int32) (c5_legs : Int32) (c5_length : Int32) (c5_ways : Nat → Int32) (c5_units : Nat → Int32) (c5_stuffOf : Nat → Int32) (c5_point : Nat → Int32) (c6_bytes : Nat → Int32) (c6_sizes : Nat → Int32) (c6_weights : Nat → Int32) (c3_size : Int32) (c3_rates : Nat → Int32) (c0_amounts : Nat → Int32) (c0_lows : Nat → Int32) (c0_highs : Nat → Int32) (c0_barred : Nat → Int32) (c1_lines : Int32) (c1_parts : Int64) (c2_above : Int64) (c2_below : Int64) (p1 : Int32) (p2 : Int32) {ra : Int32} {z7_lastFound : Int32} {z7_found : Nat → Int32} {z4_readings : Nat → Int32} (hf : fX7_read c7_lastFound c7_found c4_made c4_kinds c4_readings p1 p2 = some (ra, z7_lastFound, z7_found, z4_readings)) : CI l D cy yX7_read wsX7_read ({ frames := 3, cells := 0, slots := 0, locals := 65 } : Room) [.ref (ad 70), .int p1, .int p2] (w7 cy ad c7_lastFound c7_lastAsked c7_found c4_made c4_kinds c4_places c4_rates c4_readings c4_bearing c5_legs c5_length c5_ways c5_units c5_stuffOf c5_point c6_bytes c6_sizes c6_weights c3_size c3_rates c0_amounts c0_lows c0_highs c0_barred c1_lines c1_parts c2_above c2_below) ra (w7 cy ad z7_lastFound c7_lastAsked z7_found c4_made c4_kinds c4_places c4_rates z4_readings c4_bearing c5_legs c5_length c5_ways c5_units c5_stuffOf c5_point c6_bytes c6_sizes c6_weights c3_size c3_rates c0_amounts c0_lows c0_highs c0_barred c1_lines c1_parts c2_above c2_below) := by
  unfold fX7_read at hf
  refine c_of_i (ty := .int) (own := RX7) (by decide) rfl rfl (Nat.le_of_ble_eq_true rfl) (fun X hC hRet => ?_)
  refine r_sub [(0, .ref (ad 70)), (1, .int p1), (2, .int p2)] [0, 1, 2] rfl ?_
  have hin7 : ∀ w ∈ wsX70, w ∈ wsX7_read := fun w h => List.mem_cons_of_mem _ (List.mem_append_left _ (List.mem_append_right _ h))
  have hw0 : Cond.fieldLink RX7 30 "HotPipes" "rests" "LHotPipes$Rests;" ∈ wsX7_read := List.mem_of_getElem? (i := 2) rfl
  have hw1 : Cond.constant RX7 249 (100000) ∈ wsX7_read := List.mem_of_getElem? (i := 1) rfl
  refine r_aload_n hC dX7_read_0 rfl 0 rfl ?_
  refine r_iload_n hC dX7_read_1 rfl 1 rfl ?_
  refine r_iload_n hC dX7_read_2 rfl 2 rfl ?_
  refine r_bipush hC dX7_read_3 bp_m9 ?_
  obtain ⟨t1, h11, hf⟩ := ob_some hf
  have J23_10 : GG X 4 0 0 (w7 cy ad c7_lastFound c7_lastAsked c7_found c4_made c4_kinds c4_places c4_rates c4_readings c4_bearing c5_legs c5_length c5_ways c5_units c5_stuffOf c5_point c6_bytes c6_sizes c6_weights c3_size c3_rates c0_amounts c0_lows c0_highs c0_barred c1_lines c1_parts c2_above c2_below) [(0, .ref (ad 70)), (1, .int p1), (2, .int p2)] 23 [.int t1, .int p1, .ref (ad 70)] := by
    obtain ⟨r2, s3, s4, h5, hf⟩ := ob3_some hf
    refine r_vi (st := []) hC (kX7_refusalOfRest l D cy ad c7_lastFound c7_lastAsked c7_found c4_made c4_kinds c4_places c4_rates c4_readings c4_bearing c5_legs c5_length c5_ways c5_units c5_stuffOf c5_point c6_bytes c6_sizes c6_weights c3_size c3_rates c0_amounts c0_lows c0_highs c0_barred c1_lines c1_parts c2_above c2_below p1 t1 h5) gX7_read_X7_refusalOfRest rfl ⟨rfl, rfl⟩ ydX7_refusalOfRest ⟨Nat.le_of_ble_eq_true rfl, Nat.le_of_ble_eq_true rfl⟩ ⟨Nat.le_refl 0, Nat.le_refl 0⟩ 0 rfl rfl [] [] rfl _ rfl (Nat.le_of_ble_eq_true rfl) dX7_read_23 (w7 cy ad s3 c7_lastAsked s4 c4_made c4_kinds c4_places c4_rates c4_readings c4_bearing c5_legs c5_length c5_ways c5_units c5_stuffOf c5_point c6_bytes c6_sizes c6_weights c3_size c3_rates c0_amounts c0_lows c0_highs c0_barred c1_lines c1_parts c2_above c2_below) rfl ?_
    refine r_istore_n hC [(3, .int r2), (0, .ref (ad 70)), (1, .int p1), (2, .int p2)] dX7_read_26 rfl (by decide) rfl ?_
    refine r_iload_n hC dX7_read_27 rfl 0 rfl ?_
    refine r_if_eq (tgt := 33) hC dX7_read_28 (by decide) (fun c6 => ?_) (fun c6 => ?_)
    · replace hf := o_pos hf c6
      refine r_aload_n hC dX7_read_33 rfl 1 rfl ?_
      refine r_get hC hin7 0 rfl rfl 2 (by decide) rfl hw0 rfl dX7_read_34 ?_
      refine r_iload_n hC dX7_read_37 rfl 2 rfl ?_
      refine r_iload_n hC dX7_read_38 rfl 3 rfl ?_
      obtain ⟨r7, s8, h9, hf⟩ := ob2_some hf
      refine r_vi (st := []) hC (kX4_replaceReading l D cy ad c4_made c4_kinds c4_places c4_rates c4_readings c4_bearing c5_legs c5_length c5_ways c5_units c5_stuffOf c5_point c6_bytes c6_sizes c6_weights p1 p2 h9) gX7_read_X4_replaceReading rfl ⟨rfl, rfl⟩ ydX4_replaceReading ⟨Nat.le_of_ble_eq_true rfl, Nat.le_of_ble_eq_true rfl⟩ ⟨Nat.le_refl 0, Nat.le_refl 0⟩ 0 rfl rfl (v7 cy ad s3 c7_lastAsked s4) (w3 cy ad c3_size c3_rates ++ (w0 cy ad c0_amounts c0_lows c0_highs c0_barred ++ (w1 cy ad c1_lines c1_parts ++ (w2 cy ad c2_above c2_below)))) rfl _ rfl (Nat.le_of_ble_eq_true rfl) dX7_read_39 (w7 cy ad s3 c7_lastAsked s4 c4_made c4_kinds c4_places c4_rates s8 c4_bearing c5_legs c5_length c5_ways c5_units c5_stuffOf c5_point c6_bytes c6_sizes c6_weights c3_size c3_rates c0_amounts c0_lows c0_highs c0_barred c1_lines c1_parts c2_above c2_below) rfl ?_
      obtain ⟨rfl, rfl, rfl, rfl⟩ := so_4 hf
      exact hRet _ _ _ dX7_read_42 rfl
    · replace hf := o_neg hf c6
      refine r_iload_n hC dX7_read_31 rfl 0 rfl ?_
      obtain ⟨rfl, rfl, rfl, rfl⟩ := so_4 hf
      exact hRet _ _ _ dX7_read_32 rfl
  replace hf := h11
  obtain ⟨K18_12, eK18_12, hf⟩ := oj_some hf
  have J18_12 : K18_12 = some t1 → GG X 4 0 0 (w7 cy ad c7_lastFound c7_lastAsked c7_found c4_made c4_kinds c4_places c4_rates c4_readings c4_bearing c5_legs c5_length c5_ways c5_units c5_stuffOf c5_point c6_bytes c6_sizes c6_weights c3_size c3_rates c0_amounts c0_lows c0_highs c0_barred c1_lines c1_parts c2_above c2_below) [(0, .ref (ad 70)), (1, .int p1), (2, .int p2)] 18 [.int p1, .ref (ad 70)] := by
    intro hf
    replace hf := oa0 eK18_12 hf
    refine r_iconst hC dX7_read_18 ic_1 ?_
    refine r_goto (tgt := 23) hC dX7_read_19 (by decide) ?_
    obtain rfl := so_1 hf
    exact J23_10
  refine r_icmp_eq (tgt := 18) hC dX7_read_5 (by decide) (fun c13 => ?_) (fun c13 => ?_)
  · replace hf := o_pos hf c13
    exact J18_12 hf
  · replace hf := o_neg hf c13
    refine r_iload_n hC dX7_read_8 rfl 2 rfl ?_
    refine r_iconst hC dX7_read_9 ic_0 ?_
    refine r_ldc hC hw1 dX7_read_10 ?_
    obtain ⟨r14, h15, hf⟩ := ob_some hf
    refine r_si (st := [.int p1, .ref (ad 70)]) hC (kX7_isWithin l D cy p2 0 100000 h15) gX7_read_X7_isWithin rfl ⟨rfl, rfl⟩ ydX7_isWithin ⟨Nat.le_of_ble_eq_true rfl, Nat.le_of_ble_eq_true rfl⟩ ⟨Nat.le_refl 0, Nat.le_refl 0⟩ _ rfl (Nat.le_of_ble_eq_true rfl) dX7_read_12 ?_
    refine r_if_eq (tgt := 22) hC dX7_read_15 (by decide) (fun c16 => ?_) (fun c16 => ?_)
    · replace hf := o_pos hf c16
      refine r_iconst hC dX7_read_22 ic_0 ?_
      obtain rfl := so_1 hf
      exact J23_10
    · replace hf := o_neg hf c16
      exact J18_12 hf
noncomputable def fX7_missing_L46 (N : Nat) (c4_made : Int32) (c4_kinds : Nat → Int32) (c4_places : Nat → Int32) (c4_readings : Nat → Int32) (c5_legs : Int32) (c5_length : Int32) (c5_units : Nat → Int32) (c5_stuffOf : Nat → Int32) (c6_weights : Nat → Int32) (s7 : Nat → Int32) (K99_13 : Int32 → Int32 → Option (Int32 × Int32 × (Nat → Int32))) : Nat → Int32 → Int32 → Int32 → Option (Int32 × Int32 × (Nat → Int32))
  | 0, _, _, _ => none
  | n + 1, x14, x15, x16 => ob (fX4_made c4_made) (fun (r17 : Int32) => (if r17 ≤ x16 then K99_13 x14 x15 else ob (fX4_isBearing s7 x16) (fun (r20 : Int32) => ob2 ((if r20 = 0 then some (x14, x15) else ob (fX4_differenceWithout N c4_made c4_kinds c4_places c4_readings s7 c5_legs c5_length c5_units c5_stuffOf c6_weights x16) (fun (r27 : Int32) => (if x15 ≤ r27 then some (x14, x15) else some (x16, r27))))) (fun (x22 : Int32) (x23 : Int32) => fX7_missing_L46 N c4_made c4_kinds c4_places c4_readings c5_legs c5_length c5_units c5_stuffOf c6_weights s7 K99_13 n x22 x23 (x16 + 1)))))
noncomputable def fX7_missing (N : Nat) (c7_lastAsked : Int32) (c4_made : Int32) (c4_kinds : Nat → Int32) (c4_places : Nat → Int32) (c4_readings : Nat → Int32) (c4_bearing : Nat → Int32) (c5_legs : Int32) (c5_length : Int32) (c5_ways : Nat → Int32) (c5_units : Nat → Int32) (c5_stuffOf : Nat → Int32) (c6_bytes : Nat → Int32) (c6_sizes : Nat → Int32) (c6_weights : Nat → Int32) (p1 : Int32) : Option (Int32 × Int32 × (Nat → Int32)) := ob (fX7_isStep p1) (fun (r1 : Int32) => (if r1 = 0 then some ((-1), c7_lastAsked, c4_bearing) else ob (fX4_hasReading N c4_made c4_kinds c4_readings) (fun (r4 : Int32) => (if r4 = 0 then some ((-4), c7_lastAsked, c4_bearing) else ob (fX4_noteBearing N c4_made c4_kinds c4_places c4_bearing c5_legs c5_length c5_ways c5_units c5_stuffOf c6_bytes c6_sizes p1) (fun (s7 : Nat → Int32) => ob (fX4_differenceWithout N c4_made c4_kinds c4_places c4_readings s7 c5_legs c5_length c5_units c5_stuffOf c6_weights (-9)) (fun (r9 : Int32) => oj (fun (x11 : Int32) (x12 : Int32) => some (x11, x12, s7)) (fun (K99_13 : Int32 → Int32 → Option (Int32 × Int32 × (Nat → Int32))) => fX7_missing_L46 N c4_made c4_kinds c4_places c4_readings c5_legs c5_length c5_units c5_stuffOf c6_weights s7 K99_13 N (-9) r9 0)))))))
theorem ydX7_missing : yX7_missing.cls = RX7 ∧ yX7_missing.cls ≠ "java/lang/invoke/MethodHandle" ∧ yX7_missing.cls ≠ "java/lang/invoke/VarHandle" ∧ (parseMethodDescriptor yX7_missing.desc).map (fun d => d.parameters.length) = some 1 := by decide +kernel
set_option maxHeartbeats 8000000 in
set_option maxRecDepth 100000 in
theorem kX7_missing (l : Launch) (D : va_G) (cy : Nat → ClassId) (ad : Nat → Nat) (c7_lastFound : Int32) (c7_lastAsked : Int32) (c7_found : Nat → Int32) (c4_made : Int32) (c4_kinds : Nat → Int32) (c4_places : Nat → Int32) (c4_rates : Nat → Int32) (c4_readings : Nat → Int32) (c4_bearing : Nat → Int32) (c5_legs : Int32) (c5_length : Int32) (c5_ways : Nat → Int32) (c5_units : Nat → Int32) (c5_stuffOf : Nat → Int32) (c5_point : Nat → Int32) (c6_bytes : Nat → Int32) (c6_sizes : Nat → Int32) (c6_weights : Nat → Int32) (c3_size : Int32) (c3_rates : Nat → Int32) (c0_amounts : Nat → Int32) (c0_lows : Nat → Int32) (c0_highs : Nat → Int32) (c0_barred : Nat → Int32) (c1_lines : Int32) (c1_parts : Int64) (c2_above : Int64) (c2_below : Int64) (p1 : Int32) (N : Nat) {ra : Int32} {z7_lastAsked : Int32} {z4_bearing : Nat → Int32} (hf : fX7_missing N c7_lastAsked c4_made c4_kinds c4_places c4_readings c4_bearing c5_legs c5_length c5_ways c5_units c5_stuffOf c6_bytes c6_sizes c6_weights p1 = some (ra, z7_lastAsked, z4_bearing)) : CI l D cy yX7_missing wsX7_missing ({ frames := 5, cells := 0, slots := 0, locals := 118 } : Room) [.ref (ad 70), .int p1] (w7 cy ad c7_lastFound c7_lastAsked c7_found c4_made c4_kinds c4_places c4_rates c4_readings c4_bearing c5_legs c5_length c5_ways c5_units c5_stuffOf c5_point c6_bytes c6_sizes c6_weights c3_size c3_rates c0_amounts c0_lows c0_highs c0_barred c1_lines c1_parts c2_above c2_below) ra (w7 cy ad c7_lastFound z7_lastAsked c7_found c4_made c4_kinds c4_places c4_rates c4_readings z4_bearing c5_legs c5_length c5_ways c5_units c5_stuffOf c5_point c6_bytes c6_sizes c6_weights c3_size c3_rates c0_amounts c0_lows c0_highs c0_barred c1_lines c1_parts c2_above c2_below) := by
  unfold fX7_missing at hf
  refine c_of_i (ty := .int) (own := RX7) (by decide) rfl rfl (Nat.le_of_ble_eq_true rfl) (fun X hC hRet => ?_)
  refine r_sub [(0, .ref (ad 70)), (1, .int p1)] [0, 1] rfl ?_
  have hin7 : ∀ w ∈ wsX70, w ∈ wsX7_missing := fun w h => List.mem_cons_of_mem _ (List.mem_append_left _ (List.mem_append_left _ (List.mem_append_left _ (List.mem_append_right _ h))))
  have hw0 : Cond.fieldLink RX7 30 "HotPipes" "rests" "LHotPipes$Rests;" ∈ wsX7_missing := List.mem_of_getElem? (i := 1) rfl
  have hw1 : Cond.fieldLink RX7 70 "HotPipes" "lastAsked" "I" ∈ wsX7_missing := List.mem_of_getElem? (i := 2) rfl
  refine r_iload_n hC dX7_missing_0 rfl 1 rfl ?_
  obtain ⟨r1, h2, hf⟩ := ob_some hf
  refine r_si (st := []) hC (kX7_isStep l D cy p1 h2) gX7_missing_X7_isStep rfl ⟨rfl, rfl⟩ ydX7_isStep ⟨Nat.le_of_ble_eq_true rfl, Nat.le_of_ble_eq_true rfl⟩ ⟨Nat.le_refl 0, Nat.le_refl 0⟩ _ rfl (Nat.le_of_ble_eq_true rfl) dX7_missing_1 ?_
  refine r_if_ne (tgt := 9) hC dX7_missing_4 (by decide) (fun c3 => ?_) (fun c3 => ?_)
  · replace hf := o_neg hf c3
    refine r_aload_n hC dX7_missing_9 rfl 0 rfl ?_
    refine r_get hC hin7 0 rfl rfl 2 (by decide) rfl hw0 rfl dX7_missing_10 ?_
    obtain ⟨r4, h5, hf⟩ := ob_some hf
    refine r_vi (st := []) hC (kX4_hasReading l D cy ad c4_made c4_kinds c4_places c4_rates c4_readings c4_bearing c5_legs c5_length c5_ways c5_units c5_stuffOf c5_point c6_bytes c6_sizes c6_weights  N h5) gX7_missing_X4_hasReading rfl ⟨rfl, rfl⟩ ydX4_hasReading ⟨Nat.le_of_ble_eq_true rfl, Nat.le_of_ble_eq_true rfl⟩ ⟨Nat.le_refl 0, Nat.le_refl 0⟩ 0 rfl rfl (v7 cy ad c7_lastFound c7_lastAsked c7_found) (w3 cy ad c3_size c3_rates ++ (w0 cy ad c0_amounts c0_lows c0_highs c0_barred ++ (w1 cy ad c1_lines c1_parts ++ (w2 cy ad c2_above c2_below)))) rfl _ rfl (Nat.le_of_ble_eq_true rfl) dX7_missing_13 (w7 cy ad c7_lastFound c7_lastAsked c7_found c4_made c4_kinds c4_places c4_rates c4_readings c4_bearing c5_legs c5_length c5_ways c5_units c5_stuffOf c5_point c6_bytes c6_sizes c6_weights c3_size c3_rates c0_amounts c0_lows c0_highs c0_barred c1_lines c1_parts c2_above c2_below) rfl ?_
    refine r_if_ne (tgt := 22) hC dX7_missing_16 (by decide) (fun c6 => ?_) (fun c6 => ?_)
    · replace hf := o_neg hf c6
      refine r_aload_n hC dX7_missing_22 rfl 0 rfl ?_
      refine r_get hC hin7 0 rfl rfl 2 (by decide) rfl hw0 rfl dX7_missing_23 ?_
      refine r_iload_n hC dX7_missing_26 rfl 1 rfl ?_
      obtain ⟨s7, h8, hf⟩ := ob_some hf
      refine r_vv (st := []) hC (kX4_noteBearing l D cy ad c4_made c4_kinds c4_places c4_rates c4_readings c4_bearing c5_legs c5_length c5_ways c5_units c5_stuffOf c5_point c6_bytes c6_sizes c6_weights p1 N h8) gX7_missing_X4_noteBearing rfl ⟨rfl, rfl⟩ ydX4_noteBearing ⟨Nat.le_of_ble_eq_true rfl, Nat.le_of_ble_eq_true rfl⟩ ⟨Nat.le_refl 0, Nat.le_refl 0⟩ 0 rfl rfl (v7 cy ad c7_lastFound c7_lastAsked c7_found) (w3 cy ad c3_size c3_rates ++ (w0 cy ad c0_amounts c0_lows c0_highs c0_barred ++ (w1 cy ad c1_lines c1_parts ++ (w2 cy ad c2_above c2_below)))) rfl _ rfl (Nat.le_of_ble_eq_true rfl) dX7_missing_27 (w7 cy ad c7_lastFound c7_lastAsked c7_found c4_made c4_kinds c4_places c4_rates c4_readings s7 c5_legs c5_length c5_ways c5_units c5_stuffOf c5_point c6_bytes c6_sizes c6_weights c3_size c3_rates c0_amounts c0_lows c0_highs c0_barred c1_lines c1_parts c2_above c2_below) rfl ?_
      refine r_bipush hC dX7_missing_30 bp_m9 ?_
      refine r_istore_n hC [(2, .int (-9)), (0, .ref (ad 70)), (1, .int p1)] dX7_missing_32 rfl (by decide) rfl ?_
      refine r_aload_n hC dX7_missing_33 rfl 1 rfl ?_
      refine r_get hC hin7 0 rfl rfl 2 (by decide) rfl hw0 rfl dX7_missing_34 ?_
      refine r_bipush hC dX7_missing_37 bp_m9 ?_
      obtain ⟨r9, h10, hf⟩ := ob_some hf
      refine r_vi (st := []) hC (kX4_differenceWithout l D cy ad c4_made c4_kinds c4_places c4_rates c4_readings s7 c5_legs c5_length c5_ways c5_units c5_stuffOf c5_point c6_bytes c6_sizes c6_weights (-9) N h10) gX7_missing_X4_differenceWithout rfl ⟨rfl, rfl⟩ ydX4_differenceWithout ⟨Nat.le_of_ble_eq_true rfl, Nat.le_of_ble_eq_true rfl⟩ ⟨Nat.le_refl 0, Nat.le_refl 0⟩ 0 rfl rfl (v7 cy ad c7_lastFound c7_lastAsked c7_found) (w3 cy ad c3_size c3_rates ++ (w0 cy ad c0_amounts c0_lows c0_highs c0_barred ++ (w1 cy ad c1_lines c1_parts ++ (w2 cy ad c2_above c2_below)))) rfl _ rfl (Nat.le_of_ble_eq_true rfl) dX7_missing_39 (w7 cy ad c7_lastFound c7_lastAsked c7_found c4_made c4_kinds c4_places c4_rates c4_readings s7 c5_legs c5_length c5_ways c5_units c5_stuffOf c5_point c6_bytes c6_sizes c6_weights c3_size c3_rates c0_amounts c0_lows c0_highs c0_barred c1_lines c1_parts c2_above c2_below) rfl ?_
      refine r_istore_n hC [(3, .int r9), (2, .int (-9)), (0, .ref (ad 70)), (1, .int p1)] dX7_missing_42 rfl (by decide) rfl ?_
      refine r_iconst hC dX7_missing_43 ic_0 ?_
      refine r_istore hC [(4, .int 0), (3, .int r9), (2, .int (-9)), (0, .ref (ad 70)), (1, .int p1)] dX7_missing_44 (by decide) rfl ?_
      obtain ⟨K99_13, eK99_13, hf⟩ := oj_some hf
      have J99_13 : ∀ (x11 : Int32) (x12 : Int32), K99_13 x11 x12 = some (ra, z7_lastAsked, z4_bearing) → GG X 6 0 0 (w7 cy ad c7_lastFound c7_lastAsked c7_found c4_made c4_kinds c4_places c4_rates c4_readings s7 c5_legs c5_length c5_ways c5_units c5_stuffOf c5_point c6_bytes c6_sizes c6_weights c3_size c3_rates c0_amounts c0_lows c0_highs c0_barred c1_lines c1_parts c2_above c2_below) [(0, .ref (ad 70)), (2, .int x11), (3, .int x12)] 99 [] := by
        intro x11 x12 hf
        replace hf := oa2 eK99_13 hf
        refine r_aload_n hC dX7_missing_99 rfl 0 rfl ?_
        refine r_iload_n hC dX7_missing_100 rfl 2 rfl ?_
        refine r_put (ty := .int) hC hin7 tyX7_ok nmX7 0 rfl rfl 9 (by decide) rfl hw1 rfl rfl rfl rfl (Nat.le_of_ble_eq_true rfl) dX7_missing_101 (w7 cy ad c7_lastFound x12 c7_found c4_made c4_kinds c4_places c4_rates c4_readings s7 c5_legs c5_length c5_ways c5_units c5_stuffOf c5_point c6_bytes c6_sizes c6_weights c3_size c3_rates c0_amounts c0_lows c0_highs c0_barred c1_lines c1_parts c2_above c2_below) rfl ?_
        refine r_iload_n hC dX7_missing_104 rfl 1 rfl ?_
        obtain ⟨rfl, rfl, rfl⟩ := so_3 hf
        exact hRet _ _ _ dX7_missing_105 rfl
      have L46 : ∀ (n : Nat) (x14 : Int32) (x15 : Int32) (x16 : Int32), fX7_missing_L46 N c4_made c4_kinds c4_places c4_readings c5_legs c5_length c5_units c5_stuffOf c6_weights s7 K99_13 n x14 x15 x16 = some (ra, z7_lastAsked, z4_bearing) → GG X 6 0 0 (w7 cy ad c7_lastFound c7_lastAsked c7_found c4_made c4_kinds c4_places c4_rates c4_readings s7 c5_legs c5_length c5_ways c5_units c5_stuffOf c5_point c6_bytes c6_sizes c6_weights c3_size c3_rates c0_amounts c0_lows c0_highs c0_barred c1_lines c1_parts c2_above c2_below) [(0, .ref (ad 70)), (2, .int x14), (3, .int x15), (4, .int x16)] 46 [] := by
        intro n
        induction n with
        | zero => intro x14 x15 x16 hf; cases (show none = some _ from hf)
        | succ n ih =>
          intro x14 x15 x16 hf
          rw [fX7_missing_L46] at hf
          refine r_iload hC dX7_missing_46 3 rfl ?_
          refine r_aload_n hC dX7_missing_48 rfl 0 rfl ?_
          refine r_get hC hin7 0 rfl rfl 2 (by decide) rfl hw0 rfl dX7_missing_49 ?_
          obtain ⟨r17, h18, hf⟩ := ob_some hf
          refine r_vi (st := [.int x16]) hC (kX4_made l D cy ad c4_made c4_kinds c4_places c4_rates c4_readings s7 c5_legs c5_length c5_ways c5_units c5_stuffOf c5_point c6_bytes c6_sizes c6_weights  h18) gX7_missing_X4_made rfl ⟨rfl, rfl⟩ ydX4_made ⟨Nat.le_of_ble_eq_true rfl, Nat.le_of_ble_eq_true rfl⟩ ⟨Nat.le_refl 0, Nat.le_refl 0⟩ 0 rfl rfl (v7 cy ad c7_lastFound c7_lastAsked c7_found) (w3 cy ad c3_size c3_rates ++ (w0 cy ad c0_amounts c0_lows c0_highs c0_barred ++ (w1 cy ad c1_lines c1_parts ++ (w2 cy ad c2_above c2_below)))) rfl _ rfl (Nat.le_of_ble_eq_true rfl) dX7_missing_52 (w7 cy ad c7_lastFound c7_lastAsked c7_found c4_made c4_kinds c4_places c4_rates c4_readings s7 c5_legs c5_length c5_ways c5_units c5_stuffOf c5_point c6_bytes c6_sizes c6_weights c3_size c3_rates c0_amounts c0_lows c0_highs c0_barred c1_lines c1_parts c2_above c2_below) rfl ?_
          refine r_icmp_ge (tgt := 99) hC dX7_missing_55 (by decide) (fun c19 => ?_) (fun c19 => ?_)
          · replace hf := o_pos hf c19
            refine r_sub [(0, .ref (ad 70)), (2, .int x14), (3, .int x15)] [0, 1, 2] rfl ?_
            exact J99_13 x14 x15 hf
          · replace hf := o_neg hf c19
            refine r_aload_n hC dX7_missing_58 rfl 0 rfl ?_
            refine r_get hC hin7 0 rfl rfl 2 (by decide) rfl hw0 rfl dX7_missing_59 ?_
            refine r_iload hC dX7_missing_62 3 rfl ?_
            obtain ⟨r20, h21, hf⟩ := ob_some hf
            refine r_vi (st := []) hC (kX4_isBearing l D cy ad c4_made c4_kinds c4_places c4_rates c4_readings s7 c5_legs c5_length c5_ways c5_units c5_stuffOf c5_point c6_bytes c6_sizes c6_weights x16 h21) gX7_missing_X4_isBearing rfl ⟨rfl, rfl⟩ ydX4_isBearing ⟨Nat.le_of_ble_eq_true rfl, Nat.le_of_ble_eq_true rfl⟩ ⟨Nat.le_refl 0, Nat.le_refl 0⟩ 0 rfl rfl (v7 cy ad c7_lastFound c7_lastAsked c7_found) (w3 cy ad c3_size c3_rates ++ (w0 cy ad c0_amounts c0_lows c0_highs c0_barred ++ (w1 cy ad c1_lines c1_parts ++ (w2 cy ad c2_above c2_below)))) rfl _ rfl (Nat.le_of_ble_eq_true rfl) dX7_missing_64 (w7 cy ad c7_lastFound c7_lastAsked c7_found c4_made c4_kinds c4_places c4_rates c4_readings s7 c5_legs c5_length c5_ways c5_units c5_stuffOf c5_point c6_bytes c6_sizes c6_weights c3_size c3_rates c0_amounts c0_lows c0_highs c0_barred c1_lines c1_parts c2_above c2_below) rfl ?_
            obtain ⟨x22, x23, h25, hf⟩ := ob2_some hf
            have J93_24 : GG X 6 0 0 (w7 cy ad c7_lastFound c7_lastAsked c7_found c4_made c4_kinds c4_places c4_rates c4_readings s7 c5_legs c5_length c5_ways c5_units c5_stuffOf c5_point c6_bytes c6_sizes c6_weights c3_size c3_rates c0_amounts c0_lows c0_highs c0_barred c1_lines c1_parts c2_above c2_below) [(0, .ref (ad 70)), (2, .int x22), (3, .int x23), (4, .int x16)] 93 [] := by
              refine r_iinc hC [(4, .int (x16 + 1)), (0, .ref (ad 70)), (2, .int x22), (3, .int x23)] (x16 + 1) dX7_missing_93 3 rfl (ii_1 _) (by decide) rfl ?_
              refine r_goto (tgt := 46) hC dX7_missing_96 (by decide) ?_
              refine r_sub [(0, .ref (ad 70)), (2, .int x22), (3, .int x23), (4, .int (x16 + 1))] [1, 2, 3, 0] rfl ?_
              exact ih x22 x23 (x16 + 1) hf
            replace hf := h25
            refine r_if_eq (tgt := 93) hC dX7_missing_67 (by decide) (fun c26 => ?_) (fun c26 => ?_)
            · replace hf := o_pos hf c26
              obtain ⟨rfl, rfl⟩ := so_2 hf
              exact J93_24
            · replace hf := o_neg hf c26
              refine r_aload_n hC dX7_missing_70 rfl 0 rfl ?_
              refine r_get hC hin7 0 rfl rfl 2 (by decide) rfl hw0 rfl dX7_missing_71 ?_
              refine r_iload hC dX7_missing_74 3 rfl ?_
              obtain ⟨r27, h28, hf⟩ := ob_some hf
              refine r_vi (st := []) hC (kX4_differenceWithout l D cy ad c4_made c4_kinds c4_places c4_rates c4_readings s7 c5_legs c5_length c5_ways c5_units c5_stuffOf c5_point c6_bytes c6_sizes c6_weights x16 N h28) gX7_missing_X4_differenceWithout rfl ⟨rfl, rfl⟩ ydX4_differenceWithout ⟨Nat.le_of_ble_eq_true rfl, Nat.le_of_ble_eq_true rfl⟩ ⟨Nat.le_refl 0, Nat.le_refl 0⟩ 0 rfl rfl (v7 cy ad c7_lastFound c7_lastAsked c7_found) (w3 cy ad c3_size c3_rates ++ (w0 cy ad c0_amounts c0_lows c0_highs c0_barred ++ (w1 cy ad c1_lines c1_parts ++ (w2 cy ad c2_above c2_below)))) rfl _ rfl (Nat.le_of_ble_eq_true rfl) dX7_missing_76 (w7 cy ad c7_lastFound c7_lastAsked c7_found c4_made c4_kinds c4_places c4_rates c4_readings s7 c5_legs c5_length c5_ways c5_units c5_stuffOf c5_point c6_bytes c6_sizes c6_weights c3_size c3_rates c0_amounts c0_lows c0_highs c0_barred c1_lines c1_parts c2_above c2_below) rfl ?_
              refine r_istore hC [(5, .int r27), (0, .ref (ad 70)), (2, .int x14), (3, .int x15), (4, .int x16)] dX7_missing_79 (by decide) rfl ?_
              refine r_iload hC dX7_missing_81 0 rfl ?_
              refine r_iload_n hC dX7_missing_83 rfl 3 rfl ?_
              refine r_icmp_ge (tgt := 93) hC dX7_missing_84 (by decide) (fun c29 => ?_) (fun c29 => ?_)
              · replace hf := o_pos hf c29
                obtain ⟨rfl, rfl⟩ := so_2 hf
                refine r_sub [(0, .ref (ad 70)), (2, .int x14), (3, .int x15), (4, .int x16)] [1, 2, 3, 4] rfl ?_
                exact J93_24
              · replace hf := o_neg hf c29
                refine r_iload hC dX7_missing_87 4 rfl ?_
                refine r_istore_n hC [(2, .int x16), (5, .int r27), (0, .ref (ad 70)), (3, .int x15), (4, .int x16)] dX7_missing_89 rfl (by decide) rfl ?_
                refine r_iload hC dX7_missing_90 1 rfl ?_
                refine r_istore_n hC [(3, .int r27), (2, .int x16), (5, .int r27), (0, .ref (ad 70)), (4, .int x16)] dX7_missing_92 rfl (by decide) rfl ?_
                obtain ⟨rfl, rfl⟩ := so_2 hf
                refine r_sub [(0, .ref (ad 70)), (2, .int x16), (3, .int r27), (4, .int x16)] [3, 1, 0, 4] rfl ?_
                exact J93_24
      refine r_sub [(0, .ref (ad 70)), (2, .int (-9)), (3, .int r9), (4, .int 0)] [3, 2, 1, 0] rfl ?_
      exact L46 N (-9) r9 0 hf
    · replace hf := o_pos hf c6
      refine r_bipush hC dX7_missing_19 bp_m4 ?_
      obtain ⟨rfl, rfl, rfl⟩ := so_3 hf
      exact hRet _ _ _ dX7_missing_21 rfl
  · replace hf := o_pos hf c3
    refine r_iconst hC dX7_missing_7 ic_m1 ?_
    obtain ⟨rfl, rfl, rfl⟩ := so_3 hf
    exact hRet _ _ _ dX7_missing_8 rfl
noncomputable def fX7_asked (c7_lastAsked : Int32) : Option (Int32) := some c7_lastAsked
theorem ydX7_asked : yX7_asked.cls = RX7 ∧ yX7_asked.cls ≠ "java/lang/invoke/MethodHandle" ∧ yX7_asked.cls ≠ "java/lang/invoke/VarHandle" ∧ (parseMethodDescriptor yX7_asked.desc).map (fun d => d.parameters.length) = some 0 := by decide +kernel
set_option maxHeartbeats 8000000 in
set_option maxRecDepth 100000 in
theorem kX7_asked (l : Launch) (D : va_G) (cy : Nat → ClassId) (ad : Nat → Nat) (c7_lastFound : Int32) (c7_lastAsked : Int32) (c7_found : Nat → Int32) (c4_made : Int32) (c4_kinds : Nat → Int32) (c4_places : Nat → Int32) (c4_rates : Nat → Int32) (c4_readings : Nat → Int32) (c4_bearing : Nat → Int32) (c5_legs : Int32) (c5_length : Int32) (c5_ways : Nat → Int32) (c5_units : Nat → Int32) (c5_stuffOf : Nat → Int32) (c5_point : Nat → Int32) (c6_bytes : Nat → Int32) (c6_sizes : Nat → Int32) (c6_weights : Nat → Int32) (c3_size : Int32) (c3_rates : Nat → Int32) (c0_amounts : Nat → Int32) (c0_lows : Nat → Int32) (c0_highs : Nat → Int32) (c0_barred : Nat → Int32) (c1_lines : Int32) (c1_parts : Int64) (c2_above : Int64) (c2_below : Int64) {ra : Int32} (hf : fX7_asked c7_lastAsked = some ra) : CI l D cy yX7_asked wsX7_asked ({ frames := 0, cells := 0, slots := 0, locals := 0 } : Room) [.ref (ad 70)] (w7 cy ad c7_lastFound c7_lastAsked c7_found c4_made c4_kinds c4_places c4_rates c4_readings c4_bearing c5_legs c5_length c5_ways c5_units c5_stuffOf c5_point c6_bytes c6_sizes c6_weights c3_size c3_rates c0_amounts c0_lows c0_highs c0_barred c1_lines c1_parts c2_above c2_below) ra (w7 cy ad c7_lastFound c7_lastAsked c7_found c4_made c4_kinds c4_places c4_rates c4_readings c4_bearing c5_legs c5_length c5_ways c5_units c5_stuffOf c5_point c6_bytes c6_sizes c6_weights c3_size c3_rates c0_amounts c0_lows c0_highs c0_barred c1_lines c1_parts c2_above c2_below) := by
  unfold fX7_asked at hf
  refine c_of_i (ty := .int) (own := RX7) (by decide) rfl rfl (Nat.le_of_ble_eq_true rfl) (fun X hC hRet => ?_)
  refine r_sub [(0, .ref (ad 70))] [0] rfl ?_
  have hin7 : ∀ w ∈ wsX70, w ∈ wsX7_asked := fun w h => List.mem_cons_of_mem _ (List.mem_append_right _ h)
  have hw0 : Cond.fieldLink RX7 70 "HotPipes" "lastAsked" "I" ∈ wsX7_asked := List.mem_of_getElem? (i := 1) rfl
  refine r_aload_n hC dX7_asked_0 rfl 0 rfl ?_
  refine r_get hC hin7 0 rfl rfl 9 (by decide) rfl hw0 rfl dX7_asked_1 ?_
  obtain rfl := so_1 hf
  exact hRet _ _ _ dX7_asked_4 rfl
noncomputable def fX7_count (N : Nat) (c4_made : Int32) (c4_kinds : Nat → Int32) (c5_legs : Int32) (c5_length : Int32) (c3_size : Int32) (c1_lines : Int32) (p1 : Int32) : Option (Int32) := (if p1 = 0 then ob (fX5_legs c5_legs) (fun (r2 : Int32) => some r2) else (if p1 = 1 then ob (fX5_length c5_length) (fun (r5 : Int32) => some r5) else (if p1 = 2 then ob (fX4_made c4_made) (fun (r8 : Int32) => some r8) else (if p1 = 3 then ob (fX4_kept N c4_made c4_kinds) (fun (r11 : Int32) => some r11) else (if p1 = 4 then ob (fX3_size c3_size) (fun (r14 : Int32) => some r14) else (if p1 = 5 then ob (fX1_lines c1_lines) (fun (r17 : Int32) => some r17) else (some (-1))))))))
theorem ydX7_count : yX7_count.cls = RX7 ∧ yX7_count.cls ≠ "java/lang/invoke/MethodHandle" ∧ yX7_count.cls ≠ "java/lang/invoke/VarHandle" ∧ (parseMethodDescriptor yX7_count.desc).map (fun d => d.parameters.length) = some 1 := by decide +kernel
set_option maxHeartbeats 8000000 in
set_option maxRecDepth 100000 in
theorem kX7_count (l : Launch) (D : va_G) (cy : Nat → ClassId) (ad : Nat → Nat) (c7_lastFound : Int32) (c7_lastAsked : Int32) (c7_found : Nat → Int32) (c4_made : Int32) (c4_kinds : Nat → Int32) (c4_places : Nat → Int32) (c4_rates : Nat → Int32) (c4_readings : Nat → Int32) (c4_bearing : Nat → Int32) (c5_legs : Int32) (c5_length : Int32) (c5_ways : Nat → Int32) (c5_units : Nat → Int32) (c5_stuffOf : Nat → Int32) (c5_point : Nat → Int32) (c6_bytes : Nat → Int32) (c6_sizes : Nat → Int32) (c6_weights : Nat → Int32) (c3_size : Int32) (c3_rates : Nat → Int32) (c0_amounts : Nat → Int32) (c0_lows : Nat → Int32) (c0_highs : Nat → Int32) (c0_barred : Nat → Int32) (c1_lines : Int32) (c1_parts : Int64) (c2_above : Int64) (c2_below : Int64) (p1 : Int32) (N : Nat) {ra : Int32} (hf : fX7_count N c4_made c4_kinds c5_legs c5_length c3_size c1_lines p1 = some ra) : CI l D cy yX7_count wsX7_count ({ frames := 2, cells := 0, slots := 0, locals := 43 } : Room) [.ref (ad 70), .int p1] (w7 cy ad c7_lastFound c7_lastAsked c7_found c4_made c4_kinds c4_places c4_rates c4_readings c4_bearing c5_legs c5_length c5_ways c5_units c5_stuffOf c5_point c6_bytes c6_sizes c6_weights c3_size c3_rates c0_amounts c0_lows c0_highs c0_barred c1_lines c1_parts c2_above c2_below) ra (w7 cy ad c7_lastFound c7_lastAsked c7_found c4_made c4_kinds c4_places c4_rates c4_readings c4_bearing c5_legs c5_length c5_ways c5_units c5_stuffOf c5_point c6_bytes c6_sizes c6_weights c3_size c3_rates c0_amounts c0_lows c0_highs c0_barred c1_lines c1_parts c2_above c2_below) := by
  unfold fX7_count at hf
  refine c_of_i (ty := .int) (own := RX7) (by decide) rfl rfl (Nat.le_of_ble_eq_true rfl) (fun X hC hRet => ?_)
  refine r_sub [(0, .ref (ad 70)), (1, .int p1)] [0, 1] rfl ?_
  have hin7 : ∀ w ∈ wsX70, w ∈ wsX7_count := fun w h => List.mem_cons_of_mem _ (List.mem_append_left _ (List.mem_append_left _ (List.mem_append_left _ (List.mem_append_left _ (List.mem_append_right _ h)))))
  have hw0 : Cond.fieldLink RX7 21 "HotPipes" "run" "LHotPipes$Run;" ∈ wsX7_count := List.mem_of_getElem? (i := 1) rfl
  have hw1 : Cond.fieldLink RX7 30 "HotPipes" "rests" "LHotPipes$Rests;" ∈ wsX7_count := List.mem_of_getElem? (i := 2) rfl
  have hw2 : Cond.fieldLink RX7 37 "HotPipes" "rates" "LHotPipes$Rates;" ∈ wsX7_count := List.mem_of_getElem? (i := 3) rfl
  have hw3 : Cond.fieldLink RX7 51 "HotPipes" "cycles" "LHotPipes$Cycles;" ∈ wsX7_count := List.mem_of_getElem? (i := 4) rfl
  refine r_iload_n hC dX7_count_0 rfl 1 rfl ?_
  by_cases c1 : p1 = 0
  · replace hf := o_pos hf c1
    refine r_tableIn (off := 39) (tgt := 40) hC dX7_count_1 (by rw [c1]; decide) (by rw [c1]; decide) (by rw [c1]; rfl) (by decide) ?_
    refine r_aload_n hC dX7_count_40 rfl 0 rfl ?_
    refine r_get hC hin7 0 rfl rfl 1 (by decide) rfl hw0 rfl dX7_count_41 ?_
    obtain ⟨r2, h3, hf⟩ := ob_some hf
    refine r_vi (st := []) hC (kX5_legs l D cy ad c5_legs c5_length c5_ways c5_units c5_stuffOf c5_point c6_bytes c6_sizes c6_weights  h3) gX7_count_X5_legs rfl ⟨rfl, rfl⟩ ydX5_legs ⟨Nat.le_of_ble_eq_true rfl, Nat.le_of_ble_eq_true rfl⟩ ⟨Nat.le_refl 0, Nat.le_refl 0⟩ 0 rfl rfl (v7 cy ad c7_lastFound c7_lastAsked c7_found ++ (v4 cy ad c4_made c4_kinds c4_places c4_rates c4_readings c4_bearing)) (w3 cy ad c3_size c3_rates ++ (w0 cy ad c0_amounts c0_lows c0_highs c0_barred ++ (w1 cy ad c1_lines c1_parts ++ (w2 cy ad c2_above c2_below)))) rfl _ rfl (Nat.le_of_ble_eq_true rfl) dX7_count_44 (w7 cy ad c7_lastFound c7_lastAsked c7_found c4_made c4_kinds c4_places c4_rates c4_readings c4_bearing c5_legs c5_length c5_ways c5_units c5_stuffOf c5_point c6_bytes c6_sizes c6_weights c3_size c3_rates c0_amounts c0_lows c0_highs c0_barred c1_lines c1_parts c2_above c2_below) rfl ?_
    obtain rfl := so_1 hf
    exact hRet _ _ _ dX7_count_47 rfl
  replace hf := o_neg hf c1
  by_cases c4 : p1 = 1
  · replace hf := o_pos hf c4
    refine r_tableIn (off := 47) (tgt := 48) hC dX7_count_1 (by rw [c4]; decide) (by rw [c4]; decide) (by rw [c4]; rfl) (by decide) ?_
    refine r_aload_n hC dX7_count_48 rfl 0 rfl ?_
    refine r_get hC hin7 0 rfl rfl 1 (by decide) rfl hw0 rfl dX7_count_49 ?_
    obtain ⟨r5, h6, hf⟩ := ob_some hf
    refine r_vi (st := []) hC (kX5_length l D cy ad c5_legs c5_length c5_ways c5_units c5_stuffOf c5_point c6_bytes c6_sizes c6_weights  h6) gX7_count_X5_length rfl ⟨rfl, rfl⟩ ydX5_length ⟨Nat.le_of_ble_eq_true rfl, Nat.le_of_ble_eq_true rfl⟩ ⟨Nat.le_refl 0, Nat.le_refl 0⟩ 0 rfl rfl (v7 cy ad c7_lastFound c7_lastAsked c7_found ++ (v4 cy ad c4_made c4_kinds c4_places c4_rates c4_readings c4_bearing)) (w3 cy ad c3_size c3_rates ++ (w0 cy ad c0_amounts c0_lows c0_highs c0_barred ++ (w1 cy ad c1_lines c1_parts ++ (w2 cy ad c2_above c2_below)))) rfl _ rfl (Nat.le_of_ble_eq_true rfl) dX7_count_52 (w7 cy ad c7_lastFound c7_lastAsked c7_found c4_made c4_kinds c4_places c4_rates c4_readings c4_bearing c5_legs c5_length c5_ways c5_units c5_stuffOf c5_point c6_bytes c6_sizes c6_weights c3_size c3_rates c0_amounts c0_lows c0_highs c0_barred c1_lines c1_parts c2_above c2_below) rfl ?_
    obtain rfl := so_1 hf
    exact hRet _ _ _ dX7_count_55 rfl
  replace hf := o_neg hf c4
  by_cases c7 : p1 = 2
  · replace hf := o_pos hf c7
    refine r_tableIn (off := 55) (tgt := 56) hC dX7_count_1 (by rw [c7]; decide) (by rw [c7]; decide) (by rw [c7]; rfl) (by decide) ?_
    refine r_aload_n hC dX7_count_56 rfl 0 rfl ?_
    refine r_get hC hin7 0 rfl rfl 2 (by decide) rfl hw1 rfl dX7_count_57 ?_
    obtain ⟨r8, h9, hf⟩ := ob_some hf
    refine r_vi (st := []) hC (kX4_made l D cy ad c4_made c4_kinds c4_places c4_rates c4_readings c4_bearing c5_legs c5_length c5_ways c5_units c5_stuffOf c5_point c6_bytes c6_sizes c6_weights  h9) gX7_count_X4_made rfl ⟨rfl, rfl⟩ ydX4_made ⟨Nat.le_of_ble_eq_true rfl, Nat.le_of_ble_eq_true rfl⟩ ⟨Nat.le_refl 0, Nat.le_refl 0⟩ 0 rfl rfl (v7 cy ad c7_lastFound c7_lastAsked c7_found) (w3 cy ad c3_size c3_rates ++ (w0 cy ad c0_amounts c0_lows c0_highs c0_barred ++ (w1 cy ad c1_lines c1_parts ++ (w2 cy ad c2_above c2_below)))) rfl _ rfl (Nat.le_of_ble_eq_true rfl) dX7_count_60 (w7 cy ad c7_lastFound c7_lastAsked c7_found c4_made c4_kinds c4_places c4_rates c4_readings c4_bearing c5_legs c5_length c5_ways c5_units c5_stuffOf c5_point c6_bytes c6_sizes c6_weights c3_size c3_rates c0_amounts c0_lows c0_highs c0_barred c1_lines c1_parts c2_above c2_below) rfl ?_
    obtain rfl := so_1 hf
    exact hRet _ _ _ dX7_count_63 rfl
  replace hf := o_neg hf c7
  by_cases c10 : p1 = 3
  · replace hf := o_pos hf c10
    refine r_tableIn (off := 63) (tgt := 64) hC dX7_count_1 (by rw [c10]; decide) (by rw [c10]; decide) (by rw [c10]; rfl) (by decide) ?_
    refine r_aload_n hC dX7_count_64 rfl 0 rfl ?_
    refine r_get hC hin7 0 rfl rfl 2 (by decide) rfl hw1 rfl dX7_count_65 ?_
    obtain ⟨r11, h12, hf⟩ := ob_some hf
    refine r_vi (st := []) hC (kX4_kept l D cy ad c4_made c4_kinds c4_places c4_rates c4_readings c4_bearing c5_legs c5_length c5_ways c5_units c5_stuffOf c5_point c6_bytes c6_sizes c6_weights  N h12) gX7_count_X4_kept rfl ⟨rfl, rfl⟩ ydX4_kept ⟨Nat.le_of_ble_eq_true rfl, Nat.le_of_ble_eq_true rfl⟩ ⟨Nat.le_refl 0, Nat.le_refl 0⟩ 0 rfl rfl (v7 cy ad c7_lastFound c7_lastAsked c7_found) (w3 cy ad c3_size c3_rates ++ (w0 cy ad c0_amounts c0_lows c0_highs c0_barred ++ (w1 cy ad c1_lines c1_parts ++ (w2 cy ad c2_above c2_below)))) rfl _ rfl (Nat.le_of_ble_eq_true rfl) dX7_count_68 (w7 cy ad c7_lastFound c7_lastAsked c7_found c4_made c4_kinds c4_places c4_rates c4_readings c4_bearing c5_legs c5_length c5_ways c5_units c5_stuffOf c5_point c6_bytes c6_sizes c6_weights c3_size c3_rates c0_amounts c0_lows c0_highs c0_barred c1_lines c1_parts c2_above c2_below) rfl ?_
    obtain rfl := so_1 hf
    exact hRet _ _ _ dX7_count_71 rfl
  replace hf := o_neg hf c10
  by_cases c13 : p1 = 4
  · replace hf := o_pos hf c13
    refine r_tableIn (off := 71) (tgt := 72) hC dX7_count_1 (by rw [c13]; decide) (by rw [c13]; decide) (by rw [c13]; rfl) (by decide) ?_
    refine r_aload_n hC dX7_count_72 rfl 0 rfl ?_
    refine r_get hC hin7 0 rfl rfl 3 (by decide) rfl hw2 rfl dX7_count_73 ?_
    obtain ⟨r14, h15, hf⟩ := ob_some hf
    refine r_vi (st := []) hC (kX3_size l D cy ad c3_size c3_rates  h15) gX7_count_X3_size rfl ⟨rfl, rfl⟩ ydX3_size ⟨Nat.le_of_ble_eq_true rfl, Nat.le_of_ble_eq_true rfl⟩ ⟨Nat.le_refl 0, Nat.le_refl 0⟩ 0 rfl rfl (v7 cy ad c7_lastFound c7_lastAsked c7_found ++ (w4 cy ad c4_made c4_kinds c4_places c4_rates c4_readings c4_bearing c5_legs c5_length c5_ways c5_units c5_stuffOf c5_point c6_bytes c6_sizes c6_weights)) (w0 cy ad c0_amounts c0_lows c0_highs c0_barred ++ (w1 cy ad c1_lines c1_parts ++ (w2 cy ad c2_above c2_below))) rfl _ rfl (Nat.le_of_ble_eq_true rfl) dX7_count_76 (w7 cy ad c7_lastFound c7_lastAsked c7_found c4_made c4_kinds c4_places c4_rates c4_readings c4_bearing c5_legs c5_length c5_ways c5_units c5_stuffOf c5_point c6_bytes c6_sizes c6_weights c3_size c3_rates c0_amounts c0_lows c0_highs c0_barred c1_lines c1_parts c2_above c2_below) rfl ?_
    obtain rfl := so_1 hf
    exact hRet _ _ _ dX7_count_79 rfl
  replace hf := o_neg hf c13
  by_cases c16 : p1 = 5
  · replace hf := o_pos hf c16
    refine r_tableIn (off := 79) (tgt := 80) hC dX7_count_1 (by rw [c16]; decide) (by rw [c16]; decide) (by rw [c16]; rfl) (by decide) ?_
    refine r_aload_n hC dX7_count_80 rfl 0 rfl ?_
    refine r_get hC hin7 0 rfl rfl 5 (by decide) rfl hw3 rfl dX7_count_81 ?_
    obtain ⟨r17, h18, hf⟩ := ob_some hf
    refine r_vi (st := []) hC (kX1_lines l D cy ad c1_lines c1_parts  h18) gX7_count_X1_lines rfl ⟨rfl, rfl⟩ ydX1_lines ⟨Nat.le_of_ble_eq_true rfl, Nat.le_of_ble_eq_true rfl⟩ ⟨Nat.le_refl 0, Nat.le_refl 0⟩ 0 rfl rfl (v7 cy ad c7_lastFound c7_lastAsked c7_found ++ (w4 cy ad c4_made c4_kinds c4_places c4_rates c4_readings c4_bearing c5_legs c5_length c5_ways c5_units c5_stuffOf c5_point c6_bytes c6_sizes c6_weights ++ (w3 cy ad c3_size c3_rates ++ (w0 cy ad c0_amounts c0_lows c0_highs c0_barred)))) (w2 cy ad c2_above c2_below) rfl _ rfl (Nat.le_of_ble_eq_true rfl) dX7_count_84 (w7 cy ad c7_lastFound c7_lastAsked c7_found c4_made c4_kinds c4_places c4_rates c4_readings c4_bearing c5_legs c5_length c5_ways c5_units c5_stuffOf c5_point c6_bytes c6_sizes c6_weights c3_size c3_rates c0_amounts c0_lows c0_highs c0_barred c1_lines c1_parts c2_above c2_below) rfl ?_
    obtain rfl := so_1 hf
    exact hRet _ _ _ dX7_count_87 rfl
  replace hf := o_neg hf c16
  refine r_tableOut (tgt := 88) hC dX7_count_1 (tb_5 c1 c4 c7 c10 c13 c16) (by decide) ?_
  refine r_iconst hC dX7_count_88 ic_m1 ?_
  obtain rfl := so_1 hf
  exact hRet _ _ _ dX7_count_89 rfl
noncomputable def fX7_finding (c7_lastFound : Int32) : Option (Int32) := some c7_lastFound
theorem ydX7_finding : yX7_finding.cls = RX7 ∧ yX7_finding.cls ≠ "java/lang/invoke/MethodHandle" ∧ yX7_finding.cls ≠ "java/lang/invoke/VarHandle" ∧ (parseMethodDescriptor yX7_finding.desc).map (fun d => d.parameters.length) = some 0 := by decide +kernel
set_option maxHeartbeats 8000000 in
set_option maxRecDepth 100000 in
theorem kX7_finding (l : Launch) (D : va_G) (cy : Nat → ClassId) (ad : Nat → Nat) (c7_lastFound : Int32) (c7_lastAsked : Int32) (c7_found : Nat → Int32) (c4_made : Int32) (c4_kinds : Nat → Int32) (c4_places : Nat → Int32) (c4_rates : Nat → Int32) (c4_readings : Nat → Int32) (c4_bearing : Nat → Int32) (c5_legs : Int32) (c5_length : Int32) (c5_ways : Nat → Int32) (c5_units : Nat → Int32) (c5_stuffOf : Nat → Int32) (c5_point : Nat → Int32) (c6_bytes : Nat → Int32) (c6_sizes : Nat → Int32) (c6_weights : Nat → Int32) (c3_size : Int32) (c3_rates : Nat → Int32) (c0_amounts : Nat → Int32) (c0_lows : Nat → Int32) (c0_highs : Nat → Int32) (c0_barred : Nat → Int32) (c1_lines : Int32) (c1_parts : Int64) (c2_above : Int64) (c2_below : Int64) {ra : Int32} (hf : fX7_finding c7_lastFound = some ra) : CI l D cy yX7_finding wsX7_finding ({ frames := 0, cells := 0, slots := 0, locals := 0 } : Room) [.ref (ad 70)] (w7 cy ad c7_lastFound c7_lastAsked c7_found c4_made c4_kinds c4_places c4_rates c4_readings c4_bearing c5_legs c5_length c5_ways c5_units c5_stuffOf c5_point c6_bytes c6_sizes c6_weights c3_size c3_rates c0_amounts c0_lows c0_highs c0_barred c1_lines c1_parts c2_above c2_below) ra (w7 cy ad c7_lastFound c7_lastAsked c7_found c4_made c4_kinds c4_places c4_rates c4_readings c4_bearing c5_legs c5_length c5_ways c5_units c5_stuffOf c5_point c6_bytes c6_sizes c6_weights c3_size c3_rates c0_amounts c0_lows c0_highs c0_barred c1_lines c1_parts c2_above c2_below) := by
  unfold fX7_finding at hf
  refine c_of_i (ty := .int) (own := RX7) (by decide) rfl rfl (Nat.le_of_ble_eq_true rfl) (fun X hC hRet => ?_)
  refine r_sub [(0, .ref (ad 70))] [0] rfl ?_
  have hin7 : ∀ w ∈ wsX70, w ∈ wsX7_finding := fun w h => List.mem_cons_of_mem _ (List.mem_append_right _ h)
  have hw0 : Cond.fieldLink RX7 66 "HotPipes" "lastFound" "I" ∈ wsX7_finding := List.mem_of_getElem? (i := 1) rfl
  refine r_aload_n hC dX7_finding_0 rfl 0 rfl ?_
  refine r_get hC hin7 0 rfl rfl 8 (by decide) rfl hw0 rfl dX7_finding_1 ?_
  obtain rfl := so_1 hf
  exact hRet _ _ _ dX7_finding_4 rfl
noncomputable def fX7_findings (c7_found : Nat → Int32) (p1 : Int32) : Option (Int32) := ob (fX7_isWithin p1 1 5) (fun (r1 : Int32) => (if r1 = 0 then some (-1) else og (vp_in p1 6) (some (c7_found (Int32.toNatClampNeg p1)))))
theorem ydX7_findings : yX7_findings.cls = RX7 ∧ yX7_findings.cls ≠ "java/lang/invoke/MethodHandle" ∧ yX7_findings.cls ≠ "java/lang/invoke/VarHandle" ∧ (parseMethodDescriptor yX7_findings.desc).map (fun d => d.parameters.length) = some 1 := by decide +kernel
set_option maxHeartbeats 8000000 in
set_option maxRecDepth 100000 in
theorem kX7_findings (l : Launch) (D : va_G) (cy : Nat → ClassId) (ad : Nat → Nat) (c7_lastFound : Int32) (c7_lastAsked : Int32) (c7_found : Nat → Int32) (c4_made : Int32) (c4_kinds : Nat → Int32) (c4_places : Nat → Int32) (c4_rates : Nat → Int32) (c4_readings : Nat → Int32) (c4_bearing : Nat → Int32) (c5_legs : Int32) (c5_length : Int32) (c5_ways : Nat → Int32) (c5_units : Nat → Int32) (c5_stuffOf : Nat → Int32) (c5_point : Nat → Int32) (c6_bytes : Nat → Int32) (c6_sizes : Nat → Int32) (c6_weights : Nat → Int32) (c3_size : Int32) (c3_rates : Nat → Int32) (c0_amounts : Nat → Int32) (c0_lows : Nat → Int32) (c0_highs : Nat → Int32) (c0_barred : Nat → Int32) (c1_lines : Int32) (c1_parts : Int64) (c2_above : Int64) (c2_below : Int64) (p1 : Int32) {ra : Int32} (hf : fX7_findings c7_found p1 = some ra) : CI l D cy yX7_findings wsX7_findings ({ frames := 1, cells := 0, slots := 0, locals := 22 } : Room) [.ref (ad 70), .int p1] (w7 cy ad c7_lastFound c7_lastAsked c7_found c4_made c4_kinds c4_places c4_rates c4_readings c4_bearing c5_legs c5_length c5_ways c5_units c5_stuffOf c5_point c6_bytes c6_sizes c6_weights c3_size c3_rates c0_amounts c0_lows c0_highs c0_barred c1_lines c1_parts c2_above c2_below) ra (w7 cy ad c7_lastFound c7_lastAsked c7_found c4_made c4_kinds c4_places c4_rates c4_readings c4_bearing c5_legs c5_length c5_ways c5_units c5_stuffOf c5_point c6_bytes c6_sizes c6_weights c3_size c3_rates c0_amounts c0_lows c0_highs c0_barred c1_lines c1_parts c2_above c2_below) := by
  unfold fX7_findings at hf
  refine c_of_i (ty := .int) (own := RX7) (by decide) rfl rfl (Nat.le_of_ble_eq_true rfl) (fun X hC hRet => ?_)
  refine r_sub [(0, .ref (ad 70)), (1, .int p1)] [0, 1] rfl ?_
  have hin7 : ∀ w ∈ wsX70, w ∈ wsX7_findings := fun w h => List.mem_cons_of_mem _ (List.mem_append_right _ h)
  have hw0 : Cond.fieldLink RX7 62 "HotPipes" "found" "[I" ∈ wsX7_findings := List.mem_of_getElem? (i := 1) rfl
  refine r_iload_n hC dX7_findings_0 rfl 1 rfl ?_
  refine r_iconst hC dX7_findings_1 ic_1 ?_
  refine r_iconst hC dX7_findings_2 ic_5 ?_
  obtain ⟨r1, h2, hf⟩ := ob_some hf
  refine r_si (st := []) hC (kX7_isWithin l D cy p1 1 5 h2) gX7_findings_X7_isWithin rfl ⟨rfl, rfl⟩ ydX7_isWithin ⟨Nat.le_of_ble_eq_true rfl, Nat.le_of_ble_eq_true rfl⟩ ⟨Nat.le_refl 0, Nat.le_refl 0⟩ _ rfl (Nat.le_of_ble_eq_true rfl) dX7_findings_3 ?_
  refine r_if_eq (tgt := 18) hC dX7_findings_6 (by decide) (fun c3 => ?_) (fun c3 => ?_)
  · replace hf := o_pos hf c3
    refine r_iconst hC dX7_findings_18 ic_m1 ?_
    obtain rfl := so_1 hf
    exact hRet _ _ _ dX7_findings_19 rfl
  · replace hf := o_neg hf c3
    refine r_aload_n hC dX7_findings_9 rfl 0 rfl ?_
    refine r_get hC hin7 0 rfl rfl 7 (by decide) rfl hw0 rfl dX7_findings_10 ?_
    refine r_iload_n hC dX7_findings_13 rfl 1 rfl ?_
    obtain ⟨g4, hf⟩ := og_some hf
    refine r_iald hC 1 rfl g4 dX7_findings_14 ?_
    refine r_goto (tgt := 19) hC dX7_findings_15 (by decide) ?_
    obtain rfl := so_1 hf
    exact hRet _ _ _ dX7_findings_19 rfl
noncomputable def fX7_digest_L6 (N : Nat) (c4_made : Int32) (c4_kinds : Nat → Int32) (c5_legs : Int32) (c5_length : Int32) (c3_size : Int32) (c1_lines : Int32) (K30_2 : Int64 → Option (Int64)) : Nat → Int64 → Int32 → Option (Int64)
  | 0, _, _ => none
  | n + 1, x11, x12 => (if 5 < x12 then K30_2 x11 else ob (fX7_count N c4_made c4_kinds c5_legs c5_length c3_size c1_lines x12) (fun (r14 : Int32) => olet ((31 * x11) + (Int32.toInt64 r14)) (fun (x16 : Int64) => fX7_digest_L6 N c4_made c4_kinds c5_legs c5_length c3_size c1_lines K30_2 n x16 (x12 + 1))))
noncomputable def fX7_digest (N : Nat) (c4_made : Int32) (c4_kinds : Nat → Int32) (c4_places : Nat → Int32) (c4_rates : Nat → Int32) (c4_readings : Nat → Int32) (c5_legs : Int32) (c5_length : Int32) (c5_ways : Nat → Int32) (c5_units : Nat → Int32) (c5_stuffOf : Nat → Int32) (c6_bytes : Nat → Int32) (c6_sizes : Nat → Int32) (c6_weights : Nat → Int32) (c3_size : Int32) (c0_amounts : Nat → Int32) (c0_lows : Nat → Int32) (c0_highs : Nat → Int32) (c1_lines : Int32) : Option (Int64) := oj (fun (x1 : Int64) => ob (fX5_mixInto N c5_legs c5_ways c5_units c5_stuffOf x1) (fun (r3 : Int64) => ob (fX4_mixInto N c4_made c4_kinds c4_places c4_rates c4_readings c5_length r3) (fun (r5 : Int64) => ob (fX0_mixInto N c0_amounts c0_lows c0_highs r5) (fun (r7 : Int64) => ob (fX6_mixInto N c6_bytes c6_sizes c6_weights r7) (fun (r9 : Int64) => some r9))))) (fun (K30_2 : Int64 → Option (Int64)) => fX7_digest_L6 N c4_made c4_kinds c5_legs c5_length c3_size c1_lines K30_2 N 17 0)
theorem ydX7_digest : yX7_digest.cls = RX7 ∧ yX7_digest.cls ≠ "java/lang/invoke/MethodHandle" ∧ yX7_digest.cls ≠ "java/lang/invoke/VarHandle" ∧ (parseMethodDescriptor yX7_digest.desc).map (fun d => d.parameters.length) = some 0 := by decide +kernel
set_option maxHeartbeats 8000000 in
set_option maxRecDepth 100000 in
theorem kX7_digest (l : Launch) (D : va_G) (cy : Nat → ClassId) (ad : Nat → Nat) (c7_lastFound : Int32) (c7_lastAsked : Int32) (c7_found : Nat → Int32) (c4_made : Int32) (c4_kinds : Nat → Int32) (c4_places : Nat → Int32) (c4_rates : Nat → Int32) (c4_readings : Nat → Int32) (c4_bearing : Nat → Int32) (c5_legs : Int32) (c5_length : Int32) (c5_ways : Nat → Int32) (c5_units : Nat → Int32) (c5_stuffOf : Nat → Int32) (c5_point : Nat → Int32) (c6_bytes : Nat → Int32) (c6_sizes : Nat → Int32) (c6_weights : Nat → Int32) (c3_size : Int32) (c3_rates : Nat → Int32) (c0_amounts : Nat → Int32) (c0_lows : Nat → Int32) (c0_highs : Nat → Int32) (c0_barred : Nat → Int32) (c1_lines : Int32) (c1_parts : Int64) (c2_above : Int64) (c2_below : Int64) (N : Nat) {ra : Int64} (hf : fX7_digest N c4_made c4_kinds c4_places c4_rates c4_readings c5_legs c5_length c5_ways c5_units c5_stuffOf c6_bytes c6_sizes c6_weights c3_size c0_amounts c0_lows c0_highs c1_lines = some ra) : CL l D cy yX7_digest wsX7_digest ({ frames := 4, cells := 0, slots := 0, locals := 88 } : Room) [.ref (ad 70)] (w7 cy ad c7_lastFound c7_lastAsked c7_found c4_made c4_kinds c4_places c4_rates c4_readings c4_bearing c5_legs c5_length c5_ways c5_units c5_stuffOf c5_point c6_bytes c6_sizes c6_weights c3_size c3_rates c0_amounts c0_lows c0_highs c0_barred c1_lines c1_parts c2_above c2_below) ra (w7 cy ad c7_lastFound c7_lastAsked c7_found c4_made c4_kinds c4_places c4_rates c4_readings c4_bearing c5_legs c5_length c5_ways c5_units c5_stuffOf c5_point c6_bytes c6_sizes c6_weights c3_size c3_rates c0_amounts c0_lows c0_highs c0_barred c1_lines c1_parts c2_above c2_below) := by
  unfold fX7_digest at hf
  refine c_of_l (own := RX7) (by decide) rfl rfl (Nat.le_of_ble_eq_true rfl) (fun X hC hRet => ?_)
  refine r_sub [(0, .ref (ad 70))] [0] rfl ?_
  have hin7 : ∀ w ∈ wsX70, w ∈ wsX7_digest := fun w h => List.mem_cons_of_mem _ (List.mem_append_left _ (List.mem_append_left _ (List.mem_append_left _ (List.mem_append_left _ (List.mem_append_left _ (List.mem_append_left _ (List.mem_append_right _ h)))))))
  have hw0 : Cond.constantLong RX7 284 (17) ∈ wsX7_digest := List.mem_of_getElem? (i := 1) rfl
  have hw1 : Cond.fieldLink RX7 21 "HotPipes" "run" "LHotPipes$Run;" ∈ wsX7_digest := List.mem_of_getElem? (i := 3) rfl
  have hw2 : Cond.fieldLink RX7 30 "HotPipes" "rests" "LHotPipes$Rests;" ∈ wsX7_digest := List.mem_of_getElem? (i := 4) rfl
  have hw3 : Cond.fieldLink RX7 44 "HotPipes" "cases" "LHotPipes$Cases;" ∈ wsX7_digest := List.mem_of_getElem? (i := 5) rfl
  have hw4 : Cond.fieldLink RX7 10 "HotPipes" "stuffs" "LHotPipes$Stuffs;" ∈ wsX7_digest := List.mem_of_getElem? (i := 6) rfl
  have hw5 : Cond.constantLong RX7 286 (31) ∈ wsX7_digest := List.mem_of_getElem? (i := 2) rfl
  refine r_ldc2 hC hw0 dX7_digest_0 ?_
  refine r_lstore_n hC [(1, .long 17), (0, .ref (ad 70))] dX7_digest_3 rfl (by decide) rfl ?_
  refine r_iconst hC dX7_digest_4 ic_0 ?_
  refine r_istore_n hC [(3, .int 0), (1, .long 17), (0, .ref (ad 70))] dX7_digest_5 rfl (by decide) rfl ?_
  obtain ⟨K30_2, eK30_2, hf⟩ := oj_some hf
  have J30_2 : ∀ (x1 : Int64), K30_2 x1 = some ra → GG X 4 0 0 (w7 cy ad c7_lastFound c7_lastAsked c7_found c4_made c4_kinds c4_places c4_rates c4_readings c4_bearing c5_legs c5_length c5_ways c5_units c5_stuffOf c5_point c6_bytes c6_sizes c6_weights c3_size c3_rates c0_amounts c0_lows c0_highs c0_barred c1_lines c1_parts c2_above c2_below) [(0, .ref (ad 70)), (1, .long x1)] 30 [] := by
    intro x1 hf
    replace hf := oa1 eK30_2 hf
    refine r_aload_n hC dX7_digest_30 rfl 0 rfl ?_
    refine r_get hC hin7 0 rfl rfl 1 (by decide) rfl hw1 rfl dX7_digest_31 ?_
    refine r_lload_n hC dX7_digest_34 rfl 1 rfl ?_
    obtain ⟨r3, h4, hf⟩ := ob_some hf
    refine r_vl (st := []) hC (kX5_mixInto l D cy ad c5_legs c5_length c5_ways c5_units c5_stuffOf c5_point c6_bytes c6_sizes c6_weights x1 N h4) gX7_digest_X5_mixInto rfl ⟨rfl, rfl⟩ ydX5_mixInto ⟨Nat.le_of_ble_eq_true rfl, Nat.le_of_ble_eq_true rfl⟩ ⟨Nat.le_refl 0, Nat.le_refl 0⟩ 0 rfl rfl (v7 cy ad c7_lastFound c7_lastAsked c7_found ++ (v4 cy ad c4_made c4_kinds c4_places c4_rates c4_readings c4_bearing)) (w3 cy ad c3_size c3_rates ++ (w0 cy ad c0_amounts c0_lows c0_highs c0_barred ++ (w1 cy ad c1_lines c1_parts ++ (w2 cy ad c2_above c2_below)))) rfl _ rfl (Nat.le_of_ble_eq_true rfl) dX7_digest_35 (w7 cy ad c7_lastFound c7_lastAsked c7_found c4_made c4_kinds c4_places c4_rates c4_readings c4_bearing c5_legs c5_length c5_ways c5_units c5_stuffOf c5_point c6_bytes c6_sizes c6_weights c3_size c3_rates c0_amounts c0_lows c0_highs c0_barred c1_lines c1_parts c2_above c2_below) rfl ?_
    refine r_lstore_n hC [(1, .long r3), (0, .ref (ad 70))] dX7_digest_38 rfl (by decide) rfl ?_
    refine r_aload_n hC dX7_digest_39 rfl 1 rfl ?_
    refine r_get hC hin7 0 rfl rfl 2 (by decide) rfl hw2 rfl dX7_digest_40 ?_
    refine r_lload_n hC dX7_digest_43 rfl 0 rfl ?_
    obtain ⟨r5, h6, hf⟩ := ob_some hf
    refine r_vl (st := []) hC (kX4_mixInto l D cy ad c4_made c4_kinds c4_places c4_rates c4_readings c4_bearing c5_legs c5_length c5_ways c5_units c5_stuffOf c5_point c6_bytes c6_sizes c6_weights r3 N h6) gX7_digest_X4_mixInto rfl ⟨rfl, rfl⟩ ydX4_mixInto ⟨Nat.le_of_ble_eq_true rfl, Nat.le_of_ble_eq_true rfl⟩ ⟨Nat.le_refl 0, Nat.le_refl 0⟩ 0 rfl rfl (v7 cy ad c7_lastFound c7_lastAsked c7_found) (w3 cy ad c3_size c3_rates ++ (w0 cy ad c0_amounts c0_lows c0_highs c0_barred ++ (w1 cy ad c1_lines c1_parts ++ (w2 cy ad c2_above c2_below)))) rfl _ rfl (Nat.le_of_ble_eq_true rfl) dX7_digest_44 (w7 cy ad c7_lastFound c7_lastAsked c7_found c4_made c4_kinds c4_places c4_rates c4_readings c4_bearing c5_legs c5_length c5_ways c5_units c5_stuffOf c5_point c6_bytes c6_sizes c6_weights c3_size c3_rates c0_amounts c0_lows c0_highs c0_barred c1_lines c1_parts c2_above c2_below) rfl ?_
    refine r_lstore_n hC [(1, .long r5), (0, .ref (ad 70))] dX7_digest_47 rfl (by decide) rfl ?_
    refine r_aload_n hC dX7_digest_48 rfl 1 rfl ?_
    refine r_get hC hin7 0 rfl rfl 4 (by decide) rfl hw3 rfl dX7_digest_49 ?_
    refine r_lload_n hC dX7_digest_52 rfl 0 rfl ?_
    obtain ⟨r7, h8, hf⟩ := ob_some hf
    refine r_vl (st := []) hC (kX0_mixInto l D cy ad c0_amounts c0_lows c0_highs c0_barred r5 N h8) gX7_digest_X0_mixInto rfl ⟨rfl, rfl⟩ ydX0_mixInto ⟨Nat.le_of_ble_eq_true rfl, Nat.le_of_ble_eq_true rfl⟩ ⟨Nat.le_refl 0, Nat.le_refl 0⟩ 0 rfl rfl (v7 cy ad c7_lastFound c7_lastAsked c7_found ++ (w4 cy ad c4_made c4_kinds c4_places c4_rates c4_readings c4_bearing c5_legs c5_length c5_ways c5_units c5_stuffOf c5_point c6_bytes c6_sizes c6_weights ++ (w3 cy ad c3_size c3_rates))) (w1 cy ad c1_lines c1_parts ++ (w2 cy ad c2_above c2_below)) rfl _ rfl (Nat.le_of_ble_eq_true rfl) dX7_digest_53 (w7 cy ad c7_lastFound c7_lastAsked c7_found c4_made c4_kinds c4_places c4_rates c4_readings c4_bearing c5_legs c5_length c5_ways c5_units c5_stuffOf c5_point c6_bytes c6_sizes c6_weights c3_size c3_rates c0_amounts c0_lows c0_highs c0_barred c1_lines c1_parts c2_above c2_below) rfl ?_
    refine r_lstore_n hC [(1, .long r7), (0, .ref (ad 70))] dX7_digest_56 rfl (by decide) rfl ?_
    refine r_aload_n hC dX7_digest_57 rfl 1 rfl ?_
    refine r_get hC hin7 0 rfl rfl 0 (by decide) rfl hw4 rfl dX7_digest_58 ?_
    refine r_lload_n hC dX7_digest_61 rfl 0 rfl ?_
    obtain ⟨r9, h10, hf⟩ := ob_some hf
    refine r_vl (st := []) hC (kX6_mixInto l D cy ad c6_bytes c6_sizes c6_weights r7 N h10) gX7_digest_X6_mixInto rfl ⟨rfl, rfl⟩ ydX6_mixInto ⟨Nat.le_of_ble_eq_true rfl, Nat.le_of_ble_eq_true rfl⟩ ⟨Nat.le_refl 0, Nat.le_refl 0⟩ 0 rfl rfl (v7 cy ad c7_lastFound c7_lastAsked c7_found ++ (v4 cy ad c4_made c4_kinds c4_places c4_rates c4_readings c4_bearing ++ (v5 cy ad c5_legs c5_length c5_ways c5_units c5_stuffOf c5_point))) (w3 cy ad c3_size c3_rates ++ (w0 cy ad c0_amounts c0_lows c0_highs c0_barred ++ (w1 cy ad c1_lines c1_parts ++ (w2 cy ad c2_above c2_below)))) rfl _ rfl (Nat.le_of_ble_eq_true rfl) dX7_digest_62 (w7 cy ad c7_lastFound c7_lastAsked c7_found c4_made c4_kinds c4_places c4_rates c4_readings c4_bearing c5_legs c5_length c5_ways c5_units c5_stuffOf c5_point c6_bytes c6_sizes c6_weights c3_size c3_rates c0_amounts c0_lows c0_highs c0_barred c1_lines c1_parts c2_above c2_below) rfl ?_
    obtain rfl := so_1 hf
    exact hRet _ _ _ dX7_digest_65
  have L6 : ∀ (n : Nat) (x11 : Int64) (x12 : Int32), fX7_digest_L6 N c4_made c4_kinds c5_legs c5_length c3_size c1_lines K30_2 n x11 x12 = some ra → GG X 4 0 0 (w7 cy ad c7_lastFound c7_lastAsked c7_found c4_made c4_kinds c4_places c4_rates c4_readings c4_bearing c5_legs c5_length c5_ways c5_units c5_stuffOf c5_point c6_bytes c6_sizes c6_weights c3_size c3_rates c0_amounts c0_lows c0_highs c0_barred c1_lines c1_parts c2_above c2_below) [(0, .ref (ad 70)), (1, .long x11), (3, .int x12)] 6 [] := by
    intro n
    induction n with
    | zero => intro x11 x12 hf; cases (show none = some _ from hf)
    | succ n ih =>
      intro x11 x12 hf
      rw [fX7_digest_L6] at hf
      refine r_iload_n hC dX7_digest_6 rfl 2 rfl ?_
      refine r_iconst hC dX7_digest_7 ic_5 ?_
      refine r_icmp_gt (tgt := 30) hC dX7_digest_8 (by decide) (fun c13 => ?_) (fun c13 => ?_)
      · replace hf := o_pos hf c13
        refine r_sub [(0, .ref (ad 70)), (1, .long x11)] [0, 1] rfl ?_
        exact J30_2 x11 hf
      · replace hf := o_neg hf c13
        refine r_ldc2 hC hw5 dX7_digest_11 ?_
        refine r_lload_n hC dX7_digest_14 rfl 1 rfl ?_
        refine r_lmul hC dX7_digest_15 ?_
        refine r_aload_n hC dX7_digest_16 rfl 0 rfl ?_
        refine r_iload_n hC dX7_digest_17 rfl 2 rfl ?_
        obtain ⟨r14, h15, hf⟩ := ob_some hf
        refine r_vi (st := [.long (31 * x11)]) hC (kX7_count l D cy ad c7_lastFound c7_lastAsked c7_found c4_made c4_kinds c4_places c4_rates c4_readings c4_bearing c5_legs c5_length c5_ways c5_units c5_stuffOf c5_point c6_bytes c6_sizes c6_weights c3_size c3_rates c0_amounts c0_lows c0_highs c0_barred c1_lines c1_parts c2_above c2_below x12 N h15) gX7_digest_X7_count rfl ⟨rfl, rfl⟩ ydX7_count ⟨Nat.le_of_ble_eq_true rfl, Nat.le_of_ble_eq_true rfl⟩ ⟨Nat.le_refl 0, Nat.le_refl 0⟩ 0 rfl rfl [] [] rfl _ rfl (Nat.le_of_ble_eq_true rfl) dX7_digest_18 (w7 cy ad c7_lastFound c7_lastAsked c7_found c4_made c4_kinds c4_places c4_rates c4_readings c4_bearing c5_legs c5_length c5_ways c5_units c5_stuffOf c5_point c6_bytes c6_sizes c6_weights c3_size c3_rates c0_amounts c0_lows c0_highs c0_barred c1_lines c1_parts c2_above c2_below) rfl ?_
        refine r_i2l hC dX7_digest_21 ?_
        refine r_ladd hC dX7_digest_22 ?_
        refine r_topl (fun x16 ex16 => ?_)
        replace hf := olet_some hf ex16
        refine r_lstore_n hC [(1, .long x16), (0, .ref (ad 70)), (3, .int x12)] dX7_digest_23 rfl (by decide) rfl ?_
        refine r_iinc hC [(3, .int (x12 + 1)), (1, .long x16), (0, .ref (ad 70))] (x12 + 1) dX7_digest_24 2 rfl (ii_1 _) (by decide) rfl ?_
        refine r_goto (tgt := 6) hC dX7_digest_27 (by decide) ?_
        refine r_sub [(0, .ref (ad 70)), (1, .long x16), (3, .int (x12 + 1))] [2, 1, 0] rfl ?_
        exact ih x16 (x12 + 1) hf
  refine r_sub [(0, .ref (ad 70)), (1, .long 17), (3, .int 0)] [2, 1, 0] rfl ?_
  exact L6 N 17 0 hf
