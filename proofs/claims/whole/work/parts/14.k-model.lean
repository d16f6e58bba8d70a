noncomputable def fX8_in (p1 : Int32) (p2 : Int32) (p3 : Int32) : Option (Int32) := oj (some 0) (fun (K14_1 : Option (Int32)) => (if p1 < p2 then K14_1 else (if p3 < p1 then K14_1 else some 1)))
theorem ydX8_in : yX8_in.cls ≠ "java/lang/invoke/MethodHandle" ∧ yX8_in.cls ≠ "java/lang/invoke/VarHandle" ∧ (parseMethodDescriptor yX8_in.desc).map (fun d => d.parameters.length) = some 3 := by decide +kernel
set_option maxHeartbeats 8000000 in
set_option maxRecDepth 100000 in
theorem kX8_in (l : Launch) (D : va_G) (cy : Nat → ClassId) (p1 : Int32) (p2 : Int32) (p3 : Int32) {ra : Int32} (hf : fX8_in p1 p2 p3 = some ra) : CI l D cy yX8_in wsX8_in ({ frames := 0, cells := 0, slots := 0, locals := 0 } : Room) [.int p1, .int p2, .int p3] [] ra [] := by
  unfold fX8_in at hf
  refine c_of_i (ty := .boolean) (own := RX8) (by decide) rfl rfl (Nat.le_of_ble_eq_true rfl) (fun X hC hRet => ?_)
  refine r_sub [(0, .int p1), (1, .int p2), (2, .int p3)] [0, 1, 2] rfl ?_
  refine r_iload_n hC dX8_in_0 rfl 0 rfl ?_
  refine r_iload_n hC dX8_in_1 rfl 1 rfl ?_
  obtain ⟨K14_1, eK14_1, hf⟩ := oj_some hf
  have J14_1 : K14_1 = some ra → GG X 3 0 0 [] [] 14 [] := by
    intro hf
    replace hf := oa0 eK14_1 hf
    refine r_iconst hC dX8_in_14 ic_0 ?_
    obtain rfl := so_1 hf
    exact hRet _ _ _ dX8_in_15 nb_0
  refine r_icmp_lt (tgt := 14) hC dX8_in_2 (by decide) (fun c2 => ?_) (fun c2 => ?_)
  · replace hf := o_pos hf c2
    refine r_sub [] [] rfl ?_
    exact J14_1 hf
  · replace hf := o_neg hf c2
    refine r_iload_n hC dX8_in_5 rfl 0 rfl ?_
    refine r_iload_n hC dX8_in_6 rfl 2 rfl ?_
    refine r_icmp_gt (tgt := 14) hC dX8_in_7 (by decide) (fun c3 => ?_) (fun c3 => ?_)
    · replace hf := o_pos hf c3
      refine r_sub [] [] rfl ?_
      exact J14_1 hf
    · replace hf := o_neg hf c3
      refine r_iconst hC dX8_in_10 ic_1 ?_
      refine r_goto (tgt := 15) hC dX8_in_11 (by decide) ?_
      obtain rfl := so_1 hf
      exact hRet _ _ _ dX8_in_15 nb_1
noncomputable def fX8_meets (c8_latest : Int32) (c8_came : Nat → Int32) (p1 : Int32) : Option (Int32 × Int32 × (Nat → Int32)) := og (vp_in p1 6) (og (vp_in p1 6) (some ((-3), p1, (upd c8_came (Int32.toNatClampNeg p1) ((c8_came (Int32.toNatClampNeg p1)) + 1)))))
theorem ydX8_meets : yX8_meets.cls = RX8 ∧ yX8_meets.cls ≠ "java/lang/invoke/MethodHandle" ∧ yX8_meets.cls ≠ "java/lang/invoke/VarHandle" ∧ (parseMethodDescriptor yX8_meets.desc).map (fun d => d.parameters.length) = some 1 := by decide +kernel
set_option maxHeartbeats 8000000 in
set_option maxRecDepth 100000 in
theorem kX8_meets (l : Launch) (D : va_G) (cy : Nat → ClassId) (ad : Nat → Nat) (c8_latest : Int32) (c8_asked : Int32) (c8_upper : Int64) (c8_lower : Int64) (c8_legs : Int32) (c8_units : Int32) (c8_rests : Int32) (c8_rates : Int32) (c8_lines : Int32) (c8_came : Nat → Int32) (c8_sizes : Nat → Int32) (c8_weights : Nat → Int32) (c8_growths : Nat → Int32) (c8_copied : Nat → Int32) (c8_legWay : Nat → Int32) (c8_legUnits : Nat → Int32) (c8_legStuff : Nat → Int32) (c8_unitWay : Nat → Int32) (c8_unitStuff : Nat → Int32) (c8_xs : Nat → Int32) (c8_ys : Nat → Int32) (c8_zs : Nat → Int32) (c8_kindOf : Nat → Int32) (c8_placeOf : Nat → Int32) (c8_rateOf : Nat → Int32) (c8_readOf : Nat → Int32) (c8_isGone : Nat → Int32) (c8_theList : Nat → Int32) (c8_amounts : Nat → Int32) (c8_low : Nat → Int32) (c8_high : Nat → Int32) (c8_barred : Nat → Int32) (c8_times : Nat → Int32) (c8_ranges : Nat → Int32) (p1 : Int32) {ra : Int32} {z8_latest : Int32} {z8_came : Nat → Int32} (hf : fX8_meets c8_latest c8_came p1 = some (ra, z8_latest, z8_came)) : CI l D cy yX8_meets wsX8_meets ({ frames := 0, cells := 0, slots := 0, locals := 0 } : Room) [.ref (ad 80), .int p1] (w8 cy ad c8_latest c8_asked c8_upper c8_lower c8_legs c8_units c8_rests c8_rates c8_lines c8_came c8_sizes c8_weights c8_growths c8_copied c8_legWay c8_legUnits c8_legStuff c8_unitWay c8_unitStuff c8_xs c8_ys c8_zs c8_kindOf c8_placeOf c8_rateOf c8_readOf c8_isGone c8_theList c8_amounts c8_low c8_high c8_barred c8_times c8_ranges) ra (w8 cy ad z8_latest c8_asked c8_upper c8_lower c8_legs c8_units c8_rests c8_rates c8_lines z8_came c8_sizes c8_weights c8_growths c8_copied c8_legWay c8_legUnits c8_legStuff c8_unitWay c8_unitStuff c8_xs c8_ys c8_zs c8_kindOf c8_placeOf c8_rateOf c8_readOf c8_isGone c8_theList c8_amounts c8_low c8_high c8_barred c8_times c8_ranges) := by
  unfold fX8_meets at hf
  refine c_of_i (ty := .int) (own := RX8) (by decide) rfl rfl (Nat.le_of_ble_eq_true rfl) (fun X hC hRet => ?_)
  refine r_sub [(0, .ref (ad 80)), (1, .int p1)] [0, 1] rfl ?_
  have hin8 : ∀ w ∈ wsX80, w ∈ wsX8_meets := fun w h => List.mem_cons_of_mem _ (List.mem_append_right _ h)
  have hw0 : Cond.fieldLink RX8 91 "HotPipesModel" "latest" "I" ∈ wsX8_meets := List.mem_of_getElem? (i := 1) rfl
  have hw1 : Cond.fieldLink RX8 7 "HotPipesModel" "came" "[I" ∈ wsX8_meets := List.mem_of_getElem? (i := 2) rfl
  refine r_aload_n hC dX8_meets_0 rfl 0 rfl ?_
  refine r_iload_n hC dX8_meets_1 rfl 1 rfl ?_
  refine r_put (ty := .int) hC hin8 tyX8_ok nmX8 0 rfl rfl 0 (by decide) rfl hw0 rfl rfl rfl rfl (Nat.le_of_ble_eq_true rfl) dX8_meets_2 (w8 cy ad p1 c8_asked c8_upper c8_lower c8_legs c8_units c8_rests c8_rates c8_lines c8_came c8_sizes c8_weights c8_growths c8_copied c8_legWay c8_legUnits c8_legStuff c8_unitWay c8_unitStuff c8_xs c8_ys c8_zs c8_kindOf c8_placeOf c8_rateOf c8_readOf c8_isGone c8_theList c8_amounts c8_low c8_high c8_barred c8_times c8_ranges) rfl ?_
  refine r_aload_n hC dX8_meets_5 rfl 0 rfl ?_
  refine r_get hC hin8 0 rfl rfl 1 (by decide) rfl hw1 rfl dX8_meets_6 ?_
  refine r_iload_n hC dX8_meets_9 rfl 1 rfl ?_
  refine r_dup2 hC dX8_meets_10 rfl rfl ?_
  obtain ⟨g1, hf⟩ := og_some hf
  refine r_iald hC 1 rfl g1 dX8_meets_11 ?_
  refine r_iconst hC dX8_meets_12 ic_1 ?_
  refine r_iadd hC dX8_meets_13 ?_
  obtain ⟨g2, hf⟩ := og_some hf
  refine r_iast hC 1 rfl g2 dX8_meets_14 (w8 cy ad p1 c8_asked c8_upper c8_lower c8_legs c8_units c8_rests c8_rates c8_lines (upd c8_came (Int32.toNatClampNeg p1) ((c8_came (Int32.toNatClampNeg p1)) + 1)) c8_sizes c8_weights c8_growths c8_copied c8_legWay c8_legUnits c8_legStuff c8_unitWay c8_unitStuff c8_xs c8_ys c8_zs c8_kindOf c8_placeOf c8_rateOf c8_readOf c8_isGone c8_theList c8_amounts c8_low c8_high c8_barred c8_times c8_ranges) rfl ?_
  refine r_bipush hC dX8_meets_15 bp_m3 ?_
  obtain ⟨rfl, rfl, rfl⟩ := so_3 hf
  exact hRet _ _ _ dX8_meets_17 rfl
noncomputable def fX8_finding (c8_latest : Int32) : Option (Int32) := some c8_latest
theorem ydX8_finding : yX8_finding.cls = RX8 ∧ yX8_finding.cls ≠ "java/lang/invoke/MethodHandle" ∧ yX8_finding.cls ≠ "java/lang/invoke/VarHandle" ∧ (parseMethodDescriptor yX8_finding.desc).map (fun d => d.parameters.length) = some 0 := by decide +kernel
set_option maxHeartbeats 8000000 in
set_option maxRecDepth 100000 in
theorem kX8_finding (l : Launch) (D : va_G) (cy : Nat → ClassId) (ad : Nat → Nat) (c8_latest : Int32) (c8_asked : Int32) (c8_upper : Int64) (c8_lower : Int64) (c8_legs : Int32) (c8_units : Int32) (c8_rests : Int32) (c8_rates : Int32) (c8_lines : Int32) (c8_came : Nat → Int32) (c8_sizes : Nat → Int32) (c8_weights : Nat → Int32) (c8_growths : Nat → Int32) (c8_copied : Nat → Int32) (c8_legWay : Nat → Int32) (c8_legUnits : Nat → Int32) (c8_legStuff : Nat → Int32) (c8_unitWay : Nat → Int32) (c8_unitStuff : Nat → Int32) (c8_xs : Nat → Int32) (c8_ys : Nat → Int32) (c8_zs : Nat → Int32) (c8_kindOf : Nat → Int32) (c8_placeOf : Nat → Int32) (c8_rateOf : Nat → Int32) (c8_readOf : Nat → Int32) (c8_isGone : Nat → Int32) (c8_theList : Nat → Int32) (c8_amounts : Nat → Int32) (c8_low : Nat → Int32) (c8_high : Nat → Int32) (c8_barred : Nat → Int32) (c8_times : Nat → Int32) (c8_ranges : Nat → Int32) {ra : Int32} (hf : fX8_finding c8_latest = some ra) : CI l D cy yX8_finding wsX8_finding ({ frames := 0, cells := 0, slots := 0, locals := 0 } : Room) [.ref (ad 80)] (w8 cy ad c8_latest c8_asked c8_upper c8_lower c8_legs c8_units c8_rests c8_rates c8_lines c8_came c8_sizes c8_weights c8_growths c8_copied c8_legWay c8_legUnits c8_legStuff c8_unitWay c8_unitStuff c8_xs c8_ys c8_zs c8_kindOf c8_placeOf c8_rateOf c8_readOf c8_isGone c8_theList c8_amounts c8_low c8_high c8_barred c8_times c8_ranges) ra (w8 cy ad c8_latest c8_asked c8_upper c8_lower c8_legs c8_units c8_rests c8_rates c8_lines c8_came c8_sizes c8_weights c8_growths c8_copied c8_legWay c8_legUnits c8_legStuff c8_unitWay c8_unitStuff c8_xs c8_ys c8_zs c8_kindOf c8_placeOf c8_rateOf c8_readOf c8_isGone c8_theList c8_amounts c8_low c8_high c8_barred c8_times c8_ranges) := by
  unfold fX8_finding at hf
  refine c_of_i (ty := .int) (own := RX8) (by decide) rfl rfl (Nat.le_of_ble_eq_true rfl) (fun X hC hRet => ?_)
  refine r_sub [(0, .ref (ad 80))] [0] rfl ?_
  have hin8 : ∀ w ∈ wsX80, w ∈ wsX8_finding := fun w h => List.mem_cons_of_mem _ (List.mem_append_right _ h)
  have hw0 : Cond.fieldLink RX8 91 "HotPipesModel" "latest" "I" ∈ wsX8_finding := List.mem_of_getElem? (i := 1) rfl
  refine r_aload_n hC dX8_finding_0 rfl 0 rfl ?_
  refine r_get hC hin8 0 rfl rfl 0 (by decide) rfl hw0 rfl dX8_finding_1 ?_
  obtain rfl := so_1 hf
  exact hRet _ _ _ dX8_finding_4 rfl
noncomputable def fX8_findings (c8_came : Nat → Int32) (p1 : Int32) : Option (Int32) := ob (fX8_in p1 1 5) (fun (r1 : Int32) => (if r1 = 0 then some (-1) else og (vp_in p1 6) (some (c8_came (Int32.toNatClampNeg p1)))))
theorem ydX8_findings : yX8_findings.cls = RX8 ∧ yX8_findings.cls ≠ "java/lang/invoke/MethodHandle" ∧ yX8_findings.cls ≠ "java/lang/invoke/VarHandle" ∧ (parseMethodDescriptor yX8_findings.desc).map (fun d => d.parameters.length) = some 1 := by decide +kernel
set_option maxHeartbeats 8000000 in
set_option maxRecDepth 100000 in
theorem kX8_findings (l : Launch) (D : va_G) (cy : Nat → ClassId) (ad : Nat → Nat) (c8_latest : Int32) (c8_asked : Int32) (c8_upper : Int64) (c8_lower : Int64) (c8_legs : Int32) (c8_units : Int32) (c8_rests : Int32) (c8_rates : Int32) (c8_lines : Int32) (c8_came : Nat → Int32) (c8_sizes : Nat → Int32) (c8_weights : Nat → Int32) (c8_growths : Nat → Int32) (c8_copied : Nat → Int32) (c8_legWay : Nat → Int32) (c8_legUnits : Nat → Int32) (c8_legStuff : Nat → Int32) (c8_unitWay : Nat → Int32) (c8_unitStuff : Nat → Int32) (c8_xs : Nat → Int32) (c8_ys : Nat → Int32) (c8_zs : Nat → Int32) (c8_kindOf : Nat → Int32) (c8_placeOf : Nat → Int32) (c8_rateOf : Nat → Int32) (c8_readOf : Nat → Int32) (c8_isGone : Nat → Int32) (c8_theList : Nat → Int32) (c8_amounts : Nat → Int32) (c8_low : Nat → Int32) (c8_high : Nat → Int32) (c8_barred : Nat → Int32) (c8_times : Nat → Int32) (c8_ranges : Nat → Int32) (p1 : Int32) {ra : Int32} (hf : fX8_findings c8_came p1 = some ra) : CI l D cy yX8_findings wsX8_findings ({ frames := 1, cells := 0, slots := 0, locals := 22 } : Room) [.ref (ad 80), .int p1] (w8 cy ad c8_latest c8_asked c8_upper c8_lower c8_legs c8_units c8_rests c8_rates c8_lines c8_came c8_sizes c8_weights c8_growths c8_copied c8_legWay c8_legUnits c8_legStuff c8_unitWay c8_unitStuff c8_xs c8_ys c8_zs c8_kindOf c8_placeOf c8_rateOf c8_readOf c8_isGone c8_theList c8_amounts c8_low c8_high c8_barred c8_times c8_ranges) ra (w8 cy ad c8_latest c8_asked c8_upper c8_lower c8_legs c8_units c8_rests c8_rates c8_lines c8_came c8_sizes c8_weights c8_growths c8_copied c8_legWay c8_legUnits c8_legStuff c8_unitWay c8_unitStuff c8_xs c8_ys c8_zs c8_kindOf c8_placeOf c8_rateOf c8_readOf c8_isGone c8_theList c8_amounts c8_low c8_high c8_barred c8_times c8_ranges) := by
  unfold fX8_findings at hf
  refine c_of_i (ty := .int) (own := RX8) (by decide) rfl rfl (Nat.le_of_ble_eq_true rfl) (fun X hC hRet => ?_)
  refine r_sub [(0, .ref (ad 80)), (1, .int p1)] [0, 1] rfl ?_
  have hin8 : ∀ w ∈ wsX80, w ∈ wsX8_findings := fun w h => List.mem_cons_of_mem _ (List.mem_append_right _ h)
  have hw0 : Cond.fieldLink RX8 7 "HotPipesModel" "came" "[I" ∈ wsX8_findings := List.mem_of_getElem? (i := 1) rfl
  refine r_iload_n hC dX8_findings_0 rfl 1 rfl ?_
  refine r_iconst hC dX8_findings_1 ic_1 ?_
  refine r_iconst hC dX8_findings_2 ic_5 ?_
  obtain ⟨r1, h2, hf⟩ := ob_some hf
  refine r_si (st := []) hC (kX8_in l D cy p1 1 5 h2) gX8_findings_X8_in rfl ⟨rfl, rfl⟩ ydX8_in ⟨Nat.le_of_ble_eq_true rfl, Nat.le_of_ble_eq_true rfl⟩ ⟨Nat.le_refl 0, Nat.le_refl 0⟩ _ rfl (Nat.le_of_ble_eq_true rfl) dX8_findings_3 ?_
  refine r_if_eq (tgt := 18) hC dX8_findings_6 (by decide) (fun c3 => ?_) (fun c3 => ?_)
  · replace hf := o_pos hf c3
    refine r_iconst hC dX8_findings_18 ic_m1 ?_
    obtain rfl := so_1 hf
    exact hRet _ _ _ dX8_findings_19 rfl
  · replace hf := o_neg hf c3
    refine r_aload_n hC dX8_findings_9 rfl 0 rfl ?_
    refine r_get hC hin8 0 rfl rfl 1 (by decide) rfl hw0 rfl dX8_findings_10 ?_
    refine r_iload_n hC dX8_findings_13 rfl 1 rfl ?_
    obtain ⟨g4, hf⟩ := og_some hf
    refine r_iald hC 1 rfl g4 dX8_findings_14 ?_
    refine r_goto (tgt := 19) hC dX8_findings_15 (by decide) ?_
    obtain rfl := so_1 hf
    exact hRet _ _ _ dX8_findings_19 rfl
noncomputable def fX8_tells (c8_asked : Int32) (p1 : Int32) (p2 : Int32) : Option (Int32 × Int32) := some (p2, p1)
theorem ydX8_tells : yX8_tells.cls = RX8 ∧ yX8_tells.cls ≠ "java/lang/invoke/MethodHandle" ∧ yX8_tells.cls ≠ "java/lang/invoke/VarHandle" ∧ (parseMethodDescriptor yX8_tells.desc).map (fun d => d.parameters.length) = some 2 := by decide +kernel
set_option maxHeartbeats 8000000 in
set_option maxRecDepth 100000 in
theorem kX8_tells (l : Launch) (D : va_G) (cy : Nat → ClassId) (ad : Nat → Nat) (c8_latest : Int32) (c8_asked : Int32) (c8_upper : Int64) (c8_lower : Int64) (c8_legs : Int32) (c8_units : Int32) (c8_rests : Int32) (c8_rates : Int32) (c8_lines : Int32) (c8_came : Nat → Int32) (c8_sizes : Nat → Int32) (c8_weights : Nat → Int32) (c8_growths : Nat → Int32) (c8_copied : Nat → Int32) (c8_legWay : Nat → Int32) (c8_legUnits : Nat → Int32) (c8_legStuff : Nat → Int32) (c8_unitWay : Nat → Int32) (c8_unitStuff : Nat → Int32) (c8_xs : Nat → Int32) (c8_ys : Nat → Int32) (c8_zs : Nat → Int32) (c8_kindOf : Nat → Int32) (c8_placeOf : Nat → Int32) (c8_rateOf : Nat → Int32) (c8_readOf : Nat → Int32) (c8_isGone : Nat → Int32) (c8_theList : Nat → Int32) (c8_amounts : Nat → Int32) (c8_low : Nat → Int32) (c8_high : Nat → Int32) (c8_barred : Nat → Int32) (c8_times : Nat → Int32) (c8_ranges : Nat → Int32) (p1 : Int32) (p2 : Int32) {ra : Int32} {z8_asked : Int32} (hf : fX8_tells c8_asked p1 p2 = some (ra, z8_asked)) : CI l D cy yX8_tells wsX8_tells ({ frames := 0, cells := 0, slots := 0, locals := 0 } : Room) [.ref (ad 80), .int p1, .int p2] (w8 cy ad c8_latest c8_asked c8_upper c8_lower c8_legs c8_units c8_rests c8_rates c8_lines c8_came c8_sizes c8_weights c8_growths c8_copied c8_legWay c8_legUnits c8_legStuff c8_unitWay c8_unitStuff c8_xs c8_ys c8_zs c8_kindOf c8_placeOf c8_rateOf c8_readOf c8_isGone c8_theList c8_amounts c8_low c8_high c8_barred c8_times c8_ranges) ra (w8 cy ad c8_latest z8_asked c8_upper c8_lower c8_legs c8_units c8_rests c8_rates c8_lines c8_came c8_sizes c8_weights c8_growths c8_copied c8_legWay c8_legUnits c8_legStuff c8_unitWay c8_unitStuff c8_xs c8_ys c8_zs c8_kindOf c8_placeOf c8_rateOf c8_readOf c8_isGone c8_theList c8_amounts c8_low c8_high c8_barred c8_times c8_ranges) := by
  unfold fX8_tells at hf
  refine c_of_i (ty := .int) (own := RX8) (by decide) rfl rfl (Nat.le_of_ble_eq_true rfl) (fun X hC hRet => ?_)
  refine r_sub [(0, .ref (ad 80)), (1, .int p1), (2, .int p2)] [0, 1, 2] rfl ?_
  have hin8 : ∀ w ∈ wsX80, w ∈ wsX8_tells := fun w h => List.mem_cons_of_mem _ (List.mem_append_right _ h)
  have hw0 : Cond.fieldLink RX8 99 "HotPipesModel" "asked" "I" ∈ wsX8_tells := List.mem_of_getElem? (i := 1) rfl
  refine r_aload_n hC dX8_tells_0 rfl 0 rfl ?_
  refine r_iload_n hC dX8_tells_1 rfl 1 rfl ?_
  refine r_put (ty := .int) hC hin8 tyX8_ok nmX8 0 rfl rfl 2 (by decide) rfl hw0 rfl rfl rfl rfl (Nat.le_of_ble_eq_true rfl) dX8_tells_2 (w8 cy ad c8_latest p1 c8_upper c8_lower c8_legs c8_units c8_rests c8_rates c8_lines c8_came c8_sizes c8_weights c8_growths c8_copied c8_legWay c8_legUnits c8_legStuff c8_unitWay c8_unitStuff c8_xs c8_ys c8_zs c8_kindOf c8_placeOf c8_rateOf c8_readOf c8_isGone c8_theList c8_amounts c8_low c8_high c8_barred c8_times c8_ranges) rfl ?_
  refine r_iload_n hC dX8_tells_5 rfl 2 rfl ?_
  obtain ⟨rfl, rfl⟩ := so_2 hf
  exact hRet _ _ _ dX8_tells_6 rfl
noncomputable def fX8_asked (c8_asked : Int32) : Option (Int32) := some c8_asked
theorem ydX8_asked : yX8_asked.cls = RX8 ∧ yX8_asked.cls ≠ "java/lang/invoke/MethodHandle" ∧ yX8_asked.cls ≠ "java/lang/invoke/VarHandle" ∧ (parseMethodDescriptor yX8_asked.desc).map (fun d => d.parameters.length) = some 0 := by decide +kernel
set_option maxHeartbeats 8000000 in
set_option maxRecDepth 100000 in
theorem kX8_asked (l : Launch) (D : va_G) (cy : Nat → ClassId) (ad : Nat → Nat) (c8_latest : Int32) (c8_asked : Int32) (c8_upper : Int64) (c8_lower : Int64) (c8_legs : Int32) (c8_units : Int32) (c8_rests : Int32) (c8_rates : Int32) (c8_lines : Int32) (c8_came : Nat → Int32) (c8_sizes : Nat → Int32) (c8_weights : Nat → Int32) (c8_growths : Nat → Int32) (c8_copied : Nat → Int32) (c8_legWay : Nat → Int32) (c8_legUnits : Nat → Int32) (c8_legStuff : Nat → Int32) (c8_unitWay : Nat → Int32) (c8_unitStuff : Nat → Int32) (c8_xs : Nat → Int32) (c8_ys : Nat → Int32) (c8_zs : Nat → Int32) (c8_kindOf : Nat → Int32) (c8_placeOf : Nat → Int32) (c8_rateOf : Nat → Int32) (c8_readOf : Nat → Int32) (c8_isGone : Nat → Int32) (c8_theList : Nat → Int32) (c8_amounts : Nat → Int32) (c8_low : Nat → Int32) (c8_high : Nat → Int32) (c8_barred : Nat → Int32) (c8_times : Nat → Int32) (c8_ranges : Nat → Int32) {ra : Int32} (hf : fX8_asked c8_asked = some ra) : CI l D cy yX8_asked wsX8_asked ({ frames := 0, cells := 0, slots := 0, locals := 0 } : Room) [.ref (ad 80)] (w8 cy ad c8_latest c8_asked c8_upper c8_lower c8_legs c8_units c8_rests c8_rates c8_lines c8_came c8_sizes c8_weights c8_growths c8_copied c8_legWay c8_legUnits c8_legStuff c8_unitWay c8_unitStuff c8_xs c8_ys c8_zs c8_kindOf c8_placeOf c8_rateOf c8_readOf c8_isGone c8_theList c8_amounts c8_low c8_high c8_barred c8_times c8_ranges) ra (w8 cy ad c8_latest c8_asked c8_upper c8_lower c8_legs c8_units c8_rests c8_rates c8_lines c8_came c8_sizes c8_weights c8_growths c8_copied c8_legWay c8_legUnits c8_legStuff c8_unitWay c8_unitStuff c8_xs c8_ys c8_zs c8_kindOf c8_placeOf c8_rateOf c8_readOf c8_isGone c8_theList c8_amounts c8_low c8_high c8_barred c8_times c8_ranges) := by
  unfold fX8_asked at hf
  refine c_of_i (ty := .int) (own := RX8) (by decide) rfl rfl (Nat.le_of_ble_eq_true rfl) (fun X hC hRet => ?_)
  refine r_sub [(0, .ref (ad 80))] [0] rfl ?_
  have hin8 : ∀ w ∈ wsX80, w ∈ wsX8_asked := fun w h => List.mem_cons_of_mem _ (List.mem_append_right _ h)
  have hw0 : Cond.fieldLink RX8 99 "HotPipesModel" "asked" "I" ∈ wsX8_asked := List.mem_of_getElem? (i := 1) rfl
  refine r_aload_n hC dX8_asked_0 rfl 0 rfl ?_
  refine r_get hC hin8 0 rfl rfl 2 (by decide) rfl hw0 rfl dX8_asked_1 ?_
  obtain rfl := so_1 hf
  exact hRet _ _ _ dX8_asked_4 rfl
noncomputable def fX8_fraction_L6 (K31_2 : Int64 → Option (Int32 × Int64 × Int64)) : Nat → Int64 → Int64 → Option (Int32 × Int64 × Int64)
  | 0, _, _ => none
  | n + 1, x5, x6 => (if (lg_cmp x6 0) = 0 then K31_2 x5 else og (¬ x6 = 0) (olet (x5 - x5 / x6 * x6) (fun (x9 : Int64) => fX8_fraction_L6 K31_2 n x6 x9)))
noncomputable def fX8_fraction (N : Nat) (c8_upper : Int64) (c8_lower : Int64) (p1 : Int64) (p2 : Int64) (p3 : Int32) : Option (Int32 × Int64 × Int64) := oj (fun (x1 : Int64) => og (¬ x1 = 0) (og (¬ x1 = 0) (some (p3, (p1 / x1), (p2 / x1))))) (fun (K31_2 : Int64 → Option (Int32 × Int64 × Int64)) => fX8_fraction_L6 K31_2 N p1 p2)
theorem ydX8_fraction : yX8_fraction.cls = RX8 ∧ yX8_fraction.cls ≠ "java/lang/invoke/MethodHandle" ∧ yX8_fraction.cls ≠ "java/lang/invoke/VarHandle" ∧ (parseMethodDescriptor yX8_fraction.desc).map (fun d => d.parameters.length) = some 3 := by decide +kernel
set_option maxHeartbeats 8000000 in
set_option maxRecDepth 100000 in
theorem kX8_fraction (l : Launch) (D : va_G) (cy : Nat → ClassId) (ad : Nat → Nat) (c8_latest : Int32) (c8_asked : Int32) (c8_upper : Int64) (c8_lower : Int64) (c8_legs : Int32) (c8_units : Int32) (c8_rests : Int32) (c8_rates : Int32) (c8_lines : Int32) (c8_came : Nat → Int32) (c8_sizes : Nat → Int32) (c8_weights : Nat → Int32) (c8_growths : Nat → Int32) (c8_copied : Nat → Int32) (c8_legWay : Nat → Int32) (c8_legUnits : Nat → Int32) (c8_legStuff : Nat → Int32) (c8_unitWay : Nat → Int32) (c8_unitStuff : Nat → Int32) (c8_xs : Nat → Int32) (c8_ys : Nat → Int32) (c8_zs : Nat → Int32) (c8_kindOf : Nat → Int32) (c8_placeOf : Nat → Int32) (c8_rateOf : Nat → Int32) (c8_readOf : Nat → Int32) (c8_isGone : Nat → Int32) (c8_theList : Nat → Int32) (c8_amounts : Nat → Int32) (c8_low : Nat → Int32) (c8_high : Nat → Int32) (c8_barred : Nat → Int32) (c8_times : Nat → Int32) (c8_ranges : Nat → Int32) (p1 : Int64) (p2 : Int64) (p3 : Int32) (N : Nat) {ra : Int32} {z8_upper : Int64} {z8_lower : Int64} (hf : fX8_fraction N c8_upper c8_lower p1 p2 p3 = some (ra, z8_upper, z8_lower)) : CI l D cy yX8_fraction wsX8_fraction ({ frames := 0, cells := 0, slots := 0, locals := 0 } : Room) [.ref (ad 80), .long p1, .long p2, .int p3] (w8 cy ad c8_latest c8_asked c8_upper c8_lower c8_legs c8_units c8_rests c8_rates c8_lines c8_came c8_sizes c8_weights c8_growths c8_copied c8_legWay c8_legUnits c8_legStuff c8_unitWay c8_unitStuff c8_xs c8_ys c8_zs c8_kindOf c8_placeOf c8_rateOf c8_readOf c8_isGone c8_theList c8_amounts c8_low c8_high c8_barred c8_times c8_ranges) ra (w8 cy ad c8_latest c8_asked z8_upper z8_lower c8_legs c8_units c8_rests c8_rates c8_lines c8_came c8_sizes c8_weights c8_growths c8_copied c8_legWay c8_legUnits c8_legStuff c8_unitWay c8_unitStuff c8_xs c8_ys c8_zs c8_kindOf c8_placeOf c8_rateOf c8_readOf c8_isGone c8_theList c8_amounts c8_low c8_high c8_barred c8_times c8_ranges) := by
  unfold fX8_fraction at hf
  refine c_of_i (ty := .int) (own := RX8) (by decide) rfl rfl (Nat.le_of_ble_eq_true rfl) (fun X hC hRet => ?_)
  refine r_sub [(0, .ref (ad 80)), (1, .long p1), (3, .long p2), (5, .int p3)] [0, 1, 2, 3] rfl ?_
  have hin8 : ∀ w ∈ wsX80, w ∈ wsX8_fraction := fun w h => List.mem_cons_of_mem _ (List.mem_append_right _ h)
  have hw0 : Cond.fieldLink RX8 102 "HotPipesModel" "upper" "J" ∈ wsX8_fraction := List.mem_of_getElem? (i := 1) rfl
  have hw1 : Cond.fieldLink RX8 87 "HotPipesModel" "lower" "J" ∈ wsX8_fraction := List.mem_of_getElem? (i := 2) rfl
  refine r_lload_n hC dX8_fraction_0 rfl 1 rfl ?_
  refine r_lstore hC [(6, .long p1), (0, .ref (ad 80)), (1, .long p1), (3, .long p2), (5, .int p3)] dX8_fraction_1 (by decide) rfl ?_
  refine r_lload_n hC dX8_fraction_3 rfl 3 rfl ?_
  refine r_lstore hC [(8, .long p2), (6, .long p1), (0, .ref (ad 80)), (1, .long p1), (3, .long p2), (5, .int p3)] dX8_fraction_4 (by decide) rfl ?_
  obtain ⟨K31_2, eK31_2, hf⟩ := oj_some hf
  have J31_2 : ∀ (x1 : Int64), K31_2 x1 = some (ra, z8_upper, z8_lower) → GG X 12 0 0 (w8 cy ad c8_latest c8_asked c8_upper c8_lower c8_legs c8_units c8_rests c8_rates c8_lines c8_came c8_sizes c8_weights c8_growths c8_copied c8_legWay c8_legUnits c8_legStuff c8_unitWay c8_unitStuff c8_xs c8_ys c8_zs c8_kindOf c8_placeOf c8_rateOf c8_readOf c8_isGone c8_theList c8_amounts c8_low c8_high c8_barred c8_times c8_ranges) [(0, .ref (ad 80)), (1, .long p1), (3, .long p2), (5, .int p3), (6, .long x1)] 31 [] := by
    intro x1 hf
    replace hf := oa1 eK31_2 hf
    refine r_aload_n hC dX8_fraction_31 rfl 0 rfl ?_
    refine r_lload_n hC dX8_fraction_32 rfl 1 rfl ?_
    refine r_lload hC dX8_fraction_33 4 rfl ?_
    obtain ⟨g3, hf⟩ := og_some hf
    refine r_ldiv hC dX8_fraction_35 g3 ?_
    refine r_put (ty := .long) hC hin8 tyX8_ok nmX8 0 rfl rfl 3 (by decide) rfl hw0 rfl rfl rfl rfl (Nat.le_of_ble_eq_true rfl) dX8_fraction_36 (w8 cy ad c8_latest c8_asked (p1 / x1) c8_lower c8_legs c8_units c8_rests c8_rates c8_lines c8_came c8_sizes c8_weights c8_growths c8_copied c8_legWay c8_legUnits c8_legStuff c8_unitWay c8_unitStuff c8_xs c8_ys c8_zs c8_kindOf c8_placeOf c8_rateOf c8_readOf c8_isGone c8_theList c8_amounts c8_low c8_high c8_barred c8_times c8_ranges) rfl ?_
    refine r_aload_n hC dX8_fraction_39 rfl 0 rfl ?_
    refine r_lload_n hC dX8_fraction_40 rfl 2 rfl ?_
    refine r_lload hC dX8_fraction_41 4 rfl ?_
    obtain ⟨g4, hf⟩ := og_some hf
    refine r_ldiv hC dX8_fraction_43 g4 ?_
    refine r_put (ty := .long) hC hin8 tyX8_ok nmX8 0 rfl rfl 4 (by decide) rfl hw1 rfl rfl rfl rfl (Nat.le_of_ble_eq_true rfl) dX8_fraction_44 (w8 cy ad c8_latest c8_asked (p1 / x1) (p2 / x1) c8_legs c8_units c8_rests c8_rates c8_lines c8_came c8_sizes c8_weights c8_growths c8_copied c8_legWay c8_legUnits c8_legStuff c8_unitWay c8_unitStuff c8_xs c8_ys c8_zs c8_kindOf c8_placeOf c8_rateOf c8_readOf c8_isGone c8_theList c8_amounts c8_low c8_high c8_barred c8_times c8_ranges) rfl ?_
    refine r_iload hC dX8_fraction_47 3 rfl ?_
    obtain ⟨rfl, rfl, rfl⟩ := so_3 hf
    exact hRet _ _ _ dX8_fraction_49 rfl
  have L6 : ∀ (n : Nat) (x5 : Int64) (x6 : Int64), fX8_fraction_L6 K31_2 n x5 x6 = some (ra, z8_upper, z8_lower) → GG X 12 0 0 (w8 cy ad c8_latest c8_asked c8_upper c8_lower c8_legs c8_units c8_rests c8_rates c8_lines c8_came c8_sizes c8_weights c8_growths c8_copied c8_legWay c8_legUnits c8_legStuff c8_unitWay c8_unitStuff c8_xs c8_ys c8_zs c8_kindOf c8_placeOf c8_rateOf c8_readOf c8_isGone c8_theList c8_amounts c8_low c8_high c8_barred c8_times c8_ranges) [(0, .ref (ad 80)), (1, .long p1), (3, .long p2), (5, .int p3), (6, .long x5), (8, .long x6)] 6 [] := by
    intro n
    induction n with
    | zero => intro x5 x6 hf; cases (show none = some _ from hf)
    | succ n ih =>
      intro x5 x6 hf
      rw [fX8_fraction_L6] at hf
      refine r_lload hC dX8_fraction_6 5 rfl ?_
      refine r_lconst hC dX8_fraction_8 lc_0 ?_
      refine r_lcmp hC dX8_fraction_9 ?_
      refine r_if_eq (tgt := 31) hC dX8_fraction_10 (by decide) (fun c7 => ?_) (fun c7 => ?_)
      · replace hf := o_pos hf c7
        refine r_sub [(0, .ref (ad 80)), (1, .long p1), (3, .long p2), (5, .int p3), (6, .long x5)] [0, 1, 2, 3, 4] rfl ?_
        exact J31_2 x5 hf
      · replace hf := o_neg hf c7
        refine r_lload hC dX8_fraction_13 4 rfl ?_
        refine r_lload hC dX8_fraction_15 5 rfl ?_
        obtain ⟨g8, hf⟩ := og_some hf
        refine r_lrem hC dX8_fraction_17 g8 ?_
        refine r_topl (fun x9 ex9 => ?_)
        replace hf := olet_some hf ex9
        refine r_lstore hC [(10, .long x9), (0, .ref (ad 80)), (1, .long p1), (3, .long p2), (5, .int p3), (6, .long x5), (8, .long x6)] dX8_fraction_18 (by decide) rfl ?_
        refine r_lload hC dX8_fraction_20 6 rfl ?_
        refine r_lstore hC [(6, .long x6), (10, .long x9), (0, .ref (ad 80)), (1, .long p1), (3, .long p2), (5, .int p3), (8, .long x6)] dX8_fraction_22 (by decide) rfl ?_
        refine r_lload hC dX8_fraction_24 1 rfl ?_
        refine r_lstore hC [(8, .long x9), (6, .long x6), (10, .long x9), (0, .ref (ad 80)), (1, .long p1), (3, .long p2), (5, .int p3)] dX8_fraction_26 (by decide) rfl ?_
        refine r_goto (tgt := 6) hC dX8_fraction_28 (by decide) ?_
        refine r_sub [(0, .ref (ad 80)), (1, .long p1), (3, .long p2), (5, .int p3), (6, .long x6), (8, .long x9)] [3, 4, 5, 6, 1, 0] rfl ?_
        exact ih x6 x9 hf
  refine r_sub [(0, .ref (ad 80)), (1, .long p1), (3, .long p2), (5, .int p3), (6, .long p1), (8, .long p2)] [2, 3, 4, 5, 1, 0] rfl ?_
  exact L6 N p1 p2 hf
noncomputable def fX8_upper (c8_upper : Int64) : Option (Int64) := some c8_upper
theorem ydX8_upper : yX8_upper.cls = RX8 ∧ yX8_upper.cls ≠ "java/lang/invoke/MethodHandle" ∧ yX8_upper.cls ≠ "java/lang/invoke/VarHandle" ∧ (parseMethodDescriptor yX8_upper.desc).map (fun d => d.parameters.length) = some 0 := by decide +kernel
set_option maxHeartbeats 8000000 in
set_option maxRecDepth 100000 in
theorem kX8_upper (l : Launch) (D : va_G) (cy : Nat → ClassId) (ad : Nat → Nat) (c8_latest : Int32) (c8_asked : Int32) (c8_upper : Int64) (c8_lower : Int64) (c8_legs : Int32) (c8_units : Int32) (c8_rests : Int32) (c8_rates : Int32) (c8_lines : Int32) (c8_came : Nat → Int32) (c8_sizes : Nat → Int32) (c8_weights : Nat → Int32) (c8_growths : Nat → Int32) (c8_copied : Nat → Int32) (c8_legWay : Nat → Int32) (c8_legUnits : Nat → Int32) (c8_legStuff : Nat → Int32) (c8_unitWay : Nat → Int32) (c8_unitStuff : Nat → Int32) (c8_xs : Nat → Int32) (c8_ys : Nat → Int32) (c8_zs : Nat → Int32) (c8_kindOf : Nat → Int32) (c8_placeOf : Nat → Int32) (c8_rateOf : Nat → Int32) (c8_readOf : Nat → Int32) (c8_isGone : Nat → Int32) (c8_theList : Nat → Int32) (c8_amounts : Nat → Int32) (c8_low : Nat → Int32) (c8_high : Nat → Int32) (c8_barred : Nat → Int32) (c8_times : Nat → Int32) (c8_ranges : Nat → Int32) {ra : Int64} (hf : fX8_upper c8_upper = some ra) : CL l D cy yX8_upper wsX8_upper ({ frames := 0, cells := 0, slots := 0, locals := 0 } : Room) [.ref (ad 80)] (w8 cy ad c8_latest c8_asked c8_upper c8_lower c8_legs c8_units c8_rests c8_rates c8_lines c8_came c8_sizes c8_weights c8_growths c8_copied c8_legWay c8_legUnits c8_legStuff c8_unitWay c8_unitStuff c8_xs c8_ys c8_zs c8_kindOf c8_placeOf c8_rateOf c8_readOf c8_isGone c8_theList c8_amounts c8_low c8_high c8_barred c8_times c8_ranges) ra (w8 cy ad c8_latest c8_asked c8_upper c8_lower c8_legs c8_units c8_rests c8_rates c8_lines c8_came c8_sizes c8_weights c8_growths c8_copied c8_legWay c8_legUnits c8_legStuff c8_unitWay c8_unitStuff c8_xs c8_ys c8_zs c8_kindOf c8_placeOf c8_rateOf c8_readOf c8_isGone c8_theList c8_amounts c8_low c8_high c8_barred c8_times c8_ranges) := by
  unfold fX8_upper at hf
  refine c_of_l (own := RX8) (by decide) rfl rfl (Nat.le_of_ble_eq_true rfl) (fun X hC hRet => ?_)
  refine r_sub [(0, .ref (ad 80))] [0] rfl ?_
  have hin8 : ∀ w ∈ wsX80, w ∈ wsX8_upper := fun w h => List.mem_cons_of_mem _ (List.mem_append_right _ h)
  have hw0 : Cond.fieldLink RX8 102 "HotPipesModel" "upper" "J" ∈ wsX8_upper := List.mem_of_getElem? (i := 1) rfl
  refine r_aload_n hC dX8_upper_0 rfl 0 rfl ?_
  refine r_get hC hin8 0 rfl rfl 3 (by decide) rfl hw0 rfl dX8_upper_1 ?_
  obtain rfl := so_1 hf
  exact hRet _ _ _ dX8_upper_4
noncomputable def fX8_lower (c8_lower : Int64) : Option (Int64) := some c8_lower
theorem ydX8_lower : yX8_lower.cls = RX8 ∧ yX8_lower.cls ≠ "java/lang/invoke/MethodHandle" ∧ yX8_lower.cls ≠ "java/lang/invoke/VarHandle" ∧ (parseMethodDescriptor yX8_lower.desc).map (fun d => d.parameters.length) = some 0 := by decide +kernel
set_option maxHeartbeats 8000000 in
set_option maxRecDepth 100000 in
theorem kX8_lower (l : Launch) (D : va_G) (cy : Nat → ClassId) (ad : Nat → Nat) (c8_latest : Int32) (c8_asked : Int32) (c8_upper : Int64) (c8_lower : Int64) (c8_legs : Int32) (c8_units : Int32) (c8_rests : Int32) (c8_rates : Int32) (c8_lines : Int32) (c8_came : Nat → Int32) (c8_sizes : Nat → Int32) (c8_weights : Nat → Int32) (c8_growths : Nat → Int32) (c8_copied : Nat → Int32) (c8_legWay : Nat → Int32) (c8_legUnits : Nat → Int32) (c8_legStuff : Nat → Int32) (c8_unitWay : Nat → Int32) (c8_unitStuff : Nat → Int32) (c8_xs : Nat → Int32) (c8_ys : Nat → Int32) (c8_zs : Nat → Int32) (c8_kindOf : Nat → Int32) (c8_placeOf : Nat → Int32) (c8_rateOf : Nat → Int32) (c8_readOf : Nat → Int32) (c8_isGone : Nat → Int32) (c8_theList : Nat → Int32) (c8_amounts : Nat → Int32) (c8_low : Nat → Int32) (c8_high : Nat → Int32) (c8_barred : Nat → Int32) (c8_times : Nat → Int32) (c8_ranges : Nat → Int32) {ra : Int64} (hf : fX8_lower c8_lower = some ra) : CL l D cy yX8_lower wsX8_lower ({ frames := 0, cells := 0, slots := 0, locals := 0 } : Room) [.ref (ad 80)] (w8 cy ad c8_latest c8_asked c8_upper c8_lower c8_legs c8_units c8_rests c8_rates c8_lines c8_came c8_sizes c8_weights c8_growths c8_copied c8_legWay c8_legUnits c8_legStuff c8_unitWay c8_unitStuff c8_xs c8_ys c8_zs c8_kindOf c8_placeOf c8_rateOf c8_readOf c8_isGone c8_theList c8_amounts c8_low c8_high c8_barred c8_times c8_ranges) ra (w8 cy ad c8_latest c8_asked c8_upper c8_lower c8_legs c8_units c8_rests c8_rates c8_lines c8_came c8_sizes c8_weights c8_growths c8_copied c8_legWay c8_legUnits c8_legStuff c8_unitWay c8_unitStuff c8_xs c8_ys c8_zs c8_kindOf c8_placeOf c8_rateOf c8_readOf c8_isGone c8_theList c8_amounts c8_low c8_high c8_barred c8_times c8_ranges) := by
  unfold fX8_lower at hf
  refine c_of_l (own := RX8) (by decide) rfl rfl (Nat.le_of_ble_eq_true rfl) (fun X hC hRet => ?_)
  refine r_sub [(0, .ref (ad 80))] [0] rfl ?_
  have hin8 : ∀ w ∈ wsX80, w ∈ wsX8_lower := fun w h => List.mem_cons_of_mem _ (List.mem_append_right _ h)
  have hw0 : Cond.fieldLink RX8 87 "HotPipesModel" "lower" "J" ∈ wsX8_lower := List.mem_of_getElem? (i := 1) rfl
  refine r_aload_n hC dX8_lower_0 rfl 0 rfl ?_
  refine r_get hC hin8 0 rfl rfl 4 (by decide) rfl hw0 rfl dX8_lower_1 ?_
  obtain rfl := so_1 hf
  exact hRet _ _ _ dX8_lower_4
noncomputable def fX8_isStuff (p1 : Int32) : Option (Int32) := ob (fX8_in p1 0 3) (fun (r1 : Int32) => og (r1 = 0 ∨ r1 = 1) (some r1))
theorem ydX8_isStuff : yX8_isStuff.cls ≠ "java/lang/invoke/MethodHandle" ∧ yX8_isStuff.cls ≠ "java/lang/invoke/VarHandle" ∧ (parseMethodDescriptor yX8_isStuff.desc).map (fun d => d.parameters.length) = some 1 := by decide +kernel
set_option maxHeartbeats 8000000 in
set_option maxRecDepth 100000 in
theorem kX8_isStuff (l : Launch) (D : va_G) (cy : Nat → ClassId) (p1 : Int32) {ra : Int32} (hf : fX8_isStuff p1 = some ra) : CI l D cy yX8_isStuff wsX8_isStuff ({ frames := 1, cells := 0, slots := 0, locals := 22 } : Room) [.int p1] [] ra [] := by
  unfold fX8_isStuff at hf
  refine c_of_i (ty := .boolean) (own := RX8) (by decide) rfl rfl (Nat.le_of_ble_eq_true rfl) (fun X hC hRet => ?_)
  refine r_sub [(0, .int p1)] [0] rfl ?_
  refine r_iload_n hC dX8_isStuff_0 rfl 0 rfl ?_
  refine r_iconst hC dX8_isStuff_1 ic_0 ?_
  refine r_iconst hC dX8_isStuff_2 ic_3 ?_
  obtain ⟨r1, h2, hf⟩ := ob_some hf
  refine r_si (st := []) hC (kX8_in l D cy p1 0 3 h2) gX8_isStuff_X8_in rfl ⟨rfl, rfl⟩ ydX8_in ⟨Nat.le_of_ble_eq_true rfl, Nat.le_of_ble_eq_true rfl⟩ ⟨Nat.le_refl 0, Nat.le_refl 0⟩ _ rfl (Nat.le_of_ble_eq_true rfl) dX8_isStuff_3 ?_
  obtain ⟨g3, hf⟩ := og_some hf
  obtain rfl := so_1 hf
  exact hRet _ _ _ dX8_isStuff_6 (nb_of g3)
noncomputable def fX8_stuff_L34 (c8_latest : Int32) (c8_came : Nat → Int32) (c8_sizes : Nat → Int32) (p1 : Int32) (p2 : Int32) : Nat → Int32 → (Nat → Int32) → Option (Int32 × Int32 × (Nat → Int32) × (Nat → Int32) × (Nat → Int32))
  | 0, _, _ => none
  | n + 1, x7, s8 => (if 16 ≤ x7 then some (p2, c8_latest, c8_came, (upd c8_sizes (Int32.toNatClampNeg p1) p2), s8) else og (vp_in ((16 * p1) + x7) 64) (fX8_stuff_L34 c8_latest c8_came c8_sizes p1 p2 n (x7 + 1) (upd s8 (Int32.toNatClampNeg ((16 * p1) + x7)) (vp_nar .byte 0))))
noncomputable def fX8_stuff (N : Nat) (c8_latest : Int32) (c8_came : Nat → Int32) (c8_sizes : Nat → Int32) (c8_growths : Nat → Int32) (p1 : Int32) (p2 : Int32) : Option (Int32 × Int32 × (Nat → Int32) × (Nat → Int32) × (Nat → Int32)) := ob (fX8_isStuff p1) (fun (r1 : Int32) => (if r1 = 0 then some ((-1), c8_latest, c8_came, c8_sizes, c8_growths) else (if p2 ≤ 16 then (if 0 ≤ p2 then og (vp_in p1 4) (fX8_stuff_L34 c8_latest c8_came c8_sizes p1 p2 N 0 c8_growths) else ob3 (fX8_meets c8_latest c8_came 5) (fun (r11 : Int32) (s12 : Int32) (s13 : Nat → Int32) => some (r11, s12, s13, c8_sizes, c8_growths))) else some ((-1), c8_latest, c8_came, c8_sizes, c8_growths))))
theorem ydX8_stuff : yX8_stuff.cls = RX8 ∧ yX8_stuff.cls ≠ "java/lang/invoke/MethodHandle" ∧ yX8_stuff.cls ≠ "java/lang/invoke/VarHandle" ∧ (parseMethodDescriptor yX8_stuff.desc).map (fun d => d.parameters.length) = some 2 := by decide +kernel
set_option maxHeartbeats 8000000 in
set_option maxRecDepth 100000 in
theorem kX8_stuff (l : Launch) (D : va_G) (cy : Nat → ClassId) (ad : Nat → Nat) (c8_latest : Int32) (c8_asked : Int32) (c8_upper : Int64) (c8_lower : Int64) (c8_legs : Int32) (c8_units : Int32) (c8_rests : Int32) (c8_rates : Int32) (c8_lines : Int32) (c8_came : Nat → Int32) (c8_sizes : Nat → Int32) (c8_weights : Nat → Int32) (c8_growths : Nat → Int32) (c8_copied : Nat → Int32) (c8_legWay : Nat → Int32) (c8_legUnits : Nat → Int32) (c8_legStuff : Nat → Int32) (c8_unitWay : Nat → Int32) (c8_unitStuff : Nat → Int32) (c8_xs : Nat → Int32) (c8_ys : Nat → Int32) (c8_zs : Nat → Int32) (c8_kindOf : Nat → Int32) (c8_placeOf : Nat → Int32) (c8_rateOf : Nat → Int32) (c8_readOf : Nat → Int32) (c8_isGone : Nat → Int32) (c8_theList : Nat → Int32) (c8_amounts : Nat → Int32) (c8_low : Nat → Int32) (c8_high : Nat → Int32) (c8_barred : Nat → Int32) (c8_times : Nat → Int32) (c8_ranges : Nat → Int32) (p1 : Int32) (p2 : Int32) (N : Nat) {ra : Int32} {z8_latest : Int32} {z8_came : Nat → Int32} {z8_sizes : Nat → Int32} {z8_growths : Nat → Int32} (hf : fX8_stuff N c8_latest c8_came c8_sizes c8_growths p1 p2 = some (ra, z8_latest, z8_came, z8_sizes, z8_growths)) : CI l D cy yX8_stuff wsX8_stuff ({ frames := 2, cells := 0, slots := 0, locals := 42 } : Room) [.ref (ad 80), .int p1, .int p2] (w8 cy ad c8_latest c8_asked c8_upper c8_lower c8_legs c8_units c8_rests c8_rates c8_lines c8_came c8_sizes c8_weights c8_growths c8_copied c8_legWay c8_legUnits c8_legStuff c8_unitWay c8_unitStuff c8_xs c8_ys c8_zs c8_kindOf c8_placeOf c8_rateOf c8_readOf c8_isGone c8_theList c8_amounts c8_low c8_high c8_barred c8_times c8_ranges) ra (w8 cy ad z8_latest c8_asked c8_upper c8_lower c8_legs c8_units c8_rests c8_rates c8_lines z8_came z8_sizes c8_weights z8_growths c8_copied c8_legWay c8_legUnits c8_legStuff c8_unitWay c8_unitStuff c8_xs c8_ys c8_zs c8_kindOf c8_placeOf c8_rateOf c8_readOf c8_isGone c8_theList c8_amounts c8_low c8_high c8_barred c8_times c8_ranges) := by
  unfold fX8_stuff at hf
  refine c_of_i (ty := .int) (own := RX8) (by decide) rfl rfl (Nat.le_of_ble_eq_true rfl) (fun X hC hRet => ?_)
  refine r_sub [(0, .ref (ad 80)), (1, .int p1), (2, .int p2)] [0, 1, 2] rfl ?_
  have hin8 : ∀ w ∈ wsX80, w ∈ wsX8_stuff := fun w h => List.mem_cons_of_mem _ (List.mem_append_right _ h)
  have hw0 : Cond.fieldLink RX8 13 "HotPipesModel" "sizes" "[I" ∈ wsX8_stuff := List.mem_of_getElem? (i := 1) rfl
  have hw1 : Cond.fieldLink RX8 19 "HotPipesModel" "growths" "[B" ∈ wsX8_stuff := List.mem_of_getElem? (i := 2) rfl
  refine r_iload_n hC dX8_stuff_0 rfl 1 rfl ?_
  obtain ⟨r1, h2, hf⟩ := ob_some hf
  refine r_si (st := []) hC (kX8_isStuff l D cy p1 h2) gX8_stuff_X8_isStuff rfl ⟨rfl, rfl⟩ ydX8_isStuff ⟨Nat.le_of_ble_eq_true rfl, Nat.le_of_ble_eq_true rfl⟩ ⟨Nat.le_refl 0, Nat.le_refl 0⟩ _ rfl (Nat.le_of_ble_eq_true rfl) dX8_stuff_1 ?_
  refine r_if_eq (tgt := 13) hC dX8_stuff_4 (by decide) (fun c3 => ?_) (fun c3 => ?_)
  · replace hf := o_pos hf c3
    refine r_iconst hC dX8_stuff_13 ic_m1 ?_
    obtain ⟨rfl, rfl, rfl, rfl, rfl⟩ := so_5 hf
    exact hRet _ _ _ dX8_stuff_14 rfl
  · replace hf := o_neg hf c3
    refine r_iload_n hC dX8_stuff_7 rfl 2 rfl ?_
    refine r_bipush hC dX8_stuff_8 bp_16 ?_
    refine r_icmp_le (tgt := 15) hC dX8_stuff_10 (by decide) (fun c4 => ?_) (fun c4 => ?_)
    · replace hf := o_pos hf c4
      refine r_iload_n hC dX8_stuff_15 rfl 2 rfl ?_
      refine r_if_ge (tgt := 25) hC dX8_stuff_16 (by decide) (fun c5 => ?_) (fun c5 => ?_)
      · replace hf := o_pos hf c5
        refine r_aload_n hC dX8_stuff_25 rfl 0 rfl ?_
        refine r_get hC hin8 0 rfl rfl 5 (by decide) rfl hw0 rfl dX8_stuff_26 ?_
        refine r_iload_n hC dX8_stuff_29 rfl 1 rfl ?_
        refine r_iload_n hC dX8_stuff_30 rfl 2 rfl ?_
        obtain ⟨g6, hf⟩ := og_some hf
        refine r_iast hC 2 rfl g6 dX8_stuff_31 (w8 cy ad c8_latest c8_asked c8_upper c8_lower c8_legs c8_units c8_rests c8_rates c8_lines c8_came (upd c8_sizes (Int32.toNatClampNeg p1) p2) c8_weights c8_growths c8_copied c8_legWay c8_legUnits c8_legStuff c8_unitWay c8_unitStuff c8_xs c8_ys c8_zs c8_kindOf c8_placeOf c8_rateOf c8_readOf c8_isGone c8_theList c8_amounts c8_low c8_high c8_barred c8_times c8_ranges) rfl ?_
        refine r_iconst hC dX8_stuff_32 ic_0 ?_
        refine r_istore_n hC [(3, .int 0), (0, .ref (ad 80)), (1, .int p1), (2, .int p2)] dX8_stuff_33 rfl (by decide) rfl ?_
        have L34 : ∀ (n : Nat) (x7 : Int32) (s8 : Nat → Int32), fX8_stuff_L34 c8_latest c8_came c8_sizes p1 p2 n x7 s8 = some (ra, z8_latest, z8_came, z8_sizes, z8_growths) → GG X 4 0 0 (w8 cy ad c8_latest c8_asked c8_upper c8_lower c8_legs c8_units c8_rests c8_rates c8_lines c8_came (upd c8_sizes (Int32.toNatClampNeg p1) p2) c8_weights s8 c8_copied c8_legWay c8_legUnits c8_legStuff c8_unitWay c8_unitStuff c8_xs c8_ys c8_zs c8_kindOf c8_placeOf c8_rateOf c8_readOf c8_isGone c8_theList c8_amounts c8_low c8_high c8_barred c8_times c8_ranges) [(0, .ref (ad 80)), (1, .int p1), (2, .int p2), (3, .int x7)] 34 [] := by
          intro n
          induction n with
          | zero => intro x7 s8 hf; cases (show none = some _ from hf)
          | succ n ih =>
            intro x7 s8 hf
            rw [fX8_stuff_L34] at hf
            refine r_iload_n hC dX8_stuff_34 rfl 3 rfl ?_
            refine r_bipush hC dX8_stuff_35 bp_16 ?_
            refine r_icmp_ge (tgt := 58) hC dX8_stuff_37 (by decide) (fun c9 => ?_) (fun c9 => ?_)
            · replace hf := o_pos hf c9
              refine r_iload_n hC dX8_stuff_58 rfl 2 rfl ?_
              obtain ⟨rfl, rfl, rfl, rfl, rfl⟩ := so_5 hf
              exact hRet _ _ _ dX8_stuff_59 rfl
            · replace hf := o_neg hf c9
              refine r_aload_n hC dX8_stuff_40 rfl 0 rfl ?_
              refine r_get hC hin8 0 rfl rfl 7 (by decide) rfl hw1 rfl dX8_stuff_41 ?_
              refine r_bipush hC dX8_stuff_44 bp_16 ?_
              refine r_iload_n hC dX8_stuff_46 rfl 1 rfl ?_
              refine r_imul hC dX8_stuff_47 ?_
              refine r_iload_n hC dX8_stuff_48 rfl 3 rfl ?_
              refine r_iadd hC dX8_stuff_49 ?_
              refine r_iconst hC dX8_stuff_50 ic_0 ?_
              obtain ⟨g10, hf⟩ := og_some hf
              refine r_bast hC 4 rfl g10 dX8_stuff_51 (w8 cy ad c8_latest c8_asked c8_upper c8_lower c8_legs c8_units c8_rests c8_rates c8_lines c8_came (upd c8_sizes (Int32.toNatClampNeg p1) p2) c8_weights (upd s8 (Int32.toNatClampNeg ((16 * p1) + x7)) (vp_nar .byte 0)) c8_copied c8_legWay c8_legUnits c8_legStuff c8_unitWay c8_unitStuff c8_xs c8_ys c8_zs c8_kindOf c8_placeOf c8_rateOf c8_readOf c8_isGone c8_theList c8_amounts c8_low c8_high c8_barred c8_times c8_ranges) rfl ?_
              refine r_iinc hC [(3, .int (x7 + 1)), (0, .ref (ad 80)), (1, .int p1), (2, .int p2)] (x7 + 1) dX8_stuff_52 3 rfl (ii_1 _) (by decide) rfl ?_
              refine r_goto (tgt := 34) hC dX8_stuff_55 (by decide) ?_
              refine r_sub [(0, .ref (ad 80)), (1, .int p1), (2, .int p2), (3, .int (x7 + 1))] [1, 2, 3, 0] rfl ?_
              exact ih (x7 + 1) (upd s8 (Int32.toNatClampNeg ((16 * p1) + x7)) (vp_nar .byte 0)) hf
        refine r_sub [(0, .ref (ad 80)), (1, .int p1), (2, .int p2), (3, .int 0)] [1, 2, 3, 0] rfl ?_
        exact L34 N 0 c8_growths hf
      · replace hf := o_neg hf c5
        refine r_aload_n hC dX8_stuff_19 rfl 0 rfl ?_
        refine r_iconst hC dX8_stuff_20 ic_5 ?_
        obtain ⟨r11, s12, s13, h14, hf⟩ := ob3_some hf
        refine r_vi (st := []) hC (kX8_meets l D cy ad c8_latest c8_asked c8_upper c8_lower c8_legs c8_units c8_rests c8_rates c8_lines c8_came c8_sizes c8_weights c8_growths c8_copied c8_legWay c8_legUnits c8_legStuff c8_unitWay c8_unitStuff c8_xs c8_ys c8_zs c8_kindOf c8_placeOf c8_rateOf c8_readOf c8_isGone c8_theList c8_amounts c8_low c8_high c8_barred c8_times c8_ranges 5 h14) gX8_stuff_X8_meets rfl ⟨rfl, rfl⟩ ydX8_meets ⟨Nat.le_of_ble_eq_true rfl, Nat.le_of_ble_eq_true rfl⟩ ⟨Nat.le_refl 0, Nat.le_refl 0⟩ 0 rfl rfl [] [] rfl _ rfl (Nat.le_of_ble_eq_true rfl) dX8_stuff_21 (w8 cy ad s12 c8_asked c8_upper c8_lower c8_legs c8_units c8_rests c8_rates c8_lines s13 c8_sizes c8_weights c8_growths c8_copied c8_legWay c8_legUnits c8_legStuff c8_unitWay c8_unitStuff c8_xs c8_ys c8_zs c8_kindOf c8_placeOf c8_rateOf c8_readOf c8_isGone c8_theList c8_amounts c8_low c8_high c8_barred c8_times c8_ranges) rfl ?_
        obtain ⟨rfl, rfl, rfl, rfl, rfl⟩ := so_5 hf
        exact hRet _ _ _ dX8_stuff_24 rfl
    · replace hf := o_neg hf c4
      refine r_iconst hC dX8_stuff_13 ic_m1 ?_
      obtain ⟨rfl, rfl, rfl, rfl, rfl⟩ := so_5 hf
      exact hRet _ _ _ dX8_stuff_14 rfl
noncomputable def fX8_lay (c8_latest : Int32) (c8_came : Nat → Int32) (c8_sizes : Nat → Int32) (c8_growths : Nat → Int32) (p1 : Int32) (p2 : Int32) (p3 : Int32) : Option (Int32 × Int32 × (Nat → Int32) × (Nat → Int32)) := ob (fX8_isStuff p1) (fun (r1 : Int32) => (if r1 = 0 then some ((-1), c8_latest, c8_came, c8_growths) else og (vp_in p1 4) ((if 0 ≤ (c8_sizes (Int32.toNatClampNeg p1)) then og (vp_in p1 4) (ob (fX8_in p2 0 ((c8_sizes (Int32.toNatClampNeg p1)) - 1)) (fun (r7 : Int32) => (if r7 = 0 then ob3 (fX8_meets c8_latest c8_came 2) (fun (r13 : Int32) (s14 : Int32) (s15 : Nat → Int32) => some (r13, s14, s15, c8_growths)) else og (vp_in ((16 * p1) + p2) 64) (olet (c8_growths (Int32.toNatClampNeg ((16 * p1) + p2))) (fun (x11 : Int32) => og (vp_in ((16 * p1) + p2) 64) (some ((1000 + x11), c8_latest, c8_came, (upd c8_growths (Int32.toNatClampNeg ((16 * p1) + p2)) (vp_nar .byte (Int8.toInt32 (Int32.toInt8 p3))))))))))) else ob3 (fX8_meets c8_latest c8_came 1) (fun (r17 : Int32) (s18 : Int32) (s19 : Nat → Int32) => some (r17, s18, s19, c8_growths))))))
theorem ydX8_lay : yX8_lay.cls = RX8 ∧ yX8_lay.cls ≠ "java/lang/invoke/MethodHandle" ∧ yX8_lay.cls ≠ "java/lang/invoke/VarHandle" ∧ (parseMethodDescriptor yX8_lay.desc).map (fun d => d.parameters.length) = some 3 := by decide +kernel
set_option maxHeartbeats 8000000 in
set_option maxRecDepth 100000 in
theorem kX8_lay (l : Launch) (D : va_G) (cy : Nat → ClassId) (ad : Nat → Nat) (c8_latest : Int32) (c8_asked : Int32) (c8_upper : Int64) (c8_lower : Int64) (c8_legs : Int32) (c8_units : Int32) (c8_rests : Int32) (c8_rates : Int32) (c8_lines : Int32) (c8_came : Nat → Int32) (c8_sizes : Nat → Int32) (c8_weights : Nat → Int32) (c8_growths : Nat → Int32) (c8_copied : Nat → Int32) (c8_legWay : Nat → Int32) (c8_legUnits : Nat → Int32) (c8_legStuff : Nat → Int32) (c8_unitWay : Nat → Int32) (c8_unitStuff : Nat → Int32) (c8_xs : Nat → Int32) (c8_ys : Nat → Int32) (c8_zs : Nat → Int32) (c8_kindOf : Nat → Int32) (c8_placeOf : Nat → Int32) (c8_rateOf : Nat → Int32) (c8_readOf : Nat → Int32) (c8_isGone : Nat → Int32) (c8_theList : Nat → Int32) (c8_amounts : Nat → Int32) (c8_low : Nat → Int32) (c8_high : Nat → Int32) (c8_barred : Nat → Int32) (c8_times : Nat → Int32) (c8_ranges : Nat → Int32) (p1 : Int32) (p2 : Int32) (p3 : Int32) {ra : Int32} {z8_latest : Int32} {z8_came : Nat → Int32} {z8_growths : Nat → Int32} (hf : fX8_lay c8_latest c8_came c8_sizes c8_growths p1 p2 p3 = some (ra, z8_latest, z8_came, z8_growths)) : CI l D cy yX8_lay wsX8_lay ({ frames := 2, cells := 0, slots := 0, locals := 42 } : Room) [.ref (ad 80), .int p1, .int p2, .int p3] (w8 cy ad c8_latest c8_asked c8_upper c8_lower c8_legs c8_units c8_rests c8_rates c8_lines c8_came c8_sizes c8_weights c8_growths c8_copied c8_legWay c8_legUnits c8_legStuff c8_unitWay c8_unitStuff c8_xs c8_ys c8_zs c8_kindOf c8_placeOf c8_rateOf c8_readOf c8_isGone c8_theList c8_amounts c8_low c8_high c8_barred c8_times c8_ranges) ra (w8 cy ad z8_latest c8_asked c8_upper c8_lower c8_legs c8_units c8_rests c8_rates c8_lines z8_came c8_sizes c8_weights z8_growths c8_copied c8_legWay c8_legUnits c8_legStuff c8_unitWay c8_unitStuff c8_xs c8_ys c8_zs c8_kindOf c8_placeOf c8_rateOf c8_readOf c8_isGone c8_theList c8_amounts c8_low c8_high c8_barred c8_times c8_ranges) := by
  unfold fX8_lay at hf
  refine c_of_i (ty := .int) (own := RX8) (by decide) rfl rfl (Nat.le_of_ble_eq_true rfl) (fun X hC hRet => ?_)
  refine r_sub [(0, .ref (ad 80)), (1, .int p1), (2, .int p2), (3, .int p3)] [0, 1, 2, 3] rfl ?_
  have hin8 : ∀ w ∈ wsX80, w ∈ wsX8_lay := fun w h => List.mem_cons_of_mem _ (List.mem_append_right _ h)
  have hw0 : Cond.fieldLink RX8 13 "HotPipesModel" "sizes" "[I" ∈ wsX8_lay := List.mem_of_getElem? (i := 1) rfl
  have hw1 : Cond.fieldLink RX8 19 "HotPipesModel" "growths" "[B" ∈ wsX8_lay := List.mem_of_getElem? (i := 2) rfl
  refine r_iload_n hC dX8_lay_0 rfl 1 rfl ?_
  obtain ⟨r1, h2, hf⟩ := ob_some hf
  refine r_si (st := []) hC (kX8_isStuff l D cy p1 h2) gX8_lay_X8_isStuff rfl ⟨rfl, rfl⟩ ydX8_isStuff ⟨Nat.le_of_ble_eq_true rfl, Nat.le_of_ble_eq_true rfl⟩ ⟨Nat.le_refl 0, Nat.le_refl 0⟩ _ rfl (Nat.le_of_ble_eq_true rfl) dX8_lay_1 ?_
  refine r_if_ne (tgt := 9) hC dX8_lay_4 (by decide) (fun c3 => ?_) (fun c3 => ?_)
  · replace hf := o_neg hf c3
    refine r_aload_n hC dX8_lay_9 rfl 0 rfl ?_
    refine r_get hC hin8 0 rfl rfl 5 (by decide) rfl hw0 rfl dX8_lay_10 ?_
    refine r_iload_n hC dX8_lay_13 rfl 1 rfl ?_
    obtain ⟨g4, hf⟩ := og_some hf
    refine r_iald hC 2 rfl g4 dX8_lay_14 ?_
    refine r_if_ge (tgt := 24) hC dX8_lay_15 (by decide) (fun c5 => ?_) (fun c5 => ?_)
    · replace hf := o_pos hf c5
      refine r_iload_n hC dX8_lay_24 rfl 2 rfl ?_
      refine r_iconst hC dX8_lay_25 ic_0 ?_
      refine r_aload_n hC dX8_lay_26 rfl 0 rfl ?_
      refine r_get hC hin8 0 rfl rfl 5 (by decide) rfl hw0 rfl dX8_lay_27 ?_
      refine r_iload_n hC dX8_lay_30 rfl 1 rfl ?_
      obtain ⟨g6, hf⟩ := og_some hf
      refine r_iald hC 2 rfl g6 dX8_lay_31 ?_
      refine r_iconst hC dX8_lay_32 ic_1 ?_
      refine r_isub hC dX8_lay_33 ?_
      obtain ⟨r7, h8, hf⟩ := ob_some hf
      refine r_si (st := []) hC (kX8_in l D cy p2 0 ((c8_sizes (Int32.toNatClampNeg p1)) - 1) h8) gX8_lay_X8_in rfl ⟨rfl, rfl⟩ ydX8_in ⟨Nat.le_of_ble_eq_true rfl, Nat.le_of_ble_eq_true rfl⟩ ⟨Nat.le_refl 0, Nat.le_refl 0⟩ _ rfl (Nat.le_of_ble_eq_true rfl) dX8_lay_34 ?_
      refine r_if_ne (tgt := 46) hC dX8_lay_37 (by decide) (fun c9 => ?_) (fun c9 => ?_)
      · replace hf := o_neg hf c9
        refine r_aload_n hC dX8_lay_46 rfl 0 rfl ?_
        refine r_get hC hin8 0 rfl rfl 7 (by decide) rfl hw1 rfl dX8_lay_47 ?_
        refine r_bipush hC dX8_lay_50 bp_16 ?_
        refine r_iload_n hC dX8_lay_52 rfl 1 rfl ?_
        refine r_imul hC dX8_lay_53 ?_
        refine r_iload_n hC dX8_lay_54 rfl 2 rfl ?_
        refine r_iadd hC dX8_lay_55 ?_
        obtain ⟨g10, hf⟩ := og_some hf
        refine r_bald hC 4 rfl g10 dX8_lay_56 ?_
        refine r_topi (fun x11 ex11 => ?_)
        replace hf := olet_some hf ex11
        refine r_istore hC [(4, .int x11), (0, .ref (ad 80)), (1, .int p1), (2, .int p2), (3, .int p3)] dX8_lay_57 (by decide) rfl ?_
        refine r_aload_n hC dX8_lay_59 rfl 1 rfl ?_
        refine r_get hC hin8 0 rfl rfl 7 (by decide) rfl hw1 rfl dX8_lay_60 ?_
        refine r_bipush hC dX8_lay_63 bp_16 ?_
        refine r_iload_n hC dX8_lay_65 rfl 2 rfl ?_
        refine r_imul hC dX8_lay_66 ?_
        refine r_iload_n hC dX8_lay_67 rfl 3 rfl ?_
        refine r_iadd hC dX8_lay_68 ?_
        refine r_iload_n hC dX8_lay_69 rfl 4 rfl ?_
        refine r_i2b hC dX8_lay_70 ?_
        obtain ⟨g12, hf⟩ := og_some hf
        refine r_bast hC 4 rfl g12 dX8_lay_71 (w8 cy ad c8_latest c8_asked c8_upper c8_lower c8_legs c8_units c8_rests c8_rates c8_lines c8_came c8_sizes c8_weights (upd c8_growths (Int32.toNatClampNeg ((16 * p1) + p2)) (vp_nar .byte (Int8.toInt32 (Int32.toInt8 p3)))) c8_copied c8_legWay c8_legUnits c8_legStuff c8_unitWay c8_unitStuff c8_xs c8_ys c8_zs c8_kindOf c8_placeOf c8_rateOf c8_readOf c8_isGone c8_theList c8_amounts c8_low c8_high c8_barred c8_times c8_ranges) rfl ?_
        refine r_sipush hC dX8_lay_72 sp_1000 ?_
        refine r_iload hC dX8_lay_75 0 rfl ?_
        refine r_iadd hC dX8_lay_77 ?_
        obtain ⟨rfl, rfl, rfl, rfl⟩ := so_4 hf
        exact hRet _ _ _ dX8_lay_78 rfl
      · replace hf := o_pos hf c9
        refine r_aload_n hC dX8_lay_40 rfl 0 rfl ?_
        refine r_iconst hC dX8_lay_41 ic_2 ?_
        obtain ⟨r13, s14, s15, h16, hf⟩ := ob3_some hf
        refine r_vi (st := []) hC (kX8_meets l D cy ad c8_latest c8_asked c8_upper c8_lower c8_legs c8_units c8_rests c8_rates c8_lines c8_came c8_sizes c8_weights c8_growths c8_copied c8_legWay c8_legUnits c8_legStuff c8_unitWay c8_unitStuff c8_xs c8_ys c8_zs c8_kindOf c8_placeOf c8_rateOf c8_readOf c8_isGone c8_theList c8_amounts c8_low c8_high c8_barred c8_times c8_ranges 2 h16) gX8_lay_X8_meets rfl ⟨rfl, rfl⟩ ydX8_meets ⟨Nat.le_of_ble_eq_true rfl, Nat.le_of_ble_eq_true rfl⟩ ⟨Nat.le_refl 0, Nat.le_refl 0⟩ 0 rfl rfl [] [] rfl _ rfl (Nat.le_of_ble_eq_true rfl) dX8_lay_42 (w8 cy ad s14 c8_asked c8_upper c8_lower c8_legs c8_units c8_rests c8_rates c8_lines s15 c8_sizes c8_weights c8_growths c8_copied c8_legWay c8_legUnits c8_legStuff c8_unitWay c8_unitStuff c8_xs c8_ys c8_zs c8_kindOf c8_placeOf c8_rateOf c8_readOf c8_isGone c8_theList c8_amounts c8_low c8_high c8_barred c8_times c8_ranges) rfl ?_
        obtain ⟨rfl, rfl, rfl, rfl⟩ := so_4 hf
        exact hRet _ _ _ dX8_lay_45 rfl
    · replace hf := o_neg hf c5
      refine r_aload_n hC dX8_lay_18 rfl 0 rfl ?_
      refine r_iconst hC dX8_lay_19 ic_1 ?_
      obtain ⟨r17, s18, s19, h20, hf⟩ := ob3_some hf
      refine r_vi (st := []) hC (kX8_meets l D cy ad c8_latest c8_asked c8_upper c8_lower c8_legs c8_units c8_rests c8_rates c8_lines c8_came c8_sizes c8_weights c8_growths c8_copied c8_legWay c8_legUnits c8_legStuff c8_unitWay c8_unitStuff c8_xs c8_ys c8_zs c8_kindOf c8_placeOf c8_rateOf c8_readOf c8_isGone c8_theList c8_amounts c8_low c8_high c8_barred c8_times c8_ranges 1 h20) gX8_lay_X8_meets rfl ⟨rfl, rfl⟩ ydX8_meets ⟨Nat.le_of_ble_eq_true rfl, Nat.le_of_ble_eq_true rfl⟩ ⟨Nat.le_refl 0, Nat.le_refl 0⟩ 0 rfl rfl [] [] rfl _ rfl (Nat.le_of_ble_eq_true rfl) dX8_lay_20 (w8 cy ad s18 c8_asked c8_upper c8_lower c8_legs c8_units c8_rests c8_rates c8_lines s19 c8_sizes c8_weights c8_growths c8_copied c8_legWay c8_legUnits c8_legStuff c8_unitWay c8_unitStuff c8_xs c8_ys c8_zs c8_kindOf c8_placeOf c8_rateOf c8_readOf c8_isGone c8_theList c8_amounts c8_low c8_high c8_barred c8_times c8_ranges) rfl ?_
      obtain ⟨rfl, rfl, rfl, rfl⟩ := so_4 hf
      exact hRet _ _ _ dX8_lay_23 rfl
  · replace hf := o_pos hf c3
    refine r_iconst hC dX8_lay_7 ic_m1 ?_
    obtain ⟨rfl, rfl, rfl, rfl⟩ := so_4 hf
    exact hRet _ _ _ dX8_lay_8 rfl
noncomputable def fX8_tear (c8_latest : Int32) (c8_came : Nat → Int32) (c8_sizes : Nat → Int32) (p1 : Int32) : Option (Int32 × Int32 × (Nat → Int32) × (Nat → Int32)) := ob (fX8_isStuff p1) (fun (r1 : Int32) => (if r1 = 0 then some ((-1), c8_latest, c8_came, c8_sizes) else og (vp_in p1 4) ((if 0 ≤ (c8_sizes (Int32.toNatClampNeg p1)) then og (vp_in p1 4) (some (1, c8_latest, c8_came, (upd c8_sizes (Int32.toNatClampNeg p1) (-1)))) else ob3 (fX8_meets c8_latest c8_came 1) (fun (r7 : Int32) (s8 : Int32) (s9 : Nat → Int32) => some (r7, s8, s9, c8_sizes))))))
theorem ydX8_tear : yX8_tear.cls = RX8 ∧ yX8_tear.cls ≠ "java/lang/invoke/MethodHandle" ∧ yX8_tear.cls ≠ "java/lang/invoke/VarHandle" ∧ (parseMethodDescriptor yX8_tear.desc).map (fun d => d.parameters.length) = some 1 := by decide +kernel
set_option maxHeartbeats 8000000 in
set_option maxRecDepth 100000 in
theorem kX8_tear (l : Launch) (D : va_G) (cy : Nat → ClassId) (ad : Nat → Nat) (c8_latest : Int32) (c8_asked : Int32) (c8_upper : Int64) (c8_lower : Int64) (c8_legs : Int32) (c8_units : Int32) (c8_rests : Int32) (c8_rates : Int32) (c8_lines : Int32) (c8_came : Nat → Int32) (c8_sizes : Nat → Int32) (c8_weights : Nat → Int32) (c8_growths : Nat → Int32) (c8_copied : Nat → Int32) (c8_legWay : Nat → Int32) (c8_legUnits : Nat → Int32) (c8_legStuff : Nat → Int32) (c8_unitWay : Nat → Int32) (c8_unitStuff : Nat → Int32) (c8_xs : Nat → Int32) (c8_ys : Nat → Int32) (c8_zs : Nat → Int32) (c8_kindOf : Nat → Int32) (c8_placeOf : Nat → Int32) (c8_rateOf : Nat → Int32) (c8_readOf : Nat → Int32) (c8_isGone : Nat → Int32) (c8_theList : Nat → Int32) (c8_amounts : Nat → Int32) (c8_low : Nat → Int32) (c8_high : Nat → Int32) (c8_barred : Nat → Int32) (c8_times : Nat → Int32) (c8_ranges : Nat → Int32) (p1 : Int32) {ra : Int32} {z8_latest : Int32} {z8_came : Nat → Int32} {z8_sizes : Nat → Int32} (hf : fX8_tear c8_latest c8_came c8_sizes p1 = some (ra, z8_latest, z8_came, z8_sizes)) : CI l D cy yX8_tear wsX8_tear ({ frames := 2, cells := 0, slots := 0, locals := 42 } : Room) [.ref (ad 80), .int p1] (w8 cy ad c8_latest c8_asked c8_upper c8_lower c8_legs c8_units c8_rests c8_rates c8_lines c8_came c8_sizes c8_weights c8_growths c8_copied c8_legWay c8_legUnits c8_legStuff c8_unitWay c8_unitStuff c8_xs c8_ys c8_zs c8_kindOf c8_placeOf c8_rateOf c8_readOf c8_isGone c8_theList c8_amounts c8_low c8_high c8_barred c8_times c8_ranges) ra (w8 cy ad z8_latest c8_asked c8_upper c8_lower c8_legs c8_units c8_rests c8_rates c8_lines z8_came z8_sizes c8_weights c8_growths c8_copied c8_legWay c8_legUnits c8_legStuff c8_unitWay c8_unitStuff c8_xs c8_ys c8_zs c8_kindOf c8_placeOf c8_rateOf c8_readOf c8_isGone c8_theList c8_amounts c8_low c8_high c8_barred c8_times c8_ranges) := by
  unfold fX8_tear at hf
  refine c_of_i (ty := .int) (own := RX8) (by decide) rfl rfl (Nat.le_of_ble_eq_true rfl) (fun X hC hRet => ?_)
  refine r_sub [(0, .ref (ad 80)), (1, .int p1)] [0, 1] rfl ?_
  have hin8 : ∀ w ∈ wsX80, w ∈ wsX8_tear := fun w h => List.mem_cons_of_mem _ (List.mem_append_right _ h)
  have hw0 : Cond.fieldLink RX8 13 "HotPipesModel" "sizes" "[I" ∈ wsX8_tear := List.mem_of_getElem? (i := 1) rfl
  refine r_iload_n hC dX8_tear_0 rfl 1 rfl ?_
  obtain ⟨r1, h2, hf⟩ := ob_some hf
  refine r_si (st := []) hC (kX8_isStuff l D cy p1 h2) gX8_tear_X8_isStuff rfl ⟨rfl, rfl⟩ ydX8_isStuff ⟨Nat.le_of_ble_eq_true rfl, Nat.le_of_ble_eq_true rfl⟩ ⟨Nat.le_refl 0, Nat.le_refl 0⟩ _ rfl (Nat.le_of_ble_eq_true rfl) dX8_tear_1 ?_
  refine r_if_ne (tgt := 9) hC dX8_tear_4 (by decide) (fun c3 => ?_) (fun c3 => ?_)
  · replace hf := o_neg hf c3
    refine r_aload_n hC dX8_tear_9 rfl 0 rfl ?_
    refine r_get hC hin8 0 rfl rfl 5 (by decide) rfl hw0 rfl dX8_tear_10 ?_
    refine r_iload_n hC dX8_tear_13 rfl 1 rfl ?_
    obtain ⟨g4, hf⟩ := og_some hf
    refine r_iald hC 2 rfl g4 dX8_tear_14 ?_
    refine r_if_ge (tgt := 24) hC dX8_tear_15 (by decide) (fun c5 => ?_) (fun c5 => ?_)
    · replace hf := o_pos hf c5
      refine r_aload_n hC dX8_tear_24 rfl 0 rfl ?_
      refine r_get hC hin8 0 rfl rfl 5 (by decide) rfl hw0 rfl dX8_tear_25 ?_
      refine r_iload_n hC dX8_tear_28 rfl 1 rfl ?_
      refine r_iconst hC dX8_tear_29 ic_m1 ?_
      obtain ⟨g6, hf⟩ := og_some hf
      refine r_iast hC 2 rfl g6 dX8_tear_30 (w8 cy ad c8_latest c8_asked c8_upper c8_lower c8_legs c8_units c8_rests c8_rates c8_lines c8_came (upd c8_sizes (Int32.toNatClampNeg p1) (-1)) c8_weights c8_growths c8_copied c8_legWay c8_legUnits c8_legStuff c8_unitWay c8_unitStuff c8_xs c8_ys c8_zs c8_kindOf c8_placeOf c8_rateOf c8_readOf c8_isGone c8_theList c8_amounts c8_low c8_high c8_barred c8_times c8_ranges) rfl ?_
      refine r_iconst hC dX8_tear_31 ic_1 ?_
      obtain ⟨rfl, rfl, rfl, rfl⟩ := so_4 hf
      exact hRet _ _ _ dX8_tear_32 rfl
    · replace hf := o_neg hf c5
      refine r_aload_n hC dX8_tear_18 rfl 0 rfl ?_
      refine r_iconst hC dX8_tear_19 ic_1 ?_
      obtain ⟨r7, s8, s9, h10, hf⟩ := ob3_some hf
      refine r_vi (st := []) hC (kX8_meets l D cy ad c8_latest c8_asked c8_upper c8_lower c8_legs c8_units c8_rests c8_rates c8_lines c8_came c8_sizes c8_weights c8_growths c8_copied c8_legWay c8_legUnits c8_legStuff c8_unitWay c8_unitStuff c8_xs c8_ys c8_zs c8_kindOf c8_placeOf c8_rateOf c8_readOf c8_isGone c8_theList c8_amounts c8_low c8_high c8_barred c8_times c8_ranges 1 h10) gX8_tear_X8_meets rfl ⟨rfl, rfl⟩ ydX8_meets ⟨Nat.le_of_ble_eq_true rfl, Nat.le_of_ble_eq_true rfl⟩ ⟨Nat.le_refl 0, Nat.le_refl 0⟩ 0 rfl rfl [] [] rfl _ rfl (Nat.le_of_ble_eq_true rfl) dX8_tear_20 (w8 cy ad s8 c8_asked c8_upper c8_lower c8_legs c8_units c8_rests c8_rates c8_lines s9 c8_sizes c8_weights c8_growths c8_copied c8_legWay c8_legUnits c8_legStuff c8_unitWay c8_unitStuff c8_xs c8_ys c8_zs c8_kindOf c8_placeOf c8_rateOf c8_readOf c8_isGone c8_theList c8_amounts c8_low c8_high c8_barred c8_times c8_ranges) rfl ?_
      obtain ⟨rfl, rfl, rfl, rfl⟩ := so_4 hf
      exact hRet _ _ _ dX8_tear_23 rfl
  · replace hf := o_pos hf c3
    refine r_iconst hC dX8_tear_7 ic_m1 ?_
    obtain ⟨rfl, rfl, rfl, rfl⟩ := so_4 hf
    exact hRet _ _ _ dX8_tear_8 rfl
noncomputable def fX8_copy_L135 (c8_latest : Int32) (c8_came : Nat → Int32) (p3 : Int32) (p4 : Int32) (p5 : Int32) (s28 : Nat → Int32) : Nat → Int32 → (Nat → Int32) → Option (Int32 × Int32 × (Nat → Int32) × (Nat → Int32) × (Nat → Int32))
  | 0, _, _ => none
  | n + 1, x30, s31 => (if p5 ≤ x30 then some (1, c8_latest, c8_came, s31, s28) else og (vp_in x30 16) (og (vp_in (((16 * p3) + p4) + x30) 64) (fX8_copy_L135 c8_latest c8_came p3 p4 p5 s28 n (x30 + 1) (upd s31 (Int32.toNatClampNeg (((16 * p3) + p4) + x30)) (vp_nar .byte (s28 (Int32.toNatClampNeg x30)))))))
noncomputable def fX8_copy_L98 (c8_growths : Nat → Int32) (p1 : Int32) (p2 : Int32) (p5 : Int32) (K132_29 : (Nat → Int32) → Option (Int32 × Int32 × (Nat → Int32) × (Nat → Int32) × (Nat → Int32))) : Nat → Int32 → (Nat → Int32) → Option (Int32 × Int32 × (Nat → Int32) × (Nat → Int32) × (Nat → Int32))
  | 0, _, _ => none
  | n + 1, x35, s36 => (if p5 ≤ x35 then K132_29 s36 else og (vp_in (((16 * p1) + p2) + x35) 64) (og (vp_in x35 16) (fX8_copy_L98 c8_growths p1 p2 p5 K132_29 n (x35 + 1) (upd s36 (Int32.toNatClampNeg x35) (vp_nar .byte (c8_growths (Int32.toNatClampNeg (((16 * p1) + p2) + x35))))))))
noncomputable def fX8_copy (N : Nat) (c8_latest : Int32) (c8_came : Nat → Int32) (c8_sizes : Nat → Int32) (c8_growths : Nat → Int32) (c8_copied : Nat → Int32) (p1 : Int32) (p2 : Int32) (p3 : Int32) (p4 : Int32) (p5 : Int32) : Option (Int32 × Int32 × (Nat → Int32) × (Nat → Int32) × (Nat → Int32)) := ob (fX8_isStuff p1) (fun (r1 : Int32) => (if r1 = 0 then some ((-1), c8_latest, c8_came, c8_growths, c8_copied) else ob (fX8_isStuff p3) (fun (r4 : Int32) => (if r4 = 0 then some ((-1), c8_latest, c8_came, c8_growths, c8_copied) else og (vp_in p1 4) (oj (ob3 (fX8_meets c8_latest c8_came 1) (fun (r9 : Int32) (s10 : Int32) (s11 : Nat → Int32) => some (r9, s10, s11, c8_growths, c8_copied))) (fun (K34_8 : Option (Int32 × Int32 × (Nat → Int32) × (Nat → Int32) × (Nat → Int32))) => (if (c8_sizes (Int32.toNatClampNeg p1)) < 0 then K34_8 else og (vp_in p3 4) ((if 0 ≤ (c8_sizes (Int32.toNatClampNeg p3)) then oj (ob3 (fX8_meets c8_latest c8_came 2) (fun (r17 : Int32) (s18 : Int32) (s19 : Nat → Int32) => some (r17, s18, s19, c8_growths, c8_copied))) (fun (K89_16 : Option (Int32 × Int32 × (Nat → Int32) × (Nat → Int32) × (Nat → Int32))) => (if p2 < 0 then K89_16 else (if p4 < 0 then K89_16 else (if p5 < 0 then K89_16 else og (vp_in p1 4) ((if 0 < (lg_cmp ((Int32.toInt64 p2) + (Int32.toInt64 p5)) (Int32.toInt64 (c8_sizes (Int32.toNatClampNeg p1)))) then K89_16 else og (vp_in p3 4) ((if (lg_cmp ((Int32.toInt64 p4) + (Int32.toInt64 p5)) (Int32.toInt64 (c8_sizes (Int32.toNatClampNeg p3)))) ≤ 0 then oj (fun (s28 : Nat → Int32) => fX8_copy_L135 c8_latest c8_came p3 p4 p5 s28 N 0 c8_growths) (fun (K132_29 : (Nat → Int32) → Option (Int32 × Int32 × (Nat → Int32) × (Nat → Int32) × (Nat → Int32))) => fX8_copy_L98 c8_growths p1 p2 p5 K132_29 N 0 c8_copied) else K89_16)))))))) else K34_8)))))))))
theorem ydX8_copy : yX8_copy.cls = RX8 ∧ yX8_copy.cls ≠ "java/lang/invoke/MethodHandle" ∧ yX8_copy.cls ≠ "java/lang/invoke/VarHandle" ∧ (parseMethodDescriptor yX8_copy.desc).map (fun d => d.parameters.length) = some 5 := by decide +kernel
set_option maxHeartbeats 8000000 in
set_option maxRecDepth 100000 in
theorem kX8_copy (l : Launch) (D : va_G) (cy : Nat → ClassId) (ad : Nat → Nat) (c8_latest : Int32) (c8_asked : Int32) (c8_upper : Int64) (c8_lower : Int64) (c8_legs : Int32) (c8_units : Int32) (c8_rests : Int32) (c8_rates : Int32) (c8_lines : Int32) (c8_came : Nat → Int32) (c8_sizes : Nat → Int32) (c8_weights : Nat → Int32) (c8_growths : Nat → Int32) (c8_copied : Nat → Int32) (c8_legWay : Nat → Int32) (c8_legUnits : Nat → Int32) (c8_legStuff : Nat → Int32) (c8_unitWay : Nat → Int32) (c8_unitStuff : Nat → Int32) (c8_xs : Nat → Int32) (c8_ys : Nat → Int32) (c8_zs : Nat → Int32) (c8_kindOf : Nat → Int32) (c8_placeOf : Nat → Int32) (c8_rateOf : Nat → Int32) (c8_readOf : Nat → Int32) (c8_isGone : Nat → Int32) (c8_theList : Nat → Int32) (c8_amounts : Nat → Int32) (c8_low : Nat → Int32) (c8_high : Nat → Int32) (c8_barred : Nat → Int32) (c8_times : Nat → Int32) (c8_ranges : Nat → Int32) (p1 : Int32) (p2 : Int32) (p3 : Int32) (p4 : Int32) (p5 : Int32) (N : Nat) {ra : Int32} {z8_latest : Int32} {z8_came : Nat → Int32} {z8_growths : Nat → Int32} {z8_copied : Nat → Int32} (hf : fX8_copy N c8_latest c8_came c8_sizes c8_growths c8_copied p1 p2 p3 p4 p5 = some (ra, z8_latest, z8_came, z8_growths, z8_copied)) : CI l D cy yX8_copy wsX8_copy ({ frames := 2, cells := 0, slots := 0, locals := 42 } : Room) [.ref (ad 80), .int p1, .int p2, .int p3, .int p4, .int p5] (w8 cy ad c8_latest c8_asked c8_upper c8_lower c8_legs c8_units c8_rests c8_rates c8_lines c8_came c8_sizes c8_weights c8_growths c8_copied c8_legWay c8_legUnits c8_legStuff c8_unitWay c8_unitStuff c8_xs c8_ys c8_zs c8_kindOf c8_placeOf c8_rateOf c8_readOf c8_isGone c8_theList c8_amounts c8_low c8_high c8_barred c8_times c8_ranges) ra (w8 cy ad z8_latest c8_asked c8_upper c8_lower c8_legs c8_units c8_rests c8_rates c8_lines z8_came c8_sizes c8_weights z8_growths z8_copied c8_legWay c8_legUnits c8_legStuff c8_unitWay c8_unitStuff c8_xs c8_ys c8_zs c8_kindOf c8_placeOf c8_rateOf c8_readOf c8_isGone c8_theList c8_amounts c8_low c8_high c8_barred c8_times c8_ranges) := by
  unfold fX8_copy at hf
  refine c_of_i (ty := .int) (own := RX8) (by decide) rfl rfl (Nat.le_of_ble_eq_true rfl) (fun X hC hRet => ?_)
  refine r_sub [(0, .ref (ad 80)), (1, .int p1), (2, .int p2), (3, .int p3), (4, .int p4), (5, .int p5)] [0, 1, 2, 3, 4, 5] rfl ?_
  have hin8 : ∀ w ∈ wsX80, w ∈ wsX8_copy := fun w h => List.mem_cons_of_mem _ (List.mem_append_right _ h)
  have hw0 : Cond.fieldLink RX8 13 "HotPipesModel" "sizes" "[I" ∈ wsX8_copy := List.mem_of_getElem? (i := 1) rfl
  have hw1 : Cond.fieldLink RX8 19 "HotPipesModel" "growths" "[B" ∈ wsX8_copy := List.mem_of_getElem? (i := 3) rfl
  have hw2 : Cond.fieldLink RX8 23 "HotPipesModel" "copied" "[B" ∈ wsX8_copy := List.mem_of_getElem? (i := 2) rfl
  refine r_iload_n hC dX8_copy_0 rfl 1 rfl ?_
  obtain ⟨r1, h2, hf⟩ := ob_some hf
  refine r_si (st := []) hC (kX8_isStuff l D cy p1 h2) gX8_copy_X8_isStuff rfl ⟨rfl, rfl⟩ ydX8_isStuff ⟨Nat.le_of_ble_eq_true rfl, Nat.le_of_ble_eq_true rfl⟩ ⟨Nat.le_refl 0, Nat.le_refl 0⟩ _ rfl (Nat.le_of_ble_eq_true rfl) dX8_copy_1 ?_
  refine r_if_eq (tgt := 14) hC dX8_copy_4 (by decide) (fun c3 => ?_) (fun c3 => ?_)
  · replace hf := o_pos hf c3
    refine r_iconst hC dX8_copy_14 ic_m1 ?_
    obtain ⟨rfl, rfl, rfl, rfl, rfl⟩ := so_5 hf
    exact hRet _ _ _ dX8_copy_15 rfl
  · replace hf := o_neg hf c3
    refine r_iload_n hC dX8_copy_7 rfl 3 rfl ?_
    obtain ⟨r4, h5, hf⟩ := ob_some hf
    refine r_si (st := []) hC (kX8_isStuff l D cy p3 h5) gX8_copy_X8_isStuff rfl ⟨rfl, rfl⟩ ydX8_isStuff ⟨Nat.le_of_ble_eq_true rfl, Nat.le_of_ble_eq_true rfl⟩ ⟨Nat.le_refl 0, Nat.le_refl 0⟩ _ rfl (Nat.le_of_ble_eq_true rfl) dX8_copy_8 ?_
    refine r_if_ne (tgt := 16) hC dX8_copy_11 (by decide) (fun c6 => ?_) (fun c6 => ?_)
    · replace hf := o_neg hf c6
      refine r_aload_n hC dX8_copy_16 rfl 0 rfl ?_
      refine r_get hC hin8 0 rfl rfl 5 (by decide) rfl hw0 rfl dX8_copy_17 ?_
      refine r_iload_n hC dX8_copy_20 rfl 1 rfl ?_
      obtain ⟨g7, hf⟩ := og_some hf
      refine r_iald hC 2 rfl g7 dX8_copy_21 ?_
      obtain ⟨K34_8, eK34_8, hf⟩ := oj_some hf
      have J34_8 : K34_8 = some (ra, z8_latest, z8_came, z8_growths, z8_copied) → GG X 7 0 0 (w8 cy ad c8_latest c8_asked c8_upper c8_lower c8_legs c8_units c8_rests c8_rates c8_lines c8_came c8_sizes c8_weights c8_growths c8_copied c8_legWay c8_legUnits c8_legStuff c8_unitWay c8_unitStuff c8_xs c8_ys c8_zs c8_kindOf c8_placeOf c8_rateOf c8_readOf c8_isGone c8_theList c8_amounts c8_low c8_high c8_barred c8_times c8_ranges) [(0, .ref (ad 80))] 34 [] := by
        intro hf
        replace hf := oa0 eK34_8 hf
        refine r_aload_n hC dX8_copy_34 rfl 0 rfl ?_
        refine r_iconst hC dX8_copy_35 ic_1 ?_
        obtain ⟨r9, s10, s11, h12, hf⟩ := ob3_some hf
        refine r_vi (st := []) hC (kX8_meets l D cy ad c8_latest c8_asked c8_upper c8_lower c8_legs c8_units c8_rests c8_rates c8_lines c8_came c8_sizes c8_weights c8_growths c8_copied c8_legWay c8_legUnits c8_legStuff c8_unitWay c8_unitStuff c8_xs c8_ys c8_zs c8_kindOf c8_placeOf c8_rateOf c8_readOf c8_isGone c8_theList c8_amounts c8_low c8_high c8_barred c8_times c8_ranges 1 h12) gX8_copy_X8_meets rfl ⟨rfl, rfl⟩ ydX8_meets ⟨Nat.le_of_ble_eq_true rfl, Nat.le_of_ble_eq_true rfl⟩ ⟨Nat.le_refl 0, Nat.le_refl 0⟩ 0 rfl rfl [] [] rfl _ rfl (Nat.le_of_ble_eq_true rfl) dX8_copy_36 (w8 cy ad s10 c8_asked c8_upper c8_lower c8_legs c8_units c8_rests c8_rates c8_lines s11 c8_sizes c8_weights c8_growths c8_copied c8_legWay c8_legUnits c8_legStuff c8_unitWay c8_unitStuff c8_xs c8_ys c8_zs c8_kindOf c8_placeOf c8_rateOf c8_readOf c8_isGone c8_theList c8_amounts c8_low c8_high c8_barred c8_times c8_ranges) rfl ?_
        obtain ⟨rfl, rfl, rfl, rfl, rfl⟩ := so_5 hf
        exact hRet _ _ _ dX8_copy_39 rfl
      refine r_if_lt (tgt := 34) hC dX8_copy_22 (by decide) (fun c13 => ?_) (fun c13 => ?_)
      · replace hf := o_pos hf c13
        refine r_sub [(0, .ref (ad 80))] [0] rfl ?_
        exact J34_8 hf
      · replace hf := o_neg hf c13
        refine r_aload_n hC dX8_copy_25 rfl 0 rfl ?_
        refine r_get hC hin8 0 rfl rfl 5 (by decide) rfl hw0 rfl dX8_copy_26 ?_
        refine r_iload_n hC dX8_copy_29 rfl 3 rfl ?_
        obtain ⟨g14, hf⟩ := og_some hf
        refine r_iald hC 2 rfl g14 dX8_copy_30 ?_
        refine r_if_ge (tgt := 40) hC dX8_copy_31 (by decide) (fun c15 => ?_) (fun c15 => ?_)
        · replace hf := o_pos hf c15
          refine r_iload_n hC dX8_copy_40 rfl 2 rfl ?_
          obtain ⟨K89_16, eK89_16, hf⟩ := oj_some hf
          have J89_16 : K89_16 = some (ra, z8_latest, z8_came, z8_growths, z8_copied) → GG X 7 0 0 (w8 cy ad c8_latest c8_asked c8_upper c8_lower c8_legs c8_units c8_rests c8_rates c8_lines c8_came c8_sizes c8_weights c8_growths c8_copied c8_legWay c8_legUnits c8_legStuff c8_unitWay c8_unitStuff c8_xs c8_ys c8_zs c8_kindOf c8_placeOf c8_rateOf c8_readOf c8_isGone c8_theList c8_amounts c8_low c8_high c8_barred c8_times c8_ranges) [(0, .ref (ad 80))] 89 [] := by
            intro hf
            replace hf := oa0 eK89_16 hf
            refine r_aload_n hC dX8_copy_89 rfl 0 rfl ?_
            refine r_iconst hC dX8_copy_90 ic_2 ?_
            obtain ⟨r17, s18, s19, h20, hf⟩ := ob3_some hf
            refine r_vi (st := []) hC (kX8_meets l D cy ad c8_latest c8_asked c8_upper c8_lower c8_legs c8_units c8_rests c8_rates c8_lines c8_came c8_sizes c8_weights c8_growths c8_copied c8_legWay c8_legUnits c8_legStuff c8_unitWay c8_unitStuff c8_xs c8_ys c8_zs c8_kindOf c8_placeOf c8_rateOf c8_readOf c8_isGone c8_theList c8_amounts c8_low c8_high c8_barred c8_times c8_ranges 2 h20) gX8_copy_X8_meets rfl ⟨rfl, rfl⟩ ydX8_meets ⟨Nat.le_of_ble_eq_true rfl, Nat.le_of_ble_eq_true rfl⟩ ⟨Nat.le_refl 0, Nat.le_refl 0⟩ 0 rfl rfl [] [] rfl _ rfl (Nat.le_of_ble_eq_true rfl) dX8_copy_91 (w8 cy ad s18 c8_asked c8_upper c8_lower c8_legs c8_units c8_rests c8_rates c8_lines s19 c8_sizes c8_weights c8_growths c8_copied c8_legWay c8_legUnits c8_legStuff c8_unitWay c8_unitStuff c8_xs c8_ys c8_zs c8_kindOf c8_placeOf c8_rateOf c8_readOf c8_isGone c8_theList c8_amounts c8_low c8_high c8_barred c8_times c8_ranges) rfl ?_
            obtain ⟨rfl, rfl, rfl, rfl, rfl⟩ := so_5 hf
            exact hRet _ _ _ dX8_copy_94 rfl
          refine r_if_lt (tgt := 89) hC dX8_copy_41 (by decide) (fun c21 => ?_) (fun c21 => ?_)
          · replace hf := o_pos hf c21
            refine r_sub [(0, .ref (ad 80))] [0] rfl ?_
            exact J89_16 hf
          · replace hf := o_neg hf c21
            refine r_iload hC dX8_copy_44 4 rfl ?_
            refine r_if_lt (tgt := 89) hC dX8_copy_46 (by decide) (fun c22 => ?_) (fun c22 => ?_)
            · replace hf := o_pos hf c22
              refine r_sub [(0, .ref (ad 80))] [0] rfl ?_
              exact J89_16 hf
            · replace hf := o_neg hf c22
              refine r_iload hC dX8_copy_49 5 rfl ?_
              refine r_if_lt (tgt := 89) hC dX8_copy_51 (by decide) (fun c23 => ?_) (fun c23 => ?_)
              · replace hf := o_pos hf c23
                refine r_sub [(0, .ref (ad 80))] [0] rfl ?_
                exact J89_16 hf
              · replace hf := o_neg hf c23
                refine r_iload_n hC dX8_copy_54 rfl 2 rfl ?_
                refine r_i2l hC dX8_copy_55 ?_
                refine r_iload hC dX8_copy_56 5 rfl ?_
                refine r_i2l hC dX8_copy_58 ?_
                refine r_ladd hC dX8_copy_59 ?_
                refine r_aload_n hC dX8_copy_60 rfl 0 rfl ?_
                refine r_get hC hin8 0 rfl rfl 5 (by decide) rfl hw0 rfl dX8_copy_61 ?_
                refine r_iload_n hC dX8_copy_64 rfl 1 rfl ?_
                obtain ⟨g24, hf⟩ := og_some hf
                refine r_iald hC 2 rfl g24 dX8_copy_65 ?_
                refine r_i2l hC dX8_copy_66 ?_
                refine r_lcmp hC dX8_copy_67 ?_
                refine r_if_gt (tgt := 89) hC dX8_copy_68 (by decide) (fun c25 => ?_) (fun c25 => ?_)
                · replace hf := o_pos hf c25
                  refine r_sub [(0, .ref (ad 80))] [0] rfl ?_
                  exact J89_16 hf
                · replace hf := o_neg hf c25
                  refine r_iload hC dX8_copy_71 4 rfl ?_
                  refine r_i2l hC dX8_copy_73 ?_
                  refine r_iload hC dX8_copy_74 5 rfl ?_
                  refine r_i2l hC dX8_copy_76 ?_
                  refine r_ladd hC dX8_copy_77 ?_
                  refine r_aload_n hC dX8_copy_78 rfl 0 rfl ?_
                  refine r_get hC hin8 0 rfl rfl 5 (by decide) rfl hw0 rfl dX8_copy_79 ?_
                  refine r_iload_n hC dX8_copy_82 rfl 3 rfl ?_
                  obtain ⟨g26, hf⟩ := og_some hf
                  refine r_iald hC 2 rfl g26 dX8_copy_83 ?_
                  refine r_i2l hC dX8_copy_84 ?_
                  refine r_lcmp hC dX8_copy_85 ?_
                  refine r_if_le (tgt := 95) hC dX8_copy_86 (by decide) (fun c27 => ?_) (fun c27 => ?_)
                  · replace hf := o_pos hf c27
                    refine r_iconst hC dX8_copy_95 ic_0 ?_
                    refine r_istore hC [(6, .int 0), (0, .ref (ad 80)), (1, .int p1), (2, .int p2), (3, .int p3), (4, .int p4), (5, .int p5)] dX8_copy_96 (by decide) rfl ?_
                    obtain ⟨K132_29, eK132_29, hf⟩ := oj_some hf
                    have J132_29 : ∀ (s28 : Nat → Int32), K132_29 s28 = some (ra, z8_latest, z8_came, z8_growths, z8_copied) → GG X 7 0 0 (w8 cy ad c8_latest c8_asked c8_upper c8_lower c8_legs c8_units c8_rests c8_rates c8_lines c8_came c8_sizes c8_weights c8_growths s28 c8_legWay c8_legUnits c8_legStuff c8_unitWay c8_unitStuff c8_xs c8_ys c8_zs c8_kindOf c8_placeOf c8_rateOf c8_readOf c8_isGone c8_theList c8_amounts c8_low c8_high c8_barred c8_times c8_ranges) [(0, .ref (ad 80)), (3, .int p3), (4, .int p4), (5, .int p5)] 132 [] := by
                      intro s28 hf
                      replace hf := oa1 eK132_29 hf
                      refine r_iconst hC dX8_copy_132 ic_0 ?_
                      refine r_istore hC [(6, .int 0), (0, .ref (ad 80)), (3, .int p3), (4, .int p4), (5, .int p5)] dX8_copy_133 (by decide) rfl ?_
                      have L135 : ∀ (n : Nat) (x30 : Int32) (s31 : Nat → Int32), fX8_copy_L135 c8_latest c8_came p3 p4 p5 s28 n x30 s31 = some (ra, z8_latest, z8_came, z8_growths, z8_copied) → GG X 7 0 0 (w8 cy ad c8_latest c8_asked c8_upper c8_lower c8_legs c8_units c8_rests c8_rates c8_lines c8_came c8_sizes c8_weights s31 s28 c8_legWay c8_legUnits c8_legStuff c8_unitWay c8_unitStuff c8_xs c8_ys c8_zs c8_kindOf c8_placeOf c8_rateOf c8_readOf c8_isGone c8_theList c8_amounts c8_low c8_high c8_barred c8_times c8_ranges) [(0, .ref (ad 80)), (3, .int p3), (4, .int p4), (5, .int p5), (6, .int x30)] 135 [] := by
                        intro n
                        induction n with
                        | zero => intro x30 s31 hf; cases (show none = some _ from hf)
                        | succ n ih =>
                          intro x30 s31 hf
                          rw [fX8_copy_L135] at hf
                          refine r_iload hC dX8_copy_135 4 rfl ?_
                          refine r_iload hC dX8_copy_137 3 rfl ?_
                          refine r_icmp_ge (tgt := 170) hC dX8_copy_139 (by decide) (fun c32 => ?_) (fun c32 => ?_)
                          · replace hf := o_pos hf c32
                            refine r_iconst hC dX8_copy_170 ic_1 ?_
                            obtain ⟨rfl, rfl, rfl, rfl, rfl⟩ := so_5 hf
                            exact hRet _ _ _ dX8_copy_171 rfl
                          · replace hf := o_neg hf c32
                            refine r_aload_n hC dX8_copy_142 rfl 0 rfl ?_
                            refine r_get hC hin8 0 rfl rfl 7 (by decide) rfl hw1 rfl dX8_copy_143 ?_
                            refine r_bipush hC dX8_copy_146 bp_16 ?_
                            refine r_iload_n hC dX8_copy_148 rfl 1 rfl ?_
                            refine r_imul hC dX8_copy_149 ?_
                            refine r_iload hC dX8_copy_150 2 rfl ?_
                            refine r_iadd hC dX8_copy_152 ?_
                            refine r_iload hC dX8_copy_153 4 rfl ?_
                            refine r_iadd hC dX8_copy_155 ?_
                            refine r_aload_n hC dX8_copy_156 rfl 0 rfl ?_
                            refine r_get hC hin8 0 rfl rfl 8 (by decide) rfl hw2 rfl dX8_copy_157 ?_
                            refine r_iload hC dX8_copy_160 4 rfl ?_
                            obtain ⟨g33, hf⟩ := og_some hf
                            refine r_bald hC 5 rfl g33 dX8_copy_162 ?_
                            obtain ⟨g34, hf⟩ := og_some hf
                            refine r_bast hC 4 rfl g34 dX8_copy_163 (w8 cy ad c8_latest c8_asked c8_upper c8_lower c8_legs c8_units c8_rests c8_rates c8_lines c8_came c8_sizes c8_weights (upd s31 (Int32.toNatClampNeg (((16 * p3) + p4) + x30)) (vp_nar .byte (s28 (Int32.toNatClampNeg x30)))) s28 c8_legWay c8_legUnits c8_legStuff c8_unitWay c8_unitStuff c8_xs c8_ys c8_zs c8_kindOf c8_placeOf c8_rateOf c8_readOf c8_isGone c8_theList c8_amounts c8_low c8_high c8_barred c8_times c8_ranges) rfl ?_
                            refine r_iinc hC [(6, .int (x30 + 1)), (0, .ref (ad 80)), (3, .int p3), (4, .int p4), (5, .int p5)] (x30 + 1) dX8_copy_164 4 rfl (ii_1 _) (by decide) rfl ?_
                            refine r_goto (tgt := 135) hC dX8_copy_167 (by decide) ?_
                            refine r_sub [(0, .ref (ad 80)), (3, .int p3), (4, .int p4), (5, .int p5), (6, .int (x30 + 1))] [1, 2, 3, 4, 0] rfl ?_
                            exact ih (x30 + 1) (upd s31 (Int32.toNatClampNeg (((16 * p3) + p4) + x30)) (vp_nar .byte (s28 (Int32.toNatClampNeg x30)))) hf
                      refine r_sub [(0, .ref (ad 80)), (3, .int p3), (4, .int p4), (5, .int p5), (6, .int 0)] [1, 2, 3, 4, 0] rfl ?_
                      exact L135 N 0 c8_growths hf
                    have L98 : ∀ (n : Nat) (x35 : Int32) (s36 : Nat → Int32), fX8_copy_L98 c8_growths p1 p2 p5 K132_29 n x35 s36 = some (ra, z8_latest, z8_came, z8_growths, z8_copied) → GG X 7 0 0 (w8 cy ad c8_latest c8_asked c8_upper c8_lower c8_legs c8_units c8_rests c8_rates c8_lines c8_came c8_sizes c8_weights c8_growths s36 c8_legWay c8_legUnits c8_legStuff c8_unitWay c8_unitStuff c8_xs c8_ys c8_zs c8_kindOf c8_placeOf c8_rateOf c8_readOf c8_isGone c8_theList c8_amounts c8_low c8_high c8_barred c8_times c8_ranges) [(0, .ref (ad 80)), (1, .int p1), (2, .int p2), (3, .int p3), (4, .int p4), (5, .int p5), (6, .int x35)] 98 [] := by
                      intro n
                      induction n with
                      | zero => intro x35 s36 hf; cases (show none = some _ from hf)
                      | succ n ih =>
                        intro x35 s36 hf
                        rw [fX8_copy_L98] at hf
                        refine r_iload hC dX8_copy_98 6 rfl ?_
                        refine r_iload hC dX8_copy_100 5 rfl ?_
                        refine r_icmp_ge (tgt := 132) hC dX8_copy_102 (by decide) (fun c37 => ?_) (fun c37 => ?_)
                        · replace hf := o_pos hf c37
                          refine r_sub [(0, .ref (ad 80)), (3, .int p3), (4, .int p4), (5, .int p5)] [0, 3, 4, 5] rfl ?_
                          exact J132_29 s36 hf
                        · replace hf := o_neg hf c37
                          refine r_aload_n hC dX8_copy_105 rfl 0 rfl ?_
                          refine r_get hC hin8 0 rfl rfl 8 (by decide) rfl hw2 rfl dX8_copy_106 ?_
                          refine r_iload hC dX8_copy_109 6 rfl ?_
                          refine r_aload_n hC dX8_copy_111 rfl 0 rfl ?_
                          refine r_get hC hin8 0 rfl rfl 7 (by decide) rfl hw1 rfl dX8_copy_112 ?_
                          refine r_bipush hC dX8_copy_115 bp_16 ?_
                          refine r_iload_n hC dX8_copy_117 rfl 1 rfl ?_
                          refine r_imul hC dX8_copy_118 ?_
                          refine r_iload_n hC dX8_copy_119 rfl 2 rfl ?_
                          refine r_iadd hC dX8_copy_120 ?_
                          refine r_iload hC dX8_copy_121 6 rfl ?_
                          refine r_iadd hC dX8_copy_123 ?_
                          obtain ⟨g38, hf⟩ := og_some hf
                          refine r_bald hC 4 rfl g38 dX8_copy_124 ?_
                          obtain ⟨g39, hf⟩ := og_some hf
                          refine r_bast hC 5 rfl g39 dX8_copy_125 (w8 cy ad c8_latest c8_asked c8_upper c8_lower c8_legs c8_units c8_rests c8_rates c8_lines c8_came c8_sizes c8_weights c8_growths (upd s36 (Int32.toNatClampNeg x35) (vp_nar .byte (c8_growths (Int32.toNatClampNeg (((16 * p1) + p2) + x35))))) c8_legWay c8_legUnits c8_legStuff c8_unitWay c8_unitStuff c8_xs c8_ys c8_zs c8_kindOf c8_placeOf c8_rateOf c8_readOf c8_isGone c8_theList c8_amounts c8_low c8_high c8_barred c8_times c8_ranges) rfl ?_
                          refine r_iinc hC [(6, .int (x35 + 1)), (0, .ref (ad 80)), (1, .int p1), (2, .int p2), (3, .int p3), (4, .int p4), (5, .int p5)] (x35 + 1) dX8_copy_126 6 rfl (ii_1 _) (by decide) rfl ?_
                          refine r_goto (tgt := 98) hC dX8_copy_129 (by decide) ?_
                          refine r_sub [(0, .ref (ad 80)), (1, .int p1), (2, .int p2), (3, .int p3), (4, .int p4), (5, .int p5), (6, .int (x35 + 1))] [1, 2, 3, 4, 5, 6, 0] rfl ?_
                          exact ih (x35 + 1) (upd s36 (Int32.toNatClampNeg x35) (vp_nar .byte (c8_growths (Int32.toNatClampNeg (((16 * p1) + p2) + x35))))) hf
                    refine r_sub [(0, .ref (ad 80)), (1, .int p1), (2, .int p2), (3, .int p3), (4, .int p4), (5, .int p5), (6, .int 0)] [1, 2, 3, 4, 5, 6, 0] rfl ?_
                    exact L98 N 0 c8_copied hf
                  · replace hf := o_neg hf c27
                    refine r_sub [(0, .ref (ad 80))] [0] rfl ?_
                    exact J89_16 hf
        · replace hf := o_neg hf c15
          refine r_sub [(0, .ref (ad 80))] [0] rfl ?_
          exact J34_8 hf
    · replace hf := o_pos hf c6
      refine r_iconst hC dX8_copy_14 ic_m1 ?_
      obtain ⟨rfl, rfl, rfl, rfl, rfl⟩ := so_5 hf
      exact hRet _ _ _ dX8_copy_15 rfl
noncomputable def fX8_weigh (c8_weights : Nat → Int32) (p1 : Int32) (p2 : Int32) : Option (Int32 × (Nat → Int32)) := ob (fX8_isStuff p1) (fun (r1 : Int32) => (if r1 = 0 then some ((-1), c8_weights) else ob (fX8_in p2 1 50) (fun (r4 : Int32) => (if r4 = 0 then some ((-1), c8_weights) else og (vp_in p1 4) (olet (c8_weights (Int32.toNatClampNeg p1)) (fun (x8 : Int32) => og (vp_in p1 4) (some (x8, (upd c8_weights (Int32.toNatClampNeg p1) p2)))))))))
theorem ydX8_weigh : yX8_weigh.cls = RX8 ∧ yX8_weigh.cls ≠ "java/lang/invoke/MethodHandle" ∧ yX8_weigh.cls ≠ "java/lang/invoke/VarHandle" ∧ (parseMethodDescriptor yX8_weigh.desc).map (fun d => d.parameters.length) = some 2 := by decide +kernel
set_option maxHeartbeats 8000000 in
set_option maxRecDepth 100000 in
theorem kX8_weigh (l : Launch) (D : va_G) (cy : Nat → ClassId) (ad : Nat → Nat) (c8_latest : Int32) (c8_asked : Int32) (c8_upper : Int64) (c8_lower : Int64) (c8_legs : Int32) (c8_units : Int32) (c8_rests : Int32) (c8_rates : Int32) (c8_lines : Int32) (c8_came : Nat → Int32) (c8_sizes : Nat → Int32) (c8_weights : Nat → Int32) (c8_growths : Nat → Int32) (c8_copied : Nat → Int32) (c8_legWay : Nat → Int32) (c8_legUnits : Nat → Int32) (c8_legStuff : Nat → Int32) (c8_unitWay : Nat → Int32) (c8_unitStuff : Nat → Int32) (c8_xs : Nat → Int32) (c8_ys : Nat → Int32) (c8_zs : Nat → Int32) (c8_kindOf : Nat → Int32) (c8_placeOf : Nat → Int32) (c8_rateOf : Nat → Int32) (c8_readOf : Nat → Int32) (c8_isGone : Nat → Int32) (c8_theList : Nat → Int32) (c8_amounts : Nat → Int32) (c8_low : Nat → Int32) (c8_high : Nat → Int32) (c8_barred : Nat → Int32) (c8_times : Nat → Int32) (c8_ranges : Nat → Int32) (p1 : Int32) (p2 : Int32) {ra : Int32} {z8_weights : Nat → Int32} (hf : fX8_weigh c8_weights p1 p2 = some (ra, z8_weights)) : CI l D cy yX8_weigh wsX8_weigh ({ frames := 2, cells := 0, slots := 0, locals := 42 } : Room) [.ref (ad 80), .int p1, .int p2] (w8 cy ad c8_latest c8_asked c8_upper c8_lower c8_legs c8_units c8_rests c8_rates c8_lines c8_came c8_sizes c8_weights c8_growths c8_copied c8_legWay c8_legUnits c8_legStuff c8_unitWay c8_unitStuff c8_xs c8_ys c8_zs c8_kindOf c8_placeOf c8_rateOf c8_readOf c8_isGone c8_theList c8_amounts c8_low c8_high c8_barred c8_times c8_ranges) ra (w8 cy ad c8_latest c8_asked c8_upper c8_lower c8_legs c8_units c8_rests c8_rates c8_lines c8_came c8_sizes z8_weights c8_growths c8_copied c8_legWay c8_legUnits c8_legStuff c8_unitWay c8_unitStuff c8_xs c8_ys c8_zs c8_kindOf c8_placeOf c8_rateOf c8_readOf c8_isGone c8_theList c8_amounts c8_low c8_high c8_barred c8_times c8_ranges) := by
  unfold fX8_weigh at hf
  refine c_of_i (ty := .int) (own := RX8) (by decide) rfl rfl (Nat.le_of_ble_eq_true rfl) (fun X hC hRet => ?_)
  refine r_sub [(0, .ref (ad 80)), (1, .int p1), (2, .int p2)] [0, 1, 2] rfl ?_
  have hin8 : ∀ w ∈ wsX80, w ∈ wsX8_weigh := fun w h => List.mem_cons_of_mem _ (List.mem_append_right _ h)
  have hw0 : Cond.fieldLink RX8 16 "HotPipesModel" "weights" "[I" ∈ wsX8_weigh := List.mem_of_getElem? (i := 1) rfl
  refine r_iload_n hC dX8_weigh_0 rfl 1 rfl ?_
  obtain ⟨r1, h2, hf⟩ := ob_some hf
  refine r_si (st := []) hC (kX8_isStuff l D cy p1 h2) gX8_weigh_X8_isStuff rfl ⟨rfl, rfl⟩ ydX8_isStuff ⟨Nat.le_of_ble_eq_true rfl, Nat.le_of_ble_eq_true rfl⟩ ⟨Nat.le_refl 0, Nat.le_refl 0⟩ _ rfl (Nat.le_of_ble_eq_true rfl) dX8_weigh_1 ?_
  refine r_if_eq (tgt := 17) hC dX8_weigh_4 (by decide) (fun c3 => ?_) (fun c3 => ?_)
  · replace hf := o_pos hf c3
    refine r_iconst hC dX8_weigh_17 ic_m1 ?_
    obtain ⟨rfl, rfl⟩ := so_2 hf
    exact hRet _ _ _ dX8_weigh_18 rfl
  · replace hf := o_neg hf c3
    refine r_iload_n hC dX8_weigh_7 rfl 2 rfl ?_
    refine r_iconst hC dX8_weigh_8 ic_1 ?_
    refine r_bipush hC dX8_weigh_9 bp_50 ?_
    obtain ⟨r4, h5, hf⟩ := ob_some hf
    refine r_si (st := []) hC (kX8_in l D cy p2 1 50 h5) gX8_weigh_X8_in rfl ⟨rfl, rfl⟩ ydX8_in ⟨Nat.le_of_ble_eq_true rfl, Nat.le_of_ble_eq_true rfl⟩ ⟨Nat.le_refl 0, Nat.le_refl 0⟩ _ rfl (Nat.le_of_ble_eq_true rfl) dX8_weigh_11 ?_
    refine r_if_ne (tgt := 19) hC dX8_weigh_14 (by decide) (fun c6 => ?_) (fun c6 => ?_)
    · replace hf := o_neg hf c6
      refine r_aload_n hC dX8_weigh_19 rfl 0 rfl ?_
      refine r_get hC hin8 0 rfl rfl 6 (by decide) rfl hw0 rfl dX8_weigh_20 ?_
      refine r_iload_n hC dX8_weigh_23 rfl 1 rfl ?_
      obtain ⟨g7, hf⟩ := og_some hf
      refine r_iald hC 3 rfl g7 dX8_weigh_24 ?_
      refine r_topi (fun x8 ex8 => ?_)
      replace hf := olet_some hf ex8
      refine r_istore_n hC [(3, .int x8), (0, .ref (ad 80)), (1, .int p1), (2, .int p2)] dX8_weigh_25 rfl (by decide) rfl ?_
      refine r_aload_n hC dX8_weigh_26 rfl 1 rfl ?_
      refine r_get hC hin8 0 rfl rfl 6 (by decide) rfl hw0 rfl dX8_weigh_27 ?_
      refine r_iload_n hC dX8_weigh_30 rfl 2 rfl ?_
      refine r_iload_n hC dX8_weigh_31 rfl 3 rfl ?_
      obtain ⟨g9, hf⟩ := og_some hf
      refine r_iast hC 3 rfl g9 dX8_weigh_32 (w8 cy ad c8_latest c8_asked c8_upper c8_lower c8_legs c8_units c8_rests c8_rates c8_lines c8_came c8_sizes (upd c8_weights (Int32.toNatClampNeg p1) p2) c8_growths c8_copied c8_legWay c8_legUnits c8_legStuff c8_unitWay c8_unitStuff c8_xs c8_ys c8_zs c8_kindOf c8_placeOf c8_rateOf c8_readOf c8_isGone c8_theList c8_amounts c8_low c8_high c8_barred c8_times c8_ranges) rfl ?_
      refine r_iload_n hC dX8_weigh_33 rfl 0 rfl ?_
      obtain ⟨rfl, rfl⟩ := so_2 hf
      exact hRet _ _ _ dX8_weigh_34 rfl
    · replace hf := o_pos hf c6
      refine r_iconst hC dX8_weigh_17 ic_m1 ?_
      obtain ⟨rfl, rfl⟩ := so_2 hf
      exact hRet _ _ _ dX8_weigh_18 rfl
noncomputable def fX8_mean_L43 (c8_sizes : Nat → Int32) (c8_growths : Nat → Int32) (p1 : Int32) (K73_9 : Int32 → Option (Int32 × Int32 × (Nat → Int32))) : Nat → Int32 → Int32 → Option (Int32 × Int32 × (Nat → Int32))
  | 0, _, _ => none
  | n + 1, x12, x13 => og (vp_in p1 4) ((if (c8_sizes (Int32.toNatClampNeg p1)) ≤ x13 then K73_9 x12 else og (vp_in ((16 * p1) + x13) 64) (olet (x12 + (c8_growths (Int32.toNatClampNeg ((16 * p1) + x13)))) (fun (x17 : Int32) => fX8_mean_L43 c8_sizes c8_growths p1 K73_9 n x17 (x13 + 1)))))
noncomputable def fX8_mean (N : Nat) (c8_latest : Int32) (c8_came : Nat → Int32) (c8_sizes : Nat → Int32) (c8_growths : Nat → Int32) (p1 : Int32) : Option (Int32 × Int32 × (Nat → Int32)) := ob (fX8_isStuff p1) (fun (r1 : Int32) => (if r1 = 0 then some ((-1), c8_latest, c8_came) else og (vp_in p1 4) ((if 0 ≤ (c8_sizes (Int32.toNatClampNeg p1)) then og (vp_in p1 4) ((if (c8_sizes (Int32.toNatClampNeg p1)) = 0 then ob3 (fX8_meets c8_latest c8_came 4) (fun (r18 : Int32) (s19 : Int32) (s20 : Nat → Int32) => some (r18, s19, s20)) else oj (fun (x8 : Int32) => og (vp_in p1 4) (og (¬ (c8_sizes (Int32.toNatClampNeg p1)) = 0) (some ((x8 / (c8_sizes (Int32.toNatClampNeg p1))), c8_latest, c8_came)))) (fun (K73_9 : Int32 → Option (Int32 × Int32 × (Nat → Int32))) => fX8_mean_L43 c8_sizes c8_growths p1 K73_9 N 0 0))) else ob3 (fX8_meets c8_latest c8_came 1) (fun (r22 : Int32) (s23 : Int32) (s24 : Nat → Int32) => some (r22, s23, s24))))))
theorem ydX8_mean : yX8_mean.cls = RX8 ∧ yX8_mean.cls ≠ "java/lang/invoke/MethodHandle" ∧ yX8_mean.cls ≠ "java/lang/invoke/VarHandle" ∧ (parseMethodDescriptor yX8_mean.desc).map (fun d => d.parameters.length) = some 1 := by decide +kernel
set_option maxHeartbeats 8000000 in
set_option maxRecDepth 100000 in
theorem kX8_mean (l : Launch) (D : va_G) (cy : Nat → ClassId) (ad : Nat → Nat) (c8_latest : Int32) (c8_asked : Int32) (c8_upper : Int64) (c8_lower : Int64) (c8_legs : Int32) (c8_units : Int32) (c8_rests : Int32) (c8_rates : Int32) (c8_lines : Int32) (c8_came : Nat → Int32) (c8_sizes : Nat → Int32) (c8_weights : Nat → Int32) (c8_growths : Nat → Int32) (c8_copied : Nat → Int32) (c8_legWay : Nat → Int32) (c8_legUnits : Nat → Int32) (c8_legStuff : Nat → Int32) (c8_unitWay : Nat → Int32) (c8_unitStuff : Nat → Int32) (c8_xs : Nat → Int32) (c8_ys : Nat → Int32) (c8_zs : Nat → Int32) (c8_kindOf : Nat → Int32) (c8_placeOf : Nat → Int32) (c8_rateOf : Nat → Int32) (c8_readOf : Nat → Int32) (c8_isGone : Nat → Int32) (c8_theList : Nat → Int32) (c8_amounts : Nat → Int32) (c8_low : Nat → Int32) (c8_high : Nat → Int32) (c8_barred : Nat → Int32) (c8_times : Nat → Int32) (c8_ranges : Nat → Int32) (p1 : Int32) (N : Nat) {ra : Int32} {z8_latest : Int32} {z8_came : Nat → Int32} (hf : fX8_mean N c8_latest c8_came c8_sizes c8_growths p1 = some (ra, z8_latest, z8_came)) : CI l D cy yX8_mean wsX8_mean ({ frames := 2, cells := 0, slots := 0, locals := 42 } : Room) [.ref (ad 80), .int p1] (w8 cy ad c8_latest c8_asked c8_upper c8_lower c8_legs c8_units c8_rests c8_rates c8_lines c8_came c8_sizes c8_weights c8_growths c8_copied c8_legWay c8_legUnits c8_legStuff c8_unitWay c8_unitStuff c8_xs c8_ys c8_zs c8_kindOf c8_placeOf c8_rateOf c8_readOf c8_isGone c8_theList c8_amounts c8_low c8_high c8_barred c8_times c8_ranges) ra (w8 cy ad z8_latest c8_asked c8_upper c8_lower c8_legs c8_units c8_rests c8_rates c8_lines z8_came c8_sizes c8_weights c8_growths c8_copied c8_legWay c8_legUnits c8_legStuff c8_unitWay c8_unitStuff c8_xs c8_ys c8_zs c8_kindOf c8_placeOf c8_rateOf c8_readOf c8_isGone c8_theList c8_amounts c8_low c8_high c8_barred c8_times c8_ranges) := by
  unfold fX8_mean at hf
  refine c_of_i (ty := .int) (own := RX8) (by decide) rfl rfl (Nat.le_of_ble_eq_true rfl) (fun X hC hRet => ?_)
  refine r_sub [(0, .ref (ad 80)), (1, .int p1)] [0, 1] rfl ?_
  have hin8 : ∀ w ∈ wsX80, w ∈ wsX8_mean := fun w h => List.mem_cons_of_mem _ (List.mem_append_right _ h)
  have hw0 : Cond.fieldLink RX8 13 "HotPipesModel" "sizes" "[I" ∈ wsX8_mean := List.mem_of_getElem? (i := 1) rfl
  have hw1 : Cond.fieldLink RX8 19 "HotPipesModel" "growths" "[B" ∈ wsX8_mean := List.mem_of_getElem? (i := 2) rfl
  refine r_iload_n hC dX8_mean_0 rfl 1 rfl ?_
  obtain ⟨r1, h2, hf⟩ := ob_some hf
  refine r_si (st := []) hC (kX8_isStuff l D cy p1 h2) gX8_mean_X8_isStuff rfl ⟨rfl, rfl⟩ ydX8_isStuff ⟨Nat.le_of_ble_eq_true rfl, Nat.le_of_ble_eq_true rfl⟩ ⟨Nat.le_refl 0, Nat.le_refl 0⟩ _ rfl (Nat.le_of_ble_eq_true rfl) dX8_mean_1 ?_
  refine r_if_ne (tgt := 9) hC dX8_mean_4 (by decide) (fun c3 => ?_) (fun c3 => ?_)
  · replace hf := o_neg hf c3
    refine r_aload_n hC dX8_mean_9 rfl 0 rfl ?_
    refine r_get hC hin8 0 rfl rfl 5 (by decide) rfl hw0 rfl dX8_mean_10 ?_
    refine r_iload_n hC dX8_mean_13 rfl 1 rfl ?_
    obtain ⟨g4, hf⟩ := og_some hf
    refine r_iald hC 2 rfl g4 dX8_mean_14 ?_
    refine r_if_ge (tgt := 24) hC dX8_mean_15 (by decide) (fun c5 => ?_) (fun c5 => ?_)
    · replace hf := o_pos hf c5
      refine r_aload_n hC dX8_mean_24 rfl 0 rfl ?_
      refine r_get hC hin8 0 rfl rfl 5 (by decide) rfl hw0 rfl dX8_mean_25 ?_
      refine r_iload_n hC dX8_mean_28 rfl 1 rfl ?_
      obtain ⟨g6, hf⟩ := og_some hf
      refine r_iald hC 2 rfl g6 dX8_mean_29 ?_
      refine r_if_ne (tgt := 39) hC dX8_mean_30 (by decide) (fun c7 => ?_) (fun c7 => ?_)
      · replace hf := o_neg hf c7
        refine r_iconst hC dX8_mean_39 ic_0 ?_
        refine r_istore_n hC [(2, .int 0), (0, .ref (ad 80)), (1, .int p1)] dX8_mean_40 rfl (by decide) rfl ?_
        refine r_iconst hC dX8_mean_41 ic_0 ?_
        refine r_istore_n hC [(3, .int 0), (2, .int 0), (0, .ref (ad 80)), (1, .int p1)] dX8_mean_42 rfl (by decide) rfl ?_
        obtain ⟨K73_9, eK73_9, hf⟩ := oj_some hf
        have J73_9 : ∀ (x8 : Int32), K73_9 x8 = some (ra, z8_latest, z8_came) → GG X 4 0 0 (w8 cy ad c8_latest c8_asked c8_upper c8_lower c8_legs c8_units c8_rests c8_rates c8_lines c8_came c8_sizes c8_weights c8_growths c8_copied c8_legWay c8_legUnits c8_legStuff c8_unitWay c8_unitStuff c8_xs c8_ys c8_zs c8_kindOf c8_placeOf c8_rateOf c8_readOf c8_isGone c8_theList c8_amounts c8_low c8_high c8_barred c8_times c8_ranges) [(0, .ref (ad 80)), (1, .int p1), (2, .int x8)] 73 [] := by
          intro x8 hf
          replace hf := oa1 eK73_9 hf
          refine r_iload_n hC dX8_mean_73 rfl 2 rfl ?_
          refine r_aload_n hC dX8_mean_74 rfl 0 rfl ?_
          refine r_get hC hin8 0 rfl rfl 5 (by decide) rfl hw0 rfl dX8_mean_75 ?_
          refine r_iload_n hC dX8_mean_78 rfl 1 rfl ?_
          obtain ⟨g10, hf⟩ := og_some hf
          refine r_iald hC 2 rfl g10 dX8_mean_79 ?_
          obtain ⟨g11, hf⟩ := og_some hf
          refine r_idiv hC dX8_mean_80 g11 ?_
          obtain ⟨rfl, rfl, rfl⟩ := so_3 hf
          exact hRet _ _ _ dX8_mean_81 rfl
        have L43 : ∀ (n : Nat) (x12 : Int32) (x13 : Int32), fX8_mean_L43 c8_sizes c8_growths p1 K73_9 n x12 x13 = some (ra, z8_latest, z8_came) → GG X 4 0 0 (w8 cy ad c8_latest c8_asked c8_upper c8_lower c8_legs c8_units c8_rests c8_rates c8_lines c8_came c8_sizes c8_weights c8_growths c8_copied c8_legWay c8_legUnits c8_legStuff c8_unitWay c8_unitStuff c8_xs c8_ys c8_zs c8_kindOf c8_placeOf c8_rateOf c8_readOf c8_isGone c8_theList c8_amounts c8_low c8_high c8_barred c8_times c8_ranges) [(0, .ref (ad 80)), (1, .int p1), (2, .int x12), (3, .int x13)] 43 [] := by
          intro n
          induction n with
          | zero => intro x12 x13 hf; cases (show none = some _ from hf)
          | succ n ih =>
            intro x12 x13 hf
            rw [fX8_mean_L43] at hf
            refine r_iload_n hC dX8_mean_43 rfl 3 rfl ?_
            refine r_aload_n hC dX8_mean_44 rfl 0 rfl ?_
            refine r_get hC hin8 0 rfl rfl 5 (by decide) rfl hw0 rfl dX8_mean_45 ?_
            refine r_iload_n hC dX8_mean_48 rfl 1 rfl ?_
            obtain ⟨g14, hf⟩ := og_some hf
            refine r_iald hC 2 rfl g14 dX8_mean_49 ?_
            refine r_icmp_ge (tgt := 73) hC dX8_mean_50 (by decide) (fun c15 => ?_) (fun c15 => ?_)
            · replace hf := o_pos hf c15
              refine r_sub [(0, .ref (ad 80)), (1, .int p1), (2, .int x12)] [0, 1, 2] rfl ?_
              exact J73_9 x12 hf
            · replace hf := o_neg hf c15
              refine r_iload_n hC dX8_mean_53 rfl 2 rfl ?_
              refine r_aload_n hC dX8_mean_54 rfl 0 rfl ?_
              refine r_get hC hin8 0 rfl rfl 7 (by decide) rfl hw1 rfl dX8_mean_55 ?_
              refine r_bipush hC dX8_mean_58 bp_16 ?_
              refine r_iload_n hC dX8_mean_60 rfl 1 rfl ?_
              refine r_imul hC dX8_mean_61 ?_
              refine r_iload_n hC dX8_mean_62 rfl 3 rfl ?_
              refine r_iadd hC dX8_mean_63 ?_
              obtain ⟨g16, hf⟩ := og_some hf
              refine r_bald hC 4 rfl g16 dX8_mean_64 ?_
              refine r_iadd hC dX8_mean_65 ?_
              refine r_topi (fun x17 ex17 => ?_)
              replace hf := olet_some hf ex17
              refine r_istore_n hC [(2, .int x17), (0, .ref (ad 80)), (1, .int p1), (3, .int x13)] dX8_mean_66 rfl (by decide) rfl ?_
              refine r_iinc hC [(3, .int (x13 + 1)), (2, .int x17), (0, .ref (ad 80)), (1, .int p1)] (x13 + 1) dX8_mean_67 3 rfl (ii_1 _) (by decide) rfl ?_
              refine r_goto (tgt := 43) hC dX8_mean_70 (by decide) ?_
              refine r_sub [(0, .ref (ad 80)), (1, .int p1), (2, .int x17), (3, .int (x13 + 1))] [2, 3, 1, 0] rfl ?_
              exact ih x17 (x13 + 1) hf
        refine r_sub [(0, .ref (ad 80)), (1, .int p1), (2, .int 0), (3, .int 0)] [2, 3, 1, 0] rfl ?_
        exact L43 N 0 0 hf
      · replace hf := o_pos hf c7
        refine r_aload_n hC dX8_mean_33 rfl 0 rfl ?_
        refine r_iconst hC dX8_mean_34 ic_4 ?_
        obtain ⟨r18, s19, s20, h21, hf⟩ := ob3_some hf
        refine r_vi (st := []) hC (kX8_meets l D cy ad c8_latest c8_asked c8_upper c8_lower c8_legs c8_units c8_rests c8_rates c8_lines c8_came c8_sizes c8_weights c8_growths c8_copied c8_legWay c8_legUnits c8_legStuff c8_unitWay c8_unitStuff c8_xs c8_ys c8_zs c8_kindOf c8_placeOf c8_rateOf c8_readOf c8_isGone c8_theList c8_amounts c8_low c8_high c8_barred c8_times c8_ranges 4 h21) gX8_mean_X8_meets rfl ⟨rfl, rfl⟩ ydX8_meets ⟨Nat.le_of_ble_eq_true rfl, Nat.le_of_ble_eq_true rfl⟩ ⟨Nat.le_refl 0, Nat.le_refl 0⟩ 0 rfl rfl [] [] rfl _ rfl (Nat.le_of_ble_eq_true rfl) dX8_mean_35 (w8 cy ad s19 c8_asked c8_upper c8_lower c8_legs c8_units c8_rests c8_rates c8_lines s20 c8_sizes c8_weights c8_growths c8_copied c8_legWay c8_legUnits c8_legStuff c8_unitWay c8_unitStuff c8_xs c8_ys c8_zs c8_kindOf c8_placeOf c8_rateOf c8_readOf c8_isGone c8_theList c8_amounts c8_low c8_high c8_barred c8_times c8_ranges) rfl ?_
        obtain ⟨rfl, rfl, rfl⟩ := so_3 hf
        exact hRet _ _ _ dX8_mean_38 rfl
    · replace hf := o_neg hf c5
      refine r_aload_n hC dX8_mean_18 rfl 0 rfl ?_
      refine r_iconst hC dX8_mean_19 ic_1 ?_
      obtain ⟨r22, s23, s24, h25, hf⟩ := ob3_some hf
      refine r_vi (st := []) hC (kX8_meets l D cy ad c8_latest c8_asked c8_upper c8_lower c8_legs c8_units c8_rests c8_rates c8_lines c8_came c8_sizes c8_weights c8_growths c8_copied c8_legWay c8_legUnits c8_legStuff c8_unitWay c8_unitStuff c8_xs c8_ys c8_zs c8_kindOf c8_placeOf c8_rateOf c8_readOf c8_isGone c8_theList c8_amounts c8_low c8_high c8_barred c8_times c8_ranges 1 h25) gX8_mean_X8_meets rfl ⟨rfl, rfl⟩ ydX8_meets ⟨Nat.le_of_ble_eq_true rfl, Nat.le_of_ble_eq_true rfl⟩ ⟨Nat.le_refl 0, Nat.le_refl 0⟩ 0 rfl rfl [] [] rfl _ rfl (Nat.le_of_ble_eq_true rfl) dX8_mean_20 (w8 cy ad s23 c8_asked c8_upper c8_lower c8_legs c8_units c8_rests c8_rates c8_lines s24 c8_sizes c8_weights c8_growths c8_copied c8_legWay c8_legUnits c8_legStuff c8_unitWay c8_unitStuff c8_xs c8_ys c8_zs c8_kindOf c8_placeOf c8_rateOf c8_readOf c8_isGone c8_theList c8_amounts c8_low c8_high c8_barred c8_times c8_ranges) rfl ?_
      obtain ⟨rfl, rfl, rfl⟩ := so_3 hf
      exact hRet _ _ _ dX8_mean_23 rfl
  · replace hf := o_pos hf c3
    refine r_iconst hC dX8_mean_7 ic_m1 ?_
    obtain ⟨rfl, rfl, rfl⟩ := so_3 hf
    exact hRet _ _ _ dX8_mean_8 rfl
noncomputable def fX8_growth (c8_sizes : Nat → Int32) (c8_growths : Nat → Int32) (p1 : Int32) (p2 : Int32) : Option (Int32) := og (vp_in p1 4) ((if (c8_sizes (Int32.toNatClampNeg p1)) ≤ p2 then some 0 else og (vp_in ((16 * p1) + p2) 64) (some (c8_growths (Int32.toNatClampNeg ((16 * p1) + p2))))))
theorem ydX8_growth : yX8_growth.cls = RX8 ∧ yX8_growth.cls ≠ "java/lang/invoke/MethodHandle" ∧ yX8_growth.cls ≠ "java/lang/invoke/VarHandle" ∧ (parseMethodDescriptor yX8_growth.desc).map (fun d => d.parameters.length) = some 2 := by decide +kernel
set_option maxHeartbeats 8000000 in
set_option maxRecDepth 100000 in
theorem kX8_growth (l : Launch) (D : va_G) (cy : Nat → ClassId) (ad : Nat → Nat) (c8_latest : Int32) (c8_asked : Int32) (c8_upper : Int64) (c8_lower : Int64) (c8_legs : Int32) (c8_units : Int32) (c8_rests : Int32) (c8_rates : Int32) (c8_lines : Int32) (c8_came : Nat → Int32) (c8_sizes : Nat → Int32) (c8_weights : Nat → Int32) (c8_growths : Nat → Int32) (c8_copied : Nat → Int32) (c8_legWay : Nat → Int32) (c8_legUnits : Nat → Int32) (c8_legStuff : Nat → Int32) (c8_unitWay : Nat → Int32) (c8_unitStuff : Nat → Int32) (c8_xs : Nat → Int32) (c8_ys : Nat → Int32) (c8_zs : Nat → Int32) (c8_kindOf : Nat → Int32) (c8_placeOf : Nat → Int32) (c8_rateOf : Nat → Int32) (c8_readOf : Nat → Int32) (c8_isGone : Nat → Int32) (c8_theList : Nat → Int32) (c8_amounts : Nat → Int32) (c8_low : Nat → Int32) (c8_high : Nat → Int32) (c8_barred : Nat → Int32) (c8_times : Nat → Int32) (c8_ranges : Nat → Int32) (p1 : Int32) (p2 : Int32) {ra : Int32} (hf : fX8_growth c8_sizes c8_growths p1 p2 = some ra) : CI l D cy yX8_growth wsX8_growth ({ frames := 0, cells := 0, slots := 0, locals := 0 } : Room) [.ref (ad 80), .int p1, .int p2] (w8 cy ad c8_latest c8_asked c8_upper c8_lower c8_legs c8_units c8_rests c8_rates c8_lines c8_came c8_sizes c8_weights c8_growths c8_copied c8_legWay c8_legUnits c8_legStuff c8_unitWay c8_unitStuff c8_xs c8_ys c8_zs c8_kindOf c8_placeOf c8_rateOf c8_readOf c8_isGone c8_theList c8_amounts c8_low c8_high c8_barred c8_times c8_ranges) ra (w8 cy ad c8_latest c8_asked c8_upper c8_lower c8_legs c8_units c8_rests c8_rates c8_lines c8_came c8_sizes c8_weights c8_growths c8_copied c8_legWay c8_legUnits c8_legStuff c8_unitWay c8_unitStuff c8_xs c8_ys c8_zs c8_kindOf c8_placeOf c8_rateOf c8_readOf c8_isGone c8_theList c8_amounts c8_low c8_high c8_barred c8_times c8_ranges) := by
  unfold fX8_growth at hf
  refine c_of_i (ty := .int) (own := RX8) (by decide) rfl rfl (Nat.le_of_ble_eq_true rfl) (fun X hC hRet => ?_)
  refine r_sub [(0, .ref (ad 80)), (1, .int p1), (2, .int p2)] [0, 1, 2] rfl ?_
  have hin8 : ∀ w ∈ wsX80, w ∈ wsX8_growth := fun w h => List.mem_cons_of_mem _ (List.mem_append_right _ h)
  have hw0 : Cond.fieldLink RX8 13 "HotPipesModel" "sizes" "[I" ∈ wsX8_growth := List.mem_of_getElem? (i := 1) rfl
  have hw1 : Cond.fieldLink RX8 19 "HotPipesModel" "growths" "[B" ∈ wsX8_growth := List.mem_of_getElem? (i := 2) rfl
  refine r_iload_n hC dX8_growth_0 rfl 2 rfl ?_
  refine r_aload_n hC dX8_growth_1 rfl 0 rfl ?_
  refine r_get hC hin8 0 rfl rfl 5 (by decide) rfl hw0 rfl dX8_growth_2 ?_
  refine r_iload_n hC dX8_growth_5 rfl 1 rfl ?_
  obtain ⟨g1, hf⟩ := og_some hf
  refine r_iald hC 2 rfl g1 dX8_growth_6 ?_
  refine r_icmp_ge (tgt := 24) hC dX8_growth_7 (by decide) (fun c2 => ?_) (fun c2 => ?_)
  · replace hf := o_pos hf c2
    refine r_iconst hC dX8_growth_24 ic_0 ?_
    obtain rfl := so_1 hf
    exact hRet _ _ _ dX8_growth_25 rfl
  · replace hf := o_neg hf c2
    refine r_aload_n hC dX8_growth_10 rfl 0 rfl ?_
    refine r_get hC hin8 0 rfl rfl 7 (by decide) rfl hw1 rfl dX8_growth_11 ?_
    refine r_bipush hC dX8_growth_14 bp_16 ?_
    refine r_iload_n hC dX8_growth_16 rfl 1 rfl ?_
    refine r_imul hC dX8_growth_17 ?_
    refine r_iload_n hC dX8_growth_18 rfl 2 rfl ?_
    refine r_iadd hC dX8_growth_19 ?_
    obtain ⟨g3, hf⟩ := og_some hf
    refine r_bald hC 4 rfl g3 dX8_growth_20 ?_
    refine r_goto (tgt := 25) hC dX8_growth_21 (by decide) ?_
    obtain rfl := so_1 hf
    exact hRet _ _ _ dX8_growth_25 rfl
noncomputable def fX8_signOf (p1 : Int32) : Option (Int32) := (if (p1 - p1 / 2 * 2) = 0 then some 1 else some (-1))
theorem ydX8_signOf : yX8_signOf.cls ≠ "java/lang/invoke/MethodHandle" ∧ yX8_signOf.cls ≠ "java/lang/invoke/VarHandle" ∧ (parseMethodDescriptor yX8_signOf.desc).map (fun d => d.parameters.length) = some 1 := by decide +kernel
set_option maxHeartbeats 8000000 in
set_option maxRecDepth 100000 in
theorem kX8_signOf (l : Launch) (D : va_G) (cy : Nat → ClassId) (p1 : Int32) {ra : Int32} (hf : fX8_signOf p1 = some ra) : CI l D cy yX8_signOf wsX8_signOf ({ frames := 0, cells := 0, slots := 0, locals := 0 } : Room) [.int p1] [] ra [] := by
  unfold fX8_signOf at hf
  refine c_of_i (ty := .int) (own := RX8) (by decide) rfl rfl (Nat.le_of_ble_eq_true rfl) (fun X hC hRet => ?_)
  refine r_sub [(0, .int p1)] [0] rfl ?_
  refine r_iload_n hC dX8_signOf_0 rfl 0 rfl ?_
  refine r_iconst hC dX8_signOf_1 ic_2 ?_
  refine r_irem hC dX8_signOf_2 (by decide) ?_
  refine r_if_ne (tgt := 10) hC dX8_signOf_3 (by decide) (fun c1 => ?_) (fun c1 => ?_)
  · replace hf := o_neg hf c1
    refine r_iconst hC dX8_signOf_10 ic_m1 ?_
    obtain rfl := so_1 hf
    exact hRet _ _ _ dX8_signOf_11 rfl
  · replace hf := o_pos hf c1
    refine r_iconst hC dX8_signOf_6 ic_1 ?_
    refine r_goto (tgt := 11) hC dX8_signOf_7 (by decide) ?_
    obtain rfl := so_1 hf
    exact hRet _ _ _ dX8_signOf_11 rfl
noncomputable def fX8_layRun_L17 (c8_legWay : Nat → Int32) (c8_legUnits : Nat → Int32) (c8_legStuff : Nat → Int32) (x1 : Int32) (K182_15 : Int32 → (Nat → Int32) → (Nat → Int32) → (Nat → Int32) → (Nat → Int32) → (Nat → Int32) → Option (Int32 × (Nat → Int32) × (Nat → Int32) × (Nat → Int32) × (Nat → Int32) × (Nat → Int32))) : Nat → Int32 → Int32 → (Nat → Int32) → (Nat → Int32) → (Nat → Int32) → (Nat → Int32) → (Nat → Int32) → Option (Int32 × (Nat → Int32) × (Nat → Int32) × (Nat → Int32) × (Nat → Int32) × (Nat → Int32))
  | 0, _, _, _, _, _, _, _ => none
  | n + 1, x16, s17, s18, s19, s20, s21, s22 => og (vp_in x1 12) ((if (c8_legUnits (Int32.toNatClampNeg x1)) ≤ x16 then K182_15 s17 s18 s19 s20 s21 s22 else og (vp_in x1 12) (olet (c8_legWay (Int32.toNatClampNeg x1)) (fun (x26 : Int32) => og (vp_in s17 240) (og (vp_in x1 12) (og (vp_in s17 240) (og (vp_in s17 241) (ob ((if (x26 / 2) = 0 then ob (fX8_signOf x26) (fun (r52 : Int32) => some r52) else some 0)) (fun (t31 : Int32) => og (vp_in (s17 + 1) 241) (og (vp_in s17 241) (ob ((if (x26 / 2) = 1 then ob (fX8_signOf x26) (fun (r47 : Int32) => some r47) else some 0)) (fun (t34 : Int32) => og (vp_in (s17 + 1) 241) (og (vp_in s17 241) (ob ((if (x26 / 2) = 2 then ob (fX8_signOf x26) (fun (r42 : Int32) => some r42) else some 0)) (fun (t37 : Int32) => og (vp_in (s17 + 1) 241) (fX8_layRun_L17 c8_legWay c8_legUnits c8_legStuff x1 K182_15 n (x16 + 1) (s17 + 1) (upd s18 (Int32.toNatClampNeg s17) x26) (upd s19 (Int32.toNatClampNeg s17) (c8_legStuff (Int32.toNatClampNeg x1))) (upd s20 (Int32.toNatClampNeg (s17 + 1)) ((s20 (Int32.toNatClampNeg s17)) + t31)) (upd s21 (Int32.toNatClampNeg (s17 + 1)) ((s21 (Int32.toNatClampNeg s17)) + t34)) (upd s22 (Int32.toNatClampNeg (s17 + 1)) ((s22 (Int32.toNatClampNeg s17)) + t37))))))))))))))))))
noncomputable def fX8_layRun_L7 (N : Nat) (c8_legs : Int32) (c8_legWay : Nat → Int32) (c8_legUnits : Nat → Int32) (c8_legStuff : Nat → Int32) : Nat → Int32 → Int32 → (Nat → Int32) → (Nat → Int32) → (Nat → Int32) → (Nat → Int32) → (Nat → Int32) → Option (Int32 × (Nat → Int32) × (Nat → Int32) × (Nat → Int32) × (Nat → Int32) × (Nat → Int32))
  | 0, _, _, _, _, _, _, _ => none
  | n + 1, x1, s2, s3, s4, s5, s6, s7 => (if c8_legs ≤ x1 then some (s2, s3, s4, s5, s6, s7) else oj (fun (s9 : Int32) (s10 : Nat → Int32) (s11 : Nat → Int32) (s12 : Nat → Int32) (s13 : Nat → Int32) (s14 : Nat → Int32) => fX8_layRun_L7 N c8_legs c8_legWay c8_legUnits c8_legStuff n (x1 + 1) s9 s10 s11 s12 s13 s14) (fun (K182_15 : Int32 → (Nat → Int32) → (Nat → Int32) → (Nat → Int32) → (Nat → Int32) → (Nat → Int32) → Option (Int32 × (Nat → Int32) × (Nat → Int32) × (Nat → Int32) × (Nat → Int32) × (Nat → Int32))) => fX8_layRun_L17 c8_legWay c8_legUnits c8_legStuff x1 K182_15 N 0 s2 s3 s4 s5 s6 s7))
noncomputable def fX8_layRun (N : Nat) (c8_legs : Int32) (c8_units : Int32) (c8_legWay : Nat → Int32) (c8_legUnits : Nat → Int32) (c8_legStuff : Nat → Int32) (c8_unitWay : Nat → Int32) (c8_unitStuff : Nat → Int32) (c8_xs : Nat → Int32) (c8_ys : Nat → Int32) (c8_zs : Nat → Int32) : Option (Int32 × (Nat → Int32) × (Nat → Int32) × (Nat → Int32) × (Nat → Int32) × (Nat → Int32)) := fX8_layRun_L7 N c8_legs c8_legWay c8_legUnits c8_legStuff N 0 0 c8_unitWay c8_unitStuff c8_xs c8_ys c8_zs
theorem ydX8_layRun : yX8_layRun.cls = RX8 ∧ yX8_layRun.cls ≠ "java/lang/invoke/MethodHandle" ∧ yX8_layRun.cls ≠ "java/lang/invoke/VarHandle" ∧ (parseMethodDescriptor yX8_layRun.desc).map (fun d => d.parameters.length) = some 0 := by decide +kernel
set_option maxHeartbeats 8000000 in
set_option maxRecDepth 100000 in
theorem kX8_layRun (l : Launch) (D : va_G) (cy : Nat → ClassId) (ad : Nat → Nat) (c8_latest : Int32) (c8_asked : Int32) (c8_upper : Int64) (c8_lower : Int64) (c8_legs : Int32) (c8_units : Int32) (c8_rests : Int32) (c8_rates : Int32) (c8_lines : Int32) (c8_came : Nat → Int32) (c8_sizes : Nat → Int32) (c8_weights : Nat → Int32) (c8_growths : Nat → Int32) (c8_copied : Nat → Int32) (c8_legWay : Nat → Int32) (c8_legUnits : Nat → Int32) (c8_legStuff : Nat → Int32) (c8_unitWay : Nat → Int32) (c8_unitStuff : Nat → Int32) (c8_xs : Nat → Int32) (c8_ys : Nat → Int32) (c8_zs : Nat → Int32) (c8_kindOf : Nat → Int32) (c8_placeOf : Nat → Int32) (c8_rateOf : Nat → Int32) (c8_readOf : Nat → Int32) (c8_isGone : Nat → Int32) (c8_theList : Nat → Int32) (c8_amounts : Nat → Int32) (c8_low : Nat → Int32) (c8_high : Nat → Int32) (c8_barred : Nat → Int32) (c8_times : Nat → Int32) (c8_ranges : Nat → Int32) (N : Nat) {z8_units : Int32} {z8_unitWay : Nat → Int32} {z8_unitStuff : Nat → Int32} {z8_xs : Nat → Int32} {z8_ys : Nat → Int32} {z8_zs : Nat → Int32} (hf : fX8_layRun N c8_legs c8_units c8_legWay c8_legUnits c8_legStuff c8_unitWay c8_unitStuff c8_xs c8_ys c8_zs = some (z8_units, z8_unitWay, z8_unitStuff, z8_xs, z8_ys, z8_zs)) : CV l D cy yX8_layRun wsX8_layRun ({ frames := 1, cells := 0, slots := 0, locals := 20 } : Room) [.ref (ad 80)] (w8 cy ad c8_latest c8_asked c8_upper c8_lower c8_legs c8_units c8_rests c8_rates c8_lines c8_came c8_sizes c8_weights c8_growths c8_copied c8_legWay c8_legUnits c8_legStuff c8_unitWay c8_unitStuff c8_xs c8_ys c8_zs c8_kindOf c8_placeOf c8_rateOf c8_readOf c8_isGone c8_theList c8_amounts c8_low c8_high c8_barred c8_times c8_ranges) (w8 cy ad c8_latest c8_asked c8_upper c8_lower c8_legs z8_units c8_rests c8_rates c8_lines c8_came c8_sizes c8_weights c8_growths c8_copied c8_legWay c8_legUnits c8_legStuff z8_unitWay z8_unitStuff z8_xs z8_ys z8_zs c8_kindOf c8_placeOf c8_rateOf c8_readOf c8_isGone c8_theList c8_amounts c8_low c8_high c8_barred c8_times c8_ranges) := by
  unfold fX8_layRun at hf
  refine c_of_v (own := RX8) (by decide) rfl rfl (Nat.le_of_ble_eq_true rfl) (fun X hC hRet => ?_)
  refine r_sub [(0, .ref (ad 80))] [0] rfl ?_
  have hin8 : ∀ w ∈ wsX80, w ∈ wsX8_layRun := fun w h => List.mem_cons_of_mem _ (List.mem_append_right _ h)
  have hw0 : Cond.fieldLink RX8 113 "HotPipesModel" "units" "I" ∈ wsX8_layRun := List.mem_of_getElem? (i := 1) rfl
  have hw1 : Cond.fieldLink RX8 116 "HotPipesModel" "legs" "I" ∈ wsX8_layRun := List.mem_of_getElem? (i := 2) rfl
  have hw2 : Cond.fieldLink RX8 29 "HotPipesModel" "legUnits" "[I" ∈ wsX8_layRun := List.mem_of_getElem? (i := 3) rfl
  have hw3 : Cond.fieldLink RX8 26 "HotPipesModel" "legWay" "[I" ∈ wsX8_layRun := List.mem_of_getElem? (i := 4) rfl
  have hw4 : Cond.fieldLink RX8 35 "HotPipesModel" "unitWay" "[I" ∈ wsX8_layRun := List.mem_of_getElem? (i := 5) rfl
  have hw5 : Cond.fieldLink RX8 38 "HotPipesModel" "unitStuff" "[I" ∈ wsX8_layRun := List.mem_of_getElem? (i := 6) rfl
  have hw6 : Cond.fieldLink RX8 32 "HotPipesModel" "legStuff" "[I" ∈ wsX8_layRun := List.mem_of_getElem? (i := 7) rfl
  have hw7 : Cond.fieldLink RX8 41 "HotPipesModel" "xs" "[I" ∈ wsX8_layRun := List.mem_of_getElem? (i := 8) rfl
  have hw8 : Cond.fieldLink RX8 44 "HotPipesModel" "ys" "[I" ∈ wsX8_layRun := List.mem_of_getElem? (i := 9) rfl
  have hw9 : Cond.fieldLink RX8 47 "HotPipesModel" "zs" "[I" ∈ wsX8_layRun := List.mem_of_getElem? (i := 10) rfl
  refine r_aload_n hC dX8_layRun_0 rfl 0 rfl ?_
  refine r_iconst hC dX8_layRun_1 ic_0 ?_
  refine r_put (ty := .int) hC hin8 tyX8_ok nmX8 0 rfl rfl 13 (by decide) rfl hw0 rfl rfl rfl rfl (Nat.le_of_ble_eq_true rfl) dX8_layRun_2 (w8 cy ad c8_latest c8_asked c8_upper c8_lower c8_legs 0 c8_rests c8_rates c8_lines c8_came c8_sizes c8_weights c8_growths c8_copied c8_legWay c8_legUnits c8_legStuff c8_unitWay c8_unitStuff c8_xs c8_ys c8_zs c8_kindOf c8_placeOf c8_rateOf c8_readOf c8_isGone c8_theList c8_amounts c8_low c8_high c8_barred c8_times c8_ranges) rfl ?_
  refine r_iconst hC dX8_layRun_5 ic_0 ?_
  refine r_istore_n hC [(1, .int 0), (0, .ref (ad 80))] dX8_layRun_6 rfl (by decide) rfl ?_
  have L7 : ∀ (n : Nat) (x1 : Int32) (s2 : Int32) (s3 : Nat → Int32) (s4 : Nat → Int32) (s5 : Nat → Int32) (s6 : Nat → Int32) (s7 : Nat → Int32), fX8_layRun_L7 N c8_legs c8_legWay c8_legUnits c8_legStuff n x1 s2 s3 s4 s5 s6 s7 = some (z8_units, z8_unitWay, z8_unitStuff, z8_xs, z8_ys, z8_zs) → GG X 4 0 0 (w8 cy ad c8_latest c8_asked c8_upper c8_lower c8_legs s2 c8_rests c8_rates c8_lines c8_came c8_sizes c8_weights c8_growths c8_copied c8_legWay c8_legUnits c8_legStuff s3 s4 s5 s6 s7 c8_kindOf c8_placeOf c8_rateOf c8_readOf c8_isGone c8_theList c8_amounts c8_low c8_high c8_barred c8_times c8_ranges) [(0, .ref (ad 80)), (1, .int x1)] 7 [] := by
    intro n
    induction n with
    | zero => intro x1 s2 s3 s4 s5 s6 s7 hf; cases (show none = some _ from hf)
    | succ n ih =>
      intro x1 s2 s3 s4 s5 s6 s7 hf
      rw [fX8_layRun_L7] at hf
      refine r_iload_n hC dX8_layRun_7 rfl 1 rfl ?_
      refine r_aload_n hC dX8_layRun_8 rfl 0 rfl ?_
      refine r_get hC hin8 0 rfl rfl 9 (by decide) rfl hw1 rfl dX8_layRun_9 ?_
      refine r_icmp_ge (tgt := 188) hC dX8_layRun_12 (by decide) (fun c8 => ?_) (fun c8 => ?_)
      · replace hf := o_pos hf c8
        obtain ⟨rfl, rfl, rfl, rfl, rfl, rfl⟩ := so_6 hf
        exact hRet _ _ _ dX8_layRun_188
      · replace hf := o_neg hf c8
        refine r_iconst hC dX8_layRun_15 ic_0 ?_
        refine r_istore_n hC [(2, .int 0), (0, .ref (ad 80)), (1, .int x1)] dX8_layRun_16 rfl (by decide) rfl ?_
        obtain ⟨K182_15, eK182_15, hf⟩ := oj_some hf
        have J182_15 : ∀ (s9 : Int32) (s10 : Nat → Int32) (s11 : Nat → Int32) (s12 : Nat → Int32) (s13 : Nat → Int32) (s14 : Nat → Int32), K182_15 s9 s10 s11 s12 s13 s14 = some (z8_units, z8_unitWay, z8_unitStuff, z8_xs, z8_ys, z8_zs) → GG X 4 0 0 (w8 cy ad c8_latest c8_asked c8_upper c8_lower c8_legs s9 c8_rests c8_rates c8_lines c8_came c8_sizes c8_weights c8_growths c8_copied c8_legWay c8_legUnits c8_legStuff s10 s11 s12 s13 s14 c8_kindOf c8_placeOf c8_rateOf c8_readOf c8_isGone c8_theList c8_amounts c8_low c8_high c8_barred c8_times c8_ranges) [(0, .ref (ad 80)), (1, .int x1)] 182 [] := by
          intro s9 s10 s11 s12 s13 s14 hf
          replace hf := oa6 eK182_15 hf
          refine r_iinc hC [(1, .int (x1 + 1)), (0, .ref (ad 80))] (x1 + 1) dX8_layRun_182 1 rfl (ii_1 _) (by decide) rfl ?_
          refine r_goto (tgt := 7) hC dX8_layRun_185 (by decide) ?_
          refine r_sub [(0, .ref (ad 80)), (1, .int (x1 + 1))] [1, 0] rfl ?_
          exact ih (x1 + 1) s9 s10 s11 s12 s13 s14 hf
        have L17 : ∀ (n : Nat) (x16 : Int32) (s17 : Int32) (s18 : Nat → Int32) (s19 : Nat → Int32) (s20 : Nat → Int32) (s21 : Nat → Int32) (s22 : Nat → Int32), fX8_layRun_L17 c8_legWay c8_legUnits c8_legStuff x1 K182_15 n x16 s17 s18 s19 s20 s21 s22 = some (z8_units, z8_unitWay, z8_unitStuff, z8_xs, z8_ys, z8_zs) → GG X 4 0 0 (w8 cy ad c8_latest c8_asked c8_upper c8_lower c8_legs s17 c8_rests c8_rates c8_lines c8_came c8_sizes c8_weights c8_growths c8_copied c8_legWay c8_legUnits c8_legStuff s18 s19 s20 s21 s22 c8_kindOf c8_placeOf c8_rateOf c8_readOf c8_isGone c8_theList c8_amounts c8_low c8_high c8_barred c8_times c8_ranges) [(0, .ref (ad 80)), (1, .int x1), (2, .int x16)] 17 [] := by
          intro n
          induction n with
          | zero => intro x16 s17 s18 s19 s20 s21 s22 hf; cases (show none = some _ from hf)
          | succ n ih =>
            intro x16 s17 s18 s19 s20 s21 s22 hf
            rw [fX8_layRun_L17] at hf
            refine r_iload_n hC dX8_layRun_17 rfl 2 rfl ?_
            refine r_aload_n hC dX8_layRun_18 rfl 0 rfl ?_
            refine r_get hC hin8 0 rfl rfl 11 (by decide) rfl hw2 rfl dX8_layRun_19 ?_
            refine r_iload_n hC dX8_layRun_22 rfl 1 rfl ?_
            obtain ⟨g23, hf⟩ := og_some hf
            refine r_iald hC 7 rfl g23 dX8_layRun_23 ?_
            refine r_icmp_ge (tgt := 182) hC dX8_layRun_24 (by decide) (fun c24 => ?_) (fun c24 => ?_)
            · replace hf := o_pos hf c24
              refine r_sub [(0, .ref (ad 80)), (1, .int x1)] [0, 1] rfl ?_
              exact J182_15 s17 s18 s19 s20 s21 s22 hf
            · replace hf := o_neg hf c24
              refine r_aload_n hC dX8_layRun_27 rfl 0 rfl ?_
              refine r_get hC hin8 0 rfl rfl 10 (by decide) rfl hw3 rfl dX8_layRun_28 ?_
              refine r_iload_n hC dX8_layRun_31 rfl 1 rfl ?_
              obtain ⟨g25, hf⟩ := og_some hf
              refine r_iald hC 6 rfl g25 dX8_layRun_32 ?_
              refine r_topi (fun x26 ex26 => ?_)
              replace hf := olet_some hf ex26
              refine r_istore_n hC [(3, .int x26), (0, .ref (ad 80)), (1, .int x1), (2, .int x16)] dX8_layRun_33 rfl (by decide) rfl ?_
              refine r_aload_n hC dX8_layRun_34 rfl 1 rfl ?_
              refine r_get hC hin8 0 rfl rfl 14 (by decide) rfl hw4 rfl dX8_layRun_35 ?_
              refine r_aload_n hC dX8_layRun_38 rfl 1 rfl ?_
              refine r_get hC hin8 0 rfl rfl 13 (by decide) rfl hw0 rfl dX8_layRun_39 ?_
              refine r_iload_n hC dX8_layRun_42 rfl 0 rfl ?_
              obtain ⟨g27, hf⟩ := og_some hf
              refine r_iast hC 9 rfl g27 dX8_layRun_43 (w8 cy ad c8_latest c8_asked c8_upper c8_lower c8_legs s17 c8_rests c8_rates c8_lines c8_came c8_sizes c8_weights c8_growths c8_copied c8_legWay c8_legUnits c8_legStuff (upd s18 (Int32.toNatClampNeg s17) x26) s19 s20 s21 s22 c8_kindOf c8_placeOf c8_rateOf c8_readOf c8_isGone c8_theList c8_amounts c8_low c8_high c8_barred c8_times c8_ranges) rfl ?_
              refine r_aload_n hC dX8_layRun_44 rfl 1 rfl ?_
              refine r_get hC hin8 0 rfl rfl 15 (by decide) rfl hw5 rfl dX8_layRun_45 ?_
              refine r_aload_n hC dX8_layRun_48 rfl 1 rfl ?_
              refine r_get hC hin8 0 rfl rfl 13 (by decide) rfl hw0 rfl dX8_layRun_49 ?_
              refine r_aload_n hC dX8_layRun_52 rfl 1 rfl ?_
              refine r_get hC hin8 0 rfl rfl 12 (by decide) rfl hw6 rfl dX8_layRun_53 ?_
              refine r_iload_n hC dX8_layRun_56 rfl 2 rfl ?_
              obtain ⟨g28, hf⟩ := og_some hf
              refine r_iald hC 8 rfl g28 dX8_layRun_57 ?_
              obtain ⟨g29, hf⟩ := og_some hf
              refine r_iast hC 10 rfl g29 dX8_layRun_58 (w8 cy ad c8_latest c8_asked c8_upper c8_lower c8_legs s17 c8_rests c8_rates c8_lines c8_came c8_sizes c8_weights c8_growths c8_copied c8_legWay c8_legUnits c8_legStuff (upd s18 (Int32.toNatClampNeg s17) x26) (upd s19 (Int32.toNatClampNeg s17) (c8_legStuff (Int32.toNatClampNeg x1))) s20 s21 s22 c8_kindOf c8_placeOf c8_rateOf c8_readOf c8_isGone c8_theList c8_amounts c8_low c8_high c8_barred c8_times c8_ranges) rfl ?_
              refine r_aload_n hC dX8_layRun_59 rfl 1 rfl ?_
              refine r_get hC hin8 0 rfl rfl 16 (by decide) rfl hw7 rfl dX8_layRun_60 ?_
              refine r_aload_n hC dX8_layRun_63 rfl 1 rfl ?_
              refine r_get hC hin8 0 rfl rfl 13 (by decide) rfl hw0 rfl dX8_layRun_64 ?_
              refine r_iconst hC dX8_layRun_67 ic_1 ?_
              refine r_iadd hC dX8_layRun_68 ?_
              refine r_aload_n hC dX8_layRun_69 rfl 1 rfl ?_
              refine r_get hC hin8 0 rfl rfl 16 (by decide) rfl hw7 rfl dX8_layRun_70 ?_
              refine r_aload_n hC dX8_layRun_73 rfl 1 rfl ?_
              refine r_get hC hin8 0 rfl rfl 13 (by decide) rfl hw0 rfl dX8_layRun_74 ?_
              obtain ⟨g30, hf⟩ := og_some hf
              refine r_iald hC 11 rfl g30 dX8_layRun_77 ?_
              refine r_iload_n hC dX8_layRun_78 rfl 0 rfl ?_
              refine r_iconst hC dX8_layRun_79 ic_2 ?_
              refine r_idiv hC dX8_layRun_80 (by decide) ?_
              obtain ⟨t31, h50, hf⟩ := ob_some hf
              have J92_49 : GG X 4 0 0 (w8 cy ad c8_latest c8_asked c8_upper c8_lower c8_legs s17 c8_rests c8_rates c8_lines c8_came c8_sizes c8_weights c8_growths c8_copied c8_legWay c8_legUnits c8_legStuff (upd s18 (Int32.toNatClampNeg s17) x26) (upd s19 (Int32.toNatClampNeg s17) (c8_legStuff (Int32.toNatClampNeg x1))) s20 s21 s22 c8_kindOf c8_placeOf c8_rateOf c8_readOf c8_isGone c8_theList c8_amounts c8_low c8_high c8_barred c8_times c8_ranges) [(0, .ref (ad 80)), (1, .int x1), (2, .int x16), (3, .int x26)] 92 [.int t31, .int (s20 (Int32.toNatClampNeg s17)), .int (s17 + 1), .ref (ad 1817)] := by
                refine r_iadd hC dX8_layRun_92 ?_
                obtain ⟨g32, hf⟩ := og_some hf
                refine r_iast hC 11 rfl g32 dX8_layRun_93 (w8 cy ad c8_latest c8_asked c8_upper c8_lower c8_legs s17 c8_rests c8_rates c8_lines c8_came c8_sizes c8_weights c8_growths c8_copied c8_legWay c8_legUnits c8_legStuff (upd s18 (Int32.toNatClampNeg s17) x26) (upd s19 (Int32.toNatClampNeg s17) (c8_legStuff (Int32.toNatClampNeg x1))) (upd s20 (Int32.toNatClampNeg (s17 + 1)) ((s20 (Int32.toNatClampNeg s17)) + t31)) s21 s22 c8_kindOf c8_placeOf c8_rateOf c8_readOf c8_isGone c8_theList c8_amounts c8_low c8_high c8_barred c8_times c8_ranges) rfl ?_
                refine r_aload_n hC dX8_layRun_94 rfl 0 rfl ?_
                refine r_get hC hin8 0 rfl rfl 17 (by decide) rfl hw8 rfl dX8_layRun_95 ?_
                refine r_aload_n hC dX8_layRun_98 rfl 0 rfl ?_
                refine r_get hC hin8 0 rfl rfl 13 (by decide) rfl hw0 rfl dX8_layRun_99 ?_
                refine r_iconst hC dX8_layRun_102 ic_1 ?_
                refine r_iadd hC dX8_layRun_103 ?_
                refine r_aload_n hC dX8_layRun_104 rfl 0 rfl ?_
                refine r_get hC hin8 0 rfl rfl 17 (by decide) rfl hw8 rfl dX8_layRun_105 ?_
                refine r_aload_n hC dX8_layRun_108 rfl 0 rfl ?_
                refine r_get hC hin8 0 rfl rfl 13 (by decide) rfl hw0 rfl dX8_layRun_109 ?_
                obtain ⟨g33, hf⟩ := og_some hf
                refine r_iald hC 12 rfl g33 dX8_layRun_112 ?_
                refine r_iload_n hC dX8_layRun_113 rfl 3 rfl ?_
                refine r_iconst hC dX8_layRun_114 ic_2 ?_
                refine r_idiv hC dX8_layRun_115 (by decide) ?_
                refine r_iconst hC dX8_layRun_116 ic_1 ?_
                obtain ⟨t34, h45, hf⟩ := ob_some hf
                have J128_44 : GG X 4 0 0 (w8 cy ad c8_latest c8_asked c8_upper c8_lower c8_legs s17 c8_rests c8_rates c8_lines c8_came c8_sizes c8_weights c8_growths c8_copied c8_legWay c8_legUnits c8_legStuff (upd s18 (Int32.toNatClampNeg s17) x26) (upd s19 (Int32.toNatClampNeg s17) (c8_legStuff (Int32.toNatClampNeg x1))) (upd s20 (Int32.toNatClampNeg (s17 + 1)) ((s20 (Int32.toNatClampNeg s17)) + t31)) s21 s22 c8_kindOf c8_placeOf c8_rateOf c8_readOf c8_isGone c8_theList c8_amounts c8_low c8_high c8_barred c8_times c8_ranges) [(0, .ref (ad 80)), (1, .int x1), (2, .int x16), (3, .int x26)] 128 [.int t34, .int (s21 (Int32.toNatClampNeg s17)), .int (s17 + 1), .ref (ad 1818)] := by
                  refine r_iadd hC dX8_layRun_128 ?_
                  obtain ⟨g35, hf⟩ := og_some hf
                  refine r_iast hC 12 rfl g35 dX8_layRun_129 (w8 cy ad c8_latest c8_asked c8_upper c8_lower c8_legs s17 c8_rests c8_rates c8_lines c8_came c8_sizes c8_weights c8_growths c8_copied c8_legWay c8_legUnits c8_legStuff (upd s18 (Int32.toNatClampNeg s17) x26) (upd s19 (Int32.toNatClampNeg s17) (c8_legStuff (Int32.toNatClampNeg x1))) (upd s20 (Int32.toNatClampNeg (s17 + 1)) ((s20 (Int32.toNatClampNeg s17)) + t31)) (upd s21 (Int32.toNatClampNeg (s17 + 1)) ((s21 (Int32.toNatClampNeg s17)) + t34)) s22 c8_kindOf c8_placeOf c8_rateOf c8_readOf c8_isGone c8_theList c8_amounts c8_low c8_high c8_barred c8_times c8_ranges) rfl ?_
                  refine r_aload_n hC dX8_layRun_130 rfl 0 rfl ?_
                  refine r_get hC hin8 0 rfl rfl 18 (by decide) rfl hw9 rfl dX8_layRun_131 ?_
                  refine r_aload_n hC dX8_layRun_134 rfl 0 rfl ?_
                  refine r_get hC hin8 0 rfl rfl 13 (by decide) rfl hw0 rfl dX8_layRun_135 ?_
                  refine r_iconst hC dX8_layRun_138 ic_1 ?_
                  refine r_iadd hC dX8_layRun_139 ?_
                  refine r_aload_n hC dX8_layRun_140 rfl 0 rfl ?_
                  refine r_get hC hin8 0 rfl rfl 18 (by decide) rfl hw9 rfl dX8_layRun_141 ?_
                  refine r_aload_n hC dX8_layRun_144 rfl 0 rfl ?_
                  refine r_get hC hin8 0 rfl rfl 13 (by decide) rfl hw0 rfl dX8_layRun_145 ?_
                  obtain ⟨g36, hf⟩ := og_some hf
                  refine r_iald hC 13 rfl g36 dX8_layRun_148 ?_
                  refine r_iload_n hC dX8_layRun_149 rfl 3 rfl ?_
                  refine r_iconst hC dX8_layRun_150 ic_2 ?_
                  refine r_idiv hC dX8_layRun_151 (by decide) ?_
                  refine r_iconst hC dX8_layRun_152 ic_2 ?_
                  obtain ⟨t37, h40, hf⟩ := ob_some hf
                  have J164_39 : GG X 4 0 0 (w8 cy ad c8_latest c8_asked c8_upper c8_lower c8_legs s17 c8_rests c8_rates c8_lines c8_came c8_sizes c8_weights c8_growths c8_copied c8_legWay c8_legUnits c8_legStuff (upd s18 (Int32.toNatClampNeg s17) x26) (upd s19 (Int32.toNatClampNeg s17) (c8_legStuff (Int32.toNatClampNeg x1))) (upd s20 (Int32.toNatClampNeg (s17 + 1)) ((s20 (Int32.toNatClampNeg s17)) + t31)) (upd s21 (Int32.toNatClampNeg (s17 + 1)) ((s21 (Int32.toNatClampNeg s17)) + t34)) s22 c8_kindOf c8_placeOf c8_rateOf c8_readOf c8_isGone c8_theList c8_amounts c8_low c8_high c8_barred c8_times c8_ranges) [(0, .ref (ad 80)), (1, .int x1), (2, .int x16)] 164 [.int t37, .int (s22 (Int32.toNatClampNeg s17)), .int (s17 + 1), .ref (ad 1819)] := by
                    refine r_iadd hC dX8_layRun_164 ?_
                    obtain ⟨g38, hf⟩ := og_some hf
                    refine r_iast hC 13 rfl g38 dX8_layRun_165 (w8 cy ad c8_latest c8_asked c8_upper c8_lower c8_legs s17 c8_rests c8_rates c8_lines c8_came c8_sizes c8_weights c8_growths c8_copied c8_legWay c8_legUnits c8_legStuff (upd s18 (Int32.toNatClampNeg s17) x26) (upd s19 (Int32.toNatClampNeg s17) (c8_legStuff (Int32.toNatClampNeg x1))) (upd s20 (Int32.toNatClampNeg (s17 + 1)) ((s20 (Int32.toNatClampNeg s17)) + t31)) (upd s21 (Int32.toNatClampNeg (s17 + 1)) ((s21 (Int32.toNatClampNeg s17)) + t34)) (upd s22 (Int32.toNatClampNeg (s17 + 1)) ((s22 (Int32.toNatClampNeg s17)) + t37)) c8_kindOf c8_placeOf c8_rateOf c8_readOf c8_isGone c8_theList c8_amounts c8_low c8_high c8_barred c8_times c8_ranges) rfl ?_
                    refine r_aload_n hC dX8_layRun_166 rfl 0 rfl ?_
                    refine r_dup hC dX8_layRun_167 rfl ?_
                    refine r_get hC hin8 0 rfl rfl 13 (by decide) rfl hw0 rfl dX8_layRun_168 ?_
                    refine r_iconst hC dX8_layRun_171 ic_1 ?_
                    refine r_iadd hC dX8_layRun_172 ?_
                    refine r_put (ty := .int) hC hin8 tyX8_ok nmX8 0 rfl rfl 13 (by decide) rfl hw0 rfl rfl rfl rfl (Nat.le_of_ble_eq_true rfl) dX8_layRun_173 (w8 cy ad c8_latest c8_asked c8_upper c8_lower c8_legs (s17 + 1) c8_rests c8_rates c8_lines c8_came c8_sizes c8_weights c8_growths c8_copied c8_legWay c8_legUnits c8_legStuff (upd s18 (Int32.toNatClampNeg s17) x26) (upd s19 (Int32.toNatClampNeg s17) (c8_legStuff (Int32.toNatClampNeg x1))) (upd s20 (Int32.toNatClampNeg (s17 + 1)) ((s20 (Int32.toNatClampNeg s17)) + t31)) (upd s21 (Int32.toNatClampNeg (s17 + 1)) ((s21 (Int32.toNatClampNeg s17)) + t34)) (upd s22 (Int32.toNatClampNeg (s17 + 1)) ((s22 (Int32.toNatClampNeg s17)) + t37)) c8_kindOf c8_placeOf c8_rateOf c8_readOf c8_isGone c8_theList c8_amounts c8_low c8_high c8_barred c8_times c8_ranges) rfl ?_
                    refine r_iinc hC [(2, .int (x16 + 1)), (0, .ref (ad 80)), (1, .int x1)] (x16 + 1) dX8_layRun_176 2 rfl (ii_1 _) (by decide) rfl ?_
                    refine r_goto (tgt := 17) hC dX8_layRun_179 (by decide) ?_
                    refine r_sub [(0, .ref (ad 80)), (1, .int x1), (2, .int (x16 + 1))] [1, 2, 0] rfl ?_
                    exact ih (x16 + 1) (s17 + 1) (upd s18 (Int32.toNatClampNeg s17) x26) (upd s19 (Int32.toNatClampNeg s17) (c8_legStuff (Int32.toNatClampNeg x1))) (upd s20 (Int32.toNatClampNeg (s17 + 1)) ((s20 (Int32.toNatClampNeg s17)) + t31)) (upd s21 (Int32.toNatClampNeg (s17 + 1)) ((s21 (Int32.toNatClampNeg s17)) + t34)) (upd s22 (Int32.toNatClampNeg (s17 + 1)) ((s22 (Int32.toNatClampNeg s17)) + t37)) hf
                  replace hf := h40
                  refine r_icmp_ne (tgt := 163) hC dX8_layRun_153 (by decide) (fun c41 => ?_) (fun c41 => ?_)
                  · replace hf := o_neg hf c41
                    refine r_iconst hC dX8_layRun_163 ic_0 ?_
                    obtain rfl := so_1 hf
                    refine r_sub [(0, .ref (ad 80)), (1, .int x1), (2, .int x16)] [0, 1, 2] rfl ?_
                    exact J164_39
                  · replace hf := o_pos hf c41
                    refine r_iload_n hC dX8_layRun_156 rfl 3 rfl ?_
                    obtain ⟨r42, h43, hf⟩ := ob_some hf
                    refine r_si (st := [.int (s22 (Int32.toNatClampNeg s17)), .int (s17 + 1), .ref (ad 1819)]) hC (kX8_signOf l D cy x26 h43) gX8_layRun_X8_signOf rfl ⟨rfl, rfl⟩ ydX8_signOf ⟨Nat.le_of_ble_eq_true rfl, Nat.le_of_ble_eq_true rfl⟩ ⟨Nat.le_refl 0, Nat.le_refl 0⟩ _ rfl (Nat.le_of_ble_eq_true rfl) dX8_layRun_157 ?_
                    refine r_goto (tgt := 164) hC dX8_layRun_160 (by decide) ?_
                    obtain rfl := so_1 hf
                    refine r_sub [(0, .ref (ad 80)), (1, .int x1), (2, .int x16)] [0, 1, 2] rfl ?_
                    exact J164_39
                replace hf := h45
                refine r_icmp_ne (tgt := 127) hC dX8_layRun_117 (by decide) (fun c46 => ?_) (fun c46 => ?_)
                · replace hf := o_neg hf c46
                  refine r_iconst hC dX8_layRun_127 ic_0 ?_
                  obtain rfl := so_1 hf
                  exact J128_44
                · replace hf := o_pos hf c46
                  refine r_iload_n hC dX8_layRun_120 rfl 3 rfl ?_
                  obtain ⟨r47, h48, hf⟩ := ob_some hf
                  refine r_si (st := [.int (s21 (Int32.toNatClampNeg s17)), .int (s17 + 1), .ref (ad 1818)]) hC (kX8_signOf l D cy x26 h48) gX8_layRun_X8_signOf rfl ⟨rfl, rfl⟩ ydX8_signOf ⟨Nat.le_of_ble_eq_true rfl, Nat.le_of_ble_eq_true rfl⟩ ⟨Nat.le_refl 0, Nat.le_refl 0⟩ _ rfl (Nat.le_of_ble_eq_true rfl) dX8_layRun_121 ?_
                  refine r_goto (tgt := 128) hC dX8_layRun_124 (by decide) ?_
                  obtain rfl := so_1 hf
                  exact J128_44
              replace hf := h50
              refine r_if_ne (tgt := 91) hC dX8_layRun_81 (by decide) (fun c51 => ?_) (fun c51 => ?_)
              · replace hf := o_neg hf c51
                refine r_iconst hC dX8_layRun_91 ic_0 ?_
                obtain rfl := so_1 hf
                refine r_sub [(0, .ref (ad 80)), (1, .int x1), (2, .int x16), (3, .int x26)] [1, 2, 3, 0] rfl ?_
                exact J92_49
              · replace hf := o_pos hf c51
                refine r_iload_n hC dX8_layRun_84 rfl 0 rfl ?_
                obtain ⟨r52, h53, hf⟩ := ob_some hf
                refine r_si (st := [.int (s20 (Int32.toNatClampNeg s17)), .int (s17 + 1), .ref (ad 1817)]) hC (kX8_signOf l D cy x26 h53) gX8_layRun_X8_signOf rfl ⟨rfl, rfl⟩ ydX8_signOf ⟨Nat.le_of_ble_eq_true rfl, Nat.le_of_ble_eq_true rfl⟩ ⟨Nat.le_refl 0, Nat.le_refl 0⟩ _ rfl (Nat.le_of_ble_eq_true rfl) dX8_layRun_85 ?_
                refine r_goto (tgt := 92) hC dX8_layRun_88 (by decide) ?_
                obtain rfl := so_1 hf
                refine r_sub [(0, .ref (ad 80)), (1, .int x1), (2, .int x16), (3, .int x26)] [1, 2, 3, 0] rfl ?_
                exact J92_49
        refine r_sub [(0, .ref (ad 80)), (1, .int x1), (2, .int 0)] [1, 2, 0] rfl ?_
        exact L17 N 0 s2 s3 s4 s5 s6 s7 hf
  refine r_sub [(0, .ref (ad 80)), (1, .int 0)] [1, 0] rfl ?_
  exact L7 N 0 0 c8_unitWay c8_unitStuff c8_xs c8_ys c8_zs hf
noncomputable def fX8_leg (N : Nat) (c8_legs : Int32) (c8_units : Int32) (c8_legWay : Nat → Int32) (c8_legUnits : Nat → Int32) (c8_legStuff : Nat → Int32) (c8_unitWay : Nat → Int32) (c8_unitStuff : Nat → Int32) (c8_xs : Nat → Int32) (c8_ys : Nat → Int32) (c8_zs : Nat → Int32) (p1 : Int32) (p2 : Int32) (p3 : Int32) : Option (Int32 × Int32 × Int32 × (Nat → Int32) × (Nat → Int32) × (Nat → Int32) × (Nat → Int32) × (Nat → Int32) × (Nat → Int32) × (Nat → Int32) × (Nat → Int32)) := ob (fX8_in p1 0 5) (fun (r1 : Int32) => (if r1 = 0 then some ((-1), c8_legs, c8_units, c8_legWay, c8_legUnits, c8_legStuff, c8_unitWay, c8_unitStuff, c8_xs, c8_ys, c8_zs) else ob (fX8_in p2 1 20) (fun (r4 : Int32) => (if r4 = 0 then some ((-1), c8_legs, c8_units, c8_legWay, c8_legUnits, c8_legStuff, c8_unitWay, c8_unitStuff, c8_xs, c8_ys, c8_zs) else ob (fX8_isStuff p3) (fun (r7 : Int32) => (if r7 = 0 then some ((-1), c8_legs, c8_units, c8_legWay, c8_legUnits, c8_legStuff, c8_unitWay, c8_unitStuff, c8_xs, c8_ys, c8_zs) else (if c8_legs = 12 then some ((-2), c8_legs, c8_units, c8_legWay, c8_legUnits, c8_legStuff, c8_unitWay, c8_unitStuff, c8_xs, c8_ys, c8_zs) else og (vp_in c8_legs 12) (og (vp_in c8_legs 12) (og (vp_in c8_legs 12) (ob6 (fX8_layRun N (c8_legs + 1) c8_units (upd c8_legWay (Int32.toNatClampNeg c8_legs) p1) (upd c8_legUnits (Int32.toNatClampNeg c8_legs) p2) (upd c8_legStuff (Int32.toNatClampNeg c8_legs) p3) c8_unitWay c8_unitStuff c8_xs c8_ys c8_zs) (fun (s14 : Int32) (s15 : Nat → Int32) (s16 : Nat → Int32) (s17 : Nat → Int32) (s18 : Nat → Int32) (s19 : Nat → Int32) => some ((c8_legs + 1), (c8_legs + 1), s14, (upd c8_legWay (Int32.toNatClampNeg c8_legs) p1), (upd c8_legUnits (Int32.toNatClampNeg c8_legs) p2), (upd c8_legStuff (Int32.toNatClampNeg c8_legs) p3), s15, s16, s17, s18, s19))))))))))))
theorem ydX8_leg : yX8_leg.cls = RX8 ∧ yX8_leg.cls ≠ "java/lang/invoke/MethodHandle" ∧ yX8_leg.cls ≠ "java/lang/invoke/VarHandle" ∧ (parseMethodDescriptor yX8_leg.desc).map (fun d => d.parameters.length) = some 3 := by decide +kernel
set_option maxHeartbeats 8000000 in
set_option maxRecDepth 100000 in
theorem kX8_leg (l : Launch) (D : va_G) (cy : Nat → ClassId) (ad : Nat → Nat) (c8_latest : Int32) (c8_asked : Int32) (c8_upper : Int64) (c8_lower : Int64) (c8_legs : Int32) (c8_units : Int32) (c8_rests : Int32) (c8_rates : Int32) (c8_lines : Int32) (c8_came : Nat → Int32) (c8_sizes : Nat → Int32) (c8_weights : Nat → Int32) (c8_growths : Nat → Int32) (c8_copied : Nat → Int32) (c8_legWay : Nat → Int32) (c8_legUnits : Nat → Int32) (c8_legStuff : Nat → Int32) (c8_unitWay : Nat → Int32) (c8_unitStuff : Nat → Int32) (c8_xs : Nat → Int32) (c8_ys : Nat → Int32) (c8_zs : Nat → Int32) (c8_kindOf : Nat → Int32) (c8_placeOf : Nat → Int32) (c8_rateOf : Nat → Int32) (c8_readOf : Nat → Int32) (c8_isGone : Nat → Int32) (c8_theList : Nat → Int32) (c8_amounts : Nat → Int32) (c8_low : Nat → Int32) (c8_high : Nat → Int32) (c8_barred : Nat → Int32) (c8_times : Nat → Int32) (c8_ranges : Nat → Int32) (p1 : Int32) (p2 : Int32) (p3 : Int32) (N : Nat) {ra : Int32} {z8_legs : Int32} {z8_units : Int32} {z8_legWay : Nat → Int32} {z8_legUnits : Nat → Int32} {z8_legStuff : Nat → Int32} {z8_unitWay : Nat → Int32} {z8_unitStuff : Nat → Int32} {z8_xs : Nat → Int32} {z8_ys : Nat → Int32} {z8_zs : Nat → Int32} (hf : fX8_leg N c8_legs c8_units c8_legWay c8_legUnits c8_legStuff c8_unitWay c8_unitStuff c8_xs c8_ys c8_zs p1 p2 p3 = some (ra, z8_legs, z8_units, z8_legWay, z8_legUnits, z8_legStuff, z8_unitWay, z8_unitStuff, z8_xs, z8_ys, z8_zs)) : CI l D cy yX8_leg wsX8_leg ({ frames := 2, cells := 0, slots := 0, locals := 43 } : Room) [.ref (ad 80), .int p1, .int p2, .int p3] (w8 cy ad c8_latest c8_asked c8_upper c8_lower c8_legs c8_units c8_rests c8_rates c8_lines c8_came c8_sizes c8_weights c8_growths c8_copied c8_legWay c8_legUnits c8_legStuff c8_unitWay c8_unitStuff c8_xs c8_ys c8_zs c8_kindOf c8_placeOf c8_rateOf c8_readOf c8_isGone c8_theList c8_amounts c8_low c8_high c8_barred c8_times c8_ranges) ra (w8 cy ad c8_latest c8_asked c8_upper c8_lower z8_legs z8_units c8_rests c8_rates c8_lines c8_came c8_sizes c8_weights c8_growths c8_copied z8_legWay z8_legUnits z8_legStuff z8_unitWay z8_unitStuff z8_xs z8_ys z8_zs c8_kindOf c8_placeOf c8_rateOf c8_readOf c8_isGone c8_theList c8_amounts c8_low c8_high c8_barred c8_times c8_ranges) := by
  unfold fX8_leg at hf
  refine c_of_i (ty := .int) (own := RX8) (by decide) rfl rfl (Nat.le_of_ble_eq_true rfl) (fun X hC hRet => ?_)
  refine r_sub [(0, .ref (ad 80)), (1, .int p1), (2, .int p2), (3, .int p3)] [0, 1, 2, 3] rfl ?_
  have hin8 : ∀ w ∈ wsX80, w ∈ wsX8_leg := fun w h => List.mem_cons_of_mem _ (List.mem_append_right _ h)
  have hw0 : Cond.fieldLink RX8 116 "HotPipesModel" "legs" "I" ∈ wsX8_leg := List.mem_of_getElem? (i := 1) rfl
  have hw1 : Cond.fieldLink RX8 26 "HotPipesModel" "legWay" "[I" ∈ wsX8_leg := List.mem_of_getElem? (i := 2) rfl
  have hw2 : Cond.fieldLink RX8 29 "HotPipesModel" "legUnits" "[I" ∈ wsX8_leg := List.mem_of_getElem? (i := 3) rfl
  have hw3 : Cond.fieldLink RX8 32 "HotPipesModel" "legStuff" "[I" ∈ wsX8_leg := List.mem_of_getElem? (i := 4) rfl
  refine r_iload_n hC dX8_leg_0 rfl 1 rfl ?_
  refine r_iconst hC dX8_leg_1 ic_0 ?_
  refine r_iconst hC dX8_leg_2 ic_5 ?_
  obtain ⟨r1, h2, hf⟩ := ob_some hf
  refine r_si (st := []) hC (kX8_in l D cy p1 0 5 h2) gX8_leg_X8_in rfl ⟨rfl, rfl⟩ ydX8_in ⟨Nat.le_of_ble_eq_true rfl, Nat.le_of_ble_eq_true rfl⟩ ⟨Nat.le_refl 0, Nat.le_refl 0⟩ _ rfl (Nat.le_of_ble_eq_true rfl) dX8_leg_3 ?_
  refine r_if_eq (tgt := 26) hC dX8_leg_6 (by decide) (fun c3 => ?_) (fun c3 => ?_)
  · replace hf := o_pos hf c3
    refine r_iconst hC dX8_leg_26 ic_m1 ?_
    obtain ⟨rfl, rfl, rfl, rfl, rfl, rfl, rfl, rfl, rfl, rfl, rfl⟩ := so_11 hf
    exact hRet _ _ _ dX8_leg_27 rfl
  · replace hf := o_neg hf c3
    refine r_iload_n hC dX8_leg_9 rfl 2 rfl ?_
    refine r_iconst hC dX8_leg_10 ic_1 ?_
    refine r_bipush hC dX8_leg_11 bp_20 ?_
    obtain ⟨r4, h5, hf⟩ := ob_some hf
    refine r_si (st := []) hC (kX8_in l D cy p2 1 20 h5) gX8_leg_X8_in rfl ⟨rfl, rfl⟩ ydX8_in ⟨Nat.le_of_ble_eq_true rfl, Nat.le_of_ble_eq_true rfl⟩ ⟨Nat.le_refl 0, Nat.le_refl 0⟩ _ rfl (Nat.le_of_ble_eq_true rfl) dX8_leg_13 ?_
    refine r_if_eq (tgt := 26) hC dX8_leg_16 (by decide) (fun c6 => ?_) (fun c6 => ?_)
    · replace hf := o_pos hf c6
      refine r_iconst hC dX8_leg_26 ic_m1 ?_
      obtain ⟨rfl, rfl, rfl, rfl, rfl, rfl, rfl, rfl, rfl, rfl, rfl⟩ := so_11 hf
      exact hRet _ _ _ dX8_leg_27 rfl
    · replace hf := o_neg hf c6
      refine r_iload_n hC dX8_leg_19 rfl 3 rfl ?_
      obtain ⟨r7, h8, hf⟩ := ob_some hf
      refine r_si (st := []) hC (kX8_isStuff l D cy p3 h8) gX8_leg_X8_isStuff rfl ⟨rfl, rfl⟩ ydX8_isStuff ⟨Nat.le_of_ble_eq_true rfl, Nat.le_of_ble_eq_true rfl⟩ ⟨Nat.le_refl 0, Nat.le_refl 0⟩ _ rfl (Nat.le_of_ble_eq_true rfl) dX8_leg_20 ?_
      refine r_if_ne (tgt := 28) hC dX8_leg_23 (by decide) (fun c9 => ?_) (fun c9 => ?_)
      · replace hf := o_neg hf c9
        refine r_aload_n hC dX8_leg_28 rfl 0 rfl ?_
        refine r_get hC hin8 0 rfl rfl 9 (by decide) rfl hw0 rfl dX8_leg_29 ?_
        refine r_bipush hC dX8_leg_32 bp_12 ?_
        refine r_icmp_ne (tgt := 40) hC dX8_leg_34 (by decide) (fun c10 => ?_) (fun c10 => ?_)
        · replace hf := o_neg hf c10
          refine r_aload_n hC dX8_leg_40 rfl 0 rfl ?_
          refine r_get hC hin8 0 rfl rfl 10 (by decide) rfl hw1 rfl dX8_leg_41 ?_
          refine r_aload_n hC dX8_leg_44 rfl 0 rfl ?_
          refine r_get hC hin8 0 rfl rfl 9 (by decide) rfl hw0 rfl dX8_leg_45 ?_
          refine r_iload_n hC dX8_leg_48 rfl 1 rfl ?_
          obtain ⟨g11, hf⟩ := og_some hf
          refine r_iast hC 6 rfl g11 dX8_leg_49 (w8 cy ad c8_latest c8_asked c8_upper c8_lower c8_legs c8_units c8_rests c8_rates c8_lines c8_came c8_sizes c8_weights c8_growths c8_copied (upd c8_legWay (Int32.toNatClampNeg c8_legs) p1) c8_legUnits c8_legStuff c8_unitWay c8_unitStuff c8_xs c8_ys c8_zs c8_kindOf c8_placeOf c8_rateOf c8_readOf c8_isGone c8_theList c8_amounts c8_low c8_high c8_barred c8_times c8_ranges) rfl ?_
          refine r_aload_n hC dX8_leg_50 rfl 0 rfl ?_
          refine r_get hC hin8 0 rfl rfl 11 (by decide) rfl hw2 rfl dX8_leg_51 ?_
          refine r_aload_n hC dX8_leg_54 rfl 0 rfl ?_
          refine r_get hC hin8 0 rfl rfl 9 (by decide) rfl hw0 rfl dX8_leg_55 ?_
          refine r_iload_n hC dX8_leg_58 rfl 2 rfl ?_
          obtain ⟨g12, hf⟩ := og_some hf
          refine r_iast hC 7 rfl g12 dX8_leg_59 (w8 cy ad c8_latest c8_asked c8_upper c8_lower c8_legs c8_units c8_rests c8_rates c8_lines c8_came c8_sizes c8_weights c8_growths c8_copied (upd c8_legWay (Int32.toNatClampNeg c8_legs) p1) (upd c8_legUnits (Int32.toNatClampNeg c8_legs) p2) c8_legStuff c8_unitWay c8_unitStuff c8_xs c8_ys c8_zs c8_kindOf c8_placeOf c8_rateOf c8_readOf c8_isGone c8_theList c8_amounts c8_low c8_high c8_barred c8_times c8_ranges) rfl ?_
          refine r_aload_n hC dX8_leg_60 rfl 0 rfl ?_
          refine r_get hC hin8 0 rfl rfl 12 (by decide) rfl hw3 rfl dX8_leg_61 ?_
          refine r_aload_n hC dX8_leg_64 rfl 0 rfl ?_
          refine r_get hC hin8 0 rfl rfl 9 (by decide) rfl hw0 rfl dX8_leg_65 ?_
          refine r_iload_n hC dX8_leg_68 rfl 3 rfl ?_
          obtain ⟨g13, hf⟩ := og_some hf
          refine r_iast hC 8 rfl g13 dX8_leg_69 (w8 cy ad c8_latest c8_asked c8_upper c8_lower c8_legs c8_units c8_rests c8_rates c8_lines c8_came c8_sizes c8_weights c8_growths c8_copied (upd c8_legWay (Int32.toNatClampNeg c8_legs) p1) (upd c8_legUnits (Int32.toNatClampNeg c8_legs) p2) (upd c8_legStuff (Int32.toNatClampNeg c8_legs) p3) c8_unitWay c8_unitStuff c8_xs c8_ys c8_zs c8_kindOf c8_placeOf c8_rateOf c8_readOf c8_isGone c8_theList c8_amounts c8_low c8_high c8_barred c8_times c8_ranges) rfl ?_
          refine r_aload_n hC dX8_leg_70 rfl 0 rfl ?_
          refine r_dup hC dX8_leg_71 rfl ?_
          refine r_get hC hin8 0 rfl rfl 9 (by decide) rfl hw0 rfl dX8_leg_72 ?_
          refine r_iconst hC dX8_leg_75 ic_1 ?_
          refine r_iadd hC dX8_leg_76 ?_
          refine r_put (ty := .int) hC hin8 tyX8_ok nmX8 0 rfl rfl 9 (by decide) rfl hw0 rfl rfl rfl rfl (Nat.le_of_ble_eq_true rfl) dX8_leg_77 (w8 cy ad c8_latest c8_asked c8_upper c8_lower (c8_legs + 1) c8_units c8_rests c8_rates c8_lines c8_came c8_sizes c8_weights c8_growths c8_copied (upd c8_legWay (Int32.toNatClampNeg c8_legs) p1) (upd c8_legUnits (Int32.toNatClampNeg c8_legs) p2) (upd c8_legStuff (Int32.toNatClampNeg c8_legs) p3) c8_unitWay c8_unitStuff c8_xs c8_ys c8_zs c8_kindOf c8_placeOf c8_rateOf c8_readOf c8_isGone c8_theList c8_amounts c8_low c8_high c8_barred c8_times c8_ranges) rfl ?_
          refine r_aload_n hC dX8_leg_80 rfl 0 rfl ?_
          obtain ⟨s14, s15, s16, s17, s18, s19, h20, hf⟩ := ob6_some hf
          refine r_vv (st := []) hC (kX8_layRun l D cy ad c8_latest c8_asked c8_upper c8_lower (c8_legs + 1) c8_units c8_rests c8_rates c8_lines c8_came c8_sizes c8_weights c8_growths c8_copied (upd c8_legWay (Int32.toNatClampNeg c8_legs) p1) (upd c8_legUnits (Int32.toNatClampNeg c8_legs) p2) (upd c8_legStuff (Int32.toNatClampNeg c8_legs) p3) c8_unitWay c8_unitStuff c8_xs c8_ys c8_zs c8_kindOf c8_placeOf c8_rateOf c8_readOf c8_isGone c8_theList c8_amounts c8_low c8_high c8_barred c8_times c8_ranges  N h20) gX8_leg_X8_layRun rfl ⟨rfl, rfl⟩ ydX8_layRun ⟨Nat.le_of_ble_eq_true rfl, Nat.le_of_ble_eq_true rfl⟩ ⟨Nat.le_refl 0, Nat.le_refl 0⟩ 0 rfl rfl [] [] rfl _ rfl (Nat.le_of_ble_eq_true rfl) dX8_leg_81 (w8 cy ad c8_latest c8_asked c8_upper c8_lower (c8_legs + 1) s14 c8_rests c8_rates c8_lines c8_came c8_sizes c8_weights c8_growths c8_copied (upd c8_legWay (Int32.toNatClampNeg c8_legs) p1) (upd c8_legUnits (Int32.toNatClampNeg c8_legs) p2) (upd c8_legStuff (Int32.toNatClampNeg c8_legs) p3) s15 s16 s17 s18 s19 c8_kindOf c8_placeOf c8_rateOf c8_readOf c8_isGone c8_theList c8_amounts c8_low c8_high c8_barred c8_times c8_ranges) rfl ?_
          refine r_aload_n hC dX8_leg_84 rfl 0 rfl ?_
          refine r_get hC hin8 0 rfl rfl 9 (by decide) rfl hw0 rfl dX8_leg_85 ?_
          obtain ⟨rfl, rfl, rfl, rfl, rfl, rfl, rfl, rfl, rfl, rfl, rfl⟩ := so_11 hf
          exact hRet _ _ _ dX8_leg_88 rfl
        · replace hf := o_pos hf c10
          refine r_bipush hC dX8_leg_37 bp_m2 ?_
          obtain ⟨rfl, rfl, rfl, rfl, rfl, rfl, rfl, rfl, rfl, rfl, rfl⟩ := so_11 hf
          exact hRet _ _ _ dX8_leg_39 rfl
      · replace hf := o_pos hf c9
        refine r_iconst hC dX8_leg_26 ic_m1 ?_
        obtain ⟨rfl, rfl, rfl, rfl, rfl, rfl, rfl, rfl, rfl, rfl, rfl⟩ := so_11 hf
        exact hRet _ _ _ dX8_leg_27 rfl
noncomputable def fX8_cut (N : Nat) (c8_legs : Int32) (c8_units : Int32) (c8_legWay : Nat → Int32) (c8_legUnits : Nat → Int32) (c8_legStuff : Nat → Int32) (c8_unitWay : Nat → Int32) (c8_unitStuff : Nat → Int32) (c8_xs : Nat → Int32) (c8_ys : Nat → Int32) (c8_zs : Nat → Int32) : Option (Int32 × Int32 × Int32 × (Nat → Int32) × (Nat → Int32) × (Nat → Int32) × (Nat → Int32) × (Nat → Int32)) := (if c8_legs = 0 then some ((-4), c8_legs, c8_units, c8_unitWay, c8_unitStuff, c8_xs, c8_ys, c8_zs) else ob6 (fX8_layRun N (c8_legs - 1) c8_units c8_legWay c8_legUnits c8_legStuff c8_unitWay c8_unitStuff c8_xs c8_ys c8_zs) (fun (s2 : Int32) (s3 : Nat → Int32) (s4 : Nat → Int32) (s5 : Nat → Int32) (s6 : Nat → Int32) (s7 : Nat → Int32) => some ((c8_legs - 1), (c8_legs - 1), s2, s3, s4, s5, s6, s7)))
theorem ydX8_cut : yX8_cut.cls = RX8 ∧ yX8_cut.cls ≠ "java/lang/invoke/MethodHandle" ∧ yX8_cut.cls ≠ "java/lang/invoke/VarHandle" ∧ (parseMethodDescriptor yX8_cut.desc).map (fun d => d.parameters.length) = some 0 := by decide +kernel
set_option maxHeartbeats 8000000 in
set_option maxRecDepth 100000 in
theorem kX8_cut (l : Launch) (D : va_G) (cy : Nat → ClassId) (ad : Nat → Nat) (c8_latest : Int32) (c8_asked : Int32) (c8_upper : Int64) (c8_lower : Int64) (c8_legs : Int32) (c8_units : Int32) (c8_rests : Int32) (c8_rates : Int32) (c8_lines : Int32) (c8_came : Nat → Int32) (c8_sizes : Nat → Int32) (c8_weights : Nat → Int32) (c8_growths : Nat → Int32) (c8_copied : Nat → Int32) (c8_legWay : Nat → Int32) (c8_legUnits : Nat → Int32) (c8_legStuff : Nat → Int32) (c8_unitWay : Nat → Int32) (c8_unitStuff : Nat → Int32) (c8_xs : Nat → Int32) (c8_ys : Nat → Int32) (c8_zs : Nat → Int32) (c8_kindOf : Nat → Int32) (c8_placeOf : Nat → Int32) (c8_rateOf : Nat → Int32) (c8_readOf : Nat → Int32) (c8_isGone : Nat → Int32) (c8_theList : Nat → Int32) (c8_amounts : Nat → Int32) (c8_low : Nat → Int32) (c8_high : Nat → Int32) (c8_barred : Nat → Int32) (c8_times : Nat → Int32) (c8_ranges : Nat → Int32) (N : Nat) {ra : Int32} {z8_legs : Int32} {z8_units : Int32} {z8_unitWay : Nat → Int32} {z8_unitStuff : Nat → Int32} {z8_xs : Nat → Int32} {z8_ys : Nat → Int32} {z8_zs : Nat → Int32} (hf : fX8_cut N c8_legs c8_units c8_legWay c8_legUnits c8_legStuff c8_unitWay c8_unitStuff c8_xs c8_ys c8_zs = some (ra, z8_legs, z8_units, z8_unitWay, z8_unitStuff, z8_xs, z8_ys, z8_zs)) : CI l D cy yX8_cut wsX8_cut ({ frames := 2, cells := 0, slots := 0, locals := 43 } : Room) [.ref (ad 80)] (w8 cy ad c8_latest c8_asked c8_upper c8_lower c8_legs c8_units c8_rests c8_rates c8_lines c8_came c8_sizes c8_weights c8_growths c8_copied c8_legWay c8_legUnits c8_legStuff c8_unitWay c8_unitStuff c8_xs c8_ys c8_zs c8_kindOf c8_placeOf c8_rateOf c8_readOf c8_isGone c8_theList c8_amounts c8_low c8_high c8_barred c8_times c8_ranges) ra (w8 cy ad c8_latest c8_asked c8_upper c8_lower z8_legs z8_units c8_rests c8_rates c8_lines c8_came c8_sizes c8_weights c8_growths c8_copied c8_legWay c8_legUnits c8_legStuff z8_unitWay z8_unitStuff z8_xs z8_ys z8_zs c8_kindOf c8_placeOf c8_rateOf c8_readOf c8_isGone c8_theList c8_amounts c8_low c8_high c8_barred c8_times c8_ranges) := by
  unfold fX8_cut at hf
  refine c_of_i (ty := .int) (own := RX8) (by decide) rfl rfl (Nat.le_of_ble_eq_true rfl) (fun X hC hRet => ?_)
  refine r_sub [(0, .ref (ad 80))] [0] rfl ?_
  have hin8 : ∀ w ∈ wsX80, w ∈ wsX8_cut := fun w h => List.mem_cons_of_mem _ (List.mem_append_right _ h)
  have hw0 : Cond.fieldLink RX8 116 "HotPipesModel" "legs" "I" ∈ wsX8_cut := List.mem_of_getElem? (i := 1) rfl
  refine r_aload_n hC dX8_cut_0 rfl 0 rfl ?_
  refine r_get hC hin8 0 rfl rfl 9 (by decide) rfl hw0 rfl dX8_cut_1 ?_
  refine r_if_ne (tgt := 10) hC dX8_cut_4 (by decide) (fun c1 => ?_) (fun c1 => ?_)
  · replace hf := o_neg hf c1
    refine r_aload_n hC dX8_cut_10 rfl 0 rfl ?_
    refine r_dup hC dX8_cut_11 rfl ?_
    refine r_get hC hin8 0 rfl rfl 9 (by decide) rfl hw0 rfl dX8_cut_12 ?_
    refine r_iconst hC dX8_cut_15 ic_1 ?_
    refine r_isub hC dX8_cut_16 ?_
    refine r_put (ty := .int) hC hin8 tyX8_ok nmX8 0 rfl rfl 9 (by decide) rfl hw0 rfl rfl rfl rfl (Nat.le_of_ble_eq_true rfl) dX8_cut_17 (w8 cy ad c8_latest c8_asked c8_upper c8_lower (c8_legs - 1) c8_units c8_rests c8_rates c8_lines c8_came c8_sizes c8_weights c8_growths c8_copied c8_legWay c8_legUnits c8_legStuff c8_unitWay c8_unitStuff c8_xs c8_ys c8_zs c8_kindOf c8_placeOf c8_rateOf c8_readOf c8_isGone c8_theList c8_amounts c8_low c8_high c8_barred c8_times c8_ranges) rfl ?_
    refine r_aload_n hC dX8_cut_20 rfl 0 rfl ?_
    obtain ⟨s2, s3, s4, s5, s6, s7, h8, hf⟩ := ob6_some hf
    refine r_vv (st := []) hC (kX8_layRun l D cy ad c8_latest c8_asked c8_upper c8_lower (c8_legs - 1) c8_units c8_rests c8_rates c8_lines c8_came c8_sizes c8_weights c8_growths c8_copied c8_legWay c8_legUnits c8_legStuff c8_unitWay c8_unitStuff c8_xs c8_ys c8_zs c8_kindOf c8_placeOf c8_rateOf c8_readOf c8_isGone c8_theList c8_amounts c8_low c8_high c8_barred c8_times c8_ranges  N h8) gX8_cut_X8_layRun rfl ⟨rfl, rfl⟩ ydX8_layRun ⟨Nat.le_of_ble_eq_true rfl, Nat.le_of_ble_eq_true rfl⟩ ⟨Nat.le_refl 0, Nat.le_refl 0⟩ 0 rfl rfl [] [] rfl _ rfl (Nat.le_of_ble_eq_true rfl) dX8_cut_21 (w8 cy ad c8_latest c8_asked c8_upper c8_lower (c8_legs - 1) s2 c8_rests c8_rates c8_lines c8_came c8_sizes c8_weights c8_growths c8_copied c8_legWay c8_legUnits c8_legStuff s3 s4 s5 s6 s7 c8_kindOf c8_placeOf c8_rateOf c8_readOf c8_isGone c8_theList c8_amounts c8_low c8_high c8_barred c8_times c8_ranges) rfl ?_
    refine r_aload_n hC dX8_cut_24 rfl 0 rfl ?_
    refine r_get hC hin8 0 rfl rfl 9 (by decide) rfl hw0 rfl dX8_cut_25 ?_
    obtain ⟨rfl, rfl, rfl, rfl, rfl, rfl, rfl, rfl⟩ := so_8 hf
    exact hRet _ _ _ dX8_cut_28 rfl
  · replace hf := o_pos hf c1
    refine r_bipush hC dX8_cut_7 bp_m4 ?_
    obtain ⟨rfl, rfl, rfl, rfl, rfl, rfl, rfl, rfl⟩ := so_8 hf
    exact hRet _ _ _ dX8_cut_9 rfl
noncomputable def fX8_where (c8_asked : Int32) (c8_units : Int32) (c8_xs : Nat → Int32) (c8_ys : Nat → Int32) (c8_zs : Nat → Int32) (p1 : Int32) (p2 : Int32) : Option (Int32 × Int32) := ob (fX8_in p1 0 c8_units) (fun (r1 : Int32) => oj (some ((-1), c8_asked)) (fun (K62_3 : Option (Int32 × Int32)) => (if r1 = 0 then K62_3 else ob (fX8_in p2 0 2) (fun (r5 : Int32) => (if r5 = 0 then K62_3 else ob ((if p2 = 0 then og (vp_in p1 241) (some (c8_xs (Int32.toNatClampNeg p1))) else (if p2 = 1 then og (vp_in p1 241) (some (c8_ys (Int32.toNatClampNeg p1))) else og (vp_in p1 241) (some (c8_zs (Int32.toNatClampNeg p1)))))) (fun (t8 : Int32) => ob2 (fX8_tells c8_asked t8 1) (fun (r9 : Int32) (s10 : Int32) => some (r9, s10))))))))
theorem ydX8_where : yX8_where.cls = RX8 ∧ yX8_where.cls ≠ "java/lang/invoke/MethodHandle" ∧ yX8_where.cls ≠ "java/lang/invoke/VarHandle" ∧ (parseMethodDescriptor yX8_where.desc).map (fun d => d.parameters.length) = some 2 := by decide +kernel
set_option maxHeartbeats 8000000 in
set_option maxRecDepth 100000 in
theorem kX8_where (l : Launch) (D : va_G) (cy : Nat → ClassId) (ad : Nat → Nat) (c8_latest : Int32) (c8_asked : Int32) (c8_upper : Int64) (c8_lower : Int64) (c8_legs : Int32) (c8_units : Int32) (c8_rests : Int32) (c8_rates : Int32) (c8_lines : Int32) (c8_came : Nat → Int32) (c8_sizes : Nat → Int32) (c8_weights : Nat → Int32) (c8_growths : Nat → Int32) (c8_copied : Nat → Int32) (c8_legWay : Nat → Int32) (c8_legUnits : Nat → Int32) (c8_legStuff : Nat → Int32) (c8_unitWay : Nat → Int32) (c8_unitStuff : Nat → Int32) (c8_xs : Nat → Int32) (c8_ys : Nat → Int32) (c8_zs : Nat → Int32) (c8_kindOf : Nat → Int32) (c8_placeOf : Nat → Int32) (c8_rateOf : Nat → Int32) (c8_readOf : Nat → Int32) (c8_isGone : Nat → Int32) (c8_theList : Nat → Int32) (c8_amounts : Nat → Int32) (c8_low : Nat → Int32) (c8_high : Nat → Int32) (c8_barred : Nat → Int32) (c8_times : Nat → Int32) (c8_ranges : Nat → Int32) (p1 : Int32) (p2 : Int32) {ra : Int32} {z8_asked : Int32} (hf : fX8_where c8_asked c8_units c8_xs c8_ys c8_zs p1 p2 = some (ra, z8_asked)) : CI l D cy yX8_where wsX8_where ({ frames := 1, cells := 0, slots := 0, locals := 22 } : Room) [.ref (ad 80), .int p1, .int p2] (w8 cy ad c8_latest c8_asked c8_upper c8_lower c8_legs c8_units c8_rests c8_rates c8_lines c8_came c8_sizes c8_weights c8_growths c8_copied c8_legWay c8_legUnits c8_legStuff c8_unitWay c8_unitStuff c8_xs c8_ys c8_zs c8_kindOf c8_placeOf c8_rateOf c8_readOf c8_isGone c8_theList c8_amounts c8_low c8_high c8_barred c8_times c8_ranges) ra (w8 cy ad c8_latest z8_asked c8_upper c8_lower c8_legs c8_units c8_rests c8_rates c8_lines c8_came c8_sizes c8_weights c8_growths c8_copied c8_legWay c8_legUnits c8_legStuff c8_unitWay c8_unitStuff c8_xs c8_ys c8_zs c8_kindOf c8_placeOf c8_rateOf c8_readOf c8_isGone c8_theList c8_amounts c8_low c8_high c8_barred c8_times c8_ranges) := by
  unfold fX8_where at hf
  refine c_of_i (ty := .int) (own := RX8) (by decide) rfl rfl (Nat.le_of_ble_eq_true rfl) (fun X hC hRet => ?_)
  refine r_sub [(0, .ref (ad 80)), (1, .int p1), (2, .int p2)] [0, 1, 2] rfl ?_
  have hin8 : ∀ w ∈ wsX80, w ∈ wsX8_where := fun w h => List.mem_cons_of_mem _ (List.mem_append_right _ h)
  have hw0 : Cond.fieldLink RX8 113 "HotPipesModel" "units" "I" ∈ wsX8_where := List.mem_of_getElem? (i := 1) rfl
  have hw1 : Cond.fieldLink RX8 47 "HotPipesModel" "zs" "[I" ∈ wsX8_where := List.mem_of_getElem? (i := 4) rfl
  have hw2 : Cond.fieldLink RX8 44 "HotPipesModel" "ys" "[I" ∈ wsX8_where := List.mem_of_getElem? (i := 3) rfl
  have hw3 : Cond.fieldLink RX8 41 "HotPipesModel" "xs" "[I" ∈ wsX8_where := List.mem_of_getElem? (i := 2) rfl
  refine r_iload_n hC dX8_where_0 rfl 1 rfl ?_
  refine r_iconst hC dX8_where_1 ic_0 ?_
  refine r_aload_n hC dX8_where_2 rfl 0 rfl ?_
  refine r_get hC hin8 0 rfl rfl 13 (by decide) rfl hw0 rfl dX8_where_3 ?_
  obtain ⟨r1, h2, hf⟩ := ob_some hf
  refine r_si (st := []) hC (kX8_in l D cy p1 0 c8_units h2) gX8_where_X8_in rfl ⟨rfl, rfl⟩ ydX8_in ⟨Nat.le_of_ble_eq_true rfl, Nat.le_of_ble_eq_true rfl⟩ ⟨Nat.le_refl 0, Nat.le_refl 0⟩ _ rfl (Nat.le_of_ble_eq_true rfl) dX8_where_6 ?_
  obtain ⟨K62_3, eK62_3, hf⟩ := oj_some hf
  have J62_3 : K62_3 = some (ra, z8_asked) → GG X 3 0 0 (w8 cy ad c8_latest c8_asked c8_upper c8_lower c8_legs c8_units c8_rests c8_rates c8_lines c8_came c8_sizes c8_weights c8_growths c8_copied c8_legWay c8_legUnits c8_legStuff c8_unitWay c8_unitStuff c8_xs c8_ys c8_zs c8_kindOf c8_placeOf c8_rateOf c8_readOf c8_isGone c8_theList c8_amounts c8_low c8_high c8_barred c8_times c8_ranges) [] 62 [] := by
    intro hf
    replace hf := oa0 eK62_3 hf
    refine r_iconst hC dX8_where_62 ic_m1 ?_
    obtain ⟨rfl, rfl⟩ := so_2 hf
    exact hRet _ _ _ dX8_where_63 rfl
  refine r_if_eq (tgt := 62) hC dX8_where_9 (by decide) (fun c4 => ?_) (fun c4 => ?_)
  · replace hf := o_pos hf c4
    refine r_sub [] [] rfl ?_
    exact J62_3 hf
  · replace hf := o_neg hf c4
    refine r_iload_n hC dX8_where_12 rfl 2 rfl ?_
    refine r_iconst hC dX8_where_13 ic_0 ?_
    refine r_iconst hC dX8_where_14 ic_2 ?_
    obtain ⟨r5, h6, hf⟩ := ob_some hf
    refine r_si (st := []) hC (kX8_in l D cy p2 0 2 h6) gX8_where_X8_in rfl ⟨rfl, rfl⟩ ydX8_in ⟨Nat.le_of_ble_eq_true rfl, Nat.le_of_ble_eq_true rfl⟩ ⟨Nat.le_refl 0, Nat.le_refl 0⟩ _ rfl (Nat.le_of_ble_eq_true rfl) dX8_where_15 ?_
    refine r_if_eq (tgt := 62) hC dX8_where_18 (by decide) (fun c7 => ?_) (fun c7 => ?_)
    · replace hf := o_pos hf c7
      refine r_sub [] [] rfl ?_
      exact J62_3 hf
    · replace hf := o_neg hf c7
      refine r_aload_n hC dX8_where_21 rfl 0 rfl ?_
      refine r_iload_n hC dX8_where_22 rfl 2 rfl ?_
      obtain ⟨t8, h13, hf⟩ := ob_some hf
      have J55_12 : GG X 3 0 0 (w8 cy ad c8_latest c8_asked c8_upper c8_lower c8_legs c8_units c8_rests c8_rates c8_lines c8_came c8_sizes c8_weights c8_growths c8_copied c8_legWay c8_legUnits c8_legStuff c8_unitWay c8_unitStuff c8_xs c8_ys c8_zs c8_kindOf c8_placeOf c8_rateOf c8_readOf c8_isGone c8_theList c8_amounts c8_low c8_high c8_barred c8_times c8_ranges) [] 55 [.int t8, .ref (ad 80)] := by
        refine r_iconst hC dX8_where_55 ic_1 ?_
        obtain ⟨r9, s10, h11, hf⟩ := ob2_some hf
        refine r_vi (st := []) hC (kX8_tells l D cy ad c8_latest c8_asked c8_upper c8_lower c8_legs c8_units c8_rests c8_rates c8_lines c8_came c8_sizes c8_weights c8_growths c8_copied c8_legWay c8_legUnits c8_legStuff c8_unitWay c8_unitStuff c8_xs c8_ys c8_zs c8_kindOf c8_placeOf c8_rateOf c8_readOf c8_isGone c8_theList c8_amounts c8_low c8_high c8_barred c8_times c8_ranges t8 1 h11) gX8_where_X8_tells rfl ⟨rfl, rfl⟩ ydX8_tells ⟨Nat.le_of_ble_eq_true rfl, Nat.le_of_ble_eq_true rfl⟩ ⟨Nat.le_refl 0, Nat.le_refl 0⟩ 0 rfl rfl [] [] rfl _ rfl (Nat.le_of_ble_eq_true rfl) dX8_where_56 (w8 cy ad c8_latest s10 c8_upper c8_lower c8_legs c8_units c8_rests c8_rates c8_lines c8_came c8_sizes c8_weights c8_growths c8_copied c8_legWay c8_legUnits c8_legStuff c8_unitWay c8_unitStuff c8_xs c8_ys c8_zs c8_kindOf c8_placeOf c8_rateOf c8_readOf c8_isGone c8_theList c8_amounts c8_low c8_high c8_barred c8_times c8_ranges) rfl ?_
        refine r_goto (tgt := 63) hC dX8_where_59 (by decide) ?_
        obtain ⟨rfl, rfl⟩ := so_2 hf
        exact hRet _ _ _ dX8_where_63 rfl
      replace hf := h13
      refine r_if_ne (tgt := 35) hC dX8_where_23 (by decide) (fun c14 => ?_) (fun c14 => ?_)
      · replace hf := o_neg hf c14
        refine r_iload_n hC dX8_where_35 rfl 2 rfl ?_
        refine r_iconst hC dX8_where_36 ic_1 ?_
        refine r_icmp_ne (tgt := 49) hC dX8_where_37 (by decide) (fun c15 => ?_) (fun c15 => ?_)
        · replace hf := o_neg hf c15
          refine r_aload_n hC dX8_where_49 rfl 0 rfl ?_
          refine r_get hC hin8 0 rfl rfl 18 (by decide) rfl hw1 rfl dX8_where_50 ?_
          refine r_iload_n hC dX8_where_53 rfl 1 rfl ?_
          obtain ⟨g16, hf⟩ := og_some hf
          refine r_iald hC 13 rfl g16 dX8_where_54 ?_
          obtain rfl := so_1 hf
          refine r_sub [] [] rfl ?_
          exact J55_12
        · replace hf := o_pos hf c15
          refine r_aload_n hC dX8_where_40 rfl 0 rfl ?_
          refine r_get hC hin8 0 rfl rfl 17 (by decide) rfl hw2 rfl dX8_where_41 ?_
          refine r_iload_n hC dX8_where_44 rfl 1 rfl ?_
          obtain ⟨g17, hf⟩ := og_some hf
          refine r_iald hC 12 rfl g17 dX8_where_45 ?_
          refine r_goto (tgt := 55) hC dX8_where_46 (by decide) ?_
          obtain rfl := so_1 hf
          refine r_sub [] [] rfl ?_
          exact J55_12
      · replace hf := o_pos hf c14
        refine r_aload_n hC dX8_where_26 rfl 0 rfl ?_
        refine r_get hC hin8 0 rfl rfl 16 (by decide) rfl hw3 rfl dX8_where_27 ?_
        refine r_iload_n hC dX8_where_30 rfl 1 rfl ?_
        obtain ⟨g18, hf⟩ := og_some hf
        refine r_iald hC 11 rfl g18 dX8_where_31 ?_
        refine r_goto (tgt := 55) hC dX8_where_32 (by decide) ?_
        obtain rfl := so_1 hf
        refine r_sub [] [] rfl ?_
        exact J55_12
noncomputable def fX8_isStep (p1 : Int32) : Option (Int32) := ob (fX8_in p1 0 15) (fun (r1 : Int32) => og (r1 = 0 ∨ r1 = 1) (some r1))
theorem ydX8_isStep : yX8_isStep.cls ≠ "java/lang/invoke/MethodHandle" ∧ yX8_isStep.cls ≠ "java/lang/invoke/VarHandle" ∧ (parseMethodDescriptor yX8_isStep.desc).map (fun d => d.parameters.length) = some 1 := by decide +kernel
set_option maxHeartbeats 8000000 in
set_option maxRecDepth 100000 in
theorem kX8_isStep (l : Launch) (D : va_G) (cy : Nat → ClassId) (p1 : Int32) {ra : Int32} (hf : fX8_isStep p1 = some ra) : CI l D cy yX8_isStep wsX8_isStep ({ frames := 1, cells := 0, slots := 0, locals := 22 } : Room) [.int p1] [] ra [] := by
  unfold fX8_isStep at hf
  refine c_of_i (ty := .boolean) (own := RX8) (by decide) rfl rfl (Nat.le_of_ble_eq_true rfl) (fun X hC hRet => ?_)
  refine r_sub [(0, .int p1)] [0] rfl ?_
  refine r_iload_n hC dX8_isStep_0 rfl 0 rfl ?_
  refine r_iconst hC dX8_isStep_1 ic_0 ?_
  refine r_bipush hC dX8_isStep_2 bp_15 ?_
  obtain ⟨r1, h2, hf⟩ := ob_some hf
  refine r_si (st := []) hC (kX8_in l D cy p1 0 15 h2) gX8_isStep_X8_in rfl ⟨rfl, rfl⟩ ydX8_in ⟨Nat.le_of_ble_eq_true rfl, Nat.le_of_ble_eq_true rfl⟩ ⟨Nat.le_refl 0, Nat.le_refl 0⟩ _ rfl (Nat.le_of_ble_eq_true rfl) dX8_isStep_4 ?_
  obtain ⟨g3, hf⟩ := og_some hf
  obtain rfl := so_1 hf
  exact hRet _ _ _ dX8_isStep_7 (nb_of g3)
noncomputable def fX8_grownTo_L6 (c8_units : Int32) (c8_sizes : Nat → Int32) (c8_growths : Nat → Int32) (c8_unitWay : Nat → Int32) (c8_unitStuff : Nat → Int32) (p1 : Int32) (p2 : Int32) (p3 : Int32) : Nat → Int32 → Int32 → Option (Int32)
  | 0, _, _ => none
  | n + 1, x1, x2 => (if c8_units ≤ x2 then some x1 else (if p1 ≤ x2 then some x1 else og (vp_in x2 240) (ob ((if ((c8_unitWay (Int32.toNatClampNeg x2)) / 2) = p3 then og (vp_in x2 240) (ob (fX8_signOf (c8_unitWay (Int32.toNatClampNeg x2))) (fun (r12 : Int32) => og (vp_in x2 240) (ob (fX8_growth c8_sizes c8_growths (c8_unitStuff (Int32.toNatClampNeg x2)) p2) (fun (r15 : Int32) => some (r12 * r15))))) else some 0)) (fun (t6 : Int32) => olet (x1 + t6) (fun (x7 : Int32) => fX8_grownTo_L6 c8_units c8_sizes c8_growths c8_unitWay c8_unitStuff p1 p2 p3 n x7 (x2 + 1))))))
noncomputable def fX8_grownTo (N : Nat) (c8_units : Int32) (c8_sizes : Nat → Int32) (c8_growths : Nat → Int32) (c8_unitWay : Nat → Int32) (c8_unitStuff : Nat → Int32) (p1 : Int32) (p2 : Int32) (p3 : Int32) : Option (Int32) := fX8_grownTo_L6 c8_units c8_sizes c8_growths c8_unitWay c8_unitStuff p1 p2 p3 N 0 0
theorem ydX8_grownTo : yX8_grownTo.cls = RX8 ∧ yX8_grownTo.cls ≠ "java/lang/invoke/MethodHandle" ∧ yX8_grownTo.cls ≠ "java/lang/invoke/VarHandle" ∧ (parseMethodDescriptor yX8_grownTo.desc).map (fun d => d.parameters.length) = some 3 := by decide +kernel
set_option maxHeartbeats 8000000 in
set_option maxRecDepth 100000 in
theorem kX8_grownTo (l : Launch) (D : va_G) (cy : Nat → ClassId) (ad : Nat → Nat) (c8_latest : Int32) (c8_asked : Int32) (c8_upper : Int64) (c8_lower : Int64) (c8_legs : Int32) (c8_units : Int32) (c8_rests : Int32) (c8_rates : Int32) (c8_lines : Int32) (c8_came : Nat → Int32) (c8_sizes : Nat → Int32) (c8_weights : Nat → Int32) (c8_growths : Nat → Int32) (c8_copied : Nat → Int32) (c8_legWay : Nat → Int32) (c8_legUnits : Nat → Int32) (c8_legStuff : Nat → Int32) (c8_unitWay : Nat → Int32) (c8_unitStuff : Nat → Int32) (c8_xs : Nat → Int32) (c8_ys : Nat → Int32) (c8_zs : Nat → Int32) (c8_kindOf : Nat → Int32) (c8_placeOf : Nat → Int32) (c8_rateOf : Nat → Int32) (c8_readOf : Nat → Int32) (c8_isGone : Nat → Int32) (c8_theList : Nat → Int32) (c8_amounts : Nat → Int32) (c8_low : Nat → Int32) (c8_high : Nat → Int32) (c8_barred : Nat → Int32) (c8_times : Nat → Int32) (c8_ranges : Nat → Int32) (p1 : Int32) (p2 : Int32) (p3 : Int32) (N : Nat) {ra : Int32} (hf : fX8_grownTo N c8_units c8_sizes c8_growths c8_unitWay c8_unitStuff p1 p2 p3 = some ra) : CI l D cy yX8_grownTo wsX8_grownTo ({ frames := 1, cells := 0, slots := 0, locals := 22 } : Room) [.ref (ad 80), .int p1, .int p2, .int p3] (w8 cy ad c8_latest c8_asked c8_upper c8_lower c8_legs c8_units c8_rests c8_rates c8_lines c8_came c8_sizes c8_weights c8_growths c8_copied c8_legWay c8_legUnits c8_legStuff c8_unitWay c8_unitStuff c8_xs c8_ys c8_zs c8_kindOf c8_placeOf c8_rateOf c8_readOf c8_isGone c8_theList c8_amounts c8_low c8_high c8_barred c8_times c8_ranges) ra (w8 cy ad c8_latest c8_asked c8_upper c8_lower c8_legs c8_units c8_rests c8_rates c8_lines c8_came c8_sizes c8_weights c8_growths c8_copied c8_legWay c8_legUnits c8_legStuff c8_unitWay c8_unitStuff c8_xs c8_ys c8_zs c8_kindOf c8_placeOf c8_rateOf c8_readOf c8_isGone c8_theList c8_amounts c8_low c8_high c8_barred c8_times c8_ranges) := by
  unfold fX8_grownTo at hf
  refine c_of_i (ty := .int) (own := RX8) (by decide) rfl rfl (Nat.le_of_ble_eq_true rfl) (fun X hC hRet => ?_)
  refine r_sub [(0, .ref (ad 80)), (1, .int p1), (2, .int p2), (3, .int p3)] [0, 1, 2, 3] rfl ?_
  have hin8 : ∀ w ∈ wsX80, w ∈ wsX8_grownTo := fun w h => List.mem_cons_of_mem _ (List.mem_append_right _ h)
  have hw0 : Cond.fieldLink RX8 113 "HotPipesModel" "units" "I" ∈ wsX8_grownTo := List.mem_of_getElem? (i := 1) rfl
  have hw1 : Cond.fieldLink RX8 35 "HotPipesModel" "unitWay" "[I" ∈ wsX8_grownTo := List.mem_of_getElem? (i := 2) rfl
  have hw2 : Cond.fieldLink RX8 38 "HotPipesModel" "unitStuff" "[I" ∈ wsX8_grownTo := List.mem_of_getElem? (i := 3) rfl
  refine r_iconst hC dX8_grownTo_0 ic_0 ?_
  refine r_istore hC [(4, .int 0), (0, .ref (ad 80)), (1, .int p1), (2, .int p2), (3, .int p3)] dX8_grownTo_1 (by decide) rfl ?_
  refine r_iconst hC dX8_grownTo_3 ic_0 ?_
  refine r_istore hC [(5, .int 0), (4, .int 0), (0, .ref (ad 80)), (1, .int p1), (2, .int p2), (3, .int p3)] dX8_grownTo_4 (by decide) rfl ?_
  have L6 : ∀ (n : Nat) (x1 : Int32) (x2 : Int32), fX8_grownTo_L6 c8_units c8_sizes c8_growths c8_unitWay c8_unitStuff p1 p2 p3 n x1 x2 = some ra → GG X 6 0 0 (w8 cy ad c8_latest c8_asked c8_upper c8_lower c8_legs c8_units c8_rests c8_rates c8_lines c8_came c8_sizes c8_weights c8_growths c8_copied c8_legWay c8_legUnits c8_legStuff c8_unitWay c8_unitStuff c8_xs c8_ys c8_zs c8_kindOf c8_placeOf c8_rateOf c8_readOf c8_isGone c8_theList c8_amounts c8_low c8_high c8_barred c8_times c8_ranges) [(0, .ref (ad 80)), (1, .int p1), (2, .int p2), (3, .int p3), (4, .int x1), (5, .int x2)] 6 [] := by
    intro n
    induction n with
    | zero => intro x1 x2 hf; cases (show none = some _ from hf)
    | succ n ih =>
      intro x1 x2 hf
      rw [fX8_grownTo_L6] at hf
      refine r_iload hC dX8_grownTo_6 5 rfl ?_
      refine r_aload_n hC dX8_grownTo_8 rfl 0 rfl ?_
      refine r_get hC hin8 0 rfl rfl 13 (by decide) rfl hw0 rfl dX8_grownTo_9 ?_
      refine r_icmp_ge (tgt := 72) hC dX8_grownTo_12 (by decide) (fun c3 => ?_) (fun c3 => ?_)
      · replace hf := o_pos hf c3
        refine r_iload hC dX8_grownTo_72 4 rfl ?_
        obtain rfl := so_1 hf
        exact hRet _ _ _ dX8_grownTo_74 rfl
      · replace hf := o_neg hf c3
        refine r_iload hC dX8_grownTo_15 5 rfl ?_
        refine r_iload_n hC dX8_grownTo_17 rfl 1 rfl ?_
        refine r_icmp_ge (tgt := 72) hC dX8_grownTo_18 (by decide) (fun c4 => ?_) (fun c4 => ?_)
        · replace hf := o_pos hf c4
          refine r_iload hC dX8_grownTo_72 4 rfl ?_
          obtain rfl := so_1 hf
          exact hRet _ _ _ dX8_grownTo_74 rfl
        · replace hf := o_neg hf c4
          refine r_iload hC dX8_grownTo_21 4 rfl ?_
          refine r_aload_n hC dX8_grownTo_23 rfl 0 rfl ?_
          refine r_get hC hin8 0 rfl rfl 14 (by decide) rfl hw1 rfl dX8_grownTo_24 ?_
          refine r_iload hC dX8_grownTo_27 5 rfl ?_
          obtain ⟨g5, hf⟩ := og_some hf
          refine r_iald hC 9 rfl g5 dX8_grownTo_29 ?_
          refine r_iconst hC dX8_grownTo_30 ic_2 ?_
          refine r_idiv hC dX8_grownTo_31 (by decide) ?_
          refine r_iload_n hC dX8_grownTo_32 rfl 3 rfl ?_
          obtain ⟨t6, h9, hf⟩ := ob_some hf
          have J63_8 : GG X 6 0 0 (w8 cy ad c8_latest c8_asked c8_upper c8_lower c8_legs c8_units c8_rests c8_rates c8_lines c8_came c8_sizes c8_weights c8_growths c8_copied c8_legWay c8_legUnits c8_legStuff c8_unitWay c8_unitStuff c8_xs c8_ys c8_zs c8_kindOf c8_placeOf c8_rateOf c8_readOf c8_isGone c8_theList c8_amounts c8_low c8_high c8_barred c8_times c8_ranges) [(0, .ref (ad 80)), (1, .int p1), (2, .int p2), (3, .int p3), (5, .int x2)] 63 [.int t6, .int x1] := by
            refine r_iadd hC dX8_grownTo_63 ?_
            refine r_topi (fun x7 ex7 => ?_)
            replace hf := olet_some hf ex7
            refine r_istore hC [(4, .int x7), (0, .ref (ad 80)), (1, .int p1), (2, .int p2), (3, .int p3), (5, .int x2)] dX8_grownTo_64 (by decide) rfl ?_
            refine r_iinc hC [(5, .int (x2 + 1)), (4, .int x7), (0, .ref (ad 80)), (1, .int p1), (2, .int p2), (3, .int p3)] (x2 + 1) dX8_grownTo_66 5 rfl (ii_1 _) (by decide) rfl ?_
            refine r_goto (tgt := 6) hC dX8_grownTo_69 (by decide) ?_
            refine r_sub [(0, .ref (ad 80)), (1, .int p1), (2, .int p2), (3, .int p3), (4, .int x7), (5, .int (x2 + 1))] [2, 3, 4, 5, 1, 0] rfl ?_
            exact ih x7 (x2 + 1) hf
          replace hf := h9
          refine r_icmp_ne (tgt := 62) hC dX8_grownTo_33 (by decide) (fun c10 => ?_) (fun c10 => ?_)
          · replace hf := o_neg hf c10
            refine r_iconst hC dX8_grownTo_62 ic_0 ?_
            obtain rfl := so_1 hf
            refine r_sub [(0, .ref (ad 80)), (1, .int p1), (2, .int p2), (3, .int p3), (5, .int x2)] [0, 1, 2, 3, 5] rfl ?_
            exact J63_8
          · replace hf := o_pos hf c10
            refine r_aload_n hC dX8_grownTo_36 rfl 0 rfl ?_
            refine r_get hC hin8 0 rfl rfl 14 (by decide) rfl hw1 rfl dX8_grownTo_37 ?_
            refine r_iload hC dX8_grownTo_40 5 rfl ?_
            obtain ⟨g11, hf⟩ := og_some hf
            refine r_iald hC 9 rfl g11 dX8_grownTo_42 ?_
            obtain ⟨r12, h13, hf⟩ := ob_some hf
            refine r_si (st := [.int x1]) hC (kX8_signOf l D cy (c8_unitWay (Int32.toNatClampNeg x2)) h13) gX8_grownTo_X8_signOf rfl ⟨rfl, rfl⟩ ydX8_signOf ⟨Nat.le_of_ble_eq_true rfl, Nat.le_of_ble_eq_true rfl⟩ ⟨Nat.le_refl 0, Nat.le_refl 0⟩ _ rfl (Nat.le_of_ble_eq_true rfl) dX8_grownTo_43 ?_
            refine r_aload_n hC dX8_grownTo_46 rfl 0 rfl ?_
            refine r_aload_n hC dX8_grownTo_47 rfl 0 rfl ?_
            refine r_get hC hin8 0 rfl rfl 15 (by decide) rfl hw2 rfl dX8_grownTo_48 ?_
            refine r_iload hC dX8_grownTo_51 5 rfl ?_
            obtain ⟨g14, hf⟩ := og_some hf
            refine r_iald hC 10 rfl g14 dX8_grownTo_53 ?_
            refine r_iload_n hC dX8_grownTo_54 rfl 2 rfl ?_
            obtain ⟨r15, h16, hf⟩ := ob_some hf
            refine r_vi (st := [.int r12, .int x1]) hC (kX8_growth l D cy ad c8_latest c8_asked c8_upper c8_lower c8_legs c8_units c8_rests c8_rates c8_lines c8_came c8_sizes c8_weights c8_growths c8_copied c8_legWay c8_legUnits c8_legStuff c8_unitWay c8_unitStuff c8_xs c8_ys c8_zs c8_kindOf c8_placeOf c8_rateOf c8_readOf c8_isGone c8_theList c8_amounts c8_low c8_high c8_barred c8_times c8_ranges (c8_unitStuff (Int32.toNatClampNeg x2)) p2 h16) gX8_grownTo_X8_growth rfl ⟨rfl, rfl⟩ ydX8_growth ⟨Nat.le_of_ble_eq_true rfl, Nat.le_of_ble_eq_true rfl⟩ ⟨Nat.le_refl 0, Nat.le_refl 0⟩ 0 rfl rfl [] [] rfl _ rfl (Nat.le_of_ble_eq_true rfl) dX8_grownTo_55 (w8 cy ad c8_latest c8_asked c8_upper c8_lower c8_legs c8_units c8_rests c8_rates c8_lines c8_came c8_sizes c8_weights c8_growths c8_copied c8_legWay c8_legUnits c8_legStuff c8_unitWay c8_unitStuff c8_xs c8_ys c8_zs c8_kindOf c8_placeOf c8_rateOf c8_readOf c8_isGone c8_theList c8_amounts c8_low c8_high c8_barred c8_times c8_ranges) rfl ?_
            refine r_imul hC dX8_grownTo_58 ?_
            refine r_goto (tgt := 63) hC dX8_grownTo_59 (by decide) ?_
            obtain rfl := so_1 hf
            refine r_sub [(0, .ref (ad 80)), (1, .int p1), (2, .int p2), (3, .int p3), (5, .int x2)] [0, 1, 2, 3, 5] rfl ?_
            exact J63_8
  refine r_sub [(0, .ref (ad 80)), (1, .int p1), (2, .int p2), (3, .int p3), (4, .int 0), (5, .int 0)] [2, 3, 4, 5, 1, 0] rfl ?_
  exact L6 N 0 0 hf
noncomputable def fX8_grown (N : Nat) (c8_asked : Int32) (c8_units : Int32) (c8_sizes : Nat → Int32) (c8_growths : Nat → Int32) (c8_unitWay : Nat → Int32) (c8_unitStuff : Nat → Int32) (p1 : Int32) (p2 : Int32) : Option (Int32 × Int32) := ob (fX8_isStep p1) (fun (r1 : Int32) => oj (some ((-1), c8_asked)) (fun (K34_3 : Option (Int32 × Int32)) => (if r1 = 0 then K34_3 else ob (fX8_in p2 0 2) (fun (r5 : Int32) => (if r5 = 0 then K34_3 else ob (fX8_grownTo N c8_units c8_sizes c8_growths c8_unitWay c8_unitStuff c8_units p1 p2) (fun (r8 : Int32) => ob2 (fX8_tells c8_asked r8 1) (fun (r10 : Int32) (s11 : Int32) => some (r10, s11))))))))
theorem ydX8_grown : yX8_grown.cls = RX8 ∧ yX8_grown.cls ≠ "java/lang/invoke/MethodHandle" ∧ yX8_grown.cls ≠ "java/lang/invoke/VarHandle" ∧ (parseMethodDescriptor yX8_grown.desc).map (fun d => d.parameters.length) = some 2 := by decide +kernel
set_option maxHeartbeats 8000000 in
set_option maxRecDepth 100000 in
theorem kX8_grown (l : Launch) (D : va_G) (cy : Nat → ClassId) (ad : Nat → Nat) (c8_latest : Int32) (c8_asked : Int32) (c8_upper : Int64) (c8_lower : Int64) (c8_legs : Int32) (c8_units : Int32) (c8_rests : Int32) (c8_rates : Int32) (c8_lines : Int32) (c8_came : Nat → Int32) (c8_sizes : Nat → Int32) (c8_weights : Nat → Int32) (c8_growths : Nat → Int32) (c8_copied : Nat → Int32) (c8_legWay : Nat → Int32) (c8_legUnits : Nat → Int32) (c8_legStuff : Nat → Int32) (c8_unitWay : Nat → Int32) (c8_unitStuff : Nat → Int32) (c8_xs : Nat → Int32) (c8_ys : Nat → Int32) (c8_zs : Nat → Int32) (c8_kindOf : Nat → Int32) (c8_placeOf : Nat → Int32) (c8_rateOf : Nat → Int32) (c8_readOf : Nat → Int32) (c8_isGone : Nat → Int32) (c8_theList : Nat → Int32) (c8_amounts : Nat → Int32) (c8_low : Nat → Int32) (c8_high : Nat → Int32) (c8_barred : Nat → Int32) (c8_times : Nat → Int32) (c8_ranges : Nat → Int32) (p1 : Int32) (p2 : Int32) (N : Nat) {ra : Int32} {z8_asked : Int32} (hf : fX8_grown N c8_asked c8_units c8_sizes c8_growths c8_unitWay c8_unitStuff p1 p2 = some (ra, z8_asked)) : CI l D cy yX8_grown wsX8_grown ({ frames := 2, cells := 0, slots := 0, locals := 47 } : Room) [.ref (ad 80), .int p1, .int p2] (w8 cy ad c8_latest c8_asked c8_upper c8_lower c8_legs c8_units c8_rests c8_rates c8_lines c8_came c8_sizes c8_weights c8_growths c8_copied c8_legWay c8_legUnits c8_legStuff c8_unitWay c8_unitStuff c8_xs c8_ys c8_zs c8_kindOf c8_placeOf c8_rateOf c8_readOf c8_isGone c8_theList c8_amounts c8_low c8_high c8_barred c8_times c8_ranges) ra (w8 cy ad c8_latest z8_asked c8_upper c8_lower c8_legs c8_units c8_rests c8_rates c8_lines c8_came c8_sizes c8_weights c8_growths c8_copied c8_legWay c8_legUnits c8_legStuff c8_unitWay c8_unitStuff c8_xs c8_ys c8_zs c8_kindOf c8_placeOf c8_rateOf c8_readOf c8_isGone c8_theList c8_amounts c8_low c8_high c8_barred c8_times c8_ranges) := by
  unfold fX8_grown at hf
  refine c_of_i (ty := .int) (own := RX8) (by decide) rfl rfl (Nat.le_of_ble_eq_true rfl) (fun X hC hRet => ?_)
  refine r_sub [(0, .ref (ad 80)), (1, .int p1), (2, .int p2)] [0, 1, 2] rfl ?_
  have hin8 : ∀ w ∈ wsX80, w ∈ wsX8_grown := fun w h => List.mem_cons_of_mem _ (List.mem_append_right _ h)
  have hw0 : Cond.fieldLink RX8 113 "HotPipesModel" "units" "I" ∈ wsX8_grown := List.mem_of_getElem? (i := 1) rfl
  refine r_iload_n hC dX8_grown_0 rfl 1 rfl ?_
  obtain ⟨r1, h2, hf⟩ := ob_some hf
  refine r_si (st := []) hC (kX8_isStep l D cy p1 h2) gX8_grown_X8_isStep rfl ⟨rfl, rfl⟩ ydX8_isStep ⟨Nat.le_of_ble_eq_true rfl, Nat.le_of_ble_eq_true rfl⟩ ⟨Nat.le_refl 0, Nat.le_refl 0⟩ _ rfl (Nat.le_of_ble_eq_true rfl) dX8_grown_1 ?_
  obtain ⟨K34_3, eK34_3, hf⟩ := oj_some hf
  have J34_3 : K34_3 = some (ra, z8_asked) → GG X 3 0 0 (w8 cy ad c8_latest c8_asked c8_upper c8_lower c8_legs c8_units c8_rests c8_rates c8_lines c8_came c8_sizes c8_weights c8_growths c8_copied c8_legWay c8_legUnits c8_legStuff c8_unitWay c8_unitStuff c8_xs c8_ys c8_zs c8_kindOf c8_placeOf c8_rateOf c8_readOf c8_isGone c8_theList c8_amounts c8_low c8_high c8_barred c8_times c8_ranges) [] 34 [] := by
    intro hf
    replace hf := oa0 eK34_3 hf
    refine r_iconst hC dX8_grown_34 ic_m1 ?_
    obtain ⟨rfl, rfl⟩ := so_2 hf
    exact hRet _ _ _ dX8_grown_35 rfl
  refine r_if_eq (tgt := 34) hC dX8_grown_4 (by decide) (fun c4 => ?_) (fun c4 => ?_)
  · replace hf := o_pos hf c4
    refine r_sub [] [] rfl ?_
    exact J34_3 hf
  · replace hf := o_neg hf c4
    refine r_iload_n hC dX8_grown_7 rfl 2 rfl ?_
    refine r_iconst hC dX8_grown_8 ic_0 ?_
    refine r_iconst hC dX8_grown_9 ic_2 ?_
    obtain ⟨r5, h6, hf⟩ := ob_some hf
    refine r_si (st := []) hC (kX8_in l D cy p2 0 2 h6) gX8_grown_X8_in rfl ⟨rfl, rfl⟩ ydX8_in ⟨Nat.le_of_ble_eq_true rfl, Nat.le_of_ble_eq_true rfl⟩ ⟨Nat.le_refl 0, Nat.le_refl 0⟩ _ rfl (Nat.le_of_ble_eq_true rfl) dX8_grown_10 ?_
    refine r_if_eq (tgt := 34) hC dX8_grown_13 (by decide) (fun c7 => ?_) (fun c7 => ?_)
    · replace hf := o_pos hf c7
      refine r_sub [] [] rfl ?_
      exact J34_3 hf
    · replace hf := o_neg hf c7
      refine r_aload_n hC dX8_grown_16 rfl 0 rfl ?_
      refine r_aload_n hC dX8_grown_17 rfl 0 rfl ?_
      refine r_aload_n hC dX8_grown_18 rfl 0 rfl ?_
      refine r_get hC hin8 0 rfl rfl 13 (by decide) rfl hw0 rfl dX8_grown_19 ?_
      refine r_iload_n hC dX8_grown_22 rfl 1 rfl ?_
      refine r_iload_n hC dX8_grown_23 rfl 2 rfl ?_
      obtain ⟨r8, h9, hf⟩ := ob_some hf
      refine r_vi (st := [.ref (ad 80)]) hC (kX8_grownTo l D cy ad c8_latest c8_asked c8_upper c8_lower c8_legs c8_units c8_rests c8_rates c8_lines c8_came c8_sizes c8_weights c8_growths c8_copied c8_legWay c8_legUnits c8_legStuff c8_unitWay c8_unitStuff c8_xs c8_ys c8_zs c8_kindOf c8_placeOf c8_rateOf c8_readOf c8_isGone c8_theList c8_amounts c8_low c8_high c8_barred c8_times c8_ranges c8_units p1 p2 N h9) gX8_grown_X8_grownTo rfl ⟨rfl, rfl⟩ ydX8_grownTo ⟨Nat.le_of_ble_eq_true rfl, Nat.le_of_ble_eq_true rfl⟩ ⟨Nat.le_refl 0, Nat.le_refl 0⟩ 0 rfl rfl [] [] rfl _ rfl (Nat.le_of_ble_eq_true rfl) dX8_grown_24 (w8 cy ad c8_latest c8_asked c8_upper c8_lower c8_legs c8_units c8_rests c8_rates c8_lines c8_came c8_sizes c8_weights c8_growths c8_copied c8_legWay c8_legUnits c8_legStuff c8_unitWay c8_unitStuff c8_xs c8_ys c8_zs c8_kindOf c8_placeOf c8_rateOf c8_readOf c8_isGone c8_theList c8_amounts c8_low c8_high c8_barred c8_times c8_ranges) rfl ?_
      refine r_iconst hC dX8_grown_27 ic_1 ?_
      obtain ⟨r10, s11, h12, hf⟩ := ob2_some hf
      refine r_vi (st := []) hC (kX8_tells l D cy ad c8_latest c8_asked c8_upper c8_lower c8_legs c8_units c8_rests c8_rates c8_lines c8_came c8_sizes c8_weights c8_growths c8_copied c8_legWay c8_legUnits c8_legStuff c8_unitWay c8_unitStuff c8_xs c8_ys c8_zs c8_kindOf c8_placeOf c8_rateOf c8_readOf c8_isGone c8_theList c8_amounts c8_low c8_high c8_barred c8_times c8_ranges r8 1 h12) gX8_grown_X8_tells rfl ⟨rfl, rfl⟩ ydX8_tells ⟨Nat.le_of_ble_eq_true rfl, Nat.le_of_ble_eq_true rfl⟩ ⟨Nat.le_refl 0, Nat.le_refl 0⟩ 0 rfl rfl [] [] rfl _ rfl (Nat.le_of_ble_eq_true rfl) dX8_grown_28 (w8 cy ad c8_latest s11 c8_upper c8_lower c8_legs c8_units c8_rests c8_rates c8_lines c8_came c8_sizes c8_weights c8_growths c8_copied c8_legWay c8_legUnits c8_legStuff c8_unitWay c8_unitStuff c8_xs c8_ys c8_zs c8_kindOf c8_placeOf c8_rateOf c8_readOf c8_isGone c8_theList c8_amounts c8_low c8_high c8_barred c8_times c8_ranges) rfl ?_
      refine r_goto (tgt := 35) hC dX8_grown_31 (by decide) ?_
      obtain ⟨rfl, rfl⟩ := so_2 hf
      exact hRet _ _ _ dX8_grown_35 rfl
noncomputable def fX8_move (N : Nat) (c8_asked : Int32) (c8_units : Int32) (c8_sizes : Nat → Int32) (c8_growths : Nat → Int32) (c8_unitWay : Nat → Int32) (c8_unitStuff : Nat → Int32) (p1 : Int32) (p2 : Int32) : Option (Int32 × Int32) := ob (fX8_in p1 0 c8_units) (fun (r1 : Int32) => oj (some ((-1), c8_asked)) (fun (K34_3 : Option (Int32 × Int32)) => (if r1 = 0 then K34_3 else ob (fX8_isStep p2) (fun (r5 : Int32) => (if r5 = 0 then K34_3 else ob (fX8_grownTo N c8_units c8_sizes c8_growths c8_unitWay c8_unitStuff p1 p2 2) (fun (r8 : Int32) => ob2 (fX8_tells c8_asked r8 1) (fun (r10 : Int32) (s11 : Int32) => some (r10, s11))))))))
theorem ydX8_move : yX8_move.cls = RX8 ∧ yX8_move.cls ≠ "java/lang/invoke/MethodHandle" ∧ yX8_move.cls ≠ "java/lang/invoke/VarHandle" ∧ (parseMethodDescriptor yX8_move.desc).map (fun d => d.parameters.length) = some 2 := by decide +kernel
set_option maxHeartbeats 8000000 in
set_option maxRecDepth 100000 in
theorem kX8_move (l : Launch) (D : va_G) (cy : Nat → ClassId) (ad : Nat → Nat) (c8_latest : Int32) (c8_asked : Int32) (c8_upper : Int64) (c8_lower : Int64) (c8_legs : Int32) (c8_units : Int32) (c8_rests : Int32) (c8_rates : Int32) (c8_lines : Int32) (c8_came : Nat → Int32) (c8_sizes : Nat → Int32) (c8_weights : Nat → Int32) (c8_growths : Nat → Int32) (c8_copied : Nat → Int32) (c8_legWay : Nat → Int32) (c8_legUnits : Nat → Int32) (c8_legStuff : Nat → Int32) (c8_unitWay : Nat → Int32) (c8_unitStuff : Nat → Int32) (c8_xs : Nat → Int32) (c8_ys : Nat → Int32) (c8_zs : Nat → Int32) (c8_kindOf : Nat → Int32) (c8_placeOf : Nat → Int32) (c8_rateOf : Nat → Int32) (c8_readOf : Nat → Int32) (c8_isGone : Nat → Int32) (c8_theList : Nat → Int32) (c8_amounts : Nat → Int32) (c8_low : Nat → Int32) (c8_high : Nat → Int32) (c8_barred : Nat → Int32) (c8_times : Nat → Int32) (c8_ranges : Nat → Int32) (p1 : Int32) (p2 : Int32) (N : Nat) {ra : Int32} {z8_asked : Int32} (hf : fX8_move N c8_asked c8_units c8_sizes c8_growths c8_unitWay c8_unitStuff p1 p2 = some (ra, z8_asked)) : CI l D cy yX8_move wsX8_move ({ frames := 2, cells := 0, slots := 0, locals := 47 } : Room) [.ref (ad 80), .int p1, .int p2] (w8 cy ad c8_latest c8_asked c8_upper c8_lower c8_legs c8_units c8_rests c8_rates c8_lines c8_came c8_sizes c8_weights c8_growths c8_copied c8_legWay c8_legUnits c8_legStuff c8_unitWay c8_unitStuff c8_xs c8_ys c8_zs c8_kindOf c8_placeOf c8_rateOf c8_readOf c8_isGone c8_theList c8_amounts c8_low c8_high c8_barred c8_times c8_ranges) ra (w8 cy ad c8_latest z8_asked c8_upper c8_lower c8_legs c8_units c8_rests c8_rates c8_lines c8_came c8_sizes c8_weights c8_growths c8_copied c8_legWay c8_legUnits c8_legStuff c8_unitWay c8_unitStuff c8_xs c8_ys c8_zs c8_kindOf c8_placeOf c8_rateOf c8_readOf c8_isGone c8_theList c8_amounts c8_low c8_high c8_barred c8_times c8_ranges) := by
  unfold fX8_move at hf
  refine c_of_i (ty := .int) (own := RX8) (by decide) rfl rfl (Nat.le_of_ble_eq_true rfl) (fun X hC hRet => ?_)
  refine r_sub [(0, .ref (ad 80)), (1, .int p1), (2, .int p2)] [0, 1, 2] rfl ?_
  have hin8 : ∀ w ∈ wsX80, w ∈ wsX8_move := fun w h => List.mem_cons_of_mem _ (List.mem_append_right _ h)
  have hw0 : Cond.fieldLink RX8 113 "HotPipesModel" "units" "I" ∈ wsX8_move := List.mem_of_getElem? (i := 1) rfl
  refine r_iload_n hC dX8_move_0 rfl 1 rfl ?_
  refine r_iconst hC dX8_move_1 ic_0 ?_
  refine r_aload_n hC dX8_move_2 rfl 0 rfl ?_
  refine r_get hC hin8 0 rfl rfl 13 (by decide) rfl hw0 rfl dX8_move_3 ?_
  obtain ⟨r1, h2, hf⟩ := ob_some hf
  refine r_si (st := []) hC (kX8_in l D cy p1 0 c8_units h2) gX8_move_X8_in rfl ⟨rfl, rfl⟩ ydX8_in ⟨Nat.le_of_ble_eq_true rfl, Nat.le_of_ble_eq_true rfl⟩ ⟨Nat.le_refl 0, Nat.le_refl 0⟩ _ rfl (Nat.le_of_ble_eq_true rfl) dX8_move_6 ?_
  obtain ⟨K34_3, eK34_3, hf⟩ := oj_some hf
  have J34_3 : K34_3 = some (ra, z8_asked) → GG X 3 0 0 (w8 cy ad c8_latest c8_asked c8_upper c8_lower c8_legs c8_units c8_rests c8_rates c8_lines c8_came c8_sizes c8_weights c8_growths c8_copied c8_legWay c8_legUnits c8_legStuff c8_unitWay c8_unitStuff c8_xs c8_ys c8_zs c8_kindOf c8_placeOf c8_rateOf c8_readOf c8_isGone c8_theList c8_amounts c8_low c8_high c8_barred c8_times c8_ranges) [] 34 [] := by
    intro hf
    replace hf := oa0 eK34_3 hf
    refine r_iconst hC dX8_move_34 ic_m1 ?_
    obtain ⟨rfl, rfl⟩ := so_2 hf
    exact hRet _ _ _ dX8_move_35 rfl
  refine r_if_eq (tgt := 34) hC dX8_move_9 (by decide) (fun c4 => ?_) (fun c4 => ?_)
  · replace hf := o_pos hf c4
    refine r_sub [] [] rfl ?_
    exact J34_3 hf
  · replace hf := o_neg hf c4
    refine r_iload_n hC dX8_move_12 rfl 2 rfl ?_
    obtain ⟨r5, h6, hf⟩ := ob_some hf
    refine r_si (st := []) hC (kX8_isStep l D cy p2 h6) gX8_move_X8_isStep rfl ⟨rfl, rfl⟩ ydX8_isStep ⟨Nat.le_of_ble_eq_true rfl, Nat.le_of_ble_eq_true rfl⟩ ⟨Nat.le_refl 0, Nat.le_refl 0⟩ _ rfl (Nat.le_of_ble_eq_true rfl) dX8_move_13 ?_
    refine r_if_eq (tgt := 34) hC dX8_move_16 (by decide) (fun c7 => ?_) (fun c7 => ?_)
    · replace hf := o_pos hf c7
      refine r_sub [] [] rfl ?_
      exact J34_3 hf
    · replace hf := o_neg hf c7
      refine r_aload_n hC dX8_move_19 rfl 0 rfl ?_
      refine r_aload_n hC dX8_move_20 rfl 0 rfl ?_
      refine r_iload_n hC dX8_move_21 rfl 1 rfl ?_
      refine r_iload_n hC dX8_move_22 rfl 2 rfl ?_
      refine r_iconst hC dX8_move_23 ic_2 ?_
      obtain ⟨r8, h9, hf⟩ := ob_some hf
      refine r_vi (st := [.ref (ad 80)]) hC (kX8_grownTo l D cy ad c8_latest c8_asked c8_upper c8_lower c8_legs c8_units c8_rests c8_rates c8_lines c8_came c8_sizes c8_weights c8_growths c8_copied c8_legWay c8_legUnits c8_legStuff c8_unitWay c8_unitStuff c8_xs c8_ys c8_zs c8_kindOf c8_placeOf c8_rateOf c8_readOf c8_isGone c8_theList c8_amounts c8_low c8_high c8_barred c8_times c8_ranges p1 p2 2 N h9) gX8_move_X8_grownTo rfl ⟨rfl, rfl⟩ ydX8_grownTo ⟨Nat.le_of_ble_eq_true rfl, Nat.le_of_ble_eq_true rfl⟩ ⟨Nat.le_refl 0, Nat.le_refl 0⟩ 0 rfl rfl [] [] rfl _ rfl (Nat.le_of_ble_eq_true rfl) dX8_move_24 (w8 cy ad c8_latest c8_asked c8_upper c8_lower c8_legs c8_units c8_rests c8_rates c8_lines c8_came c8_sizes c8_weights c8_growths c8_copied c8_legWay c8_legUnits c8_legStuff c8_unitWay c8_unitStuff c8_xs c8_ys c8_zs c8_kindOf c8_placeOf c8_rateOf c8_readOf c8_isGone c8_theList c8_amounts c8_low c8_high c8_barred c8_times c8_ranges) rfl ?_
      refine r_iconst hC dX8_move_27 ic_1 ?_
      obtain ⟨r10, s11, h12, hf⟩ := ob2_some hf
      refine r_vi (st := []) hC (kX8_tells l D cy ad c8_latest c8_asked c8_upper c8_lower c8_legs c8_units c8_rests c8_rates c8_lines c8_came c8_sizes c8_weights c8_growths c8_copied c8_legWay c8_legUnits c8_legStuff c8_unitWay c8_unitStuff c8_xs c8_ys c8_zs c8_kindOf c8_placeOf c8_rateOf c8_readOf c8_isGone c8_theList c8_amounts c8_low c8_high c8_barred c8_times c8_ranges r8 1 h12) gX8_move_X8_tells rfl ⟨rfl, rfl⟩ ydX8_tells ⟨Nat.le_of_ble_eq_true rfl, Nat.le_of_ble_eq_true rfl⟩ ⟨Nat.le_refl 0, Nat.le_refl 0⟩ 0 rfl rfl [] [] rfl _ rfl (Nat.le_of_ble_eq_true rfl) dX8_move_28 (w8 cy ad c8_latest s11 c8_upper c8_lower c8_legs c8_units c8_rests c8_rates c8_lines c8_came c8_sizes c8_weights c8_growths c8_copied c8_legWay c8_legUnits c8_legStuff c8_unitWay c8_unitStuff c8_xs c8_ys c8_zs c8_kindOf c8_placeOf c8_rateOf c8_readOf c8_isGone c8_theList c8_amounts c8_low c8_high c8_barred c8_times c8_ranges) rfl ?_
      refine r_goto (tgt := 35) hC dX8_move_31 (by decide) ?_
      obtain ⟨rfl, rfl⟩ := so_2 hf
      exact hRet _ _ _ dX8_move_35 rfl
noncomputable def fX8_root_L5 (p1 : Int64) : Nat → Int32 → Int32 → Option (Int32)
  | 0, _, _ => none
  | n + 1, x1, x2 => (if x2 ≤ 0 then some x1 else olet (Int32.toInt64 (x1 + x2)) (fun (x4 : Int64) => ob ((if 0 < (lg_cmp (x4 * x4) p1) then some 0 else some x2)) (fun (t5 : Int32) => olet (x1 + t5) (fun (x6 : Int32) => olet (x2 / 2) (fun (x7 : Int32) => fX8_root_L5 p1 n x6 x7)))))
noncomputable def fX8_root (N : Nat) (p1 : Int64) : Option (Int32) := fX8_root_L5 p1 N 0 65536
theorem ydX8_root : yX8_root.cls ≠ "java/lang/invoke/MethodHandle" ∧ yX8_root.cls ≠ "java/lang/invoke/VarHandle" ∧ (parseMethodDescriptor yX8_root.desc).map (fun d => d.parameters.length) = some 1 := by decide +kernel
set_option maxHeartbeats 8000000 in
set_option maxRecDepth 100000 in
theorem kX8_root (l : Launch) (D : va_G) (cy : Nat → ClassId) (p1 : Int64) (N : Nat) {ra : Int32} (hf : fX8_root N p1 = some ra) : CI l D cy yX8_root wsX8_root ({ frames := 0, cells := 0, slots := 0, locals := 0 } : Room) [.long p1] [] ra [] := by
  unfold fX8_root at hf
  refine c_of_i (ty := .int) (own := RX8) (by decide) rfl rfl (Nat.le_of_ble_eq_true rfl) (fun X hC hRet => ?_)
  refine r_sub [(0, .long p1)] [0] rfl ?_
  have hw0 : Cond.constant RX8 139 (65536) ∈ wsX8_root := List.mem_of_getElem? (i := 1) rfl
  refine r_iconst hC dX8_root_0 ic_0 ?_
  refine r_istore_n hC [(2, .int 0), (0, .long p1)] dX8_root_1 rfl (by decide) rfl ?_
  refine r_ldc hC hw0 dX8_root_2 ?_
  refine r_istore_n hC [(3, .int 65536), (2, .int 0), (0, .long p1)] dX8_root_4 rfl (by decide) rfl ?_
  have L5 : ∀ (n : Nat) (x1 : Int32) (x2 : Int32), fX8_root_L5 p1 n x1 x2 = some ra → GG X 6 0 0 [] [(0, .long p1), (2, .int x1), (3, .int x2)] 5 [] := by
    intro n
    induction n with
    | zero => intro x1 x2 hf; cases (show none = some _ from hf)
    | succ n ih =>
      intro x1 x2 hf
      rw [fX8_root_L5] at hf
      refine r_iload_n hC dX8_root_5 rfl 2 rfl ?_
      refine r_if_le (tgt := 40) hC dX8_root_6 (by decide) (fun c3 => ?_) (fun c3 => ?_)
      · replace hf := o_pos hf c3
        refine r_iload_n hC dX8_root_40 rfl 1 rfl ?_
        obtain rfl := so_1 hf
        exact hRet _ _ _ dX8_root_41 rfl
      · replace hf := o_neg hf c3
        refine r_iload_n hC dX8_root_9 rfl 1 rfl ?_
        refine r_iload_n hC dX8_root_10 rfl 2 rfl ?_
        refine r_iadd hC dX8_root_11 ?_
        refine r_i2l hC dX8_root_12 ?_
        refine r_topl (fun x4 ex4 => ?_)
        replace hf := olet_some hf ex4
        refine r_lstore hC [(4, .long x4), (0, .long p1), (2, .int x1), (3, .int x2)] dX8_root_13 (by decide) rfl ?_
        refine r_iload_n hC dX8_root_15 rfl 2 rfl ?_
        refine r_lload hC dX8_root_16 0 rfl ?_
        refine r_lload hC dX8_root_18 0 rfl ?_
        refine r_lmul hC dX8_root_20 ?_
        refine r_lload_n hC dX8_root_21 rfl 1 rfl ?_
        refine r_lcmp hC dX8_root_22 ?_
        obtain ⟨t5, h9, hf⟩ := ob_some hf
        have J31_8 : GG X 6 0 0 [] [(0, .long p1), (3, .int x2)] 31 [.int t5, .int x1] := by
          refine r_iadd hC dX8_root_31 ?_
          refine r_topi (fun x6 ex6 => ?_)
          replace hf := olet_some hf ex6
          refine r_istore_n hC [(2, .int x6), (0, .long p1), (3, .int x2)] dX8_root_32 rfl (by decide) rfl ?_
          refine r_iload_n hC dX8_root_33 rfl 2 rfl ?_
          refine r_iconst hC dX8_root_34 ic_2 ?_
          refine r_idiv hC dX8_root_35 (by decide) ?_
          refine r_topi (fun x7 ex7 => ?_)
          replace hf := olet_some hf ex7
          refine r_istore_n hC [(3, .int x7), (2, .int x6), (0, .long p1)] dX8_root_36 rfl (by decide) rfl ?_
          refine r_goto (tgt := 5) hC dX8_root_37 (by decide) ?_
          refine r_sub [(0, .long p1), (2, .int x6), (3, .int x7)] [2, 1, 0] rfl ?_
          exact ih x6 x7 hf
        replace hf := h9
        refine r_if_gt (tgt := 30) hC dX8_root_23 (by decide) (fun c10 => ?_) (fun c10 => ?_)
        · replace hf := o_pos hf c10
          refine r_iconst hC dX8_root_30 ic_0 ?_
          obtain rfl := so_1 hf
          refine r_sub [(0, .long p1), (3, .int x2)] [1, 3] rfl ?_
          exact J31_8
        · replace hf := o_neg hf c10
          refine r_iload_n hC dX8_root_26 rfl 3 rfl ?_
          refine r_goto (tgt := 31) hC dX8_root_27 (by decide) ?_
          obtain rfl := so_1 hf
          refine r_sub [(0, .long p1), (3, .int x2)] [1, 3] rfl ?_
          exact J31_8
  refine r_sub [(0, .long p1), (2, .int 0), (3, .int 65536)] [2, 1, 0] rfl ?_
  exact L5 N 0 65536 hf
noncomputable def fX8_squares (p1 : Int64) (p2 : Int64) (p3 : Int64) : Option (Int64) := some (((p1 * p1) + (p2 * p2)) + (p3 * p3))
theorem ydX8_squares : yX8_squares.cls ≠ "java/lang/invoke/MethodHandle" ∧ yX8_squares.cls ≠ "java/lang/invoke/VarHandle" ∧ (parseMethodDescriptor yX8_squares.desc).map (fun d => d.parameters.length) = some 3 := by decide +kernel
set_option maxHeartbeats 8000000 in
set_option maxRecDepth 100000 in
theorem kX8_squares (l : Launch) (D : va_G) (cy : Nat → ClassId) (p1 : Int64) (p2 : Int64) (p3 : Int64) {ra : Int64} (hf : fX8_squares p1 p2 p3 = some ra) : CL l D cy yX8_squares wsX8_squares ({ frames := 0, cells := 0, slots := 0, locals := 0 } : Room) [.long p1, .long p2, .long p3] [] ra [] := by
  unfold fX8_squares at hf
  refine c_of_l (own := RX8) (by decide) rfl rfl (Nat.le_of_ble_eq_true rfl) (fun X hC hRet => ?_)
  refine r_sub [(0, .long p1), (2, .long p2), (4, .long p3)] [0, 1, 2] rfl ?_
  refine r_lload_n hC dX8_squares_0 rfl 0 rfl ?_
  refine r_lload_n hC dX8_squares_1 rfl 0 rfl ?_
  refine r_lmul hC dX8_squares_2 ?_
  refine r_lload_n hC dX8_squares_3 rfl 1 rfl ?_
  refine r_lload_n hC dX8_squares_4 rfl 1 rfl ?_
  refine r_lmul hC dX8_squares_5 ?_
  refine r_ladd hC dX8_squares_6 ?_
  refine r_lload hC dX8_squares_7 2 rfl ?_
  refine r_lload hC dX8_squares_9 2 rfl ?_
  refine r_lmul hC dX8_squares_11 ?_
  refine r_ladd hC dX8_squares_12 ?_
  obtain rfl := so_1 hf
  exact hRet _ _ _ dX8_squares_13
noncomputable def fX8_room (N : Nat) (c8_units : Int32) (c8_sizes : Nat → Int32) (c8_growths : Nat → Int32) (c8_unitWay : Nat → Int32) (c8_unitStuff : Nat → Int32) (c8_xs : Nat → Int32) (c8_ys : Nat → Int32) (c8_zs : Nat → Int32) (p1 : Int32) (p2 : Int32) (p3 : Int32) : Option (Int32) := og (vp_in c8_units 241) (og (vp_in c8_units 241) (og (vp_in c8_units 241) (ob (fX8_squares (Int32.toInt64 (c8_xs (Int32.toNatClampNeg c8_units))) (Int32.toInt64 (c8_ys (Int32.toNatClampNeg c8_units))) (Int32.toInt64 (c8_zs (Int32.toNatClampNeg c8_units)))) (fun (r4 : Int64) => ob (fX8_root N r4) (fun (r6 : Int32) => olet ((c8_units + p3) - r6) (fun (x8 : Int32) => ob (fX8_grownTo N c8_units c8_sizes c8_growths c8_unitWay c8_unitStuff c8_units p1 0) (fun (r9 : Int32) => ob (fX8_grownTo N c8_units c8_sizes c8_growths c8_unitWay c8_unitStuff c8_units p1 1) (fun (r11 : Int32) => ob (fX8_grownTo N c8_units c8_sizes c8_growths c8_unitWay c8_unitStuff c8_units p1 2) (fun (r13 : Int32) => ob (fX8_squares (Int32.toInt64 r9) (Int32.toInt64 r11) (Int32.toInt64 r13)) (fun (r15 : Int64) => ob (fX8_root N r15) (fun (r17 : Int32) => some (((30 * x8) * x8) - (p2 * r17)))))))))))))
theorem ydX8_room : yX8_room.cls = RX8 ∧ yX8_room.cls ≠ "java/lang/invoke/MethodHandle" ∧ yX8_room.cls ≠ "java/lang/invoke/VarHandle" ∧ (parseMethodDescriptor yX8_room.desc).map (fun d => d.parameters.length) = some 3 := by decide +kernel
set_option maxHeartbeats 8000000 in
set_option maxRecDepth 100000 in
theorem kX8_room (l : Launch) (D : va_G) (cy : Nat → ClassId) (ad : Nat → Nat) (c8_latest : Int32) (c8_asked : Int32) (c8_upper : Int64) (c8_lower : Int64) (c8_legs : Int32) (c8_units : Int32) (c8_rests : Int32) (c8_rates : Int32) (c8_lines : Int32) (c8_came : Nat → Int32) (c8_sizes : Nat → Int32) (c8_weights : Nat → Int32) (c8_growths : Nat → Int32) (c8_copied : Nat → Int32) (c8_legWay : Nat → Int32) (c8_legUnits : Nat → Int32) (c8_legStuff : Nat → Int32) (c8_unitWay : Nat → Int32) (c8_unitStuff : Nat → Int32) (c8_xs : Nat → Int32) (c8_ys : Nat → Int32) (c8_zs : Nat → Int32) (c8_kindOf : Nat → Int32) (c8_placeOf : Nat → Int32) (c8_rateOf : Nat → Int32) (c8_readOf : Nat → Int32) (c8_isGone : Nat → Int32) (c8_theList : Nat → Int32) (c8_amounts : Nat → Int32) (c8_low : Nat → Int32) (c8_high : Nat → Int32) (c8_barred : Nat → Int32) (c8_times : Nat → Int32) (c8_ranges : Nat → Int32) (p1 : Int32) (p2 : Int32) (p3 : Int32) (N : Nat) {ra : Int32} (hf : fX8_room N c8_units c8_sizes c8_growths c8_unitWay c8_unitStuff c8_xs c8_ys c8_zs p1 p2 p3 = some ra) : CI l D cy yX8_room wsX8_room ({ frames := 2, cells := 0, slots := 0, locals := 47 } : Room) [.ref (ad 80), .int p1, .int p2, .int p3] (w8 cy ad c8_latest c8_asked c8_upper c8_lower c8_legs c8_units c8_rests c8_rates c8_lines c8_came c8_sizes c8_weights c8_growths c8_copied c8_legWay c8_legUnits c8_legStuff c8_unitWay c8_unitStuff c8_xs c8_ys c8_zs c8_kindOf c8_placeOf c8_rateOf c8_readOf c8_isGone c8_theList c8_amounts c8_low c8_high c8_barred c8_times c8_ranges) ra (w8 cy ad c8_latest c8_asked c8_upper c8_lower c8_legs c8_units c8_rests c8_rates c8_lines c8_came c8_sizes c8_weights c8_growths c8_copied c8_legWay c8_legUnits c8_legStuff c8_unitWay c8_unitStuff c8_xs c8_ys c8_zs c8_kindOf c8_placeOf c8_rateOf c8_readOf c8_isGone c8_theList c8_amounts c8_low c8_high c8_barred c8_times c8_ranges) := by
  unfold fX8_room at hf
  refine c_of_i (ty := .int) (own := RX8) (by decide) rfl rfl (Nat.le_of_ble_eq_true rfl) (fun X hC hRet => ?_)
  refine r_sub [(0, .ref (ad 80)), (1, .int p1), (2, .int p2), (3, .int p3)] [0, 1, 2, 3] rfl ?_
  have hin8 : ∀ w ∈ wsX80, w ∈ wsX8_room := fun w h => List.mem_cons_of_mem _ (List.mem_append_right _ h)
  have hw0 : Cond.fieldLink RX8 41 "HotPipesModel" "xs" "[I" ∈ wsX8_room := List.mem_of_getElem? (i := 1) rfl
  have hw1 : Cond.fieldLink RX8 113 "HotPipesModel" "units" "I" ∈ wsX8_room := List.mem_of_getElem? (i := 2) rfl
  have hw2 : Cond.fieldLink RX8 44 "HotPipesModel" "ys" "[I" ∈ wsX8_room := List.mem_of_getElem? (i := 3) rfl
  have hw3 : Cond.fieldLink RX8 47 "HotPipesModel" "zs" "[I" ∈ wsX8_room := List.mem_of_getElem? (i := 4) rfl
  refine r_aload_n hC dX8_room_0 rfl 0 rfl ?_
  refine r_get hC hin8 0 rfl rfl 16 (by decide) rfl hw0 rfl dX8_room_1 ?_
  refine r_aload_n hC dX8_room_4 rfl 0 rfl ?_
  refine r_get hC hin8 0 rfl rfl 13 (by decide) rfl hw1 rfl dX8_room_5 ?_
  obtain ⟨g1, hf⟩ := og_some hf
  refine r_iald hC 11 rfl g1 dX8_room_8 ?_
  refine r_i2l hC dX8_room_9 ?_
  refine r_aload_n hC dX8_room_10 rfl 0 rfl ?_
  refine r_get hC hin8 0 rfl rfl 17 (by decide) rfl hw2 rfl dX8_room_11 ?_
  refine r_aload_n hC dX8_room_14 rfl 0 rfl ?_
  refine r_get hC hin8 0 rfl rfl 13 (by decide) rfl hw1 rfl dX8_room_15 ?_
  obtain ⟨g2, hf⟩ := og_some hf
  refine r_iald hC 12 rfl g2 dX8_room_18 ?_
  refine r_i2l hC dX8_room_19 ?_
  refine r_aload_n hC dX8_room_20 rfl 0 rfl ?_
  refine r_get hC hin8 0 rfl rfl 18 (by decide) rfl hw3 rfl dX8_room_21 ?_
  refine r_aload_n hC dX8_room_24 rfl 0 rfl ?_
  refine r_get hC hin8 0 rfl rfl 13 (by decide) rfl hw1 rfl dX8_room_25 ?_
  obtain ⟨g3, hf⟩ := og_some hf
  refine r_iald hC 13 rfl g3 dX8_room_28 ?_
  refine r_i2l hC dX8_room_29 ?_
  obtain ⟨r4, h5, hf⟩ := ob_some hf
  refine r_sl (st := []) hC (kX8_squares l D cy (Int32.toInt64 (c8_xs (Int32.toNatClampNeg c8_units))) (Int32.toInt64 (c8_ys (Int32.toNatClampNeg c8_units))) (Int32.toInt64 (c8_zs (Int32.toNatClampNeg c8_units))) h5) gX8_room_X8_squares rfl ⟨rfl, rfl⟩ ydX8_squares ⟨Nat.le_of_ble_eq_true rfl, Nat.le_of_ble_eq_true rfl⟩ ⟨Nat.le_refl 0, Nat.le_refl 0⟩ _ rfl (Nat.le_of_ble_eq_true rfl) dX8_room_30 ?_
  obtain ⟨r6, h7, hf⟩ := ob_some hf
  refine r_si (st := []) hC (kX8_root l D cy r4 N h7) gX8_room_X8_root rfl ⟨rfl, rfl⟩ ydX8_root ⟨Nat.le_of_ble_eq_true rfl, Nat.le_of_ble_eq_true rfl⟩ ⟨Nat.le_refl 0, Nat.le_refl 0⟩ _ rfl (Nat.le_of_ble_eq_true rfl) dX8_room_33 ?_
  refine r_istore hC [(4, .int r6), (0, .ref (ad 80)), (1, .int p1), (2, .int p2), (3, .int p3)] dX8_room_36 (by decide) rfl ?_
  refine r_aload_n hC dX8_room_38 rfl 1 rfl ?_
  refine r_get hC hin8 0 rfl rfl 13 (by decide) rfl hw1 rfl dX8_room_39 ?_
  refine r_iload_n hC dX8_room_42 rfl 4 rfl ?_
  refine r_iadd hC dX8_room_43 ?_
  refine r_iload hC dX8_room_44 0 rfl ?_
  refine r_isub hC dX8_room_46 ?_
  refine r_topi (fun x8 ex8 => ?_)
  replace hf := olet_some hf ex8
  refine r_istore hC [(5, .int x8), (4, .int r6), (0, .ref (ad 80)), (1, .int p1), (2, .int p2), (3, .int p3)] dX8_room_47 (by decide) rfl ?_
  refine r_bipush hC dX8_room_49 bp_30 ?_
  refine r_iload hC dX8_room_51 0 rfl ?_
  refine r_imul hC dX8_room_53 ?_
  refine r_iload hC dX8_room_54 0 rfl ?_
  refine r_imul hC dX8_room_56 ?_
  refine r_iload_n hC dX8_room_57 rfl 4 rfl ?_
  refine r_aload_n hC dX8_room_58 rfl 2 rfl ?_
  refine r_aload_n hC dX8_room_59 rfl 2 rfl ?_
  refine r_get hC hin8 0 rfl rfl 13 (by decide) rfl hw1 rfl dX8_room_60 ?_
  refine r_iload_n hC dX8_room_63 rfl 3 rfl ?_
  refine r_iconst hC dX8_room_64 ic_0 ?_
  obtain ⟨r9, h10, hf⟩ := ob_some hf
  refine r_vi (st := [.int p2, .int ((30 * x8) * x8)]) hC (kX8_grownTo l D cy ad c8_latest c8_asked c8_upper c8_lower c8_legs c8_units c8_rests c8_rates c8_lines c8_came c8_sizes c8_weights c8_growths c8_copied c8_legWay c8_legUnits c8_legStuff c8_unitWay c8_unitStuff c8_xs c8_ys c8_zs c8_kindOf c8_placeOf c8_rateOf c8_readOf c8_isGone c8_theList c8_amounts c8_low c8_high c8_barred c8_times c8_ranges c8_units p1 0 N h10) gX8_room_X8_grownTo rfl ⟨rfl, rfl⟩ ydX8_grownTo ⟨Nat.le_of_ble_eq_true rfl, Nat.le_of_ble_eq_true rfl⟩ ⟨Nat.le_refl 0, Nat.le_refl 0⟩ 0 rfl rfl [] [] rfl _ rfl (Nat.le_of_ble_eq_true rfl) dX8_room_65 (w8 cy ad c8_latest c8_asked c8_upper c8_lower c8_legs c8_units c8_rests c8_rates c8_lines c8_came c8_sizes c8_weights c8_growths c8_copied c8_legWay c8_legUnits c8_legStuff c8_unitWay c8_unitStuff c8_xs c8_ys c8_zs c8_kindOf c8_placeOf c8_rateOf c8_readOf c8_isGone c8_theList c8_amounts c8_low c8_high c8_barred c8_times c8_ranges) rfl ?_
  refine r_i2l hC dX8_room_68 ?_
  refine r_aload_n hC dX8_room_69 rfl 2 rfl ?_
  refine r_aload_n hC dX8_room_70 rfl 2 rfl ?_
  refine r_get hC hin8 0 rfl rfl 13 (by decide) rfl hw1 rfl dX8_room_71 ?_
  refine r_iload_n hC dX8_room_74 rfl 3 rfl ?_
  refine r_iconst hC dX8_room_75 ic_1 ?_
  obtain ⟨r11, h12, hf⟩ := ob_some hf
  refine r_vi (st := [.long (Int32.toInt64 r9), .int p2, .int ((30 * x8) * x8)]) hC (kX8_grownTo l D cy ad c8_latest c8_asked c8_upper c8_lower c8_legs c8_units c8_rests c8_rates c8_lines c8_came c8_sizes c8_weights c8_growths c8_copied c8_legWay c8_legUnits c8_legStuff c8_unitWay c8_unitStuff c8_xs c8_ys c8_zs c8_kindOf c8_placeOf c8_rateOf c8_readOf c8_isGone c8_theList c8_amounts c8_low c8_high c8_barred c8_times c8_ranges c8_units p1 1 N h12) gX8_room_X8_grownTo rfl ⟨rfl, rfl⟩ ydX8_grownTo ⟨Nat.le_of_ble_eq_true rfl, Nat.le_of_ble_eq_true rfl⟩ ⟨Nat.le_refl 0, Nat.le_refl 0⟩ 0 rfl rfl [] [] rfl _ rfl (Nat.le_of_ble_eq_true rfl) dX8_room_76 (w8 cy ad c8_latest c8_asked c8_upper c8_lower c8_legs c8_units c8_rests c8_rates c8_lines c8_came c8_sizes c8_weights c8_growths c8_copied c8_legWay c8_legUnits c8_legStuff c8_unitWay c8_unitStuff c8_xs c8_ys c8_zs c8_kindOf c8_placeOf c8_rateOf c8_readOf c8_isGone c8_theList c8_amounts c8_low c8_high c8_barred c8_times c8_ranges) rfl ?_
  refine r_i2l hC dX8_room_79 ?_
  refine r_aload_n hC dX8_room_80 rfl 2 rfl ?_
  refine r_aload_n hC dX8_room_81 rfl 2 rfl ?_
  refine r_get hC hin8 0 rfl rfl 13 (by decide) rfl hw1 rfl dX8_room_82 ?_
  refine r_iload_n hC dX8_room_85 rfl 3 rfl ?_
  refine r_iconst hC dX8_room_86 ic_2 ?_
  obtain ⟨r13, h14, hf⟩ := ob_some hf
  refine r_vi (st := [.long (Int32.toInt64 r11), .long (Int32.toInt64 r9), .int p2, .int ((30 * x8) * x8)]) hC (kX8_grownTo l D cy ad c8_latest c8_asked c8_upper c8_lower c8_legs c8_units c8_rests c8_rates c8_lines c8_came c8_sizes c8_weights c8_growths c8_copied c8_legWay c8_legUnits c8_legStuff c8_unitWay c8_unitStuff c8_xs c8_ys c8_zs c8_kindOf c8_placeOf c8_rateOf c8_readOf c8_isGone c8_theList c8_amounts c8_low c8_high c8_barred c8_times c8_ranges c8_units p1 2 N h14) gX8_room_X8_grownTo rfl ⟨rfl, rfl⟩ ydX8_grownTo ⟨Nat.le_of_ble_eq_true rfl, Nat.le_of_ble_eq_true rfl⟩ ⟨Nat.le_refl 0, Nat.le_refl 0⟩ 0 rfl rfl [] [] rfl _ rfl (Nat.le_of_ble_eq_true rfl) dX8_room_87 (w8 cy ad c8_latest c8_asked c8_upper c8_lower c8_legs c8_units c8_rests c8_rates c8_lines c8_came c8_sizes c8_weights c8_growths c8_copied c8_legWay c8_legUnits c8_legStuff c8_unitWay c8_unitStuff c8_xs c8_ys c8_zs c8_kindOf c8_placeOf c8_rateOf c8_readOf c8_isGone c8_theList c8_amounts c8_low c8_high c8_barred c8_times c8_ranges) rfl ?_
  refine r_i2l hC dX8_room_90 ?_
  obtain ⟨r15, h16, hf⟩ := ob_some hf
  refine r_sl (st := [.int p2, .int ((30 * x8) * x8)]) hC (kX8_squares l D cy (Int32.toInt64 r9) (Int32.toInt64 r11) (Int32.toInt64 r13) h16) gX8_room_X8_squares rfl ⟨rfl, rfl⟩ ydX8_squares ⟨Nat.le_of_ble_eq_true rfl, Nat.le_of_ble_eq_true rfl⟩ ⟨Nat.le_refl 0, Nat.le_refl 0⟩ _ rfl (Nat.le_of_ble_eq_true rfl) dX8_room_91 ?_
  obtain ⟨r17, h18, hf⟩ := ob_some hf
  refine r_si (st := [.int p2, .int ((30 * x8) * x8)]) hC (kX8_root l D cy r15 N h18) gX8_room_X8_root rfl ⟨rfl, rfl⟩ ydX8_root ⟨Nat.le_of_ble_eq_true rfl, Nat.le_of_ble_eq_true rfl⟩ ⟨Nat.le_refl 0, Nat.le_refl 0⟩ _ rfl (Nat.le_of_ble_eq_true rfl) dX8_room_94 ?_
  refine r_imul hC dX8_room_97 ?_
  refine r_isub hC dX8_room_98 ?_
  obtain rfl := so_1 hf
  exact hRet _ _ _ dX8_room_99 rfl
noncomputable def fX8_soft (N : Nat) (c8_asked : Int32) (c8_legs : Int32) (c8_units : Int32) (c8_sizes : Nat → Int32) (c8_growths : Nat → Int32) (c8_unitWay : Nat → Int32) (c8_unitStuff : Nat → Int32) (c8_xs : Nat → Int32) (c8_ys : Nat → Int32) (c8_zs : Nat → Int32) (p1 : Int32) (p2 : Int32) : Option (Int32 × Int32) := ob (fX8_isStep p1) (fun (r1 : Int32) => (if r1 = 0 then some ((-1), c8_asked) else ob (fX8_in p2 1 100) (fun (r4 : Int32) => (if r4 = 0 then some ((-1), c8_asked) else (if c8_legs = 0 then some ((-4), c8_asked) else ob (fX8_room N c8_units c8_sizes c8_growths c8_unitWay c8_unitStuff c8_xs c8_ys c8_zs p1 p2 0) (fun (r8 : Int32) => ob ((if r8 < 0 then some 0 else some 1)) (fun (t10 : Int32) => ob2 (fX8_tells c8_asked r8 t10) (fun (r11 : Int32) (s12 : Int32) => some (r11, s12)))))))))
theorem ydX8_soft : yX8_soft.cls = RX8 ∧ yX8_soft.cls ≠ "java/lang/invoke/MethodHandle" ∧ yX8_soft.cls ≠ "java/lang/invoke/VarHandle" ∧ (parseMethodDescriptor yX8_soft.desc).map (fun d => d.parameters.length) = some 2 := by decide +kernel
set_option maxHeartbeats 8000000 in
set_option maxRecDepth 100000 in
theorem kX8_soft (l : Launch) (D : va_G) (cy : Nat → ClassId) (ad : Nat → Nat) (c8_latest : Int32) (c8_asked : Int32) (c8_upper : Int64) (c8_lower : Int64) (c8_legs : Int32) (c8_units : Int32) (c8_rests : Int32) (c8_rates : Int32) (c8_lines : Int32) (c8_came : Nat → Int32) (c8_sizes : Nat → Int32) (c8_weights : Nat → Int32) (c8_growths : Nat → Int32) (c8_copied : Nat → Int32) (c8_legWay : Nat → Int32) (c8_legUnits : Nat → Int32) (c8_legStuff : Nat → Int32) (c8_unitWay : Nat → Int32) (c8_unitStuff : Nat → Int32) (c8_xs : Nat → Int32) (c8_ys : Nat → Int32) (c8_zs : Nat → Int32) (c8_kindOf : Nat → Int32) (c8_placeOf : Nat → Int32) (c8_rateOf : Nat → Int32) (c8_readOf : Nat → Int32) (c8_isGone : Nat → Int32) (c8_theList : Nat → Int32) (c8_amounts : Nat → Int32) (c8_low : Nat → Int32) (c8_high : Nat → Int32) (c8_barred : Nat → Int32) (c8_times : Nat → Int32) (c8_ranges : Nat → Int32) (p1 : Int32) (p2 : Int32) (N : Nat) {ra : Int32} {z8_asked : Int32} (hf : fX8_soft N c8_asked c8_legs c8_units c8_sizes c8_growths c8_unitWay c8_unitStuff c8_xs c8_ys c8_zs p1 p2 = some (ra, z8_asked)) : CI l D cy yX8_soft wsX8_soft ({ frames := 3, cells := 0, slots := 0, locals := 72 } : Room) [.ref (ad 80), .int p1, .int p2] (w8 cy ad c8_latest c8_asked c8_upper c8_lower c8_legs c8_units c8_rests c8_rates c8_lines c8_came c8_sizes c8_weights c8_growths c8_copied c8_legWay c8_legUnits c8_legStuff c8_unitWay c8_unitStuff c8_xs c8_ys c8_zs c8_kindOf c8_placeOf c8_rateOf c8_readOf c8_isGone c8_theList c8_amounts c8_low c8_high c8_barred c8_times c8_ranges) ra (w8 cy ad c8_latest z8_asked c8_upper c8_lower c8_legs c8_units c8_rests c8_rates c8_lines c8_came c8_sizes c8_weights c8_growths c8_copied c8_legWay c8_legUnits c8_legStuff c8_unitWay c8_unitStuff c8_xs c8_ys c8_zs c8_kindOf c8_placeOf c8_rateOf c8_readOf c8_isGone c8_theList c8_amounts c8_low c8_high c8_barred c8_times c8_ranges) := by
  unfold fX8_soft at hf
  refine c_of_i (ty := .int) (own := RX8) (by decide) rfl rfl (Nat.le_of_ble_eq_true rfl) (fun X hC hRet => ?_)
  refine r_sub [(0, .ref (ad 80)), (1, .int p1), (2, .int p2)] [0, 1, 2] rfl ?_
  have hin8 : ∀ w ∈ wsX80, w ∈ wsX8_soft := fun w h => List.mem_cons_of_mem _ (List.mem_append_right _ h)
  have hw0 : Cond.fieldLink RX8 116 "HotPipesModel" "legs" "I" ∈ wsX8_soft := List.mem_of_getElem? (i := 1) rfl
  refine r_iload_n hC dX8_soft_0 rfl 1 rfl ?_
  obtain ⟨r1, h2, hf⟩ := ob_some hf
  refine r_si (st := []) hC (kX8_isStep l D cy p1 h2) gX8_soft_X8_isStep rfl ⟨rfl, rfl⟩ ydX8_isStep ⟨Nat.le_of_ble_eq_true rfl, Nat.le_of_ble_eq_true rfl⟩ ⟨Nat.le_refl 0, Nat.le_refl 0⟩ _ rfl (Nat.le_of_ble_eq_true rfl) dX8_soft_1 ?_
  refine r_if_eq (tgt := 17) hC dX8_soft_4 (by decide) (fun c3 => ?_) (fun c3 => ?_)
  · replace hf := o_pos hf c3
    refine r_iconst hC dX8_soft_17 ic_m1 ?_
    obtain ⟨rfl, rfl⟩ := so_2 hf
    exact hRet _ _ _ dX8_soft_18 rfl
  · replace hf := o_neg hf c3
    refine r_iload_n hC dX8_soft_7 rfl 2 rfl ?_
    refine r_iconst hC dX8_soft_8 ic_1 ?_
    refine r_bipush hC dX8_soft_9 bp_100 ?_
    obtain ⟨r4, h5, hf⟩ := ob_some hf
    refine r_si (st := []) hC (kX8_in l D cy p2 1 100 h5) gX8_soft_X8_in rfl ⟨rfl, rfl⟩ ydX8_in ⟨Nat.le_of_ble_eq_true rfl, Nat.le_of_ble_eq_true rfl⟩ ⟨Nat.le_refl 0, Nat.le_refl 0⟩ _ rfl (Nat.le_of_ble_eq_true rfl) dX8_soft_11 ?_
    refine r_if_ne (tgt := 19) hC dX8_soft_14 (by decide) (fun c6 => ?_) (fun c6 => ?_)
    · replace hf := o_neg hf c6
      refine r_aload_n hC dX8_soft_19 rfl 0 rfl ?_
      refine r_get hC hin8 0 rfl rfl 9 (by decide) rfl hw0 rfl dX8_soft_20 ?_
      refine r_if_ne (tgt := 29) hC dX8_soft_23 (by decide) (fun c7 => ?_) (fun c7 => ?_)
      · replace hf := o_neg hf c7
        refine r_aload_n hC dX8_soft_29 rfl 0 rfl ?_
        refine r_iload_n hC dX8_soft_30 rfl 1 rfl ?_
        refine r_iload_n hC dX8_soft_31 rfl 2 rfl ?_
        refine r_iconst hC dX8_soft_32 ic_0 ?_
        obtain ⟨r8, h9, hf⟩ := ob_some hf
        refine r_vi (st := []) hC (kX8_room l D cy ad c8_latest c8_asked c8_upper c8_lower c8_legs c8_units c8_rests c8_rates c8_lines c8_came c8_sizes c8_weights c8_growths c8_copied c8_legWay c8_legUnits c8_legStuff c8_unitWay c8_unitStuff c8_xs c8_ys c8_zs c8_kindOf c8_placeOf c8_rateOf c8_readOf c8_isGone c8_theList c8_amounts c8_low c8_high c8_barred c8_times c8_ranges p1 p2 0 N h9) gX8_soft_X8_room rfl ⟨rfl, rfl⟩ ydX8_room ⟨Nat.le_of_ble_eq_true rfl, Nat.le_of_ble_eq_true rfl⟩ ⟨Nat.le_refl 0, Nat.le_refl 0⟩ 0 rfl rfl [] [] rfl _ rfl (Nat.le_of_ble_eq_true rfl) dX8_soft_33 (w8 cy ad c8_latest c8_asked c8_upper c8_lower c8_legs c8_units c8_rests c8_rates c8_lines c8_came c8_sizes c8_weights c8_growths c8_copied c8_legWay c8_legUnits c8_legStuff c8_unitWay c8_unitStuff c8_xs c8_ys c8_zs c8_kindOf c8_placeOf c8_rateOf c8_readOf c8_isGone c8_theList c8_amounts c8_low c8_high c8_barred c8_times c8_ranges) rfl ?_
        refine r_istore_n hC [(3, .int r8), (0, .ref (ad 80)), (1, .int p1), (2, .int p2)] dX8_soft_36 rfl (by decide) rfl ?_
        refine r_aload_n hC dX8_soft_37 rfl 1 rfl ?_
        refine r_iload_n hC dX8_soft_38 rfl 0 rfl ?_
        refine r_iload_n hC dX8_soft_39 rfl 0 rfl ?_
        obtain ⟨t10, h15, hf⟩ := ob_some hf
        have J48_14 : GG X 4 0 0 (w8 cy ad c8_latest c8_asked c8_upper c8_lower c8_legs c8_units c8_rests c8_rates c8_lines c8_came c8_sizes c8_weights c8_growths c8_copied c8_legWay c8_legUnits c8_legStuff c8_unitWay c8_unitStuff c8_xs c8_ys c8_zs c8_kindOf c8_placeOf c8_rateOf c8_readOf c8_isGone c8_theList c8_amounts c8_low c8_high c8_barred c8_times c8_ranges) [] 48 [.int t10, .int r8, .ref (ad 80)] := by
          obtain ⟨r11, s12, h13, hf⟩ := ob2_some hf
          refine r_vi (st := []) hC (kX8_tells l D cy ad c8_latest c8_asked c8_upper c8_lower c8_legs c8_units c8_rests c8_rates c8_lines c8_came c8_sizes c8_weights c8_growths c8_copied c8_legWay c8_legUnits c8_legStuff c8_unitWay c8_unitStuff c8_xs c8_ys c8_zs c8_kindOf c8_placeOf c8_rateOf c8_readOf c8_isGone c8_theList c8_amounts c8_low c8_high c8_barred c8_times c8_ranges r8 t10 h13) gX8_soft_X8_tells rfl ⟨rfl, rfl⟩ ydX8_tells ⟨Nat.le_of_ble_eq_true rfl, Nat.le_of_ble_eq_true rfl⟩ ⟨Nat.le_refl 0, Nat.le_refl 0⟩ 0 rfl rfl [] [] rfl _ rfl (Nat.le_of_ble_eq_true rfl) dX8_soft_48 (w8 cy ad c8_latest s12 c8_upper c8_lower c8_legs c8_units c8_rests c8_rates c8_lines c8_came c8_sizes c8_weights c8_growths c8_copied c8_legWay c8_legUnits c8_legStuff c8_unitWay c8_unitStuff c8_xs c8_ys c8_zs c8_kindOf c8_placeOf c8_rateOf c8_readOf c8_isGone c8_theList c8_amounts c8_low c8_high c8_barred c8_times c8_ranges) rfl ?_
          obtain ⟨rfl, rfl⟩ := so_2 hf
          exact hRet _ _ _ dX8_soft_51 rfl
        replace hf := h15
        refine r_if_lt (tgt := 47) hC dX8_soft_40 (by decide) (fun c16 => ?_) (fun c16 => ?_)
        · replace hf := o_pos hf c16
          refine r_iconst hC dX8_soft_47 ic_0 ?_
          obtain rfl := so_1 hf
          refine r_sub [] [] rfl ?_
          exact J48_14
        · replace hf := o_neg hf c16
          refine r_iconst hC dX8_soft_43 ic_1 ?_
          refine r_goto (tgt := 48) hC dX8_soft_44 (by decide) ?_
          obtain rfl := so_1 hf
          refine r_sub [] [] rfl ?_
          exact J48_14
      · replace hf := o_pos hf c7
        refine r_bipush hC dX8_soft_26 bp_m4 ?_
        obtain ⟨rfl, rfl⟩ := so_2 hf
        exact hRet _ _ _ dX8_soft_28 rfl
    · replace hf := o_pos hf c6
      refine r_iconst hC dX8_soft_17 ic_m1 ?_
      obtain ⟨rfl, rfl⟩ := so_2 hf
      exact hRet _ _ _ dX8_soft_18 rfl
noncomputable def fX8_isOnRun_L6 (c8_units : Int32) (c8_xs : Nat → Int32) (c8_ys : Nat → Int32) (c8_zs : Nat → Int32) (p1 : Int32) (p2 : Int32) (p3 : Int32) : Nat → Int32 → Int32 → Option (Int32)
  | 0, _, _ => none
  | n + 1, x1, x2 => (if c8_units < x2 then og (x1 = 0 ∨ x1 = 1) (some x1) else ob (oj (some 1) (fun (K53_8 : Option (Int32)) => (if x1 = 0 then og (vp_in x2 241) (oj (some 0) (fun (K57_11 : Option (Int32)) => (if (c8_xs (Int32.toNatClampNeg x2)) = p1 then og (vp_in x2 241) ((if (c8_ys (Int32.toNatClampNeg x2)) = p2 then og (vp_in x2 241) ((if (c8_zs (Int32.toNatClampNeg x2)) = p3 then K53_8 else K57_11)) else K57_11)) else K57_11))) else K53_8))) (fun (t5 : Int32) => fX8_isOnRun_L6 c8_units c8_xs c8_ys c8_zs p1 p2 p3 n t5 (x2 + 1)))
noncomputable def fX8_isOnRun (N : Nat) (c8_units : Int32) (c8_xs : Nat → Int32) (c8_ys : Nat → Int32) (c8_zs : Nat → Int32) (p1 : Int32) (p2 : Int32) (p3 : Int32) : Option (Int32) := fX8_isOnRun_L6 c8_units c8_xs c8_ys c8_zs p1 p2 p3 N 0 0
theorem ydX8_isOnRun : yX8_isOnRun.cls = RX8 ∧ yX8_isOnRun.cls ≠ "java/lang/invoke/MethodHandle" ∧ yX8_isOnRun.cls ≠ "java/lang/invoke/VarHandle" ∧ (parseMethodDescriptor yX8_isOnRun.desc).map (fun d => d.parameters.length) = some 3 := by decide +kernel
set_option maxHeartbeats 8000000 in
set_option maxRecDepth 100000 in
theorem kX8_isOnRun (l : Launch) (D : va_G) (cy : Nat → ClassId) (ad : Nat → Nat) (c8_latest : Int32) (c8_asked : Int32) (c8_upper : Int64) (c8_lower : Int64) (c8_legs : Int32) (c8_units : Int32) (c8_rests : Int32) (c8_rates : Int32) (c8_lines : Int32) (c8_came : Nat → Int32) (c8_sizes : Nat → Int32) (c8_weights : Nat → Int32) (c8_growths : Nat → Int32) (c8_copied : Nat → Int32) (c8_legWay : Nat → Int32) (c8_legUnits : Nat → Int32) (c8_legStuff : Nat → Int32) (c8_unitWay : Nat → Int32) (c8_unitStuff : Nat → Int32) (c8_xs : Nat → Int32) (c8_ys : Nat → Int32) (c8_zs : Nat → Int32) (c8_kindOf : Nat → Int32) (c8_placeOf : Nat → Int32) (c8_rateOf : Nat → Int32) (c8_readOf : Nat → Int32) (c8_isGone : Nat → Int32) (c8_theList : Nat → Int32) (c8_amounts : Nat → Int32) (c8_low : Nat → Int32) (c8_high : Nat → Int32) (c8_barred : Nat → Int32) (c8_times : Nat → Int32) (c8_ranges : Nat → Int32) (p1 : Int32) (p2 : Int32) (p3 : Int32) (N : Nat) {ra : Int32} (hf : fX8_isOnRun N c8_units c8_xs c8_ys c8_zs p1 p2 p3 = some ra) : CI l D cy yX8_isOnRun wsX8_isOnRun ({ frames := 0, cells := 0, slots := 0, locals := 0 } : Room) [.ref (ad 80), .int p1, .int p2, .int p3] (w8 cy ad c8_latest c8_asked c8_upper c8_lower c8_legs c8_units c8_rests c8_rates c8_lines c8_came c8_sizes c8_weights c8_growths c8_copied c8_legWay c8_legUnits c8_legStuff c8_unitWay c8_unitStuff c8_xs c8_ys c8_zs c8_kindOf c8_placeOf c8_rateOf c8_readOf c8_isGone c8_theList c8_amounts c8_low c8_high c8_barred c8_times c8_ranges) ra (w8 cy ad c8_latest c8_asked c8_upper c8_lower c8_legs c8_units c8_rests c8_rates c8_lines c8_came c8_sizes c8_weights c8_growths c8_copied c8_legWay c8_legUnits c8_legStuff c8_unitWay c8_unitStuff c8_xs c8_ys c8_zs c8_kindOf c8_placeOf c8_rateOf c8_readOf c8_isGone c8_theList c8_amounts c8_low c8_high c8_barred c8_times c8_ranges) := by
  unfold fX8_isOnRun at hf
  refine c_of_i (ty := .boolean) (own := RX8) (by decide) rfl rfl (Nat.le_of_ble_eq_true rfl) (fun X hC hRet => ?_)
  refine r_sub [(0, .ref (ad 80)), (1, .int p1), (2, .int p2), (3, .int p3)] [0, 1, 2, 3] rfl ?_
  have hin8 : ∀ w ∈ wsX80, w ∈ wsX8_isOnRun := fun w h => List.mem_cons_of_mem _ (List.mem_append_right _ h)
  have hw0 : Cond.fieldLink RX8 113 "HotPipesModel" "units" "I" ∈ wsX8_isOnRun := List.mem_of_getElem? (i := 1) rfl
  have hw1 : Cond.fieldLink RX8 41 "HotPipesModel" "xs" "[I" ∈ wsX8_isOnRun := List.mem_of_getElem? (i := 2) rfl
  have hw2 : Cond.fieldLink RX8 44 "HotPipesModel" "ys" "[I" ∈ wsX8_isOnRun := List.mem_of_getElem? (i := 3) rfl
  have hw3 : Cond.fieldLink RX8 47 "HotPipesModel" "zs" "[I" ∈ wsX8_isOnRun := List.mem_of_getElem? (i := 4) rfl
  refine r_iconst hC dX8_isOnRun_0 ic_0 ?_
  refine r_istore hC [(4, .int 0), (0, .ref (ad 80)), (1, .int p1), (2, .int p2), (3, .int p3)] dX8_isOnRun_1 (by decide) rfl ?_
  refine r_iconst hC dX8_isOnRun_3 ic_0 ?_
  refine r_istore hC [(5, .int 0), (4, .int 0), (0, .ref (ad 80)), (1, .int p1), (2, .int p2), (3, .int p3)] dX8_isOnRun_4 (by decide) rfl ?_
  have L6 : ∀ (n : Nat) (x1 : Int32) (x2 : Int32), fX8_isOnRun_L6 c8_units c8_xs c8_ys c8_zs p1 p2 p3 n x1 x2 = some ra → GG X 6 0 0 (w8 cy ad c8_latest c8_asked c8_upper c8_lower c8_legs c8_units c8_rests c8_rates c8_lines c8_came c8_sizes c8_weights c8_growths c8_copied c8_legWay c8_legUnits c8_legStuff c8_unitWay c8_unitStuff c8_xs c8_ys c8_zs c8_kindOf c8_placeOf c8_rateOf c8_readOf c8_isGone c8_theList c8_amounts c8_low c8_high c8_barred c8_times c8_ranges) [(0, .ref (ad 80)), (1, .int p1), (2, .int p2), (3, .int p3), (4, .int x1), (5, .int x2)] 6 [] := by
    intro n
    induction n with
    | zero => intro x1 x2 hf; cases (show none = some _ from hf)
    | succ n ih =>
      intro x1 x2 hf
      rw [fX8_isOnRun_L6] at hf
      refine r_iload hC dX8_isOnRun_6 5 rfl ?_
      refine r_aload_n hC dX8_isOnRun_8 rfl 0 rfl ?_
      refine r_get hC hin8 0 rfl rfl 13 (by decide) rfl hw0 rfl dX8_isOnRun_9 ?_
      refine r_icmp_gt (tgt := 66) hC dX8_isOnRun_12 (by decide) (fun c3 => ?_) (fun c3 => ?_)
      · replace hf := o_pos hf c3
        refine r_iload hC dX8_isOnRun_66 4 rfl ?_
        obtain ⟨g4, hf⟩ := og_some hf
        obtain rfl := so_1 hf
        exact hRet _ _ _ dX8_isOnRun_68 (nb_of g4)
      · replace hf := o_neg hf c3
        refine r_iload hC dX8_isOnRun_15 4 rfl ?_
        obtain ⟨t5, h7, hf⟩ := ob_some hf
        have J58_6 : GG X 6 0 0 (w8 cy ad c8_latest c8_asked c8_upper c8_lower c8_legs c8_units c8_rests c8_rates c8_lines c8_came c8_sizes c8_weights c8_growths c8_copied c8_legWay c8_legUnits c8_legStuff c8_unitWay c8_unitStuff c8_xs c8_ys c8_zs c8_kindOf c8_placeOf c8_rateOf c8_readOf c8_isGone c8_theList c8_amounts c8_low c8_high c8_barred c8_times c8_ranges) [(0, .ref (ad 80)), (1, .int p1), (2, .int p2), (3, .int p3), (5, .int x2)] 58 [.int t5] := by
          refine r_istore hC [(4, .int t5), (0, .ref (ad 80)), (1, .int p1), (2, .int p2), (3, .int p3), (5, .int x2)] dX8_isOnRun_58 (by decide) rfl ?_
          refine r_iinc hC [(5, .int (x2 + 1)), (4, .int t5), (0, .ref (ad 80)), (1, .int p1), (2, .int p2), (3, .int p3)] (x2 + 1) dX8_isOnRun_60 5 rfl (ii_1 _) (by decide) rfl ?_
          refine r_goto (tgt := 6) hC dX8_isOnRun_63 (by decide) ?_
          refine r_sub [(0, .ref (ad 80)), (1, .int p1), (2, .int p2), (3, .int p3), (4, .int t5), (5, .int (x2 + 1))] [2, 3, 4, 5, 1, 0] rfl ?_
          exact ih t5 (x2 + 1) hf
        replace hf := h7
        obtain ⟨K53_8, eK53_8, hf⟩ := oj_some hf
        have J53_8 : K53_8 = some t5 → GG X 6 0 0 (w8 cy ad c8_latest c8_asked c8_upper c8_lower c8_legs c8_units c8_rests c8_rates c8_lines c8_came c8_sizes c8_weights c8_growths c8_copied c8_legWay c8_legUnits c8_legStuff c8_unitWay c8_unitStuff c8_xs c8_ys c8_zs c8_kindOf c8_placeOf c8_rateOf c8_readOf c8_isGone c8_theList c8_amounts c8_low c8_high c8_barred c8_times c8_ranges) [(0, .ref (ad 80)), (1, .int p1), (2, .int p2), (3, .int p3), (5, .int x2)] 53 [] := by
          intro hf
          replace hf := oa0 eK53_8 hf
          refine r_iconst hC dX8_isOnRun_53 ic_1 ?_
          refine r_goto (tgt := 58) hC dX8_isOnRun_54 (by decide) ?_
          obtain rfl := so_1 hf
          exact J58_6
        refine r_if_ne (tgt := 53) hC dX8_isOnRun_17 (by decide) (fun c9 => ?_) (fun c9 => ?_)
        · replace hf := o_neg hf c9
          refine r_sub [(0, .ref (ad 80)), (1, .int p1), (2, .int p2), (3, .int p3), (5, .int x2)] [0, 1, 2, 3, 5] rfl ?_
          exact J53_8 hf
        · replace hf := o_pos hf c9
          refine r_aload_n hC dX8_isOnRun_20 rfl 0 rfl ?_
          refine r_get hC hin8 0 rfl rfl 16 (by decide) rfl hw1 rfl dX8_isOnRun_21 ?_
          refine r_iload hC dX8_isOnRun_24 5 rfl ?_
          obtain ⟨g10, hf⟩ := og_some hf
          refine r_iald hC 11 rfl g10 dX8_isOnRun_26 ?_
          refine r_iload_n hC dX8_isOnRun_27 rfl 1 rfl ?_
          obtain ⟨K57_11, eK57_11, hf⟩ := oj_some hf
          have J57_11 : K57_11 = some t5 → GG X 6 0 0 (w8 cy ad c8_latest c8_asked c8_upper c8_lower c8_legs c8_units c8_rests c8_rates c8_lines c8_came c8_sizes c8_weights c8_growths c8_copied c8_legWay c8_legUnits c8_legStuff c8_unitWay c8_unitStuff c8_xs c8_ys c8_zs c8_kindOf c8_placeOf c8_rateOf c8_readOf c8_isGone c8_theList c8_amounts c8_low c8_high c8_barred c8_times c8_ranges) [(0, .ref (ad 80)), (1, .int p1), (2, .int p2), (3, .int p3), (5, .int x2)] 57 [] := by
            intro hf
            replace hf := oa0 eK57_11 hf
            refine r_iconst hC dX8_isOnRun_57 ic_0 ?_
            obtain rfl := so_1 hf
            exact J58_6
          refine r_icmp_ne (tgt := 57) hC dX8_isOnRun_28 (by decide) (fun c12 => ?_) (fun c12 => ?_)
          · replace hf := o_neg hf c12
            refine r_sub [(0, .ref (ad 80)), (1, .int p1), (2, .int p2), (3, .int p3), (5, .int x2)] [0, 1, 2, 3, 5] rfl ?_
            exact J57_11 hf
          · replace hf := o_pos hf c12
            refine r_aload_n hC dX8_isOnRun_31 rfl 0 rfl ?_
            refine r_get hC hin8 0 rfl rfl 17 (by decide) rfl hw2 rfl dX8_isOnRun_32 ?_
            refine r_iload hC dX8_isOnRun_35 5 rfl ?_
            obtain ⟨g13, hf⟩ := og_some hf
            refine r_iald hC 12 rfl g13 dX8_isOnRun_37 ?_
            refine r_iload_n hC dX8_isOnRun_38 rfl 2 rfl ?_
            refine r_icmp_ne (tgt := 57) hC dX8_isOnRun_39 (by decide) (fun c14 => ?_) (fun c14 => ?_)
            · replace hf := o_neg hf c14
              refine r_sub [(0, .ref (ad 80)), (1, .int p1), (2, .int p2), (3, .int p3), (5, .int x2)] [0, 1, 2, 3, 5] rfl ?_
              exact J57_11 hf
            · replace hf := o_pos hf c14
              refine r_aload_n hC dX8_isOnRun_42 rfl 0 rfl ?_
              refine r_get hC hin8 0 rfl rfl 18 (by decide) rfl hw3 rfl dX8_isOnRun_43 ?_
              refine r_iload hC dX8_isOnRun_46 5 rfl ?_
              obtain ⟨g15, hf⟩ := og_some hf
              refine r_iald hC 13 rfl g15 dX8_isOnRun_48 ?_
              refine r_iload_n hC dX8_isOnRun_49 rfl 3 rfl ?_
              refine r_icmp_ne (tgt := 57) hC dX8_isOnRun_50 (by decide) (fun c16 => ?_) (fun c16 => ?_)
              · replace hf := o_neg hf c16
                refine r_sub [(0, .ref (ad 80)), (1, .int p1), (2, .int p2), (3, .int p3), (5, .int x2)] [0, 1, 2, 3, 5] rfl ?_
                exact J57_11 hf
              · replace hf := o_pos hf c16
                refine r_sub [(0, .ref (ad 80)), (1, .int p1), (2, .int p2), (3, .int p3), (5, .int x2)] [0, 1, 2, 3, 5] rfl ?_
                exact J53_8 hf
  refine r_sub [(0, .ref (ad 80)), (1, .int p1), (2, .int p2), (3, .int p3), (4, .int 0), (5, .int 0)] [2, 3, 4, 5, 1, 0] rfl ?_
  exact L6 N 0 0 hf
noncomputable def fX8_isTaken (N : Nat) (c8_units : Int32) (c8_xs : Nat → Int32) (c8_ys : Nat → Int32) (c8_zs : Nat → Int32) (p1 : Int32) (p2 : Int32) (p3 : Int32) : Option (Int32) := ob (fX8_signOf p2) (fun (r1 : Int32) => olet (p3 * r1) (fun (x3 : Int32) => og (vp_in p1 241) (ob ((if (p2 / 2) = 0 then some x3 else some 0)) (fun (t5 : Int32) => og (vp_in p1 241) (ob ((if (p2 / 2) = 1 then some x3 else some 0)) (fun (t7 : Int32) => og (vp_in p1 241) (ob ((if (p2 / 2) = 2 then some x3 else some 0)) (fun (t9 : Int32) => ob (fX8_isOnRun N c8_units c8_xs c8_ys c8_zs ((c8_xs (Int32.toNatClampNeg p1)) + t5) ((c8_ys (Int32.toNatClampNeg p1)) + t7) ((c8_zs (Int32.toNatClampNeg p1)) + t9)) (fun (r10 : Int32) => og (r10 = 0 ∨ r10 = 1) (some r10))))))))))
theorem ydX8_isTaken : yX8_isTaken.cls = RX8 ∧ yX8_isTaken.cls ≠ "java/lang/invoke/MethodHandle" ∧ yX8_isTaken.cls ≠ "java/lang/invoke/VarHandle" ∧ (parseMethodDescriptor yX8_isTaken.desc).map (fun d => d.parameters.length) = some 3 := by decide +kernel
set_option maxHeartbeats 8000000 in
set_option maxRecDepth 100000 in
theorem kX8_isTaken (l : Launch) (D : va_G) (cy : Nat → ClassId) (ad : Nat → Nat) (c8_latest : Int32) (c8_asked : Int32) (c8_upper : Int64) (c8_lower : Int64) (c8_legs : Int32) (c8_units : Int32) (c8_rests : Int32) (c8_rates : Int32) (c8_lines : Int32) (c8_came : Nat → Int32) (c8_sizes : Nat → Int32) (c8_weights : Nat → Int32) (c8_growths : Nat → Int32) (c8_copied : Nat → Int32) (c8_legWay : Nat → Int32) (c8_legUnits : Nat → Int32) (c8_legStuff : Nat → Int32) (c8_unitWay : Nat → Int32) (c8_unitStuff : Nat → Int32) (c8_xs : Nat → Int32) (c8_ys : Nat → Int32) (c8_zs : Nat → Int32) (c8_kindOf : Nat → Int32) (c8_placeOf : Nat → Int32) (c8_rateOf : Nat → Int32) (c8_readOf : Nat → Int32) (c8_isGone : Nat → Int32) (c8_theList : Nat → Int32) (c8_amounts : Nat → Int32) (c8_low : Nat → Int32) (c8_high : Nat → Int32) (c8_barred : Nat → Int32) (c8_times : Nat → Int32) (c8_ranges : Nat → Int32) (p1 : Int32) (p2 : Int32) (p3 : Int32) (N : Nat) {ra : Int32} (hf : fX8_isTaken N c8_units c8_xs c8_ys c8_zs p1 p2 p3 = some ra) : CI l D cy yX8_isTaken wsX8_isTaken ({ frames := 1, cells := 0, slots := 0, locals := 25 } : Room) [.ref (ad 80), .int p1, .int p2, .int p3] (w8 cy ad c8_latest c8_asked c8_upper c8_lower c8_legs c8_units c8_rests c8_rates c8_lines c8_came c8_sizes c8_weights c8_growths c8_copied c8_legWay c8_legUnits c8_legStuff c8_unitWay c8_unitStuff c8_xs c8_ys c8_zs c8_kindOf c8_placeOf c8_rateOf c8_readOf c8_isGone c8_theList c8_amounts c8_low c8_high c8_barred c8_times c8_ranges) ra (w8 cy ad c8_latest c8_asked c8_upper c8_lower c8_legs c8_units c8_rests c8_rates c8_lines c8_came c8_sizes c8_weights c8_growths c8_copied c8_legWay c8_legUnits c8_legStuff c8_unitWay c8_unitStuff c8_xs c8_ys c8_zs c8_kindOf c8_placeOf c8_rateOf c8_readOf c8_isGone c8_theList c8_amounts c8_low c8_high c8_barred c8_times c8_ranges) := by
  unfold fX8_isTaken at hf
  refine c_of_i (ty := .boolean) (own := RX8) (by decide) rfl rfl (Nat.le_of_ble_eq_true rfl) (fun X hC hRet => ?_)
  refine r_sub [(0, .ref (ad 80)), (1, .int p1), (2, .int p2), (3, .int p3)] [0, 1, 2, 3] rfl ?_
  have hin8 : ∀ w ∈ wsX80, w ∈ wsX8_isTaken := fun w h => List.mem_cons_of_mem _ (List.mem_append_right _ h)
  have hw0 : Cond.fieldLink RX8 41 "HotPipesModel" "xs" "[I" ∈ wsX8_isTaken := List.mem_of_getElem? (i := 1) rfl
  have hw1 : Cond.fieldLink RX8 44 "HotPipesModel" "ys" "[I" ∈ wsX8_isTaken := List.mem_of_getElem? (i := 2) rfl
  have hw2 : Cond.fieldLink RX8 47 "HotPipesModel" "zs" "[I" ∈ wsX8_isTaken := List.mem_of_getElem? (i := 3) rfl
  refine r_iload_n hC dX8_isTaken_0 rfl 3 rfl ?_
  refine r_iload_n hC dX8_isTaken_1 rfl 2 rfl ?_
  obtain ⟨r1, h2, hf⟩ := ob_some hf
  refine r_si (st := [.int p3]) hC (kX8_signOf l D cy p2 h2) gX8_isTaken_X8_signOf rfl ⟨rfl, rfl⟩ ydX8_signOf ⟨Nat.le_of_ble_eq_true rfl, Nat.le_of_ble_eq_true rfl⟩ ⟨Nat.le_refl 0, Nat.le_refl 0⟩ _ rfl (Nat.le_of_ble_eq_true rfl) dX8_isTaken_2 ?_
  refine r_imul hC dX8_isTaken_5 ?_
  refine r_topi (fun x3 ex3 => ?_)
  replace hf := olet_some hf ex3
  refine r_istore hC [(4, .int x3), (0, .ref (ad 80)), (1, .int p1), (2, .int p2), (3, .int p3)] dX8_isTaken_6 (by decide) rfl ?_
  refine r_aload_n hC dX8_isTaken_8 rfl 1 rfl ?_
  refine r_aload_n hC dX8_isTaken_9 rfl 1 rfl ?_
  refine r_get hC hin8 0 rfl rfl 16 (by decide) rfl hw0 rfl dX8_isTaken_10 ?_
  refine r_iload_n hC dX8_isTaken_13 rfl 2 rfl ?_
  obtain ⟨g4, hf⟩ := og_some hf
  refine r_iald hC 11 rfl g4 dX8_isTaken_14 ?_
  refine r_iload_n hC dX8_isTaken_15 rfl 3 rfl ?_
  refine r_iconst hC dX8_isTaken_16 ic_2 ?_
  refine r_idiv hC dX8_isTaken_17 (by decide) ?_
  obtain ⟨t5, h20, hf⟩ := ob_some hf
  have J27_19 : GG X 5 0 0 (w8 cy ad c8_latest c8_asked c8_upper c8_lower c8_legs c8_units c8_rests c8_rates c8_lines c8_came c8_sizes c8_weights c8_growths c8_copied c8_legWay c8_legUnits c8_legStuff c8_unitWay c8_unitStuff c8_xs c8_ys c8_zs c8_kindOf c8_placeOf c8_rateOf c8_readOf c8_isGone c8_theList c8_amounts c8_low c8_high c8_barred c8_times c8_ranges) [(0, .ref (ad 80)), (1, .int p1), (2, .int p2), (4, .int x3)] 27 [.int t5, .int (c8_xs (Int32.toNatClampNeg p1)), .ref (ad 80)] := by
    refine r_iadd hC dX8_isTaken_27 ?_
    refine r_aload_n hC dX8_isTaken_28 rfl 0 rfl ?_
    refine r_get hC hin8 0 rfl rfl 17 (by decide) rfl hw1 rfl dX8_isTaken_29 ?_
    refine r_iload_n hC dX8_isTaken_32 rfl 1 rfl ?_
    obtain ⟨g6, hf⟩ := og_some hf
    refine r_iald hC 12 rfl g6 dX8_isTaken_33 ?_
    refine r_iload_n hC dX8_isTaken_34 rfl 2 rfl ?_
    refine r_iconst hC dX8_isTaken_35 ic_2 ?_
    refine r_idiv hC dX8_isTaken_36 (by decide) ?_
    refine r_iconst hC dX8_isTaken_37 ic_1 ?_
    obtain ⟨t7, h17, hf⟩ := ob_some hf
    have J47_16 : GG X 5 0 0 (w8 cy ad c8_latest c8_asked c8_upper c8_lower c8_legs c8_units c8_rests c8_rates c8_lines c8_came c8_sizes c8_weights c8_growths c8_copied c8_legWay c8_legUnits c8_legStuff c8_unitWay c8_unitStuff c8_xs c8_ys c8_zs c8_kindOf c8_placeOf c8_rateOf c8_readOf c8_isGone c8_theList c8_amounts c8_low c8_high c8_barred c8_times c8_ranges) [(0, .ref (ad 80)), (1, .int p1), (2, .int p2), (4, .int x3)] 47 [.int t7, .int (c8_ys (Int32.toNatClampNeg p1)), .int ((c8_xs (Int32.toNatClampNeg p1)) + t5), .ref (ad 80)] := by
      refine r_iadd hC dX8_isTaken_47 ?_
      refine r_aload_n hC dX8_isTaken_48 rfl 0 rfl ?_
      refine r_get hC hin8 0 rfl rfl 18 (by decide) rfl hw2 rfl dX8_isTaken_49 ?_
      refine r_iload_n hC dX8_isTaken_52 rfl 1 rfl ?_
      obtain ⟨g8, hf⟩ := og_some hf
      refine r_iald hC 13 rfl g8 dX8_isTaken_53 ?_
      refine r_iload_n hC dX8_isTaken_54 rfl 2 rfl ?_
      refine r_iconst hC dX8_isTaken_55 ic_2 ?_
      refine r_idiv hC dX8_isTaken_56 (by decide) ?_
      refine r_iconst hC dX8_isTaken_57 ic_2 ?_
      obtain ⟨t9, h14, hf⟩ := ob_some hf
      have J67_13 : GG X 5 0 0 (w8 cy ad c8_latest c8_asked c8_upper c8_lower c8_legs c8_units c8_rests c8_rates c8_lines c8_came c8_sizes c8_weights c8_growths c8_copied c8_legWay c8_legUnits c8_legStuff c8_unitWay c8_unitStuff c8_xs c8_ys c8_zs c8_kindOf c8_placeOf c8_rateOf c8_readOf c8_isGone c8_theList c8_amounts c8_low c8_high c8_barred c8_times c8_ranges) [] 67 [.int t9, .int (c8_zs (Int32.toNatClampNeg p1)), .int ((c8_ys (Int32.toNatClampNeg p1)) + t7), .int ((c8_xs (Int32.toNatClampNeg p1)) + t5), .ref (ad 80)] := by
        refine r_iadd hC dX8_isTaken_67 ?_
        obtain ⟨r10, h11, hf⟩ := ob_some hf
        refine r_vi (st := []) hC (kX8_isOnRun l D cy ad c8_latest c8_asked c8_upper c8_lower c8_legs c8_units c8_rests c8_rates c8_lines c8_came c8_sizes c8_weights c8_growths c8_copied c8_legWay c8_legUnits c8_legStuff c8_unitWay c8_unitStuff c8_xs c8_ys c8_zs c8_kindOf c8_placeOf c8_rateOf c8_readOf c8_isGone c8_theList c8_amounts c8_low c8_high c8_barred c8_times c8_ranges ((c8_xs (Int32.toNatClampNeg p1)) + t5) ((c8_ys (Int32.toNatClampNeg p1)) + t7) ((c8_zs (Int32.toNatClampNeg p1)) + t9) N h11) gX8_isTaken_X8_isOnRun rfl ⟨rfl, rfl⟩ ydX8_isOnRun ⟨Nat.le_of_ble_eq_true rfl, Nat.le_of_ble_eq_true rfl⟩ ⟨Nat.le_refl 0, Nat.le_refl 0⟩ 0 rfl rfl [] [] rfl _ rfl (Nat.le_of_ble_eq_true rfl) dX8_isTaken_68 (w8 cy ad c8_latest c8_asked c8_upper c8_lower c8_legs c8_units c8_rests c8_rates c8_lines c8_came c8_sizes c8_weights c8_growths c8_copied c8_legWay c8_legUnits c8_legStuff c8_unitWay c8_unitStuff c8_xs c8_ys c8_zs c8_kindOf c8_placeOf c8_rateOf c8_readOf c8_isGone c8_theList c8_amounts c8_low c8_high c8_barred c8_times c8_ranges) rfl ?_
        obtain ⟨g12, hf⟩ := og_some hf
        obtain rfl := so_1 hf
        exact hRet _ _ _ dX8_isTaken_71 (nb_of g12)
      replace hf := h14
      refine r_icmp_ne (tgt := 66) hC dX8_isTaken_58 (by decide) (fun c15 => ?_) (fun c15 => ?_)
      · replace hf := o_neg hf c15
        refine r_iconst hC dX8_isTaken_66 ic_0 ?_
        obtain rfl := so_1 hf
        refine r_sub [] [] rfl ?_
        exact J67_13
      · replace hf := o_pos hf c15
        refine r_iload hC dX8_isTaken_61 3 rfl ?_
        refine r_goto (tgt := 67) hC dX8_isTaken_63 (by decide) ?_
        obtain rfl := so_1 hf
        refine r_sub [] [] rfl ?_
        exact J67_13
    replace hf := h17
    refine r_icmp_ne (tgt := 46) hC dX8_isTaken_38 (by decide) (fun c18 => ?_) (fun c18 => ?_)
    · replace hf := o_neg hf c18
      refine r_iconst hC dX8_isTaken_46 ic_0 ?_
      obtain rfl := so_1 hf
      exact J47_16
    · replace hf := o_pos hf c18
      refine r_iload hC dX8_isTaken_41 3 rfl ?_
      refine r_goto (tgt := 47) hC dX8_isTaken_43 (by decide) ?_
      obtain rfl := so_1 hf
      exact J47_16
  replace hf := h20
  refine r_if_ne (tgt := 26) hC dX8_isTaken_18 (by decide) (fun c21 => ?_) (fun c21 => ?_)
  · replace hf := o_neg hf c21
    refine r_iconst hC dX8_isTaken_26 ic_0 ?_
    obtain rfl := so_1 hf
    refine r_sub [(0, .ref (ad 80)), (1, .int p1), (2, .int p2), (4, .int x3)] [1, 2, 3, 0] rfl ?_
    exact J27_19
  · replace hf := o_pos hf c21
    refine r_iload hC dX8_isTaken_21 0 rfl ?_
    refine r_goto (tgt := 27) hC dX8_isTaken_23 (by decide) ?_
    obtain rfl := so_1 hf
    refine r_sub [(0, .ref (ad 80)), (1, .int p1), (2, .int p2), (4, .int x3)] [1, 2, 3, 0] rfl ?_
    exact J27_19
noncomputable def fX8_isFree_L109 (N : Nat) (c8_units : Int32) (c8_xs : Nat → Int32) (c8_ys : Nat → Int32) (c8_zs : Nat → Int32) (p2 : Int32) (p3 : Int32) (x1 : Int32) (x4 : Int32) : Nat → Int32 → Int32 → Option (Int32)
  | 0, _, _ => none
  | n + 1, x8, x9 => (if (x1 + (2 * x4)) < x9 then og (x8 = 0 ∨ x8 = 1) (some x8) else ob (oj (some 0) (fun (K141_15 : Option (Int32)) => (if x8 = 0 then K141_15 else ob (fX8_isTaken N c8_units c8_xs c8_ys c8_zs x9 p2 p3) (fun (r17 : Int32) => (if r17 = 0 then some 1 else K141_15))))) (fun (t12 : Int32) => fX8_isFree_L109 N c8_units c8_xs c8_ys c8_zs p2 p3 x1 x4 n t12 (x9 + 1)))
noncomputable def fX8_isFree_L46 (N : Nat) (c8_units : Int32) (c8_xs : Nat → Int32) (c8_ys : Nat → Int32) (c8_zs : Nat → Int32) (p2 : Int32) (p3 : Int32) (x1 : Int32) (x4 : Int32) (K102_6 : Int32 → Option (Int32)) : Nat → Int32 → Int32 → Option (Int32)
  | 0, _, _ => none
  | n + 1, x20, x21 => (if p3 < x21 then K102_6 x20 else ob (oj (some 0) (fun (K93_26 : Option (Int32)) => (if x20 = 0 then K93_26 else ob (fX8_isTaken N c8_units c8_xs c8_ys c8_zs (x1 + x4) p2 x21) (fun (r28 : Int32) => (if r28 = 0 then ob (fX8_isTaken N c8_units c8_xs c8_ys c8_zs (x1 + (2 * x4)) p2 x21) (fun (r31 : Int32) => (if r31 = 0 then some 1 else K93_26)) else K93_26))))) (fun (t23 : Int32) => fX8_isFree_L46 N c8_units c8_xs c8_ys c8_zs p2 p3 x1 x4 K102_6 n t23 (x21 + 1)))
noncomputable def fX8_isFree_L6 (c8_legUnits : Nat → Int32) (p1 : Int32) (K30_2 : Int32 → Option (Int32)) : Nat → Int32 → Int32 → Option (Int32)
  | 0, _, _ => none
  | n + 1, x34, x35 => (if p1 ≤ x35 then K30_2 x34 else og (vp_in x35 12) (olet (x34 + (c8_legUnits (Int32.toNatClampNeg x35))) (fun (x38 : Int32) => fX8_isFree_L6 c8_legUnits p1 K30_2 n x38 (x35 + 1))))
noncomputable def fX8_isFree (N : Nat) (c8_units : Int32) (c8_legUnits : Nat → Int32) (c8_xs : Nat → Int32) (c8_ys : Nat → Int32) (c8_zs : Nat → Int32) (p1 : Int32) (p2 : Int32) (p3 : Int32) : Option (Int32) := oj (fun (x1 : Int32) => og (vp_in p1 12) (olet ((c8_legUnits (Int32.toNatClampNeg p1)) / 3) (fun (x4 : Int32) => oj (fun (x5 : Int32) => olet (x1 + x4) (fun (x7 : Int32) => fX8_isFree_L109 N c8_units c8_xs c8_ys c8_zs p2 p3 x1 x4 N x5 x7)) (fun (K102_6 : Int32 → Option (Int32)) => fX8_isFree_L46 N c8_units c8_xs c8_ys c8_zs p2 p3 x1 x4 K102_6 N 1 1)))) (fun (K30_2 : Int32 → Option (Int32)) => fX8_isFree_L6 c8_legUnits p1 K30_2 N 0 0)
theorem ydX8_isFree : yX8_isFree.cls = RX8 ∧ yX8_isFree.cls ≠ "java/lang/invoke/MethodHandle" ∧ yX8_isFree.cls ≠ "java/lang/invoke/VarHandle" ∧ (parseMethodDescriptor yX8_isFree.desc).map (fun d => d.parameters.length) = some 3 := by decide +kernel
set_option maxHeartbeats 8000000 in
set_option maxRecDepth 100000 in
theorem kX8_isFree (l : Launch) (D : va_G) (cy : Nat → ClassId) (ad : Nat → Nat) (c8_latest : Int32) (c8_asked : Int32) (c8_upper : Int64) (c8_lower : Int64) (c8_legs : Int32) (c8_units : Int32) (c8_rests : Int32) (c8_rates : Int32) (c8_lines : Int32) (c8_came : Nat → Int32) (c8_sizes : Nat → Int32) (c8_weights : Nat → Int32) (c8_growths : Nat → Int32) (c8_copied : Nat → Int32) (c8_legWay : Nat → Int32) (c8_legUnits : Nat → Int32) (c8_legStuff : Nat → Int32) (c8_unitWay : Nat → Int32) (c8_unitStuff : Nat → Int32) (c8_xs : Nat → Int32) (c8_ys : Nat → Int32) (c8_zs : Nat → Int32) (c8_kindOf : Nat → Int32) (c8_placeOf : Nat → Int32) (c8_rateOf : Nat → Int32) (c8_readOf : Nat → Int32) (c8_isGone : Nat → Int32) (c8_theList : Nat → Int32) (c8_amounts : Nat → Int32) (c8_low : Nat → Int32) (c8_high : Nat → Int32) (c8_barred : Nat → Int32) (c8_times : Nat → Int32) (c8_ranges : Nat → Int32) (p1 : Int32) (p2 : Int32) (p3 : Int32) (N : Nat) {ra : Int32} (hf : fX8_isFree N c8_units c8_legUnits c8_xs c8_ys c8_zs p1 p2 p3 = some ra) : CI l D cy yX8_isFree wsX8_isFree ({ frames := 2, cells := 0, slots := 0, locals := 49 } : Room) [.ref (ad 80), .int p1, .int p2, .int p3] (w8 cy ad c8_latest c8_asked c8_upper c8_lower c8_legs c8_units c8_rests c8_rates c8_lines c8_came c8_sizes c8_weights c8_growths c8_copied c8_legWay c8_legUnits c8_legStuff c8_unitWay c8_unitStuff c8_xs c8_ys c8_zs c8_kindOf c8_placeOf c8_rateOf c8_readOf c8_isGone c8_theList c8_amounts c8_low c8_high c8_barred c8_times c8_ranges) ra (w8 cy ad c8_latest c8_asked c8_upper c8_lower c8_legs c8_units c8_rests c8_rates c8_lines c8_came c8_sizes c8_weights c8_growths c8_copied c8_legWay c8_legUnits c8_legStuff c8_unitWay c8_unitStuff c8_xs c8_ys c8_zs c8_kindOf c8_placeOf c8_rateOf c8_readOf c8_isGone c8_theList c8_amounts c8_low c8_high c8_barred c8_times c8_ranges) := by
  unfold fX8_isFree at hf
  refine c_of_i (ty := .boolean) (own := RX8) (by decide) rfl rfl (Nat.le_of_ble_eq_true rfl) (fun X hC hRet => ?_)
  refine r_sub [(0, .ref (ad 80)), (1, .int p1), (2, .int p2), (3, .int p3)] [0, 1, 2, 3] rfl ?_
  have hin8 : ∀ w ∈ wsX80, w ∈ wsX8_isFree := fun w h => List.mem_cons_of_mem _ (List.mem_append_right _ h)
  have hw0 : Cond.fieldLink RX8 29 "HotPipesModel" "legUnits" "[I" ∈ wsX8_isFree := List.mem_of_getElem? (i := 1) rfl
  refine r_iconst hC dX8_isFree_0 ic_0 ?_
  refine r_istore hC [(4, .int 0), (0, .ref (ad 80)), (1, .int p1), (2, .int p2), (3, .int p3)] dX8_isFree_1 (by decide) rfl ?_
  refine r_iconst hC dX8_isFree_3 ic_0 ?_
  refine r_istore hC [(5, .int 0), (4, .int 0), (0, .ref (ad 80)), (1, .int p1), (2, .int p2), (3, .int p3)] dX8_isFree_4 (by decide) rfl ?_
  obtain ⟨K30_2, eK30_2, hf⟩ := oj_some hf
  have J30_2 : ∀ (x1 : Int32), K30_2 x1 = some ra → GG X 8 0 0 (w8 cy ad c8_latest c8_asked c8_upper c8_lower c8_legs c8_units c8_rests c8_rates c8_lines c8_came c8_sizes c8_weights c8_growths c8_copied c8_legWay c8_legUnits c8_legStuff c8_unitWay c8_unitStuff c8_xs c8_ys c8_zs c8_kindOf c8_placeOf c8_rateOf c8_readOf c8_isGone c8_theList c8_amounts c8_low c8_high c8_barred c8_times c8_ranges) [(0, .ref (ad 80)), (1, .int p1), (2, .int p2), (3, .int p3), (4, .int x1)] 30 [] := by
    intro x1 hf
    replace hf := oa1 eK30_2 hf
    refine r_aload_n hC dX8_isFree_30 rfl 0 rfl ?_
    refine r_get hC hin8 0 rfl rfl 11 (by decide) rfl hw0 rfl dX8_isFree_31 ?_
    refine r_iload_n hC dX8_isFree_34 rfl 1 rfl ?_
    obtain ⟨g3, hf⟩ := og_some hf
    refine r_iald hC 7 rfl g3 dX8_isFree_35 ?_
    refine r_iconst hC dX8_isFree_36 ic_3 ?_
    refine r_idiv hC dX8_isFree_37 (by decide) ?_
    refine r_topi (fun x4 ex4 => ?_)
    replace hf := olet_some hf ex4
    refine r_istore hC [(5, .int x4), (0, .ref (ad 80)), (1, .int p1), (2, .int p2), (3, .int p3), (4, .int x1)] dX8_isFree_38 (by decide) rfl ?_
    refine r_iconst hC dX8_isFree_40 ic_1 ?_
    refine r_istore hC [(6, .int 1), (5, .int x4), (0, .ref (ad 80)), (1, .int p1), (2, .int p2), (3, .int p3), (4, .int x1)] dX8_isFree_41 (by decide) rfl ?_
    refine r_iconst hC dX8_isFree_43 ic_1 ?_
    refine r_istore hC [(7, .int 1), (6, .int 1), (5, .int x4), (0, .ref (ad 80)), (1, .int p1), (2, .int p2), (3, .int p3), (4, .int x1)] dX8_isFree_44 (by decide) rfl ?_
    obtain ⟨K102_6, eK102_6, hf⟩ := oj_some hf
    have J102_6 : ∀ (x5 : Int32), K102_6 x5 = some ra → GG X 8 0 0 (w8 cy ad c8_latest c8_asked c8_upper c8_lower c8_legs c8_units c8_rests c8_rates c8_lines c8_came c8_sizes c8_weights c8_growths c8_copied c8_legWay c8_legUnits c8_legStuff c8_unitWay c8_unitStuff c8_xs c8_ys c8_zs c8_kindOf c8_placeOf c8_rateOf c8_readOf c8_isGone c8_theList c8_amounts c8_low c8_high c8_barred c8_times c8_ranges) [(0, .ref (ad 80)), (2, .int p2), (3, .int p3), (4, .int x1), (5, .int x4), (6, .int x5)] 102 [] := by
      intro x5 hf
      replace hf := oa1 eK102_6 hf
      refine r_iload hC dX8_isFree_102 3 rfl ?_
      refine r_iload hC dX8_isFree_104 4 rfl ?_
      refine r_iadd hC dX8_isFree_106 ?_
      refine r_topi (fun x7 ex7 => ?_)
      replace hf := olet_some hf ex7
      refine r_istore hC [(7, .int x7), (0, .ref (ad 80)), (2, .int p2), (3, .int p3), (4, .int x1), (5, .int x4), (6, .int x5)] dX8_isFree_107 (by decide) rfl ?_
      have L109 : ∀ (n : Nat) (x8 : Int32) (x9 : Int32), fX8_isFree_L109 N c8_units c8_xs c8_ys c8_zs p2 p3 x1 x4 n x8 x9 = some ra → GG X 8 0 0 (w8 cy ad c8_latest c8_asked c8_upper c8_lower c8_legs c8_units c8_rests c8_rates c8_lines c8_came c8_sizes c8_weights c8_growths c8_copied c8_legWay c8_legUnits c8_legStuff c8_unitWay c8_unitStuff c8_xs c8_ys c8_zs c8_kindOf c8_placeOf c8_rateOf c8_readOf c8_isGone c8_theList c8_amounts c8_low c8_high c8_barred c8_times c8_ranges) [(0, .ref (ad 80)), (2, .int p2), (3, .int p3), (4, .int x1), (5, .int x4), (6, .int x8), (7, .int x9)] 109 [] := by
        intro n
        induction n with
        | zero => intro x8 x9 hf; cases (show none = some _ from hf)
        | succ n ih =>
          intro x8 x9 hf
          rw [fX8_isFree_L109] at hf
          refine r_iload hC dX8_isFree_109 6 rfl ?_
          refine r_iload hC dX8_isFree_111 3 rfl ?_
          refine r_iconst hC dX8_isFree_113 ic_2 ?_
          refine r_iload hC dX8_isFree_114 4 rfl ?_
          refine r_imul hC dX8_isFree_116 ?_
          refine r_iadd hC dX8_isFree_117 ?_
          refine r_icmp_gt (tgt := 150) hC dX8_isFree_118 (by decide) (fun c10 => ?_) (fun c10 => ?_)
          · replace hf := o_pos hf c10
            refine r_iload hC dX8_isFree_150 5 rfl ?_
            obtain ⟨g11, hf⟩ := og_some hf
            obtain rfl := so_1 hf
            exact hRet _ _ _ dX8_isFree_152 (nb_of g11)
          · replace hf := o_neg hf c10
            refine r_iload hC dX8_isFree_121 5 rfl ?_
            obtain ⟨t12, h14, hf⟩ := ob_some hf
            have J142_13 : GG X 8 0 0 (w8 cy ad c8_latest c8_asked c8_upper c8_lower c8_legs c8_units c8_rests c8_rates c8_lines c8_came c8_sizes c8_weights c8_growths c8_copied c8_legWay c8_legUnits c8_legStuff c8_unitWay c8_unitStuff c8_xs c8_ys c8_zs c8_kindOf c8_placeOf c8_rateOf c8_readOf c8_isGone c8_theList c8_amounts c8_low c8_high c8_barred c8_times c8_ranges) [(0, .ref (ad 80)), (2, .int p2), (3, .int p3), (4, .int x1), (5, .int x4), (7, .int x9)] 142 [.int t12] := by
              refine r_istore hC [(6, .int t12), (0, .ref (ad 80)), (2, .int p2), (3, .int p3), (4, .int x1), (5, .int x4), (7, .int x9)] dX8_isFree_142 (by decide) rfl ?_
              refine r_iinc hC [(7, .int (x9 + 1)), (6, .int t12), (0, .ref (ad 80)), (2, .int p2), (3, .int p3), (4, .int x1), (5, .int x4)] (x9 + 1) dX8_isFree_144 6 rfl (ii_1 _) (by decide) rfl ?_
              refine r_goto (tgt := 109) hC dX8_isFree_147 (by decide) ?_
              refine r_sub [(0, .ref (ad 80)), (2, .int p2), (3, .int p3), (4, .int x1), (5, .int x4), (6, .int t12), (7, .int (x9 + 1))] [2, 3, 4, 5, 6, 1, 0] rfl ?_
              exact ih t12 (x9 + 1) hf
            replace hf := h14
            obtain ⟨K141_15, eK141_15, hf⟩ := oj_some hf
            have J141_15 : K141_15 = some t12 → GG X 8 0 0 (w8 cy ad c8_latest c8_asked c8_upper c8_lower c8_legs c8_units c8_rests c8_rates c8_lines c8_came c8_sizes c8_weights c8_growths c8_copied c8_legWay c8_legUnits c8_legStuff c8_unitWay c8_unitStuff c8_xs c8_ys c8_zs c8_kindOf c8_placeOf c8_rateOf c8_readOf c8_isGone c8_theList c8_amounts c8_low c8_high c8_barred c8_times c8_ranges) [(0, .ref (ad 80)), (2, .int p2), (3, .int p3), (4, .int x1), (5, .int x4), (7, .int x9)] 141 [] := by
              intro hf
              replace hf := oa0 eK141_15 hf
              refine r_iconst hC dX8_isFree_141 ic_0 ?_
              obtain rfl := so_1 hf
              exact J142_13
            refine r_if_eq (tgt := 141) hC dX8_isFree_123 (by decide) (fun c16 => ?_) (fun c16 => ?_)
            · replace hf := o_pos hf c16
              refine r_sub [(0, .ref (ad 80)), (2, .int p2), (3, .int p3), (4, .int x1), (5, .int x4), (7, .int x9)] [0, 1, 2, 3, 4, 6] rfl ?_
              exact J141_15 hf
            · replace hf := o_neg hf c16
              refine r_aload_n hC dX8_isFree_126 rfl 0 rfl ?_
              refine r_iload hC dX8_isFree_127 6 rfl ?_
              refine r_iload_n hC dX8_isFree_129 rfl 1 rfl ?_
              refine r_iload_n hC dX8_isFree_130 rfl 2 rfl ?_
              obtain ⟨r17, h18, hf⟩ := ob_some hf
              refine r_vi (st := []) hC (kX8_isTaken l D cy ad c8_latest c8_asked c8_upper c8_lower c8_legs c8_units c8_rests c8_rates c8_lines c8_came c8_sizes c8_weights c8_growths c8_copied c8_legWay c8_legUnits c8_legStuff c8_unitWay c8_unitStuff c8_xs c8_ys c8_zs c8_kindOf c8_placeOf c8_rateOf c8_readOf c8_isGone c8_theList c8_amounts c8_low c8_high c8_barred c8_times c8_ranges x9 p2 p3 N h18) gX8_isFree_X8_isTaken rfl ⟨rfl, rfl⟩ ydX8_isTaken ⟨Nat.le_of_ble_eq_true rfl, Nat.le_of_ble_eq_true rfl⟩ ⟨Nat.le_refl 0, Nat.le_refl 0⟩ 0 rfl rfl [] [] rfl _ rfl (Nat.le_of_ble_eq_true rfl) dX8_isFree_131 (w8 cy ad c8_latest c8_asked c8_upper c8_lower c8_legs c8_units c8_rests c8_rates c8_lines c8_came c8_sizes c8_weights c8_growths c8_copied c8_legWay c8_legUnits c8_legStuff c8_unitWay c8_unitStuff c8_xs c8_ys c8_zs c8_kindOf c8_placeOf c8_rateOf c8_readOf c8_isGone c8_theList c8_amounts c8_low c8_high c8_barred c8_times c8_ranges) rfl ?_
              refine r_if_ne (tgt := 141) hC dX8_isFree_134 (by decide) (fun c19 => ?_) (fun c19 => ?_)
              · replace hf := o_neg hf c19
                refine r_sub [(0, .ref (ad 80)), (2, .int p2), (3, .int p3), (4, .int x1), (5, .int x4), (7, .int x9)] [0, 1, 2, 3, 4, 6] rfl ?_
                exact J141_15 hf
              · replace hf := o_pos hf c19
                refine r_iconst hC dX8_isFree_137 ic_1 ?_
                refine r_goto (tgt := 142) hC dX8_isFree_138 (by decide) ?_
                obtain rfl := so_1 hf
                refine r_sub [(0, .ref (ad 80)), (2, .int p2), (3, .int p3), (4, .int x1), (5, .int x4), (7, .int x9)] [0, 1, 2, 3, 4, 6] rfl ?_
                exact J142_13
      refine r_sub [(0, .ref (ad 80)), (2, .int p2), (3, .int p3), (4, .int x1), (5, .int x4), (6, .int x5), (7, .int x7)] [1, 2, 3, 4, 5, 6, 0] rfl ?_
      exact L109 N x5 x7 hf
    have L46 : ∀ (n : Nat) (x20 : Int32) (x21 : Int32), fX8_isFree_L46 N c8_units c8_xs c8_ys c8_zs p2 p3 x1 x4 K102_6 n x20 x21 = some ra → GG X 8 0 0 (w8 cy ad c8_latest c8_asked c8_upper c8_lower c8_legs c8_units c8_rests c8_rates c8_lines c8_came c8_sizes c8_weights c8_growths c8_copied c8_legWay c8_legUnits c8_legStuff c8_unitWay c8_unitStuff c8_xs c8_ys c8_zs c8_kindOf c8_placeOf c8_rateOf c8_readOf c8_isGone c8_theList c8_amounts c8_low c8_high c8_barred c8_times c8_ranges) [(0, .ref (ad 80)), (2, .int p2), (3, .int p3), (4, .int x1), (5, .int x4), (6, .int x20), (7, .int x21)] 46 [] := by
      intro n
      induction n with
      | zero => intro x20 x21 hf; cases (show none = some _ from hf)
      | succ n ih =>
        intro x20 x21 hf
        rw [fX8_isFree_L46] at hf
        refine r_iload hC dX8_isFree_46 6 rfl ?_
        refine r_iload_n hC dX8_isFree_48 rfl 2 rfl ?_
        refine r_icmp_gt (tgt := 102) hC dX8_isFree_49 (by decide) (fun c22 => ?_) (fun c22 => ?_)
        · replace hf := o_pos hf c22
          refine r_sub [(0, .ref (ad 80)), (2, .int p2), (3, .int p3), (4, .int x1), (5, .int x4), (6, .int x20)] [0, 1, 2, 3, 4, 5] rfl ?_
          exact J102_6 x20 hf
        · replace hf := o_neg hf c22
          refine r_iload hC dX8_isFree_52 5 rfl ?_
          obtain ⟨t23, h25, hf⟩ := ob_some hf
          have J94_24 : GG X 8 0 0 (w8 cy ad c8_latest c8_asked c8_upper c8_lower c8_legs c8_units c8_rests c8_rates c8_lines c8_came c8_sizes c8_weights c8_growths c8_copied c8_legWay c8_legUnits c8_legStuff c8_unitWay c8_unitStuff c8_xs c8_ys c8_zs c8_kindOf c8_placeOf c8_rateOf c8_readOf c8_isGone c8_theList c8_amounts c8_low c8_high c8_barred c8_times c8_ranges) [(0, .ref (ad 80)), (2, .int p2), (3, .int p3), (4, .int x1), (5, .int x4), (7, .int x21)] 94 [.int t23] := by
            refine r_istore hC [(6, .int t23), (0, .ref (ad 80)), (2, .int p2), (3, .int p3), (4, .int x1), (5, .int x4), (7, .int x21)] dX8_isFree_94 (by decide) rfl ?_
            refine r_iinc hC [(7, .int (x21 + 1)), (6, .int t23), (0, .ref (ad 80)), (2, .int p2), (3, .int p3), (4, .int x1), (5, .int x4)] (x21 + 1) dX8_isFree_96 6 rfl (ii_1 _) (by decide) rfl ?_
            refine r_goto (tgt := 46) hC dX8_isFree_99 (by decide) ?_
            refine r_sub [(0, .ref (ad 80)), (2, .int p2), (3, .int p3), (4, .int x1), (5, .int x4), (6, .int t23), (7, .int (x21 + 1))] [2, 3, 4, 5, 6, 1, 0] rfl ?_
            exact ih t23 (x21 + 1) hf
          replace hf := h25
          obtain ⟨K93_26, eK93_26, hf⟩ := oj_some hf
          have J93_26 : K93_26 = some t23 → GG X 8 0 0 (w8 cy ad c8_latest c8_asked c8_upper c8_lower c8_legs c8_units c8_rests c8_rates c8_lines c8_came c8_sizes c8_weights c8_growths c8_copied c8_legWay c8_legUnits c8_legStuff c8_unitWay c8_unitStuff c8_xs c8_ys c8_zs c8_kindOf c8_placeOf c8_rateOf c8_readOf c8_isGone c8_theList c8_amounts c8_low c8_high c8_barred c8_times c8_ranges) [(0, .ref (ad 80)), (2, .int p2), (3, .int p3), (4, .int x1), (5, .int x4), (7, .int x21)] 93 [] := by
            intro hf
            replace hf := oa0 eK93_26 hf
            refine r_iconst hC dX8_isFree_93 ic_0 ?_
            obtain rfl := so_1 hf
            exact J94_24
          refine r_if_eq (tgt := 93) hC dX8_isFree_54 (by decide) (fun c27 => ?_) (fun c27 => ?_)
          · replace hf := o_pos hf c27
            refine r_sub [(0, .ref (ad 80)), (2, .int p2), (3, .int p3), (4, .int x1), (5, .int x4), (7, .int x21)] [0, 1, 2, 3, 4, 6] rfl ?_
            exact J93_26 hf
          · replace hf := o_neg hf c27
            refine r_aload_n hC dX8_isFree_57 rfl 0 rfl ?_
            refine r_iload hC dX8_isFree_58 3 rfl ?_
            refine r_iload hC dX8_isFree_60 4 rfl ?_
            refine r_iadd hC dX8_isFree_62 ?_
            refine r_iload_n hC dX8_isFree_63 rfl 1 rfl ?_
            refine r_iload hC dX8_isFree_64 6 rfl ?_
            obtain ⟨r28, h29, hf⟩ := ob_some hf
            refine r_vi (st := []) hC (kX8_isTaken l D cy ad c8_latest c8_asked c8_upper c8_lower c8_legs c8_units c8_rests c8_rates c8_lines c8_came c8_sizes c8_weights c8_growths c8_copied c8_legWay c8_legUnits c8_legStuff c8_unitWay c8_unitStuff c8_xs c8_ys c8_zs c8_kindOf c8_placeOf c8_rateOf c8_readOf c8_isGone c8_theList c8_amounts c8_low c8_high c8_barred c8_times c8_ranges (x1 + x4) p2 x21 N h29) gX8_isFree_X8_isTaken rfl ⟨rfl, rfl⟩ ydX8_isTaken ⟨Nat.le_of_ble_eq_true rfl, Nat.le_of_ble_eq_true rfl⟩ ⟨Nat.le_refl 0, Nat.le_refl 0⟩ 0 rfl rfl [] [] rfl _ rfl (Nat.le_of_ble_eq_true rfl) dX8_isFree_66 (w8 cy ad c8_latest c8_asked c8_upper c8_lower c8_legs c8_units c8_rests c8_rates c8_lines c8_came c8_sizes c8_weights c8_growths c8_copied c8_legWay c8_legUnits c8_legStuff c8_unitWay c8_unitStuff c8_xs c8_ys c8_zs c8_kindOf c8_placeOf c8_rateOf c8_readOf c8_isGone c8_theList c8_amounts c8_low c8_high c8_barred c8_times c8_ranges) rfl ?_
            refine r_if_ne (tgt := 93) hC dX8_isFree_69 (by decide) (fun c30 => ?_) (fun c30 => ?_)
            · replace hf := o_neg hf c30
              refine r_sub [(0, .ref (ad 80)), (2, .int p2), (3, .int p3), (4, .int x1), (5, .int x4), (7, .int x21)] [0, 1, 2, 3, 4, 6] rfl ?_
              exact J93_26 hf
            · replace hf := o_pos hf c30
              refine r_aload_n hC dX8_isFree_72 rfl 0 rfl ?_
              refine r_iload hC dX8_isFree_73 3 rfl ?_
              refine r_iconst hC dX8_isFree_75 ic_2 ?_
              refine r_iload hC dX8_isFree_76 4 rfl ?_
              refine r_imul hC dX8_isFree_78 ?_
              refine r_iadd hC dX8_isFree_79 ?_
              refine r_iload_n hC dX8_isFree_80 rfl 1 rfl ?_
              refine r_iload hC dX8_isFree_81 6 rfl ?_
              obtain ⟨r31, h32, hf⟩ := ob_some hf
              refine r_vi (st := []) hC (kX8_isTaken l D cy ad c8_latest c8_asked c8_upper c8_lower c8_legs c8_units c8_rests c8_rates c8_lines c8_came c8_sizes c8_weights c8_growths c8_copied c8_legWay c8_legUnits c8_legStuff c8_unitWay c8_unitStuff c8_xs c8_ys c8_zs c8_kindOf c8_placeOf c8_rateOf c8_readOf c8_isGone c8_theList c8_amounts c8_low c8_high c8_barred c8_times c8_ranges (x1 + (2 * x4)) p2 x21 N h32) gX8_isFree_X8_isTaken rfl ⟨rfl, rfl⟩ ydX8_isTaken ⟨Nat.le_of_ble_eq_true rfl, Nat.le_of_ble_eq_true rfl⟩ ⟨Nat.le_refl 0, Nat.le_refl 0⟩ 0 rfl rfl [] [] rfl _ rfl (Nat.le_of_ble_eq_true rfl) dX8_isFree_83 (w8 cy ad c8_latest c8_asked c8_upper c8_lower c8_legs c8_units c8_rests c8_rates c8_lines c8_came c8_sizes c8_weights c8_growths c8_copied c8_legWay c8_legUnits c8_legStuff c8_unitWay c8_unitStuff c8_xs c8_ys c8_zs c8_kindOf c8_placeOf c8_rateOf c8_readOf c8_isGone c8_theList c8_amounts c8_low c8_high c8_barred c8_times c8_ranges) rfl ?_
              refine r_if_ne (tgt := 93) hC dX8_isFree_86 (by decide) (fun c33 => ?_) (fun c33 => ?_)
              · replace hf := o_neg hf c33
                refine r_sub [(0, .ref (ad 80)), (2, .int p2), (3, .int p3), (4, .int x1), (5, .int x4), (7, .int x21)] [0, 1, 2, 3, 4, 6] rfl ?_
                exact J93_26 hf
              · replace hf := o_pos hf c33
                refine r_iconst hC dX8_isFree_89 ic_1 ?_
                refine r_goto (tgt := 94) hC dX8_isFree_90 (by decide) ?_
                obtain rfl := so_1 hf
                refine r_sub [(0, .ref (ad 80)), (2, .int p2), (3, .int p3), (4, .int x1), (5, .int x4), (7, .int x21)] [0, 1, 2, 3, 4, 6] rfl ?_
                exact J94_24
    refine r_sub [(0, .ref (ad 80)), (2, .int p2), (3, .int p3), (4, .int x1), (5, .int x4), (6, .int 1), (7, .int 1)] [3, 5, 6, 7, 2, 1, 0] rfl ?_
    exact L46 N 1 1 hf
  have L6 : ∀ (n : Nat) (x34 : Int32) (x35 : Int32), fX8_isFree_L6 c8_legUnits p1 K30_2 n x34 x35 = some ra → GG X 8 0 0 (w8 cy ad c8_latest c8_asked c8_upper c8_lower c8_legs c8_units c8_rests c8_rates c8_lines c8_came c8_sizes c8_weights c8_growths c8_copied c8_legWay c8_legUnits c8_legStuff c8_unitWay c8_unitStuff c8_xs c8_ys c8_zs c8_kindOf c8_placeOf c8_rateOf c8_readOf c8_isGone c8_theList c8_amounts c8_low c8_high c8_barred c8_times c8_ranges) [(0, .ref (ad 80)), (1, .int p1), (2, .int p2), (3, .int p3), (4, .int x34), (5, .int x35)] 6 [] := by
    intro n
    induction n with
    | zero => intro x34 x35 hf; cases (show none = some _ from hf)
    | succ n ih =>
      intro x34 x35 hf
      rw [fX8_isFree_L6] at hf
      refine r_iload hC dX8_isFree_6 5 rfl ?_
      refine r_iload_n hC dX8_isFree_8 rfl 1 rfl ?_
      refine r_icmp_ge (tgt := 30) hC dX8_isFree_9 (by decide) (fun c36 => ?_) (fun c36 => ?_)
      · replace hf := o_pos hf c36
        refine r_sub [(0, .ref (ad 80)), (1, .int p1), (2, .int p2), (3, .int p3), (4, .int x34)] [0, 1, 2, 3, 4] rfl ?_
        exact J30_2 x34 hf
      · replace hf := o_neg hf c36
        refine r_iload hC dX8_isFree_12 4 rfl ?_
        refine r_aload_n hC dX8_isFree_14 rfl 0 rfl ?_
        refine r_get hC hin8 0 rfl rfl 11 (by decide) rfl hw0 rfl dX8_isFree_15 ?_
        refine r_iload hC dX8_isFree_18 5 rfl ?_
        obtain ⟨g37, hf⟩ := og_some hf
        refine r_iald hC 7 rfl g37 dX8_isFree_20 ?_
        refine r_iadd hC dX8_isFree_21 ?_
        refine r_topi (fun x38 ex38 => ?_)
        replace hf := olet_some hf ex38
        refine r_istore hC [(4, .int x38), (0, .ref (ad 80)), (1, .int p1), (2, .int p2), (3, .int p3), (5, .int x35)] dX8_isFree_22 (by decide) rfl ?_
        refine r_iinc hC [(5, .int (x35 + 1)), (4, .int x38), (0, .ref (ad 80)), (1, .int p1), (2, .int p2), (3, .int p3)] (x35 + 1) dX8_isFree_24 5 rfl (ii_1 _) (by decide) rfl ?_
        refine r_goto (tgt := 6) hC dX8_isFree_27 (by decide) ?_
        refine r_sub [(0, .ref (ad 80)), (1, .int p1), (2, .int p2), (3, .int p3), (4, .int x38), (5, .int (x35 + 1))] [2, 3, 4, 5, 1, 0] rfl ?_
        exact ih x38 (x35 + 1) hf
  refine r_sub [(0, .ref (ad 80)), (1, .int p1), (2, .int p2), (3, .int p3), (4, .int 0), (5, .int 0)] [2, 3, 4, 5, 1, 0] rfl ?_
  exact L6 N 0 0 hf
noncomputable def fX8_loopFor_L3 (N : Nat) (c8_units : Int32) (c8_sizes : Nat → Int32) (c8_growths : Nat → Int32) (c8_legUnits : Nat → Int32) (c8_unitWay : Nat → Int32) (c8_unitStuff : Nat → Int32) (c8_xs : Nat → Int32) (c8_ys : Nat → Int32) (c8_zs : Nat → Int32) (p1 : Int32) (p2 : Int32) (p3 : Int32) (p4 : Int32) : Nat → Int32 → Option (Int32)
  | 0, _ => none
  | n + 1, x1 => (if 20 < x1 then some (-9) else ob (fX8_room N c8_units c8_sizes c8_growths c8_unitWay c8_unitStuff c8_xs c8_ys c8_zs p3 p4 (2 * x1)) (fun (r3 : Int32) => oj (fX8_loopFor_L3 N c8_units c8_sizes c8_growths c8_legUnits c8_unitWay c8_unitStuff c8_xs c8_ys c8_zs p1 p2 p3 p4 n (x1 + 1)) (fun (K38_5 : Option (Int32)) => (if r3 < 0 then K38_5 else ob (fX8_isFree N c8_units c8_legUnits c8_xs c8_ys c8_zs p1 p2 x1) (fun (r7 : Int32) => (if r7 = 0 then K38_5 else some x1))))))
noncomputable def fX8_loopFor (N : Nat) (c8_units : Int32) (c8_sizes : Nat → Int32) (c8_growths : Nat → Int32) (c8_legUnits : Nat → Int32) (c8_unitWay : Nat → Int32) (c8_unitStuff : Nat → Int32) (c8_xs : Nat → Int32) (c8_ys : Nat → Int32) (c8_zs : Nat → Int32) (p1 : Int32) (p2 : Int32) (p3 : Int32) (p4 : Int32) : Option (Int32) := fX8_loopFor_L3 N c8_units c8_sizes c8_growths c8_legUnits c8_unitWay c8_unitStuff c8_xs c8_ys c8_zs p1 p2 p3 p4 N 1
theorem ydX8_loopFor : yX8_loopFor.cls = RX8 ∧ yX8_loopFor.cls ≠ "java/lang/invoke/MethodHandle" ∧ yX8_loopFor.cls ≠ "java/lang/invoke/VarHandle" ∧ (parseMethodDescriptor yX8_loopFor.desc).map (fun d => d.parameters.length) = some 4 := by decide +kernel
set_option maxHeartbeats 8000000 in
set_option maxRecDepth 100000 in
theorem kX8_loopFor (l : Launch) (D : va_G) (cy : Nat → ClassId) (ad : Nat → Nat) (c8_latest : Int32) (c8_asked : Int32) (c8_upper : Int64) (c8_lower : Int64) (c8_legs : Int32) (c8_units : Int32) (c8_rests : Int32) (c8_rates : Int32) (c8_lines : Int32) (c8_came : Nat → Int32) (c8_sizes : Nat → Int32) (c8_weights : Nat → Int32) (c8_growths : Nat → Int32) (c8_copied : Nat → Int32) (c8_legWay : Nat → Int32) (c8_legUnits : Nat → Int32) (c8_legStuff : Nat → Int32) (c8_unitWay : Nat → Int32) (c8_unitStuff : Nat → Int32) (c8_xs : Nat → Int32) (c8_ys : Nat → Int32) (c8_zs : Nat → Int32) (c8_kindOf : Nat → Int32) (c8_placeOf : Nat → Int32) (c8_rateOf : Nat → Int32) (c8_readOf : Nat → Int32) (c8_isGone : Nat → Int32) (c8_theList : Nat → Int32) (c8_amounts : Nat → Int32) (c8_low : Nat → Int32) (c8_high : Nat → Int32) (c8_barred : Nat → Int32) (c8_times : Nat → Int32) (c8_ranges : Nat → Int32) (p1 : Int32) (p2 : Int32) (p3 : Int32) (p4 : Int32) (N : Nat) {ra : Int32} (hf : fX8_loopFor N c8_units c8_sizes c8_growths c8_legUnits c8_unitWay c8_unitStuff c8_xs c8_ys c8_zs p1 p2 p3 p4 = some ra) : CI l D cy yX8_loopFor wsX8_loopFor ({ frames := 3, cells := 0, slots := 0, locals := 76 } : Room) [.ref (ad 80), .int p1, .int p2, .int p3, .int p4] (w8 cy ad c8_latest c8_asked c8_upper c8_lower c8_legs c8_units c8_rests c8_rates c8_lines c8_came c8_sizes c8_weights c8_growths c8_copied c8_legWay c8_legUnits c8_legStuff c8_unitWay c8_unitStuff c8_xs c8_ys c8_zs c8_kindOf c8_placeOf c8_rateOf c8_readOf c8_isGone c8_theList c8_amounts c8_low c8_high c8_barred c8_times c8_ranges) ra (w8 cy ad c8_latest c8_asked c8_upper c8_lower c8_legs c8_units c8_rests c8_rates c8_lines c8_came c8_sizes c8_weights c8_growths c8_copied c8_legWay c8_legUnits c8_legStuff c8_unitWay c8_unitStuff c8_xs c8_ys c8_zs c8_kindOf c8_placeOf c8_rateOf c8_readOf c8_isGone c8_theList c8_amounts c8_low c8_high c8_barred c8_times c8_ranges) := by
  unfold fX8_loopFor at hf
  refine c_of_i (ty := .int) (own := RX8) (by decide) rfl rfl (Nat.le_of_ble_eq_true rfl) (fun X hC hRet => ?_)
  refine r_sub [(0, .ref (ad 80)), (1, .int p1), (2, .int p2), (3, .int p3), (4, .int p4)] [0, 1, 2, 3, 4] rfl ?_
  refine r_iconst hC dX8_loopFor_0 ic_1 ?_
  refine r_istore hC [(5, .int 1), (0, .ref (ad 80)), (1, .int p1), (2, .int p2), (3, .int p3), (4, .int p4)] dX8_loopFor_1 (by decide) rfl ?_
  have L3 : ∀ (n : Nat) (x1 : Int32), fX8_loopFor_L3 N c8_units c8_sizes c8_growths c8_legUnits c8_unitWay c8_unitStuff c8_xs c8_ys c8_zs p1 p2 p3 p4 n x1 = some ra → GG X 6 0 0 (w8 cy ad c8_latest c8_asked c8_upper c8_lower c8_legs c8_units c8_rests c8_rates c8_lines c8_came c8_sizes c8_weights c8_growths c8_copied c8_legWay c8_legUnits c8_legStuff c8_unitWay c8_unitStuff c8_xs c8_ys c8_zs c8_kindOf c8_placeOf c8_rateOf c8_readOf c8_isGone c8_theList c8_amounts c8_low c8_high c8_barred c8_times c8_ranges) [(0, .ref (ad 80)), (1, .int p1), (2, .int p2), (3, .int p3), (4, .int p4), (5, .int x1)] 3 [] := by
    intro n
    induction n with
    | zero => intro x1 hf; cases (show none = some _ from hf)
    | succ n ih =>
      intro x1 hf
      rw [fX8_loopFor_L3] at hf
      refine r_iload hC dX8_loopFor_3 5 rfl ?_
      refine r_bipush hC dX8_loopFor_5 bp_20 ?_
      refine r_icmp_gt (tgt := 44) hC dX8_loopFor_7 (by decide) (fun c2 => ?_) (fun c2 => ?_)
      · replace hf := o_pos hf c2
        refine r_bipush hC dX8_loopFor_44 bp_m9 ?_
        obtain rfl := so_1 hf
        exact hRet _ _ _ dX8_loopFor_46 rfl
      · replace hf := o_neg hf c2
        refine r_aload_n hC dX8_loopFor_10 rfl 0 rfl ?_
        refine r_iload_n hC dX8_loopFor_11 rfl 3 rfl ?_
        refine r_iload hC dX8_loopFor_12 4 rfl ?_
        refine r_iconst hC dX8_loopFor_14 ic_2 ?_
        refine r_iload hC dX8_loopFor_15 5 rfl ?_
        refine r_imul hC dX8_loopFor_17 ?_
        obtain ⟨r3, h4, hf⟩ := ob_some hf
        refine r_vi (st := []) hC (kX8_room l D cy ad c8_latest c8_asked c8_upper c8_lower c8_legs c8_units c8_rests c8_rates c8_lines c8_came c8_sizes c8_weights c8_growths c8_copied c8_legWay c8_legUnits c8_legStuff c8_unitWay c8_unitStuff c8_xs c8_ys c8_zs c8_kindOf c8_placeOf c8_rateOf c8_readOf c8_isGone c8_theList c8_amounts c8_low c8_high c8_barred c8_times c8_ranges p3 p4 (2 * x1) N h4) gX8_loopFor_X8_room rfl ⟨rfl, rfl⟩ ydX8_room ⟨Nat.le_of_ble_eq_true rfl, Nat.le_of_ble_eq_true rfl⟩ ⟨Nat.le_refl 0, Nat.le_refl 0⟩ 0 rfl rfl [] [] rfl _ rfl (Nat.le_of_ble_eq_true rfl) dX8_loopFor_18 (w8 cy ad c8_latest c8_asked c8_upper c8_lower c8_legs c8_units c8_rests c8_rates c8_lines c8_came c8_sizes c8_weights c8_growths c8_copied c8_legWay c8_legUnits c8_legStuff c8_unitWay c8_unitStuff c8_xs c8_ys c8_zs c8_kindOf c8_placeOf c8_rateOf c8_readOf c8_isGone c8_theList c8_amounts c8_low c8_high c8_barred c8_times c8_ranges) rfl ?_
        obtain ⟨K38_5, eK38_5, hf⟩ := oj_some hf
        have J38_5 : K38_5 = some ra → GG X 6 0 0 (w8 cy ad c8_latest c8_asked c8_upper c8_lower c8_legs c8_units c8_rests c8_rates c8_lines c8_came c8_sizes c8_weights c8_growths c8_copied c8_legWay c8_legUnits c8_legStuff c8_unitWay c8_unitStuff c8_xs c8_ys c8_zs c8_kindOf c8_placeOf c8_rateOf c8_readOf c8_isGone c8_theList c8_amounts c8_low c8_high c8_barred c8_times c8_ranges) [(0, .ref (ad 80)), (1, .int p1), (2, .int p2), (3, .int p3), (4, .int p4), (5, .int x1)] 38 [] := by
          intro hf
          replace hf := oa0 eK38_5 hf
          refine r_iinc hC [(5, .int (x1 + 1)), (0, .ref (ad 80)), (1, .int p1), (2, .int p2), (3, .int p3), (4, .int p4)] (x1 + 1) dX8_loopFor_38 5 rfl (ii_1 _) (by decide) rfl ?_
          refine r_goto (tgt := 3) hC dX8_loopFor_41 (by decide) ?_
          refine r_sub [(0, .ref (ad 80)), (1, .int p1), (2, .int p2), (3, .int p3), (4, .int p4), (5, .int (x1 + 1))] [1, 2, 3, 4, 5, 0] rfl ?_
          exact ih (x1 + 1) hf
        refine r_if_lt (tgt := 38) hC dX8_loopFor_21 (by decide) (fun c6 => ?_) (fun c6 => ?_)
        · replace hf := o_pos hf c6
          exact J38_5 hf
        · replace hf := o_neg hf c6
          refine r_aload_n hC dX8_loopFor_24 rfl 0 rfl ?_
          refine r_iload_n hC dX8_loopFor_25 rfl 1 rfl ?_
          refine r_iload_n hC dX8_loopFor_26 rfl 2 rfl ?_
          refine r_iload hC dX8_loopFor_27 5 rfl ?_
          obtain ⟨r7, h8, hf⟩ := ob_some hf
          refine r_vi (st := []) hC (kX8_isFree l D cy ad c8_latest c8_asked c8_upper c8_lower c8_legs c8_units c8_rests c8_rates c8_lines c8_came c8_sizes c8_weights c8_growths c8_copied c8_legWay c8_legUnits c8_legStuff c8_unitWay c8_unitStuff c8_xs c8_ys c8_zs c8_kindOf c8_placeOf c8_rateOf c8_readOf c8_isGone c8_theList c8_amounts c8_low c8_high c8_barred c8_times c8_ranges p1 p2 x1 N h8) gX8_loopFor_X8_isFree rfl ⟨rfl, rfl⟩ ydX8_isFree ⟨Nat.le_of_ble_eq_true rfl, Nat.le_of_ble_eq_true rfl⟩ ⟨Nat.le_refl 0, Nat.le_refl 0⟩ 0 rfl rfl [] [] rfl _ rfl (Nat.le_of_ble_eq_true rfl) dX8_loopFor_29 (w8 cy ad c8_latest c8_asked c8_upper c8_lower c8_legs c8_units c8_rests c8_rates c8_lines c8_came c8_sizes c8_weights c8_growths c8_copied c8_legWay c8_legUnits c8_legStuff c8_unitWay c8_unitStuff c8_xs c8_ys c8_zs c8_kindOf c8_placeOf c8_rateOf c8_readOf c8_isGone c8_theList c8_amounts c8_low c8_high c8_barred c8_times c8_ranges) rfl ?_
          refine r_if_eq (tgt := 38) hC dX8_loopFor_32 (by decide) (fun c9 => ?_) (fun c9 => ?_)
          · replace hf := o_pos hf c9
            exact J38_5 hf
          · replace hf := o_neg hf c9
            refine r_iload hC dX8_loopFor_35 5 rfl ?_
            obtain rfl := so_1 hf
            exact hRet _ _ _ dX8_loopFor_37 rfl
  refine r_sub [(0, .ref (ad 80)), (1, .int p1), (2, .int p2), (3, .int p3), (4, .int p4), (5, .int 1)] [1, 2, 3, 4, 5, 0] rfl ?_
  exact L3 N 1 hf
noncomputable def fX8_loop (N : Nat) (c8_legs : Int32) (c8_units : Int32) (c8_sizes : Nat → Int32) (c8_growths : Nat → Int32) (c8_legWay : Nat → Int32) (c8_legUnits : Nat → Int32) (c8_unitWay : Nat → Int32) (c8_unitStuff : Nat → Int32) (c8_xs : Nat → Int32) (c8_ys : Nat → Int32) (c8_zs : Nat → Int32) (p1 : Int32) (p2 : Int32) (p3 : Int32) (p4 : Int32) : Option (Int32) := ob (fX8_in p1 0 (c8_legs - 1)) (fun (r1 : Int32) => (if r1 = 0 then some (-1) else ob (fX8_in p2 0 5) (fun (r4 : Int32) => (if r4 = 0 then some (-1) else og (vp_in p1 12) ((if (p2 / 2) = ((c8_legWay (Int32.toNatClampNeg p1)) / 2) then some (-1) else ob (fX8_isStep p3) (fun (r9 : Int32) => (if r9 = 0 then some (-1) else ob (fX8_in p4 1 100) (fun (r12 : Int32) => (if r12 = 0 then some (-1) else og (vp_in p1 12) ((if 3 ≤ (c8_legUnits (Int32.toNatClampNeg p1)) then ob (fX8_loopFor N c8_units c8_sizes c8_growths c8_legUnits c8_unitWay c8_unitStuff c8_xs c8_ys c8_zs p1 p2 p3 p4) (fun (r17 : Int32) => some r17) else some (-4)))))))))))))
theorem ydX8_loop : yX8_loop.cls = RX8 ∧ yX8_loop.cls ≠ "java/lang/invoke/MethodHandle" ∧ yX8_loop.cls ≠ "java/lang/invoke/VarHandle" ∧ (parseMethodDescriptor yX8_loop.desc).map (fun d => d.parameters.length) = some 4 := by decide +kernel
set_option maxHeartbeats 8000000 in
set_option maxRecDepth 100000 in
theorem kX8_loop (l : Launch) (D : va_G) (cy : Nat → ClassId) (ad : Nat → Nat) (c8_latest : Int32) (c8_asked : Int32) (c8_upper : Int64) (c8_lower : Int64) (c8_legs : Int32) (c8_units : Int32) (c8_rests : Int32) (c8_rates : Int32) (c8_lines : Int32) (c8_came : Nat → Int32) (c8_sizes : Nat → Int32) (c8_weights : Nat → Int32) (c8_growths : Nat → Int32) (c8_copied : Nat → Int32) (c8_legWay : Nat → Int32) (c8_legUnits : Nat → Int32) (c8_legStuff : Nat → Int32) (c8_unitWay : Nat → Int32) (c8_unitStuff : Nat → Int32) (c8_xs : Nat → Int32) (c8_ys : Nat → Int32) (c8_zs : Nat → Int32) (c8_kindOf : Nat → Int32) (c8_placeOf : Nat → Int32) (c8_rateOf : Nat → Int32) (c8_readOf : Nat → Int32) (c8_isGone : Nat → Int32) (c8_theList : Nat → Int32) (c8_amounts : Nat → Int32) (c8_low : Nat → Int32) (c8_high : Nat → Int32) (c8_barred : Nat → Int32) (c8_times : Nat → Int32) (c8_ranges : Nat → Int32) (p1 : Int32) (p2 : Int32) (p3 : Int32) (p4 : Int32) (N : Nat) {ra : Int32} (hf : fX8_loop N c8_legs c8_units c8_sizes c8_growths c8_legWay c8_legUnits c8_unitWay c8_unitStuff c8_xs c8_ys c8_zs p1 p2 p3 p4 = some ra) : CI l D cy yX8_loop wsX8_loop ({ frames := 4, cells := 0, slots := 0, locals := 101 } : Room) [.ref (ad 80), .int p1, .int p2, .int p3, .int p4] (w8 cy ad c8_latest c8_asked c8_upper c8_lower c8_legs c8_units c8_rests c8_rates c8_lines c8_came c8_sizes c8_weights c8_growths c8_copied c8_legWay c8_legUnits c8_legStuff c8_unitWay c8_unitStuff c8_xs c8_ys c8_zs c8_kindOf c8_placeOf c8_rateOf c8_readOf c8_isGone c8_theList c8_amounts c8_low c8_high c8_barred c8_times c8_ranges) ra (w8 cy ad c8_latest c8_asked c8_upper c8_lower c8_legs c8_units c8_rests c8_rates c8_lines c8_came c8_sizes c8_weights c8_growths c8_copied c8_legWay c8_legUnits c8_legStuff c8_unitWay c8_unitStuff c8_xs c8_ys c8_zs c8_kindOf c8_placeOf c8_rateOf c8_readOf c8_isGone c8_theList c8_amounts c8_low c8_high c8_barred c8_times c8_ranges) := by
  unfold fX8_loop at hf
  refine c_of_i (ty := .int) (own := RX8) (by decide) rfl rfl (Nat.le_of_ble_eq_true rfl) (fun X hC hRet => ?_)
  refine r_sub [(0, .ref (ad 80)), (1, .int p1), (2, .int p2), (3, .int p3), (4, .int p4)] [0, 1, 2, 3, 4] rfl ?_
  have hin8 : ∀ w ∈ wsX80, w ∈ wsX8_loop := fun w h => List.mem_cons_of_mem _ (List.mem_append_right _ h)
  have hw0 : Cond.fieldLink RX8 116 "HotPipesModel" "legs" "I" ∈ wsX8_loop := List.mem_of_getElem? (i := 1) rfl
  have hw1 : Cond.fieldLink RX8 26 "HotPipesModel" "legWay" "[I" ∈ wsX8_loop := List.mem_of_getElem? (i := 2) rfl
  have hw2 : Cond.fieldLink RX8 29 "HotPipesModel" "legUnits" "[I" ∈ wsX8_loop := List.mem_of_getElem? (i := 3) rfl
  refine r_iload_n hC dX8_loop_0 rfl 1 rfl ?_
  refine r_iconst hC dX8_loop_1 ic_0 ?_
  refine r_aload_n hC dX8_loop_2 rfl 0 rfl ?_
  refine r_get hC hin8 0 rfl rfl 9 (by decide) rfl hw0 rfl dX8_loop_3 ?_
  refine r_iconst hC dX8_loop_6 ic_1 ?_
  refine r_isub hC dX8_loop_7 ?_
  obtain ⟨r1, h2, hf⟩ := ob_some hf
  refine r_si (st := []) hC (kX8_in l D cy p1 0 (c8_legs - 1) h2) gX8_loop_X8_in rfl ⟨rfl, rfl⟩ ydX8_in ⟨Nat.le_of_ble_eq_true rfl, Nat.le_of_ble_eq_true rfl⟩ ⟨Nat.le_refl 0, Nat.le_refl 0⟩ _ rfl (Nat.le_of_ble_eq_true rfl) dX8_loop_8 ?_
  refine r_if_eq (tgt := 55) hC dX8_loop_11 (by decide) (fun c3 => ?_) (fun c3 => ?_)
  · replace hf := o_pos hf c3
    refine r_iconst hC dX8_loop_55 ic_m1 ?_
    obtain rfl := so_1 hf
    exact hRet _ _ _ dX8_loop_56 rfl
  · replace hf := o_neg hf c3
    refine r_iload_n hC dX8_loop_14 rfl 2 rfl ?_
    refine r_iconst hC dX8_loop_15 ic_0 ?_
    refine r_iconst hC dX8_loop_16 ic_5 ?_
    obtain ⟨r4, h5, hf⟩ := ob_some hf
    refine r_si (st := []) hC (kX8_in l D cy p2 0 5 h5) gX8_loop_X8_in rfl ⟨rfl, rfl⟩ ydX8_in ⟨Nat.le_of_ble_eq_true rfl, Nat.le_of_ble_eq_true rfl⟩ ⟨Nat.le_refl 0, Nat.le_refl 0⟩ _ rfl (Nat.le_of_ble_eq_true rfl) dX8_loop_17 ?_
    refine r_if_eq (tgt := 55) hC dX8_loop_20 (by decide) (fun c6 => ?_) (fun c6 => ?_)
    · replace hf := o_pos hf c6
      refine r_iconst hC dX8_loop_55 ic_m1 ?_
      obtain rfl := so_1 hf
      exact hRet _ _ _ dX8_loop_56 rfl
    · replace hf := o_neg hf c6
      refine r_iload_n hC dX8_loop_23 rfl 2 rfl ?_
      refine r_iconst hC dX8_loop_24 ic_2 ?_
      refine r_idiv hC dX8_loop_25 (by decide) ?_
      refine r_aload_n hC dX8_loop_26 rfl 0 rfl ?_
      refine r_get hC hin8 0 rfl rfl 10 (by decide) rfl hw1 rfl dX8_loop_27 ?_
      refine r_iload_n hC dX8_loop_30 rfl 1 rfl ?_
      obtain ⟨g7, hf⟩ := og_some hf
      refine r_iald hC 6 rfl g7 dX8_loop_31 ?_
      refine r_iconst hC dX8_loop_32 ic_2 ?_
      refine r_idiv hC dX8_loop_33 (by decide) ?_
      refine r_icmp_eq (tgt := 55) hC dX8_loop_34 (by decide) (fun c8 => ?_) (fun c8 => ?_)
      · replace hf := o_pos hf c8
        refine r_iconst hC dX8_loop_55 ic_m1 ?_
        obtain rfl := so_1 hf
        exact hRet _ _ _ dX8_loop_56 rfl
      · replace hf := o_neg hf c8
        refine r_iload_n hC dX8_loop_37 rfl 3 rfl ?_
        obtain ⟨r9, h10, hf⟩ := ob_some hf
        refine r_si (st := []) hC (kX8_isStep l D cy p3 h10) gX8_loop_X8_isStep rfl ⟨rfl, rfl⟩ ydX8_isStep ⟨Nat.le_of_ble_eq_true rfl, Nat.le_of_ble_eq_true rfl⟩ ⟨Nat.le_refl 0, Nat.le_refl 0⟩ _ rfl (Nat.le_of_ble_eq_true rfl) dX8_loop_38 ?_
        refine r_if_eq (tgt := 55) hC dX8_loop_41 (by decide) (fun c11 => ?_) (fun c11 => ?_)
        · replace hf := o_pos hf c11
          refine r_iconst hC dX8_loop_55 ic_m1 ?_
          obtain rfl := so_1 hf
          exact hRet _ _ _ dX8_loop_56 rfl
        · replace hf := o_neg hf c11
          refine r_iload hC dX8_loop_44 4 rfl ?_
          refine r_iconst hC dX8_loop_46 ic_1 ?_
          refine r_bipush hC dX8_loop_47 bp_100 ?_
          obtain ⟨r12, h13, hf⟩ := ob_some hf
          refine r_si (st := []) hC (kX8_in l D cy p4 1 100 h13) gX8_loop_X8_in rfl ⟨rfl, rfl⟩ ydX8_in ⟨Nat.le_of_ble_eq_true rfl, Nat.le_of_ble_eq_true rfl⟩ ⟨Nat.le_refl 0, Nat.le_refl 0⟩ _ rfl (Nat.le_of_ble_eq_true rfl) dX8_loop_49 ?_
          refine r_if_ne (tgt := 57) hC dX8_loop_52 (by decide) (fun c14 => ?_) (fun c14 => ?_)
          · replace hf := o_neg hf c14
            refine r_aload_n hC dX8_loop_57 rfl 0 rfl ?_
            refine r_get hC hin8 0 rfl rfl 11 (by decide) rfl hw2 rfl dX8_loop_58 ?_
            refine r_iload_n hC dX8_loop_61 rfl 1 rfl ?_
            obtain ⟨g15, hf⟩ := og_some hf
            refine r_iald hC 7 rfl g15 dX8_loop_62 ?_
            refine r_iconst hC dX8_loop_63 ic_3 ?_
            refine r_icmp_ge (tgt := 72) hC dX8_loop_64 (by decide) (fun c16 => ?_) (fun c16 => ?_)
            · replace hf := o_pos hf c16
              refine r_aload_n hC dX8_loop_72 rfl 0 rfl ?_
              refine r_iload_n hC dX8_loop_73 rfl 1 rfl ?_
              refine r_iload_n hC dX8_loop_74 rfl 2 rfl ?_
              refine r_iload_n hC dX8_loop_75 rfl 3 rfl ?_
              refine r_iload hC dX8_loop_76 4 rfl ?_
              obtain ⟨r17, h18, hf⟩ := ob_some hf
              refine r_vi (st := []) hC (kX8_loopFor l D cy ad c8_latest c8_asked c8_upper c8_lower c8_legs c8_units c8_rests c8_rates c8_lines c8_came c8_sizes c8_weights c8_growths c8_copied c8_legWay c8_legUnits c8_legStuff c8_unitWay c8_unitStuff c8_xs c8_ys c8_zs c8_kindOf c8_placeOf c8_rateOf c8_readOf c8_isGone c8_theList c8_amounts c8_low c8_high c8_barred c8_times c8_ranges p1 p2 p3 p4 N h18) gX8_loop_X8_loopFor rfl ⟨rfl, rfl⟩ ydX8_loopFor ⟨Nat.le_of_ble_eq_true rfl, Nat.le_of_ble_eq_true rfl⟩ ⟨Nat.le_refl 0, Nat.le_refl 0⟩ 0 rfl rfl [] [] rfl _ rfl (Nat.le_of_ble_eq_true rfl) dX8_loop_78 (w8 cy ad c8_latest c8_asked c8_upper c8_lower c8_legs c8_units c8_rests c8_rates c8_lines c8_came c8_sizes c8_weights c8_growths c8_copied c8_legWay c8_legUnits c8_legStuff c8_unitWay c8_unitStuff c8_xs c8_ys c8_zs c8_kindOf c8_placeOf c8_rateOf c8_readOf c8_isGone c8_theList c8_amounts c8_low c8_high c8_barred c8_times c8_ranges) rfl ?_
              obtain rfl := so_1 hf
              exact hRet _ _ _ dX8_loop_81 rfl
            · replace hf := o_neg hf c16
              refine r_bipush hC dX8_loop_67 bp_m4 ?_
              refine r_goto (tgt := 81) hC dX8_loop_69 (by decide) ?_
              obtain rfl := so_1 hf
              exact hRet _ _ _ dX8_loop_81 rfl
          · replace hf := o_pos hf c14
            refine r_iconst hC dX8_loop_55 ic_m1 ?_
            obtain rfl := so_1 hf
            exact hRet _ _ _ dX8_loop_56 rfl
noncomputable def fX8_bestLoop_L53 (N : Nat) (c8_units : Int32) (c8_sizes : Nat → Int32) (c8_growths : Nat → Int32) (c8_legWay : Nat → Int32) (c8_legUnits : Nat → Int32) (c8_unitWay : Nat → Int32) (c8_unitStuff : Nat → Int32) (c8_xs : Nat → Int32) (c8_ys : Nat → Int32) (c8_zs : Nat → Int32) (p1 : Int32) (p2 : Int32) (x19 : Int32) (K141_24 : Int32 → Int32 → Int32 → Option (Int32 × Int32)) : Nat → Int32 → Int32 → Int32 → Int32 → Option (Int32 × Int32)
  | 0, _, _, _, _ => none
  | n + 1, x25, x26, x27, x28 => (if 6 ≤ x28 then K141_24 x25 x26 x27 else og (vp_in x19 12) (ob (oj (some (-9)) (fun (K87_43 : Option (Int32)) => (if (x28 / 2) = ((c8_legWay (Int32.toNatClampNeg x19)) / 2) then K87_43 else og (vp_in x19 12) ((if 3 ≤ (c8_legUnits (Int32.toNatClampNeg x19)) then ob (fX8_loopFor N c8_units c8_sizes c8_growths c8_legUnits c8_unitWay c8_unitStuff c8_xs c8_ys c8_zs x19 x28 p1 p2) (fun (r47 : Int32) => some r47) else K87_43))))) (fun (t31 : Int32) => ob3 ((if t31 = (-9) then some (x25, x26, x27) else oj (some (x19, t31, x28)) (fun (K124_38 : Option (Int32 × Int32 × Int32)) => (if x25 = (-9) then K124_38 else (if x26 ≤ t31 then some (x25, x26, x27) else K124_38))))) (fun (x32 : Int32) (x33 : Int32) (x34 : Int32) => fX8_bestLoop_L53 N c8_units c8_sizes c8_growths c8_legWay c8_legUnits c8_unitWay c8_unitStuff c8_xs c8_ys c8_zs p1 p2 x19 K141_24 n x32 x33 x34 (x28 + 1)))))
noncomputable def fX8_bestLoop_L41 (N : Nat) (c8_legs : Int32) (c8_units : Int32) (c8_sizes : Nat → Int32) (c8_growths : Nat → Int32) (c8_legWay : Nat → Int32) (c8_legUnits : Nat → Int32) (c8_unitWay : Nat → Int32) (c8_unitStuff : Nat → Int32) (c8_xs : Nat → Int32) (c8_ys : Nat → Int32) (c8_zs : Nat → Int32) (p1 : Int32) (p2 : Int32) (K147_11 : Int32 → Int32 → Int32 → Option (Int32 × Int32)) : Nat → Int32 → Int32 → Int32 → Int32 → Option (Int32 × Int32)
  | 0, _, _, _, _ => none
  | n + 1, x16, x17, x18, x19 => (if c8_legs ≤ x19 then K147_11 x16 x17 x18 else oj (fun (x21 : Int32) (x22 : Int32) (x23 : Int32) => fX8_bestLoop_L41 N c8_legs c8_units c8_sizes c8_growths c8_legWay c8_legUnits c8_unitWay c8_unitStuff c8_xs c8_ys c8_zs p1 p2 K147_11 n x21 x22 x23 (x19 + 1)) (fun (K141_24 : Int32 → Int32 → Int32 → Option (Int32 × Int32)) => fX8_bestLoop_L53 N c8_units c8_sizes c8_growths c8_legWay c8_legUnits c8_unitWay c8_unitStuff c8_xs c8_ys c8_zs p1 p2 x19 K141_24 N x16 x17 x18 0))
noncomputable def fX8_bestLoop (N : Nat) (c8_asked : Int32) (c8_legs : Int32) (c8_units : Int32) (c8_sizes : Nat → Int32) (c8_growths : Nat → Int32) (c8_legWay : Nat → Int32) (c8_legUnits : Nat → Int32) (c8_unitWay : Nat → Int32) (c8_unitStuff : Nat → Int32) (c8_xs : Nat → Int32) (c8_ys : Nat → Int32) (c8_zs : Nat → Int32) (p1 : Int32) (p2 : Int32) : Option (Int32 × Int32) := ob (fX8_isStep p1) (fun (r1 : Int32) => (if r1 = 0 then some ((-1), c8_asked) else ob (fX8_in p2 1 100) (fun (r4 : Int32) => (if r4 = 0 then some ((-1), c8_asked) else (if c8_legs = 0 then some ((-4), c8_asked) else oj (fun (x8 : Int32) (x9 : Int32) (x10 : Int32) => (if x8 = (-9) then some ((-9), c8_asked) else ob2 (fX8_tells c8_asked (x9 + (100 * x10)) x8) (fun (r13 : Int32) (s14 : Int32) => some (r13, s14)))) (fun (K147_11 : Int32 → Int32 → Int32 → Option (Int32 × Int32)) => fX8_bestLoop_L41 N c8_legs c8_units c8_sizes c8_growths c8_legWay c8_legUnits c8_unitWay c8_unitStuff c8_xs c8_ys c8_zs p1 p2 K147_11 N (-9) 0 0 0))))))
theorem ydX8_bestLoop : yX8_bestLoop.cls = RX8 ∧ yX8_bestLoop.cls ≠ "java/lang/invoke/MethodHandle" ∧ yX8_bestLoop.cls ≠ "java/lang/invoke/VarHandle" ∧ (parseMethodDescriptor yX8_bestLoop.desc).map (fun d => d.parameters.length) = some 2 := by decide +kernel
set_option maxHeartbeats 8000000 in
set_option maxRecDepth 100000 in
theorem kX8_bestLoop (l : Launch) (D : va_G) (cy : Nat → ClassId) (ad : Nat → Nat) (c8_latest : Int32) (c8_asked : Int32) (c8_upper : Int64) (c8_lower : Int64) (c8_legs : Int32) (c8_units : Int32) (c8_rests : Int32) (c8_rates : Int32) (c8_lines : Int32) (c8_came : Nat → Int32) (c8_sizes : Nat → Int32) (c8_weights : Nat → Int32) (c8_growths : Nat → Int32) (c8_copied : Nat → Int32) (c8_legWay : Nat → Int32) (c8_legUnits : Nat → Int32) (c8_legStuff : Nat → Int32) (c8_unitWay : Nat → Int32) (c8_unitStuff : Nat → Int32) (c8_xs : Nat → Int32) (c8_ys : Nat → Int32) (c8_zs : Nat → Int32) (c8_kindOf : Nat → Int32) (c8_placeOf : Nat → Int32) (c8_rateOf : Nat → Int32) (c8_readOf : Nat → Int32) (c8_isGone : Nat → Int32) (c8_theList : Nat → Int32) (c8_amounts : Nat → Int32) (c8_low : Nat → Int32) (c8_high : Nat → Int32) (c8_barred : Nat → Int32) (c8_times : Nat → Int32) (c8_ranges : Nat → Int32) (p1 : Int32) (p2 : Int32) (N : Nat) {ra : Int32} {z8_asked : Int32} (hf : fX8_bestLoop N c8_asked c8_legs c8_units c8_sizes c8_growths c8_legWay c8_legUnits c8_unitWay c8_unitStuff c8_xs c8_ys c8_zs p1 p2 = some (ra, z8_asked)) : CI l D cy yX8_bestLoop wsX8_bestLoop ({ frames := 4, cells := 0, slots := 0, locals := 101 } : Room) [.ref (ad 80), .int p1, .int p2] (w8 cy ad c8_latest c8_asked c8_upper c8_lower c8_legs c8_units c8_rests c8_rates c8_lines c8_came c8_sizes c8_weights c8_growths c8_copied c8_legWay c8_legUnits c8_legStuff c8_unitWay c8_unitStuff c8_xs c8_ys c8_zs c8_kindOf c8_placeOf c8_rateOf c8_readOf c8_isGone c8_theList c8_amounts c8_low c8_high c8_barred c8_times c8_ranges) ra (w8 cy ad c8_latest z8_asked c8_upper c8_lower c8_legs c8_units c8_rests c8_rates c8_lines c8_came c8_sizes c8_weights c8_growths c8_copied c8_legWay c8_legUnits c8_legStuff c8_unitWay c8_unitStuff c8_xs c8_ys c8_zs c8_kindOf c8_placeOf c8_rateOf c8_readOf c8_isGone c8_theList c8_amounts c8_low c8_high c8_barred c8_times c8_ranges) := by
  unfold fX8_bestLoop at hf
  refine c_of_i (ty := .int) (own := RX8) (by decide) rfl rfl (Nat.le_of_ble_eq_true rfl) (fun X hC hRet => ?_)
  refine r_sub [(0, .ref (ad 80)), (1, .int p1), (2, .int p2)] [0, 1, 2] rfl ?_
  have hin8 : ∀ w ∈ wsX80, w ∈ wsX8_bestLoop := fun w h => List.mem_cons_of_mem _ (List.mem_append_right _ h)
  have hw0 : Cond.fieldLink RX8 116 "HotPipesModel" "legs" "I" ∈ wsX8_bestLoop := List.mem_of_getElem? (i := 1) rfl
  have hw1 : Cond.fieldLink RX8 26 "HotPipesModel" "legWay" "[I" ∈ wsX8_bestLoop := List.mem_of_getElem? (i := 2) rfl
  have hw2 : Cond.fieldLink RX8 29 "HotPipesModel" "legUnits" "[I" ∈ wsX8_bestLoop := List.mem_of_getElem? (i := 3) rfl
  refine r_iload_n hC dX8_bestLoop_0 rfl 1 rfl ?_
  obtain ⟨r1, h2, hf⟩ := ob_some hf
  refine r_si (st := []) hC (kX8_isStep l D cy p1 h2) gX8_bestLoop_X8_isStep rfl ⟨rfl, rfl⟩ ydX8_isStep ⟨Nat.le_of_ble_eq_true rfl, Nat.le_of_ble_eq_true rfl⟩ ⟨Nat.le_refl 0, Nat.le_refl 0⟩ _ rfl (Nat.le_of_ble_eq_true rfl) dX8_bestLoop_1 ?_
  refine r_if_eq (tgt := 17) hC dX8_bestLoop_4 (by decide) (fun c3 => ?_) (fun c3 => ?_)
  · replace hf := o_pos hf c3
    refine r_iconst hC dX8_bestLoop_17 ic_m1 ?_
    obtain ⟨rfl, rfl⟩ := so_2 hf
    exact hRet _ _ _ dX8_bestLoop_18 rfl
  · replace hf := o_neg hf c3
    refine r_iload_n hC dX8_bestLoop_7 rfl 2 rfl ?_
    refine r_iconst hC dX8_bestLoop_8 ic_1 ?_
    refine r_bipush hC dX8_bestLoop_9 bp_100 ?_
    obtain ⟨r4, h5, hf⟩ := ob_some hf
    refine r_si (st := []) hC (kX8_in l D cy p2 1 100 h5) gX8_bestLoop_X8_in rfl ⟨rfl, rfl⟩ ydX8_in ⟨Nat.le_of_ble_eq_true rfl, Nat.le_of_ble_eq_true rfl⟩ ⟨Nat.le_refl 0, Nat.le_refl 0⟩ _ rfl (Nat.le_of_ble_eq_true rfl) dX8_bestLoop_11 ?_
    refine r_if_ne (tgt := 19) hC dX8_bestLoop_14 (by decide) (fun c6 => ?_) (fun c6 => ?_)
    · replace hf := o_neg hf c6
      refine r_aload_n hC dX8_bestLoop_19 rfl 0 rfl ?_
      refine r_get hC hin8 0 rfl rfl 9 (by decide) rfl hw0 rfl dX8_bestLoop_20 ?_
      refine r_if_ne (tgt := 29) hC dX8_bestLoop_23 (by decide) (fun c7 => ?_) (fun c7 => ?_)
      · replace hf := o_neg hf c7
        refine r_bipush hC dX8_bestLoop_29 bp_m9 ?_
        refine r_istore_n hC [(3, .int (-9)), (0, .ref (ad 80)), (1, .int p1), (2, .int p2)] dX8_bestLoop_31 rfl (by decide) rfl ?_
        refine r_iconst hC dX8_bestLoop_32 ic_0 ?_
        refine r_istore hC [(4, .int 0), (3, .int (-9)), (0, .ref (ad 80)), (1, .int p1), (2, .int p2)] dX8_bestLoop_33 (by decide) rfl ?_
        refine r_iconst hC dX8_bestLoop_35 ic_0 ?_
        refine r_istore hC [(5, .int 0), (4, .int 0), (3, .int (-9)), (0, .ref (ad 80)), (1, .int p1), (2, .int p2)] dX8_bestLoop_36 (by decide) rfl ?_
        refine r_iconst hC dX8_bestLoop_38 ic_0 ?_
        refine r_istore hC [(6, .int 0), (5, .int 0), (4, .int 0), (3, .int (-9)), (0, .ref (ad 80)), (1, .int p1), (2, .int p2)] dX8_bestLoop_39 (by decide) rfl ?_
        obtain ⟨K147_11, eK147_11, hf⟩ := oj_some hf
        have J147_11 : ∀ (x8 : Int32) (x9 : Int32) (x10 : Int32), K147_11 x8 x9 x10 = some (ra, z8_asked) → GG X 9 0 0 (w8 cy ad c8_latest c8_asked c8_upper c8_lower c8_legs c8_units c8_rests c8_rates c8_lines c8_came c8_sizes c8_weights c8_growths c8_copied c8_legWay c8_legUnits c8_legStuff c8_unitWay c8_unitStuff c8_xs c8_ys c8_zs c8_kindOf c8_placeOf c8_rateOf c8_readOf c8_isGone c8_theList c8_amounts c8_low c8_high c8_barred c8_times c8_ranges) [(0, .ref (ad 80)), (3, .int x8), (4, .int x9), (5, .int x10)] 147 [] := by
          intro x8 x9 x10 hf
          replace hf := oa3 eK147_11 hf
          refine r_iload_n hC dX8_bestLoop_147 rfl 1 rfl ?_
          refine r_bipush hC dX8_bestLoop_148 bp_m9 ?_
          refine r_icmp_ne (tgt := 158) hC dX8_bestLoop_150 (by decide) (fun c12 => ?_) (fun c12 => ?_)
          · replace hf := o_neg hf c12
            refine r_aload_n hC dX8_bestLoop_158 rfl 0 rfl ?_
            refine r_iload hC dX8_bestLoop_159 2 rfl ?_
            refine r_bipush hC dX8_bestLoop_161 bp_100 ?_
            refine r_iload hC dX8_bestLoop_163 3 rfl ?_
            refine r_imul hC dX8_bestLoop_165 ?_
            refine r_iadd hC dX8_bestLoop_166 ?_
            refine r_iload_n hC dX8_bestLoop_167 rfl 1 rfl ?_
            obtain ⟨r13, s14, h15, hf⟩ := ob2_some hf
            refine r_vi (st := []) hC (kX8_tells l D cy ad c8_latest c8_asked c8_upper c8_lower c8_legs c8_units c8_rests c8_rates c8_lines c8_came c8_sizes c8_weights c8_growths c8_copied c8_legWay c8_legUnits c8_legStuff c8_unitWay c8_unitStuff c8_xs c8_ys c8_zs c8_kindOf c8_placeOf c8_rateOf c8_readOf c8_isGone c8_theList c8_amounts c8_low c8_high c8_barred c8_times c8_ranges (x9 + (100 * x10)) x8 h15) gX8_bestLoop_X8_tells rfl ⟨rfl, rfl⟩ ydX8_tells ⟨Nat.le_of_ble_eq_true rfl, Nat.le_of_ble_eq_true rfl⟩ ⟨Nat.le_refl 0, Nat.le_refl 0⟩ 0 rfl rfl [] [] rfl _ rfl (Nat.le_of_ble_eq_true rfl) dX8_bestLoop_168 (w8 cy ad c8_latest s14 c8_upper c8_lower c8_legs c8_units c8_rests c8_rates c8_lines c8_came c8_sizes c8_weights c8_growths c8_copied c8_legWay c8_legUnits c8_legStuff c8_unitWay c8_unitStuff c8_xs c8_ys c8_zs c8_kindOf c8_placeOf c8_rateOf c8_readOf c8_isGone c8_theList c8_amounts c8_low c8_high c8_barred c8_times c8_ranges) rfl ?_
            obtain ⟨rfl, rfl⟩ := so_2 hf
            exact hRet _ _ _ dX8_bestLoop_171 rfl
          · replace hf := o_pos hf c12
            refine r_bipush hC dX8_bestLoop_153 bp_m9 ?_
            refine r_goto (tgt := 171) hC dX8_bestLoop_155 (by decide) ?_
            obtain ⟨rfl, rfl⟩ := so_2 hf
            exact hRet _ _ _ dX8_bestLoop_171 rfl
        have L41 : ∀ (n : Nat) (x16 : Int32) (x17 : Int32) (x18 : Int32) (x19 : Int32), fX8_bestLoop_L41 N c8_legs c8_units c8_sizes c8_growths c8_legWay c8_legUnits c8_unitWay c8_unitStuff c8_xs c8_ys c8_zs p1 p2 K147_11 n x16 x17 x18 x19 = some (ra, z8_asked) → GG X 9 0 0 (w8 cy ad c8_latest c8_asked c8_upper c8_lower c8_legs c8_units c8_rests c8_rates c8_lines c8_came c8_sizes c8_weights c8_growths c8_copied c8_legWay c8_legUnits c8_legStuff c8_unitWay c8_unitStuff c8_xs c8_ys c8_zs c8_kindOf c8_placeOf c8_rateOf c8_readOf c8_isGone c8_theList c8_amounts c8_low c8_high c8_barred c8_times c8_ranges) [(0, .ref (ad 80)), (1, .int p1), (2, .int p2), (3, .int x16), (4, .int x17), (5, .int x18), (6, .int x19)] 41 [] := by
          intro n
          induction n with
          | zero => intro x16 x17 x18 x19 hf; cases (show none = some _ from hf)
          | succ n ih =>
            intro x16 x17 x18 x19 hf
            rw [fX8_bestLoop_L41] at hf
            refine r_iload hC dX8_bestLoop_41 6 rfl ?_
            refine r_aload_n hC dX8_bestLoop_43 rfl 0 rfl ?_
            refine r_get hC hin8 0 rfl rfl 9 (by decide) rfl hw0 rfl dX8_bestLoop_44 ?_
            refine r_icmp_ge (tgt := 147) hC dX8_bestLoop_47 (by decide) (fun c20 => ?_) (fun c20 => ?_)
            · replace hf := o_pos hf c20
              refine r_sub [(0, .ref (ad 80)), (3, .int x16), (4, .int x17), (5, .int x18)] [0, 3, 4, 5] rfl ?_
              exact J147_11 x16 x17 x18 hf
            · replace hf := o_neg hf c20
              refine r_iconst hC dX8_bestLoop_50 ic_0 ?_
              refine r_istore hC [(7, .int 0), (0, .ref (ad 80)), (1, .int p1), (2, .int p2), (3, .int x16), (4, .int x17), (5, .int x18), (6, .int x19)] dX8_bestLoop_51 (by decide) rfl ?_
              obtain ⟨K141_24, eK141_24, hf⟩ := oj_some hf
              have J141_24 : ∀ (x21 : Int32) (x22 : Int32) (x23 : Int32), K141_24 x21 x22 x23 = some (ra, z8_asked) → GG X 9 0 0 (w8 cy ad c8_latest c8_asked c8_upper c8_lower c8_legs c8_units c8_rests c8_rates c8_lines c8_came c8_sizes c8_weights c8_growths c8_copied c8_legWay c8_legUnits c8_legStuff c8_unitWay c8_unitStuff c8_xs c8_ys c8_zs c8_kindOf c8_placeOf c8_rateOf c8_readOf c8_isGone c8_theList c8_amounts c8_low c8_high c8_barred c8_times c8_ranges) [(0, .ref (ad 80)), (1, .int p1), (2, .int p2), (3, .int x21), (4, .int x22), (5, .int x23), (6, .int x19)] 141 [] := by
                intro x21 x22 x23 hf
                replace hf := oa3 eK141_24 hf
                refine r_iinc hC [(6, .int (x19 + 1)), (0, .ref (ad 80)), (1, .int p1), (2, .int p2), (3, .int x21), (4, .int x22), (5, .int x23)] (x19 + 1) dX8_bestLoop_141 6 rfl (ii_1 _) (by decide) rfl ?_
                refine r_goto (tgt := 41) hC dX8_bestLoop_144 (by decide) ?_
                refine r_sub [(0, .ref (ad 80)), (1, .int p1), (2, .int p2), (3, .int x21), (4, .int x22), (5, .int x23), (6, .int (x19 + 1))] [1, 2, 3, 4, 5, 6, 0] rfl ?_
                exact ih x21 x22 x23 (x19 + 1) hf
              have L53 : ∀ (n : Nat) (x25 : Int32) (x26 : Int32) (x27 : Int32) (x28 : Int32), fX8_bestLoop_L53 N c8_units c8_sizes c8_growths c8_legWay c8_legUnits c8_unitWay c8_unitStuff c8_xs c8_ys c8_zs p1 p2 x19 K141_24 n x25 x26 x27 x28 = some (ra, z8_asked) → GG X 9 0 0 (w8 cy ad c8_latest c8_asked c8_upper c8_lower c8_legs c8_units c8_rests c8_rates c8_lines c8_came c8_sizes c8_weights c8_growths c8_copied c8_legWay c8_legUnits c8_legStuff c8_unitWay c8_unitStuff c8_xs c8_ys c8_zs c8_kindOf c8_placeOf c8_rateOf c8_readOf c8_isGone c8_theList c8_amounts c8_low c8_high c8_barred c8_times c8_ranges) [(0, .ref (ad 80)), (1, .int p1), (2, .int p2), (3, .int x25), (4, .int x26), (5, .int x27), (6, .int x19), (7, .int x28)] 53 [] := by
                intro n
                induction n with
                | zero => intro x25 x26 x27 x28 hf; cases (show none = some _ from hf)
                | succ n ih =>
                  intro x25 x26 x27 x28 hf
                  rw [fX8_bestLoop_L53] at hf
                  refine r_iload hC dX8_bestLoop_53 7 rfl ?_
                  refine r_bipush hC dX8_bestLoop_55 bp_6 ?_
                  refine r_icmp_ge (tgt := 141) hC dX8_bestLoop_57 (by decide) (fun c29 => ?_) (fun c29 => ?_)
                  · replace hf := o_pos hf c29
                    refine r_sub [(0, .ref (ad 80)), (1, .int p1), (2, .int p2), (3, .int x25), (4, .int x26), (5, .int x27), (6, .int x19)] [0, 1, 2, 3, 4, 5, 6] rfl ?_
                    exact J141_24 x25 x26 x27 hf
                  · replace hf := o_neg hf c29
                    refine r_iload hC dX8_bestLoop_60 7 rfl ?_
                    refine r_iconst hC dX8_bestLoop_62 ic_2 ?_
                    refine r_idiv hC dX8_bestLoop_63 (by decide) ?_
                    refine r_aload_n hC dX8_bestLoop_64 rfl 0 rfl ?_
                    refine r_get hC hin8 0 rfl rfl 10 (by decide) rfl hw1 rfl dX8_bestLoop_65 ?_
                    refine r_iload hC dX8_bestLoop_68 6 rfl ?_
                    obtain ⟨g30, hf⟩ := og_some hf
                    refine r_iald hC 6 rfl g30 dX8_bestLoop_70 ?_
                    refine r_iconst hC dX8_bestLoop_71 ic_2 ?_
                    refine r_idiv hC dX8_bestLoop_72 (by decide) ?_
                    obtain ⟨t31, h42, hf⟩ := ob_some hf
                    have J102_41 : GG X 9 0 0 (w8 cy ad c8_latest c8_asked c8_upper c8_lower c8_legs c8_units c8_rests c8_rates c8_lines c8_came c8_sizes c8_weights c8_growths c8_copied c8_legWay c8_legUnits c8_legStuff c8_unitWay c8_unitStuff c8_xs c8_ys c8_zs c8_kindOf c8_placeOf c8_rateOf c8_readOf c8_isGone c8_theList c8_amounts c8_low c8_high c8_barred c8_times c8_ranges) [(0, .ref (ad 80)), (1, .int p1), (2, .int p2), (3, .int x25), (4, .int x26), (5, .int x27), (6, .int x19), (7, .int x28)] 102 [.int t31] := by
                      refine r_istore hC [(8, .int t31), (0, .ref (ad 80)), (1, .int p1), (2, .int p2), (3, .int x25), (4, .int x26), (5, .int x27), (6, .int x19), (7, .int x28)] dX8_bestLoop_102 (by decide) rfl ?_
                      refine r_iload hC dX8_bestLoop_104 0 rfl ?_
                      refine r_bipush hC dX8_bestLoop_106 bp_m9 ?_
                      obtain ⟨x32, x33, x34, h36, hf⟩ := ob3_some hf
                      have J135_35 : GG X 9 0 0 (w8 cy ad c8_latest c8_asked c8_upper c8_lower c8_legs c8_units c8_rests c8_rates c8_lines c8_came c8_sizes c8_weights c8_growths c8_copied c8_legWay c8_legUnits c8_legStuff c8_unitWay c8_unitStuff c8_xs c8_ys c8_zs c8_kindOf c8_placeOf c8_rateOf c8_readOf c8_isGone c8_theList c8_amounts c8_low c8_high c8_barred c8_times c8_ranges) [(0, .ref (ad 80)), (1, .int p1), (2, .int p2), (3, .int x32), (4, .int x33), (5, .int x34), (6, .int x19), (7, .int x28)] 135 [] := by
                        refine r_iinc hC [(7, .int (x28 + 1)), (0, .ref (ad 80)), (1, .int p1), (2, .int p2), (3, .int x32), (4, .int x33), (5, .int x34), (6, .int x19)] (x28 + 1) dX8_bestLoop_135 7 rfl (ii_1 _) (by decide) rfl ?_
                        refine r_goto (tgt := 53) hC dX8_bestLoop_138 (by decide) ?_
                        refine r_sub [(0, .ref (ad 80)), (1, .int p1), (2, .int p2), (3, .int x32), (4, .int x33), (5, .int x34), (6, .int x19), (7, .int (x28 + 1))] [1, 2, 3, 4, 5, 6, 7, 0] rfl ?_
                        exact ih x32 x33 x34 (x28 + 1) hf
                      replace hf := h36
                      refine r_icmp_eq (tgt := 135) hC dX8_bestLoop_108 (by decide) (fun c37 => ?_) (fun c37 => ?_)
                      · replace hf := o_pos hf c37
                        obtain ⟨rfl, rfl, rfl⟩ := so_3 hf
                        refine r_sub [(0, .ref (ad 80)), (1, .int p1), (2, .int p2), (3, .int x25), (4, .int x26), (5, .int x27), (6, .int x19), (7, .int x28)] [1, 2, 3, 4, 5, 6, 7, 8] rfl ?_
                        exact J135_35
                      · replace hf := o_neg hf c37
                        refine r_iload_n hC dX8_bestLoop_111 rfl 4 rfl ?_
                        refine r_bipush hC dX8_bestLoop_112 bp_m9 ?_
                        obtain ⟨K124_38, eK124_38, hf⟩ := oj_some hf
                        have J124_38 : K124_38 = some (x32, x33, x34) → GG X 9 0 0 (w8 cy ad c8_latest c8_asked c8_upper c8_lower c8_legs c8_units c8_rests c8_rates c8_lines c8_came c8_sizes c8_weights c8_growths c8_copied c8_legWay c8_legUnits c8_legStuff c8_unitWay c8_unitStuff c8_xs c8_ys c8_zs c8_kindOf c8_placeOf c8_rateOf c8_readOf c8_isGone c8_theList c8_amounts c8_low c8_high c8_barred c8_times c8_ranges) [(0, .ref (ad 80)), (1, .int p1), (2, .int p2), (6, .int x19), (7, .int x28), (8, .int t31)] 124 [] := by
                          intro hf
                          replace hf := oa0 eK124_38 hf
                          refine r_iload hC dX8_bestLoop_124 3 rfl ?_
                          refine r_istore_n hC [(3, .int x19), (0, .ref (ad 80)), (1, .int p1), (2, .int p2), (6, .int x19), (7, .int x28), (8, .int t31)] dX8_bestLoop_126 rfl (by decide) rfl ?_
                          refine r_iload hC dX8_bestLoop_127 6 rfl ?_
                          refine r_istore hC [(4, .int t31), (3, .int x19), (0, .ref (ad 80)), (1, .int p1), (2, .int p2), (6, .int x19), (7, .int x28), (8, .int t31)] dX8_bestLoop_129 (by decide) rfl ?_
                          refine r_iload hC dX8_bestLoop_131 6 rfl ?_
                          refine r_istore hC [(5, .int x28), (4, .int t31), (3, .int x19), (0, .ref (ad 80)), (1, .int p1), (2, .int p2), (6, .int x19), (7, .int x28), (8, .int t31)] dX8_bestLoop_133 (by decide) rfl ?_
                          obtain ⟨rfl, rfl, rfl⟩ := so_3 hf
                          refine r_sub [(0, .ref (ad 80)), (1, .int p1), (2, .int p2), (3, .int x19), (4, .int t31), (5, .int x28), (6, .int x19), (7, .int x28)] [3, 4, 5, 2, 1, 0, 6, 7] rfl ?_
                          exact J135_35
                        refine r_icmp_eq (tgt := 124) hC dX8_bestLoop_114 (by decide) (fun c39 => ?_) (fun c39 => ?_)
                        · replace hf := o_pos hf c39
                          refine r_sub [(0, .ref (ad 80)), (1, .int p1), (2, .int p2), (6, .int x19), (7, .int x28), (8, .int t31)] [1, 2, 3, 7, 8, 0] rfl ?_
                          exact J124_38 hf
                        · replace hf := o_neg hf c39
                          refine r_iload hC dX8_bestLoop_117 0 rfl ?_
                          refine r_iload hC dX8_bestLoop_119 5 rfl ?_
                          refine r_icmp_ge (tgt := 135) hC dX8_bestLoop_121 (by decide) (fun c40 => ?_) (fun c40 => ?_)
                          · replace hf := o_pos hf c40
                            obtain ⟨rfl, rfl, rfl⟩ := so_3 hf
                            refine r_sub [(0, .ref (ad 80)), (1, .int p1), (2, .int p2), (3, .int x25), (4, .int x26), (5, .int x27), (6, .int x19), (7, .int x28)] [1, 2, 3, 4, 5, 6, 7, 8] rfl ?_
                            exact J135_35
                          · replace hf := o_neg hf c40
                            refine r_sub [(0, .ref (ad 80)), (1, .int p1), (2, .int p2), (6, .int x19), (7, .int x28), (8, .int t31)] [1, 2, 3, 7, 8, 0] rfl ?_
                            exact J124_38 hf
                    replace hf := h42
                    obtain ⟨K87_43, eK87_43, hf⟩ := oj_some hf
                    have J87_43 : K87_43 = some t31 → GG X 9 0 0 (w8 cy ad c8_latest c8_asked c8_upper c8_lower c8_legs c8_units c8_rests c8_rates c8_lines c8_came c8_sizes c8_weights c8_growths c8_copied c8_legWay c8_legUnits c8_legStuff c8_unitWay c8_unitStuff c8_xs c8_ys c8_zs c8_kindOf c8_placeOf c8_rateOf c8_readOf c8_isGone c8_theList c8_amounts c8_low c8_high c8_barred c8_times c8_ranges) [(0, .ref (ad 80)), (1, .int p1), (2, .int p2), (3, .int x25), (4, .int x26), (5, .int x27), (6, .int x19), (7, .int x28)] 87 [] := by
                      intro hf
                      replace hf := oa0 eK87_43 hf
                      refine r_bipush hC dX8_bestLoop_87 bp_m9 ?_
                      refine r_goto (tgt := 102) hC dX8_bestLoop_89 (by decide) ?_
                      obtain rfl := so_1 hf
                      exact J102_41
                    refine r_icmp_eq (tgt := 87) hC dX8_bestLoop_73 (by decide) (fun c44 => ?_) (fun c44 => ?_)
                    · replace hf := o_pos hf c44
                      exact J87_43 hf
                    · replace hf := o_neg hf c44
                      refine r_aload_n hC dX8_bestLoop_76 rfl 0 rfl ?_
                      refine r_get hC hin8 0 rfl rfl 11 (by decide) rfl hw2 rfl dX8_bestLoop_77 ?_
                      refine r_iload hC dX8_bestLoop_80 6 rfl ?_
                      obtain ⟨g45, hf⟩ := og_some hf
                      refine r_iald hC 7 rfl g45 dX8_bestLoop_82 ?_
                      refine r_iconst hC dX8_bestLoop_83 ic_3 ?_
                      refine r_icmp_ge (tgt := 92) hC dX8_bestLoop_84 (by decide) (fun c46 => ?_) (fun c46 => ?_)
                      · replace hf := o_pos hf c46
                        refine r_aload_n hC dX8_bestLoop_92 rfl 0 rfl ?_
                        refine r_iload hC dX8_bestLoop_93 6 rfl ?_
                        refine r_iload hC dX8_bestLoop_95 7 rfl ?_
                        refine r_iload_n hC dX8_bestLoop_97 rfl 1 rfl ?_
                        refine r_iload_n hC dX8_bestLoop_98 rfl 2 rfl ?_
                        obtain ⟨r47, h48, hf⟩ := ob_some hf
                        refine r_vi (st := []) hC (kX8_loopFor l D cy ad c8_latest c8_asked c8_upper c8_lower c8_legs c8_units c8_rests c8_rates c8_lines c8_came c8_sizes c8_weights c8_growths c8_copied c8_legWay c8_legUnits c8_legStuff c8_unitWay c8_unitStuff c8_xs c8_ys c8_zs c8_kindOf c8_placeOf c8_rateOf c8_readOf c8_isGone c8_theList c8_amounts c8_low c8_high c8_barred c8_times c8_ranges x19 x28 p1 p2 N h48) gX8_bestLoop_X8_loopFor rfl ⟨rfl, rfl⟩ ydX8_loopFor ⟨Nat.le_of_ble_eq_true rfl, Nat.le_of_ble_eq_true rfl⟩ ⟨Nat.le_refl 0, Nat.le_refl 0⟩ 0 rfl rfl [] [] rfl _ rfl (Nat.le_of_ble_eq_true rfl) dX8_bestLoop_99 (w8 cy ad c8_latest c8_asked c8_upper c8_lower c8_legs c8_units c8_rests c8_rates c8_lines c8_came c8_sizes c8_weights c8_growths c8_copied c8_legWay c8_legUnits c8_legStuff c8_unitWay c8_unitStuff c8_xs c8_ys c8_zs c8_kindOf c8_placeOf c8_rateOf c8_readOf c8_isGone c8_theList c8_amounts c8_low c8_high c8_barred c8_times c8_ranges) rfl ?_
                        obtain rfl := so_1 hf
                        exact J102_41
                      · replace hf := o_neg hf c46
                        exact J87_43 hf
              refine r_sub [(0, .ref (ad 80)), (1, .int p1), (2, .int p2), (3, .int x16), (4, .int x17), (5, .int x18), (6, .int x19), (7, .int 0)] [1, 2, 3, 4, 5, 6, 7, 0] rfl ?_
              exact L53 N x16 x17 x18 0 hf
        refine r_sub [(0, .ref (ad 80)), (1, .int p1), (2, .int p2), (3, .int (-9)), (4, .int 0), (5, .int 0), (6, .int 0)] [4, 5, 6, 3, 2, 1, 0] rfl ?_
        exact L41 N (-9) 0 0 0 hf
      · replace hf := o_pos hf c7
        refine r_bipush hC dX8_bestLoop_26 bp_m4 ?_
        obtain ⟨rfl, rfl⟩ := so_2 hf
        exact hRet _ _ _ dX8_bestLoop_28 rfl
    · replace hf := o_pos hf c6
      refine r_iconst hC dX8_bestLoop_17 ic_m1 ?_
      obtain ⟨rfl, rfl⟩ := so_2 hf
      exact hRet _ _ _ dX8_bestLoop_18 rfl
noncomputable def fX8_rest_L49 (c8_rests : Int32) (c8_placeOf : Nat → Int32) (c8_isGone : Nat → Int32) (p2 : Int32) (K97_5 : Int32 → Option (Int32 × Int32 × (Nat → Int32) × (Nat → Int32) × (Nat → Int32) × (Nat → Int32) × (Nat → Int32))) : Nat → Int32 → Int32 → Option (Int32 × Int32 × (Nat → Int32) × (Nat → Int32) × (Nat → Int32) × (Nat → Int32) × (Nat → Int32))
  | 0, _, _ => none
  | n + 1, x17, x18 => (if c8_rests ≤ x18 then K97_5 x17 else ob (oj (some 0) (fun (K88_23 : Option (Int32)) => (if x17 = 0 then K88_23 else og (vp_in x18 12) (oj (some 1) (fun (K84_26 : Option (Int32)) => (if (c8_isGone (Int32.toNatClampNeg x18)) = 0 then og (vp_in x18 12) ((if (c8_placeOf (Int32.toNatClampNeg x18)) = p2 then K88_23 else K84_26)) else K84_26)))))) (fun (t20 : Int32) => fX8_rest_L49 c8_rests c8_placeOf c8_isGone p2 K97_5 n t20 (x18 + 1)))
noncomputable def fX8_rest (N : Nat) (c8_units : Int32) (c8_rests : Int32) (c8_kindOf : Nat → Int32) (c8_placeOf : Nat → Int32) (c8_rateOf : Nat → Int32) (c8_readOf : Nat → Int32) (c8_isGone : Nat → Int32) (p1 : Int32) (p2 : Int32) (p3 : Int32) : Option (Int32 × Int32 × (Nat → Int32) × (Nat → Int32) × (Nat → Int32) × (Nat → Int32) × (Nat → Int32)) := ob (fX8_in p1 0 3) (fun (r1 : Int32) => ob (oj (some 0) (fun (K43_32 : Option (Int32)) => (if r1 = 0 then K43_32 else ob (fX8_in p2 1 (c8_units - 1)) (fun (r34 : Int32) => (if r34 = 0 then K43_32 else oj (some 1) (fun (K39_37 : Option (Int32)) => (if p1 = 2 then ob (fX8_in p3 1 500) (fun (r39 : Int32) => (if r39 = 0 then K43_32 else K39_37)) else K39_37))))))) (fun (t3 : Int32) => oj (fun (x4 : Int32) => (if x4 = 0 then some ((-1), c8_rests, c8_kindOf, c8_placeOf, c8_rateOf, c8_readOf, c8_isGone) else (if c8_rests = 12 then some ((-2), c8_rests, c8_kindOf, c8_placeOf, c8_rateOf, c8_readOf, c8_isGone) else og (vp_in c8_rests 12) (og (vp_in c8_rests 12) (ob ((if p1 = 2 then some p3 else some (-9))) (fun (t10 : Int32) => og (vp_in c8_rests 12) (og (vp_in c8_rests 12) (og (vp_in c8_rests 12) (some (((c8_rests + 1) - 1), (c8_rests + 1), (upd c8_kindOf (Int32.toNatClampNeg c8_rests) p1), (upd c8_placeOf (Int32.toNatClampNeg c8_rests) p2), (upd c8_rateOf (Int32.toNatClampNeg c8_rests) t10), (upd c8_readOf (Int32.toNatClampNeg c8_rests) (-9)), (upd c8_isGone (Int32.toNatClampNeg c8_rests) (vp_nar .boolean 0)))))))))))) (fun (K97_5 : Int32 → Option (Int32 × Int32 × (Nat → Int32) × (Nat → Int32) × (Nat → Int32) × (Nat → Int32) × (Nat → Int32))) => fX8_rest_L49 c8_rests c8_placeOf c8_isGone p2 K97_5 N t3 0)))
theorem ydX8_rest : yX8_rest.cls = RX8 ∧ yX8_rest.cls ≠ "java/lang/invoke/MethodHandle" ∧ yX8_rest.cls ≠ "java/lang/invoke/VarHandle" ∧ (parseMethodDescriptor yX8_rest.desc).map (fun d => d.parameters.length) = some 3 := by decide +kernel
set_option maxHeartbeats 8000000 in
set_option maxRecDepth 100000 in
theorem kX8_rest (l : Launch) (D : va_G) (cy : Nat → ClassId) (ad : Nat → Nat) (c8_latest : Int32) (c8_asked : Int32) (c8_upper : Int64) (c8_lower : Int64) (c8_legs : Int32) (c8_units : Int32) (c8_rests : Int32) (c8_rates : Int32) (c8_lines : Int32) (c8_came : Nat → Int32) (c8_sizes : Nat → Int32) (c8_weights : Nat → Int32) (c8_growths : Nat → Int32) (c8_copied : Nat → Int32) (c8_legWay : Nat → Int32) (c8_legUnits : Nat → Int32) (c8_legStuff : Nat → Int32) (c8_unitWay : Nat → Int32) (c8_unitStuff : Nat → Int32) (c8_xs : Nat → Int32) (c8_ys : Nat → Int32) (c8_zs : Nat → Int32) (c8_kindOf : Nat → Int32) (c8_placeOf : Nat → Int32) (c8_rateOf : Nat → Int32) (c8_readOf : Nat → Int32) (c8_isGone : Nat → Int32) (c8_theList : Nat → Int32) (c8_amounts : Nat → Int32) (c8_low : Nat → Int32) (c8_high : Nat → Int32) (c8_barred : Nat → Int32) (c8_times : Nat → Int32) (c8_ranges : Nat → Int32) (p1 : Int32) (p2 : Int32) (p3 : Int32) (N : Nat) {ra : Int32} {z8_rests : Int32} {z8_kindOf : Nat → Int32} {z8_placeOf : Nat → Int32} {z8_rateOf : Nat → Int32} {z8_readOf : Nat → Int32} {z8_isGone : Nat → Int32} (hf : fX8_rest N c8_units c8_rests c8_kindOf c8_placeOf c8_rateOf c8_readOf c8_isGone p1 p2 p3 = some (ra, z8_rests, z8_kindOf, z8_placeOf, z8_rateOf, z8_readOf, z8_isGone)) : CI l D cy yX8_rest wsX8_rest ({ frames := 1, cells := 0, slots := 0, locals := 22 } : Room) [.ref (ad 80), .int p1, .int p2, .int p3] (w8 cy ad c8_latest c8_asked c8_upper c8_lower c8_legs c8_units c8_rests c8_rates c8_lines c8_came c8_sizes c8_weights c8_growths c8_copied c8_legWay c8_legUnits c8_legStuff c8_unitWay c8_unitStuff c8_xs c8_ys c8_zs c8_kindOf c8_placeOf c8_rateOf c8_readOf c8_isGone c8_theList c8_amounts c8_low c8_high c8_barred c8_times c8_ranges) ra (w8 cy ad c8_latest c8_asked c8_upper c8_lower c8_legs c8_units z8_rests c8_rates c8_lines c8_came c8_sizes c8_weights c8_growths c8_copied c8_legWay c8_legUnits c8_legStuff c8_unitWay c8_unitStuff c8_xs c8_ys c8_zs z8_kindOf z8_placeOf z8_rateOf z8_readOf z8_isGone c8_theList c8_amounts c8_low c8_high c8_barred c8_times c8_ranges) := by
  unfold fX8_rest at hf
  refine c_of_i (ty := .int) (own := RX8) (by decide) rfl rfl (Nat.le_of_ble_eq_true rfl) (fun X hC hRet => ?_)
  refine r_sub [(0, .ref (ad 80)), (1, .int p1), (2, .int p2), (3, .int p3)] [0, 1, 2, 3] rfl ?_
  have hin8 : ∀ w ∈ wsX80, w ∈ wsX8_rest := fun w h => List.mem_cons_of_mem _ (List.mem_append_right _ h)
  have hw0 : Cond.fieldLink RX8 164 "HotPipesModel" "rests" "I" ∈ wsX8_rest := List.mem_of_getElem? (i := 2) rfl
  have hw1 : Cond.fieldLink RX8 50 "HotPipesModel" "kindOf" "[I" ∈ wsX8_rest := List.mem_of_getElem? (i := 5) rfl
  have hw2 : Cond.fieldLink RX8 53 "HotPipesModel" "placeOf" "[I" ∈ wsX8_rest := List.mem_of_getElem? (i := 4) rfl
  have hw3 : Cond.fieldLink RX8 56 "HotPipesModel" "rateOf" "[I" ∈ wsX8_rest := List.mem_of_getElem? (i := 6) rfl
  have hw4 : Cond.fieldLink RX8 59 "HotPipesModel" "readOf" "[I" ∈ wsX8_rest := List.mem_of_getElem? (i := 7) rfl
  have hw5 : Cond.fieldLink RX8 62 "HotPipesModel" "isGone" "[Z" ∈ wsX8_rest := List.mem_of_getElem? (i := 3) rfl
  have hw6 : Cond.fieldLink RX8 113 "HotPipesModel" "units" "I" ∈ wsX8_rest := List.mem_of_getElem? (i := 1) rfl
  refine r_iload_n hC dX8_rest_0 rfl 1 rfl ?_
  refine r_iconst hC dX8_rest_1 ic_0 ?_
  refine r_iconst hC dX8_rest_2 ic_3 ?_
  obtain ⟨r1, h2, hf⟩ := ob_some hf
  refine r_si (st := []) hC (kX8_in l D cy p1 0 3 h2) gX8_rest_X8_in rfl ⟨rfl, rfl⟩ ydX8_in ⟨Nat.le_of_ble_eq_true rfl, Nat.le_of_ble_eq_true rfl⟩ ⟨Nat.le_refl 0, Nat.le_refl 0⟩ _ rfl (Nat.le_of_ble_eq_true rfl) dX8_rest_3 ?_
  obtain ⟨t3, h31, hf⟩ := ob_some hf
  have J44_30 : GG X 6 0 0 (w8 cy ad c8_latest c8_asked c8_upper c8_lower c8_legs c8_units c8_rests c8_rates c8_lines c8_came c8_sizes c8_weights c8_growths c8_copied c8_legWay c8_legUnits c8_legStuff c8_unitWay c8_unitStuff c8_xs c8_ys c8_zs c8_kindOf c8_placeOf c8_rateOf c8_readOf c8_isGone c8_theList c8_amounts c8_low c8_high c8_barred c8_times c8_ranges) [(0, .ref (ad 80)), (1, .int p1), (2, .int p2), (3, .int p3)] 44 [.int t3] := by
    refine r_istore hC [(4, .int t3), (0, .ref (ad 80)), (1, .int p1), (2, .int p2), (3, .int p3)] dX8_rest_44 (by decide) rfl ?_
    refine r_iconst hC dX8_rest_46 ic_0 ?_
    refine r_istore hC [(5, .int 0), (4, .int t3), (0, .ref (ad 80)), (1, .int p1), (2, .int p2), (3, .int p3)] dX8_rest_47 (by decide) rfl ?_
    obtain ⟨K97_5, eK97_5, hf⟩ := oj_some hf
    have J97_5 : ∀ (x4 : Int32), K97_5 x4 = some (ra, z8_rests, z8_kindOf, z8_placeOf, z8_rateOf, z8_readOf, z8_isGone) → GG X 6 0 0 (w8 cy ad c8_latest c8_asked c8_upper c8_lower c8_legs c8_units c8_rests c8_rates c8_lines c8_came c8_sizes c8_weights c8_growths c8_copied c8_legWay c8_legUnits c8_legStuff c8_unitWay c8_unitStuff c8_xs c8_ys c8_zs c8_kindOf c8_placeOf c8_rateOf c8_readOf c8_isGone c8_theList c8_amounts c8_low c8_high c8_barred c8_times c8_ranges) [(0, .ref (ad 80)), (1, .int p1), (2, .int p2), (3, .int p3), (4, .int x4)] 97 [] := by
      intro x4 hf
      replace hf := oa1 eK97_5 hf
      refine r_iload hC dX8_rest_97 4 rfl ?_
      refine r_if_ne (tgt := 104) hC dX8_rest_99 (by decide) (fun c6 => ?_) (fun c6 => ?_)
      · replace hf := o_neg hf c6
        refine r_aload_n hC dX8_rest_104 rfl 0 rfl ?_
        refine r_get hC hin8 0 rfl rfl 19 (by decide) rfl hw0 rfl dX8_rest_105 ?_
        refine r_bipush hC dX8_rest_108 bp_12 ?_
        refine r_icmp_ne (tgt := 116) hC dX8_rest_110 (by decide) (fun c7 => ?_) (fun c7 => ?_)
        · replace hf := o_neg hf c7
          refine r_aload_n hC dX8_rest_116 rfl 0 rfl ?_
          refine r_get hC hin8 0 rfl rfl 20 (by decide) rfl hw1 rfl dX8_rest_117 ?_
          refine r_aload_n hC dX8_rest_120 rfl 0 rfl ?_
          refine r_get hC hin8 0 rfl rfl 19 (by decide) rfl hw0 rfl dX8_rest_121 ?_
          refine r_iload_n hC dX8_rest_124 rfl 1 rfl ?_
          obtain ⟨g8, hf⟩ := og_some hf
          refine r_iast hC 14 rfl g8 dX8_rest_125 (w8 cy ad c8_latest c8_asked c8_upper c8_lower c8_legs c8_units c8_rests c8_rates c8_lines c8_came c8_sizes c8_weights c8_growths c8_copied c8_legWay c8_legUnits c8_legStuff c8_unitWay c8_unitStuff c8_xs c8_ys c8_zs (upd c8_kindOf (Int32.toNatClampNeg c8_rests) p1) c8_placeOf c8_rateOf c8_readOf c8_isGone c8_theList c8_amounts c8_low c8_high c8_barred c8_times c8_ranges) rfl ?_
          refine r_aload_n hC dX8_rest_126 rfl 0 rfl ?_
          refine r_get hC hin8 0 rfl rfl 21 (by decide) rfl hw2 rfl dX8_rest_127 ?_
          refine r_aload_n hC dX8_rest_130 rfl 0 rfl ?_
          refine r_get hC hin8 0 rfl rfl 19 (by decide) rfl hw0 rfl dX8_rest_131 ?_
          refine r_iload_n hC dX8_rest_134 rfl 2 rfl ?_
          obtain ⟨g9, hf⟩ := og_some hf
          refine r_iast hC 15 rfl g9 dX8_rest_135 (w8 cy ad c8_latest c8_asked c8_upper c8_lower c8_legs c8_units c8_rests c8_rates c8_lines c8_came c8_sizes c8_weights c8_growths c8_copied c8_legWay c8_legUnits c8_legStuff c8_unitWay c8_unitStuff c8_xs c8_ys c8_zs (upd c8_kindOf (Int32.toNatClampNeg c8_rests) p1) (upd c8_placeOf (Int32.toNatClampNeg c8_rests) p2) c8_rateOf c8_readOf c8_isGone c8_theList c8_amounts c8_low c8_high c8_barred c8_times c8_ranges) rfl ?_
          refine r_aload_n hC dX8_rest_136 rfl 0 rfl ?_
          refine r_get hC hin8 0 rfl rfl 22 (by decide) rfl hw3 rfl dX8_rest_137 ?_
          refine r_aload_n hC dX8_rest_140 rfl 0 rfl ?_
          refine r_get hC hin8 0 rfl rfl 19 (by decide) rfl hw0 rfl dX8_rest_141 ?_
          refine r_iload_n hC dX8_rest_144 rfl 1 rfl ?_
          refine r_iconst hC dX8_rest_145 ic_2 ?_
          obtain ⟨t10, h15, hf⟩ := ob_some hf
          have J155_14 : GG X 6 0 0 (w8 cy ad c8_latest c8_asked c8_upper c8_lower c8_legs c8_units c8_rests c8_rates c8_lines c8_came c8_sizes c8_weights c8_growths c8_copied c8_legWay c8_legUnits c8_legStuff c8_unitWay c8_unitStuff c8_xs c8_ys c8_zs (upd c8_kindOf (Int32.toNatClampNeg c8_rests) p1) (upd c8_placeOf (Int32.toNatClampNeg c8_rests) p2) c8_rateOf c8_readOf c8_isGone c8_theList c8_amounts c8_low c8_high c8_barred c8_times c8_ranges) [(0, .ref (ad 80))] 155 [.int t10, .int c8_rests, .ref (ad 1823)] := by
            obtain ⟨g11, hf⟩ := og_some hf
            refine r_iast hC 16 rfl g11 dX8_rest_155 (w8 cy ad c8_latest c8_asked c8_upper c8_lower c8_legs c8_units c8_rests c8_rates c8_lines c8_came c8_sizes c8_weights c8_growths c8_copied c8_legWay c8_legUnits c8_legStuff c8_unitWay c8_unitStuff c8_xs c8_ys c8_zs (upd c8_kindOf (Int32.toNatClampNeg c8_rests) p1) (upd c8_placeOf (Int32.toNatClampNeg c8_rests) p2) (upd c8_rateOf (Int32.toNatClampNeg c8_rests) t10) c8_readOf c8_isGone c8_theList c8_amounts c8_low c8_high c8_barred c8_times c8_ranges) rfl ?_
            refine r_aload_n hC dX8_rest_156 rfl 0 rfl ?_
            refine r_get hC hin8 0 rfl rfl 23 (by decide) rfl hw4 rfl dX8_rest_157 ?_
            refine r_aload_n hC dX8_rest_160 rfl 0 rfl ?_
            refine r_get hC hin8 0 rfl rfl 19 (by decide) rfl hw0 rfl dX8_rest_161 ?_
            refine r_bipush hC dX8_rest_164 bp_m9 ?_
            obtain ⟨g12, hf⟩ := og_some hf
            refine r_iast hC 17 rfl g12 dX8_rest_166 (w8 cy ad c8_latest c8_asked c8_upper c8_lower c8_legs c8_units c8_rests c8_rates c8_lines c8_came c8_sizes c8_weights c8_growths c8_copied c8_legWay c8_legUnits c8_legStuff c8_unitWay c8_unitStuff c8_xs c8_ys c8_zs (upd c8_kindOf (Int32.toNatClampNeg c8_rests) p1) (upd c8_placeOf (Int32.toNatClampNeg c8_rests) p2) (upd c8_rateOf (Int32.toNatClampNeg c8_rests) t10) (upd c8_readOf (Int32.toNatClampNeg c8_rests) (-9)) c8_isGone c8_theList c8_amounts c8_low c8_high c8_barred c8_times c8_ranges) rfl ?_
            refine r_aload_n hC dX8_rest_167 rfl 0 rfl ?_
            refine r_get hC hin8 0 rfl rfl 24 (by decide) rfl hw5 rfl dX8_rest_168 ?_
            refine r_aload_n hC dX8_rest_171 rfl 0 rfl ?_
            refine r_get hC hin8 0 rfl rfl 19 (by decide) rfl hw0 rfl dX8_rest_172 ?_
            refine r_iconst hC dX8_rest_175 ic_0 ?_
            obtain ⟨g13, hf⟩ := og_some hf
            refine r_zast hC 18 rfl g13 dX8_rest_176 (w8 cy ad c8_latest c8_asked c8_upper c8_lower c8_legs c8_units c8_rests c8_rates c8_lines c8_came c8_sizes c8_weights c8_growths c8_copied c8_legWay c8_legUnits c8_legStuff c8_unitWay c8_unitStuff c8_xs c8_ys c8_zs (upd c8_kindOf (Int32.toNatClampNeg c8_rests) p1) (upd c8_placeOf (Int32.toNatClampNeg c8_rests) p2) (upd c8_rateOf (Int32.toNatClampNeg c8_rests) t10) (upd c8_readOf (Int32.toNatClampNeg c8_rests) (-9)) (upd c8_isGone (Int32.toNatClampNeg c8_rests) (vp_nar .boolean 0)) c8_theList c8_amounts c8_low c8_high c8_barred c8_times c8_ranges) rfl ?_
            refine r_aload_n hC dX8_rest_177 rfl 0 rfl ?_
            refine r_dup hC dX8_rest_178 rfl ?_
            refine r_get hC hin8 0 rfl rfl 19 (by decide) rfl hw0 rfl dX8_rest_179 ?_
            refine r_iconst hC dX8_rest_182 ic_1 ?_
            refine r_iadd hC dX8_rest_183 ?_
            refine r_put (ty := .int) hC hin8 tyX8_ok nmX8 0 rfl rfl 19 (by decide) rfl hw0 rfl rfl rfl rfl (Nat.le_of_ble_eq_true rfl) dX8_rest_184 (w8 cy ad c8_latest c8_asked c8_upper c8_lower c8_legs c8_units (c8_rests + 1) c8_rates c8_lines c8_came c8_sizes c8_weights c8_growths c8_copied c8_legWay c8_legUnits c8_legStuff c8_unitWay c8_unitStuff c8_xs c8_ys c8_zs (upd c8_kindOf (Int32.toNatClampNeg c8_rests) p1) (upd c8_placeOf (Int32.toNatClampNeg c8_rests) p2) (upd c8_rateOf (Int32.toNatClampNeg c8_rests) t10) (upd c8_readOf (Int32.toNatClampNeg c8_rests) (-9)) (upd c8_isGone (Int32.toNatClampNeg c8_rests) (vp_nar .boolean 0)) c8_theList c8_amounts c8_low c8_high c8_barred c8_times c8_ranges) rfl ?_
            refine r_aload_n hC dX8_rest_187 rfl 0 rfl ?_
            refine r_get hC hin8 0 rfl rfl 19 (by decide) rfl hw0 rfl dX8_rest_188 ?_
            refine r_iconst hC dX8_rest_191 ic_1 ?_
            refine r_isub hC dX8_rest_192 ?_
            obtain ⟨rfl, rfl, rfl, rfl, rfl, rfl, rfl⟩ := so_7 hf
            exact hRet _ _ _ dX8_rest_193 rfl
          replace hf := h15
          refine r_icmp_ne (tgt := 153) hC dX8_rest_146 (by decide) (fun c16 => ?_) (fun c16 => ?_)
          · replace hf := o_neg hf c16
            refine r_bipush hC dX8_rest_153 bp_m9 ?_
            obtain rfl := so_1 hf
            refine r_sub [(0, .ref (ad 80))] [0] rfl ?_
            exact J155_14
          · replace hf := o_pos hf c16
            refine r_iload_n hC dX8_rest_149 rfl 3 rfl ?_
            refine r_goto (tgt := 155) hC dX8_rest_150 (by decide) ?_
            obtain rfl := so_1 hf
            refine r_sub [(0, .ref (ad 80))] [0] rfl ?_
            exact J155_14
        · replace hf := o_pos hf c7
          refine r_bipush hC dX8_rest_113 bp_m2 ?_
          obtain ⟨rfl, rfl, rfl, rfl, rfl, rfl, rfl⟩ := so_7 hf
          exact hRet _ _ _ dX8_rest_115 rfl
      · replace hf := o_pos hf c6
        refine r_iconst hC dX8_rest_102 ic_m1 ?_
        obtain ⟨rfl, rfl, rfl, rfl, rfl, rfl, rfl⟩ := so_7 hf
        exact hRet _ _ _ dX8_rest_103 rfl
    have L49 : ∀ (n : Nat) (x17 : Int32) (x18 : Int32), fX8_rest_L49 c8_rests c8_placeOf c8_isGone p2 K97_5 n x17 x18 = some (ra, z8_rests, z8_kindOf, z8_placeOf, z8_rateOf, z8_readOf, z8_isGone) → GG X 6 0 0 (w8 cy ad c8_latest c8_asked c8_upper c8_lower c8_legs c8_units c8_rests c8_rates c8_lines c8_came c8_sizes c8_weights c8_growths c8_copied c8_legWay c8_legUnits c8_legStuff c8_unitWay c8_unitStuff c8_xs c8_ys c8_zs c8_kindOf c8_placeOf c8_rateOf c8_readOf c8_isGone c8_theList c8_amounts c8_low c8_high c8_barred c8_times c8_ranges) [(0, .ref (ad 80)), (1, .int p1), (2, .int p2), (3, .int p3), (4, .int x17), (5, .int x18)] 49 [] := by
      intro n
      induction n with
      | zero => intro x17 x18 hf; cases (show none = some _ from hf)
      | succ n ih =>
        intro x17 x18 hf
        rw [fX8_rest_L49] at hf
        refine r_iload hC dX8_rest_49 5 rfl ?_
        refine r_aload_n hC dX8_rest_51 rfl 0 rfl ?_
        refine r_get hC hin8 0 rfl rfl 19 (by decide) rfl hw0 rfl dX8_rest_52 ?_
        refine r_icmp_ge (tgt := 97) hC dX8_rest_55 (by decide) (fun c19 => ?_) (fun c19 => ?_)
        · replace hf := o_pos hf c19
          refine r_sub [(0, .ref (ad 80)), (1, .int p1), (2, .int p2), (3, .int p3), (4, .int x17)] [0, 1, 2, 3, 4] rfl ?_
          exact J97_5 x17 hf
        · replace hf := o_neg hf c19
          refine r_iload hC dX8_rest_58 4 rfl ?_
          obtain ⟨t20, h22, hf⟩ := ob_some hf
          have J89_21 : GG X 6 0 0 (w8 cy ad c8_latest c8_asked c8_upper c8_lower c8_legs c8_units c8_rests c8_rates c8_lines c8_came c8_sizes c8_weights c8_growths c8_copied c8_legWay c8_legUnits c8_legStuff c8_unitWay c8_unitStuff c8_xs c8_ys c8_zs c8_kindOf c8_placeOf c8_rateOf c8_readOf c8_isGone c8_theList c8_amounts c8_low c8_high c8_barred c8_times c8_ranges) [(0, .ref (ad 80)), (1, .int p1), (2, .int p2), (3, .int p3), (5, .int x18)] 89 [.int t20] := by
            refine r_istore hC [(4, .int t20), (0, .ref (ad 80)), (1, .int p1), (2, .int p2), (3, .int p3), (5, .int x18)] dX8_rest_89 (by decide) rfl ?_
            refine r_iinc hC [(5, .int (x18 + 1)), (4, .int t20), (0, .ref (ad 80)), (1, .int p1), (2, .int p2), (3, .int p3)] (x18 + 1) dX8_rest_91 5 rfl (ii_1 _) (by decide) rfl ?_
            refine r_goto (tgt := 49) hC dX8_rest_94 (by decide) ?_
            refine r_sub [(0, .ref (ad 80)), (1, .int p1), (2, .int p2), (3, .int p3), (4, .int t20), (5, .int (x18 + 1))] [2, 3, 4, 5, 1, 0] rfl ?_
            exact ih t20 (x18 + 1) hf
          replace hf := h22
          obtain ⟨K88_23, eK88_23, hf⟩ := oj_some hf
          have J88_23 : K88_23 = some t20 → GG X 6 0 0 (w8 cy ad c8_latest c8_asked c8_upper c8_lower c8_legs c8_units c8_rests c8_rates c8_lines c8_came c8_sizes c8_weights c8_growths c8_copied c8_legWay c8_legUnits c8_legStuff c8_unitWay c8_unitStuff c8_xs c8_ys c8_zs c8_kindOf c8_placeOf c8_rateOf c8_readOf c8_isGone c8_theList c8_amounts c8_low c8_high c8_barred c8_times c8_ranges) [(0, .ref (ad 80)), (1, .int p1), (2, .int p2), (3, .int p3), (5, .int x18)] 88 [] := by
            intro hf
            replace hf := oa0 eK88_23 hf
            refine r_iconst hC dX8_rest_88 ic_0 ?_
            obtain rfl := so_1 hf
            exact J89_21
          refine r_if_eq (tgt := 88) hC dX8_rest_60 (by decide) (fun c24 => ?_) (fun c24 => ?_)
          · replace hf := o_pos hf c24
            refine r_sub [(0, .ref (ad 80)), (1, .int p1), (2, .int p2), (3, .int p3), (5, .int x18)] [0, 1, 2, 3, 5] rfl ?_
            exact J88_23 hf
          · replace hf := o_neg hf c24
            refine r_aload_n hC dX8_rest_63 rfl 0 rfl ?_
            refine r_get hC hin8 0 rfl rfl 24 (by decide) rfl hw5 rfl dX8_rest_64 ?_
            refine r_iload hC dX8_rest_67 5 rfl ?_
            obtain ⟨g25, hf⟩ := og_some hf
            refine r_zald hC 18 rfl g25 dX8_rest_69 ?_
            obtain ⟨K84_26, eK84_26, hf⟩ := oj_some hf
            have J84_26 : K84_26 = some t20 → GG X 6 0 0 (w8 cy ad c8_latest c8_asked c8_upper c8_lower c8_legs c8_units c8_rests c8_rates c8_lines c8_came c8_sizes c8_weights c8_growths c8_copied c8_legWay c8_legUnits c8_legStuff c8_unitWay c8_unitStuff c8_xs c8_ys c8_zs c8_kindOf c8_placeOf c8_rateOf c8_readOf c8_isGone c8_theList c8_amounts c8_low c8_high c8_barred c8_times c8_ranges) [(0, .ref (ad 80)), (1, .int p1), (2, .int p2), (3, .int p3), (5, .int x18)] 84 [] := by
              intro hf
              replace hf := oa0 eK84_26 hf
              refine r_iconst hC dX8_rest_84 ic_1 ?_
              refine r_goto (tgt := 89) hC dX8_rest_85 (by decide) ?_
              obtain rfl := so_1 hf
              exact J89_21
            refine r_if_ne (tgt := 84) hC dX8_rest_70 (by decide) (fun c27 => ?_) (fun c27 => ?_)
            · replace hf := o_neg hf c27
              refine r_sub [(0, .ref (ad 80)), (1, .int p1), (2, .int p2), (3, .int p3), (5, .int x18)] [0, 1, 2, 3, 5] rfl ?_
              exact J84_26 hf
            · replace hf := o_pos hf c27
              refine r_aload_n hC dX8_rest_73 rfl 0 rfl ?_
              refine r_get hC hin8 0 rfl rfl 21 (by decide) rfl hw2 rfl dX8_rest_74 ?_
              refine r_iload hC dX8_rest_77 5 rfl ?_
              obtain ⟨g28, hf⟩ := og_some hf
              refine r_iald hC 15 rfl g28 dX8_rest_79 ?_
              refine r_iload_n hC dX8_rest_80 rfl 2 rfl ?_
              refine r_icmp_eq (tgt := 88) hC dX8_rest_81 (by decide) (fun c29 => ?_) (fun c29 => ?_)
              · replace hf := o_pos hf c29
                refine r_sub [(0, .ref (ad 80)), (1, .int p1), (2, .int p2), (3, .int p3), (5, .int x18)] [0, 1, 2, 3, 5] rfl ?_
                exact J88_23 hf
              · replace hf := o_neg hf c29
                refine r_sub [(0, .ref (ad 80)), (1, .int p1), (2, .int p2), (3, .int p3), (5, .int x18)] [0, 1, 2, 3, 5] rfl ?_
                exact J84_26 hf
    refine r_sub [(0, .ref (ad 80)), (1, .int p1), (2, .int p2), (3, .int p3), (4, .int t3), (5, .int 0)] [2, 3, 4, 5, 1, 0] rfl ?_
    exact L49 N t3 0 hf
  replace hf := h31
  obtain ⟨K43_32, eK43_32, hf⟩ := oj_some hf
  have J43_32 : K43_32 = some t3 → GG X 6 0 0 (w8 cy ad c8_latest c8_asked c8_upper c8_lower c8_legs c8_units c8_rests c8_rates c8_lines c8_came c8_sizes c8_weights c8_growths c8_copied c8_legWay c8_legUnits c8_legStuff c8_unitWay c8_unitStuff c8_xs c8_ys c8_zs c8_kindOf c8_placeOf c8_rateOf c8_readOf c8_isGone c8_theList c8_amounts c8_low c8_high c8_barred c8_times c8_ranges) [(0, .ref (ad 80)), (1, .int p1), (2, .int p2), (3, .int p3)] 43 [] := by
    intro hf
    replace hf := oa0 eK43_32 hf
    refine r_iconst hC dX8_rest_43 ic_0 ?_
    obtain rfl := so_1 hf
    exact J44_30
  refine r_if_eq (tgt := 43) hC dX8_rest_6 (by decide) (fun c33 => ?_) (fun c33 => ?_)
  · replace hf := o_pos hf c33
    exact J43_32 hf
  · replace hf := o_neg hf c33
    refine r_iload_n hC dX8_rest_9 rfl 2 rfl ?_
    refine r_iconst hC dX8_rest_10 ic_1 ?_
    refine r_aload_n hC dX8_rest_11 rfl 0 rfl ?_
    refine r_get hC hin8 0 rfl rfl 13 (by decide) rfl hw6 rfl dX8_rest_12 ?_
    refine r_iconst hC dX8_rest_15 ic_1 ?_
    refine r_isub hC dX8_rest_16 ?_
    obtain ⟨r34, h35, hf⟩ := ob_some hf
    refine r_si (st := []) hC (kX8_in l D cy p2 1 (c8_units - 1) h35) gX8_rest_X8_in rfl ⟨rfl, rfl⟩ ydX8_in ⟨Nat.le_of_ble_eq_true rfl, Nat.le_of_ble_eq_true rfl⟩ ⟨Nat.le_refl 0, Nat.le_refl 0⟩ _ rfl (Nat.le_of_ble_eq_true rfl) dX8_rest_17 ?_
    refine r_if_eq (tgt := 43) hC dX8_rest_20 (by decide) (fun c36 => ?_) (fun c36 => ?_)
    · replace hf := o_pos hf c36
      exact J43_32 hf
    · replace hf := o_neg hf c36
      refine r_iload_n hC dX8_rest_23 rfl 1 rfl ?_
      refine r_iconst hC dX8_rest_24 ic_2 ?_
      obtain ⟨K39_37, eK39_37, hf⟩ := oj_some hf
      have J39_37 : K39_37 = some t3 → GG X 6 0 0 (w8 cy ad c8_latest c8_asked c8_upper c8_lower c8_legs c8_units c8_rests c8_rates c8_lines c8_came c8_sizes c8_weights c8_growths c8_copied c8_legWay c8_legUnits c8_legStuff c8_unitWay c8_unitStuff c8_xs c8_ys c8_zs c8_kindOf c8_placeOf c8_rateOf c8_readOf c8_isGone c8_theList c8_amounts c8_low c8_high c8_barred c8_times c8_ranges) [(0, .ref (ad 80)), (1, .int p1), (2, .int p2), (3, .int p3)] 39 [] := by
        intro hf
        replace hf := oa0 eK39_37 hf
        refine r_iconst hC dX8_rest_39 ic_1 ?_
        refine r_goto (tgt := 44) hC dX8_rest_40 (by decide) ?_
        obtain rfl := so_1 hf
        exact J44_30
      refine r_icmp_ne (tgt := 39) hC dX8_rest_25 (by decide) (fun c38 => ?_) (fun c38 => ?_)
      · replace hf := o_neg hf c38
        exact J39_37 hf
      · replace hf := o_pos hf c38
        refine r_iload_n hC dX8_rest_28 rfl 3 rfl ?_
        refine r_iconst hC dX8_rest_29 ic_1 ?_
        refine r_sipush hC dX8_rest_30 sp_500 ?_
        obtain ⟨r39, h40, hf⟩ := ob_some hf
        refine r_si (st := []) hC (kX8_in l D cy p3 1 500 h40) gX8_rest_X8_in rfl ⟨rfl, rfl⟩ ydX8_in ⟨Nat.le_of_ble_eq_true rfl, Nat.le_of_ble_eq_true rfl⟩ ⟨Nat.le_refl 0, Nat.le_refl 0⟩ _ rfl (Nat.le_of_ble_eq_true rfl) dX8_rest_33 ?_
        refine r_if_eq (tgt := 43) hC dX8_rest_36 (by decide) (fun c41 => ?_) (fun c41 => ?_)
        · replace hf := o_pos hf c41
          exact J43_32 hf
        · replace hf := o_neg hf c41
          exact J39_37 hf
noncomputable def fX8_need (c8_latest : Int32) (c8_rests : Int32) (c8_came : Nat → Int32) (c8_isGone : Nat → Int32) (p1 : Int32) (p2 : Int32) : Option (Int32 × Int32 × (Nat → Int32)) := ob (fX8_in p2 0 (c8_rests - 1)) (fun (r1 : Int32) => oj (some ((-1), c8_latest, c8_came)) (fun (K18_3 : Option (Int32 × Int32 × (Nat → Int32))) => (if r1 = 0 then K18_3 else (if p1 = 0 then K18_3 else og (vp_in p2 12) ((if (c8_isGone (Int32.toNatClampNeg p2)) = 0 then some (0, c8_latest, c8_came) else ob3 (fX8_meets c8_latest c8_came 1) (fun (r8 : Int32) (s9 : Int32) (s10 : Nat → Int32) => some (r8, s9, s10))))))))
theorem ydX8_need : yX8_need.cls = RX8 ∧ yX8_need.cls ≠ "java/lang/invoke/MethodHandle" ∧ yX8_need.cls ≠ "java/lang/invoke/VarHandle" ∧ (parseMethodDescriptor yX8_need.desc).map (fun d => d.parameters.length) = some 2 := by decide +kernel
set_option maxHeartbeats 8000000 in
set_option maxRecDepth 100000 in
theorem kX8_need (l : Launch) (D : va_G) (cy : Nat → ClassId) (ad : Nat → Nat) (c8_latest : Int32) (c8_asked : Int32) (c8_upper : Int64) (c8_lower : Int64) (c8_legs : Int32) (c8_units : Int32) (c8_rests : Int32) (c8_rates : Int32) (c8_lines : Int32) (c8_came : Nat → Int32) (c8_sizes : Nat → Int32) (c8_weights : Nat → Int32) (c8_growths : Nat → Int32) (c8_copied : Nat → Int32) (c8_legWay : Nat → Int32) (c8_legUnits : Nat → Int32) (c8_legStuff : Nat → Int32) (c8_unitWay : Nat → Int32) (c8_unitStuff : Nat → Int32) (c8_xs : Nat → Int32) (c8_ys : Nat → Int32) (c8_zs : Nat → Int32) (c8_kindOf : Nat → Int32) (c8_placeOf : Nat → Int32) (c8_rateOf : Nat → Int32) (c8_readOf : Nat → Int32) (c8_isGone : Nat → Int32) (c8_theList : Nat → Int32) (c8_amounts : Nat → Int32) (c8_low : Nat → Int32) (c8_high : Nat → Int32) (c8_barred : Nat → Int32) (c8_times : Nat → Int32) (c8_ranges : Nat → Int32) (p1 : Int32) (p2 : Int32) {ra : Int32} {z8_latest : Int32} {z8_came : Nat → Int32} (hf : fX8_need c8_latest c8_rests c8_came c8_isGone p1 p2 = some (ra, z8_latest, z8_came)) : CI l D cy yX8_need wsX8_need ({ frames := 1, cells := 0, slots := 0, locals := 22 } : Room) [.ref (ad 80), .int p1, .int p2] (w8 cy ad c8_latest c8_asked c8_upper c8_lower c8_legs c8_units c8_rests c8_rates c8_lines c8_came c8_sizes c8_weights c8_growths c8_copied c8_legWay c8_legUnits c8_legStuff c8_unitWay c8_unitStuff c8_xs c8_ys c8_zs c8_kindOf c8_placeOf c8_rateOf c8_readOf c8_isGone c8_theList c8_amounts c8_low c8_high c8_barred c8_times c8_ranges) ra (w8 cy ad z8_latest c8_asked c8_upper c8_lower c8_legs c8_units c8_rests c8_rates c8_lines z8_came c8_sizes c8_weights c8_growths c8_copied c8_legWay c8_legUnits c8_legStuff c8_unitWay c8_unitStuff c8_xs c8_ys c8_zs c8_kindOf c8_placeOf c8_rateOf c8_readOf c8_isGone c8_theList c8_amounts c8_low c8_high c8_barred c8_times c8_ranges) := by
  unfold fX8_need at hf
  refine c_of_i (ty := .int) (own := RX8) (by decide) rfl rfl (Nat.le_of_ble_eq_true rfl) (fun X hC hRet => ?_)
  refine r_sub [(0, .ref (ad 80)), (1, .int p1), (2, .int p2)] [0, 1, 2] rfl ?_
  have hin8 : ∀ w ∈ wsX80, w ∈ wsX8_need := fun w h => List.mem_cons_of_mem _ (List.mem_append_right _ h)
  have hw0 : Cond.fieldLink RX8 164 "HotPipesModel" "rests" "I" ∈ wsX8_need := List.mem_of_getElem? (i := 1) rfl
  have hw1 : Cond.fieldLink RX8 62 "HotPipesModel" "isGone" "[Z" ∈ wsX8_need := List.mem_of_getElem? (i := 2) rfl
  refine r_iload_n hC dX8_need_0 rfl 2 rfl ?_
  refine r_iconst hC dX8_need_1 ic_0 ?_
  refine r_aload_n hC dX8_need_2 rfl 0 rfl ?_
  refine r_get hC hin8 0 rfl rfl 19 (by decide) rfl hw0 rfl dX8_need_3 ?_
  refine r_iconst hC dX8_need_6 ic_1 ?_
  refine r_isub hC dX8_need_7 ?_
  obtain ⟨r1, h2, hf⟩ := ob_some hf
  refine r_si (st := []) hC (kX8_in l D cy p2 0 (c8_rests - 1) h2) gX8_need_X8_in rfl ⟨rfl, rfl⟩ ydX8_in ⟨Nat.le_of_ble_eq_true rfl, Nat.le_of_ble_eq_true rfl⟩ ⟨Nat.le_refl 0, Nat.le_refl 0⟩ _ rfl (Nat.le_of_ble_eq_true rfl) dX8_need_8 ?_
  obtain ⟨K18_3, eK18_3, hf⟩ := oj_some hf
  have J18_3 : K18_3 = some (ra, z8_latest, z8_came) → GG X 3 0 0 (w8 cy ad c8_latest c8_asked c8_upper c8_lower c8_legs c8_units c8_rests c8_rates c8_lines c8_came c8_sizes c8_weights c8_growths c8_copied c8_legWay c8_legUnits c8_legStuff c8_unitWay c8_unitStuff c8_xs c8_ys c8_zs c8_kindOf c8_placeOf c8_rateOf c8_readOf c8_isGone c8_theList c8_amounts c8_low c8_high c8_barred c8_times c8_ranges) [] 18 [] := by
    intro hf
    replace hf := oa0 eK18_3 hf
    refine r_iconst hC dX8_need_18 ic_m1 ?_
    refine r_goto (tgt := 40) hC dX8_need_19 (by decide) ?_
    obtain ⟨rfl, rfl, rfl⟩ := so_3 hf
    exact hRet _ _ _ dX8_need_40 rfl
  refine r_if_eq (tgt := 18) hC dX8_need_11 (by decide) (fun c4 => ?_) (fun c4 => ?_)
  · replace hf := o_pos hf c4
    refine r_sub [] [] rfl ?_
    exact J18_3 hf
  · replace hf := o_neg hf c4
    refine r_iload_n hC dX8_need_14 rfl 1 rfl ?_
    refine r_if_ne (tgt := 22) hC dX8_need_15 (by decide) (fun c5 => ?_) (fun c5 => ?_)
    · replace hf := o_neg hf c5
      refine r_aload_n hC dX8_need_22 rfl 0 rfl ?_
      refine r_get hC hin8 0 rfl rfl 24 (by decide) rfl hw1 rfl dX8_need_23 ?_
      refine r_iload_n hC dX8_need_26 rfl 2 rfl ?_
      obtain ⟨g6, hf⟩ := og_some hf
      refine r_zald hC 18 rfl g6 dX8_need_27 ?_
      refine r_if_eq (tgt := 39) hC dX8_need_28 (by decide) (fun c7 => ?_) (fun c7 => ?_)
      · replace hf := o_pos hf c7
        refine r_iconst hC dX8_need_39 ic_0 ?_
        obtain ⟨rfl, rfl, rfl⟩ := so_3 hf
        exact hRet _ _ _ dX8_need_40 rfl
      · replace hf := o_neg hf c7
        refine r_aload_n hC dX8_need_31 rfl 0 rfl ?_
        refine r_iconst hC dX8_need_32 ic_1 ?_
        obtain ⟨r8, s9, s10, h11, hf⟩ := ob3_some hf
        refine r_vi (st := []) hC (kX8_meets l D cy ad c8_latest c8_asked c8_upper c8_lower c8_legs c8_units c8_rests c8_rates c8_lines c8_came c8_sizes c8_weights c8_growths c8_copied c8_legWay c8_legUnits c8_legStuff c8_unitWay c8_unitStuff c8_xs c8_ys c8_zs c8_kindOf c8_placeOf c8_rateOf c8_readOf c8_isGone c8_theList c8_amounts c8_low c8_high c8_barred c8_times c8_ranges 1 h11) gX8_need_X8_meets rfl ⟨rfl, rfl⟩ ydX8_meets ⟨Nat.le_of_ble_eq_true rfl, Nat.le_of_ble_eq_true rfl⟩ ⟨Nat.le_refl 0, Nat.le_refl 0⟩ 0 rfl rfl [] [] rfl _ rfl (Nat.le_of_ble_eq_true rfl) dX8_need_33 (w8 cy ad s9 c8_asked c8_upper c8_lower c8_legs c8_units c8_rests c8_rates c8_lines s10 c8_sizes c8_weights c8_growths c8_copied c8_legWay c8_legUnits c8_legStuff c8_unitWay c8_unitStuff c8_xs c8_ys c8_zs c8_kindOf c8_placeOf c8_rateOf c8_readOf c8_isGone c8_theList c8_amounts c8_low c8_high c8_barred c8_times c8_ranges) rfl ?_
        refine r_goto (tgt := 40) hC dX8_need_36 (by decide) ?_
        obtain ⟨rfl, rfl, rfl⟩ := so_3 hf
        exact hRet _ _ _ dX8_need_40 rfl
    · replace hf := o_pos hf c5
      refine r_sub [] [] rfl ?_
      exact J18_3 hf
noncomputable def fX8_drop (c8_latest : Int32) (c8_rests : Int32) (c8_came : Nat → Int32) (c8_isGone : Nat → Int32) (p1 : Int32) : Option (Int32 × Int32 × (Nat → Int32) × (Nat → Int32)) := ob3 (fX8_need c8_latest c8_rests c8_came c8_isGone 1 p1) (fun (r1 : Int32) (s2 : Int32) (s3 : Nat → Int32) => (if 0 ≤ r1 then og (vp_in p1 12) (some (1, s2, s3, (upd c8_isGone (Int32.toNatClampNeg p1) (vp_nar .boolean 1)))) else some (r1, s2, s3, c8_isGone)))
theorem ydX8_drop : yX8_drop.cls = RX8 ∧ yX8_drop.cls ≠ "java/lang/invoke/MethodHandle" ∧ yX8_drop.cls ≠ "java/lang/invoke/VarHandle" ∧ (parseMethodDescriptor yX8_drop.desc).map (fun d => d.parameters.length) = some 1 := by decide +kernel
set_option maxHeartbeats 8000000 in
set_option maxRecDepth 100000 in
theorem kX8_drop (l : Launch) (D : va_G) (cy : Nat → ClassId) (ad : Nat → Nat) (c8_latest : Int32) (c8_asked : Int32) (c8_upper : Int64) (c8_lower : Int64) (c8_legs : Int32) (c8_units : Int32) (c8_rests : Int32) (c8_rates : Int32) (c8_lines : Int32) (c8_came : Nat → Int32) (c8_sizes : Nat → Int32) (c8_weights : Nat → Int32) (c8_growths : Nat → Int32) (c8_copied : Nat → Int32) (c8_legWay : Nat → Int32) (c8_legUnits : Nat → Int32) (c8_legStuff : Nat → Int32) (c8_unitWay : Nat → Int32) (c8_unitStuff : Nat → Int32) (c8_xs : Nat → Int32) (c8_ys : Nat → Int32) (c8_zs : Nat → Int32) (c8_kindOf : Nat → Int32) (c8_placeOf : Nat → Int32) (c8_rateOf : Nat → Int32) (c8_readOf : Nat → Int32) (c8_isGone : Nat → Int32) (c8_theList : Nat → Int32) (c8_amounts : Nat → Int32) (c8_low : Nat → Int32) (c8_high : Nat → Int32) (c8_barred : Nat → Int32) (c8_times : Nat → Int32) (c8_ranges : Nat → Int32) (p1 : Int32) {ra : Int32} {z8_latest : Int32} {z8_came : Nat → Int32} {z8_isGone : Nat → Int32} (hf : fX8_drop c8_latest c8_rests c8_came c8_isGone p1 = some (ra, z8_latest, z8_came, z8_isGone)) : CI l D cy yX8_drop wsX8_drop ({ frames := 2, cells := 0, slots := 0, locals := 44 } : Room) [.ref (ad 80), .int p1] (w8 cy ad c8_latest c8_asked c8_upper c8_lower c8_legs c8_units c8_rests c8_rates c8_lines c8_came c8_sizes c8_weights c8_growths c8_copied c8_legWay c8_legUnits c8_legStuff c8_unitWay c8_unitStuff c8_xs c8_ys c8_zs c8_kindOf c8_placeOf c8_rateOf c8_readOf c8_isGone c8_theList c8_amounts c8_low c8_high c8_barred c8_times c8_ranges) ra (w8 cy ad z8_latest c8_asked c8_upper c8_lower c8_legs c8_units c8_rests c8_rates c8_lines z8_came c8_sizes c8_weights c8_growths c8_copied c8_legWay c8_legUnits c8_legStuff c8_unitWay c8_unitStuff c8_xs c8_ys c8_zs c8_kindOf c8_placeOf c8_rateOf c8_readOf z8_isGone c8_theList c8_amounts c8_low c8_high c8_barred c8_times c8_ranges) := by
  unfold fX8_drop at hf
  refine c_of_i (ty := .int) (own := RX8) (by decide) rfl rfl (Nat.le_of_ble_eq_true rfl) (fun X hC hRet => ?_)
  refine r_sub [(0, .ref (ad 80)), (1, .int p1)] [0, 1] rfl ?_
  have hin8 : ∀ w ∈ wsX80, w ∈ wsX8_drop := fun w h => List.mem_cons_of_mem _ (List.mem_append_right _ h)
  have hw0 : Cond.fieldLink RX8 62 "HotPipesModel" "isGone" "[Z" ∈ wsX8_drop := List.mem_of_getElem? (i := 1) rfl
  refine r_aload_n hC dX8_drop_0 rfl 0 rfl ?_
  refine r_iconst hC dX8_drop_1 ic_1 ?_
  refine r_iload_n hC dX8_drop_2 rfl 1 rfl ?_
  obtain ⟨r1, s2, s3, h4, hf⟩ := ob3_some hf
  refine r_vi (st := []) hC (kX8_need l D cy ad c8_latest c8_asked c8_upper c8_lower c8_legs c8_units c8_rests c8_rates c8_lines c8_came c8_sizes c8_weights c8_growths c8_copied c8_legWay c8_legUnits c8_legStuff c8_unitWay c8_unitStuff c8_xs c8_ys c8_zs c8_kindOf c8_placeOf c8_rateOf c8_readOf c8_isGone c8_theList c8_amounts c8_low c8_high c8_barred c8_times c8_ranges 1 p1 h4) gX8_drop_X8_need rfl ⟨rfl, rfl⟩ ydX8_need ⟨Nat.le_of_ble_eq_true rfl, Nat.le_of_ble_eq_true rfl⟩ ⟨Nat.le_refl 0, Nat.le_refl 0⟩ 0 rfl rfl [] [] rfl _ rfl (Nat.le_of_ble_eq_true rfl) dX8_drop_3 (w8 cy ad s2 c8_asked c8_upper c8_lower c8_legs c8_units c8_rests c8_rates c8_lines s3 c8_sizes c8_weights c8_growths c8_copied c8_legWay c8_legUnits c8_legStuff c8_unitWay c8_unitStuff c8_xs c8_ys c8_zs c8_kindOf c8_placeOf c8_rateOf c8_readOf c8_isGone c8_theList c8_amounts c8_low c8_high c8_barred c8_times c8_ranges) rfl ?_
  refine r_istore_n hC [(2, .int r1), (0, .ref (ad 80)), (1, .int p1)] dX8_drop_6 rfl (by decide) rfl ?_
  refine r_iload_n hC dX8_drop_7 rfl 0 rfl ?_
  refine r_if_ge (tgt := 13) hC dX8_drop_8 (by decide) (fun c5 => ?_) (fun c5 => ?_)
  · replace hf := o_pos hf c5
    refine r_aload_n hC dX8_drop_13 rfl 1 rfl ?_
    refine r_get hC hin8 0 rfl rfl 24 (by decide) rfl hw0 rfl dX8_drop_14 ?_
    refine r_iload_n hC dX8_drop_17 rfl 2 rfl ?_
    refine r_iconst hC dX8_drop_18 ic_1 ?_
    obtain ⟨g6, hf⟩ := og_some hf
    refine r_zast hC 18 rfl g6 dX8_drop_19 (w8 cy ad s2 c8_asked c8_upper c8_lower c8_legs c8_units c8_rests c8_rates c8_lines s3 c8_sizes c8_weights c8_growths c8_copied c8_legWay c8_legUnits c8_legStuff c8_unitWay c8_unitStuff c8_xs c8_ys c8_zs c8_kindOf c8_placeOf c8_rateOf c8_readOf (upd c8_isGone (Int32.toNatClampNeg p1) (vp_nar .boolean 1)) c8_theList c8_amounts c8_low c8_high c8_barred c8_times c8_ranges) rfl ?_
    refine r_iconst hC dX8_drop_20 ic_1 ?_
    obtain ⟨rfl, rfl, rfl, rfl⟩ := so_4 hf
    exact hRet _ _ _ dX8_drop_21 rfl
  · replace hf := o_neg hf c5
    refine r_iload_n hC dX8_drop_11 rfl 0 rfl ?_
    obtain ⟨rfl, rfl, rfl, rfl⟩ := so_4 hf
    exact hRet _ _ _ dX8_drop_12 rfl
noncomputable def fX8_isThere (c8_units : Int32) (c8_placeOf : Nat → Int32) (c8_isGone : Nat → Int32) (p1 : Int32) : Option (Int32) := og (vp_in p1 12) (oj (some 0) (fun (K26_2 : Option (Int32)) => (if (c8_isGone (Int32.toNatClampNeg p1)) = 0 then og (vp_in p1 12) ((if c8_units ≤ (c8_placeOf (Int32.toNatClampNeg p1)) then K26_2 else some 1)) else K26_2)))
theorem ydX8_isThere : yX8_isThere.cls = RX8 ∧ yX8_isThere.cls ≠ "java/lang/invoke/MethodHandle" ∧ yX8_isThere.cls ≠ "java/lang/invoke/VarHandle" ∧ (parseMethodDescriptor yX8_isThere.desc).map (fun d => d.parameters.length) = some 1 := by decide +kernel
set_option maxHeartbeats 8000000 in
set_option maxRecDepth 100000 in
theorem kX8_isThere (l : Launch) (D : va_G) (cy : Nat → ClassId) (ad : Nat → Nat) (c8_latest : Int32) (c8_asked : Int32) (c8_upper : Int64) (c8_lower : Int64) (c8_legs : Int32) (c8_units : Int32) (c8_rests : Int32) (c8_rates : Int32) (c8_lines : Int32) (c8_came : Nat → Int32) (c8_sizes : Nat → Int32) (c8_weights : Nat → Int32) (c8_growths : Nat → Int32) (c8_copied : Nat → Int32) (c8_legWay : Nat → Int32) (c8_legUnits : Nat → Int32) (c8_legStuff : Nat → Int32) (c8_unitWay : Nat → Int32) (c8_unitStuff : Nat → Int32) (c8_xs : Nat → Int32) (c8_ys : Nat → Int32) (c8_zs : Nat → Int32) (c8_kindOf : Nat → Int32) (c8_placeOf : Nat → Int32) (c8_rateOf : Nat → Int32) (c8_readOf : Nat → Int32) (c8_isGone : Nat → Int32) (c8_theList : Nat → Int32) (c8_amounts : Nat → Int32) (c8_low : Nat → Int32) (c8_high : Nat → Int32) (c8_barred : Nat → Int32) (c8_times : Nat → Int32) (c8_ranges : Nat → Int32) (p1 : Int32) {ra : Int32} (hf : fX8_isThere c8_units c8_placeOf c8_isGone p1 = some ra) : CI l D cy yX8_isThere wsX8_isThere ({ frames := 0, cells := 0, slots := 0, locals := 0 } : Room) [.ref (ad 80), .int p1] (w8 cy ad c8_latest c8_asked c8_upper c8_lower c8_legs c8_units c8_rests c8_rates c8_lines c8_came c8_sizes c8_weights c8_growths c8_copied c8_legWay c8_legUnits c8_legStuff c8_unitWay c8_unitStuff c8_xs c8_ys c8_zs c8_kindOf c8_placeOf c8_rateOf c8_readOf c8_isGone c8_theList c8_amounts c8_low c8_high c8_barred c8_times c8_ranges) ra (w8 cy ad c8_latest c8_asked c8_upper c8_lower c8_legs c8_units c8_rests c8_rates c8_lines c8_came c8_sizes c8_weights c8_growths c8_copied c8_legWay c8_legUnits c8_legStuff c8_unitWay c8_unitStuff c8_xs c8_ys c8_zs c8_kindOf c8_placeOf c8_rateOf c8_readOf c8_isGone c8_theList c8_amounts c8_low c8_high c8_barred c8_times c8_ranges) := by
  unfold fX8_isThere at hf
  refine c_of_i (ty := .boolean) (own := RX8) (by decide) rfl rfl (Nat.le_of_ble_eq_true rfl) (fun X hC hRet => ?_)
  refine r_sub [(0, .ref (ad 80)), (1, .int p1)] [0, 1] rfl ?_
  have hin8 : ∀ w ∈ wsX80, w ∈ wsX8_isThere := fun w h => List.mem_cons_of_mem _ (List.mem_append_right _ h)
  have hw0 : Cond.fieldLink RX8 62 "HotPipesModel" "isGone" "[Z" ∈ wsX8_isThere := List.mem_of_getElem? (i := 1) rfl
  have hw1 : Cond.fieldLink RX8 53 "HotPipesModel" "placeOf" "[I" ∈ wsX8_isThere := List.mem_of_getElem? (i := 2) rfl
  have hw2 : Cond.fieldLink RX8 113 "HotPipesModel" "units" "I" ∈ wsX8_isThere := List.mem_of_getElem? (i := 3) rfl
  refine r_aload_n hC dX8_isThere_0 rfl 0 rfl ?_
  refine r_get hC hin8 0 rfl rfl 24 (by decide) rfl hw0 rfl dX8_isThere_1 ?_
  refine r_iload_n hC dX8_isThere_4 rfl 1 rfl ?_
  obtain ⟨g1, hf⟩ := og_some hf
  refine r_zald hC 18 rfl g1 dX8_isThere_5 ?_
  obtain ⟨K26_2, eK26_2, hf⟩ := oj_some hf
  have J26_2 : K26_2 = some ra → GG X 2 0 0 (w8 cy ad c8_latest c8_asked c8_upper c8_lower c8_legs c8_units c8_rests c8_rates c8_lines c8_came c8_sizes c8_weights c8_growths c8_copied c8_legWay c8_legUnits c8_legStuff c8_unitWay c8_unitStuff c8_xs c8_ys c8_zs c8_kindOf c8_placeOf c8_rateOf c8_readOf c8_isGone c8_theList c8_amounts c8_low c8_high c8_barred c8_times c8_ranges) [] 26 [] := by
    intro hf
    replace hf := oa0 eK26_2 hf
    refine r_iconst hC dX8_isThere_26 ic_0 ?_
    obtain rfl := so_1 hf
    exact hRet _ _ _ dX8_isThere_27 nb_0
  refine r_if_ne (tgt := 26) hC dX8_isThere_6 (by decide) (fun c3 => ?_) (fun c3 => ?_)
  · replace hf := o_neg hf c3
    refine r_sub [] [] rfl ?_
    exact J26_2 hf
  · replace hf := o_pos hf c3
    refine r_aload_n hC dX8_isThere_9 rfl 0 rfl ?_
    refine r_get hC hin8 0 rfl rfl 21 (by decide) rfl hw1 rfl dX8_isThere_10 ?_
    refine r_iload_n hC dX8_isThere_13 rfl 1 rfl ?_
    obtain ⟨g4, hf⟩ := og_some hf
    refine r_iald hC 15 rfl g4 dX8_isThere_14 ?_
    refine r_aload_n hC dX8_isThere_15 rfl 0 rfl ?_
    refine r_get hC hin8 0 rfl rfl 13 (by decide) rfl hw2 rfl dX8_isThere_16 ?_
    refine r_icmp_ge (tgt := 26) hC dX8_isThere_19 (by decide) (fun c5 => ?_) (fun c5 => ?_)
    · replace hf := o_pos hf c5
      refine r_sub [] [] rfl ?_
      exact J26_2 hf
    · replace hf := o_neg hf c5
      refine r_iconst hC dX8_isThere_22 ic_1 ?_
      refine r_goto (tgt := 27) hC dX8_isThere_23 (by decide) ?_
      obtain rfl := so_1 hf
      exact hRet _ _ _ dX8_isThere_27 nb_1
noncomputable def fX8_toldOf (c8_units : Int32) (c8_kindOf : Nat → Int32) (c8_placeOf : Nat → Int32) (c8_rateOf : Nat → Int32) (c8_isGone : Nat → Int32) (p1 : Int32) (p2 : Int32) : Option (Int32) := (if p2 = 0 then og (vp_in p1 12) (some (c8_kindOf (Int32.toNatClampNeg p1))) else (if p2 = 1 then og (vp_in p1 12) (some (c8_placeOf (Int32.toNatClampNeg p1))) else (if p2 = 2 then og (vp_in p1 12) (some (c8_rateOf (Int32.toNatClampNeg p1))) else ob (fX8_isThere c8_units c8_placeOf c8_isGone p1) (fun (r4 : Int32) => (if r4 = 0 then some 0 else some 1)))))
theorem ydX8_toldOf : yX8_toldOf.cls = RX8 ∧ yX8_toldOf.cls ≠ "java/lang/invoke/MethodHandle" ∧ yX8_toldOf.cls ≠ "java/lang/invoke/VarHandle" ∧ (parseMethodDescriptor yX8_toldOf.desc).map (fun d => d.parameters.length) = some 2 := by decide +kernel
set_option maxHeartbeats 8000000 in
set_option maxRecDepth 100000 in
theorem kX8_toldOf (l : Launch) (D : va_G) (cy : Nat → ClassId) (ad : Nat → Nat) (c8_latest : Int32) (c8_asked : Int32) (c8_upper : Int64) (c8_lower : Int64) (c8_legs : Int32) (c8_units : Int32) (c8_rests : Int32) (c8_rates : Int32) (c8_lines : Int32) (c8_came : Nat → Int32) (c8_sizes : Nat → Int32) (c8_weights : Nat → Int32) (c8_growths : Nat → Int32) (c8_copied : Nat → Int32) (c8_legWay : Nat → Int32) (c8_legUnits : Nat → Int32) (c8_legStuff : Nat → Int32) (c8_unitWay : Nat → Int32) (c8_unitStuff : Nat → Int32) (c8_xs : Nat → Int32) (c8_ys : Nat → Int32) (c8_zs : Nat → Int32) (c8_kindOf : Nat → Int32) (c8_placeOf : Nat → Int32) (c8_rateOf : Nat → Int32) (c8_readOf : Nat → Int32) (c8_isGone : Nat → Int32) (c8_theList : Nat → Int32) (c8_amounts : Nat → Int32) (c8_low : Nat → Int32) (c8_high : Nat → Int32) (c8_barred : Nat → Int32) (c8_times : Nat → Int32) (c8_ranges : Nat → Int32) (p1 : Int32) (p2 : Int32) {ra : Int32} (hf : fX8_toldOf c8_units c8_kindOf c8_placeOf c8_rateOf c8_isGone p1 p2 = some ra) : CI l D cy yX8_toldOf wsX8_toldOf ({ frames := 1, cells := 0, slots := 0, locals := 21 } : Room) [.ref (ad 80), .int p1, .int p2] (w8 cy ad c8_latest c8_asked c8_upper c8_lower c8_legs c8_units c8_rests c8_rates c8_lines c8_came c8_sizes c8_weights c8_growths c8_copied c8_legWay c8_legUnits c8_legStuff c8_unitWay c8_unitStuff c8_xs c8_ys c8_zs c8_kindOf c8_placeOf c8_rateOf c8_readOf c8_isGone c8_theList c8_amounts c8_low c8_high c8_barred c8_times c8_ranges) ra (w8 cy ad c8_latest c8_asked c8_upper c8_lower c8_legs c8_units c8_rests c8_rates c8_lines c8_came c8_sizes c8_weights c8_growths c8_copied c8_legWay c8_legUnits c8_legStuff c8_unitWay c8_unitStuff c8_xs c8_ys c8_zs c8_kindOf c8_placeOf c8_rateOf c8_readOf c8_isGone c8_theList c8_amounts c8_low c8_high c8_barred c8_times c8_ranges) := by
  unfold fX8_toldOf at hf
  refine c_of_i (ty := .int) (own := RX8) (by decide) rfl rfl (Nat.le_of_ble_eq_true rfl) (fun X hC hRet => ?_)
  refine r_sub [(0, .ref (ad 80)), (1, .int p1), (2, .int p2)] [0, 1, 2] rfl ?_
  have hin8 : ∀ w ∈ wsX80, w ∈ wsX8_toldOf := fun w h => List.mem_cons_of_mem _ (List.mem_append_right _ h)
  have hw0 : Cond.fieldLink RX8 56 "HotPipesModel" "rateOf" "[I" ∈ wsX8_toldOf := List.mem_of_getElem? (i := 3) rfl
  have hw1 : Cond.fieldLink RX8 53 "HotPipesModel" "placeOf" "[I" ∈ wsX8_toldOf := List.mem_of_getElem? (i := 2) rfl
  have hw2 : Cond.fieldLink RX8 50 "HotPipesModel" "kindOf" "[I" ∈ wsX8_toldOf := List.mem_of_getElem? (i := 1) rfl
  refine r_iload_n hC dX8_toldOf_0 rfl 2 rfl ?_
  refine r_if_ne (tgt := 13) hC dX8_toldOf_1 (by decide) (fun c1 => ?_) (fun c1 => ?_)
  · replace hf := o_neg hf c1
    refine r_iload_n hC dX8_toldOf_13 rfl 2 rfl ?_
    refine r_iconst hC dX8_toldOf_14 ic_1 ?_
    refine r_icmp_ne (tgt := 27) hC dX8_toldOf_15 (by decide) (fun c2 => ?_) (fun c2 => ?_)
    · replace hf := o_neg hf c2
      refine r_iload_n hC dX8_toldOf_27 rfl 2 rfl ?_
      refine r_iconst hC dX8_toldOf_28 ic_2 ?_
      refine r_icmp_ne (tgt := 41) hC dX8_toldOf_29 (by decide) (fun c3 => ?_) (fun c3 => ?_)
      · replace hf := o_neg hf c3
        refine r_aload_n hC dX8_toldOf_41 rfl 0 rfl ?_
        refine r_iload_n hC dX8_toldOf_42 rfl 1 rfl ?_
        obtain ⟨r4, h5, hf⟩ := ob_some hf
        refine r_vi (st := []) hC (kX8_isThere l D cy ad c8_latest c8_asked c8_upper c8_lower c8_legs c8_units c8_rests c8_rates c8_lines c8_came c8_sizes c8_weights c8_growths c8_copied c8_legWay c8_legUnits c8_legStuff c8_unitWay c8_unitStuff c8_xs c8_ys c8_zs c8_kindOf c8_placeOf c8_rateOf c8_readOf c8_isGone c8_theList c8_amounts c8_low c8_high c8_barred c8_times c8_ranges p1 h5) gX8_toldOf_X8_isThere rfl ⟨rfl, rfl⟩ ydX8_isThere ⟨Nat.le_of_ble_eq_true rfl, Nat.le_of_ble_eq_true rfl⟩ ⟨Nat.le_refl 0, Nat.le_refl 0⟩ 0 rfl rfl [] [] rfl _ rfl (Nat.le_of_ble_eq_true rfl) dX8_toldOf_43 (w8 cy ad c8_latest c8_asked c8_upper c8_lower c8_legs c8_units c8_rests c8_rates c8_lines c8_came c8_sizes c8_weights c8_growths c8_copied c8_legWay c8_legUnits c8_legStuff c8_unitWay c8_unitStuff c8_xs c8_ys c8_zs c8_kindOf c8_placeOf c8_rateOf c8_readOf c8_isGone c8_theList c8_amounts c8_low c8_high c8_barred c8_times c8_ranges) rfl ?_
        refine r_if_eq (tgt := 53) hC dX8_toldOf_46 (by decide) (fun c6 => ?_) (fun c6 => ?_)
        · replace hf := o_pos hf c6
          refine r_iconst hC dX8_toldOf_53 ic_0 ?_
          obtain rfl := so_1 hf
          exact hRet _ _ _ dX8_toldOf_54 rfl
        · replace hf := o_neg hf c6
          refine r_iconst hC dX8_toldOf_49 ic_1 ?_
          refine r_goto (tgt := 54) hC dX8_toldOf_50 (by decide) ?_
          obtain rfl := so_1 hf
          exact hRet _ _ _ dX8_toldOf_54 rfl
      · replace hf := o_pos hf c3
        refine r_aload_n hC dX8_toldOf_32 rfl 0 rfl ?_
        refine r_get hC hin8 0 rfl rfl 22 (by decide) rfl hw0 rfl dX8_toldOf_33 ?_
        refine r_iload_n hC dX8_toldOf_36 rfl 1 rfl ?_
        obtain ⟨g7, hf⟩ := og_some hf
        refine r_iald hC 16 rfl g7 dX8_toldOf_37 ?_
        refine r_goto (tgt := 54) hC dX8_toldOf_38 (by decide) ?_
        obtain rfl := so_1 hf
        exact hRet _ _ _ dX8_toldOf_54 rfl
    · replace hf := o_pos hf c2
      refine r_aload_n hC dX8_toldOf_18 rfl 0 rfl ?_
      refine r_get hC hin8 0 rfl rfl 21 (by decide) rfl hw1 rfl dX8_toldOf_19 ?_
      refine r_iload_n hC dX8_toldOf_22 rfl 1 rfl ?_
      obtain ⟨g8, hf⟩ := og_some hf
      refine r_iald hC 15 rfl g8 dX8_toldOf_23 ?_
      refine r_goto (tgt := 54) hC dX8_toldOf_24 (by decide) ?_
      obtain rfl := so_1 hf
      exact hRet _ _ _ dX8_toldOf_54 rfl
  · replace hf := o_pos hf c1
    refine r_aload_n hC dX8_toldOf_4 rfl 0 rfl ?_
    refine r_get hC hin8 0 rfl rfl 20 (by decide) rfl hw2 rfl dX8_toldOf_5 ?_
    refine r_iload_n hC dX8_toldOf_8 rfl 1 rfl ?_
    obtain ⟨g9, hf⟩ := og_some hf
    refine r_iald hC 14 rfl g9 dX8_toldOf_9 ?_
    refine r_goto (tgt := 54) hC dX8_toldOf_10 (by decide) ?_
    obtain rfl := so_1 hf
    exact hRet _ _ _ dX8_toldOf_54 rfl
noncomputable def fX8_told (c8_latest : Int32) (c8_units : Int32) (c8_rests : Int32) (c8_came : Nat → Int32) (c8_kindOf : Nat → Int32) (c8_placeOf : Nat → Int32) (c8_rateOf : Nat → Int32) (c8_isGone : Nat → Int32) (p1 : Int32) (p2 : Int32) : Option (Int32 × Int32 × (Nat → Int32)) := ob (fX8_in p2 0 3) (fun (r1 : Int32) => ob3 (fX8_need c8_latest c8_rests c8_came c8_isGone r1 p1) (fun (r3 : Int32) (s4 : Int32) (s5 : Nat → Int32) => (if 0 ≤ r3 then ob (fX8_toldOf c8_units c8_kindOf c8_placeOf c8_rateOf c8_isGone p1 p2) (fun (r8 : Int32) => some (r8, s4, s5)) else some (r3, s4, s5))))
theorem ydX8_told : yX8_told.cls = RX8 ∧ yX8_told.cls ≠ "java/lang/invoke/MethodHandle" ∧ yX8_told.cls ≠ "java/lang/invoke/VarHandle" ∧ (parseMethodDescriptor yX8_told.desc).map (fun d => d.parameters.length) = some 2 := by decide +kernel
set_option maxHeartbeats 8000000 in
set_option maxRecDepth 100000 in
theorem kX8_told (l : Launch) (D : va_G) (cy : Nat → ClassId) (ad : Nat → Nat) (c8_latest : Int32) (c8_asked : Int32) (c8_upper : Int64) (c8_lower : Int64) (c8_legs : Int32) (c8_units : Int32) (c8_rests : Int32) (c8_rates : Int32) (c8_lines : Int32) (c8_came : Nat → Int32) (c8_sizes : Nat → Int32) (c8_weights : Nat → Int32) (c8_growths : Nat → Int32) (c8_copied : Nat → Int32) (c8_legWay : Nat → Int32) (c8_legUnits : Nat → Int32) (c8_legStuff : Nat → Int32) (c8_unitWay : Nat → Int32) (c8_unitStuff : Nat → Int32) (c8_xs : Nat → Int32) (c8_ys : Nat → Int32) (c8_zs : Nat → Int32) (c8_kindOf : Nat → Int32) (c8_placeOf : Nat → Int32) (c8_rateOf : Nat → Int32) (c8_readOf : Nat → Int32) (c8_isGone : Nat → Int32) (c8_theList : Nat → Int32) (c8_amounts : Nat → Int32) (c8_low : Nat → Int32) (c8_high : Nat → Int32) (c8_barred : Nat → Int32) (c8_times : Nat → Int32) (c8_ranges : Nat → Int32) (p1 : Int32) (p2 : Int32) {ra : Int32} {z8_latest : Int32} {z8_came : Nat → Int32} (hf : fX8_told c8_latest c8_units c8_rests c8_came c8_kindOf c8_placeOf c8_rateOf c8_isGone p1 p2 = some (ra, z8_latest, z8_came)) : CI l D cy yX8_told wsX8_told ({ frames := 2, cells := 0, slots := 0, locals := 44 } : Room) [.ref (ad 80), .int p1, .int p2] (w8 cy ad c8_latest c8_asked c8_upper c8_lower c8_legs c8_units c8_rests c8_rates c8_lines c8_came c8_sizes c8_weights c8_growths c8_copied c8_legWay c8_legUnits c8_legStuff c8_unitWay c8_unitStuff c8_xs c8_ys c8_zs c8_kindOf c8_placeOf c8_rateOf c8_readOf c8_isGone c8_theList c8_amounts c8_low c8_high c8_barred c8_times c8_ranges) ra (w8 cy ad z8_latest c8_asked c8_upper c8_lower c8_legs c8_units c8_rests c8_rates c8_lines z8_came c8_sizes c8_weights c8_growths c8_copied c8_legWay c8_legUnits c8_legStuff c8_unitWay c8_unitStuff c8_xs c8_ys c8_zs c8_kindOf c8_placeOf c8_rateOf c8_readOf c8_isGone c8_theList c8_amounts c8_low c8_high c8_barred c8_times c8_ranges) := by
  unfold fX8_told at hf
  refine c_of_i (ty := .int) (own := RX8) (by decide) rfl rfl (Nat.le_of_ble_eq_true rfl) (fun X hC hRet => ?_)
  refine r_sub [(0, .ref (ad 80)), (1, .int p1), (2, .int p2)] [0, 1, 2] rfl ?_
  refine r_aload_n hC dX8_told_0 rfl 0 rfl ?_
  refine r_iload_n hC dX8_told_1 rfl 2 rfl ?_
  refine r_iconst hC dX8_told_2 ic_0 ?_
  refine r_iconst hC dX8_told_3 ic_3 ?_
  obtain ⟨r1, h2, hf⟩ := ob_some hf
  refine r_si (st := [.ref (ad 80)]) hC (kX8_in l D cy p2 0 3 h2) gX8_told_X8_in rfl ⟨rfl, rfl⟩ ydX8_in ⟨Nat.le_of_ble_eq_true rfl, Nat.le_of_ble_eq_true rfl⟩ ⟨Nat.le_refl 0, Nat.le_refl 0⟩ _ rfl (Nat.le_of_ble_eq_true rfl) dX8_told_4 ?_
  refine r_iload_n hC dX8_told_7 rfl 1 rfl ?_
  obtain ⟨r3, s4, s5, h6, hf⟩ := ob3_some hf
  refine r_vi (st := []) hC (kX8_need l D cy ad c8_latest c8_asked c8_upper c8_lower c8_legs c8_units c8_rests c8_rates c8_lines c8_came c8_sizes c8_weights c8_growths c8_copied c8_legWay c8_legUnits c8_legStuff c8_unitWay c8_unitStuff c8_xs c8_ys c8_zs c8_kindOf c8_placeOf c8_rateOf c8_readOf c8_isGone c8_theList c8_amounts c8_low c8_high c8_barred c8_times c8_ranges r1 p1 h6) gX8_told_X8_need rfl ⟨rfl, rfl⟩ ydX8_need ⟨Nat.le_of_ble_eq_true rfl, Nat.le_of_ble_eq_true rfl⟩ ⟨Nat.le_refl 0, Nat.le_refl 0⟩ 0 rfl rfl [] [] rfl _ rfl (Nat.le_of_ble_eq_true rfl) dX8_told_8 (w8 cy ad s4 c8_asked c8_upper c8_lower c8_legs c8_units c8_rests c8_rates c8_lines s5 c8_sizes c8_weights c8_growths c8_copied c8_legWay c8_legUnits c8_legStuff c8_unitWay c8_unitStuff c8_xs c8_ys c8_zs c8_kindOf c8_placeOf c8_rateOf c8_readOf c8_isGone c8_theList c8_amounts c8_low c8_high c8_barred c8_times c8_ranges) rfl ?_
  refine r_istore_n hC [(3, .int r3), (0, .ref (ad 80)), (1, .int p1), (2, .int p2)] dX8_told_11 rfl (by decide) rfl ?_
  refine r_iload_n hC dX8_told_12 rfl 0 rfl ?_
  refine r_if_ge (tgt := 20) hC dX8_told_13 (by decide) (fun c7 => ?_) (fun c7 => ?_)
  · replace hf := o_pos hf c7
    refine r_aload_n hC dX8_told_20 rfl 1 rfl ?_
    refine r_iload_n hC dX8_told_21 rfl 2 rfl ?_
    refine r_iload_n hC dX8_told_22 rfl 3 rfl ?_
    obtain ⟨r8, h9, hf⟩ := ob_some hf
    refine r_vi (st := []) hC (kX8_toldOf l D cy ad s4 c8_asked c8_upper c8_lower c8_legs c8_units c8_rests c8_rates c8_lines s5 c8_sizes c8_weights c8_growths c8_copied c8_legWay c8_legUnits c8_legStuff c8_unitWay c8_unitStuff c8_xs c8_ys c8_zs c8_kindOf c8_placeOf c8_rateOf c8_readOf c8_isGone c8_theList c8_amounts c8_low c8_high c8_barred c8_times c8_ranges p1 p2 h9) gX8_told_X8_toldOf rfl ⟨rfl, rfl⟩ ydX8_toldOf ⟨Nat.le_of_ble_eq_true rfl, Nat.le_of_ble_eq_true rfl⟩ ⟨Nat.le_refl 0, Nat.le_refl 0⟩ 0 rfl rfl [] [] rfl _ rfl (Nat.le_of_ble_eq_true rfl) dX8_told_23 (w8 cy ad s4 c8_asked c8_upper c8_lower c8_legs c8_units c8_rests c8_rates c8_lines s5 c8_sizes c8_weights c8_growths c8_copied c8_legWay c8_legUnits c8_legStuff c8_unitWay c8_unitStuff c8_xs c8_ys c8_zs c8_kindOf c8_placeOf c8_rateOf c8_readOf c8_isGone c8_theList c8_amounts c8_low c8_high c8_barred c8_times c8_ranges) rfl ?_
    obtain ⟨rfl, rfl, rfl⟩ := so_3 hf
    exact hRet _ _ _ dX8_told_26 rfl
  · replace hf := o_neg hf c7
    refine r_iload_n hC dX8_told_16 rfl 0 rfl ?_
    refine r_goto (tgt := 26) hC dX8_told_17 (by decide) ?_
    obtain ⟨rfl, rfl, rfl⟩ := so_3 hf
    exact hRet _ _ _ dX8_told_26 rfl
noncomputable def fX8_is (c8_latest : Int32) (c8_rests : Int32) (c8_came : Nat → Int32) (c8_kindOf : Nat → Int32) (c8_isGone : Nat → Int32) (p1 : Int32) (p2 : Int32) : Option (Int32 × Int32 × (Nat → Int32)) := ob (fX8_in p2 0 3) (fun (r1 : Int32) => ob3 (fX8_need c8_latest c8_rests c8_came c8_isGone r1 p1) (fun (r3 : Int32) (s4 : Int32) (s5 : Nat → Int32) => (if 0 ≤ r3 then oj (some (1, s4, s5)) (fun (K47_8 : Option (Int32 × Int32 × (Nat → Int32))) => (if p2 = 0 then K47_8 else og (vp_in p1 12) ((if (c8_kindOf (Int32.toNatClampNeg p1)) = p2 then K47_8 else oj (some (0, s4, s5)) (fun (K51_12 : Option (Int32 × Int32 × (Nat → Int32))) => (if p2 = 1 then og (vp_in p1 12) ((if (c8_kindOf (Int32.toNatClampNeg p1)) = 2 then K47_8 else K51_12)) else K51_12)))))) else some (r3, s4, s5))))
theorem ydX8_is : yX8_is.cls = RX8 ∧ yX8_is.cls ≠ "java/lang/invoke/MethodHandle" ∧ yX8_is.cls ≠ "java/lang/invoke/VarHandle" ∧ (parseMethodDescriptor yX8_is.desc).map (fun d => d.parameters.length) = some 2 := by decide +kernel
set_option maxHeartbeats 8000000 in
set_option maxRecDepth 100000 in
theorem kX8_is (l : Launch) (D : va_G) (cy : Nat → ClassId) (ad : Nat → Nat) (c8_latest : Int32) (c8_asked : Int32) (c8_upper : Int64) (c8_lower : Int64) (c8_legs : Int32) (c8_units : Int32) (c8_rests : Int32) (c8_rates : Int32) (c8_lines : Int32) (c8_came : Nat → Int32) (c8_sizes : Nat → Int32) (c8_weights : Nat → Int32) (c8_growths : Nat → Int32) (c8_copied : Nat → Int32) (c8_legWay : Nat → Int32) (c8_legUnits : Nat → Int32) (c8_legStuff : Nat → Int32) (c8_unitWay : Nat → Int32) (c8_unitStuff : Nat → Int32) (c8_xs : Nat → Int32) (c8_ys : Nat → Int32) (c8_zs : Nat → Int32) (c8_kindOf : Nat → Int32) (c8_placeOf : Nat → Int32) (c8_rateOf : Nat → Int32) (c8_readOf : Nat → Int32) (c8_isGone : Nat → Int32) (c8_theList : Nat → Int32) (c8_amounts : Nat → Int32) (c8_low : Nat → Int32) (c8_high : Nat → Int32) (c8_barred : Nat → Int32) (c8_times : Nat → Int32) (c8_ranges : Nat → Int32) (p1 : Int32) (p2 : Int32) {ra : Int32} {z8_latest : Int32} {z8_came : Nat → Int32} (hf : fX8_is c8_latest c8_rests c8_came c8_kindOf c8_isGone p1 p2 = some (ra, z8_latest, z8_came)) : CI l D cy yX8_is wsX8_is ({ frames := 2, cells := 0, slots := 0, locals := 44 } : Room) [.ref (ad 80), .int p1, .int p2] (w8 cy ad c8_latest c8_asked c8_upper c8_lower c8_legs c8_units c8_rests c8_rates c8_lines c8_came c8_sizes c8_weights c8_growths c8_copied c8_legWay c8_legUnits c8_legStuff c8_unitWay c8_unitStuff c8_xs c8_ys c8_zs c8_kindOf c8_placeOf c8_rateOf c8_readOf c8_isGone c8_theList c8_amounts c8_low c8_high c8_barred c8_times c8_ranges) ra (w8 cy ad z8_latest c8_asked c8_upper c8_lower c8_legs c8_units c8_rests c8_rates c8_lines z8_came c8_sizes c8_weights c8_growths c8_copied c8_legWay c8_legUnits c8_legStuff c8_unitWay c8_unitStuff c8_xs c8_ys c8_zs c8_kindOf c8_placeOf c8_rateOf c8_readOf c8_isGone c8_theList c8_amounts c8_low c8_high c8_barred c8_times c8_ranges) := by
  unfold fX8_is at hf
  refine c_of_i (ty := .int) (own := RX8) (by decide) rfl rfl (Nat.le_of_ble_eq_true rfl) (fun X hC hRet => ?_)
  refine r_sub [(0, .ref (ad 80)), (1, .int p1), (2, .int p2)] [0, 1, 2] rfl ?_
  have hin8 : ∀ w ∈ wsX80, w ∈ wsX8_is := fun w h => List.mem_cons_of_mem _ (List.mem_append_right _ h)
  have hw0 : Cond.fieldLink RX8 50 "HotPipesModel" "kindOf" "[I" ∈ wsX8_is := List.mem_of_getElem? (i := 1) rfl
  refine r_aload_n hC dX8_is_0 rfl 0 rfl ?_
  refine r_iload_n hC dX8_is_1 rfl 2 rfl ?_
  refine r_iconst hC dX8_is_2 ic_0 ?_
  refine r_iconst hC dX8_is_3 ic_3 ?_
  obtain ⟨r1, h2, hf⟩ := ob_some hf
  refine r_si (st := [.ref (ad 80)]) hC (kX8_in l D cy p2 0 3 h2) gX8_is_X8_in rfl ⟨rfl, rfl⟩ ydX8_in ⟨Nat.le_of_ble_eq_true rfl, Nat.le_of_ble_eq_true rfl⟩ ⟨Nat.le_refl 0, Nat.le_refl 0⟩ _ rfl (Nat.le_of_ble_eq_true rfl) dX8_is_4 ?_
  refine r_iload_n hC dX8_is_7 rfl 1 rfl ?_
  obtain ⟨r3, s4, s5, h6, hf⟩ := ob3_some hf
  refine r_vi (st := []) hC (kX8_need l D cy ad c8_latest c8_asked c8_upper c8_lower c8_legs c8_units c8_rests c8_rates c8_lines c8_came c8_sizes c8_weights c8_growths c8_copied c8_legWay c8_legUnits c8_legStuff c8_unitWay c8_unitStuff c8_xs c8_ys c8_zs c8_kindOf c8_placeOf c8_rateOf c8_readOf c8_isGone c8_theList c8_amounts c8_low c8_high c8_barred c8_times c8_ranges r1 p1 h6) gX8_is_X8_need rfl ⟨rfl, rfl⟩ ydX8_need ⟨Nat.le_of_ble_eq_true rfl, Nat.le_of_ble_eq_true rfl⟩ ⟨Nat.le_refl 0, Nat.le_refl 0⟩ 0 rfl rfl [] [] rfl _ rfl (Nat.le_of_ble_eq_true rfl) dX8_is_8 (w8 cy ad s4 c8_asked c8_upper c8_lower c8_legs c8_units c8_rests c8_rates c8_lines s5 c8_sizes c8_weights c8_growths c8_copied c8_legWay c8_legUnits c8_legStuff c8_unitWay c8_unitStuff c8_xs c8_ys c8_zs c8_kindOf c8_placeOf c8_rateOf c8_readOf c8_isGone c8_theList c8_amounts c8_low c8_high c8_barred c8_times c8_ranges) rfl ?_
  refine r_istore_n hC [(3, .int r3), (0, .ref (ad 80)), (1, .int p1), (2, .int p2)] dX8_is_11 rfl (by decide) rfl ?_
  refine r_iload_n hC dX8_is_12 rfl 0 rfl ?_
  refine r_if_ge (tgt := 18) hC dX8_is_13 (by decide) (fun c7 => ?_) (fun c7 => ?_)
  · replace hf := o_pos hf c7
    refine r_iload_n hC dX8_is_18 rfl 3 rfl ?_
    obtain ⟨K47_8, eK47_8, hf⟩ := oj_some hf
    have J47_8 : K47_8 = some (ra, z8_latest, z8_came) → GG X 4 0 0 (w8 cy ad s4 c8_asked c8_upper c8_lower c8_legs c8_units c8_rests c8_rates c8_lines s5 c8_sizes c8_weights c8_growths c8_copied c8_legWay c8_legUnits c8_legStuff c8_unitWay c8_unitStuff c8_xs c8_ys c8_zs c8_kindOf c8_placeOf c8_rateOf c8_readOf c8_isGone c8_theList c8_amounts c8_low c8_high c8_barred c8_times c8_ranges) [] 47 [] := by
      intro hf
      replace hf := oa0 eK47_8 hf
      refine r_iconst hC dX8_is_47 ic_1 ?_
      refine r_goto (tgt := 52) hC dX8_is_48 (by decide) ?_
      obtain ⟨rfl, rfl, rfl⟩ := so_3 hf
      exact hRet _ _ _ dX8_is_52 rfl
    refine r_if_eq (tgt := 47) hC dX8_is_19 (by decide) (fun c9 => ?_) (fun c9 => ?_)
    · replace hf := o_pos hf c9
      refine r_sub [] [] rfl ?_
      exact J47_8 hf
    · replace hf := o_neg hf c9
      refine r_aload_n hC dX8_is_22 rfl 1 rfl ?_
      refine r_get hC hin8 0 rfl rfl 20 (by decide) rfl hw0 rfl dX8_is_23 ?_
      refine r_iload_n hC dX8_is_26 rfl 2 rfl ?_
      obtain ⟨g10, hf⟩ := og_some hf
      refine r_iald hC 14 rfl g10 dX8_is_27 ?_
      refine r_iload_n hC dX8_is_28 rfl 3 rfl ?_
      refine r_icmp_eq (tgt := 47) hC dX8_is_29 (by decide) (fun c11 => ?_) (fun c11 => ?_)
      · replace hf := o_pos hf c11
        refine r_sub [] [] rfl ?_
        exact J47_8 hf
      · replace hf := o_neg hf c11
        refine r_iload_n hC dX8_is_32 rfl 3 rfl ?_
        refine r_iconst hC dX8_is_33 ic_1 ?_
        obtain ⟨K51_12, eK51_12, hf⟩ := oj_some hf
        have J51_12 : K51_12 = some (ra, z8_latest, z8_came) → GG X 4 0 0 (w8 cy ad s4 c8_asked c8_upper c8_lower c8_legs c8_units c8_rests c8_rates c8_lines s5 c8_sizes c8_weights c8_growths c8_copied c8_legWay c8_legUnits c8_legStuff c8_unitWay c8_unitStuff c8_xs c8_ys c8_zs c8_kindOf c8_placeOf c8_rateOf c8_readOf c8_isGone c8_theList c8_amounts c8_low c8_high c8_barred c8_times c8_ranges) [] 51 [] := by
          intro hf
          replace hf := oa0 eK51_12 hf
          refine r_iconst hC dX8_is_51 ic_0 ?_
          obtain ⟨rfl, rfl, rfl⟩ := so_3 hf
          exact hRet _ _ _ dX8_is_52 rfl
        refine r_icmp_ne (tgt := 51) hC dX8_is_34 (by decide) (fun c13 => ?_) (fun c13 => ?_)
        · replace hf := o_neg hf c13
          refine r_sub [] [] rfl ?_
          exact J51_12 hf
        · replace hf := o_pos hf c13
          refine r_aload_n hC dX8_is_37 rfl 1 rfl ?_
          refine r_get hC hin8 0 rfl rfl 20 (by decide) rfl hw0 rfl dX8_is_38 ?_
          refine r_iload_n hC dX8_is_41 rfl 2 rfl ?_
          obtain ⟨g14, hf⟩ := og_some hf
          refine r_iald hC 14 rfl g14 dX8_is_42 ?_
          refine r_iconst hC dX8_is_43 ic_2 ?_
          refine r_icmp_ne (tgt := 51) hC dX8_is_44 (by decide) (fun c15 => ?_) (fun c15 => ?_)
          · replace hf := o_neg hf c15
            refine r_sub [] [] rfl ?_
            exact J51_12 hf
          · replace hf := o_pos hf c15
            refine r_sub [] [] rfl ?_
            exact J47_8 hf
  · replace hf := o_neg hf c7
    refine r_iload_n hC dX8_is_16 rfl 0 rfl ?_
    obtain ⟨rfl, rfl, rfl⟩ := so_3 hf
    exact hRet _ _ _ dX8_is_17 rfl
noncomputable def fX8_isLifted (N : Nat) (c8_units : Int32) (c8_sizes : Nat → Int32) (c8_growths : Nat → Int32) (c8_unitWay : Nat → Int32) (c8_unitStuff : Nat → Int32) (c8_kindOf : Nat → Int32) (c8_placeOf : Nat → Int32) (c8_isGone : Nat → Int32) (p1 : Int32) (p2 : Int32) : Option (Int32) := ob (fX8_isThere c8_units c8_placeOf c8_isGone p1) (fun (r1 : Int32) => oj (some 0) (fun (K37_3 : Option (Int32)) => (if r1 = 0 then K37_3 else og (vp_in p1 12) ((if 2 ≤ (c8_kindOf (Int32.toNatClampNeg p1)) then K37_3 else og (vp_in p1 12) (ob (fX8_grownTo N c8_units c8_sizes c8_growths c8_unitWay c8_unitStuff (c8_placeOf (Int32.toNatClampNeg p1)) p2 2) (fun (r8 : Int32) => (if r8 ≤ 0 then K37_3 else some 1))))))))
theorem ydX8_isLifted : yX8_isLifted.cls = RX8 ∧ yX8_isLifted.cls ≠ "java/lang/invoke/MethodHandle" ∧ yX8_isLifted.cls ≠ "java/lang/invoke/VarHandle" ∧ (parseMethodDescriptor yX8_isLifted.desc).map (fun d => d.parameters.length) = some 2 := by decide +kernel
set_option maxHeartbeats 8000000 in
set_option maxRecDepth 100000 in
theorem kX8_isLifted (l : Launch) (D : va_G) (cy : Nat → ClassId) (ad : Nat → Nat) (c8_latest : Int32) (c8_asked : Int32) (c8_upper : Int64) (c8_lower : Int64) (c8_legs : Int32) (c8_units : Int32) (c8_rests : Int32) (c8_rates : Int32) (c8_lines : Int32) (c8_came : Nat → Int32) (c8_sizes : Nat → Int32) (c8_weights : Nat → Int32) (c8_growths : Nat → Int32) (c8_copied : Nat → Int32) (c8_legWay : Nat → Int32) (c8_legUnits : Nat → Int32) (c8_legStuff : Nat → Int32) (c8_unitWay : Nat → Int32) (c8_unitStuff : Nat → Int32) (c8_xs : Nat → Int32) (c8_ys : Nat → Int32) (c8_zs : Nat → Int32) (c8_kindOf : Nat → Int32) (c8_placeOf : Nat → Int32) (c8_rateOf : Nat → Int32) (c8_readOf : Nat → Int32) (c8_isGone : Nat → Int32) (c8_theList : Nat → Int32) (c8_amounts : Nat → Int32) (c8_low : Nat → Int32) (c8_high : Nat → Int32) (c8_barred : Nat → Int32) (c8_times : Nat → Int32) (c8_ranges : Nat → Int32) (p1 : Int32) (p2 : Int32) (N : Nat) {ra : Int32} (hf : fX8_isLifted N c8_units c8_sizes c8_growths c8_unitWay c8_unitStuff c8_kindOf c8_placeOf c8_isGone p1 p2 = some ra) : CI l D cy yX8_isLifted wsX8_isLifted ({ frames := 2, cells := 0, slots := 0, locals := 47 } : Room) [.ref (ad 80), .int p1, .int p2] (w8 cy ad c8_latest c8_asked c8_upper c8_lower c8_legs c8_units c8_rests c8_rates c8_lines c8_came c8_sizes c8_weights c8_growths c8_copied c8_legWay c8_legUnits c8_legStuff c8_unitWay c8_unitStuff c8_xs c8_ys c8_zs c8_kindOf c8_placeOf c8_rateOf c8_readOf c8_isGone c8_theList c8_amounts c8_low c8_high c8_barred c8_times c8_ranges) ra (w8 cy ad c8_latest c8_asked c8_upper c8_lower c8_legs c8_units c8_rests c8_rates c8_lines c8_came c8_sizes c8_weights c8_growths c8_copied c8_legWay c8_legUnits c8_legStuff c8_unitWay c8_unitStuff c8_xs c8_ys c8_zs c8_kindOf c8_placeOf c8_rateOf c8_readOf c8_isGone c8_theList c8_amounts c8_low c8_high c8_barred c8_times c8_ranges) := by
  unfold fX8_isLifted at hf
  refine c_of_i (ty := .boolean) (own := RX8) (by decide) rfl rfl (Nat.le_of_ble_eq_true rfl) (fun X hC hRet => ?_)
  refine r_sub [(0, .ref (ad 80)), (1, .int p1), (2, .int p2)] [0, 1, 2] rfl ?_
  have hin8 : ∀ w ∈ wsX80, w ∈ wsX8_isLifted := fun w h => List.mem_cons_of_mem _ (List.mem_append_right _ h)
  have hw0 : Cond.fieldLink RX8 50 "HotPipesModel" "kindOf" "[I" ∈ wsX8_isLifted := List.mem_of_getElem? (i := 1) rfl
  have hw1 : Cond.fieldLink RX8 53 "HotPipesModel" "placeOf" "[I" ∈ wsX8_isLifted := List.mem_of_getElem? (i := 2) rfl
  refine r_aload_n hC dX8_isLifted_0 rfl 0 rfl ?_
  refine r_iload_n hC dX8_isLifted_1 rfl 1 rfl ?_
  obtain ⟨r1, h2, hf⟩ := ob_some hf
  refine r_vi (st := []) hC (kX8_isThere l D cy ad c8_latest c8_asked c8_upper c8_lower c8_legs c8_units c8_rests c8_rates c8_lines c8_came c8_sizes c8_weights c8_growths c8_copied c8_legWay c8_legUnits c8_legStuff c8_unitWay c8_unitStuff c8_xs c8_ys c8_zs c8_kindOf c8_placeOf c8_rateOf c8_readOf c8_isGone c8_theList c8_amounts c8_low c8_high c8_barred c8_times c8_ranges p1 h2) gX8_isLifted_X8_isThere rfl ⟨rfl, rfl⟩ ydX8_isThere ⟨Nat.le_of_ble_eq_true rfl, Nat.le_of_ble_eq_true rfl⟩ ⟨Nat.le_refl 0, Nat.le_refl 0⟩ 0 rfl rfl [] [] rfl _ rfl (Nat.le_of_ble_eq_true rfl) dX8_isLifted_2 (w8 cy ad c8_latest c8_asked c8_upper c8_lower c8_legs c8_units c8_rests c8_rates c8_lines c8_came c8_sizes c8_weights c8_growths c8_copied c8_legWay c8_legUnits c8_legStuff c8_unitWay c8_unitStuff c8_xs c8_ys c8_zs c8_kindOf c8_placeOf c8_rateOf c8_readOf c8_isGone c8_theList c8_amounts c8_low c8_high c8_barred c8_times c8_ranges) rfl ?_
  obtain ⟨K37_3, eK37_3, hf⟩ := oj_some hf
  have J37_3 : K37_3 = some ra → GG X 3 0 0 (w8 cy ad c8_latest c8_asked c8_upper c8_lower c8_legs c8_units c8_rests c8_rates c8_lines c8_came c8_sizes c8_weights c8_growths c8_copied c8_legWay c8_legUnits c8_legStuff c8_unitWay c8_unitStuff c8_xs c8_ys c8_zs c8_kindOf c8_placeOf c8_rateOf c8_readOf c8_isGone c8_theList c8_amounts c8_low c8_high c8_barred c8_times c8_ranges) [] 37 [] := by
    intro hf
    replace hf := oa0 eK37_3 hf
    refine r_iconst hC dX8_isLifted_37 ic_0 ?_
    obtain rfl := so_1 hf
    exact hRet _ _ _ dX8_isLifted_38 nb_0
  refine r_if_eq (tgt := 37) hC dX8_isLifted_5 (by decide) (fun c4 => ?_) (fun c4 => ?_)
  · replace hf := o_pos hf c4
    refine r_sub [] [] rfl ?_
    exact J37_3 hf
  · replace hf := o_neg hf c4
    refine r_aload_n hC dX8_isLifted_8 rfl 0 rfl ?_
    refine r_get hC hin8 0 rfl rfl 20 (by decide) rfl hw0 rfl dX8_isLifted_9 ?_
    refine r_iload_n hC dX8_isLifted_12 rfl 1 rfl ?_
    obtain ⟨g5, hf⟩ := og_some hf
    refine r_iald hC 14 rfl g5 dX8_isLifted_13 ?_
    refine r_iconst hC dX8_isLifted_14 ic_2 ?_
    refine r_icmp_ge (tgt := 37) hC dX8_isLifted_15 (by decide) (fun c6 => ?_) (fun c6 => ?_)
    · replace hf := o_pos hf c6
      refine r_sub [] [] rfl ?_
      exact J37_3 hf
    · replace hf := o_neg hf c6
      refine r_aload_n hC dX8_isLifted_18 rfl 0 rfl ?_
      refine r_aload_n hC dX8_isLifted_19 rfl 0 rfl ?_
      refine r_get hC hin8 0 rfl rfl 21 (by decide) rfl hw1 rfl dX8_isLifted_20 ?_
      refine r_iload_n hC dX8_isLifted_23 rfl 1 rfl ?_
      obtain ⟨g7, hf⟩ := og_some hf
      refine r_iald hC 15 rfl g7 dX8_isLifted_24 ?_
      refine r_iload_n hC dX8_isLifted_25 rfl 2 rfl ?_
      refine r_iconst hC dX8_isLifted_26 ic_2 ?_
      obtain ⟨r8, h9, hf⟩ := ob_some hf
      refine r_vi (st := []) hC (kX8_grownTo l D cy ad c8_latest c8_asked c8_upper c8_lower c8_legs c8_units c8_rests c8_rates c8_lines c8_came c8_sizes c8_weights c8_growths c8_copied c8_legWay c8_legUnits c8_legStuff c8_unitWay c8_unitStuff c8_xs c8_ys c8_zs c8_kindOf c8_placeOf c8_rateOf c8_readOf c8_isGone c8_theList c8_amounts c8_low c8_high c8_barred c8_times c8_ranges (c8_placeOf (Int32.toNatClampNeg p1)) p2 2 N h9) gX8_isLifted_X8_grownTo rfl ⟨rfl, rfl⟩ ydX8_grownTo ⟨Nat.le_of_ble_eq_true rfl, Nat.le_of_ble_eq_true rfl⟩ ⟨Nat.le_refl 0, Nat.le_refl 0⟩ 0 rfl rfl [] [] rfl _ rfl (Nat.le_of_ble_eq_true rfl) dX8_isLifted_27 (w8 cy ad c8_latest c8_asked c8_upper c8_lower c8_legs c8_units c8_rests c8_rates c8_lines c8_came c8_sizes c8_weights c8_growths c8_copied c8_legWay c8_legUnits c8_legStuff c8_unitWay c8_unitStuff c8_xs c8_ys c8_zs c8_kindOf c8_placeOf c8_rateOf c8_readOf c8_isGone c8_theList c8_amounts c8_low c8_high c8_barred c8_times c8_ranges) rfl ?_
      refine r_if_le (tgt := 37) hC dX8_isLifted_30 (by decide) (fun c10 => ?_) (fun c10 => ?_)
      · replace hf := o_pos hf c10
        refine r_sub [] [] rfl ?_
        exact J37_3 hf
      · replace hf := o_neg hf c10
        refine r_iconst hC dX8_isLifted_33 ic_1 ?_
        refine r_goto (tgt := 38) hC dX8_isLifted_34 (by decide) ?_
        obtain rfl := so_1 hf
        exact hRet _ _ _ dX8_isLifted_38 nb_1
noncomputable def fX8_lifts (N : Nat) (c8_latest : Int32) (c8_units : Int32) (c8_rests : Int32) (c8_came : Nat → Int32) (c8_sizes : Nat → Int32) (c8_growths : Nat → Int32) (c8_unitWay : Nat → Int32) (c8_unitStuff : Nat → Int32) (c8_kindOf : Nat → Int32) (c8_placeOf : Nat → Int32) (c8_isGone : Nat → Int32) (p1 : Int32) (p2 : Int32) : Option (Int32 × Int32 × (Nat → Int32)) := ob (fX8_isStep p2) (fun (r1 : Int32) => ob3 (fX8_need c8_latest c8_rests c8_came c8_isGone r1 p1) (fun (r3 : Int32) (s4 : Int32) (s5 : Nat → Int32) => (if 0 ≤ r3 then ob (fX8_isLifted N c8_units c8_sizes c8_growths c8_unitWay c8_unitStuff c8_kindOf c8_placeOf c8_isGone p1 p2) (fun (r8 : Int32) => (if r8 = 0 then some (0, s4, s5) else some (1, s4, s5))) else some (r3, s4, s5))))
theorem ydX8_lifts : yX8_lifts.cls = RX8 ∧ yX8_lifts.cls ≠ "java/lang/invoke/MethodHandle" ∧ yX8_lifts.cls ≠ "java/lang/invoke/VarHandle" ∧ (parseMethodDescriptor yX8_lifts.desc).map (fun d => d.parameters.length) = some 2 := by decide +kernel
set_option maxHeartbeats 8000000 in
set_option maxRecDepth 100000 in
theorem kX8_lifts (l : Launch) (D : va_G) (cy : Nat → ClassId) (ad : Nat → Nat) (c8_latest : Int32) (c8_asked : Int32) (c8_upper : Int64) (c8_lower : Int64) (c8_legs : Int32) (c8_units : Int32) (c8_rests : Int32) (c8_rates : Int32) (c8_lines : Int32) (c8_came : Nat → Int32) (c8_sizes : Nat → Int32) (c8_weights : Nat → Int32) (c8_growths : Nat → Int32) (c8_copied : Nat → Int32) (c8_legWay : Nat → Int32) (c8_legUnits : Nat → Int32) (c8_legStuff : Nat → Int32) (c8_unitWay : Nat → Int32) (c8_unitStuff : Nat → Int32) (c8_xs : Nat → Int32) (c8_ys : Nat → Int32) (c8_zs : Nat → Int32) (c8_kindOf : Nat → Int32) (c8_placeOf : Nat → Int32) (c8_rateOf : Nat → Int32) (c8_readOf : Nat → Int32) (c8_isGone : Nat → Int32) (c8_theList : Nat → Int32) (c8_amounts : Nat → Int32) (c8_low : Nat → Int32) (c8_high : Nat → Int32) (c8_barred : Nat → Int32) (c8_times : Nat → Int32) (c8_ranges : Nat → Int32) (p1 : Int32) (p2 : Int32) (N : Nat) {ra : Int32} {z8_latest : Int32} {z8_came : Nat → Int32} (hf : fX8_lifts N c8_latest c8_units c8_rests c8_came c8_sizes c8_growths c8_unitWay c8_unitStuff c8_kindOf c8_placeOf c8_isGone p1 p2 = some (ra, z8_latest, z8_came)) : CI l D cy yX8_lifts wsX8_lifts ({ frames := 3, cells := 0, slots := 0, locals := 69 } : Room) [.ref (ad 80), .int p1, .int p2] (w8 cy ad c8_latest c8_asked c8_upper c8_lower c8_legs c8_units c8_rests c8_rates c8_lines c8_came c8_sizes c8_weights c8_growths c8_copied c8_legWay c8_legUnits c8_legStuff c8_unitWay c8_unitStuff c8_xs c8_ys c8_zs c8_kindOf c8_placeOf c8_rateOf c8_readOf c8_isGone c8_theList c8_amounts c8_low c8_high c8_barred c8_times c8_ranges) ra (w8 cy ad z8_latest c8_asked c8_upper c8_lower c8_legs c8_units c8_rests c8_rates c8_lines z8_came c8_sizes c8_weights c8_growths c8_copied c8_legWay c8_legUnits c8_legStuff c8_unitWay c8_unitStuff c8_xs c8_ys c8_zs c8_kindOf c8_placeOf c8_rateOf c8_readOf c8_isGone c8_theList c8_amounts c8_low c8_high c8_barred c8_times c8_ranges) := by
  unfold fX8_lifts at hf
  refine c_of_i (ty := .int) (own := RX8) (by decide) rfl rfl (Nat.le_of_ble_eq_true rfl) (fun X hC hRet => ?_)
  refine r_sub [(0, .ref (ad 80)), (1, .int p1), (2, .int p2)] [0, 1, 2] rfl ?_
  refine r_aload_n hC dX8_lifts_0 rfl 0 rfl ?_
  refine r_iload_n hC dX8_lifts_1 rfl 2 rfl ?_
  obtain ⟨r1, h2, hf⟩ := ob_some hf
  refine r_si (st := [.ref (ad 80)]) hC (kX8_isStep l D cy p2 h2) gX8_lifts_X8_isStep rfl ⟨rfl, rfl⟩ ydX8_isStep ⟨Nat.le_of_ble_eq_true rfl, Nat.le_of_ble_eq_true rfl⟩ ⟨Nat.le_refl 0, Nat.le_refl 0⟩ _ rfl (Nat.le_of_ble_eq_true rfl) dX8_lifts_2 ?_
  refine r_iload_n hC dX8_lifts_5 rfl 1 rfl ?_
  obtain ⟨r3, s4, s5, h6, hf⟩ := ob3_some hf
  refine r_vi (st := []) hC (kX8_need l D cy ad c8_latest c8_asked c8_upper c8_lower c8_legs c8_units c8_rests c8_rates c8_lines c8_came c8_sizes c8_weights c8_growths c8_copied c8_legWay c8_legUnits c8_legStuff c8_unitWay c8_unitStuff c8_xs c8_ys c8_zs c8_kindOf c8_placeOf c8_rateOf c8_readOf c8_isGone c8_theList c8_amounts c8_low c8_high c8_barred c8_times c8_ranges r1 p1 h6) gX8_lifts_X8_need rfl ⟨rfl, rfl⟩ ydX8_need ⟨Nat.le_of_ble_eq_true rfl, Nat.le_of_ble_eq_true rfl⟩ ⟨Nat.le_refl 0, Nat.le_refl 0⟩ 0 rfl rfl [] [] rfl _ rfl (Nat.le_of_ble_eq_true rfl) dX8_lifts_6 (w8 cy ad s4 c8_asked c8_upper c8_lower c8_legs c8_units c8_rests c8_rates c8_lines s5 c8_sizes c8_weights c8_growths c8_copied c8_legWay c8_legUnits c8_legStuff c8_unitWay c8_unitStuff c8_xs c8_ys c8_zs c8_kindOf c8_placeOf c8_rateOf c8_readOf c8_isGone c8_theList c8_amounts c8_low c8_high c8_barred c8_times c8_ranges) rfl ?_
  refine r_istore_n hC [(3, .int r3), (0, .ref (ad 80)), (1, .int p1), (2, .int p2)] dX8_lifts_9 rfl (by decide) rfl ?_
  refine r_iload_n hC dX8_lifts_10 rfl 0 rfl ?_
  refine r_if_ge (tgt := 18) hC dX8_lifts_11 (by decide) (fun c7 => ?_) (fun c7 => ?_)
  · replace hf := o_pos hf c7
    refine r_aload_n hC dX8_lifts_18 rfl 1 rfl ?_
    refine r_iload_n hC dX8_lifts_19 rfl 2 rfl ?_
    refine r_iload_n hC dX8_lifts_20 rfl 3 rfl ?_
    obtain ⟨r8, h9, hf⟩ := ob_some hf
    refine r_vi (st := []) hC (kX8_isLifted l D cy ad s4 c8_asked c8_upper c8_lower c8_legs c8_units c8_rests c8_rates c8_lines s5 c8_sizes c8_weights c8_growths c8_copied c8_legWay c8_legUnits c8_legStuff c8_unitWay c8_unitStuff c8_xs c8_ys c8_zs c8_kindOf c8_placeOf c8_rateOf c8_readOf c8_isGone c8_theList c8_amounts c8_low c8_high c8_barred c8_times c8_ranges p1 p2 N h9) gX8_lifts_X8_isLifted rfl ⟨rfl, rfl⟩ ydX8_isLifted ⟨Nat.le_of_ble_eq_true rfl, Nat.le_of_ble_eq_true rfl⟩ ⟨Nat.le_refl 0, Nat.le_refl 0⟩ 0 rfl rfl [] [] rfl _ rfl (Nat.le_of_ble_eq_true rfl) dX8_lifts_21 (w8 cy ad s4 c8_asked c8_upper c8_lower c8_legs c8_units c8_rests c8_rates c8_lines s5 c8_sizes c8_weights c8_growths c8_copied c8_legWay c8_legUnits c8_legStuff c8_unitWay c8_unitStuff c8_xs c8_ys c8_zs c8_kindOf c8_placeOf c8_rateOf c8_readOf c8_isGone c8_theList c8_amounts c8_low c8_high c8_barred c8_times c8_ranges) rfl ?_
    refine r_if_eq (tgt := 31) hC dX8_lifts_24 (by decide) (fun c10 => ?_) (fun c10 => ?_)
    · replace hf := o_pos hf c10
      refine r_iconst hC dX8_lifts_31 ic_0 ?_
      obtain ⟨rfl, rfl, rfl⟩ := so_3 hf
      exact hRet _ _ _ dX8_lifts_32 rfl
    · replace hf := o_neg hf c10
      refine r_iconst hC dX8_lifts_27 ic_1 ?_
      refine r_goto (tgt := 32) hC dX8_lifts_28 (by decide) ?_
      obtain ⟨rfl, rfl, rfl⟩ := so_3 hf
      exact hRet _ _ _ dX8_lifts_32 rfl
  · replace hf := o_neg hf c7
    refine r_iload_n hC dX8_lifts_14 rfl 0 rfl ?_
    refine r_goto (tgt := 32) hC dX8_lifts_15 (by decide) ?_
    obtain ⟨rfl, rfl, rfl⟩ := so_3 hf
    exact hRet _ _ _ dX8_lifts_32 rfl
noncomputable def fX8_isBearing (N : Nat) (c8_units : Int32) (c8_sizes : Nat → Int32) (c8_growths : Nat → Int32) (c8_unitWay : Nat → Int32) (c8_unitStuff : Nat → Int32) (c8_kindOf : Nat → Int32) (c8_placeOf : Nat → Int32) (c8_isGone : Nat → Int32) (p1 : Int32) (p2 : Int32) : Option (Int32) := ob (fX8_isThere c8_units c8_placeOf c8_isGone p1) (fun (r1 : Int32) => oj (some 0) (fun (K31_3 : Option (Int32)) => (if r1 = 0 then K31_3 else og (vp_in p1 12) ((if (c8_kindOf (Int32.toNatClampNeg p1)) = 3 then K31_3 else ob (fX8_isLifted N c8_units c8_sizes c8_growths c8_unitWay c8_unitStuff c8_kindOf c8_placeOf c8_isGone p1 p2) (fun (r7 : Int32) => (if r7 = 0 then some 1 else K31_3)))))))
theorem ydX8_isBearing : yX8_isBearing.cls = RX8 ∧ yX8_isBearing.cls ≠ "java/lang/invoke/MethodHandle" ∧ yX8_isBearing.cls ≠ "java/lang/invoke/VarHandle" ∧ (parseMethodDescriptor yX8_isBearing.desc).map (fun d => d.parameters.length) = some 2 := by decide +kernel
set_option maxHeartbeats 8000000 in
set_option maxRecDepth 100000 in
theorem kX8_isBearing (l : Launch) (D : va_G) (cy : Nat → ClassId) (ad : Nat → Nat) (c8_latest : Int32) (c8_asked : Int32) (c8_upper : Int64) (c8_lower : Int64) (c8_legs : Int32) (c8_units : Int32) (c8_rests : Int32) (c8_rates : Int32) (c8_lines : Int32) (c8_came : Nat → Int32) (c8_sizes : Nat → Int32) (c8_weights : Nat → Int32) (c8_growths : Nat → Int32) (c8_copied : Nat → Int32) (c8_legWay : Nat → Int32) (c8_legUnits : Nat → Int32) (c8_legStuff : Nat → Int32) (c8_unitWay : Nat → Int32) (c8_unitStuff : Nat → Int32) (c8_xs : Nat → Int32) (c8_ys : Nat → Int32) (c8_zs : Nat → Int32) (c8_kindOf : Nat → Int32) (c8_placeOf : Nat → Int32) (c8_rateOf : Nat → Int32) (c8_readOf : Nat → Int32) (c8_isGone : Nat → Int32) (c8_theList : Nat → Int32) (c8_amounts : Nat → Int32) (c8_low : Nat → Int32) (c8_high : Nat → Int32) (c8_barred : Nat → Int32) (c8_times : Nat → Int32) (c8_ranges : Nat → Int32) (p1 : Int32) (p2 : Int32) (N : Nat) {ra : Int32} (hf : fX8_isBearing N c8_units c8_sizes c8_growths c8_unitWay c8_unitStuff c8_kindOf c8_placeOf c8_isGone p1 p2 = some ra) : CI l D cy yX8_isBearing wsX8_isBearing ({ frames := 3, cells := 0, slots := 0, locals := 69 } : Room) [.ref (ad 80), .int p1, .int p2] (w8 cy ad c8_latest c8_asked c8_upper c8_lower c8_legs c8_units c8_rests c8_rates c8_lines c8_came c8_sizes c8_weights c8_growths c8_copied c8_legWay c8_legUnits c8_legStuff c8_unitWay c8_unitStuff c8_xs c8_ys c8_zs c8_kindOf c8_placeOf c8_rateOf c8_readOf c8_isGone c8_theList c8_amounts c8_low c8_high c8_barred c8_times c8_ranges) ra (w8 cy ad c8_latest c8_asked c8_upper c8_lower c8_legs c8_units c8_rests c8_rates c8_lines c8_came c8_sizes c8_weights c8_growths c8_copied c8_legWay c8_legUnits c8_legStuff c8_unitWay c8_unitStuff c8_xs c8_ys c8_zs c8_kindOf c8_placeOf c8_rateOf c8_readOf c8_isGone c8_theList c8_amounts c8_low c8_high c8_barred c8_times c8_ranges) := by
  unfold fX8_isBearing at hf
  refine c_of_i (ty := .boolean) (own := RX8) (by decide) rfl rfl (Nat.le_of_ble_eq_true rfl) (fun X hC hRet => ?_)
  refine r_sub [(0, .ref (ad 80)), (1, .int p1), (2, .int p2)] [0, 1, 2] rfl ?_
  have hin8 : ∀ w ∈ wsX80, w ∈ wsX8_isBearing := fun w h => List.mem_cons_of_mem _ (List.mem_append_right _ h)
  have hw0 : Cond.fieldLink RX8 50 "HotPipesModel" "kindOf" "[I" ∈ wsX8_isBearing := List.mem_of_getElem? (i := 1) rfl
  refine r_aload_n hC dX8_isBearing_0 rfl 0 rfl ?_
  refine r_iload_n hC dX8_isBearing_1 rfl 1 rfl ?_
  obtain ⟨r1, h2, hf⟩ := ob_some hf
  refine r_vi (st := []) hC (kX8_isThere l D cy ad c8_latest c8_asked c8_upper c8_lower c8_legs c8_units c8_rests c8_rates c8_lines c8_came c8_sizes c8_weights c8_growths c8_copied c8_legWay c8_legUnits c8_legStuff c8_unitWay c8_unitStuff c8_xs c8_ys c8_zs c8_kindOf c8_placeOf c8_rateOf c8_readOf c8_isGone c8_theList c8_amounts c8_low c8_high c8_barred c8_times c8_ranges p1 h2) gX8_isBearing_X8_isThere rfl ⟨rfl, rfl⟩ ydX8_isThere ⟨Nat.le_of_ble_eq_true rfl, Nat.le_of_ble_eq_true rfl⟩ ⟨Nat.le_refl 0, Nat.le_refl 0⟩ 0 rfl rfl [] [] rfl _ rfl (Nat.le_of_ble_eq_true rfl) dX8_isBearing_2 (w8 cy ad c8_latest c8_asked c8_upper c8_lower c8_legs c8_units c8_rests c8_rates c8_lines c8_came c8_sizes c8_weights c8_growths c8_copied c8_legWay c8_legUnits c8_legStuff c8_unitWay c8_unitStuff c8_xs c8_ys c8_zs c8_kindOf c8_placeOf c8_rateOf c8_readOf c8_isGone c8_theList c8_amounts c8_low c8_high c8_barred c8_times c8_ranges) rfl ?_
  obtain ⟨K31_3, eK31_3, hf⟩ := oj_some hf
  have J31_3 : K31_3 = some ra → GG X 3 0 0 (w8 cy ad c8_latest c8_asked c8_upper c8_lower c8_legs c8_units c8_rests c8_rates c8_lines c8_came c8_sizes c8_weights c8_growths c8_copied c8_legWay c8_legUnits c8_legStuff c8_unitWay c8_unitStuff c8_xs c8_ys c8_zs c8_kindOf c8_placeOf c8_rateOf c8_readOf c8_isGone c8_theList c8_amounts c8_low c8_high c8_barred c8_times c8_ranges) [] 31 [] := by
    intro hf
    replace hf := oa0 eK31_3 hf
    refine r_iconst hC dX8_isBearing_31 ic_0 ?_
    obtain rfl := so_1 hf
    exact hRet _ _ _ dX8_isBearing_32 nb_0
  refine r_if_eq (tgt := 31) hC dX8_isBearing_5 (by decide) (fun c4 => ?_) (fun c4 => ?_)
  · replace hf := o_pos hf c4
    refine r_sub [] [] rfl ?_
    exact J31_3 hf
  · replace hf := o_neg hf c4
    refine r_aload_n hC dX8_isBearing_8 rfl 0 rfl ?_
    refine r_get hC hin8 0 rfl rfl 20 (by decide) rfl hw0 rfl dX8_isBearing_9 ?_
    refine r_iload_n hC dX8_isBearing_12 rfl 1 rfl ?_
    obtain ⟨g5, hf⟩ := og_some hf
    refine r_iald hC 14 rfl g5 dX8_isBearing_13 ?_
    refine r_iconst hC dX8_isBearing_14 ic_3 ?_
    refine r_icmp_eq (tgt := 31) hC dX8_isBearing_15 (by decide) (fun c6 => ?_) (fun c6 => ?_)
    · replace hf := o_pos hf c6
      refine r_sub [] [] rfl ?_
      exact J31_3 hf
    · replace hf := o_neg hf c6
      refine r_aload_n hC dX8_isBearing_18 rfl 0 rfl ?_
      refine r_iload_n hC dX8_isBearing_19 rfl 1 rfl ?_
      refine r_iload_n hC dX8_isBearing_20 rfl 2 rfl ?_
      obtain ⟨r7, h8, hf⟩ := ob_some hf
      refine r_vi (st := []) hC (kX8_isLifted l D cy ad c8_latest c8_asked c8_upper c8_lower c8_legs c8_units c8_rests c8_rates c8_lines c8_came c8_sizes c8_weights c8_growths c8_copied c8_legWay c8_legUnits c8_legStuff c8_unitWay c8_unitStuff c8_xs c8_ys c8_zs c8_kindOf c8_placeOf c8_rateOf c8_readOf c8_isGone c8_theList c8_amounts c8_low c8_high c8_barred c8_times c8_ranges p1 p2 N h8) gX8_isBearing_X8_isLifted rfl ⟨rfl, rfl⟩ ydX8_isLifted ⟨Nat.le_of_ble_eq_true rfl, Nat.le_of_ble_eq_true rfl⟩ ⟨Nat.le_refl 0, Nat.le_refl 0⟩ 0 rfl rfl [] [] rfl _ rfl (Nat.le_of_ble_eq_true rfl) dX8_isBearing_21 (w8 cy ad c8_latest c8_asked c8_upper c8_lower c8_legs c8_units c8_rests c8_rates c8_lines c8_came c8_sizes c8_weights c8_growths c8_copied c8_legWay c8_legUnits c8_legStuff c8_unitWay c8_unitStuff c8_xs c8_ys c8_zs c8_kindOf c8_placeOf c8_rateOf c8_readOf c8_isGone c8_theList c8_amounts c8_low c8_high c8_barred c8_times c8_ranges) rfl ?_
      refine r_if_ne (tgt := 31) hC dX8_isBearing_24 (by decide) (fun c9 => ?_) (fun c9 => ?_)
      · replace hf := o_neg hf c9
        refine r_sub [] [] rfl ?_
        exact J31_3 hf
      · replace hf := o_pos hf c9
        refine r_iconst hC dX8_isBearing_27 ic_1 ?_
        refine r_goto (tgt := 32) hC dX8_isBearing_28 (by decide) ?_
        obtain rfl := so_1 hf
        exact hRet _ _ _ dX8_isBearing_32 nb_1
noncomputable def fX8_twice_L151 (c8_weights : Nat → Int32) (c8_unitStuff : Nat → Int32) (x5 : Int32) : Nat → Int32 → Int32 → Option (Int32)
  | 0, _, _ => none
  | n + 1, x7, x8 => (if x5 ≤ x8 then some x7 else og (vp_in x8 240) (og (vp_in (c8_unitStuff (Int32.toNatClampNeg x8)) 4) (olet (x7 + (c8_weights (Int32.toNatClampNeg (c8_unitStuff (Int32.toNatClampNeg x8))))) (fun (x12 : Int32) => fX8_twice_L151 c8_weights c8_unitStuff x5 n x12 (x8 + 1)))))
noncomputable def fX8_twice_L23 (N : Nat) (c8_units : Int32) (c8_rests : Int32) (c8_sizes : Nat → Int32) (c8_growths : Nat → Int32) (c8_unitWay : Nat → Int32) (c8_unitStuff : Nat → Int32) (c8_kindOf : Nat → Int32) (c8_placeOf : Nat → Int32) (c8_isGone : Nat → Int32) (p1 : Int32) (p2 : Int32) (p3 : Int32) (K144_6 : Int32 → Int32 → Option (Int32)) : Nat → Int32 → Int32 → Int32 → Option (Int32)
  | 0, _, _, _ => none
  | n + 1, x13, x14, x15 => (if c8_rests ≤ x15 then K144_6 x13 x14 else ob2 ((if x15 = p1 then some (x13, x14) else (if x15 = p3 then some (x13, x14) else ob (fX8_isBearing N c8_units c8_sizes c8_growths c8_unitWay c8_unitStuff c8_kindOf c8_placeOf c8_isGone x15 p2) (fun (r23 : Int32) => (if r23 = 0 then some (x13, x14) else og (vp_in x15 12) (og (vp_in p1 12) (ob (oj (some x13) (fun (K92_41 : Option (Int32)) => (if (c8_placeOf (Int32.toNatClampNeg p1)) ≤ (c8_placeOf (Int32.toNatClampNeg x15)) then K92_41 else og (vp_in x15 12) ((if (c8_placeOf (Int32.toNatClampNeg x15)) ≤ x13 then K92_41 else og (vp_in x15 12) (some (c8_placeOf (Int32.toNatClampNeg x15)))))))) (fun (t28 : Int32) => og (vp_in x15 12) (og (vp_in p1 12) (ob (oj (some x14) (fun (K134_34 : Option (Int32)) => (if (c8_placeOf (Int32.toNatClampNeg x15)) ≤ (c8_placeOf (Int32.toNatClampNeg p1)) then K134_34 else og (vp_in x15 12) ((if x14 ≤ (c8_placeOf (Int32.toNatClampNeg x15)) then K134_34 else og (vp_in x15 12) (some (c8_placeOf (Int32.toNatClampNeg x15)))))))) (fun (t31 : Int32) => some (t28, t31)))))))))))) (fun (x17 : Int32) (x18 : Int32) => fX8_twice_L23 N c8_units c8_rests c8_sizes c8_growths c8_unitWay c8_unitStuff c8_kindOf c8_placeOf c8_isGone p1 p2 p3 K144_6 n x17 x18 (x15 + 1)))
noncomputable def fX8_twice (N : Nat) (c8_units : Int32) (c8_rests : Int32) (c8_sizes : Nat → Int32) (c8_weights : Nat → Int32) (c8_growths : Nat → Int32) (c8_unitWay : Nat → Int32) (c8_unitStuff : Nat → Int32) (c8_kindOf : Nat → Int32) (c8_placeOf : Nat → Int32) (c8_isGone : Nat → Int32) (p1 : Int32) (p2 : Int32) (p3 : Int32) : Option (Int32) := ob (fX8_isBearing N c8_units c8_sizes c8_growths c8_unitWay c8_unitStuff c8_kindOf c8_placeOf c8_isGone p1 p2) (fun (r1 : Int32) => (if r1 = 0 then some 0 else oj (fun (x4 : Int32) (x5 : Int32) => fX8_twice_L151 c8_weights c8_unitStuff x5 N 0 x4) (fun (K144_6 : Int32 → Int32 → Option (Int32)) => fX8_twice_L23 N c8_units c8_rests c8_sizes c8_growths c8_unitWay c8_unitStuff c8_kindOf c8_placeOf c8_isGone p1 p2 p3 K144_6 N 0 c8_units 0)))
theorem ydX8_twice : yX8_twice.cls = RX8 ∧ yX8_twice.cls ≠ "java/lang/invoke/MethodHandle" ∧ yX8_twice.cls ≠ "java/lang/invoke/VarHandle" ∧ (parseMethodDescriptor yX8_twice.desc).map (fun d => d.parameters.length) = some 3 := by decide +kernel
set_option maxHeartbeats 8000000 in
set_option maxRecDepth 100000 in
theorem kX8_twice (l : Launch) (D : va_G) (cy : Nat → ClassId) (ad : Nat → Nat) (c8_latest : Int32) (c8_asked : Int32) (c8_upper : Int64) (c8_lower : Int64) (c8_legs : Int32) (c8_units : Int32) (c8_rests : Int32) (c8_rates : Int32) (c8_lines : Int32) (c8_came : Nat → Int32) (c8_sizes : Nat → Int32) (c8_weights : Nat → Int32) (c8_growths : Nat → Int32) (c8_copied : Nat → Int32) (c8_legWay : Nat → Int32) (c8_legUnits : Nat → Int32) (c8_legStuff : Nat → Int32) (c8_unitWay : Nat → Int32) (c8_unitStuff : Nat → Int32) (c8_xs : Nat → Int32) (c8_ys : Nat → Int32) (c8_zs : Nat → Int32) (c8_kindOf : Nat → Int32) (c8_placeOf : Nat → Int32) (c8_rateOf : Nat → Int32) (c8_readOf : Nat → Int32) (c8_isGone : Nat → Int32) (c8_theList : Nat → Int32) (c8_amounts : Nat → Int32) (c8_low : Nat → Int32) (c8_high : Nat → Int32) (c8_barred : Nat → Int32) (c8_times : Nat → Int32) (c8_ranges : Nat → Int32) (p1 : Int32) (p2 : Int32) (p3 : Int32) (N : Nat) {ra : Int32} (hf : fX8_twice N c8_units c8_rests c8_sizes c8_weights c8_growths c8_unitWay c8_unitStuff c8_kindOf c8_placeOf c8_isGone p1 p2 p3 = some ra) : CI l D cy yX8_twice wsX8_twice ({ frames := 4, cells := 0, slots := 0, locals := 91 } : Room) [.ref (ad 80), .int p1, .int p2, .int p3] (w8 cy ad c8_latest c8_asked c8_upper c8_lower c8_legs c8_units c8_rests c8_rates c8_lines c8_came c8_sizes c8_weights c8_growths c8_copied c8_legWay c8_legUnits c8_legStuff c8_unitWay c8_unitStuff c8_xs c8_ys c8_zs c8_kindOf c8_placeOf c8_rateOf c8_readOf c8_isGone c8_theList c8_amounts c8_low c8_high c8_barred c8_times c8_ranges) ra (w8 cy ad c8_latest c8_asked c8_upper c8_lower c8_legs c8_units c8_rests c8_rates c8_lines c8_came c8_sizes c8_weights c8_growths c8_copied c8_legWay c8_legUnits c8_legStuff c8_unitWay c8_unitStuff c8_xs c8_ys c8_zs c8_kindOf c8_placeOf c8_rateOf c8_readOf c8_isGone c8_theList c8_amounts c8_low c8_high c8_barred c8_times c8_ranges) := by
  unfold fX8_twice at hf
  refine c_of_i (ty := .int) (own := RX8) (by decide) rfl rfl (Nat.le_of_ble_eq_true rfl) (fun X hC hRet => ?_)
  refine r_sub [(0, .ref (ad 80)), (1, .int p1), (2, .int p2), (3, .int p3)] [0, 1, 2, 3] rfl ?_
  have hin8 : ∀ w ∈ wsX80, w ∈ wsX8_twice := fun w h => List.mem_cons_of_mem _ (List.mem_append_right _ h)
  have hw0 : Cond.fieldLink RX8 113 "HotPipesModel" "units" "I" ∈ wsX8_twice := List.mem_of_getElem? (i := 1) rfl
  have hw1 : Cond.fieldLink RX8 16 "HotPipesModel" "weights" "[I" ∈ wsX8_twice := List.mem_of_getElem? (i := 4) rfl
  have hw2 : Cond.fieldLink RX8 38 "HotPipesModel" "unitStuff" "[I" ∈ wsX8_twice := List.mem_of_getElem? (i := 5) rfl
  have hw3 : Cond.fieldLink RX8 164 "HotPipesModel" "rests" "I" ∈ wsX8_twice := List.mem_of_getElem? (i := 2) rfl
  have hw4 : Cond.fieldLink RX8 53 "HotPipesModel" "placeOf" "[I" ∈ wsX8_twice := List.mem_of_getElem? (i := 3) rfl
  refine r_aload_n hC dX8_twice_0 rfl 0 rfl ?_
  refine r_iload_n hC dX8_twice_1 rfl 1 rfl ?_
  refine r_iload_n hC dX8_twice_2 rfl 2 rfl ?_
  obtain ⟨r1, h2, hf⟩ := ob_some hf
  refine r_vi (st := []) hC (kX8_isBearing l D cy ad c8_latest c8_asked c8_upper c8_lower c8_legs c8_units c8_rests c8_rates c8_lines c8_came c8_sizes c8_weights c8_growths c8_copied c8_legWay c8_legUnits c8_legStuff c8_unitWay c8_unitStuff c8_xs c8_ys c8_zs c8_kindOf c8_placeOf c8_rateOf c8_readOf c8_isGone c8_theList c8_amounts c8_low c8_high c8_barred c8_times c8_ranges p1 p2 N h2) gX8_twice_X8_isBearing rfl ⟨rfl, rfl⟩ ydX8_isBearing ⟨Nat.le_of_ble_eq_true rfl, Nat.le_of_ble_eq_true rfl⟩ ⟨Nat.le_refl 0, Nat.le_refl 0⟩ 0 rfl rfl [] [] rfl _ rfl (Nat.le_of_ble_eq_true rfl) dX8_twice_3 (w8 cy ad c8_latest c8_asked c8_upper c8_lower c8_legs c8_units c8_rests c8_rates c8_lines c8_came c8_sizes c8_weights c8_growths c8_copied c8_legWay c8_legUnits c8_legStuff c8_unitWay c8_unitStuff c8_xs c8_ys c8_zs c8_kindOf c8_placeOf c8_rateOf c8_readOf c8_isGone c8_theList c8_amounts c8_low c8_high c8_barred c8_times c8_ranges) rfl ?_
  refine r_if_ne (tgt := 11) hC dX8_twice_6 (by decide) (fun c3 => ?_) (fun c3 => ?_)
  · replace hf := o_neg hf c3
    refine r_iconst hC dX8_twice_11 ic_0 ?_
    refine r_istore hC [(4, .int 0), (0, .ref (ad 80)), (1, .int p1), (2, .int p2), (3, .int p3)] dX8_twice_12 (by decide) rfl ?_
    refine r_aload_n hC dX8_twice_14 rfl 1 rfl ?_
    refine r_get hC hin8 0 rfl rfl 13 (by decide) rfl hw0 rfl dX8_twice_15 ?_
    refine r_istore hC [(5, .int c8_units), (4, .int 0), (0, .ref (ad 80)), (1, .int p1), (2, .int p2), (3, .int p3)] dX8_twice_18 (by decide) rfl ?_
    refine r_iconst hC dX8_twice_20 ic_0 ?_
    refine r_istore hC [(6, .int 0), (5, .int c8_units), (4, .int 0), (0, .ref (ad 80)), (1, .int p1), (2, .int p2), (3, .int p3)] dX8_twice_21 (by decide) rfl ?_
    obtain ⟨K144_6, eK144_6, hf⟩ := oj_some hf
    have J144_6 : ∀ (x4 : Int32) (x5 : Int32), K144_6 x4 x5 = some ra → GG X 8 0 0 (w8 cy ad c8_latest c8_asked c8_upper c8_lower c8_legs c8_units c8_rests c8_rates c8_lines c8_came c8_sizes c8_weights c8_growths c8_copied c8_legWay c8_legUnits c8_legStuff c8_unitWay c8_unitStuff c8_xs c8_ys c8_zs c8_kindOf c8_placeOf c8_rateOf c8_readOf c8_isGone c8_theList c8_amounts c8_low c8_high c8_barred c8_times c8_ranges) [(0, .ref (ad 80)), (4, .int x4), (5, .int x5)] 144 [] := by
      intro x4 x5 hf
      replace hf := oa2 eK144_6 hf
      refine r_iconst hC dX8_twice_144 ic_0 ?_
      refine r_istore hC [(6, .int 0), (0, .ref (ad 80)), (4, .int x4), (5, .int x5)] dX8_twice_145 (by decide) rfl ?_
      refine r_iload hC dX8_twice_147 2 rfl ?_
      refine r_istore hC [(7, .int x4), (6, .int 0), (0, .ref (ad 80)), (4, .int x4), (5, .int x5)] dX8_twice_149 (by decide) rfl ?_
      have L151 : ∀ (n : Nat) (x7 : Int32) (x8 : Int32), fX8_twice_L151 c8_weights c8_unitStuff x5 n x7 x8 = some ra → GG X 8 0 0 (w8 cy ad c8_latest c8_asked c8_upper c8_lower c8_legs c8_units c8_rests c8_rates c8_lines c8_came c8_sizes c8_weights c8_growths c8_copied c8_legWay c8_legUnits c8_legStuff c8_unitWay c8_unitStuff c8_xs c8_ys c8_zs c8_kindOf c8_placeOf c8_rateOf c8_readOf c8_isGone c8_theList c8_amounts c8_low c8_high c8_barred c8_times c8_ranges) [(0, .ref (ad 80)), (5, .int x5), (6, .int x7), (7, .int x8)] 151 [] := by
        intro n
        induction n with
        | zero => intro x7 x8 hf; cases (show none = some _ from hf)
        | succ n ih =>
          intro x7 x8 hf
          rw [fX8_twice_L151] at hf
          refine r_iload hC dX8_twice_151 3 rfl ?_
          refine r_iload hC dX8_twice_153 1 rfl ?_
          refine r_icmp_ge (tgt := 181) hC dX8_twice_155 (by decide) (fun c9 => ?_) (fun c9 => ?_)
          · replace hf := o_pos hf c9
            refine r_iload hC dX8_twice_181 2 rfl ?_
            obtain rfl := so_1 hf
            exact hRet _ _ _ dX8_twice_183 rfl
          · replace hf := o_neg hf c9
            refine r_iload hC dX8_twice_158 2 rfl ?_
            refine r_aload_n hC dX8_twice_160 rfl 0 rfl ?_
            refine r_get hC hin8 0 rfl rfl 6 (by decide) rfl hw1 rfl dX8_twice_161 ?_
            refine r_aload_n hC dX8_twice_164 rfl 0 rfl ?_
            refine r_get hC hin8 0 rfl rfl 15 (by decide) rfl hw2 rfl dX8_twice_165 ?_
            refine r_iload hC dX8_twice_168 3 rfl ?_
            obtain ⟨g10, hf⟩ := og_some hf
            refine r_iald hC 10 rfl g10 dX8_twice_170 ?_
            obtain ⟨g11, hf⟩ := og_some hf
            refine r_iald hC 3 rfl g11 dX8_twice_171 ?_
            refine r_iadd hC dX8_twice_172 ?_
            refine r_topi (fun x12 ex12 => ?_)
            replace hf := olet_some hf ex12
            refine r_istore hC [(6, .int x12), (0, .ref (ad 80)), (5, .int x5), (7, .int x8)] dX8_twice_173 (by decide) rfl ?_
            refine r_iinc hC [(7, .int (x8 + 1)), (6, .int x12), (0, .ref (ad 80)), (5, .int x5)] (x8 + 1) dX8_twice_175 3 rfl (ii_1 _) (by decide) rfl ?_
            refine r_goto (tgt := 151) hC dX8_twice_178 (by decide) ?_
            refine r_sub [(0, .ref (ad 80)), (5, .int x5), (6, .int x12), (7, .int (x8 + 1))] [2, 3, 1, 0] rfl ?_
            exact ih x12 (x8 + 1) hf
      refine r_sub [(0, .ref (ad 80)), (5, .int x5), (6, .int 0), (7, .int x4)] [2, 4, 1, 0] rfl ?_
      exact L151 N 0 x4 hf
    have L23 : ∀ (n : Nat) (x13 : Int32) (x14 : Int32) (x15 : Int32), fX8_twice_L23 N c8_units c8_rests c8_sizes c8_growths c8_unitWay c8_unitStuff c8_kindOf c8_placeOf c8_isGone p1 p2 p3 K144_6 n x13 x14 x15 = some ra → GG X 8 0 0 (w8 cy ad c8_latest c8_asked c8_upper c8_lower c8_legs c8_units c8_rests c8_rates c8_lines c8_came c8_sizes c8_weights c8_growths c8_copied c8_legWay c8_legUnits c8_legStuff c8_unitWay c8_unitStuff c8_xs c8_ys c8_zs c8_kindOf c8_placeOf c8_rateOf c8_readOf c8_isGone c8_theList c8_amounts c8_low c8_high c8_barred c8_times c8_ranges) [(0, .ref (ad 80)), (1, .int p1), (2, .int p2), (3, .int p3), (4, .int x13), (5, .int x14), (6, .int x15)] 23 [] := by
      intro n
      induction n with
      | zero => intro x13 x14 x15 hf; cases (show none = some _ from hf)
      | succ n ih =>
        intro x13 x14 x15 hf
        rw [fX8_twice_L23] at hf
        refine r_iload hC dX8_twice_23 6 rfl ?_
        refine r_aload_n hC dX8_twice_25 rfl 0 rfl ?_
        refine r_get hC hin8 0 rfl rfl 19 (by decide) rfl hw3 rfl dX8_twice_26 ?_
        refine r_icmp_ge (tgt := 144) hC dX8_twice_29 (by decide) (fun c16 => ?_) (fun c16 => ?_)
        · replace hf := o_pos hf c16
          refine r_sub [(0, .ref (ad 80)), (4, .int x13), (5, .int x14)] [0, 4, 5] rfl ?_
          exact J144_6 x13 x14 hf
        · replace hf := o_neg hf c16
          refine r_iload hC dX8_twice_32 6 rfl ?_
          refine r_iload_n hC dX8_twice_34 rfl 1 rfl ?_
          obtain ⟨x17, x18, h20, hf⟩ := ob2_some hf
          have J138_19 : GG X 8 0 0 (w8 cy ad c8_latest c8_asked c8_upper c8_lower c8_legs c8_units c8_rests c8_rates c8_lines c8_came c8_sizes c8_weights c8_growths c8_copied c8_legWay c8_legUnits c8_legStuff c8_unitWay c8_unitStuff c8_xs c8_ys c8_zs c8_kindOf c8_placeOf c8_rateOf c8_readOf c8_isGone c8_theList c8_amounts c8_low c8_high c8_barred c8_times c8_ranges) [(0, .ref (ad 80)), (1, .int p1), (2, .int p2), (3, .int p3), (4, .int x17), (5, .int x18), (6, .int x15)] 138 [] := by
            refine r_iinc hC [(6, .int (x15 + 1)), (0, .ref (ad 80)), (1, .int p1), (2, .int p2), (3, .int p3), (4, .int x17), (5, .int x18)] (x15 + 1) dX8_twice_138 6 rfl (ii_1 _) (by decide) rfl ?_
            refine r_goto (tgt := 23) hC dX8_twice_141 (by decide) ?_
            refine r_sub [(0, .ref (ad 80)), (1, .int p1), (2, .int p2), (3, .int p3), (4, .int x17), (5, .int x18), (6, .int (x15 + 1))] [1, 2, 3, 4, 5, 6, 0] rfl ?_
            exact ih x17 x18 (x15 + 1) hf
          replace hf := h20
          refine r_icmp_eq (tgt := 138) hC dX8_twice_35 (by decide) (fun c21 => ?_) (fun c21 => ?_)
          · replace hf := o_pos hf c21
            obtain ⟨rfl, rfl⟩ := so_2 hf
            exact J138_19
          · replace hf := o_neg hf c21
            refine r_iload hC dX8_twice_38 6 rfl ?_
            refine r_iload_n hC dX8_twice_40 rfl 3 rfl ?_
            refine r_icmp_eq (tgt := 138) hC dX8_twice_41 (by decide) (fun c22 => ?_) (fun c22 => ?_)
            · replace hf := o_pos hf c22
              obtain ⟨rfl, rfl⟩ := so_2 hf
              exact J138_19
            · replace hf := o_neg hf c22
              refine r_aload_n hC dX8_twice_44 rfl 0 rfl ?_
              refine r_iload hC dX8_twice_45 6 rfl ?_
              refine r_iload_n hC dX8_twice_47 rfl 2 rfl ?_
              obtain ⟨r23, h24, hf⟩ := ob_some hf
              refine r_vi (st := []) hC (kX8_isBearing l D cy ad c8_latest c8_asked c8_upper c8_lower c8_legs c8_units c8_rests c8_rates c8_lines c8_came c8_sizes c8_weights c8_growths c8_copied c8_legWay c8_legUnits c8_legStuff c8_unitWay c8_unitStuff c8_xs c8_ys c8_zs c8_kindOf c8_placeOf c8_rateOf c8_readOf c8_isGone c8_theList c8_amounts c8_low c8_high c8_barred c8_times c8_ranges x15 p2 N h24) gX8_twice_X8_isBearing rfl ⟨rfl, rfl⟩ ydX8_isBearing ⟨Nat.le_of_ble_eq_true rfl, Nat.le_of_ble_eq_true rfl⟩ ⟨Nat.le_refl 0, Nat.le_refl 0⟩ 0 rfl rfl [] [] rfl _ rfl (Nat.le_of_ble_eq_true rfl) dX8_twice_48 (w8 cy ad c8_latest c8_asked c8_upper c8_lower c8_legs c8_units c8_rests c8_rates c8_lines c8_came c8_sizes c8_weights c8_growths c8_copied c8_legWay c8_legUnits c8_legStuff c8_unitWay c8_unitStuff c8_xs c8_ys c8_zs c8_kindOf c8_placeOf c8_rateOf c8_readOf c8_isGone c8_theList c8_amounts c8_low c8_high c8_barred c8_times c8_ranges) rfl ?_
              refine r_if_eq (tgt := 138) hC dX8_twice_51 (by decide) (fun c25 => ?_) (fun c25 => ?_)
              · replace hf := o_pos hf c25
                obtain ⟨rfl, rfl⟩ := so_2 hf
                exact J138_19
              · replace hf := o_neg hf c25
                refine r_aload_n hC dX8_twice_54 rfl 0 rfl ?_
                refine r_get hC hin8 0 rfl rfl 21 (by decide) rfl hw4 rfl dX8_twice_55 ?_
                refine r_iload hC dX8_twice_58 6 rfl ?_
                obtain ⟨g26, hf⟩ := og_some hf
                refine r_iald hC 15 rfl g26 dX8_twice_60 ?_
                refine r_aload_n hC dX8_twice_61 rfl 0 rfl ?_
                refine r_get hC hin8 0 rfl rfl 21 (by decide) rfl hw4 rfl dX8_twice_62 ?_
                refine r_iload_n hC dX8_twice_65 rfl 1 rfl ?_
                obtain ⟨g27, hf⟩ := og_some hf
                refine r_iald hC 15 rfl g27 dX8_twice_66 ?_
                obtain ⟨t28, h40, hf⟩ := ob_some hf
                have J94_39 : GG X 8 0 0 (w8 cy ad c8_latest c8_asked c8_upper c8_lower c8_legs c8_units c8_rests c8_rates c8_lines c8_came c8_sizes c8_weights c8_growths c8_copied c8_legWay c8_legUnits c8_legStuff c8_unitWay c8_unitStuff c8_xs c8_ys c8_zs c8_kindOf c8_placeOf c8_rateOf c8_readOf c8_isGone c8_theList c8_amounts c8_low c8_high c8_barred c8_times c8_ranges) [(0, .ref (ad 80)), (1, .int p1), (2, .int p2), (3, .int p3), (5, .int x14), (6, .int x15)] 94 [.int t28] := by
                  refine r_istore hC [(4, .int t28), (0, .ref (ad 80)), (1, .int p1), (2, .int p2), (3, .int p3), (5, .int x14), (6, .int x15)] dX8_twice_94 (by decide) rfl ?_
                  refine r_aload_n hC dX8_twice_96 rfl 1 rfl ?_
                  refine r_get hC hin8 0 rfl rfl 21 (by decide) rfl hw4 rfl dX8_twice_97 ?_
                  refine r_iload hC dX8_twice_100 6 rfl ?_
                  obtain ⟨g29, hf⟩ := og_some hf
                  refine r_iald hC 15 rfl g29 dX8_twice_102 ?_
                  refine r_aload_n hC dX8_twice_103 rfl 1 rfl ?_
                  refine r_get hC hin8 0 rfl rfl 21 (by decide) rfl hw4 rfl dX8_twice_104 ?_
                  refine r_iload_n hC dX8_twice_107 rfl 2 rfl ?_
                  obtain ⟨g30, hf⟩ := og_some hf
                  refine r_iald hC 15 rfl g30 dX8_twice_108 ?_
                  obtain ⟨t31, h33, hf⟩ := ob_some hf
                  have J136_32 : GG X 8 0 0 (w8 cy ad c8_latest c8_asked c8_upper c8_lower c8_legs c8_units c8_rests c8_rates c8_lines c8_came c8_sizes c8_weights c8_growths c8_copied c8_legWay c8_legUnits c8_legStuff c8_unitWay c8_unitStuff c8_xs c8_ys c8_zs c8_kindOf c8_placeOf c8_rateOf c8_readOf c8_isGone c8_theList c8_amounts c8_low c8_high c8_barred c8_times c8_ranges) [(0, .ref (ad 80)), (1, .int p1), (2, .int p2), (3, .int p3), (4, .int t28), (6, .int x15)] 136 [.int t31] := by
                    refine r_istore hC [(5, .int t31), (0, .ref (ad 80)), (1, .int p1), (2, .int p2), (3, .int p3), (4, .int t28), (6, .int x15)] dX8_twice_136 (by decide) rfl ?_
                    obtain ⟨rfl, rfl⟩ := so_2 hf
                    refine r_sub [(0, .ref (ad 80)), (1, .int p1), (2, .int p2), (3, .int p3), (4, .int t28), (5, .int t31), (6, .int x15)] [1, 2, 3, 4, 5, 0, 6] rfl ?_
                    exact J138_19
                  replace hf := h33
                  obtain ⟨K134_34, eK134_34, hf⟩ := oj_some hf
                  have J134_34 : K134_34 = some t31 → GG X 8 0 0 (w8 cy ad c8_latest c8_asked c8_upper c8_lower c8_legs c8_units c8_rests c8_rates c8_lines c8_came c8_sizes c8_weights c8_growths c8_copied c8_legWay c8_legUnits c8_legStuff c8_unitWay c8_unitStuff c8_xs c8_ys c8_zs c8_kindOf c8_placeOf c8_rateOf c8_readOf c8_isGone c8_theList c8_amounts c8_low c8_high c8_barred c8_times c8_ranges) [(0, .ref (ad 80)), (1, .int p1), (2, .int p2), (3, .int p3), (4, .int t28), (5, .int x14), (6, .int x15)] 134 [] := by
                    intro hf
                    replace hf := oa0 eK134_34 hf
                    refine r_iload hC dX8_twice_134 5 rfl ?_
                    obtain rfl := so_1 hf
                    refine r_sub [(0, .ref (ad 80)), (1, .int p1), (2, .int p2), (3, .int p3), (4, .int t28), (6, .int x15)] [0, 1, 2, 3, 4, 6] rfl ?_
                    exact J136_32
                  refine r_icmp_le (tgt := 134) hC dX8_twice_109 (by decide) (fun c35 => ?_) (fun c35 => ?_)
                  · replace hf := o_pos hf c35
                    refine r_sub [(0, .ref (ad 80)), (1, .int p1), (2, .int p2), (3, .int p3), (4, .int t28), (5, .int x14), (6, .int x15)] [1, 2, 3, 4, 0, 5, 6] rfl ?_
                    exact J134_34 hf
                  · replace hf := o_neg hf c35
                    refine r_aload_n hC dX8_twice_112 rfl 1 rfl ?_
                    refine r_get hC hin8 0 rfl rfl 21 (by decide) rfl hw4 rfl dX8_twice_113 ?_
                    refine r_iload hC dX8_twice_116 6 rfl ?_
                    obtain ⟨g36, hf⟩ := og_some hf
                    refine r_iald hC 15 rfl g36 dX8_twice_118 ?_
                    refine r_iload hC dX8_twice_119 5 rfl ?_
                    refine r_icmp_ge (tgt := 134) hC dX8_twice_121 (by decide) (fun c37 => ?_) (fun c37 => ?_)
                    · replace hf := o_pos hf c37
                      refine r_sub [(0, .ref (ad 80)), (1, .int p1), (2, .int p2), (3, .int p3), (4, .int t28), (5, .int x14), (6, .int x15)] [1, 2, 3, 4, 0, 5, 6] rfl ?_
                      exact J134_34 hf
                    · replace hf := o_neg hf c37
                      refine r_aload_n hC dX8_twice_124 rfl 1 rfl ?_
                      refine r_get hC hin8 0 rfl rfl 21 (by decide) rfl hw4 rfl dX8_twice_125 ?_
                      refine r_iload hC dX8_twice_128 6 rfl ?_
                      obtain ⟨g38, hf⟩ := og_some hf
                      refine r_iald hC 15 rfl g38 dX8_twice_130 ?_
                      refine r_goto (tgt := 136) hC dX8_twice_131 (by decide) ?_
                      obtain rfl := so_1 hf
                      refine r_sub [(0, .ref (ad 80)), (1, .int p1), (2, .int p2), (3, .int p3), (4, .int t28), (6, .int x15)] [1, 2, 3, 4, 0, 6] rfl ?_
                      exact J136_32
                replace hf := h40
                obtain ⟨K92_41, eK92_41, hf⟩ := oj_some hf
                have J92_41 : K92_41 = some t28 → GG X 8 0 0 (w8 cy ad c8_latest c8_asked c8_upper c8_lower c8_legs c8_units c8_rests c8_rates c8_lines c8_came c8_sizes c8_weights c8_growths c8_copied c8_legWay c8_legUnits c8_legStuff c8_unitWay c8_unitStuff c8_xs c8_ys c8_zs c8_kindOf c8_placeOf c8_rateOf c8_readOf c8_isGone c8_theList c8_amounts c8_low c8_high c8_barred c8_times c8_ranges) [(0, .ref (ad 80)), (1, .int p1), (2, .int p2), (3, .int p3), (4, .int x13), (5, .int x14), (6, .int x15)] 92 [] := by
                  intro hf
                  replace hf := oa0 eK92_41 hf
                  refine r_iload hC dX8_twice_92 4 rfl ?_
                  obtain rfl := so_1 hf
                  refine r_sub [(0, .ref (ad 80)), (1, .int p1), (2, .int p2), (3, .int p3), (5, .int x14), (6, .int x15)] [0, 1, 2, 3, 5, 6] rfl ?_
                  exact J94_39
                refine r_icmp_ge (tgt := 92) hC dX8_twice_67 (by decide) (fun c42 => ?_) (fun c42 => ?_)
                · replace hf := o_pos hf c42
                  exact J92_41 hf
                · replace hf := o_neg hf c42
                  refine r_aload_n hC dX8_twice_70 rfl 0 rfl ?_
                  refine r_get hC hin8 0 rfl rfl 21 (by decide) rfl hw4 rfl dX8_twice_71 ?_
                  refine r_iload hC dX8_twice_74 6 rfl ?_
                  obtain ⟨g43, hf⟩ := og_some hf
                  refine r_iald hC 15 rfl g43 dX8_twice_76 ?_
                  refine r_iload hC dX8_twice_77 4 rfl ?_
                  refine r_icmp_le (tgt := 92) hC dX8_twice_79 (by decide) (fun c44 => ?_) (fun c44 => ?_)
                  · replace hf := o_pos hf c44
                    exact J92_41 hf
                  · replace hf := o_neg hf c44
                    refine r_aload_n hC dX8_twice_82 rfl 0 rfl ?_
                    refine r_get hC hin8 0 rfl rfl 21 (by decide) rfl hw4 rfl dX8_twice_83 ?_
                    refine r_iload hC dX8_twice_86 6 rfl ?_
                    obtain ⟨g45, hf⟩ := og_some hf
                    refine r_iald hC 15 rfl g45 dX8_twice_88 ?_
                    refine r_goto (tgt := 94) hC dX8_twice_89 (by decide) ?_
                    obtain rfl := so_1 hf
                    refine r_sub [(0, .ref (ad 80)), (1, .int p1), (2, .int p2), (3, .int p3), (5, .int x14), (6, .int x15)] [0, 1, 2, 3, 5, 6] rfl ?_
                    exact J94_39
    refine r_sub [(0, .ref (ad 80)), (1, .int p1), (2, .int p2), (3, .int p3), (4, .int 0), (5, .int c8_units), (6, .int 0)] [3, 4, 5, 6, 2, 1, 0] rfl ?_
    exact L23 N 0 c8_units 0 hf
  · replace hf := o_pos hf c3
    refine r_iconst hC dX8_twice_9 ic_0 ?_
    obtain rfl := so_1 hf
    exact hRet _ _ _ dX8_twice_10 rfl
noncomputable def fX8_load (N : Nat) (c8_latest : Int32) (c8_upper : Int64) (c8_lower : Int64) (c8_units : Int32) (c8_rests : Int32) (c8_came : Nat → Int32) (c8_sizes : Nat → Int32) (c8_weights : Nat → Int32) (c8_growths : Nat → Int32) (c8_unitWay : Nat → Int32) (c8_unitStuff : Nat → Int32) (c8_kindOf : Nat → Int32) (c8_placeOf : Nat → Int32) (c8_isGone : Nat → Int32) (p1 : Int32) (p2 : Int32) : Option (Int32 × Int32 × Int64 × Int64 × (Nat → Int32)) := ob (fX8_isStep p2) (fun (r1 : Int32) => ob3 (fX8_need c8_latest c8_rests c8_came c8_isGone r1 p1) (fun (r3 : Int32) (s4 : Int32) (s5 : Nat → Int32) => (if 0 ≤ r3 then ob (fX8_twice N c8_units c8_rests c8_sizes c8_weights c8_growths c8_unitWay c8_unitStuff c8_kindOf c8_placeOf c8_isGone p1 p2 (-9)) (fun (r8 : Int32) => ob3 (fX8_fraction N c8_upper c8_lower (Int32.toInt64 r8) 2 1) (fun (r10 : Int32) (s11 : Int64) (s12 : Int64) => some (r10, s4, s11, s12, s5))) else some (r3, s4, c8_upper, c8_lower, s5))))
theorem ydX8_load : yX8_load.cls = RX8 ∧ yX8_load.cls ≠ "java/lang/invoke/MethodHandle" ∧ yX8_load.cls ≠ "java/lang/invoke/VarHandle" ∧ (parseMethodDescriptor yX8_load.desc).map (fun d => d.parameters.length) = some 2 := by decide +kernel
set_option maxHeartbeats 8000000 in
set_option maxRecDepth 100000 in
theorem kX8_load (l : Launch) (D : va_G) (cy : Nat → ClassId) (ad : Nat → Nat) (c8_latest : Int32) (c8_asked : Int32) (c8_upper : Int64) (c8_lower : Int64) (c8_legs : Int32) (c8_units : Int32) (c8_rests : Int32) (c8_rates : Int32) (c8_lines : Int32) (c8_came : Nat → Int32) (c8_sizes : Nat → Int32) (c8_weights : Nat → Int32) (c8_growths : Nat → Int32) (c8_copied : Nat → Int32) (c8_legWay : Nat → Int32) (c8_legUnits : Nat → Int32) (c8_legStuff : Nat → Int32) (c8_unitWay : Nat → Int32) (c8_unitStuff : Nat → Int32) (c8_xs : Nat → Int32) (c8_ys : Nat → Int32) (c8_zs : Nat → Int32) (c8_kindOf : Nat → Int32) (c8_placeOf : Nat → Int32) (c8_rateOf : Nat → Int32) (c8_readOf : Nat → Int32) (c8_isGone : Nat → Int32) (c8_theList : Nat → Int32) (c8_amounts : Nat → Int32) (c8_low : Nat → Int32) (c8_high : Nat → Int32) (c8_barred : Nat → Int32) (c8_times : Nat → Int32) (c8_ranges : Nat → Int32) (p1 : Int32) (p2 : Int32) (N : Nat) {ra : Int32} {z8_latest : Int32} {z8_upper : Int64} {z8_lower : Int64} {z8_came : Nat → Int32} (hf : fX8_load N c8_latest c8_upper c8_lower c8_units c8_rests c8_came c8_sizes c8_weights c8_growths c8_unitWay c8_unitStuff c8_kindOf c8_placeOf c8_isGone p1 p2 = some (ra, z8_latest, z8_upper, z8_lower, z8_came)) : CI l D cy yX8_load wsX8_load ({ frames := 5, cells := 0, slots := 0, locals := 118 } : Room) [.ref (ad 80), .int p1, .int p2] (w8 cy ad c8_latest c8_asked c8_upper c8_lower c8_legs c8_units c8_rests c8_rates c8_lines c8_came c8_sizes c8_weights c8_growths c8_copied c8_legWay c8_legUnits c8_legStuff c8_unitWay c8_unitStuff c8_xs c8_ys c8_zs c8_kindOf c8_placeOf c8_rateOf c8_readOf c8_isGone c8_theList c8_amounts c8_low c8_high c8_barred c8_times c8_ranges) ra (w8 cy ad z8_latest c8_asked z8_upper z8_lower c8_legs c8_units c8_rests c8_rates c8_lines z8_came c8_sizes c8_weights c8_growths c8_copied c8_legWay c8_legUnits c8_legStuff c8_unitWay c8_unitStuff c8_xs c8_ys c8_zs c8_kindOf c8_placeOf c8_rateOf c8_readOf c8_isGone c8_theList c8_amounts c8_low c8_high c8_barred c8_times c8_ranges) := by
  unfold fX8_load at hf
  refine c_of_i (ty := .int) (own := RX8) (by decide) rfl rfl (Nat.le_of_ble_eq_true rfl) (fun X hC hRet => ?_)
  refine r_sub [(0, .ref (ad 80)), (1, .int p1), (2, .int p2)] [0, 1, 2] rfl ?_
  have hw0 : Cond.constantLong RX8 187 (2) ∈ wsX8_load := List.mem_of_getElem? (i := 1) rfl
  refine r_aload_n hC dX8_load_0 rfl 0 rfl ?_
  refine r_iload_n hC dX8_load_1 rfl 2 rfl ?_
  obtain ⟨r1, h2, hf⟩ := ob_some hf
  refine r_si (st := [.ref (ad 80)]) hC (kX8_isStep l D cy p2 h2) gX8_load_X8_isStep rfl ⟨rfl, rfl⟩ ydX8_isStep ⟨Nat.le_of_ble_eq_true rfl, Nat.le_of_ble_eq_true rfl⟩ ⟨Nat.le_refl 0, Nat.le_refl 0⟩ _ rfl (Nat.le_of_ble_eq_true rfl) dX8_load_2 ?_
  refine r_iload_n hC dX8_load_5 rfl 1 rfl ?_
  obtain ⟨r3, s4, s5, h6, hf⟩ := ob3_some hf
  refine r_vi (st := []) hC (kX8_need l D cy ad c8_latest c8_asked c8_upper c8_lower c8_legs c8_units c8_rests c8_rates c8_lines c8_came c8_sizes c8_weights c8_growths c8_copied c8_legWay c8_legUnits c8_legStuff c8_unitWay c8_unitStuff c8_xs c8_ys c8_zs c8_kindOf c8_placeOf c8_rateOf c8_readOf c8_isGone c8_theList c8_amounts c8_low c8_high c8_barred c8_times c8_ranges r1 p1 h6) gX8_load_X8_need rfl ⟨rfl, rfl⟩ ydX8_need ⟨Nat.le_of_ble_eq_true rfl, Nat.le_of_ble_eq_true rfl⟩ ⟨Nat.le_refl 0, Nat.le_refl 0⟩ 0 rfl rfl [] [] rfl _ rfl (Nat.le_of_ble_eq_true rfl) dX8_load_6 (w8 cy ad s4 c8_asked c8_upper c8_lower c8_legs c8_units c8_rests c8_rates c8_lines s5 c8_sizes c8_weights c8_growths c8_copied c8_legWay c8_legUnits c8_legStuff c8_unitWay c8_unitStuff c8_xs c8_ys c8_zs c8_kindOf c8_placeOf c8_rateOf c8_readOf c8_isGone c8_theList c8_amounts c8_low c8_high c8_barred c8_times c8_ranges) rfl ?_
  refine r_istore_n hC [(3, .int r3), (0, .ref (ad 80)), (1, .int p1), (2, .int p2)] dX8_load_9 rfl (by decide) rfl ?_
  refine r_iload_n hC dX8_load_10 rfl 0 rfl ?_
  refine r_if_ge (tgt := 18) hC dX8_load_11 (by decide) (fun c7 => ?_) (fun c7 => ?_)
  · replace hf := o_pos hf c7
    refine r_aload_n hC dX8_load_18 rfl 1 rfl ?_
    refine r_aload_n hC dX8_load_19 rfl 1 rfl ?_
    refine r_iload_n hC dX8_load_20 rfl 2 rfl ?_
    refine r_iload_n hC dX8_load_21 rfl 3 rfl ?_
    refine r_bipush hC dX8_load_22 bp_m9 ?_
    obtain ⟨r8, h9, hf⟩ := ob_some hf
    refine r_vi (st := [.ref (ad 80)]) hC (kX8_twice l D cy ad s4 c8_asked c8_upper c8_lower c8_legs c8_units c8_rests c8_rates c8_lines s5 c8_sizes c8_weights c8_growths c8_copied c8_legWay c8_legUnits c8_legStuff c8_unitWay c8_unitStuff c8_xs c8_ys c8_zs c8_kindOf c8_placeOf c8_rateOf c8_readOf c8_isGone c8_theList c8_amounts c8_low c8_high c8_barred c8_times c8_ranges p1 p2 (-9) N h9) gX8_load_X8_twice rfl ⟨rfl, rfl⟩ ydX8_twice ⟨Nat.le_of_ble_eq_true rfl, Nat.le_of_ble_eq_true rfl⟩ ⟨Nat.le_refl 0, Nat.le_refl 0⟩ 0 rfl rfl [] [] rfl _ rfl (Nat.le_of_ble_eq_true rfl) dX8_load_24 (w8 cy ad s4 c8_asked c8_upper c8_lower c8_legs c8_units c8_rests c8_rates c8_lines s5 c8_sizes c8_weights c8_growths c8_copied c8_legWay c8_legUnits c8_legStuff c8_unitWay c8_unitStuff c8_xs c8_ys c8_zs c8_kindOf c8_placeOf c8_rateOf c8_readOf c8_isGone c8_theList c8_amounts c8_low c8_high c8_barred c8_times c8_ranges) rfl ?_
    refine r_i2l hC dX8_load_27 ?_
    refine r_ldc2 hC hw0 dX8_load_28 ?_
    refine r_iconst hC dX8_load_31 ic_1 ?_
    obtain ⟨r10, s11, s12, h13, hf⟩ := ob3_some hf
    refine r_vi (st := []) hC (kX8_fraction l D cy ad s4 c8_asked c8_upper c8_lower c8_legs c8_units c8_rests c8_rates c8_lines s5 c8_sizes c8_weights c8_growths c8_copied c8_legWay c8_legUnits c8_legStuff c8_unitWay c8_unitStuff c8_xs c8_ys c8_zs c8_kindOf c8_placeOf c8_rateOf c8_readOf c8_isGone c8_theList c8_amounts c8_low c8_high c8_barred c8_times c8_ranges (Int32.toInt64 r8) 2 1 N h13) gX8_load_X8_fraction rfl ⟨rfl, rfl⟩ ydX8_fraction ⟨Nat.le_of_ble_eq_true rfl, Nat.le_of_ble_eq_true rfl⟩ ⟨Nat.le_refl 0, Nat.le_refl 0⟩ 0 rfl rfl [] [] rfl _ rfl (Nat.le_of_ble_eq_true rfl) dX8_load_32 (w8 cy ad s4 c8_asked s11 s12 c8_legs c8_units c8_rests c8_rates c8_lines s5 c8_sizes c8_weights c8_growths c8_copied c8_legWay c8_legUnits c8_legStuff c8_unitWay c8_unitStuff c8_xs c8_ys c8_zs c8_kindOf c8_placeOf c8_rateOf c8_readOf c8_isGone c8_theList c8_amounts c8_low c8_high c8_barred c8_times c8_ranges) rfl ?_
    obtain ⟨rfl, rfl, rfl, rfl, rfl⟩ := so_5 hf
    exact hRet _ _ _ dX8_load_35 rfl
  · replace hf := o_neg hf c7
    refine r_iload_n hC dX8_load_14 rfl 0 rfl ?_
    refine r_goto (tgt := 35) hC dX8_load_15 (by decide) ?_
    obtain ⟨rfl, rfl, rfl, rfl, rfl⟩ := so_5 hf
    exact hRet _ _ _ dX8_load_35 rfl
noncomputable def fX8_needSpring (c8_latest : Int32) (c8_rests : Int32) (c8_came : Nat → Int32) (c8_kindOf : Nat → Int32) (c8_isGone : Nat → Int32) (p1 : Int32) (p2 : Int32) : Option (Int32 × Int32 × (Nat → Int32)) := ob (fX8_isStep p2) (fun (r1 : Int32) => ob3 (fX8_need c8_latest c8_rests c8_came c8_isGone r1 p1) (fun (r3 : Int32) (s4 : Int32) (s5 : Nat → Int32) => (if 0 ≤ r3 then og (vp_in p1 12) ((if (c8_kindOf (Int32.toNatClampNeg p1)) = 2 then some (0, s4, s5) else ob3 (fX8_meets s4 s5 3) (fun (r10 : Int32) (s11 : Int32) (s12 : Nat → Int32) => some (r10, s11, s12)))) else some (r3, s4, s5))))
theorem ydX8_needSpring : yX8_needSpring.cls = RX8 ∧ yX8_needSpring.cls ≠ "java/lang/invoke/MethodHandle" ∧ yX8_needSpring.cls ≠ "java/lang/invoke/VarHandle" ∧ (parseMethodDescriptor yX8_needSpring.desc).map (fun d => d.parameters.length) = some 2 := by decide +kernel
set_option maxHeartbeats 8000000 in
set_option maxRecDepth 100000 in
theorem kX8_needSpring (l : Launch) (D : va_G) (cy : Nat → ClassId) (ad : Nat → Nat) (c8_latest : Int32) (c8_asked : Int32) (c8_upper : Int64) (c8_lower : Int64) (c8_legs : Int32) (c8_units : Int32) (c8_rests : Int32) (c8_rates : Int32) (c8_lines : Int32) (c8_came : Nat → Int32) (c8_sizes : Nat → Int32) (c8_weights : Nat → Int32) (c8_growths : Nat → Int32) (c8_copied : Nat → Int32) (c8_legWay : Nat → Int32) (c8_legUnits : Nat → Int32) (c8_legStuff : Nat → Int32) (c8_unitWay : Nat → Int32) (c8_unitStuff : Nat → Int32) (c8_xs : Nat → Int32) (c8_ys : Nat → Int32) (c8_zs : Nat → Int32) (c8_kindOf : Nat → Int32) (c8_placeOf : Nat → Int32) (c8_rateOf : Nat → Int32) (c8_readOf : Nat → Int32) (c8_isGone : Nat → Int32) (c8_theList : Nat → Int32) (c8_amounts : Nat → Int32) (c8_low : Nat → Int32) (c8_high : Nat → Int32) (c8_barred : Nat → Int32) (c8_times : Nat → Int32) (c8_ranges : Nat → Int32) (p1 : Int32) (p2 : Int32) {ra : Int32} {z8_latest : Int32} {z8_came : Nat → Int32} (hf : fX8_needSpring c8_latest c8_rests c8_came c8_kindOf c8_isGone p1 p2 = some (ra, z8_latest, z8_came)) : CI l D cy yX8_needSpring wsX8_needSpring ({ frames := 2, cells := 0, slots := 0, locals := 44 } : Room) [.ref (ad 80), .int p1, .int p2] (w8 cy ad c8_latest c8_asked c8_upper c8_lower c8_legs c8_units c8_rests c8_rates c8_lines c8_came c8_sizes c8_weights c8_growths c8_copied c8_legWay c8_legUnits c8_legStuff c8_unitWay c8_unitStuff c8_xs c8_ys c8_zs c8_kindOf c8_placeOf c8_rateOf c8_readOf c8_isGone c8_theList c8_amounts c8_low c8_high c8_barred c8_times c8_ranges) ra (w8 cy ad z8_latest c8_asked c8_upper c8_lower c8_legs c8_units c8_rests c8_rates c8_lines z8_came c8_sizes c8_weights c8_growths c8_copied c8_legWay c8_legUnits c8_legStuff c8_unitWay c8_unitStuff c8_xs c8_ys c8_zs c8_kindOf c8_placeOf c8_rateOf c8_readOf c8_isGone c8_theList c8_amounts c8_low c8_high c8_barred c8_times c8_ranges) := by
  unfold fX8_needSpring at hf
  refine c_of_i (ty := .int) (own := RX8) (by decide) rfl rfl (Nat.le_of_ble_eq_true rfl) (fun X hC hRet => ?_)
  refine r_sub [(0, .ref (ad 80)), (1, .int p1), (2, .int p2)] [0, 1, 2] rfl ?_
  have hin8 : ∀ w ∈ wsX80, w ∈ wsX8_needSpring := fun w h => List.mem_cons_of_mem _ (List.mem_append_right _ h)
  have hw0 : Cond.fieldLink RX8 50 "HotPipesModel" "kindOf" "[I" ∈ wsX8_needSpring := List.mem_of_getElem? (i := 1) rfl
  refine r_aload_n hC dX8_needSpring_0 rfl 0 rfl ?_
  refine r_iload_n hC dX8_needSpring_1 rfl 2 rfl ?_
  obtain ⟨r1, h2, hf⟩ := ob_some hf
  refine r_si (st := [.ref (ad 80)]) hC (kX8_isStep l D cy p2 h2) gX8_needSpring_X8_isStep rfl ⟨rfl, rfl⟩ ydX8_isStep ⟨Nat.le_of_ble_eq_true rfl, Nat.le_of_ble_eq_true rfl⟩ ⟨Nat.le_refl 0, Nat.le_refl 0⟩ _ rfl (Nat.le_of_ble_eq_true rfl) dX8_needSpring_2 ?_
  refine r_iload_n hC dX8_needSpring_5 rfl 1 rfl ?_
  obtain ⟨r3, s4, s5, h6, hf⟩ := ob3_some hf
  refine r_vi (st := []) hC (kX8_need l D cy ad c8_latest c8_asked c8_upper c8_lower c8_legs c8_units c8_rests c8_rates c8_lines c8_came c8_sizes c8_weights c8_growths c8_copied c8_legWay c8_legUnits c8_legStuff c8_unitWay c8_unitStuff c8_xs c8_ys c8_zs c8_kindOf c8_placeOf c8_rateOf c8_readOf c8_isGone c8_theList c8_amounts c8_low c8_high c8_barred c8_times c8_ranges r1 p1 h6) gX8_needSpring_X8_need rfl ⟨rfl, rfl⟩ ydX8_need ⟨Nat.le_of_ble_eq_true rfl, Nat.le_of_ble_eq_true rfl⟩ ⟨Nat.le_refl 0, Nat.le_refl 0⟩ 0 rfl rfl [] [] rfl _ rfl (Nat.le_of_ble_eq_true rfl) dX8_needSpring_6 (w8 cy ad s4 c8_asked c8_upper c8_lower c8_legs c8_units c8_rests c8_rates c8_lines s5 c8_sizes c8_weights c8_growths c8_copied c8_legWay c8_legUnits c8_legStuff c8_unitWay c8_unitStuff c8_xs c8_ys c8_zs c8_kindOf c8_placeOf c8_rateOf c8_readOf c8_isGone c8_theList c8_amounts c8_low c8_high c8_barred c8_times c8_ranges) rfl ?_
  refine r_istore_n hC [(3, .int r3), (0, .ref (ad 80)), (1, .int p1), (2, .int p2)] dX8_needSpring_9 rfl (by decide) rfl ?_
  refine r_iload_n hC dX8_needSpring_10 rfl 0 rfl ?_
  refine r_if_ge (tgt := 18) hC dX8_needSpring_11 (by decide) (fun c7 => ?_) (fun c7 => ?_)
  · replace hf := o_pos hf c7
    refine r_aload_n hC dX8_needSpring_18 rfl 1 rfl ?_
    refine r_get hC hin8 0 rfl rfl 20 (by decide) rfl hw0 rfl dX8_needSpring_19 ?_
    refine r_iload_n hC dX8_needSpring_22 rfl 2 rfl ?_
    obtain ⟨g8, hf⟩ := og_some hf
    refine r_iald hC 14 rfl g8 dX8_needSpring_23 ?_
    refine r_iconst hC dX8_needSpring_24 ic_2 ?_
    refine r_icmp_eq (tgt := 36) hC dX8_needSpring_25 (by decide) (fun c9 => ?_) (fun c9 => ?_)
    · replace hf := o_pos hf c9
      refine r_iconst hC dX8_needSpring_36 ic_0 ?_
      obtain ⟨rfl, rfl, rfl⟩ := so_3 hf
      exact hRet _ _ _ dX8_needSpring_37 rfl
    · replace hf := o_neg hf c9
      refine r_aload_n hC dX8_needSpring_28 rfl 1 rfl ?_
      refine r_iconst hC dX8_needSpring_29 ic_3 ?_
      obtain ⟨r10, s11, s12, h13, hf⟩ := ob3_some hf
      refine r_vi (st := []) hC (kX8_meets l D cy ad s4 c8_asked c8_upper c8_lower c8_legs c8_units c8_rests c8_rates c8_lines s5 c8_sizes c8_weights c8_growths c8_copied c8_legWay c8_legUnits c8_legStuff c8_unitWay c8_unitStuff c8_xs c8_ys c8_zs c8_kindOf c8_placeOf c8_rateOf c8_readOf c8_isGone c8_theList c8_amounts c8_low c8_high c8_barred c8_times c8_ranges 3 h13) gX8_needSpring_X8_meets rfl ⟨rfl, rfl⟩ ydX8_meets ⟨Nat.le_of_ble_eq_true rfl, Nat.le_of_ble_eq_true rfl⟩ ⟨Nat.le_refl 0, Nat.le_refl 0⟩ 0 rfl rfl [] [] rfl _ rfl (Nat.le_of_ble_eq_true rfl) dX8_needSpring_30 (w8 cy ad s11 c8_asked c8_upper c8_lower c8_legs c8_units c8_rests c8_rates c8_lines s12 c8_sizes c8_weights c8_growths c8_copied c8_legWay c8_legUnits c8_legStuff c8_unitWay c8_unitStuff c8_xs c8_ys c8_zs c8_kindOf c8_placeOf c8_rateOf c8_readOf c8_isGone c8_theList c8_amounts c8_low c8_high c8_barred c8_times c8_ranges) rfl ?_
      refine r_goto (tgt := 37) hC dX8_needSpring_33 (by decide) ?_
      obtain ⟨rfl, rfl, rfl⟩ := so_3 hf
      exact hRet _ _ _ dX8_needSpring_37 rfl
  · replace hf := o_neg hf c7
    refine r_iload_n hC dX8_needSpring_14 rfl 0 rfl ?_
    refine r_goto (tgt := 37) hC dX8_needSpring_15 (by decide) ?_
    obtain ⟨rfl, rfl, rfl⟩ := so_3 hf
    exact hRet _ _ _ dX8_needSpring_37 rfl
noncomputable def fX8_movedOf (N : Nat) (c8_units : Int32) (c8_sizes : Nat → Int32) (c8_growths : Nat → Int32) (c8_unitWay : Nat → Int32) (c8_unitStuff : Nat → Int32) (c8_placeOf : Nat → Int32) (p1 : Int32) (p2 : Int32) : Option (Int64) := og (vp_in p1 12) (ob (fX8_grownTo N c8_units c8_sizes c8_growths c8_unitWay c8_unitStuff (c8_placeOf (Int32.toNatClampNeg p1)) p2 2) (fun (r2 : Int32) => (if 0 ≤ r2 then some (Int32.toInt64 r2) else some (Int32.toInt64 (-r2)))))
theorem ydX8_movedOf : yX8_movedOf.cls = RX8 ∧ yX8_movedOf.cls ≠ "java/lang/invoke/MethodHandle" ∧ yX8_movedOf.cls ≠ "java/lang/invoke/VarHandle" ∧ (parseMethodDescriptor yX8_movedOf.desc).map (fun d => d.parameters.length) = some 2 := by decide +kernel
set_option maxHeartbeats 8000000 in
set_option maxRecDepth 100000 in
theorem kX8_movedOf (l : Launch) (D : va_G) (cy : Nat → ClassId) (ad : Nat → Nat) (c8_latest : Int32) (c8_asked : Int32) (c8_upper : Int64) (c8_lower : Int64) (c8_legs : Int32) (c8_units : Int32) (c8_rests : Int32) (c8_rates : Int32) (c8_lines : Int32) (c8_came : Nat → Int32) (c8_sizes : Nat → Int32) (c8_weights : Nat → Int32) (c8_growths : Nat → Int32) (c8_copied : Nat → Int32) (c8_legWay : Nat → Int32) (c8_legUnits : Nat → Int32) (c8_legStuff : Nat → Int32) (c8_unitWay : Nat → Int32) (c8_unitStuff : Nat → Int32) (c8_xs : Nat → Int32) (c8_ys : Nat → Int32) (c8_zs : Nat → Int32) (c8_kindOf : Nat → Int32) (c8_placeOf : Nat → Int32) (c8_rateOf : Nat → Int32) (c8_readOf : Nat → Int32) (c8_isGone : Nat → Int32) (c8_theList : Nat → Int32) (c8_amounts : Nat → Int32) (c8_low : Nat → Int32) (c8_high : Nat → Int32) (c8_barred : Nat → Int32) (c8_times : Nat → Int32) (c8_ranges : Nat → Int32) (p1 : Int32) (p2 : Int32) (N : Nat) {ra : Int64} (hf : fX8_movedOf N c8_units c8_sizes c8_growths c8_unitWay c8_unitStuff c8_placeOf p1 p2 = some ra) : CL l D cy yX8_movedOf wsX8_movedOf ({ frames := 2, cells := 0, slots := 0, locals := 47 } : Room) [.ref (ad 80), .int p1, .int p2] (w8 cy ad c8_latest c8_asked c8_upper c8_lower c8_legs c8_units c8_rests c8_rates c8_lines c8_came c8_sizes c8_weights c8_growths c8_copied c8_legWay c8_legUnits c8_legStuff c8_unitWay c8_unitStuff c8_xs c8_ys c8_zs c8_kindOf c8_placeOf c8_rateOf c8_readOf c8_isGone c8_theList c8_amounts c8_low c8_high c8_barred c8_times c8_ranges) ra (w8 cy ad c8_latest c8_asked c8_upper c8_lower c8_legs c8_units c8_rests c8_rates c8_lines c8_came c8_sizes c8_weights c8_growths c8_copied c8_legWay c8_legUnits c8_legStuff c8_unitWay c8_unitStuff c8_xs c8_ys c8_zs c8_kindOf c8_placeOf c8_rateOf c8_readOf c8_isGone c8_theList c8_amounts c8_low c8_high c8_barred c8_times c8_ranges) := by
  unfold fX8_movedOf at hf
  refine c_of_l (own := RX8) (by decide) rfl rfl (Nat.le_of_ble_eq_true rfl) (fun X hC hRet => ?_)
  refine r_sub [(0, .ref (ad 80)), (1, .int p1), (2, .int p2)] [0, 1, 2] rfl ?_
  have hin8 : ∀ w ∈ wsX80, w ∈ wsX8_movedOf := fun w h => List.mem_cons_of_mem _ (List.mem_append_right _ h)
  have hw0 : Cond.fieldLink RX8 53 "HotPipesModel" "placeOf" "[I" ∈ wsX8_movedOf := List.mem_of_getElem? (i := 1) rfl
  refine r_aload_n hC dX8_movedOf_0 rfl 0 rfl ?_
  refine r_aload_n hC dX8_movedOf_1 rfl 0 rfl ?_
  refine r_get hC hin8 0 rfl rfl 21 (by decide) rfl hw0 rfl dX8_movedOf_2 ?_
  refine r_iload_n hC dX8_movedOf_5 rfl 1 rfl ?_
  obtain ⟨g1, hf⟩ := og_some hf
  refine r_iald hC 15 rfl g1 dX8_movedOf_6 ?_
  refine r_iload_n hC dX8_movedOf_7 rfl 2 rfl ?_
  refine r_iconst hC dX8_movedOf_8 ic_2 ?_
  obtain ⟨r2, h3, hf⟩ := ob_some hf
  refine r_vi (st := []) hC (kX8_grownTo l D cy ad c8_latest c8_asked c8_upper c8_lower c8_legs c8_units c8_rests c8_rates c8_lines c8_came c8_sizes c8_weights c8_growths c8_copied c8_legWay c8_legUnits c8_legStuff c8_unitWay c8_unitStuff c8_xs c8_ys c8_zs c8_kindOf c8_placeOf c8_rateOf c8_readOf c8_isGone c8_theList c8_amounts c8_low c8_high c8_barred c8_times c8_ranges (c8_placeOf (Int32.toNatClampNeg p1)) p2 2 N h3) gX8_movedOf_X8_grownTo rfl ⟨rfl, rfl⟩ ydX8_grownTo ⟨Nat.le_of_ble_eq_true rfl, Nat.le_of_ble_eq_true rfl⟩ ⟨Nat.le_refl 0, Nat.le_refl 0⟩ 0 rfl rfl [] [] rfl _ rfl (Nat.le_of_ble_eq_true rfl) dX8_movedOf_9 (w8 cy ad c8_latest c8_asked c8_upper c8_lower c8_legs c8_units c8_rests c8_rates c8_lines c8_came c8_sizes c8_weights c8_growths c8_copied c8_legWay c8_legUnits c8_legStuff c8_unitWay c8_unitStuff c8_xs c8_ys c8_zs c8_kindOf c8_placeOf c8_rateOf c8_readOf c8_isGone c8_theList c8_amounts c8_low c8_high c8_barred c8_times c8_ranges) rfl ?_
  refine r_istore_n hC [(3, .int r2), (0, .ref (ad 80)), (1, .int p1), (2, .int p2)] dX8_movedOf_12 rfl (by decide) rfl ?_
  refine r_iload_n hC dX8_movedOf_13 rfl 0 rfl ?_
  refine r_if_ge (tgt := 23) hC dX8_movedOf_14 (by decide) (fun c4 => ?_) (fun c4 => ?_)
  · replace hf := o_pos hf c4
    refine r_iload_n hC dX8_movedOf_23 rfl 0 rfl ?_
    refine r_i2l hC dX8_movedOf_24 ?_
    obtain rfl := so_1 hf
    exact hRet _ _ _ dX8_movedOf_25
  · replace hf := o_neg hf c4
    refine r_iload_n hC dX8_movedOf_17 rfl 0 rfl ?_
    refine r_ineg hC dX8_movedOf_18 ?_
    refine r_i2l hC dX8_movedOf_19 ?_
    refine r_goto (tgt := 25) hC dX8_movedOf_20 (by decide) ?_
    obtain rfl := so_1 hf
    exact hRet _ _ _ dX8_movedOf_25
noncomputable def fX8_change (N : Nat) (c8_latest : Int32) (c8_upper : Int64) (c8_lower : Int64) (c8_units : Int32) (c8_rests : Int32) (c8_came : Nat → Int32) (c8_sizes : Nat → Int32) (c8_growths : Nat → Int32) (c8_unitWay : Nat → Int32) (c8_unitStuff : Nat → Int32) (c8_kindOf : Nat → Int32) (c8_placeOf : Nat → Int32) (c8_rateOf : Nat → Int32) (c8_isGone : Nat → Int32) (p1 : Int32) (p2 : Int32) : Option (Int32 × Int32 × Int64 × Int64 × (Nat → Int32)) := ob3 (fX8_needSpring c8_latest c8_rests c8_came c8_kindOf c8_isGone p1 p2) (fun (r1 : Int32) (s2 : Int32) (s3 : Nat → Int32) => (if 0 ≤ r1 then og (vp_in p1 12) (ob (fX8_movedOf N c8_units c8_sizes c8_growths c8_unitWay c8_unitStuff c8_placeOf p1 p2) (fun (r7 : Int64) => ob3 (fX8_fraction N c8_upper c8_lower ((Int32.toInt64 (c8_rateOf (Int32.toNatClampNeg p1))) * r7) 1000 1) (fun (r9 : Int32) (s10 : Int64) (s11 : Int64) => some (r9, s2, s10, s11, s3)))) else some (r1, s2, c8_upper, c8_lower, s3)))
theorem ydX8_change : yX8_change.cls = RX8 ∧ yX8_change.cls ≠ "java/lang/invoke/MethodHandle" ∧ yX8_change.cls ≠ "java/lang/invoke/VarHandle" ∧ (parseMethodDescriptor yX8_change.desc).map (fun d => d.parameters.length) = some 2 := by decide +kernel
set_option maxHeartbeats 8000000 in
set_option maxRecDepth 100000 in
theorem kX8_change (l : Launch) (D : va_G) (cy : Nat → ClassId) (ad : Nat → Nat) (c8_latest : Int32) (c8_asked : Int32) (c8_upper : Int64) (c8_lower : Int64) (c8_legs : Int32) (c8_units : Int32) (c8_rests : Int32) (c8_rates : Int32) (c8_lines : Int32) (c8_came : Nat → Int32) (c8_sizes : Nat → Int32) (c8_weights : Nat → Int32) (c8_growths : Nat → Int32) (c8_copied : Nat → Int32) (c8_legWay : Nat → Int32) (c8_legUnits : Nat → Int32) (c8_legStuff : Nat → Int32) (c8_unitWay : Nat → Int32) (c8_unitStuff : Nat → Int32) (c8_xs : Nat → Int32) (c8_ys : Nat → Int32) (c8_zs : Nat → Int32) (c8_kindOf : Nat → Int32) (c8_placeOf : Nat → Int32) (c8_rateOf : Nat → Int32) (c8_readOf : Nat → Int32) (c8_isGone : Nat → Int32) (c8_theList : Nat → Int32) (c8_amounts : Nat → Int32) (c8_low : Nat → Int32) (c8_high : Nat → Int32) (c8_barred : Nat → Int32) (c8_times : Nat → Int32) (c8_ranges : Nat → Int32) (p1 : Int32) (p2 : Int32) (N : Nat) {ra : Int32} {z8_latest : Int32} {z8_upper : Int64} {z8_lower : Int64} {z8_came : Nat → Int32} (hf : fX8_change N c8_latest c8_upper c8_lower c8_units c8_rests c8_came c8_sizes c8_growths c8_unitWay c8_unitStuff c8_kindOf c8_placeOf c8_rateOf c8_isGone p1 p2 = some (ra, z8_latest, z8_upper, z8_lower, z8_came)) : CI l D cy yX8_change wsX8_change ({ frames := 3, cells := 0, slots := 0, locals := 70 } : Room) [.ref (ad 80), .int p1, .int p2] (w8 cy ad c8_latest c8_asked c8_upper c8_lower c8_legs c8_units c8_rests c8_rates c8_lines c8_came c8_sizes c8_weights c8_growths c8_copied c8_legWay c8_legUnits c8_legStuff c8_unitWay c8_unitStuff c8_xs c8_ys c8_zs c8_kindOf c8_placeOf c8_rateOf c8_readOf c8_isGone c8_theList c8_amounts c8_low c8_high c8_barred c8_times c8_ranges) ra (w8 cy ad z8_latest c8_asked z8_upper z8_lower c8_legs c8_units c8_rests c8_rates c8_lines z8_came c8_sizes c8_weights c8_growths c8_copied c8_legWay c8_legUnits c8_legStuff c8_unitWay c8_unitStuff c8_xs c8_ys c8_zs c8_kindOf c8_placeOf c8_rateOf c8_readOf c8_isGone c8_theList c8_amounts c8_low c8_high c8_barred c8_times c8_ranges) := by
  unfold fX8_change at hf
  refine c_of_i (ty := .int) (own := RX8) (by decide) rfl rfl (Nat.le_of_ble_eq_true rfl) (fun X hC hRet => ?_)
  refine r_sub [(0, .ref (ad 80)), (1, .int p1), (2, .int p2)] [0, 1, 2] rfl ?_
  have hin8 : ∀ w ∈ wsX80, w ∈ wsX8_change := fun w h => List.mem_cons_of_mem _ (List.mem_append_right _ h)
  have hw0 : Cond.fieldLink RX8 56 "HotPipesModel" "rateOf" "[I" ∈ wsX8_change := List.mem_of_getElem? (i := 1) rfl
  have hw1 : Cond.constantLong RX8 200 (1000) ∈ wsX8_change := List.mem_of_getElem? (i := 2) rfl
  refine r_aload_n hC dX8_change_0 rfl 0 rfl ?_
  refine r_iload_n hC dX8_change_1 rfl 1 rfl ?_
  refine r_iload_n hC dX8_change_2 rfl 2 rfl ?_
  obtain ⟨r1, s2, s3, h4, hf⟩ := ob3_some hf
  refine r_vi (st := []) hC (kX8_needSpring l D cy ad c8_latest c8_asked c8_upper c8_lower c8_legs c8_units c8_rests c8_rates c8_lines c8_came c8_sizes c8_weights c8_growths c8_copied c8_legWay c8_legUnits c8_legStuff c8_unitWay c8_unitStuff c8_xs c8_ys c8_zs c8_kindOf c8_placeOf c8_rateOf c8_readOf c8_isGone c8_theList c8_amounts c8_low c8_high c8_barred c8_times c8_ranges p1 p2 h4) gX8_change_X8_needSpring rfl ⟨rfl, rfl⟩ ydX8_needSpring ⟨Nat.le_of_ble_eq_true rfl, Nat.le_of_ble_eq_true rfl⟩ ⟨Nat.le_refl 0, Nat.le_refl 0⟩ 0 rfl rfl [] [] rfl _ rfl (Nat.le_of_ble_eq_true rfl) dX8_change_3 (w8 cy ad s2 c8_asked c8_upper c8_lower c8_legs c8_units c8_rests c8_rates c8_lines s3 c8_sizes c8_weights c8_growths c8_copied c8_legWay c8_legUnits c8_legStuff c8_unitWay c8_unitStuff c8_xs c8_ys c8_zs c8_kindOf c8_placeOf c8_rateOf c8_readOf c8_isGone c8_theList c8_amounts c8_low c8_high c8_barred c8_times c8_ranges) rfl ?_
  refine r_istore_n hC [(3, .int r1), (0, .ref (ad 80)), (1, .int p1), (2, .int p2)] dX8_change_6 rfl (by decide) rfl ?_
  refine r_iload_n hC dX8_change_7 rfl 0 rfl ?_
  refine r_if_ge (tgt := 15) hC dX8_change_8 (by decide) (fun c5 => ?_) (fun c5 => ?_)
  · replace hf := o_pos hf c5
    refine r_aload_n hC dX8_change_15 rfl 1 rfl ?_
    refine r_aload_n hC dX8_change_16 rfl 1 rfl ?_
    refine r_get hC hin8 0 rfl rfl 22 (by decide) rfl hw0 rfl dX8_change_17 ?_
    refine r_iload_n hC dX8_change_20 rfl 2 rfl ?_
    obtain ⟨g6, hf⟩ := og_some hf
    refine r_iald hC 16 rfl g6 dX8_change_21 ?_
    refine r_i2l hC dX8_change_22 ?_
    refine r_aload_n hC dX8_change_23 rfl 1 rfl ?_
    refine r_iload_n hC dX8_change_24 rfl 2 rfl ?_
    refine r_iload_n hC dX8_change_25 rfl 3 rfl ?_
    obtain ⟨r7, h8, hf⟩ := ob_some hf
    refine r_vl (st := [.long (Int32.toInt64 (c8_rateOf (Int32.toNatClampNeg p1))), .ref (ad 80)]) hC (kX8_movedOf l D cy ad s2 c8_asked c8_upper c8_lower c8_legs c8_units c8_rests c8_rates c8_lines s3 c8_sizes c8_weights c8_growths c8_copied c8_legWay c8_legUnits c8_legStuff c8_unitWay c8_unitStuff c8_xs c8_ys c8_zs c8_kindOf c8_placeOf c8_rateOf c8_readOf c8_isGone c8_theList c8_amounts c8_low c8_high c8_barred c8_times c8_ranges p1 p2 N h8) gX8_change_X8_movedOf rfl ⟨rfl, rfl⟩ ydX8_movedOf ⟨Nat.le_of_ble_eq_true rfl, Nat.le_of_ble_eq_true rfl⟩ ⟨Nat.le_refl 0, Nat.le_refl 0⟩ 0 rfl rfl [] [] rfl _ rfl (Nat.le_of_ble_eq_true rfl) dX8_change_26 (w8 cy ad s2 c8_asked c8_upper c8_lower c8_legs c8_units c8_rests c8_rates c8_lines s3 c8_sizes c8_weights c8_growths c8_copied c8_legWay c8_legUnits c8_legStuff c8_unitWay c8_unitStuff c8_xs c8_ys c8_zs c8_kindOf c8_placeOf c8_rateOf c8_readOf c8_isGone c8_theList c8_amounts c8_low c8_high c8_barred c8_times c8_ranges) rfl ?_
    refine r_lmul hC dX8_change_29 ?_
    refine r_ldc2 hC hw1 dX8_change_30 ?_
    refine r_iconst hC dX8_change_33 ic_1 ?_
    obtain ⟨r9, s10, s11, h12, hf⟩ := ob3_some hf
    refine r_vi (st := []) hC (kX8_fraction l D cy ad s2 c8_asked c8_upper c8_lower c8_legs c8_units c8_rests c8_rates c8_lines s3 c8_sizes c8_weights c8_growths c8_copied c8_legWay c8_legUnits c8_legStuff c8_unitWay c8_unitStuff c8_xs c8_ys c8_zs c8_kindOf c8_placeOf c8_rateOf c8_readOf c8_isGone c8_theList c8_amounts c8_low c8_high c8_barred c8_times c8_ranges ((Int32.toInt64 (c8_rateOf (Int32.toNatClampNeg p1))) * r7) 1000 1 N h12) gX8_change_X8_fraction rfl ⟨rfl, rfl⟩ ydX8_fraction ⟨Nat.le_of_ble_eq_true rfl, Nat.le_of_ble_eq_true rfl⟩ ⟨Nat.le_refl 0, Nat.le_refl 0⟩ 0 rfl rfl [] [] rfl _ rfl (Nat.le_of_ble_eq_true rfl) dX8_change_34 (w8 cy ad s2 c8_asked s10 s11 c8_legs c8_units c8_rests c8_rates c8_lines s3 c8_sizes c8_weights c8_growths c8_copied c8_legWay c8_legUnits c8_legStuff c8_unitWay c8_unitStuff c8_xs c8_ys c8_zs c8_kindOf c8_placeOf c8_rateOf c8_readOf c8_isGone c8_theList c8_amounts c8_low c8_high c8_barred c8_times c8_ranges) rfl ?_
    obtain ⟨rfl, rfl, rfl, rfl, rfl⟩ := so_5 hf
    exact hRet _ _ _ dX8_change_37 rfl
  · replace hf := o_neg hf c5
    refine r_iload_n hC dX8_change_11 rfl 0 rfl ?_
    refine r_goto (tgt := 37) hC dX8_change_12 (by decide) ?_
    obtain ⟨rfl, rfl, rfl, rfl, rfl⟩ := so_5 hf
    exact hRet _ _ _ dX8_change_37 rfl
noncomputable def fX8_firm (N : Nat) (c8_latest : Int32) (c8_upper : Int64) (c8_lower : Int64) (c8_units : Int32) (c8_rests : Int32) (c8_came : Nat → Int32) (c8_sizes : Nat → Int32) (c8_weights : Nat → Int32) (c8_growths : Nat → Int32) (c8_unitWay : Nat → Int32) (c8_unitStuff : Nat → Int32) (c8_kindOf : Nat → Int32) (c8_placeOf : Nat → Int32) (c8_rateOf : Nat → Int32) (c8_isGone : Nat → Int32) (p1 : Int32) (p2 : Int32) : Option (Int32 × Int32 × Int64 × Int64 × (Nat → Int32)) := ob3 (fX8_needSpring c8_latest c8_rests c8_came c8_kindOf c8_isGone p1 p2) (fun (r1 : Int32) (s2 : Int32) (s3 : Nat → Int32) => (if 0 ≤ r1 then ob (fX8_twice N c8_units c8_rests c8_sizes c8_weights c8_growths c8_unitWay c8_unitStuff c8_kindOf c8_placeOf c8_isGone p1 p2 (-9)) (fun (r6 : Int32) => (if r6 = 0 then ob3 (fX8_meets s2 s3 4) (fun (r16 : Int32) (s17 : Int32) (s18 : Nat → Int32) => some (r16, s17, c8_upper, c8_lower, s18)) else og (vp_in p1 12) (ob (fX8_movedOf N c8_units c8_sizes c8_growths c8_unitWay c8_unitStuff c8_placeOf p1 p2) (fun (r10 : Int64) => ob3 (fX8_fraction N c8_upper c8_lower ((2 * (Int32.toInt64 (c8_rateOf (Int32.toNatClampNeg p1)))) * r10) (1000 * (Int32.toInt64 r6)) 1) (fun (r12 : Int32) (s13 : Int64) (s14 : Int64) => some (r12, s2, s13, s14, s3)))))) else some (r1, s2, c8_upper, c8_lower, s3)))
theorem ydX8_firm : yX8_firm.cls = RX8 ∧ yX8_firm.cls ≠ "java/lang/invoke/MethodHandle" ∧ yX8_firm.cls ≠ "java/lang/invoke/VarHandle" ∧ (parseMethodDescriptor yX8_firm.desc).map (fun d => d.parameters.length) = some 2 := by decide +kernel
set_option maxHeartbeats 8000000 in
set_option maxRecDepth 100000 in
theorem kX8_firm (l : Launch) (D : va_G) (cy : Nat → ClassId) (ad : Nat → Nat) (c8_latest : Int32) (c8_asked : Int32) (c8_upper : Int64) (c8_lower : Int64) (c8_legs : Int32) (c8_units : Int32) (c8_rests : Int32) (c8_rates : Int32) (c8_lines : Int32) (c8_came : Nat → Int32) (c8_sizes : Nat → Int32) (c8_weights : Nat → Int32) (c8_growths : Nat → Int32) (c8_copied : Nat → Int32) (c8_legWay : Nat → Int32) (c8_legUnits : Nat → Int32) (c8_legStuff : Nat → Int32) (c8_unitWay : Nat → Int32) (c8_unitStuff : Nat → Int32) (c8_xs : Nat → Int32) (c8_ys : Nat → Int32) (c8_zs : Nat → Int32) (c8_kindOf : Nat → Int32) (c8_placeOf : Nat → Int32) (c8_rateOf : Nat → Int32) (c8_readOf : Nat → Int32) (c8_isGone : Nat → Int32) (c8_theList : Nat → Int32) (c8_amounts : Nat → Int32) (c8_low : Nat → Int32) (c8_high : Nat → Int32) (c8_barred : Nat → Int32) (c8_times : Nat → Int32) (c8_ranges : Nat → Int32) (p1 : Int32) (p2 : Int32) (N : Nat) {ra : Int32} {z8_latest : Int32} {z8_upper : Int64} {z8_lower : Int64} {z8_came : Nat → Int32} (hf : fX8_firm N c8_latest c8_upper c8_lower c8_units c8_rests c8_came c8_sizes c8_weights c8_growths c8_unitWay c8_unitStuff c8_kindOf c8_placeOf c8_rateOf c8_isGone p1 p2 = some (ra, z8_latest, z8_upper, z8_lower, z8_came)) : CI l D cy yX8_firm wsX8_firm ({ frames := 5, cells := 0, slots := 0, locals := 118 } : Room) [.ref (ad 80), .int p1, .int p2] (w8 cy ad c8_latest c8_asked c8_upper c8_lower c8_legs c8_units c8_rests c8_rates c8_lines c8_came c8_sizes c8_weights c8_growths c8_copied c8_legWay c8_legUnits c8_legStuff c8_unitWay c8_unitStuff c8_xs c8_ys c8_zs c8_kindOf c8_placeOf c8_rateOf c8_readOf c8_isGone c8_theList c8_amounts c8_low c8_high c8_barred c8_times c8_ranges) ra (w8 cy ad z8_latest c8_asked z8_upper z8_lower c8_legs c8_units c8_rests c8_rates c8_lines z8_came c8_sizes c8_weights c8_growths c8_copied c8_legWay c8_legUnits c8_legStuff c8_unitWay c8_unitStuff c8_xs c8_ys c8_zs c8_kindOf c8_placeOf c8_rateOf c8_readOf c8_isGone c8_theList c8_amounts c8_low c8_high c8_barred c8_times c8_ranges) := by
  unfold fX8_firm at hf
  refine c_of_i (ty := .int) (own := RX8) (by decide) rfl rfl (Nat.le_of_ble_eq_true rfl) (fun X hC hRet => ?_)
  refine r_sub [(0, .ref (ad 80)), (1, .int p1), (2, .int p2)] [0, 1, 2] rfl ?_
  have hin8 : ∀ w ∈ wsX80, w ∈ wsX8_firm := fun w h => List.mem_cons_of_mem _ (List.mem_append_right _ h)
  have hw0 : Cond.constantLong RX8 187 (2) ∈ wsX8_firm := List.mem_of_getElem? (i := 1) rfl
  have hw1 : Cond.fieldLink RX8 56 "HotPipesModel" "rateOf" "[I" ∈ wsX8_firm := List.mem_of_getElem? (i := 2) rfl
  have hw2 : Cond.constantLong RX8 200 (1000) ∈ wsX8_firm := List.mem_of_getElem? (i := 3) rfl
  refine r_aload_n hC dX8_firm_0 rfl 0 rfl ?_
  refine r_iload_n hC dX8_firm_1 rfl 1 rfl ?_
  refine r_iload_n hC dX8_firm_2 rfl 2 rfl ?_
  obtain ⟨r1, s2, s3, h4, hf⟩ := ob3_some hf
  refine r_vi (st := []) hC (kX8_needSpring l D cy ad c8_latest c8_asked c8_upper c8_lower c8_legs c8_units c8_rests c8_rates c8_lines c8_came c8_sizes c8_weights c8_growths c8_copied c8_legWay c8_legUnits c8_legStuff c8_unitWay c8_unitStuff c8_xs c8_ys c8_zs c8_kindOf c8_placeOf c8_rateOf c8_readOf c8_isGone c8_theList c8_amounts c8_low c8_high c8_barred c8_times c8_ranges p1 p2 h4) gX8_firm_X8_needSpring rfl ⟨rfl, rfl⟩ ydX8_needSpring ⟨Nat.le_of_ble_eq_true rfl, Nat.le_of_ble_eq_true rfl⟩ ⟨Nat.le_refl 0, Nat.le_refl 0⟩ 0 rfl rfl [] [] rfl _ rfl (Nat.le_of_ble_eq_true rfl) dX8_firm_3 (w8 cy ad s2 c8_asked c8_upper c8_lower c8_legs c8_units c8_rests c8_rates c8_lines s3 c8_sizes c8_weights c8_growths c8_copied c8_legWay c8_legUnits c8_legStuff c8_unitWay c8_unitStuff c8_xs c8_ys c8_zs c8_kindOf c8_placeOf c8_rateOf c8_readOf c8_isGone c8_theList c8_amounts c8_low c8_high c8_barred c8_times c8_ranges) rfl ?_
  refine r_istore_n hC [(3, .int r1), (0, .ref (ad 80)), (1, .int p1), (2, .int p2)] dX8_firm_6 rfl (by decide) rfl ?_
  refine r_iload_n hC dX8_firm_7 rfl 0 rfl ?_
  refine r_if_ge (tgt := 13) hC dX8_firm_8 (by decide) (fun c5 => ?_) (fun c5 => ?_)
  · replace hf := o_pos hf c5
    refine r_aload_n hC dX8_firm_13 rfl 1 rfl ?_
    refine r_iload_n hC dX8_firm_14 rfl 2 rfl ?_
    refine r_iload_n hC dX8_firm_15 rfl 3 rfl ?_
    refine r_bipush hC dX8_firm_16 bp_m9 ?_
    obtain ⟨r6, h7, hf⟩ := ob_some hf
    refine r_vi (st := []) hC (kX8_twice l D cy ad s2 c8_asked c8_upper c8_lower c8_legs c8_units c8_rests c8_rates c8_lines s3 c8_sizes c8_weights c8_growths c8_copied c8_legWay c8_legUnits c8_legStuff c8_unitWay c8_unitStuff c8_xs c8_ys c8_zs c8_kindOf c8_placeOf c8_rateOf c8_readOf c8_isGone c8_theList c8_amounts c8_low c8_high c8_barred c8_times c8_ranges p1 p2 (-9) N h7) gX8_firm_X8_twice rfl ⟨rfl, rfl⟩ ydX8_twice ⟨Nat.le_of_ble_eq_true rfl, Nat.le_of_ble_eq_true rfl⟩ ⟨Nat.le_refl 0, Nat.le_refl 0⟩ 0 rfl rfl [] [] rfl _ rfl (Nat.le_of_ble_eq_true rfl) dX8_firm_18 (w8 cy ad s2 c8_asked c8_upper c8_lower c8_legs c8_units c8_rests c8_rates c8_lines s3 c8_sizes c8_weights c8_growths c8_copied c8_legWay c8_legUnits c8_legStuff c8_unitWay c8_unitStuff c8_xs c8_ys c8_zs c8_kindOf c8_placeOf c8_rateOf c8_readOf c8_isGone c8_theList c8_amounts c8_low c8_high c8_barred c8_times c8_ranges) rfl ?_
    refine r_istore hC [(4, .int r6), (3, .int r1), (0, .ref (ad 80)), (1, .int p1), (2, .int p2)] dX8_firm_21 (by decide) rfl ?_
    refine r_iload hC dX8_firm_23 0 rfl ?_
    refine r_if_ne (tgt := 36) hC dX8_firm_25 (by decide) (fun c8 => ?_) (fun c8 => ?_)
    · replace hf := o_neg hf c8
      refine r_aload_n hC dX8_firm_36 rfl 2 rfl ?_
      refine r_ldc2 hC hw0 dX8_firm_37 ?_
      refine r_aload_n hC dX8_firm_40 rfl 2 rfl ?_
      refine r_get hC hin8 0 rfl rfl 22 (by decide) rfl hw1 rfl dX8_firm_41 ?_
      refine r_iload_n hC dX8_firm_44 rfl 3 rfl ?_
      obtain ⟨g9, hf⟩ := og_some hf
      refine r_iald hC 16 rfl g9 dX8_firm_45 ?_
      refine r_i2l hC dX8_firm_46 ?_
      refine r_lmul hC dX8_firm_47 ?_
      refine r_aload_n hC dX8_firm_48 rfl 2 rfl ?_
      refine r_iload_n hC dX8_firm_49 rfl 3 rfl ?_
      refine r_iload_n hC dX8_firm_50 rfl 4 rfl ?_
      obtain ⟨r10, h11, hf⟩ := ob_some hf
      refine r_vl (st := [.long (2 * (Int32.toInt64 (c8_rateOf (Int32.toNatClampNeg p1)))), .ref (ad 80)]) hC (kX8_movedOf l D cy ad s2 c8_asked c8_upper c8_lower c8_legs c8_units c8_rests c8_rates c8_lines s3 c8_sizes c8_weights c8_growths c8_copied c8_legWay c8_legUnits c8_legStuff c8_unitWay c8_unitStuff c8_xs c8_ys c8_zs c8_kindOf c8_placeOf c8_rateOf c8_readOf c8_isGone c8_theList c8_amounts c8_low c8_high c8_barred c8_times c8_ranges p1 p2 N h11) gX8_firm_X8_movedOf rfl ⟨rfl, rfl⟩ ydX8_movedOf ⟨Nat.le_of_ble_eq_true rfl, Nat.le_of_ble_eq_true rfl⟩ ⟨Nat.le_refl 0, Nat.le_refl 0⟩ 0 rfl rfl [] [] rfl _ rfl (Nat.le_of_ble_eq_true rfl) dX8_firm_51 (w8 cy ad s2 c8_asked c8_upper c8_lower c8_legs c8_units c8_rests c8_rates c8_lines s3 c8_sizes c8_weights c8_growths c8_copied c8_legWay c8_legUnits c8_legStuff c8_unitWay c8_unitStuff c8_xs c8_ys c8_zs c8_kindOf c8_placeOf c8_rateOf c8_readOf c8_isGone c8_theList c8_amounts c8_low c8_high c8_barred c8_times c8_ranges) rfl ?_
      refine r_lmul hC dX8_firm_54 ?_
      refine r_ldc2 hC hw2 dX8_firm_55 ?_
      refine r_iload hC dX8_firm_58 0 rfl ?_
      refine r_i2l hC dX8_firm_60 ?_
      refine r_lmul hC dX8_firm_61 ?_
      refine r_iconst hC dX8_firm_62 ic_1 ?_
      obtain ⟨r12, s13, s14, h15, hf⟩ := ob3_some hf
      refine r_vi (st := []) hC (kX8_fraction l D cy ad s2 c8_asked c8_upper c8_lower c8_legs c8_units c8_rests c8_rates c8_lines s3 c8_sizes c8_weights c8_growths c8_copied c8_legWay c8_legUnits c8_legStuff c8_unitWay c8_unitStuff c8_xs c8_ys c8_zs c8_kindOf c8_placeOf c8_rateOf c8_readOf c8_isGone c8_theList c8_amounts c8_low c8_high c8_barred c8_times c8_ranges ((2 * (Int32.toInt64 (c8_rateOf (Int32.toNatClampNeg p1)))) * r10) (1000 * (Int32.toInt64 r6)) 1 N h15) gX8_firm_X8_fraction rfl ⟨rfl, rfl⟩ ydX8_fraction ⟨Nat.le_of_ble_eq_true rfl, Nat.le_of_ble_eq_true rfl⟩ ⟨Nat.le_refl 0, Nat.le_refl 0⟩ 0 rfl rfl [] [] rfl _ rfl (Nat.le_of_ble_eq_true rfl) dX8_firm_63 (w8 cy ad s2 c8_asked s13 s14 c8_legs c8_units c8_rests c8_rates c8_lines s3 c8_sizes c8_weights c8_growths c8_copied c8_legWay c8_legUnits c8_legStuff c8_unitWay c8_unitStuff c8_xs c8_ys c8_zs c8_kindOf c8_placeOf c8_rateOf c8_readOf c8_isGone c8_theList c8_amounts c8_low c8_high c8_barred c8_times c8_ranges) rfl ?_
      obtain ⟨rfl, rfl, rfl, rfl, rfl⟩ := so_5 hf
      exact hRet _ _ _ dX8_firm_66 rfl
    · replace hf := o_pos hf c8
      refine r_aload_n hC dX8_firm_28 rfl 2 rfl ?_
      refine r_iconst hC dX8_firm_29 ic_4 ?_
      obtain ⟨r16, s17, s18, h19, hf⟩ := ob3_some hf
      refine r_vi (st := []) hC (kX8_meets l D cy ad s2 c8_asked c8_upper c8_lower c8_legs c8_units c8_rests c8_rates c8_lines s3 c8_sizes c8_weights c8_growths c8_copied c8_legWay c8_legUnits c8_legStuff c8_unitWay c8_unitStuff c8_xs c8_ys c8_zs c8_kindOf c8_placeOf c8_rateOf c8_readOf c8_isGone c8_theList c8_amounts c8_low c8_high c8_barred c8_times c8_ranges 4 h19) gX8_firm_X8_meets rfl ⟨rfl, rfl⟩ ydX8_meets ⟨Nat.le_of_ble_eq_true rfl, Nat.le_of_ble_eq_true rfl⟩ ⟨Nat.le_refl 0, Nat.le_refl 0⟩ 0 rfl rfl [] [] rfl _ rfl (Nat.le_of_ble_eq_true rfl) dX8_firm_30 (w8 cy ad s17 c8_asked c8_upper c8_lower c8_legs c8_units c8_rests c8_rates c8_lines s18 c8_sizes c8_weights c8_growths c8_copied c8_legWay c8_legUnits c8_legStuff c8_unitWay c8_unitStuff c8_xs c8_ys c8_zs c8_kindOf c8_placeOf c8_rateOf c8_readOf c8_isGone c8_theList c8_amounts c8_low c8_high c8_barred c8_times c8_ranges) rfl ?_
      refine r_goto (tgt := 66) hC dX8_firm_33 (by decide) ?_
      obtain ⟨rfl, rfl, rfl, rfl, rfl⟩ := so_5 hf
      exact hRet _ _ _ dX8_firm_66 rfl
  · replace hf := o_neg hf c5
    refine r_iload_n hC dX8_firm_11 rfl 0 rfl ?_
    obtain ⟨rfl, rfl, rfl, rfl, rfl⟩ := so_5 hf
    exact hRet _ _ _ dX8_firm_12 rfl
noncomputable def fX8_list (c8_rates : Int32) (c8_theList : Nat → Int32) (p1 : Int32) : Option (Int32 × Int32 × (Nat → Int32)) := ob (fX8_in p1 1 500) (fun (r1 : Int32) => (if r1 = 0 then some ((-1), c8_rates, c8_theList) else (if c8_rates = 12 then some ((-2), c8_rates, c8_theList) else og (vp_in c8_rates 12) (some ((c8_rates + 1), (c8_rates + 1), (upd c8_theList (Int32.toNatClampNeg c8_rates) p1))))))
theorem ydX8_list : yX8_list.cls = RX8 ∧ yX8_list.cls ≠ "java/lang/invoke/MethodHandle" ∧ yX8_list.cls ≠ "java/lang/invoke/VarHandle" ∧ (parseMethodDescriptor yX8_list.desc).map (fun d => d.parameters.length) = some 1 := by decide +kernel
set_option maxHeartbeats 8000000 in
set_option maxRecDepth 100000 in
theorem kX8_list (l : Launch) (D : va_G) (cy : Nat → ClassId) (ad : Nat → Nat) (c8_latest : Int32) (c8_asked : Int32) (c8_upper : Int64) (c8_lower : Int64) (c8_legs : Int32) (c8_units : Int32) (c8_rests : Int32) (c8_rates : Int32) (c8_lines : Int32) (c8_came : Nat → Int32) (c8_sizes : Nat → Int32) (c8_weights : Nat → Int32) (c8_growths : Nat → Int32) (c8_copied : Nat → Int32) (c8_legWay : Nat → Int32) (c8_legUnits : Nat → Int32) (c8_legStuff : Nat → Int32) (c8_unitWay : Nat → Int32) (c8_unitStuff : Nat → Int32) (c8_xs : Nat → Int32) (c8_ys : Nat → Int32) (c8_zs : Nat → Int32) (c8_kindOf : Nat → Int32) (c8_placeOf : Nat → Int32) (c8_rateOf : Nat → Int32) (c8_readOf : Nat → Int32) (c8_isGone : Nat → Int32) (c8_theList : Nat → Int32) (c8_amounts : Nat → Int32) (c8_low : Nat → Int32) (c8_high : Nat → Int32) (c8_barred : Nat → Int32) (c8_times : Nat → Int32) (c8_ranges : Nat → Int32) (p1 : Int32) {ra : Int32} {z8_rates : Int32} {z8_theList : Nat → Int32} (hf : fX8_list c8_rates c8_theList p1 = some (ra, z8_rates, z8_theList)) : CI l D cy yX8_list wsX8_list ({ frames := 1, cells := 0, slots := 0, locals := 22 } : Room) [.ref (ad 80), .int p1] (w8 cy ad c8_latest c8_asked c8_upper c8_lower c8_legs c8_units c8_rests c8_rates c8_lines c8_came c8_sizes c8_weights c8_growths c8_copied c8_legWay c8_legUnits c8_legStuff c8_unitWay c8_unitStuff c8_xs c8_ys c8_zs c8_kindOf c8_placeOf c8_rateOf c8_readOf c8_isGone c8_theList c8_amounts c8_low c8_high c8_barred c8_times c8_ranges) ra (w8 cy ad c8_latest c8_asked c8_upper c8_lower c8_legs c8_units c8_rests z8_rates c8_lines c8_came c8_sizes c8_weights c8_growths c8_copied c8_legWay c8_legUnits c8_legStuff c8_unitWay c8_unitStuff c8_xs c8_ys c8_zs c8_kindOf c8_placeOf c8_rateOf c8_readOf c8_isGone z8_theList c8_amounts c8_low c8_high c8_barred c8_times c8_ranges) := by
  unfold fX8_list at hf
  refine c_of_i (ty := .int) (own := RX8) (by decide) rfl rfl (Nat.le_of_ble_eq_true rfl) (fun X hC hRet => ?_)
  refine r_sub [(0, .ref (ad 80)), (1, .int p1)] [0, 1] rfl ?_
  have hin8 : ∀ w ∈ wsX80, w ∈ wsX8_list := fun w h => List.mem_cons_of_mem _ (List.mem_append_right _ h)
  have hw0 : Cond.fieldLink RX8 202 "HotPipesModel" "rates" "I" ∈ wsX8_list := List.mem_of_getElem? (i := 1) rfl
  have hw1 : Cond.fieldLink RX8 66 "HotPipesModel" "theList" "[I" ∈ wsX8_list := List.mem_of_getElem? (i := 2) rfl
  refine r_iload_n hC dX8_list_0 rfl 1 rfl ?_
  refine r_iconst hC dX8_list_1 ic_1 ?_
  refine r_sipush hC dX8_list_2 sp_500 ?_
  obtain ⟨r1, h2, hf⟩ := ob_some hf
  refine r_si (st := []) hC (kX8_in l D cy p1 1 500 h2) gX8_list_X8_in rfl ⟨rfl, rfl⟩ ydX8_in ⟨Nat.le_of_ble_eq_true rfl, Nat.le_of_ble_eq_true rfl⟩ ⟨Nat.le_refl 0, Nat.le_refl 0⟩ _ rfl (Nat.le_of_ble_eq_true rfl) dX8_list_5 ?_
  refine r_if_ne (tgt := 13) hC dX8_list_8 (by decide) (fun c3 => ?_) (fun c3 => ?_)
  · replace hf := o_neg hf c3
    refine r_aload_n hC dX8_list_13 rfl 0 rfl ?_
    refine r_get hC hin8 0 rfl rfl 25 (by decide) rfl hw0 rfl dX8_list_14 ?_
    refine r_bipush hC dX8_list_17 bp_12 ?_
    refine r_icmp_ne (tgt := 25) hC dX8_list_19 (by decide) (fun c4 => ?_) (fun c4 => ?_)
    · replace hf := o_neg hf c4
      refine r_aload_n hC dX8_list_25 rfl 0 rfl ?_
      refine r_get hC hin8 0 rfl rfl 26 (by decide) rfl hw1 rfl dX8_list_26 ?_
      refine r_aload_n hC dX8_list_29 rfl 0 rfl ?_
      refine r_get hC hin8 0 rfl rfl 25 (by decide) rfl hw0 rfl dX8_list_30 ?_
      refine r_iload_n hC dX8_list_33 rfl 1 rfl ?_
      obtain ⟨g5, hf⟩ := og_some hf
      refine r_iast hC 19 rfl g5 dX8_list_34 (w8 cy ad c8_latest c8_asked c8_upper c8_lower c8_legs c8_units c8_rests c8_rates c8_lines c8_came c8_sizes c8_weights c8_growths c8_copied c8_legWay c8_legUnits c8_legStuff c8_unitWay c8_unitStuff c8_xs c8_ys c8_zs c8_kindOf c8_placeOf c8_rateOf c8_readOf c8_isGone (upd c8_theList (Int32.toNatClampNeg c8_rates) p1) c8_amounts c8_low c8_high c8_barred c8_times c8_ranges) rfl ?_
      refine r_aload_n hC dX8_list_35 rfl 0 rfl ?_
      refine r_dup hC dX8_list_36 rfl ?_
      refine r_get hC hin8 0 rfl rfl 25 (by decide) rfl hw0 rfl dX8_list_37 ?_
      refine r_iconst hC dX8_list_40 ic_1 ?_
      refine r_iadd hC dX8_list_41 ?_
      refine r_put (ty := .int) hC hin8 tyX8_ok nmX8 0 rfl rfl 25 (by decide) rfl hw0 rfl rfl rfl rfl (Nat.le_of_ble_eq_true rfl) dX8_list_42 (w8 cy ad c8_latest c8_asked c8_upper c8_lower c8_legs c8_units c8_rests (c8_rates + 1) c8_lines c8_came c8_sizes c8_weights c8_growths c8_copied c8_legWay c8_legUnits c8_legStuff c8_unitWay c8_unitStuff c8_xs c8_ys c8_zs c8_kindOf c8_placeOf c8_rateOf c8_readOf c8_isGone (upd c8_theList (Int32.toNatClampNeg c8_rates) p1) c8_amounts c8_low c8_high c8_barred c8_times c8_ranges) rfl ?_
      refine r_aload_n hC dX8_list_45 rfl 0 rfl ?_
      refine r_get hC hin8 0 rfl rfl 25 (by decide) rfl hw0 rfl dX8_list_46 ?_
      obtain ⟨rfl, rfl, rfl⟩ := so_3 hf
      exact hRet _ _ _ dX8_list_49 rfl
    · replace hf := o_pos hf c4
      refine r_bipush hC dX8_list_22 bp_m2 ?_
      obtain ⟨rfl, rfl, rfl⟩ := so_3 hf
      exact hRet _ _ _ dX8_list_24 rfl
  · replace hf := o_pos hf c3
    refine r_iconst hC dX8_list_11 ic_m1 ?_
    obtain ⟨rfl, rfl, rfl⟩ := so_3 hf
    exact hRet _ _ _ dX8_list_12 rfl
noncomputable def fX8_choose_L41 (N : Nat) (c8_units : Int32) (c8_rates : Int32) (c8_sizes : Nat → Int32) (c8_growths : Nat → Int32) (c8_unitWay : Nat → Int32) (c8_unitStuff : Nat → Int32) (c8_placeOf : Nat → Int32) (c8_theList : Nat → Int32) (p1 : Int32) (p2 : Int32) (r6 : Int32) (K124_10 : Int32 → Option (Int32 × Int32 × (Nat → Int32) × (Nat → Int32))) : Nat → Int32 → Int32 → Option (Int32 × Int32 × (Nat → Int32) × (Nat → Int32))
  | 0, _, _ => none
  | n + 1, x17, x18 => (if c8_rates ≤ x18 then K124_10 x17 else og (vp_in x18 12) (ob (fX8_movedOf N c8_units c8_sizes c8_growths c8_unitWay c8_unitStuff c8_placeOf p1 p2) (fun (r21 : Int64) => ob ((if 0 < (lg_cmp ((8 * (Int32.toInt64 (c8_theList (Int32.toNatClampNeg x18)))) * r21) (1000 * (Int32.toInt64 r6))) then some 0 else some 1)) (fun (t23 : Int32) => ob (oj (some x17) (fun (K114_27 : Option (Int32)) => (if t23 = 0 then K114_27 else og (vp_in x18 12) ((if (c8_theList (Int32.toNatClampNeg x18)) ≤ x17 then K114_27 else og (vp_in x18 12) (some (c8_theList (Int32.toNatClampNeg x18)))))))) (fun (t24 : Int32) => fX8_choose_L41 N c8_units c8_rates c8_sizes c8_growths c8_unitWay c8_unitStuff c8_placeOf c8_theList p1 p2 r6 K124_10 n t24 (x18 + 1))))))
noncomputable def fX8_choose (N : Nat) (c8_latest : Int32) (c8_units : Int32) (c8_rests : Int32) (c8_rates : Int32) (c8_came : Nat → Int32) (c8_sizes : Nat → Int32) (c8_weights : Nat → Int32) (c8_growths : Nat → Int32) (c8_unitWay : Nat → Int32) (c8_unitStuff : Nat → Int32) (c8_kindOf : Nat → Int32) (c8_placeOf : Nat → Int32) (c8_rateOf : Nat → Int32) (c8_isGone : Nat → Int32) (c8_theList : Nat → Int32) (p1 : Int32) (p2 : Int32) : Option (Int32 × Int32 × (Nat → Int32) × (Nat → Int32)) := ob3 (fX8_needSpring c8_latest c8_rests c8_came c8_kindOf c8_isGone p1 p2) (fun (r1 : Int32) (s2 : Int32) (s3 : Nat → Int32) => (if 0 ≤ r1 then ob (fX8_twice N c8_units c8_rests c8_sizes c8_weights c8_growths c8_unitWay c8_unitStuff c8_kindOf c8_placeOf c8_isGone p1 p2 (-9)) (fun (r6 : Int32) => (if r6 = 0 then ob3 (fX8_meets s2 s3 4) (fun (r35 : Int32) (s36 : Int32) (s37 : Nat → Int32) => some (r35, s36, s37, c8_rateOf)) else oj (fun (x9 : Int32) => ob ((if x9 = (-9) then og (vp_in p1 12) (some (c8_rateOf (Int32.toNatClampNeg p1))) else some x9)) (fun (t11 : Int32) => og (vp_in p1 12) (some (x9, s2, s3, (upd c8_rateOf (Int32.toNatClampNeg p1) t11))))) (fun (K124_10 : Int32 → Option (Int32 × Int32 × (Nat → Int32) × (Nat → Int32))) => fX8_choose_L41 N c8_units c8_rates c8_sizes c8_growths c8_unitWay c8_unitStuff c8_placeOf c8_theList p1 p2 r6 K124_10 N (-9) 0))) else some (r1, s2, s3, c8_rateOf)))
theorem ydX8_choose : yX8_choose.cls = RX8 ∧ yX8_choose.cls ≠ "java/lang/invoke/MethodHandle" ∧ yX8_choose.cls ≠ "java/lang/invoke/VarHandle" ∧ (parseMethodDescriptor yX8_choose.desc).map (fun d => d.parameters.length) = some 2 := by decide +kernel
set_option maxHeartbeats 8000000 in
set_option maxRecDepth 100000 in
theorem kX8_choose (l : Launch) (D : va_G) (cy : Nat → ClassId) (ad : Nat → Nat) (c8_latest : Int32) (c8_asked : Int32) (c8_upper : Int64) (c8_lower : Int64) (c8_legs : Int32) (c8_units : Int32) (c8_rests : Int32) (c8_rates : Int32) (c8_lines : Int32) (c8_came : Nat → Int32) (c8_sizes : Nat → Int32) (c8_weights : Nat → Int32) (c8_growths : Nat → Int32) (c8_copied : Nat → Int32) (c8_legWay : Nat → Int32) (c8_legUnits : Nat → Int32) (c8_legStuff : Nat → Int32) (c8_unitWay : Nat → Int32) (c8_unitStuff : Nat → Int32) (c8_xs : Nat → Int32) (c8_ys : Nat → Int32) (c8_zs : Nat → Int32) (c8_kindOf : Nat → Int32) (c8_placeOf : Nat → Int32) (c8_rateOf : Nat → Int32) (c8_readOf : Nat → Int32) (c8_isGone : Nat → Int32) (c8_theList : Nat → Int32) (c8_amounts : Nat → Int32) (c8_low : Nat → Int32) (c8_high : Nat → Int32) (c8_barred : Nat → Int32) (c8_times : Nat → Int32) (c8_ranges : Nat → Int32) (p1 : Int32) (p2 : Int32) (N : Nat) {ra : Int32} {z8_latest : Int32} {z8_came : Nat → Int32} {z8_rateOf : Nat → Int32} (hf : fX8_choose N c8_latest c8_units c8_rests c8_rates c8_came c8_sizes c8_weights c8_growths c8_unitWay c8_unitStuff c8_kindOf c8_placeOf c8_rateOf c8_isGone c8_theList p1 p2 = some (ra, z8_latest, z8_came, z8_rateOf)) : CI l D cy yX8_choose wsX8_choose ({ frames := 5, cells := 0, slots := 0, locals := 118 } : Room) [.ref (ad 80), .int p1, .int p2] (w8 cy ad c8_latest c8_asked c8_upper c8_lower c8_legs c8_units c8_rests c8_rates c8_lines c8_came c8_sizes c8_weights c8_growths c8_copied c8_legWay c8_legUnits c8_legStuff c8_unitWay c8_unitStuff c8_xs c8_ys c8_zs c8_kindOf c8_placeOf c8_rateOf c8_readOf c8_isGone c8_theList c8_amounts c8_low c8_high c8_barred c8_times c8_ranges) ra (w8 cy ad z8_latest c8_asked c8_upper c8_lower c8_legs c8_units c8_rests c8_rates c8_lines z8_came c8_sizes c8_weights c8_growths c8_copied c8_legWay c8_legUnits c8_legStuff c8_unitWay c8_unitStuff c8_xs c8_ys c8_zs c8_kindOf c8_placeOf z8_rateOf c8_readOf c8_isGone c8_theList c8_amounts c8_low c8_high c8_barred c8_times c8_ranges) := by
  unfold fX8_choose at hf
  refine c_of_i (ty := .int) (own := RX8) (by decide) rfl rfl (Nat.le_of_ble_eq_true rfl) (fun X hC hRet => ?_)
  refine r_sub [(0, .ref (ad 80)), (1, .int p1), (2, .int p2)] [0, 1, 2] rfl ?_
  have hin8 : ∀ w ∈ wsX80, w ∈ wsX8_choose := fun w h => List.mem_cons_of_mem _ (List.mem_append_right _ h)
  have hw0 : Cond.fieldLink RX8 56 "HotPipesModel" "rateOf" "[I" ∈ wsX8_choose := List.mem_of_getElem? (i := 5) rfl
  have hw1 : Cond.fieldLink RX8 202 "HotPipesModel" "rates" "I" ∈ wsX8_choose := List.mem_of_getElem? (i := 1) rfl
  have hw2 : Cond.constantLong RX8 205 (8) ∈ wsX8_choose := List.mem_of_getElem? (i := 2) rfl
  have hw3 : Cond.fieldLink RX8 66 "HotPipesModel" "theList" "[I" ∈ wsX8_choose := List.mem_of_getElem? (i := 3) rfl
  have hw4 : Cond.constantLong RX8 200 (1000) ∈ wsX8_choose := List.mem_of_getElem? (i := 4) rfl
  refine r_aload_n hC dX8_choose_0 rfl 0 rfl ?_
  refine r_iload_n hC dX8_choose_1 rfl 1 rfl ?_
  refine r_iload_n hC dX8_choose_2 rfl 2 rfl ?_
  obtain ⟨r1, s2, s3, h4, hf⟩ := ob3_some hf
  refine r_vi (st := []) hC (kX8_needSpring l D cy ad c8_latest c8_asked c8_upper c8_lower c8_legs c8_units c8_rests c8_rates c8_lines c8_came c8_sizes c8_weights c8_growths c8_copied c8_legWay c8_legUnits c8_legStuff c8_unitWay c8_unitStuff c8_xs c8_ys c8_zs c8_kindOf c8_placeOf c8_rateOf c8_readOf c8_isGone c8_theList c8_amounts c8_low c8_high c8_barred c8_times c8_ranges p1 p2 h4) gX8_choose_X8_needSpring rfl ⟨rfl, rfl⟩ ydX8_needSpring ⟨Nat.le_of_ble_eq_true rfl, Nat.le_of_ble_eq_true rfl⟩ ⟨Nat.le_refl 0, Nat.le_refl 0⟩ 0 rfl rfl [] [] rfl _ rfl (Nat.le_of_ble_eq_true rfl) dX8_choose_3 (w8 cy ad s2 c8_asked c8_upper c8_lower c8_legs c8_units c8_rests c8_rates c8_lines s3 c8_sizes c8_weights c8_growths c8_copied c8_legWay c8_legUnits c8_legStuff c8_unitWay c8_unitStuff c8_xs c8_ys c8_zs c8_kindOf c8_placeOf c8_rateOf c8_readOf c8_isGone c8_theList c8_amounts c8_low c8_high c8_barred c8_times c8_ranges) rfl ?_
  refine r_istore_n hC [(3, .int r1), (0, .ref (ad 80)), (1, .int p1), (2, .int p2)] dX8_choose_6 rfl (by decide) rfl ?_
  refine r_iload_n hC dX8_choose_7 rfl 0 rfl ?_
  refine r_if_ge (tgt := 13) hC dX8_choose_8 (by decide) (fun c5 => ?_) (fun c5 => ?_)
  · replace hf := o_pos hf c5
    refine r_aload_n hC dX8_choose_13 rfl 1 rfl ?_
    refine r_iload_n hC dX8_choose_14 rfl 2 rfl ?_
    refine r_iload_n hC dX8_choose_15 rfl 3 rfl ?_
    refine r_bipush hC dX8_choose_16 bp_m9 ?_
    obtain ⟨r6, h7, hf⟩ := ob_some hf
    refine r_vi (st := []) hC (kX8_twice l D cy ad s2 c8_asked c8_upper c8_lower c8_legs c8_units c8_rests c8_rates c8_lines s3 c8_sizes c8_weights c8_growths c8_copied c8_legWay c8_legUnits c8_legStuff c8_unitWay c8_unitStuff c8_xs c8_ys c8_zs c8_kindOf c8_placeOf c8_rateOf c8_readOf c8_isGone c8_theList c8_amounts c8_low c8_high c8_barred c8_times c8_ranges p1 p2 (-9) N h7) gX8_choose_X8_twice rfl ⟨rfl, rfl⟩ ydX8_twice ⟨Nat.le_of_ble_eq_true rfl, Nat.le_of_ble_eq_true rfl⟩ ⟨Nat.le_refl 0, Nat.le_refl 0⟩ 0 rfl rfl [] [] rfl _ rfl (Nat.le_of_ble_eq_true rfl) dX8_choose_18 (w8 cy ad s2 c8_asked c8_upper c8_lower c8_legs c8_units c8_rests c8_rates c8_lines s3 c8_sizes c8_weights c8_growths c8_copied c8_legWay c8_legUnits c8_legStuff c8_unitWay c8_unitStuff c8_xs c8_ys c8_zs c8_kindOf c8_placeOf c8_rateOf c8_readOf c8_isGone c8_theList c8_amounts c8_low c8_high c8_barred c8_times c8_ranges) rfl ?_
    refine r_istore hC [(4, .int r6), (3, .int r1), (0, .ref (ad 80)), (1, .int p1), (2, .int p2)] dX8_choose_21 (by decide) rfl ?_
    refine r_iload hC dX8_choose_23 0 rfl ?_
    refine r_if_ne (tgt := 34) hC dX8_choose_25 (by decide) (fun c8 => ?_) (fun c8 => ?_)
    · replace hf := o_neg hf c8
      refine r_bipush hC dX8_choose_34 bp_m9 ?_
      refine r_istore hC [(5, .int (-9)), (4, .int r6), (3, .int r1), (0, .ref (ad 80)), (1, .int p1), (2, .int p2)] dX8_choose_36 (by decide) rfl ?_
      refine r_iconst hC dX8_choose_38 ic_0 ?_
      refine r_istore hC [(6, .int 0), (5, .int (-9)), (4, .int r6), (3, .int r1), (0, .ref (ad 80)), (1, .int p1), (2, .int p2)] dX8_choose_39 (by decide) rfl ?_
      obtain ⟨K124_10, eK124_10, hf⟩ := oj_some hf
      have J124_10 : ∀ (x9 : Int32), K124_10 x9 = some (ra, z8_latest, z8_came, z8_rateOf) → GG X 8 0 0 (w8 cy ad s2 c8_asked c8_upper c8_lower c8_legs c8_units c8_rests c8_rates c8_lines s3 c8_sizes c8_weights c8_growths c8_copied c8_legWay c8_legUnits c8_legStuff c8_unitWay c8_unitStuff c8_xs c8_ys c8_zs c8_kindOf c8_placeOf c8_rateOf c8_readOf c8_isGone c8_theList c8_amounts c8_low c8_high c8_barred c8_times c8_ranges) [(0, .ref (ad 80)), (1, .int p1), (5, .int x9)] 124 [] := by
        intro x9 hf
        replace hf := oa1 eK124_10 hf
        refine r_aload_n hC dX8_choose_124 rfl 0 rfl ?_
        refine r_get hC hin8 0 rfl rfl 22 (by decide) rfl hw0 rfl dX8_choose_125 ?_
        refine r_iload_n hC dX8_choose_128 rfl 1 rfl ?_
        refine r_iload hC dX8_choose_129 2 rfl ?_
        refine r_bipush hC dX8_choose_131 bp_m9 ?_
        obtain ⟨t11, h14, hf⟩ := ob_some hf
        have J147_13 : GG X 8 0 0 (w8 cy ad s2 c8_asked c8_upper c8_lower c8_legs c8_units c8_rests c8_rates c8_lines s3 c8_sizes c8_weights c8_growths c8_copied c8_legWay c8_legUnits c8_legStuff c8_unitWay c8_unitStuff c8_xs c8_ys c8_zs c8_kindOf c8_placeOf c8_rateOf c8_readOf c8_isGone c8_theList c8_amounts c8_low c8_high c8_barred c8_times c8_ranges) [(5, .int x9)] 147 [.int t11, .int p1, .ref (ad 1823)] := by
          obtain ⟨g12, hf⟩ := og_some hf
          refine r_iast hC 16 rfl g12 dX8_choose_147 (w8 cy ad s2 c8_asked c8_upper c8_lower c8_legs c8_units c8_rests c8_rates c8_lines s3 c8_sizes c8_weights c8_growths c8_copied c8_legWay c8_legUnits c8_legStuff c8_unitWay c8_unitStuff c8_xs c8_ys c8_zs c8_kindOf c8_placeOf (upd c8_rateOf (Int32.toNatClampNeg p1) t11) c8_readOf c8_isGone c8_theList c8_amounts c8_low c8_high c8_barred c8_times c8_ranges) rfl ?_
          refine r_iload hC dX8_choose_148 0 rfl ?_
          obtain ⟨rfl, rfl, rfl, rfl⟩ := so_4 hf
          exact hRet _ _ _ dX8_choose_150 rfl
        replace hf := h14
        refine r_icmp_ne (tgt := 145) hC dX8_choose_133 (by decide) (fun c15 => ?_) (fun c15 => ?_)
        · replace hf := o_neg hf c15
          refine r_iload hC dX8_choose_145 2 rfl ?_
          obtain rfl := so_1 hf
          refine r_sub [(5, .int x9)] [2] rfl ?_
          exact J147_13
        · replace hf := o_pos hf c15
          refine r_aload_n hC dX8_choose_136 rfl 0 rfl ?_
          refine r_get hC hin8 0 rfl rfl 22 (by decide) rfl hw0 rfl dX8_choose_137 ?_
          refine r_iload_n hC dX8_choose_140 rfl 1 rfl ?_
          obtain ⟨g16, hf⟩ := og_some hf
          refine r_iald hC 16 rfl g16 dX8_choose_141 ?_
          refine r_goto (tgt := 147) hC dX8_choose_142 (by decide) ?_
          obtain rfl := so_1 hf
          refine r_sub [(5, .int x9)] [2] rfl ?_
          exact J147_13
      have L41 : ∀ (n : Nat) (x17 : Int32) (x18 : Int32), fX8_choose_L41 N c8_units c8_rates c8_sizes c8_growths c8_unitWay c8_unitStuff c8_placeOf c8_theList p1 p2 r6 K124_10 n x17 x18 = some (ra, z8_latest, z8_came, z8_rateOf) → GG X 8 0 0 (w8 cy ad s2 c8_asked c8_upper c8_lower c8_legs c8_units c8_rests c8_rates c8_lines s3 c8_sizes c8_weights c8_growths c8_copied c8_legWay c8_legUnits c8_legStuff c8_unitWay c8_unitStuff c8_xs c8_ys c8_zs c8_kindOf c8_placeOf c8_rateOf c8_readOf c8_isGone c8_theList c8_amounts c8_low c8_high c8_barred c8_times c8_ranges) [(0, .ref (ad 80)), (1, .int p1), (2, .int p2), (4, .int r6), (5, .int x17), (6, .int x18)] 41 [] := by
        intro n
        induction n with
        | zero => intro x17 x18 hf; cases (show none = some _ from hf)
        | succ n ih =>
          intro x17 x18 hf
          rw [fX8_choose_L41] at hf
          refine r_iload hC dX8_choose_41 5 rfl ?_
          refine r_aload_n hC dX8_choose_43 rfl 0 rfl ?_
          refine r_get hC hin8 0 rfl rfl 25 (by decide) rfl hw1 rfl dX8_choose_44 ?_
          refine r_icmp_ge (tgt := 124) hC dX8_choose_47 (by decide) (fun c19 => ?_) (fun c19 => ?_)
          · replace hf := o_pos hf c19
            refine r_sub [(0, .ref (ad 80)), (1, .int p1), (5, .int x17)] [0, 1, 4] rfl ?_
            exact J124_10 x17 hf
          · replace hf := o_neg hf c19
            refine r_ldc2 hC hw2 dX8_choose_50 ?_
            refine r_aload_n hC dX8_choose_53 rfl 0 rfl ?_
            refine r_get hC hin8 0 rfl rfl 26 (by decide) rfl hw3 rfl dX8_choose_54 ?_
            refine r_iload hC dX8_choose_57 5 rfl ?_
            obtain ⟨g20, hf⟩ := og_some hf
            refine r_iald hC 19 rfl g20 dX8_choose_59 ?_
            refine r_i2l hC dX8_choose_60 ?_
            refine r_lmul hC dX8_choose_61 ?_
            refine r_aload_n hC dX8_choose_62 rfl 0 rfl ?_
            refine r_iload_n hC dX8_choose_63 rfl 1 rfl ?_
            refine r_iload_n hC dX8_choose_64 rfl 2 rfl ?_
            obtain ⟨r21, h22, hf⟩ := ob_some hf
            refine r_vl (st := [.long (8 * (Int32.toInt64 (c8_theList (Int32.toNatClampNeg x18))))]) hC (kX8_movedOf l D cy ad s2 c8_asked c8_upper c8_lower c8_legs c8_units c8_rests c8_rates c8_lines s3 c8_sizes c8_weights c8_growths c8_copied c8_legWay c8_legUnits c8_legStuff c8_unitWay c8_unitStuff c8_xs c8_ys c8_zs c8_kindOf c8_placeOf c8_rateOf c8_readOf c8_isGone c8_theList c8_amounts c8_low c8_high c8_barred c8_times c8_ranges p1 p2 N h22) gX8_choose_X8_movedOf rfl ⟨rfl, rfl⟩ ydX8_movedOf ⟨Nat.le_of_ble_eq_true rfl, Nat.le_of_ble_eq_true rfl⟩ ⟨Nat.le_refl 0, Nat.le_refl 0⟩ 0 rfl rfl [] [] rfl _ rfl (Nat.le_of_ble_eq_true rfl) dX8_choose_65 (w8 cy ad s2 c8_asked c8_upper c8_lower c8_legs c8_units c8_rests c8_rates c8_lines s3 c8_sizes c8_weights c8_growths c8_copied c8_legWay c8_legUnits c8_legStuff c8_unitWay c8_unitStuff c8_xs c8_ys c8_zs c8_kindOf c8_placeOf c8_rateOf c8_readOf c8_isGone c8_theList c8_amounts c8_low c8_high c8_barred c8_times c8_ranges) rfl ?_
            refine r_lmul hC dX8_choose_68 ?_
            refine r_ldc2 hC hw4 dX8_choose_69 ?_
            refine r_iload hC dX8_choose_72 3 rfl ?_
            refine r_i2l hC dX8_choose_74 ?_
            refine r_lmul hC dX8_choose_75 ?_
            refine r_lcmp hC dX8_choose_76 ?_
            obtain ⟨t23, h33, hf⟩ := ob_some hf
            have J85_32 : GG X 8 0 0 (w8 cy ad s2 c8_asked c8_upper c8_lower c8_legs c8_units c8_rests c8_rates c8_lines s3 c8_sizes c8_weights c8_growths c8_copied c8_legWay c8_legUnits c8_legStuff c8_unitWay c8_unitStuff c8_xs c8_ys c8_zs c8_kindOf c8_placeOf c8_rateOf c8_readOf c8_isGone c8_theList c8_amounts c8_low c8_high c8_barred c8_times c8_ranges) [(0, .ref (ad 80)), (1, .int p1), (2, .int p2), (4, .int r6), (5, .int x17), (6, .int x18)] 85 [.int t23] := by
              refine r_istore hC [(7, .int t23), (0, .ref (ad 80)), (1, .int p1), (2, .int p2), (4, .int r6), (5, .int x17), (6, .int x18)] dX8_choose_85 (by decide) rfl ?_
              refine r_iload hC dX8_choose_87 0 rfl ?_
              obtain ⟨t24, h26, hf⟩ := ob_some hf
              have J116_25 : GG X 8 0 0 (w8 cy ad s2 c8_asked c8_upper c8_lower c8_legs c8_units c8_rests c8_rates c8_lines s3 c8_sizes c8_weights c8_growths c8_copied c8_legWay c8_legUnits c8_legStuff c8_unitWay c8_unitStuff c8_xs c8_ys c8_zs c8_kindOf c8_placeOf c8_rateOf c8_readOf c8_isGone c8_theList c8_amounts c8_low c8_high c8_barred c8_times c8_ranges) [(0, .ref (ad 80)), (1, .int p1), (2, .int p2), (4, .int r6), (6, .int x18)] 116 [.int t24] := by
                refine r_istore hC [(5, .int t24), (0, .ref (ad 80)), (1, .int p1), (2, .int p2), (4, .int r6), (6, .int x18)] dX8_choose_116 (by decide) rfl ?_
                refine r_iinc hC [(6, .int (x18 + 1)), (5, .int t24), (0, .ref (ad 80)), (1, .int p1), (2, .int p2), (4, .int r6)] (x18 + 1) dX8_choose_118 5 rfl (ii_1 _) (by decide) rfl ?_
                refine r_goto (tgt := 41) hC dX8_choose_121 (by decide) ?_
                refine r_sub [(0, .ref (ad 80)), (1, .int p1), (2, .int p2), (4, .int r6), (5, .int t24), (6, .int (x18 + 1))] [2, 3, 4, 5, 1, 0] rfl ?_
                exact ih t24 (x18 + 1) hf
              replace hf := h26
              obtain ⟨K114_27, eK114_27, hf⟩ := oj_some hf
              have J114_27 : K114_27 = some t24 → GG X 8 0 0 (w8 cy ad s2 c8_asked c8_upper c8_lower c8_legs c8_units c8_rests c8_rates c8_lines s3 c8_sizes c8_weights c8_growths c8_copied c8_legWay c8_legUnits c8_legStuff c8_unitWay c8_unitStuff c8_xs c8_ys c8_zs c8_kindOf c8_placeOf c8_rateOf c8_readOf c8_isGone c8_theList c8_amounts c8_low c8_high c8_barred c8_times c8_ranges) [(0, .ref (ad 80)), (1, .int p1), (2, .int p2), (4, .int r6), (5, .int x17), (6, .int x18)] 114 [] := by
                intro hf
                replace hf := oa0 eK114_27 hf
                refine r_iload hC dX8_choose_114 4 rfl ?_
                obtain rfl := so_1 hf
                refine r_sub [(0, .ref (ad 80)), (1, .int p1), (2, .int p2), (4, .int r6), (6, .int x18)] [0, 1, 2, 3, 5] rfl ?_
                exact J116_25
              refine r_if_eq (tgt := 114) hC dX8_choose_89 (by decide) (fun c28 => ?_) (fun c28 => ?_)
              · replace hf := o_pos hf c28
                refine r_sub [(0, .ref (ad 80)), (1, .int p1), (2, .int p2), (4, .int r6), (5, .int x17), (6, .int x18)] [1, 2, 3, 4, 5, 6] rfl ?_
                exact J114_27 hf
              · replace hf := o_neg hf c28
                refine r_aload_n hC dX8_choose_92 rfl 1 rfl ?_
                refine r_get hC hin8 0 rfl rfl 26 (by decide) rfl hw3 rfl dX8_choose_93 ?_
                refine r_iload hC dX8_choose_96 6 rfl ?_
                obtain ⟨g29, hf⟩ := og_some hf
                refine r_iald hC 19 rfl g29 dX8_choose_98 ?_
                refine r_iload hC dX8_choose_99 5 rfl ?_
                refine r_icmp_le (tgt := 114) hC dX8_choose_101 (by decide) (fun c30 => ?_) (fun c30 => ?_)
                · replace hf := o_pos hf c30
                  refine r_sub [(0, .ref (ad 80)), (1, .int p1), (2, .int p2), (4, .int r6), (5, .int x17), (6, .int x18)] [1, 2, 3, 4, 5, 6] rfl ?_
                  exact J114_27 hf
                · replace hf := o_neg hf c30
                  refine r_aload_n hC dX8_choose_104 rfl 1 rfl ?_
                  refine r_get hC hin8 0 rfl rfl 26 (by decide) rfl hw3 rfl dX8_choose_105 ?_
                  refine r_iload hC dX8_choose_108 6 rfl ?_
                  obtain ⟨g31, hf⟩ := og_some hf
                  refine r_iald hC 19 rfl g31 dX8_choose_110 ?_
                  refine r_goto (tgt := 116) hC dX8_choose_111 (by decide) ?_
                  obtain rfl := so_1 hf
                  refine r_sub [(0, .ref (ad 80)), (1, .int p1), (2, .int p2), (4, .int r6), (6, .int x18)] [1, 2, 3, 4, 6] rfl ?_
                  exact J116_25
            replace hf := h33
            refine r_if_gt (tgt := 84) hC dX8_choose_77 (by decide) (fun c34 => ?_) (fun c34 => ?_)
            · replace hf := o_pos hf c34
              refine r_iconst hC dX8_choose_84 ic_0 ?_
              obtain rfl := so_1 hf
              exact J85_32
            · replace hf := o_neg hf c34
              refine r_iconst hC dX8_choose_80 ic_1 ?_
              refine r_goto (tgt := 85) hC dX8_choose_81 (by decide) ?_
              obtain rfl := so_1 hf
              exact J85_32
      refine r_sub [(0, .ref (ad 80)), (1, .int p1), (2, .int p2), (4, .int r6), (5, .int (-9)), (6, .int 0)] [4, 5, 6, 2, 1, 0] rfl ?_
      exact L41 N (-9) 0 hf
    · replace hf := o_pos hf c8
      refine r_aload_n hC dX8_choose_28 rfl 2 rfl ?_
      refine r_iconst hC dX8_choose_29 ic_4 ?_
      obtain ⟨r35, s36, s37, h38, hf⟩ := ob3_some hf
      refine r_vi (st := []) hC (kX8_meets l D cy ad s2 c8_asked c8_upper c8_lower c8_legs c8_units c8_rests c8_rates c8_lines s3 c8_sizes c8_weights c8_growths c8_copied c8_legWay c8_legUnits c8_legStuff c8_unitWay c8_unitStuff c8_xs c8_ys c8_zs c8_kindOf c8_placeOf c8_rateOf c8_readOf c8_isGone c8_theList c8_amounts c8_low c8_high c8_barred c8_times c8_ranges 4 h38) gX8_choose_X8_meets rfl ⟨rfl, rfl⟩ ydX8_meets ⟨Nat.le_of_ble_eq_true rfl, Nat.le_of_ble_eq_true rfl⟩ ⟨Nat.le_refl 0, Nat.le_refl 0⟩ 0 rfl rfl [] [] rfl _ rfl (Nat.le_of_ble_eq_true rfl) dX8_choose_30 (w8 cy ad s36 c8_asked c8_upper c8_lower c8_legs c8_units c8_rests c8_rates c8_lines s37 c8_sizes c8_weights c8_growths c8_copied c8_legWay c8_legUnits c8_legStuff c8_unitWay c8_unitStuff c8_xs c8_ys c8_zs c8_kindOf c8_placeOf c8_rateOf c8_readOf c8_isGone c8_theList c8_amounts c8_low c8_high c8_barred c8_times c8_ranges) rfl ?_
      obtain ⟨rfl, rfl, rfl, rfl⟩ := so_4 hf
      exact hRet _ _ _ dX8_choose_33 rfl
  · replace hf := o_neg hf c5
    refine r_iload_n hC dX8_choose_11 rfl 0 rfl ?_
    obtain ⟨rfl, rfl, rfl, rfl⟩ := so_4 hf
    exact hRet _ _ _ dX8_choose_12 rfl
noncomputable def fX8_isCase (p1 : Int32) : Option (Int32) := ob (fX8_in p1 0 7) (fun (r1 : Int32) => og (r1 = 0 ∨ r1 = 1) (some r1))
theorem ydX8_isCase : yX8_isCase.cls ≠ "java/lang/invoke/MethodHandle" ∧ yX8_isCase.cls ≠ "java/lang/invoke/VarHandle" ∧ (parseMethodDescriptor yX8_isCase.desc).map (fun d => d.parameters.length) = some 1 := by decide +kernel
set_option maxHeartbeats 8000000 in
set_option maxRecDepth 100000 in
theorem kX8_isCase (l : Launch) (D : va_G) (cy : Nat → ClassId) (p1 : Int32) {ra : Int32} (hf : fX8_isCase p1 = some ra) : CI l D cy yX8_isCase wsX8_isCase ({ frames := 1, cells := 0, slots := 0, locals := 22 } : Room) [.int p1] [] ra [] := by
  unfold fX8_isCase at hf
  refine c_of_i (ty := .boolean) (own := RX8) (by decide) rfl rfl (Nat.le_of_ble_eq_true rfl) (fun X hC hRet => ?_)
  refine r_sub [(0, .int p1)] [0] rfl ?_
  refine r_iload_n hC dX8_isCase_0 rfl 0 rfl ?_
  refine r_iconst hC dX8_isCase_1 ic_0 ?_
  refine r_bipush hC dX8_isCase_2 bp_7 ?_
  obtain ⟨r1, h2, hf⟩ := ob_some hf
  refine r_si (st := []) hC (kX8_in l D cy p1 0 7 h2) gX8_isCase_X8_in rfl ⟨rfl, rfl⟩ ydX8_in ⟨Nat.le_of_ble_eq_true rfl, Nat.le_of_ble_eq_true rfl⟩ ⟨Nat.le_refl 0, Nat.le_refl 0⟩ _ rfl (Nat.le_of_ble_eq_true rfl) dX8_isCase_4 ?_
  obtain ⟨g3, hf⟩ := og_some hf
  obtain rfl := so_1 hf
  exact hRet _ _ _ dX8_isCase_7 (nb_of g3)
noncomputable def fX8_amount (c8_amounts : Nat → Int32) (c8_low : Nat → Int32) (c8_high : Nat → Int32) (p1 : Int32) (p2 : Int32) (p3 : Int32) (p4 : Int32) : Option (Int32 × (Nat → Int32) × (Nat → Int32) × (Nat → Int32)) := ob (fX8_isCase p1) (fun (r1 : Int32) => (if r1 = 0 then some ((-1), c8_amounts, c8_low, c8_high) else ob (fX8_in p2 (-10000) 10000) (fun (r4 : Int32) => (if r4 = 0 then some ((-1), c8_amounts, c8_low, c8_high) else ob (fX8_in p3 (-9) 9) (fun (r7 : Int32) => (if r7 = 0 then some ((-1), c8_amounts, c8_low, c8_high) else ob (fX8_in p4 p3 9) (fun (r10 : Int32) => (if r10 = 0 then some ((-1), c8_amounts, c8_low, c8_high) else og (vp_in p1 8) (og (vp_in p1 8) (og (vp_in p1 8) (some (1, (upd c8_amounts (Int32.toNatClampNeg p1) p2), (upd c8_low (Int32.toNatClampNeg p1) p3), (upd c8_high (Int32.toNatClampNeg p1) p4)))))))))))))
theorem ydX8_amount : yX8_amount.cls = RX8 ∧ yX8_amount.cls ≠ "java/lang/invoke/MethodHandle" ∧ yX8_amount.cls ≠ "java/lang/invoke/VarHandle" ∧ (parseMethodDescriptor yX8_amount.desc).map (fun d => d.parameters.length) = some 4 := by decide +kernel
set_option maxHeartbeats 8000000 in
set_option maxRecDepth 100000 in
theorem kX8_amount (l : Launch) (D : va_G) (cy : Nat → ClassId) (ad : Nat → Nat) (c8_latest : Int32) (c8_asked : Int32) (c8_upper : Int64) (c8_lower : Int64) (c8_legs : Int32) (c8_units : Int32) (c8_rests : Int32) (c8_rates : Int32) (c8_lines : Int32) (c8_came : Nat → Int32) (c8_sizes : Nat → Int32) (c8_weights : Nat → Int32) (c8_growths : Nat → Int32) (c8_copied : Nat → Int32) (c8_legWay : Nat → Int32) (c8_legUnits : Nat → Int32) (c8_legStuff : Nat → Int32) (c8_unitWay : Nat → Int32) (c8_unitStuff : Nat → Int32) (c8_xs : Nat → Int32) (c8_ys : Nat → Int32) (c8_zs : Nat → Int32) (c8_kindOf : Nat → Int32) (c8_placeOf : Nat → Int32) (c8_rateOf : Nat → Int32) (c8_readOf : Nat → Int32) (c8_isGone : Nat → Int32) (c8_theList : Nat → Int32) (c8_amounts : Nat → Int32) (c8_low : Nat → Int32) (c8_high : Nat → Int32) (c8_barred : Nat → Int32) (c8_times : Nat → Int32) (c8_ranges : Nat → Int32) (p1 : Int32) (p2 : Int32) (p3 : Int32) (p4 : Int32) {ra : Int32} {z8_amounts : Nat → Int32} {z8_low : Nat → Int32} {z8_high : Nat → Int32} (hf : fX8_amount c8_amounts c8_low c8_high p1 p2 p3 p4 = some (ra, z8_amounts, z8_low, z8_high)) : CI l D cy yX8_amount wsX8_amount ({ frames := 2, cells := 0, slots := 0, locals := 42 } : Room) [.ref (ad 80), .int p1, .int p2, .int p3, .int p4] (w8 cy ad c8_latest c8_asked c8_upper c8_lower c8_legs c8_units c8_rests c8_rates c8_lines c8_came c8_sizes c8_weights c8_growths c8_copied c8_legWay c8_legUnits c8_legStuff c8_unitWay c8_unitStuff c8_xs c8_ys c8_zs c8_kindOf c8_placeOf c8_rateOf c8_readOf c8_isGone c8_theList c8_amounts c8_low c8_high c8_barred c8_times c8_ranges) ra (w8 cy ad c8_latest c8_asked c8_upper c8_lower c8_legs c8_units c8_rests c8_rates c8_lines c8_came c8_sizes c8_weights c8_growths c8_copied c8_legWay c8_legUnits c8_legStuff c8_unitWay c8_unitStuff c8_xs c8_ys c8_zs c8_kindOf c8_placeOf c8_rateOf c8_readOf c8_isGone c8_theList z8_amounts z8_low z8_high c8_barred c8_times c8_ranges) := by
  unfold fX8_amount at hf
  refine c_of_i (ty := .int) (own := RX8) (by decide) rfl rfl (Nat.le_of_ble_eq_true rfl) (fun X hC hRet => ?_)
  refine r_sub [(0, .ref (ad 80)), (1, .int p1), (2, .int p2), (3, .int p3), (4, .int p4)] [0, 1, 2, 3, 4] rfl ?_
  have hin8 : ∀ w ∈ wsX80, w ∈ wsX8_amount := fun w h => List.mem_cons_of_mem _ (List.mem_append_right _ h)
  have hw0 : Cond.fieldLink RX8 69 "HotPipesModel" "amounts" "[I" ∈ wsX8_amount := List.mem_of_getElem? (i := 1) rfl
  have hw1 : Cond.fieldLink RX8 72 "HotPipesModel" "low" "[I" ∈ wsX8_amount := List.mem_of_getElem? (i := 2) rfl
  have hw2 : Cond.fieldLink RX8 75 "HotPipesModel" "high" "[I" ∈ wsX8_amount := List.mem_of_getElem? (i := 3) rfl
  refine r_iload_n hC dX8_amount_0 rfl 1 rfl ?_
  obtain ⟨r1, h2, hf⟩ := ob_some hf
  refine r_si (st := []) hC (kX8_isCase l D cy p1 h2) gX8_amount_X8_isCase rfl ⟨rfl, rfl⟩ ydX8_isCase ⟨Nat.le_of_ble_eq_true rfl, Nat.le_of_ble_eq_true rfl⟩ ⟨Nat.le_refl 0, Nat.le_refl 0⟩ _ rfl (Nat.le_of_ble_eq_true rfl) dX8_amount_1 ?_
  refine r_if_eq (tgt := 42) hC dX8_amount_4 (by decide) (fun c3 => ?_) (fun c3 => ?_)
  · replace hf := o_pos hf c3
    refine r_iconst hC dX8_amount_42 ic_m1 ?_
    obtain ⟨rfl, rfl, rfl, rfl⟩ := so_4 hf
    exact hRet _ _ _ dX8_amount_43 rfl
  · replace hf := o_neg hf c3
    refine r_iload_n hC dX8_amount_7 rfl 2 rfl ?_
    refine r_sipush hC dX8_amount_8 sp_m10000 ?_
    refine r_sipush hC dX8_amount_11 sp_10000 ?_
    obtain ⟨r4, h5, hf⟩ := ob_some hf
    refine r_si (st := []) hC (kX8_in l D cy p2 (-10000) 10000 h5) gX8_amount_X8_in rfl ⟨rfl, rfl⟩ ydX8_in ⟨Nat.le_of_ble_eq_true rfl, Nat.le_of_ble_eq_true rfl⟩ ⟨Nat.le_refl 0, Nat.le_refl 0⟩ _ rfl (Nat.le_of_ble_eq_true rfl) dX8_amount_14 ?_
    refine r_if_eq (tgt := 42) hC dX8_amount_17 (by decide) (fun c6 => ?_) (fun c6 => ?_)
    · replace hf := o_pos hf c6
      refine r_iconst hC dX8_amount_42 ic_m1 ?_
      obtain ⟨rfl, rfl, rfl, rfl⟩ := so_4 hf
      exact hRet _ _ _ dX8_amount_43 rfl
    · replace hf := o_neg hf c6
      refine r_iload_n hC dX8_amount_20 rfl 3 rfl ?_
      refine r_bipush hC dX8_amount_21 bp_m9 ?_
      refine r_bipush hC dX8_amount_23 bp_9 ?_
      obtain ⟨r7, h8, hf⟩ := ob_some hf
      refine r_si (st := []) hC (kX8_in l D cy p3 (-9) 9 h8) gX8_amount_X8_in rfl ⟨rfl, rfl⟩ ydX8_in ⟨Nat.le_of_ble_eq_true rfl, Nat.le_of_ble_eq_true rfl⟩ ⟨Nat.le_refl 0, Nat.le_refl 0⟩ _ rfl (Nat.le_of_ble_eq_true rfl) dX8_amount_25 ?_
      refine r_if_eq (tgt := 42) hC dX8_amount_28 (by decide) (fun c9 => ?_) (fun c9 => ?_)
      · replace hf := o_pos hf c9
        refine r_iconst hC dX8_amount_42 ic_m1 ?_
        obtain ⟨rfl, rfl, rfl, rfl⟩ := so_4 hf
        exact hRet _ _ _ dX8_amount_43 rfl
      · replace hf := o_neg hf c9
        refine r_iload hC dX8_amount_31 4 rfl ?_
        refine r_iload_n hC dX8_amount_33 rfl 3 rfl ?_
        refine r_bipush hC dX8_amount_34 bp_9 ?_
        obtain ⟨r10, h11, hf⟩ := ob_some hf
        refine r_si (st := []) hC (kX8_in l D cy p4 p3 9 h11) gX8_amount_X8_in rfl ⟨rfl, rfl⟩ ydX8_in ⟨Nat.le_of_ble_eq_true rfl, Nat.le_of_ble_eq_true rfl⟩ ⟨Nat.le_refl 0, Nat.le_refl 0⟩ _ rfl (Nat.le_of_ble_eq_true rfl) dX8_amount_36 ?_
        refine r_if_ne (tgt := 44) hC dX8_amount_39 (by decide) (fun c12 => ?_) (fun c12 => ?_)
        · replace hf := o_neg hf c12
          refine r_aload_n hC dX8_amount_44 rfl 0 rfl ?_
          refine r_get hC hin8 0 rfl rfl 27 (by decide) rfl hw0 rfl dX8_amount_45 ?_
          refine r_iload_n hC dX8_amount_48 rfl 1 rfl ?_
          refine r_iload_n hC dX8_amount_49 rfl 2 rfl ?_
          obtain ⟨g13, hf⟩ := og_some hf
          refine r_iast hC 20 rfl g13 dX8_amount_50 (w8 cy ad c8_latest c8_asked c8_upper c8_lower c8_legs c8_units c8_rests c8_rates c8_lines c8_came c8_sizes c8_weights c8_growths c8_copied c8_legWay c8_legUnits c8_legStuff c8_unitWay c8_unitStuff c8_xs c8_ys c8_zs c8_kindOf c8_placeOf c8_rateOf c8_readOf c8_isGone c8_theList (upd c8_amounts (Int32.toNatClampNeg p1) p2) c8_low c8_high c8_barred c8_times c8_ranges) rfl ?_
          refine r_aload_n hC dX8_amount_51 rfl 0 rfl ?_
          refine r_get hC hin8 0 rfl rfl 28 (by decide) rfl hw1 rfl dX8_amount_52 ?_
          refine r_iload_n hC dX8_amount_55 rfl 1 rfl ?_
          refine r_iload_n hC dX8_amount_56 rfl 3 rfl ?_
          obtain ⟨g14, hf⟩ := og_some hf
          refine r_iast hC 21 rfl g14 dX8_amount_57 (w8 cy ad c8_latest c8_asked c8_upper c8_lower c8_legs c8_units c8_rests c8_rates c8_lines c8_came c8_sizes c8_weights c8_growths c8_copied c8_legWay c8_legUnits c8_legStuff c8_unitWay c8_unitStuff c8_xs c8_ys c8_zs c8_kindOf c8_placeOf c8_rateOf c8_readOf c8_isGone c8_theList (upd c8_amounts (Int32.toNatClampNeg p1) p2) (upd c8_low (Int32.toNatClampNeg p1) p3) c8_high c8_barred c8_times c8_ranges) rfl ?_
          refine r_aload_n hC dX8_amount_58 rfl 0 rfl ?_
          refine r_get hC hin8 0 rfl rfl 29 (by decide) rfl hw2 rfl dX8_amount_59 ?_
          refine r_iload_n hC dX8_amount_62 rfl 1 rfl ?_
          refine r_iload hC dX8_amount_63 4 rfl ?_
          obtain ⟨g15, hf⟩ := og_some hf
          refine r_iast hC 22 rfl g15 dX8_amount_65 (w8 cy ad c8_latest c8_asked c8_upper c8_lower c8_legs c8_units c8_rests c8_rates c8_lines c8_came c8_sizes c8_weights c8_growths c8_copied c8_legWay c8_legUnits c8_legStuff c8_unitWay c8_unitStuff c8_xs c8_ys c8_zs c8_kindOf c8_placeOf c8_rateOf c8_readOf c8_isGone c8_theList (upd c8_amounts (Int32.toNatClampNeg p1) p2) (upd c8_low (Int32.toNatClampNeg p1) p3) (upd c8_high (Int32.toNatClampNeg p1) p4) c8_barred c8_times c8_ranges) rfl ?_
          refine r_iconst hC dX8_amount_66 ic_1 ?_
          obtain ⟨rfl, rfl, rfl, rfl⟩ := so_4 hf
          exact hRet _ _ _ dX8_amount_67 rfl
        · replace hf := o_pos hf c12
          refine r_iconst hC dX8_amount_42 ic_m1 ?_
          obtain ⟨rfl, rfl, rfl, rfl⟩ := so_4 hf
          exact hRet _ _ _ dX8_amount_43 rfl
noncomputable def fX8_bar (c8_barred : Nat → Int32) (p1 : Int32) (p2 : Int32) (p3 : Int32) : Option (Int32 × (Nat → Int32)) := ob (fX8_isCase p1) (fun (r1 : Int32) => (if r1 = 0 then some ((-1), c8_barred) else ob (fX8_isCase p2) (fun (r4 : Int32) => (if r4 = 0 then some ((-1), c8_barred) else (if p1 = p2 then some ((-1), c8_barred) else og (vp_in p1 8) (olet (((c8_barred (Int32.toNatClampNeg p1)) >>> (p2 &&& 31)) &&& 1) (fun (x9 : Int32) => ob ((if p3 = 0 then og (vp_in p1 8) (some ((c8_barred (Int32.toNatClampNeg p1)) &&& ((1 <<< (p2 &&& 31)) ^^^ (-1)))) else og (vp_in p1 8) (some ((c8_barred (Int32.toNatClampNeg p1)) ||| (1 <<< (p2 &&& 31)))))) (fun (t10 : Int32) => og (vp_in p1 8) (ob ((if p3 = 0 then og (vp_in p2 8) (some (((upd c8_barred (Int32.toNatClampNeg p1) t10) (Int32.toNatClampNeg p2)) &&& ((1 <<< (p1 &&& 31)) ^^^ (-1)))) else og (vp_in p2 8) (some (((upd c8_barred (Int32.toNatClampNeg p1) t10) (Int32.toNatClampNeg p2)) ||| (1 <<< (p1 &&& 31)))))) (fun (t12 : Int32) => og (vp_in p2 8) (some (x9, (upd (upd c8_barred (Int32.toNatClampNeg p1) t10) (Int32.toNatClampNeg p2) t12)))))))))))))
theorem ydX8_bar : yX8_bar.cls = RX8 ∧ yX8_bar.cls ≠ "java/lang/invoke/MethodHandle" ∧ yX8_bar.cls ≠ "java/lang/invoke/VarHandle" ∧ (parseMethodDescriptor yX8_bar.desc).map (fun d => d.parameters.length) = some 3 := by decide +kernel
set_option maxHeartbeats 8000000 in
set_option maxRecDepth 100000 in
theorem kX8_bar (l : Launch) (D : va_G) (cy : Nat → ClassId) (ad : Nat → Nat) (c8_latest : Int32) (c8_asked : Int32) (c8_upper : Int64) (c8_lower : Int64) (c8_legs : Int32) (c8_units : Int32) (c8_rests : Int32) (c8_rates : Int32) (c8_lines : Int32) (c8_came : Nat → Int32) (c8_sizes : Nat → Int32) (c8_weights : Nat → Int32) (c8_growths : Nat → Int32) (c8_copied : Nat → Int32) (c8_legWay : Nat → Int32) (c8_legUnits : Nat → Int32) (c8_legStuff : Nat → Int32) (c8_unitWay : Nat → Int32) (c8_unitStuff : Nat → Int32) (c8_xs : Nat → Int32) (c8_ys : Nat → Int32) (c8_zs : Nat → Int32) (c8_kindOf : Nat → Int32) (c8_placeOf : Nat → Int32) (c8_rateOf : Nat → Int32) (c8_readOf : Nat → Int32) (c8_isGone : Nat → Int32) (c8_theList : Nat → Int32) (c8_amounts : Nat → Int32) (c8_low : Nat → Int32) (c8_high : Nat → Int32) (c8_barred : Nat → Int32) (c8_times : Nat → Int32) (c8_ranges : Nat → Int32) (p1 : Int32) (p2 : Int32) (p3 : Int32) {ra : Int32} {z8_barred : Nat → Int32} (hf : fX8_bar c8_barred p1 p2 p3 = some (ra, z8_barred)) : CI l D cy yX8_bar wsX8_bar ({ frames := 2, cells := 0, slots := 0, locals := 42 } : Room) [.ref (ad 80), .int p1, .int p2, .int p3] (w8 cy ad c8_latest c8_asked c8_upper c8_lower c8_legs c8_units c8_rests c8_rates c8_lines c8_came c8_sizes c8_weights c8_growths c8_copied c8_legWay c8_legUnits c8_legStuff c8_unitWay c8_unitStuff c8_xs c8_ys c8_zs c8_kindOf c8_placeOf c8_rateOf c8_readOf c8_isGone c8_theList c8_amounts c8_low c8_high c8_barred c8_times c8_ranges) ra (w8 cy ad c8_latest c8_asked c8_upper c8_lower c8_legs c8_units c8_rests c8_rates c8_lines c8_came c8_sizes c8_weights c8_growths c8_copied c8_legWay c8_legUnits c8_legStuff c8_unitWay c8_unitStuff c8_xs c8_ys c8_zs c8_kindOf c8_placeOf c8_rateOf c8_readOf c8_isGone c8_theList c8_amounts c8_low c8_high z8_barred c8_times c8_ranges) := by
  unfold fX8_bar at hf
  refine c_of_i (ty := .int) (own := RX8) (by decide) rfl rfl (Nat.le_of_ble_eq_true rfl) (fun X hC hRet => ?_)
  refine r_sub [(0, .ref (ad 80)), (1, .int p1), (2, .int p2), (3, .int p3)] [0, 1, 2, 3] rfl ?_
  have hin8 : ∀ w ∈ wsX80, w ∈ wsX8_bar := fun w h => List.mem_cons_of_mem _ (List.mem_append_right _ h)
  have hw0 : Cond.fieldLink RX8 78 "HotPipesModel" "barred" "[I" ∈ wsX8_bar := List.mem_of_getElem? (i := 1) rfl
  refine r_iload_n hC dX8_bar_0 rfl 1 rfl ?_
  obtain ⟨r1, h2, hf⟩ := ob_some hf
  refine r_si (st := []) hC (kX8_isCase l D cy p1 h2) gX8_bar_X8_isCase rfl ⟨rfl, rfl⟩ ydX8_isCase ⟨Nat.le_of_ble_eq_true rfl, Nat.le_of_ble_eq_true rfl⟩ ⟨Nat.le_refl 0, Nat.le_refl 0⟩ _ rfl (Nat.le_of_ble_eq_true rfl) dX8_bar_1 ?_
  refine r_if_eq (tgt := 19) hC dX8_bar_4 (by decide) (fun c3 => ?_) (fun c3 => ?_)
  · replace hf := o_pos hf c3
    refine r_iconst hC dX8_bar_19 ic_m1 ?_
    obtain ⟨rfl, rfl⟩ := so_2 hf
    exact hRet _ _ _ dX8_bar_20 rfl
  · replace hf := o_neg hf c3
    refine r_iload_n hC dX8_bar_7 rfl 2 rfl ?_
    obtain ⟨r4, h5, hf⟩ := ob_some hf
    refine r_si (st := []) hC (kX8_isCase l D cy p2 h5) gX8_bar_X8_isCase rfl ⟨rfl, rfl⟩ ydX8_isCase ⟨Nat.le_of_ble_eq_true rfl, Nat.le_of_ble_eq_true rfl⟩ ⟨Nat.le_refl 0, Nat.le_refl 0⟩ _ rfl (Nat.le_of_ble_eq_true rfl) dX8_bar_8 ?_
    refine r_if_eq (tgt := 19) hC dX8_bar_11 (by decide) (fun c6 => ?_) (fun c6 => ?_)
    · replace hf := o_pos hf c6
      refine r_iconst hC dX8_bar_19 ic_m1 ?_
      obtain ⟨rfl, rfl⟩ := so_2 hf
      exact hRet _ _ _ dX8_bar_20 rfl
    · replace hf := o_neg hf c6
      refine r_iload_n hC dX8_bar_14 rfl 1 rfl ?_
      refine r_iload_n hC dX8_bar_15 rfl 2 rfl ?_
      refine r_icmp_ne (tgt := 21) hC dX8_bar_16 (by decide) (fun c7 => ?_) (fun c7 => ?_)
      · replace hf := o_neg hf c7
        refine r_aload_n hC dX8_bar_21 rfl 0 rfl ?_
        refine r_get hC hin8 0 rfl rfl 30 (by decide) rfl hw0 rfl dX8_bar_22 ?_
        refine r_iload_n hC dX8_bar_25 rfl 1 rfl ?_
        obtain ⟨g8, hf⟩ := og_some hf
        refine r_iald hC 23 rfl g8 dX8_bar_26 ?_
        refine r_iload_n hC dX8_bar_27 rfl 2 rfl ?_
        refine r_ishr hC dX8_bar_28 ?_
        refine r_iconst hC dX8_bar_29 ic_1 ?_
        refine r_iand hC dX8_bar_30 ?_
        refine r_topi (fun x9 ex9 => ?_)
        replace hf := olet_some hf ex9
        refine r_istore hC [(4, .int x9), (0, .ref (ad 80)), (1, .int p1), (2, .int p2), (3, .int p3)] dX8_bar_31 (by decide) rfl ?_
        refine r_aload_n hC dX8_bar_33 rfl 1 rfl ?_
        refine r_get hC hin8 0 rfl rfl 30 (by decide) rfl hw0 rfl dX8_bar_34 ?_
        refine r_iload_n hC dX8_bar_37 rfl 2 rfl ?_
        refine r_iload_n hC dX8_bar_38 rfl 4 rfl ?_
        obtain ⟨t10, h20, hf⟩ := ob_some hf
        have J67_19 : GG X 5 0 0 (w8 cy ad c8_latest c8_asked c8_upper c8_lower c8_legs c8_units c8_rests c8_rates c8_lines c8_came c8_sizes c8_weights c8_growths c8_copied c8_legWay c8_legUnits c8_legStuff c8_unitWay c8_unitStuff c8_xs c8_ys c8_zs c8_kindOf c8_placeOf c8_rateOf c8_readOf c8_isGone c8_theList c8_amounts c8_low c8_high c8_barred c8_times c8_ranges) [(0, .ref (ad 80)), (1, .int p1), (2, .int p2), (3, .int p3), (4, .int x9)] 67 [.int t10, .int p1, .ref (ad 1831)] := by
          obtain ⟨g11, hf⟩ := og_some hf
          refine r_iast hC 23 rfl g11 dX8_bar_67 (w8 cy ad c8_latest c8_asked c8_upper c8_lower c8_legs c8_units c8_rests c8_rates c8_lines c8_came c8_sizes c8_weights c8_growths c8_copied c8_legWay c8_legUnits c8_legStuff c8_unitWay c8_unitStuff c8_xs c8_ys c8_zs c8_kindOf c8_placeOf c8_rateOf c8_readOf c8_isGone c8_theList c8_amounts c8_low c8_high (upd c8_barred (Int32.toNatClampNeg p1) t10) c8_times c8_ranges) rfl ?_
          refine r_aload_n hC dX8_bar_68 rfl 0 rfl ?_
          refine r_get hC hin8 0 rfl rfl 30 (by decide) rfl hw0 rfl dX8_bar_69 ?_
          refine r_iload_n hC dX8_bar_72 rfl 2 rfl ?_
          refine r_iload_n hC dX8_bar_73 rfl 3 rfl ?_
          obtain ⟨t12, h15, hf⟩ := ob_some hf
          have J102_14 : GG X 5 0 0 (w8 cy ad c8_latest c8_asked c8_upper c8_lower c8_legs c8_units c8_rests c8_rates c8_lines c8_came c8_sizes c8_weights c8_growths c8_copied c8_legWay c8_legUnits c8_legStuff c8_unitWay c8_unitStuff c8_xs c8_ys c8_zs c8_kindOf c8_placeOf c8_rateOf c8_readOf c8_isGone c8_theList c8_amounts c8_low c8_high (upd c8_barred (Int32.toNatClampNeg p1) t10) c8_times c8_ranges) [(4, .int x9)] 102 [.int t12, .int p2, .ref (ad 1831)] := by
            obtain ⟨g13, hf⟩ := og_some hf
            refine r_iast hC 23 rfl g13 dX8_bar_102 (w8 cy ad c8_latest c8_asked c8_upper c8_lower c8_legs c8_units c8_rests c8_rates c8_lines c8_came c8_sizes c8_weights c8_growths c8_copied c8_legWay c8_legUnits c8_legStuff c8_unitWay c8_unitStuff c8_xs c8_ys c8_zs c8_kindOf c8_placeOf c8_rateOf c8_readOf c8_isGone c8_theList c8_amounts c8_low c8_high (upd (upd c8_barred (Int32.toNatClampNeg p1) t10) (Int32.toNatClampNeg p2) t12) c8_times c8_ranges) rfl ?_
            refine r_iload hC dX8_bar_103 0 rfl ?_
            obtain ⟨rfl, rfl⟩ := so_2 hf
            exact hRet _ _ _ dX8_bar_105 rfl
          replace hf := h15
          refine r_if_eq (tgt := 90) hC dX8_bar_74 (by decide) (fun c16 => ?_) (fun c16 => ?_)
          · replace hf := o_pos hf c16
            refine r_aload_n hC dX8_bar_90 rfl 0 rfl ?_
            refine r_get hC hin8 0 rfl rfl 30 (by decide) rfl hw0 rfl dX8_bar_91 ?_
            refine r_iload_n hC dX8_bar_94 rfl 2 rfl ?_
            obtain ⟨g17, hf⟩ := og_some hf
            refine r_iald hC 23 rfl g17 dX8_bar_95 ?_
            refine r_iconst hC dX8_bar_96 ic_1 ?_
            refine r_iload_n hC dX8_bar_97 rfl 1 rfl ?_
            refine r_ishl hC dX8_bar_98 ?_
            refine r_iconst hC dX8_bar_99 ic_m1 ?_
            refine r_ixor hC dX8_bar_100 ?_
            refine r_iand hC dX8_bar_101 ?_
            obtain rfl := so_1 hf
            refine r_sub [(4, .int x9)] [4] rfl ?_
            exact J102_14
          · replace hf := o_neg hf c16
            refine r_aload_n hC dX8_bar_77 rfl 0 rfl ?_
            refine r_get hC hin8 0 rfl rfl 30 (by decide) rfl hw0 rfl dX8_bar_78 ?_
            refine r_iload_n hC dX8_bar_81 rfl 2 rfl ?_
            obtain ⟨g18, hf⟩ := og_some hf
            refine r_iald hC 23 rfl g18 dX8_bar_82 ?_
            refine r_iconst hC dX8_bar_83 ic_1 ?_
            refine r_iload_n hC dX8_bar_84 rfl 1 rfl ?_
            refine r_ishl hC dX8_bar_85 ?_
            refine r_ior hC dX8_bar_86 ?_
            refine r_goto (tgt := 102) hC dX8_bar_87 (by decide) ?_
            obtain rfl := so_1 hf
            refine r_sub [(4, .int x9)] [4] rfl ?_
            exact J102_14
        replace hf := h20
        refine r_if_eq (tgt := 55) hC dX8_bar_39 (by decide) (fun c21 => ?_) (fun c21 => ?_)
        · replace hf := o_pos hf c21
          refine r_aload_n hC dX8_bar_55 rfl 1 rfl ?_
          refine r_get hC hin8 0 rfl rfl 30 (by decide) rfl hw0 rfl dX8_bar_56 ?_
          refine r_iload_n hC dX8_bar_59 rfl 2 rfl ?_
          obtain ⟨g22, hf⟩ := og_some hf
          refine r_iald hC 23 rfl g22 dX8_bar_60 ?_
          refine r_iconst hC dX8_bar_61 ic_1 ?_
          refine r_iload_n hC dX8_bar_62 rfl 3 rfl ?_
          refine r_ishl hC dX8_bar_63 ?_
          refine r_iconst hC dX8_bar_64 ic_m1 ?_
          refine r_ixor hC dX8_bar_65 ?_
          refine r_iand hC dX8_bar_66 ?_
          obtain rfl := so_1 hf
          refine r_sub [(0, .ref (ad 80)), (1, .int p1), (2, .int p2), (3, .int p3), (4, .int x9)] [1, 2, 3, 4, 0] rfl ?_
          exact J67_19
        · replace hf := o_neg hf c21
          refine r_aload_n hC dX8_bar_42 rfl 1 rfl ?_
          refine r_get hC hin8 0 rfl rfl 30 (by decide) rfl hw0 rfl dX8_bar_43 ?_
          refine r_iload_n hC dX8_bar_46 rfl 2 rfl ?_
          obtain ⟨g23, hf⟩ := og_some hf
          refine r_iald hC 23 rfl g23 dX8_bar_47 ?_
          refine r_iconst hC dX8_bar_48 ic_1 ?_
          refine r_iload_n hC dX8_bar_49 rfl 3 rfl ?_
          refine r_ishl hC dX8_bar_50 ?_
          refine r_ior hC dX8_bar_51 ?_
          refine r_goto (tgt := 67) hC dX8_bar_52 (by decide) ?_
          obtain rfl := so_1 hf
          refine r_sub [(0, .ref (ad 80)), (1, .int p1), (2, .int p2), (3, .int p3), (4, .int x9)] [1, 2, 3, 4, 0] rfl ?_
          exact J67_19
      · replace hf := o_pos hf c7
        refine r_iconst hC dX8_bar_19 ic_m1 ?_
        obtain ⟨rfl, rfl⟩ := so_2 hf
        exact hRet _ _ _ dX8_bar_20 rfl
noncomputable def fX8_mayJoin_L4 (c8_barred : Nat → Int32) (p1 : Int32) : Nat → Int32 → Int32 → Option (Int32)
  | 0, _, _ => none
  | n + 1, x1, x2 => (if 8 ≤ x2 then og (x1 = 0 ∨ x1 = 1) (some x1) else ob (oj (some 0) (fun (K37_8 : Option (Int32)) => (if x1 = 0 then K37_8 else oj (some 1) (fun (K33_10 : Option (Int32)) => (if ((p1 >>> (x2 &&& 31)) &&& 1) = 0 then K33_10 else og (vp_in x2 8) ((if ((c8_barred (Int32.toNatClampNeg x2)) &&& p1) = 0 then K33_10 else K37_8))))))) (fun (t5 : Int32) => fX8_mayJoin_L4 c8_barred p1 n t5 (x2 + 1)))
noncomputable def fX8_mayJoin (N : Nat) (c8_barred : Nat → Int32) (p1 : Int32) : Option (Int32) := fX8_mayJoin_L4 c8_barred p1 N 1 0
theorem ydX8_mayJoin : yX8_mayJoin.cls = RX8 ∧ yX8_mayJoin.cls ≠ "java/lang/invoke/MethodHandle" ∧ yX8_mayJoin.cls ≠ "java/lang/invoke/VarHandle" ∧ (parseMethodDescriptor yX8_mayJoin.desc).map (fun d => d.parameters.length) = some 1 := by decide +kernel
set_option maxHeartbeats 8000000 in
set_option maxRecDepth 100000 in
theorem kX8_mayJoin (l : Launch) (D : va_G) (cy : Nat → ClassId) (ad : Nat → Nat) (c8_latest : Int32) (c8_asked : Int32) (c8_upper : Int64) (c8_lower : Int64) (c8_legs : Int32) (c8_units : Int32) (c8_rests : Int32) (c8_rates : Int32) (c8_lines : Int32) (c8_came : Nat → Int32) (c8_sizes : Nat → Int32) (c8_weights : Nat → Int32) (c8_growths : Nat → Int32) (c8_copied : Nat → Int32) (c8_legWay : Nat → Int32) (c8_legUnits : Nat → Int32) (c8_legStuff : Nat → Int32) (c8_unitWay : Nat → Int32) (c8_unitStuff : Nat → Int32) (c8_xs : Nat → Int32) (c8_ys : Nat → Int32) (c8_zs : Nat → Int32) (c8_kindOf : Nat → Int32) (c8_placeOf : Nat → Int32) (c8_rateOf : Nat → Int32) (c8_readOf : Nat → Int32) (c8_isGone : Nat → Int32) (c8_theList : Nat → Int32) (c8_amounts : Nat → Int32) (c8_low : Nat → Int32) (c8_high : Nat → Int32) (c8_barred : Nat → Int32) (c8_times : Nat → Int32) (c8_ranges : Nat → Int32) (p1 : Int32) (N : Nat) {ra : Int32} (hf : fX8_mayJoin N c8_barred p1 = some ra) : CI l D cy yX8_mayJoin wsX8_mayJoin ({ frames := 0, cells := 0, slots := 0, locals := 0 } : Room) [.ref (ad 80), .int p1] (w8 cy ad c8_latest c8_asked c8_upper c8_lower c8_legs c8_units c8_rests c8_rates c8_lines c8_came c8_sizes c8_weights c8_growths c8_copied c8_legWay c8_legUnits c8_legStuff c8_unitWay c8_unitStuff c8_xs c8_ys c8_zs c8_kindOf c8_placeOf c8_rateOf c8_readOf c8_isGone c8_theList c8_amounts c8_low c8_high c8_barred c8_times c8_ranges) ra (w8 cy ad c8_latest c8_asked c8_upper c8_lower c8_legs c8_units c8_rests c8_rates c8_lines c8_came c8_sizes c8_weights c8_growths c8_copied c8_legWay c8_legUnits c8_legStuff c8_unitWay c8_unitStuff c8_xs c8_ys c8_zs c8_kindOf c8_placeOf c8_rateOf c8_readOf c8_isGone c8_theList c8_amounts c8_low c8_high c8_barred c8_times c8_ranges) := by
  unfold fX8_mayJoin at hf
  refine c_of_i (ty := .boolean) (own := RX8) (by decide) rfl rfl (Nat.le_of_ble_eq_true rfl) (fun X hC hRet => ?_)
  refine r_sub [(0, .ref (ad 80)), (1, .int p1)] [0, 1] rfl ?_
  have hin8 : ∀ w ∈ wsX80, w ∈ wsX8_mayJoin := fun w h => List.mem_cons_of_mem _ (List.mem_append_right _ h)
  have hw0 : Cond.fieldLink RX8 78 "HotPipesModel" "barred" "[I" ∈ wsX8_mayJoin := List.mem_of_getElem? (i := 1) rfl
  refine r_iconst hC dX8_mayJoin_0 ic_1 ?_
  refine r_istore_n hC [(2, .int 1), (0, .ref (ad 80)), (1, .int p1)] dX8_mayJoin_1 rfl (by decide) rfl ?_
  refine r_iconst hC dX8_mayJoin_2 ic_0 ?_
  refine r_istore_n hC [(3, .int 0), (2, .int 1), (0, .ref (ad 80)), (1, .int p1)] dX8_mayJoin_3 rfl (by decide) rfl ?_
  have L4 : ∀ (n : Nat) (x1 : Int32) (x2 : Int32), fX8_mayJoin_L4 c8_barred p1 n x1 x2 = some ra → GG X 4 0 0 (w8 cy ad c8_latest c8_asked c8_upper c8_lower c8_legs c8_units c8_rests c8_rates c8_lines c8_came c8_sizes c8_weights c8_growths c8_copied c8_legWay c8_legUnits c8_legStuff c8_unitWay c8_unitStuff c8_xs c8_ys c8_zs c8_kindOf c8_placeOf c8_rateOf c8_readOf c8_isGone c8_theList c8_amounts c8_low c8_high c8_barred c8_times c8_ranges) [(0, .ref (ad 80)), (1, .int p1), (2, .int x1), (3, .int x2)] 4 [] := by
    intro n
    induction n with
    | zero => intro x1 x2 hf; cases (show none = some _ from hf)
    | succ n ih =>
      intro x1 x2 hf
      rw [fX8_mayJoin_L4] at hf
      refine r_iload_n hC dX8_mayJoin_4 rfl 3 rfl ?_
      refine r_bipush hC dX8_mayJoin_5 bp_8 ?_
      refine r_icmp_ge (tgt := 45) hC dX8_mayJoin_7 (by decide) (fun c3 => ?_) (fun c3 => ?_)
      · replace hf := o_pos hf c3
        refine r_iload_n hC dX8_mayJoin_45 rfl 2 rfl ?_
        obtain ⟨g4, hf⟩ := og_some hf
        obtain rfl := so_1 hf
        exact hRet _ _ _ dX8_mayJoin_46 (nb_of g4)
      · replace hf := o_neg hf c3
        refine r_iload_n hC dX8_mayJoin_10 rfl 2 rfl ?_
        obtain ⟨t5, h7, hf⟩ := ob_some hf
        have J38_6 : GG X 4 0 0 (w8 cy ad c8_latest c8_asked c8_upper c8_lower c8_legs c8_units c8_rests c8_rates c8_lines c8_came c8_sizes c8_weights c8_growths c8_copied c8_legWay c8_legUnits c8_legStuff c8_unitWay c8_unitStuff c8_xs c8_ys c8_zs c8_kindOf c8_placeOf c8_rateOf c8_readOf c8_isGone c8_theList c8_amounts c8_low c8_high c8_barred c8_times c8_ranges) [(0, .ref (ad 80)), (1, .int p1), (3, .int x2)] 38 [.int t5] := by
          refine r_istore_n hC [(2, .int t5), (0, .ref (ad 80)), (1, .int p1), (3, .int x2)] dX8_mayJoin_38 rfl (by decide) rfl ?_
          refine r_iinc hC [(3, .int (x2 + 1)), (2, .int t5), (0, .ref (ad 80)), (1, .int p1)] (x2 + 1) dX8_mayJoin_39 3 rfl (ii_1 _) (by decide) rfl ?_
          refine r_goto (tgt := 4) hC dX8_mayJoin_42 (by decide) ?_
          refine r_sub [(0, .ref (ad 80)), (1, .int p1), (2, .int t5), (3, .int (x2 + 1))] [2, 3, 1, 0] rfl ?_
          exact ih t5 (x2 + 1) hf
        replace hf := h7
        obtain ⟨K37_8, eK37_8, hf⟩ := oj_some hf
        have J37_8 : K37_8 = some t5 → GG X 4 0 0 (w8 cy ad c8_latest c8_asked c8_upper c8_lower c8_legs c8_units c8_rests c8_rates c8_lines c8_came c8_sizes c8_weights c8_growths c8_copied c8_legWay c8_legUnits c8_legStuff c8_unitWay c8_unitStuff c8_xs c8_ys c8_zs c8_kindOf c8_placeOf c8_rateOf c8_readOf c8_isGone c8_theList c8_amounts c8_low c8_high c8_barred c8_times c8_ranges) [(0, .ref (ad 80)), (1, .int p1), (3, .int x2)] 37 [] := by
          intro hf
          replace hf := oa0 eK37_8 hf
          refine r_iconst hC dX8_mayJoin_37 ic_0 ?_
          obtain rfl := so_1 hf
          exact J38_6
        refine r_if_eq (tgt := 37) hC dX8_mayJoin_11 (by decide) (fun c9 => ?_) (fun c9 => ?_)
        · replace hf := o_pos hf c9
          refine r_sub [(0, .ref (ad 80)), (1, .int p1), (3, .int x2)] [0, 1, 3] rfl ?_
          exact J37_8 hf
        · replace hf := o_neg hf c9
          refine r_iload_n hC dX8_mayJoin_14 rfl 1 rfl ?_
          refine r_iload_n hC dX8_mayJoin_15 rfl 3 rfl ?_
          refine r_ishr hC dX8_mayJoin_16 ?_
          refine r_iconst hC dX8_mayJoin_17 ic_1 ?_
          refine r_iand hC dX8_mayJoin_18 ?_
          obtain ⟨K33_10, eK33_10, hf⟩ := oj_some hf
          have J33_10 : K33_10 = some t5 → GG X 4 0 0 (w8 cy ad c8_latest c8_asked c8_upper c8_lower c8_legs c8_units c8_rests c8_rates c8_lines c8_came c8_sizes c8_weights c8_growths c8_copied c8_legWay c8_legUnits c8_legStuff c8_unitWay c8_unitStuff c8_xs c8_ys c8_zs c8_kindOf c8_placeOf c8_rateOf c8_readOf c8_isGone c8_theList c8_amounts c8_low c8_high c8_barred c8_times c8_ranges) [(0, .ref (ad 80)), (1, .int p1), (3, .int x2)] 33 [] := by
            intro hf
            replace hf := oa0 eK33_10 hf
            refine r_iconst hC dX8_mayJoin_33 ic_1 ?_
            refine r_goto (tgt := 38) hC dX8_mayJoin_34 (by decide) ?_
            obtain rfl := so_1 hf
            exact J38_6
          refine r_if_eq (tgt := 33) hC dX8_mayJoin_19 (by decide) (fun c11 => ?_) (fun c11 => ?_)
          · replace hf := o_pos hf c11
            refine r_sub [(0, .ref (ad 80)), (1, .int p1), (3, .int x2)] [0, 1, 3] rfl ?_
            exact J33_10 hf
          · replace hf := o_neg hf c11
            refine r_aload_n hC dX8_mayJoin_22 rfl 0 rfl ?_
            refine r_get hC hin8 0 rfl rfl 30 (by decide) rfl hw0 rfl dX8_mayJoin_23 ?_
            refine r_iload_n hC dX8_mayJoin_26 rfl 3 rfl ?_
            obtain ⟨g12, hf⟩ := og_some hf
            refine r_iald hC 23 rfl g12 dX8_mayJoin_27 ?_
            refine r_iload_n hC dX8_mayJoin_28 rfl 1 rfl ?_
            refine r_iand hC dX8_mayJoin_29 ?_
            refine r_if_ne (tgt := 37) hC dX8_mayJoin_30 (by decide) (fun c13 => ?_) (fun c13 => ?_)
            · replace hf := o_neg hf c13
              refine r_sub [(0, .ref (ad 80)), (1, .int p1), (3, .int x2)] [0, 1, 3] rfl ?_
              exact J37_8 hf
            · replace hf := o_pos hf c13
              refine r_sub [(0, .ref (ad 80)), (1, .int p1), (3, .int x2)] [0, 1, 3] rfl ?_
              exact J33_10 hf
  refine r_sub [(0, .ref (ad 80)), (1, .int p1), (2, .int 1), (3, .int 0)] [2, 3, 1, 0] rfl ?_
  exact L4 N 1 0 hf
noncomputable def fX8_joined_L4 (c8_amounts : Nat → Int32) (c8_low : Nat → Int32) (c8_high : Nat → Int32) (p1 : Int32) : Nat → Int32 → Int32 → Option (Int32)
  | 0, _, _ => none
  | n + 1, x1, x2 => (if 8 ≤ x2 then some x1 else og (vp_in x2 8) (og (vp_in x2 8) (olet ((c8_amounts (Int32.toNatClampNeg x2)) * (c8_low (Int32.toNatClampNeg x2))) (fun (x6 : Int32) => og (vp_in x2 8) (og (vp_in x2 8) (olet ((c8_amounts (Int32.toNatClampNeg x2)) * (c8_high (Int32.toNatClampNeg x2))) (fun (x9 : Int32) => ob ((if ((p1 >>> (x2 &&& 31)) &&& 1) = 0 then some 0 else (if x6 ≤ x9 then some x9 else some x6))) (fun (t10 : Int32) => olet (x1 + t10) (fun (x11 : Int32) => fX8_joined_L4 c8_amounts c8_low c8_high p1 n x11 (x2 + 1))))))))))
noncomputable def fX8_joined (N : Nat) (c8_amounts : Nat → Int32) (c8_low : Nat → Int32) (c8_high : Nat → Int32) (p1 : Int32) : Option (Int32) := fX8_joined_L4 c8_amounts c8_low c8_high p1 N 0 0
theorem ydX8_joined : yX8_joined.cls = RX8 ∧ yX8_joined.cls ≠ "java/lang/invoke/MethodHandle" ∧ yX8_joined.cls ≠ "java/lang/invoke/VarHandle" ∧ (parseMethodDescriptor yX8_joined.desc).map (fun d => d.parameters.length) = some 1 := by decide +kernel
set_option maxHeartbeats 8000000 in
set_option maxRecDepth 100000 in
theorem kX8_joined (l : Launch) (D : va_G) (cy : Nat → ClassId) (ad : Nat → Nat) (c8_latest : Int32) (c8_asked : Int32) (c8_upper : Int64) (c8_lower : Int64) (c8_legs : Int32) (c8_units : Int32) (c8_rests : Int32) (c8_rates : Int32) (c8_lines : Int32) (c8_came : Nat → Int32) (c8_sizes : Nat → Int32) (c8_weights : Nat → Int32) (c8_growths : Nat → Int32) (c8_copied : Nat → Int32) (c8_legWay : Nat → Int32) (c8_legUnits : Nat → Int32) (c8_legStuff : Nat → Int32) (c8_unitWay : Nat → Int32) (c8_unitStuff : Nat → Int32) (c8_xs : Nat → Int32) (c8_ys : Nat → Int32) (c8_zs : Nat → Int32) (c8_kindOf : Nat → Int32) (c8_placeOf : Nat → Int32) (c8_rateOf : Nat → Int32) (c8_readOf : Nat → Int32) (c8_isGone : Nat → Int32) (c8_theList : Nat → Int32) (c8_amounts : Nat → Int32) (c8_low : Nat → Int32) (c8_high : Nat → Int32) (c8_barred : Nat → Int32) (c8_times : Nat → Int32) (c8_ranges : Nat → Int32) (p1 : Int32) (N : Nat) {ra : Int32} (hf : fX8_joined N c8_amounts c8_low c8_high p1 = some ra) : CI l D cy yX8_joined wsX8_joined ({ frames := 0, cells := 0, slots := 0, locals := 0 } : Room) [.ref (ad 80), .int p1] (w8 cy ad c8_latest c8_asked c8_upper c8_lower c8_legs c8_units c8_rests c8_rates c8_lines c8_came c8_sizes c8_weights c8_growths c8_copied c8_legWay c8_legUnits c8_legStuff c8_unitWay c8_unitStuff c8_xs c8_ys c8_zs c8_kindOf c8_placeOf c8_rateOf c8_readOf c8_isGone c8_theList c8_amounts c8_low c8_high c8_barred c8_times c8_ranges) ra (w8 cy ad c8_latest c8_asked c8_upper c8_lower c8_legs c8_units c8_rests c8_rates c8_lines c8_came c8_sizes c8_weights c8_growths c8_copied c8_legWay c8_legUnits c8_legStuff c8_unitWay c8_unitStuff c8_xs c8_ys c8_zs c8_kindOf c8_placeOf c8_rateOf c8_readOf c8_isGone c8_theList c8_amounts c8_low c8_high c8_barred c8_times c8_ranges) := by
  unfold fX8_joined at hf
  refine c_of_i (ty := .int) (own := RX8) (by decide) rfl rfl (Nat.le_of_ble_eq_true rfl) (fun X hC hRet => ?_)
  refine r_sub [(0, .ref (ad 80)), (1, .int p1)] [0, 1] rfl ?_
  have hin8 : ∀ w ∈ wsX80, w ∈ wsX8_joined := fun w h => List.mem_cons_of_mem _ (List.mem_append_right _ h)
  have hw0 : Cond.fieldLink RX8 69 "HotPipesModel" "amounts" "[I" ∈ wsX8_joined := List.mem_of_getElem? (i := 1) rfl
  have hw1 : Cond.fieldLink RX8 72 "HotPipesModel" "low" "[I" ∈ wsX8_joined := List.mem_of_getElem? (i := 2) rfl
  have hw2 : Cond.fieldLink RX8 75 "HotPipesModel" "high" "[I" ∈ wsX8_joined := List.mem_of_getElem? (i := 3) rfl
  refine r_iconst hC dX8_joined_0 ic_0 ?_
  refine r_istore_n hC [(2, .int 0), (0, .ref (ad 80)), (1, .int p1)] dX8_joined_1 rfl (by decide) rfl ?_
  refine r_iconst hC dX8_joined_2 ic_0 ?_
  refine r_istore_n hC [(3, .int 0), (2, .int 0), (0, .ref (ad 80)), (1, .int p1)] dX8_joined_3 rfl (by decide) rfl ?_
  have L4 : ∀ (n : Nat) (x1 : Int32) (x2 : Int32), fX8_joined_L4 c8_amounts c8_low c8_high p1 n x1 x2 = some ra → GG X 6 0 0 (w8 cy ad c8_latest c8_asked c8_upper c8_lower c8_legs c8_units c8_rests c8_rates c8_lines c8_came c8_sizes c8_weights c8_growths c8_copied c8_legWay c8_legUnits c8_legStuff c8_unitWay c8_unitStuff c8_xs c8_ys c8_zs c8_kindOf c8_placeOf c8_rateOf c8_readOf c8_isGone c8_theList c8_amounts c8_low c8_high c8_barred c8_times c8_ranges) [(0, .ref (ad 80)), (1, .int p1), (2, .int x1), (3, .int x2)] 4 [] := by
    intro n
    induction n with
    | zero => intro x1 x2 hf; cases (show none = some _ from hf)
    | succ n ih =>
      intro x1 x2 hf
      rw [fX8_joined_L4] at hf
      refine r_iload_n hC dX8_joined_4 rfl 3 rfl ?_
      refine r_bipush hC dX8_joined_5 bp_8 ?_
      refine r_icmp_ge (tgt := 75) hC dX8_joined_7 (by decide) (fun c3 => ?_) (fun c3 => ?_)
      · replace hf := o_pos hf c3
        refine r_iload_n hC dX8_joined_75 rfl 2 rfl ?_
        obtain rfl := so_1 hf
        exact hRet _ _ _ dX8_joined_76 rfl
      · replace hf := o_neg hf c3
        refine r_aload_n hC dX8_joined_10 rfl 0 rfl ?_
        refine r_get hC hin8 0 rfl rfl 27 (by decide) rfl hw0 rfl dX8_joined_11 ?_
        refine r_iload_n hC dX8_joined_14 rfl 3 rfl ?_
        obtain ⟨g4, hf⟩ := og_some hf
        refine r_iald hC 20 rfl g4 dX8_joined_15 ?_
        refine r_aload_n hC dX8_joined_16 rfl 0 rfl ?_
        refine r_get hC hin8 0 rfl rfl 28 (by decide) rfl hw1 rfl dX8_joined_17 ?_
        refine r_iload_n hC dX8_joined_20 rfl 3 rfl ?_
        obtain ⟨g5, hf⟩ := og_some hf
        refine r_iald hC 21 rfl g5 dX8_joined_21 ?_
        refine r_imul hC dX8_joined_22 ?_
        refine r_topi (fun x6 ex6 => ?_)
        replace hf := olet_some hf ex6
        refine r_istore hC [(4, .int x6), (0, .ref (ad 80)), (1, .int p1), (2, .int x1), (3, .int x2)] dX8_joined_23 (by decide) rfl ?_
        refine r_aload_n hC dX8_joined_25 rfl 1 rfl ?_
        refine r_get hC hin8 0 rfl rfl 27 (by decide) rfl hw0 rfl dX8_joined_26 ?_
        refine r_iload_n hC dX8_joined_29 rfl 4 rfl ?_
        obtain ⟨g7, hf⟩ := og_some hf
        refine r_iald hC 20 rfl g7 dX8_joined_30 ?_
        refine r_aload_n hC dX8_joined_31 rfl 1 rfl ?_
        refine r_get hC hin8 0 rfl rfl 29 (by decide) rfl hw2 rfl dX8_joined_32 ?_
        refine r_iload_n hC dX8_joined_35 rfl 4 rfl ?_
        obtain ⟨g8, hf⟩ := og_some hf
        refine r_iald hC 22 rfl g8 dX8_joined_36 ?_
        refine r_imul hC dX8_joined_37 ?_
        refine r_topi (fun x9 ex9 => ?_)
        replace hf := olet_some hf ex9
        refine r_istore hC [(5, .int x9), (4, .int x6), (0, .ref (ad 80)), (1, .int p1), (2, .int x1), (3, .int x2)] dX8_joined_38 (by decide) rfl ?_
        refine r_iload_n hC dX8_joined_40 rfl 4 rfl ?_
        refine r_iload_n hC dX8_joined_41 rfl 3 rfl ?_
        refine r_iload_n hC dX8_joined_42 rfl 5 rfl ?_
        refine r_ishr hC dX8_joined_43 ?_
        refine r_iconst hC dX8_joined_44 ic_1 ?_
        refine r_iand hC dX8_joined_45 ?_
        obtain ⟨t10, h13, hf⟩ := ob_some hf
        have J67_12 : GG X 6 0 0 (w8 cy ad c8_latest c8_asked c8_upper c8_lower c8_legs c8_units c8_rests c8_rates c8_lines c8_came c8_sizes c8_weights c8_growths c8_copied c8_legWay c8_legUnits c8_legStuff c8_unitWay c8_unitStuff c8_xs c8_ys c8_zs c8_kindOf c8_placeOf c8_rateOf c8_readOf c8_isGone c8_theList c8_amounts c8_low c8_high c8_barred c8_times c8_ranges) [(0, .ref (ad 80)), (1, .int p1), (3, .int x2)] 67 [.int t10, .int x1] := by
          refine r_iadd hC dX8_joined_67 ?_
          refine r_topi (fun x11 ex11 => ?_)
          replace hf := olet_some hf ex11
          refine r_istore_n hC [(2, .int x11), (0, .ref (ad 80)), (1, .int p1), (3, .int x2)] dX8_joined_68 rfl (by decide) rfl ?_
          refine r_iinc hC [(3, .int (x2 + 1)), (2, .int x11), (0, .ref (ad 80)), (1, .int p1)] (x2 + 1) dX8_joined_69 3 rfl (ii_1 _) (by decide) rfl ?_
          refine r_goto (tgt := 4) hC dX8_joined_72 (by decide) ?_
          refine r_sub [(0, .ref (ad 80)), (1, .int p1), (2, .int x11), (3, .int (x2 + 1))] [2, 3, 1, 0] rfl ?_
          exact ih x11 (x2 + 1) hf
        replace hf := h13
        refine r_if_ne (tgt := 53) hC dX8_joined_46 (by decide) (fun c14 => ?_) (fun c14 => ?_)
        · replace hf := o_neg hf c14
          refine r_iload hC dX8_joined_53 1 rfl ?_
          refine r_iload hC dX8_joined_55 0 rfl ?_
          refine r_icmp_le (tgt := 65) hC dX8_joined_57 (by decide) (fun c15 => ?_) (fun c15 => ?_)
          · replace hf := o_pos hf c15
            refine r_iload hC dX8_joined_65 0 rfl ?_
            obtain rfl := so_1 hf
            refine r_sub [(0, .ref (ad 80)), (1, .int p1), (3, .int x2)] [2, 3, 5] rfl ?_
            exact J67_12
          · replace hf := o_neg hf c15
            refine r_iload hC dX8_joined_60 1 rfl ?_
            refine r_goto (tgt := 67) hC dX8_joined_62 (by decide) ?_
            obtain rfl := so_1 hf
            refine r_sub [(0, .ref (ad 80)), (1, .int p1), (3, .int x2)] [2, 3, 5] rfl ?_
            exact J67_12
        · replace hf := o_pos hf c14
          refine r_iconst hC dX8_joined_49 ic_0 ?_
          refine r_goto (tgt := 67) hC dX8_joined_50 (by decide) ?_
          obtain rfl := so_1 hf
          refine r_sub [(0, .ref (ad 80)), (1, .int p1), (3, .int x2)] [2, 3, 5] rfl ?_
          exact J67_12
  refine r_sub [(0, .ref (ad 80)), (1, .int p1), (2, .int 0), (3, .int 0)] [2, 3, 1, 0] rfl ?_
  exact L4 N 0 0 hf
noncomputable def fX8_worst_L6 (N : Nat) (c8_amounts : Nat → Int32) (c8_low : Nat → Int32) (c8_high : Nat → Int32) (c8_barred : Nat → Int32) (K44_3 : Int32 → Int32 → Option (Int32 × Int32)) : Nat → Int32 → Int32 → Int32 → Option (Int32 × Int32)
  | 0, _, _, _ => none
  | n + 1, x7, x8, x9 => (if 256 ≤ x9 then K44_3 x7 x8 else ob (fX8_mayJoin N c8_barred x9) (fun (r11 : Int32) => ob2 ((if r11 = 0 then some (x7, x8) else ob (fX8_joined N c8_amounts c8_low c8_high x9) (fun (r18 : Int32) => (if r18 ≤ x8 then some (x7, x8) else ob (fX8_joined N c8_amounts c8_low c8_high x9) (fun (r21 : Int32) => some (x9, r21)))))) (fun (x13 : Int32) (x14 : Int32) => fX8_worst_L6 N c8_amounts c8_low c8_high c8_barred K44_3 n x13 x14 (x9 + 1))))
noncomputable def fX8_worst (N : Nat) (c8_asked : Int32) (c8_amounts : Nat → Int32) (c8_low : Nat → Int32) (c8_high : Nat → Int32) (c8_barred : Nat → Int32) : Option (Int32 × Int32) := oj (fun (x1 : Int32) (x2 : Int32) => ob2 (fX8_tells c8_asked x1 x2) (fun (r4 : Int32) (s5 : Int32) => some (r4, s5))) (fun (K44_3 : Int32 → Int32 → Option (Int32 × Int32)) => fX8_worst_L6 N c8_amounts c8_low c8_high c8_barred K44_3 N 0 0 1)
theorem ydX8_worst : yX8_worst.cls = RX8 ∧ yX8_worst.cls ≠ "java/lang/invoke/MethodHandle" ∧ yX8_worst.cls ≠ "java/lang/invoke/VarHandle" ∧ (parseMethodDescriptor yX8_worst.desc).map (fun d => d.parameters.length) = some 0 := by decide +kernel
set_option maxHeartbeats 8000000 in
set_option maxRecDepth 100000 in
theorem kX8_worst (l : Launch) (D : va_G) (cy : Nat → ClassId) (ad : Nat → Nat) (c8_latest : Int32) (c8_asked : Int32) (c8_upper : Int64) (c8_lower : Int64) (c8_legs : Int32) (c8_units : Int32) (c8_rests : Int32) (c8_rates : Int32) (c8_lines : Int32) (c8_came : Nat → Int32) (c8_sizes : Nat → Int32) (c8_weights : Nat → Int32) (c8_growths : Nat → Int32) (c8_copied : Nat → Int32) (c8_legWay : Nat → Int32) (c8_legUnits : Nat → Int32) (c8_legStuff : Nat → Int32) (c8_unitWay : Nat → Int32) (c8_unitStuff : Nat → Int32) (c8_xs : Nat → Int32) (c8_ys : Nat → Int32) (c8_zs : Nat → Int32) (c8_kindOf : Nat → Int32) (c8_placeOf : Nat → Int32) (c8_rateOf : Nat → Int32) (c8_readOf : Nat → Int32) (c8_isGone : Nat → Int32) (c8_theList : Nat → Int32) (c8_amounts : Nat → Int32) (c8_low : Nat → Int32) (c8_high : Nat → Int32) (c8_barred : Nat → Int32) (c8_times : Nat → Int32) (c8_ranges : Nat → Int32) (N : Nat) {ra : Int32} {z8_asked : Int32} (hf : fX8_worst N c8_asked c8_amounts c8_low c8_high c8_barred = some (ra, z8_asked)) : CI l D cy yX8_worst wsX8_worst ({ frames := 1, cells := 0, slots := 0, locals := 25 } : Room) [.ref (ad 80)] (w8 cy ad c8_latest c8_asked c8_upper c8_lower c8_legs c8_units c8_rests c8_rates c8_lines c8_came c8_sizes c8_weights c8_growths c8_copied c8_legWay c8_legUnits c8_legStuff c8_unitWay c8_unitStuff c8_xs c8_ys c8_zs c8_kindOf c8_placeOf c8_rateOf c8_readOf c8_isGone c8_theList c8_amounts c8_low c8_high c8_barred c8_times c8_ranges) ra (w8 cy ad c8_latest z8_asked c8_upper c8_lower c8_legs c8_units c8_rests c8_rates c8_lines c8_came c8_sizes c8_weights c8_growths c8_copied c8_legWay c8_legUnits c8_legStuff c8_unitWay c8_unitStuff c8_xs c8_ys c8_zs c8_kindOf c8_placeOf c8_rateOf c8_readOf c8_isGone c8_theList c8_amounts c8_low c8_high c8_barred c8_times c8_ranges) := by
  unfold fX8_worst at hf
  refine c_of_i (ty := .int) (own := RX8) (by decide) rfl rfl (Nat.le_of_ble_eq_true rfl) (fun X hC hRet => ?_)
  refine r_sub [(0, .ref (ad 80))] [0] rfl ?_
  refine r_iconst hC dX8_worst_0 ic_0 ?_
  refine r_istore_n hC [(1, .int 0), (0, .ref (ad 80))] dX8_worst_1 rfl (by decide) rfl ?_
  refine r_iconst hC dX8_worst_2 ic_0 ?_
  refine r_istore_n hC [(2, .int 0), (1, .int 0), (0, .ref (ad 80))] dX8_worst_3 rfl (by decide) rfl ?_
  refine r_iconst hC dX8_worst_4 ic_1 ?_
  refine r_istore_n hC [(3, .int 1), (2, .int 0), (1, .int 0), (0, .ref (ad 80))] dX8_worst_5 rfl (by decide) rfl ?_
  obtain ⟨K44_3, eK44_3, hf⟩ := oj_some hf
  have J44_3 : ∀ (x1 : Int32) (x2 : Int32), K44_3 x1 x2 = some (ra, z8_asked) → GG X 4 0 0 (w8 cy ad c8_latest c8_asked c8_upper c8_lower c8_legs c8_units c8_rests c8_rates c8_lines c8_came c8_sizes c8_weights c8_growths c8_copied c8_legWay c8_legUnits c8_legStuff c8_unitWay c8_unitStuff c8_xs c8_ys c8_zs c8_kindOf c8_placeOf c8_rateOf c8_readOf c8_isGone c8_theList c8_amounts c8_low c8_high c8_barred c8_times c8_ranges) [(0, .ref (ad 80)), (1, .int x1), (2, .int x2)] 44 [] := by
    intro x1 x2 hf
    replace hf := oa2 eK44_3 hf
    refine r_aload_n hC dX8_worst_44 rfl 0 rfl ?_
    refine r_iload_n hC dX8_worst_45 rfl 1 rfl ?_
    refine r_iload_n hC dX8_worst_46 rfl 2 rfl ?_
    obtain ⟨r4, s5, h6, hf⟩ := ob2_some hf
    refine r_vi (st := []) hC (kX8_tells l D cy ad c8_latest c8_asked c8_upper c8_lower c8_legs c8_units c8_rests c8_rates c8_lines c8_came c8_sizes c8_weights c8_growths c8_copied c8_legWay c8_legUnits c8_legStuff c8_unitWay c8_unitStuff c8_xs c8_ys c8_zs c8_kindOf c8_placeOf c8_rateOf c8_readOf c8_isGone c8_theList c8_amounts c8_low c8_high c8_barred c8_times c8_ranges x1 x2 h6) gX8_worst_X8_tells rfl ⟨rfl, rfl⟩ ydX8_tells ⟨Nat.le_of_ble_eq_true rfl, Nat.le_of_ble_eq_true rfl⟩ ⟨Nat.le_refl 0, Nat.le_refl 0⟩ 0 rfl rfl [] [] rfl _ rfl (Nat.le_of_ble_eq_true rfl) dX8_worst_47 (w8 cy ad c8_latest s5 c8_upper c8_lower c8_legs c8_units c8_rests c8_rates c8_lines c8_came c8_sizes c8_weights c8_growths c8_copied c8_legWay c8_legUnits c8_legStuff c8_unitWay c8_unitStuff c8_xs c8_ys c8_zs c8_kindOf c8_placeOf c8_rateOf c8_readOf c8_isGone c8_theList c8_amounts c8_low c8_high c8_barred c8_times c8_ranges) rfl ?_
    obtain ⟨rfl, rfl⟩ := so_2 hf
    exact hRet _ _ _ dX8_worst_50 rfl
  have L6 : ∀ (n : Nat) (x7 : Int32) (x8 : Int32) (x9 : Int32), fX8_worst_L6 N c8_amounts c8_low c8_high c8_barred K44_3 n x7 x8 x9 = some (ra, z8_asked) → GG X 4 0 0 (w8 cy ad c8_latest c8_asked c8_upper c8_lower c8_legs c8_units c8_rests c8_rates c8_lines c8_came c8_sizes c8_weights c8_growths c8_copied c8_legWay c8_legUnits c8_legStuff c8_unitWay c8_unitStuff c8_xs c8_ys c8_zs c8_kindOf c8_placeOf c8_rateOf c8_readOf c8_isGone c8_theList c8_amounts c8_low c8_high c8_barred c8_times c8_ranges) [(0, .ref (ad 80)), (1, .int x7), (2, .int x8), (3, .int x9)] 6 [] := by
    intro n
    induction n with
    | zero => intro x7 x8 x9 hf; cases (show none = some _ from hf)
    | succ n ih =>
      intro x7 x8 x9 hf
      rw [fX8_worst_L6] at hf
      refine r_iload_n hC dX8_worst_6 rfl 3 rfl ?_
      refine r_sipush hC dX8_worst_7 sp_256 ?_
      refine r_icmp_ge (tgt := 44) hC dX8_worst_10 (by decide) (fun c10 => ?_) (fun c10 => ?_)
      · replace hf := o_pos hf c10
        refine r_sub [(0, .ref (ad 80)), (1, .int x7), (2, .int x8)] [0, 1, 2] rfl ?_
        exact J44_3 x7 x8 hf
      · replace hf := o_neg hf c10
        refine r_aload_n hC dX8_worst_13 rfl 0 rfl ?_
        refine r_iload_n hC dX8_worst_14 rfl 3 rfl ?_
        obtain ⟨r11, h12, hf⟩ := ob_some hf
        refine r_vi (st := []) hC (kX8_mayJoin l D cy ad c8_latest c8_asked c8_upper c8_lower c8_legs c8_units c8_rests c8_rates c8_lines c8_came c8_sizes c8_weights c8_growths c8_copied c8_legWay c8_legUnits c8_legStuff c8_unitWay c8_unitStuff c8_xs c8_ys c8_zs c8_kindOf c8_placeOf c8_rateOf c8_readOf c8_isGone c8_theList c8_amounts c8_low c8_high c8_barred c8_times c8_ranges x9 N h12) gX8_worst_X8_mayJoin rfl ⟨rfl, rfl⟩ ydX8_mayJoin ⟨Nat.le_of_ble_eq_true rfl, Nat.le_of_ble_eq_true rfl⟩ ⟨Nat.le_refl 0, Nat.le_refl 0⟩ 0 rfl rfl [] [] rfl _ rfl (Nat.le_of_ble_eq_true rfl) dX8_worst_15 (w8 cy ad c8_latest c8_asked c8_upper c8_lower c8_legs c8_units c8_rests c8_rates c8_lines c8_came c8_sizes c8_weights c8_growths c8_copied c8_legWay c8_legUnits c8_legStuff c8_unitWay c8_unitStuff c8_xs c8_ys c8_zs c8_kindOf c8_placeOf c8_rateOf c8_readOf c8_isGone c8_theList c8_amounts c8_low c8_high c8_barred c8_times c8_ranges) rfl ?_
        obtain ⟨x13, x14, h16, hf⟩ := ob2_some hf
        have J38_15 : GG X 4 0 0 (w8 cy ad c8_latest c8_asked c8_upper c8_lower c8_legs c8_units c8_rests c8_rates c8_lines c8_came c8_sizes c8_weights c8_growths c8_copied c8_legWay c8_legUnits c8_legStuff c8_unitWay c8_unitStuff c8_xs c8_ys c8_zs c8_kindOf c8_placeOf c8_rateOf c8_readOf c8_isGone c8_theList c8_amounts c8_low c8_high c8_barred c8_times c8_ranges) [(0, .ref (ad 80)), (1, .int x13), (2, .int x14), (3, .int x9)] 38 [] := by
          refine r_iinc hC [(3, .int (x9 + 1)), (0, .ref (ad 80)), (1, .int x13), (2, .int x14)] (x9 + 1) dX8_worst_38 3 rfl (ii_1 _) (by decide) rfl ?_
          refine r_goto (tgt := 6) hC dX8_worst_41 (by decide) ?_
          refine r_sub [(0, .ref (ad 80)), (1, .int x13), (2, .int x14), (3, .int (x9 + 1))] [1, 2, 3, 0] rfl ?_
          exact ih x13 x14 (x9 + 1) hf
        replace hf := h16
        refine r_if_eq (tgt := 38) hC dX8_worst_18 (by decide) (fun c17 => ?_) (fun c17 => ?_)
        · replace hf := o_pos hf c17
          obtain ⟨rfl, rfl⟩ := so_2 hf
          exact J38_15
        · replace hf := o_neg hf c17
          refine r_aload_n hC dX8_worst_21 rfl 0 rfl ?_
          refine r_iload_n hC dX8_worst_22 rfl 3 rfl ?_
          obtain ⟨r18, h19, hf⟩ := ob_some hf
          refine r_vi (st := []) hC (kX8_joined l D cy ad c8_latest c8_asked c8_upper c8_lower c8_legs c8_units c8_rests c8_rates c8_lines c8_came c8_sizes c8_weights c8_growths c8_copied c8_legWay c8_legUnits c8_legStuff c8_unitWay c8_unitStuff c8_xs c8_ys c8_zs c8_kindOf c8_placeOf c8_rateOf c8_readOf c8_isGone c8_theList c8_amounts c8_low c8_high c8_barred c8_times c8_ranges x9 N h19) gX8_worst_X8_joined rfl ⟨rfl, rfl⟩ ydX8_joined ⟨Nat.le_of_ble_eq_true rfl, Nat.le_of_ble_eq_true rfl⟩ ⟨Nat.le_refl 0, Nat.le_refl 0⟩ 0 rfl rfl [] [] rfl _ rfl (Nat.le_of_ble_eq_true rfl) dX8_worst_23 (w8 cy ad c8_latest c8_asked c8_upper c8_lower c8_legs c8_units c8_rests c8_rates c8_lines c8_came c8_sizes c8_weights c8_growths c8_copied c8_legWay c8_legUnits c8_legStuff c8_unitWay c8_unitStuff c8_xs c8_ys c8_zs c8_kindOf c8_placeOf c8_rateOf c8_readOf c8_isGone c8_theList c8_amounts c8_low c8_high c8_barred c8_times c8_ranges) rfl ?_
          refine r_iload_n hC dX8_worst_26 rfl 2 rfl ?_
          refine r_icmp_le (tgt := 38) hC dX8_worst_27 (by decide) (fun c20 => ?_) (fun c20 => ?_)
          · replace hf := o_pos hf c20
            obtain ⟨rfl, rfl⟩ := so_2 hf
            exact J38_15
          · replace hf := o_neg hf c20
            refine r_iload_n hC dX8_worst_30 rfl 3 rfl ?_
            refine r_istore_n hC [(1, .int x9), (0, .ref (ad 80)), (2, .int x8), (3, .int x9)] dX8_worst_31 rfl (by decide) rfl ?_
            refine r_aload_n hC dX8_worst_32 rfl 1 rfl ?_
            refine r_iload_n hC dX8_worst_33 rfl 3 rfl ?_
            obtain ⟨r21, h22, hf⟩ := ob_some hf
            refine r_vi (st := []) hC (kX8_joined l D cy ad c8_latest c8_asked c8_upper c8_lower c8_legs c8_units c8_rests c8_rates c8_lines c8_came c8_sizes c8_weights c8_growths c8_copied c8_legWay c8_legUnits c8_legStuff c8_unitWay c8_unitStuff c8_xs c8_ys c8_zs c8_kindOf c8_placeOf c8_rateOf c8_readOf c8_isGone c8_theList c8_amounts c8_low c8_high c8_barred c8_times c8_ranges x9 N h22) gX8_worst_X8_joined rfl ⟨rfl, rfl⟩ ydX8_joined ⟨Nat.le_of_ble_eq_true rfl, Nat.le_of_ble_eq_true rfl⟩ ⟨Nat.le_refl 0, Nat.le_refl 0⟩ 0 rfl rfl [] [] rfl _ rfl (Nat.le_of_ble_eq_true rfl) dX8_worst_34 (w8 cy ad c8_latest c8_asked c8_upper c8_lower c8_legs c8_units c8_rests c8_rates c8_lines c8_came c8_sizes c8_weights c8_growths c8_copied c8_legWay c8_legUnits c8_legStuff c8_unitWay c8_unitStuff c8_xs c8_ys c8_zs c8_kindOf c8_placeOf c8_rateOf c8_readOf c8_isGone c8_theList c8_amounts c8_low c8_high c8_barred c8_times c8_ranges) rfl ?_
            refine r_istore_n hC [(2, .int r21), (1, .int x9), (0, .ref (ad 80)), (3, .int x9)] dX8_worst_37 rfl (by decide) rfl ?_
            obtain ⟨rfl, rfl⟩ := so_2 hf
            refine r_sub [(0, .ref (ad 80)), (1, .int x9), (2, .int r21), (3, .int x9)] [2, 1, 0, 3] rfl ?_
            exact J38_15
  refine r_sub [(0, .ref (ad 80)), (1, .int 0), (2, .int 0), (3, .int 1)] [3, 2, 1, 0] rfl ?_
  exact L6 N 0 0 1 hf
noncomputable def fX8_cycle (c8_lines : Int32) (c8_times : Nat → Int32) (c8_ranges : Nat → Int32) (p1 : Int32) (p2 : Int32) : Option (Int32 × Int32 × (Nat → Int32) × (Nat → Int32)) := ob (fX8_in p1 1 100000) (fun (r1 : Int32) => (if r1 = 0 then some ((-1), c8_lines, c8_times, c8_ranges) else ob (fX8_in p2 1 60) (fun (r4 : Int32) => (if r4 = 0 then some ((-1), c8_lines, c8_times, c8_ranges) else (if c8_lines = 30 then some ((-2), c8_lines, c8_times, c8_ranges) else og (vp_in c8_lines 30) (og (vp_in c8_lines 30) (some ((c8_lines + 1), (c8_lines + 1), (upd c8_times (Int32.toNatClampNeg c8_lines) p1), (upd c8_ranges (Int32.toNatClampNeg c8_lines) p2)))))))))
theorem ydX8_cycle : yX8_cycle.cls = RX8 ∧ yX8_cycle.cls ≠ "java/lang/invoke/MethodHandle" ∧ yX8_cycle.cls ≠ "java/lang/invoke/VarHandle" ∧ (parseMethodDescriptor yX8_cycle.desc).map (fun d => d.parameters.length) = some 2 := by decide +kernel
set_option maxHeartbeats 8000000 in
set_option maxRecDepth 100000 in
theorem kX8_cycle (l : Launch) (D : va_G) (cy : Nat → ClassId) (ad : Nat → Nat) (c8_latest : Int32) (c8_asked : Int32) (c8_upper : Int64) (c8_lower : Int64) (c8_legs : Int32) (c8_units : Int32) (c8_rests : Int32) (c8_rates : Int32) (c8_lines : Int32) (c8_came : Nat → Int32) (c8_sizes : Nat → Int32) (c8_weights : Nat → Int32) (c8_growths : Nat → Int32) (c8_copied : Nat → Int32) (c8_legWay : Nat → Int32) (c8_legUnits : Nat → Int32) (c8_legStuff : Nat → Int32) (c8_unitWay : Nat → Int32) (c8_unitStuff : Nat → Int32) (c8_xs : Nat → Int32) (c8_ys : Nat → Int32) (c8_zs : Nat → Int32) (c8_kindOf : Nat → Int32) (c8_placeOf : Nat → Int32) (c8_rateOf : Nat → Int32) (c8_readOf : Nat → Int32) (c8_isGone : Nat → Int32) (c8_theList : Nat → Int32) (c8_amounts : Nat → Int32) (c8_low : Nat → Int32) (c8_high : Nat → Int32) (c8_barred : Nat → Int32) (c8_times : Nat → Int32) (c8_ranges : Nat → Int32) (p1 : Int32) (p2 : Int32) {ra : Int32} {z8_lines : Int32} {z8_times : Nat → Int32} {z8_ranges : Nat → Int32} (hf : fX8_cycle c8_lines c8_times c8_ranges p1 p2 = some (ra, z8_lines, z8_times, z8_ranges)) : CI l D cy yX8_cycle wsX8_cycle ({ frames := 1, cells := 0, slots := 0, locals := 22 } : Room) [.ref (ad 80), .int p1, .int p2] (w8 cy ad c8_latest c8_asked c8_upper c8_lower c8_legs c8_units c8_rests c8_rates c8_lines c8_came c8_sizes c8_weights c8_growths c8_copied c8_legWay c8_legUnits c8_legStuff c8_unitWay c8_unitStuff c8_xs c8_ys c8_zs c8_kindOf c8_placeOf c8_rateOf c8_readOf c8_isGone c8_theList c8_amounts c8_low c8_high c8_barred c8_times c8_ranges) ra (w8 cy ad c8_latest c8_asked c8_upper c8_lower c8_legs c8_units c8_rests c8_rates z8_lines c8_came c8_sizes c8_weights c8_growths c8_copied c8_legWay c8_legUnits c8_legStuff c8_unitWay c8_unitStuff c8_xs c8_ys c8_zs c8_kindOf c8_placeOf c8_rateOf c8_readOf c8_isGone c8_theList c8_amounts c8_low c8_high c8_barred z8_times z8_ranges) := by
  unfold fX8_cycle at hf
  refine c_of_i (ty := .int) (own := RX8) (by decide) rfl rfl (Nat.le_of_ble_eq_true rfl) (fun X hC hRet => ?_)
  refine r_sub [(0, .ref (ad 80)), (1, .int p1), (2, .int p2)] [0, 1, 2] rfl ?_
  have hin8 : ∀ w ∈ wsX80, w ∈ wsX8_cycle := fun w h => List.mem_cons_of_mem _ (List.mem_append_right _ h)
  have hw0 : Cond.constant RX8 216 (100000) ∈ wsX8_cycle := List.mem_of_getElem? (i := 1) rfl
  have hw1 : Cond.fieldLink RX8 217 "HotPipesModel" "lines" "I" ∈ wsX8_cycle := List.mem_of_getElem? (i := 2) rfl
  have hw2 : Cond.fieldLink RX8 81 "HotPipesModel" "times" "[I" ∈ wsX8_cycle := List.mem_of_getElem? (i := 3) rfl
  have hw3 : Cond.fieldLink RX8 84 "HotPipesModel" "ranges" "[I" ∈ wsX8_cycle := List.mem_of_getElem? (i := 4) rfl
  refine r_iload_n hC dX8_cycle_0 rfl 1 rfl ?_
  refine r_iconst hC dX8_cycle_1 ic_1 ?_
  refine r_ldc hC hw0 dX8_cycle_2 ?_
  obtain ⟨r1, h2, hf⟩ := ob_some hf
  refine r_si (st := []) hC (kX8_in l D cy p1 1 100000 h2) gX8_cycle_X8_in rfl ⟨rfl, rfl⟩ ydX8_in ⟨Nat.le_of_ble_eq_true rfl, Nat.le_of_ble_eq_true rfl⟩ ⟨Nat.le_refl 0, Nat.le_refl 0⟩ _ rfl (Nat.le_of_ble_eq_true rfl) dX8_cycle_4 ?_
  refine r_if_eq (tgt := 20) hC dX8_cycle_7 (by decide) (fun c3 => ?_) (fun c3 => ?_)
  · replace hf := o_pos hf c3
    refine r_iconst hC dX8_cycle_20 ic_m1 ?_
    obtain ⟨rfl, rfl, rfl, rfl⟩ := so_4 hf
    exact hRet _ _ _ dX8_cycle_21 rfl
  · replace hf := o_neg hf c3
    refine r_iload_n hC dX8_cycle_10 rfl 2 rfl ?_
    refine r_iconst hC dX8_cycle_11 ic_1 ?_
    refine r_bipush hC dX8_cycle_12 bp_60 ?_
    obtain ⟨r4, h5, hf⟩ := ob_some hf
    refine r_si (st := []) hC (kX8_in l D cy p2 1 60 h5) gX8_cycle_X8_in rfl ⟨rfl, rfl⟩ ydX8_in ⟨Nat.le_of_ble_eq_true rfl, Nat.le_of_ble_eq_true rfl⟩ ⟨Nat.le_refl 0, Nat.le_refl 0⟩ _ rfl (Nat.le_of_ble_eq_true rfl) dX8_cycle_14 ?_
    refine r_if_ne (tgt := 22) hC dX8_cycle_17 (by decide) (fun c6 => ?_) (fun c6 => ?_)
    · replace hf := o_neg hf c6
      refine r_aload_n hC dX8_cycle_22 rfl 0 rfl ?_
      refine r_get hC hin8 0 rfl rfl 31 (by decide) rfl hw1 rfl dX8_cycle_23 ?_
      refine r_bipush hC dX8_cycle_26 bp_30 ?_
      refine r_icmp_ne (tgt := 34) hC dX8_cycle_28 (by decide) (fun c7 => ?_) (fun c7 => ?_)
      · replace hf := o_neg hf c7
        refine r_aload_n hC dX8_cycle_34 rfl 0 rfl ?_
        refine r_get hC hin8 0 rfl rfl 32 (by decide) rfl hw2 rfl dX8_cycle_35 ?_
        refine r_aload_n hC dX8_cycle_38 rfl 0 rfl ?_
        refine r_get hC hin8 0 rfl rfl 31 (by decide) rfl hw1 rfl dX8_cycle_39 ?_
        refine r_iload_n hC dX8_cycle_42 rfl 1 rfl ?_
        obtain ⟨g8, hf⟩ := og_some hf
        refine r_iast hC 24 rfl g8 dX8_cycle_43 (w8 cy ad c8_latest c8_asked c8_upper c8_lower c8_legs c8_units c8_rests c8_rates c8_lines c8_came c8_sizes c8_weights c8_growths c8_copied c8_legWay c8_legUnits c8_legStuff c8_unitWay c8_unitStuff c8_xs c8_ys c8_zs c8_kindOf c8_placeOf c8_rateOf c8_readOf c8_isGone c8_theList c8_amounts c8_low c8_high c8_barred (upd c8_times (Int32.toNatClampNeg c8_lines) p1) c8_ranges) rfl ?_
        refine r_aload_n hC dX8_cycle_44 rfl 0 rfl ?_
        refine r_get hC hin8 0 rfl rfl 33 (by decide) rfl hw3 rfl dX8_cycle_45 ?_
        refine r_aload_n hC dX8_cycle_48 rfl 0 rfl ?_
        refine r_get hC hin8 0 rfl rfl 31 (by decide) rfl hw1 rfl dX8_cycle_49 ?_
        refine r_iload_n hC dX8_cycle_52 rfl 2 rfl ?_
        obtain ⟨g9, hf⟩ := og_some hf
        refine r_iast hC 25 rfl g9 dX8_cycle_53 (w8 cy ad c8_latest c8_asked c8_upper c8_lower c8_legs c8_units c8_rests c8_rates c8_lines c8_came c8_sizes c8_weights c8_growths c8_copied c8_legWay c8_legUnits c8_legStuff c8_unitWay c8_unitStuff c8_xs c8_ys c8_zs c8_kindOf c8_placeOf c8_rateOf c8_readOf c8_isGone c8_theList c8_amounts c8_low c8_high c8_barred (upd c8_times (Int32.toNatClampNeg c8_lines) p1) (upd c8_ranges (Int32.toNatClampNeg c8_lines) p2)) rfl ?_
        refine r_aload_n hC dX8_cycle_54 rfl 0 rfl ?_
        refine r_dup hC dX8_cycle_55 rfl ?_
        refine r_get hC hin8 0 rfl rfl 31 (by decide) rfl hw1 rfl dX8_cycle_56 ?_
        refine r_iconst hC dX8_cycle_59 ic_1 ?_
        refine r_iadd hC dX8_cycle_60 ?_
        refine r_put (ty := .int) hC hin8 tyX8_ok nmX8 0 rfl rfl 31 (by decide) rfl hw1 rfl rfl rfl rfl (Nat.le_of_ble_eq_true rfl) dX8_cycle_61 (w8 cy ad c8_latest c8_asked c8_upper c8_lower c8_legs c8_units c8_rests c8_rates (c8_lines + 1) c8_came c8_sizes c8_weights c8_growths c8_copied c8_legWay c8_legUnits c8_legStuff c8_unitWay c8_unitStuff c8_xs c8_ys c8_zs c8_kindOf c8_placeOf c8_rateOf c8_readOf c8_isGone c8_theList c8_amounts c8_low c8_high c8_barred (upd c8_times (Int32.toNatClampNeg c8_lines) p1) (upd c8_ranges (Int32.toNatClampNeg c8_lines) p2)) rfl ?_
        refine r_aload_n hC dX8_cycle_64 rfl 0 rfl ?_
        refine r_get hC hin8 0 rfl rfl 31 (by decide) rfl hw1 rfl dX8_cycle_65 ?_
        obtain ⟨rfl, rfl, rfl, rfl⟩ := so_4 hf
        exact hRet _ _ _ dX8_cycle_68 rfl
      · replace hf := o_pos hf c7
        refine r_bipush hC dX8_cycle_31 bp_m2 ?_
        obtain ⟨rfl, rfl, rfl, rfl⟩ := so_4 hf
        exact hRet _ _ _ dX8_cycle_33 rfl
    · replace hf := o_pos hf c6
      refine r_iconst hC dX8_cycle_20 ic_m1 ?_
      obtain ⟨rfl, rfl, rfl, rfl⟩ := so_4 hf
      exact hRet _ _ _ dX8_cycle_21 rfl
noncomputable def fX8_used_L4 (c8_lines : Int32) (c8_times : Nat → Int32) (c8_ranges : Nat → Int32) (K37_2 : Int64 → Option (Int32 × Int64 × Int64)) : Nat → Int64 → Int32 → Option (Int32 × Int64 × Int64)
  | 0, _, _ => none
  | n + 1, x11, x12 => (if c8_lines ≤ x12 then K37_2 x11 else og (vp_in x12 30) (og (vp_in x12 30) (olet (x11 + ((Int32.toInt64 (c8_times (Int32.toNatClampNeg x12))) <<< (Int32.toInt64 ((c8_ranges (Int32.toNatClampNeg x12)) / 4) &&& 63))) (fun (x16 : Int64) => fX8_used_L4 c8_lines c8_times c8_ranges K37_2 n x16 (x12 + 1)))))
noncomputable def fX8_used (N : Nat) (c8_upper : Int64) (c8_lower : Int64) (c8_lines : Int32) (c8_times : Nat → Int32) (c8_ranges : Nat → Int32) : Option (Int32 × Int64 × Int64) := oj (fun (x1 : Int64) => ob ((if (lg_cmp x1 65536) ≤ 0 then some 0 else some 1)) (fun (t3 : Int32) => ob3 (fX8_fraction N c8_upper c8_lower x1 65536 t3) (fun (r4 : Int32) (s5 : Int64) (s6 : Int64) => some (r4, s5, s6)))) (fun (K37_2 : Int64 → Option (Int32 × Int64 × Int64)) => fX8_used_L4 c8_lines c8_times c8_ranges K37_2 N 0 0)
theorem ydX8_used : yX8_used.cls = RX8 ∧ yX8_used.cls ≠ "java/lang/invoke/MethodHandle" ∧ yX8_used.cls ≠ "java/lang/invoke/VarHandle" ∧ (parseMethodDescriptor yX8_used.desc).map (fun d => d.parameters.length) = some 0 := by decide +kernel
set_option maxHeartbeats 8000000 in
set_option maxRecDepth 100000 in
theorem kX8_used (l : Launch) (D : va_G) (cy : Nat → ClassId) (ad : Nat → Nat) (c8_latest : Int32) (c8_asked : Int32) (c8_upper : Int64) (c8_lower : Int64) (c8_legs : Int32) (c8_units : Int32) (c8_rests : Int32) (c8_rates : Int32) (c8_lines : Int32) (c8_came : Nat → Int32) (c8_sizes : Nat → Int32) (c8_weights : Nat → Int32) (c8_growths : Nat → Int32) (c8_copied : Nat → Int32) (c8_legWay : Nat → Int32) (c8_legUnits : Nat → Int32) (c8_legStuff : Nat → Int32) (c8_unitWay : Nat → Int32) (c8_unitStuff : Nat → Int32) (c8_xs : Nat → Int32) (c8_ys : Nat → Int32) (c8_zs : Nat → Int32) (c8_kindOf : Nat → Int32) (c8_placeOf : Nat → Int32) (c8_rateOf : Nat → Int32) (c8_readOf : Nat → Int32) (c8_isGone : Nat → Int32) (c8_theList : Nat → Int32) (c8_amounts : Nat → Int32) (c8_low : Nat → Int32) (c8_high : Nat → Int32) (c8_barred : Nat → Int32) (c8_times : Nat → Int32) (c8_ranges : Nat → Int32) (N : Nat) {ra : Int32} {z8_upper : Int64} {z8_lower : Int64} (hf : fX8_used N c8_upper c8_lower c8_lines c8_times c8_ranges = some (ra, z8_upper, z8_lower)) : CI l D cy yX8_used wsX8_used ({ frames := 1, cells := 0, slots := 0, locals := 31 } : Room) [.ref (ad 80)] (w8 cy ad c8_latest c8_asked c8_upper c8_lower c8_legs c8_units c8_rests c8_rates c8_lines c8_came c8_sizes c8_weights c8_growths c8_copied c8_legWay c8_legUnits c8_legStuff c8_unitWay c8_unitStuff c8_xs c8_ys c8_zs c8_kindOf c8_placeOf c8_rateOf c8_readOf c8_isGone c8_theList c8_amounts c8_low c8_high c8_barred c8_times c8_ranges) ra (w8 cy ad c8_latest c8_asked z8_upper z8_lower c8_legs c8_units c8_rests c8_rates c8_lines c8_came c8_sizes c8_weights c8_growths c8_copied c8_legWay c8_legUnits c8_legStuff c8_unitWay c8_unitStuff c8_xs c8_ys c8_zs c8_kindOf c8_placeOf c8_rateOf c8_readOf c8_isGone c8_theList c8_amounts c8_low c8_high c8_barred c8_times c8_ranges) := by
  unfold fX8_used at hf
  refine c_of_i (ty := .int) (own := RX8) (by decide) rfl rfl (Nat.le_of_ble_eq_true rfl) (fun X hC hRet => ?_)
  refine r_sub [(0, .ref (ad 80))] [0] rfl ?_
  have hin8 : ∀ w ∈ wsX80, w ∈ wsX8_used := fun w h => List.mem_cons_of_mem _ (List.mem_append_right _ h)
  have hw0 : Cond.constantLong RX8 220 (65536) ∈ wsX8_used := List.mem_of_getElem? (i := 4) rfl
  have hw1 : Cond.fieldLink RX8 217 "HotPipesModel" "lines" "I" ∈ wsX8_used := List.mem_of_getElem? (i := 1) rfl
  have hw2 : Cond.fieldLink RX8 81 "HotPipesModel" "times" "[I" ∈ wsX8_used := List.mem_of_getElem? (i := 2) rfl
  have hw3 : Cond.fieldLink RX8 84 "HotPipesModel" "ranges" "[I" ∈ wsX8_used := List.mem_of_getElem? (i := 3) rfl
  refine r_lconst hC dX8_used_0 lc_0 ?_
  refine r_lstore_n hC [(1, .long 0), (0, .ref (ad 80))] dX8_used_1 rfl (by decide) rfl ?_
  refine r_iconst hC dX8_used_2 ic_0 ?_
  refine r_istore_n hC [(3, .int 0), (1, .long 0), (0, .ref (ad 80))] dX8_used_3 rfl (by decide) rfl ?_
  obtain ⟨K37_2, eK37_2, hf⟩ := oj_some hf
  have J37_2 : ∀ (x1 : Int64), K37_2 x1 = some (ra, z8_upper, z8_lower) → GG X 4 0 0 (w8 cy ad c8_latest c8_asked c8_upper c8_lower c8_legs c8_units c8_rests c8_rates c8_lines c8_came c8_sizes c8_weights c8_growths c8_copied c8_legWay c8_legUnits c8_legStuff c8_unitWay c8_unitStuff c8_xs c8_ys c8_zs c8_kindOf c8_placeOf c8_rateOf c8_readOf c8_isGone c8_theList c8_amounts c8_low c8_high c8_barred c8_times c8_ranges) [(0, .ref (ad 80)), (1, .long x1)] 37 [] := by
    intro x1 hf
    replace hf := oa1 eK37_2 hf
    refine r_aload_n hC dX8_used_37 rfl 0 rfl ?_
    refine r_lload_n hC dX8_used_38 rfl 1 rfl ?_
    refine r_ldc2 hC hw0 dX8_used_39 ?_
    refine r_lload_n hC dX8_used_42 rfl 1 rfl ?_
    refine r_ldc2 hC hw0 dX8_used_43 ?_
    refine r_lcmp hC dX8_used_46 ?_
    obtain ⟨t3, h9, hf⟩ := ob_some hf
    have J55_8 : GG X 4 0 0 (w8 cy ad c8_latest c8_asked c8_upper c8_lower c8_legs c8_units c8_rests c8_rates c8_lines c8_came c8_sizes c8_weights c8_growths c8_copied c8_legWay c8_legUnits c8_legStuff c8_unitWay c8_unitStuff c8_xs c8_ys c8_zs c8_kindOf c8_placeOf c8_rateOf c8_readOf c8_isGone c8_theList c8_amounts c8_low c8_high c8_barred c8_times c8_ranges) [] 55 [.int t3, .long 65536, .long x1, .ref (ad 80)] := by
      obtain ⟨r4, s5, s6, h7, hf⟩ := ob3_some hf
      refine r_vi (st := []) hC (kX8_fraction l D cy ad c8_latest c8_asked c8_upper c8_lower c8_legs c8_units c8_rests c8_rates c8_lines c8_came c8_sizes c8_weights c8_growths c8_copied c8_legWay c8_legUnits c8_legStuff c8_unitWay c8_unitStuff c8_xs c8_ys c8_zs c8_kindOf c8_placeOf c8_rateOf c8_readOf c8_isGone c8_theList c8_amounts c8_low c8_high c8_barred c8_times c8_ranges x1 65536 t3 N h7) gX8_used_X8_fraction rfl ⟨rfl, rfl⟩ ydX8_fraction ⟨Nat.le_of_ble_eq_true rfl, Nat.le_of_ble_eq_true rfl⟩ ⟨Nat.le_refl 0, Nat.le_refl 0⟩ 0 rfl rfl [] [] rfl _ rfl (Nat.le_of_ble_eq_true rfl) dX8_used_55 (w8 cy ad c8_latest c8_asked s5 s6 c8_legs c8_units c8_rests c8_rates c8_lines c8_came c8_sizes c8_weights c8_growths c8_copied c8_legWay c8_legUnits c8_legStuff c8_unitWay c8_unitStuff c8_xs c8_ys c8_zs c8_kindOf c8_placeOf c8_rateOf c8_readOf c8_isGone c8_theList c8_amounts c8_low c8_high c8_barred c8_times c8_ranges) rfl ?_
      obtain ⟨rfl, rfl, rfl⟩ := so_3 hf
      exact hRet _ _ _ dX8_used_58 rfl
    replace hf := h9
    refine r_if_le (tgt := 54) hC dX8_used_47 (by decide) (fun c10 => ?_) (fun c10 => ?_)
    · replace hf := o_pos hf c10
      refine r_iconst hC dX8_used_54 ic_0 ?_
      obtain rfl := so_1 hf
      refine r_sub [] [] rfl ?_
      exact J55_8
    · replace hf := o_neg hf c10
      refine r_iconst hC dX8_used_50 ic_1 ?_
      refine r_goto (tgt := 55) hC dX8_used_51 (by decide) ?_
      obtain rfl := so_1 hf
      refine r_sub [] [] rfl ?_
      exact J55_8
  have L4 : ∀ (n : Nat) (x11 : Int64) (x12 : Int32), fX8_used_L4 c8_lines c8_times c8_ranges K37_2 n x11 x12 = some (ra, z8_upper, z8_lower) → GG X 4 0 0 (w8 cy ad c8_latest c8_asked c8_upper c8_lower c8_legs c8_units c8_rests c8_rates c8_lines c8_came c8_sizes c8_weights c8_growths c8_copied c8_legWay c8_legUnits c8_legStuff c8_unitWay c8_unitStuff c8_xs c8_ys c8_zs c8_kindOf c8_placeOf c8_rateOf c8_readOf c8_isGone c8_theList c8_amounts c8_low c8_high c8_barred c8_times c8_ranges) [(0, .ref (ad 80)), (1, .long x11), (3, .int x12)] 4 [] := by
    intro n
    induction n with
    | zero => intro x11 x12 hf; cases (show none = some _ from hf)
    | succ n ih =>
      intro x11 x12 hf
      rw [fX8_used_L4] at hf
      refine r_iload_n hC dX8_used_4 rfl 2 rfl ?_
      refine r_aload_n hC dX8_used_5 rfl 0 rfl ?_
      refine r_get hC hin8 0 rfl rfl 31 (by decide) rfl hw1 rfl dX8_used_6 ?_
      refine r_icmp_ge (tgt := 37) hC dX8_used_9 (by decide) (fun c13 => ?_) (fun c13 => ?_)
      · replace hf := o_pos hf c13
        refine r_sub [(0, .ref (ad 80)), (1, .long x11)] [0, 1] rfl ?_
        exact J37_2 x11 hf
      · replace hf := o_neg hf c13
        refine r_lload_n hC dX8_used_12 rfl 1 rfl ?_
        refine r_aload_n hC dX8_used_13 rfl 0 rfl ?_
        refine r_get hC hin8 0 rfl rfl 32 (by decide) rfl hw2 rfl dX8_used_14 ?_
        refine r_iload_n hC dX8_used_17 rfl 2 rfl ?_
        obtain ⟨g14, hf⟩ := og_some hf
        refine r_iald hC 24 rfl g14 dX8_used_18 ?_
        refine r_i2l hC dX8_used_19 ?_
        refine r_aload_n hC dX8_used_20 rfl 0 rfl ?_
        refine r_get hC hin8 0 rfl rfl 33 (by decide) rfl hw3 rfl dX8_used_21 ?_
        refine r_iload_n hC dX8_used_24 rfl 2 rfl ?_
        obtain ⟨g15, hf⟩ := og_some hf
        refine r_iald hC 25 rfl g15 dX8_used_25 ?_
        refine r_iconst hC dX8_used_26 ic_4 ?_
        refine r_idiv hC dX8_used_27 (by decide) ?_
        refine r_lshl hC dX8_used_28 ?_
        refine r_ladd hC dX8_used_29 ?_
        refine r_topl (fun x16 ex16 => ?_)
        replace hf := olet_some hf ex16
        refine r_lstore_n hC [(1, .long x16), (0, .ref (ad 80)), (3, .int x12)] dX8_used_30 rfl (by decide) rfl ?_
        refine r_iinc hC [(3, .int (x12 + 1)), (1, .long x16), (0, .ref (ad 80))] (x12 + 1) dX8_used_31 2 rfl (ii_1 _) (by decide) rfl ?_
        refine r_goto (tgt := 4) hC dX8_used_34 (by decide) ?_
        refine r_sub [(0, .ref (ad 80)), (1, .long x16), (3, .int (x12 + 1))] [2, 1, 0] rfl ?_
        exact ih x16 (x12 + 1) hf
  refine r_sub [(0, .ref (ad 80)), (1, .long 0), (3, .int 0)] [2, 1, 0] rfl ?_
  exact L4 N 0 0 hf
noncomputable def fX8_read (c8_latest : Int32) (c8_rests : Int32) (c8_came : Nat → Int32) (c8_readOf : Nat → Int32) (c8_isGone : Nat → Int32) (p1 : Int32) (p2 : Int32) : Option (Int32 × Int32 × (Nat → Int32) × (Nat → Int32)) := ob (oj (some 1) (fun (K17_12 : Option (Int32)) => (if p2 = (-9) then K17_12 else ob (fX8_in p2 0 100000) (fun (r14 : Int32) => (if r14 = 0 then some 0 else K17_12))))) (fun (t1 : Int32) => ob3 (fX8_need c8_latest c8_rests c8_came c8_isGone t1 p1) (fun (r2 : Int32) (s3 : Int32) (s4 : Nat → Int32) => (if 0 ≤ r2 then og (vp_in p1 12) (olet (c8_readOf (Int32.toNatClampNeg p1)) (fun (x8 : Int32) => og (vp_in p1 12) (some (x8, s3, s4, (upd c8_readOf (Int32.toNatClampNeg p1) p2))))) else some (r2, s3, s4, c8_readOf))))
theorem ydX8_read : yX8_read.cls = RX8 ∧ yX8_read.cls ≠ "java/lang/invoke/MethodHandle" ∧ yX8_read.cls ≠ "java/lang/invoke/VarHandle" ∧ (parseMethodDescriptor yX8_read.desc).map (fun d => d.parameters.length) = some 2 := by decide +kernel
set_option maxHeartbeats 8000000 in
set_option maxRecDepth 100000 in
theorem kX8_read (l : Launch) (D : va_G) (cy : Nat → ClassId) (ad : Nat → Nat) (c8_latest : Int32) (c8_asked : Int32) (c8_upper : Int64) (c8_lower : Int64) (c8_legs : Int32) (c8_units : Int32) (c8_rests : Int32) (c8_rates : Int32) (c8_lines : Int32) (c8_came : Nat → Int32) (c8_sizes : Nat → Int32) (c8_weights : Nat → Int32) (c8_growths : Nat → Int32) (c8_copied : Nat → Int32) (c8_legWay : Nat → Int32) (c8_legUnits : Nat → Int32) (c8_legStuff : Nat → Int32) (c8_unitWay : Nat → Int32) (c8_unitStuff : Nat → Int32) (c8_xs : Nat → Int32) (c8_ys : Nat → Int32) (c8_zs : Nat → Int32) (c8_kindOf : Nat → Int32) (c8_placeOf : Nat → Int32) (c8_rateOf : Nat → Int32) (c8_readOf : Nat → Int32) (c8_isGone : Nat → Int32) (c8_theList : Nat → Int32) (c8_amounts : Nat → Int32) (c8_low : Nat → Int32) (c8_high : Nat → Int32) (c8_barred : Nat → Int32) (c8_times : Nat → Int32) (c8_ranges : Nat → Int32) (p1 : Int32) (p2 : Int32) {ra : Int32} {z8_latest : Int32} {z8_came : Nat → Int32} {z8_readOf : Nat → Int32} (hf : fX8_read c8_latest c8_rests c8_came c8_readOf c8_isGone p1 p2 = some (ra, z8_latest, z8_came, z8_readOf)) : CI l D cy yX8_read wsX8_read ({ frames := 2, cells := 0, slots := 0, locals := 44 } : Room) [.ref (ad 80), .int p1, .int p2] (w8 cy ad c8_latest c8_asked c8_upper c8_lower c8_legs c8_units c8_rests c8_rates c8_lines c8_came c8_sizes c8_weights c8_growths c8_copied c8_legWay c8_legUnits c8_legStuff c8_unitWay c8_unitStuff c8_xs c8_ys c8_zs c8_kindOf c8_placeOf c8_rateOf c8_readOf c8_isGone c8_theList c8_amounts c8_low c8_high c8_barred c8_times c8_ranges) ra (w8 cy ad z8_latest c8_asked c8_upper c8_lower c8_legs c8_units c8_rests c8_rates c8_lines z8_came c8_sizes c8_weights c8_growths c8_copied c8_legWay c8_legUnits c8_legStuff c8_unitWay c8_unitStuff c8_xs c8_ys c8_zs c8_kindOf c8_placeOf c8_rateOf z8_readOf c8_isGone c8_theList c8_amounts c8_low c8_high c8_barred c8_times c8_ranges) := by
  unfold fX8_read at hf
  refine c_of_i (ty := .int) (own := RX8) (by decide) rfl rfl (Nat.le_of_ble_eq_true rfl) (fun X hC hRet => ?_)
  refine r_sub [(0, .ref (ad 80)), (1, .int p1), (2, .int p2)] [0, 1, 2] rfl ?_
  have hin8 : ∀ w ∈ wsX80, w ∈ wsX8_read := fun w h => List.mem_cons_of_mem _ (List.mem_append_right _ h)
  have hw0 : Cond.fieldLink RX8 59 "HotPipesModel" "readOf" "[I" ∈ wsX8_read := List.mem_of_getElem? (i := 2) rfl
  have hw1 : Cond.constant RX8 216 (100000) ∈ wsX8_read := List.mem_of_getElem? (i := 1) rfl
  refine r_aload_n hC dX8_read_0 rfl 0 rfl ?_
  refine r_iload_n hC dX8_read_1 rfl 2 rfl ?_
  refine r_bipush hC dX8_read_2 bp_m9 ?_
  obtain ⟨t1, h11, hf⟩ := ob_some hf
  have J22_10 : GG X 5 0 0 (w8 cy ad c8_latest c8_asked c8_upper c8_lower c8_legs c8_units c8_rests c8_rates c8_lines c8_came c8_sizes c8_weights c8_growths c8_copied c8_legWay c8_legUnits c8_legStuff c8_unitWay c8_unitStuff c8_xs c8_ys c8_zs c8_kindOf c8_placeOf c8_rateOf c8_readOf c8_isGone c8_theList c8_amounts c8_low c8_high c8_barred c8_times c8_ranges) [(0, .ref (ad 80)), (1, .int p1), (2, .int p2)] 22 [.int t1, .ref (ad 80)] := by
    refine r_iload_n hC dX8_read_22 rfl 1 rfl ?_
    obtain ⟨r2, s3, s4, h5, hf⟩ := ob3_some hf
    refine r_vi (st := []) hC (kX8_need l D cy ad c8_latest c8_asked c8_upper c8_lower c8_legs c8_units c8_rests c8_rates c8_lines c8_came c8_sizes c8_weights c8_growths c8_copied c8_legWay c8_legUnits c8_legStuff c8_unitWay c8_unitStuff c8_xs c8_ys c8_zs c8_kindOf c8_placeOf c8_rateOf c8_readOf c8_isGone c8_theList c8_amounts c8_low c8_high c8_barred c8_times c8_ranges t1 p1 h5) gX8_read_X8_need rfl ⟨rfl, rfl⟩ ydX8_need ⟨Nat.le_of_ble_eq_true rfl, Nat.le_of_ble_eq_true rfl⟩ ⟨Nat.le_refl 0, Nat.le_refl 0⟩ 0 rfl rfl [] [] rfl _ rfl (Nat.le_of_ble_eq_true rfl) dX8_read_23 (w8 cy ad s3 c8_asked c8_upper c8_lower c8_legs c8_units c8_rests c8_rates c8_lines s4 c8_sizes c8_weights c8_growths c8_copied c8_legWay c8_legUnits c8_legStuff c8_unitWay c8_unitStuff c8_xs c8_ys c8_zs c8_kindOf c8_placeOf c8_rateOf c8_readOf c8_isGone c8_theList c8_amounts c8_low c8_high c8_barred c8_times c8_ranges) rfl ?_
    refine r_istore_n hC [(3, .int r2), (0, .ref (ad 80)), (1, .int p1), (2, .int p2)] dX8_read_26 rfl (by decide) rfl ?_
    refine r_iload_n hC dX8_read_27 rfl 0 rfl ?_
    refine r_if_ge (tgt := 33) hC dX8_read_28 (by decide) (fun c6 => ?_) (fun c6 => ?_)
    · replace hf := o_pos hf c6
      refine r_aload_n hC dX8_read_33 rfl 1 rfl ?_
      refine r_get hC hin8 0 rfl rfl 23 (by decide) rfl hw0 rfl dX8_read_34 ?_
      refine r_iload_n hC dX8_read_37 rfl 2 rfl ?_
      obtain ⟨g7, hf⟩ := og_some hf
      refine r_iald hC 17 rfl g7 dX8_read_38 ?_
      refine r_topi (fun x8 ex8 => ?_)
      replace hf := olet_some hf ex8
      refine r_istore hC [(4, .int x8), (3, .int r2), (0, .ref (ad 80)), (1, .int p1), (2, .int p2)] dX8_read_39 (by decide) rfl ?_
      refine r_aload_n hC dX8_read_41 rfl 2 rfl ?_
      refine r_get hC hin8 0 rfl rfl 23 (by decide) rfl hw0 rfl dX8_read_42 ?_
      refine r_iload_n hC dX8_read_45 rfl 3 rfl ?_
      refine r_iload_n hC dX8_read_46 rfl 4 rfl ?_
      obtain ⟨g9, hf⟩ := og_some hf
      refine r_iast hC 17 rfl g9 dX8_read_47 (w8 cy ad s3 c8_asked c8_upper c8_lower c8_legs c8_units c8_rests c8_rates c8_lines s4 c8_sizes c8_weights c8_growths c8_copied c8_legWay c8_legUnits c8_legStuff c8_unitWay c8_unitStuff c8_xs c8_ys c8_zs c8_kindOf c8_placeOf c8_rateOf (upd c8_readOf (Int32.toNatClampNeg p1) p2) c8_isGone c8_theList c8_amounts c8_low c8_high c8_barred c8_times c8_ranges) rfl ?_
      refine r_iload hC dX8_read_48 0 rfl ?_
      obtain ⟨rfl, rfl, rfl, rfl⟩ := so_4 hf
      exact hRet _ _ _ dX8_read_50 rfl
    · replace hf := o_neg hf c6
      refine r_iload_n hC dX8_read_31 rfl 0 rfl ?_
      obtain ⟨rfl, rfl, rfl, rfl⟩ := so_4 hf
      exact hRet _ _ _ dX8_read_32 rfl
  replace hf := h11
  obtain ⟨K17_12, eK17_12, hf⟩ := oj_some hf
  have J17_12 : K17_12 = some t1 → GG X 5 0 0 (w8 cy ad c8_latest c8_asked c8_upper c8_lower c8_legs c8_units c8_rests c8_rates c8_lines c8_came c8_sizes c8_weights c8_growths c8_copied c8_legWay c8_legUnits c8_legStuff c8_unitWay c8_unitStuff c8_xs c8_ys c8_zs c8_kindOf c8_placeOf c8_rateOf c8_readOf c8_isGone c8_theList c8_amounts c8_low c8_high c8_barred c8_times c8_ranges) [(0, .ref (ad 80)), (1, .int p1), (2, .int p2)] 17 [.ref (ad 80)] := by
    intro hf
    replace hf := oa0 eK17_12 hf
    refine r_iconst hC dX8_read_17 ic_1 ?_
    refine r_goto (tgt := 22) hC dX8_read_18 (by decide) ?_
    obtain rfl := so_1 hf
    exact J22_10
  refine r_icmp_eq (tgt := 17) hC dX8_read_4 (by decide) (fun c13 => ?_) (fun c13 => ?_)
  · replace hf := o_pos hf c13
    exact J17_12 hf
  · replace hf := o_neg hf c13
    refine r_iload_n hC dX8_read_7 rfl 2 rfl ?_
    refine r_iconst hC dX8_read_8 ic_0 ?_
    refine r_ldc hC hw1 dX8_read_9 ?_
    obtain ⟨r14, h15, hf⟩ := ob_some hf
    refine r_si (st := [.ref (ad 80)]) hC (kX8_in l D cy p2 0 100000 h15) gX8_read_X8_in rfl ⟨rfl, rfl⟩ ydX8_in ⟨Nat.le_of_ble_eq_true rfl, Nat.le_of_ble_eq_true rfl⟩ ⟨Nat.le_refl 0, Nat.le_refl 0⟩ _ rfl (Nat.le_of_ble_eq_true rfl) dX8_read_11 ?_
    refine r_if_eq (tgt := 21) hC dX8_read_14 (by decide) (fun c16 => ?_) (fun c16 => ?_)
    · replace hf := o_pos hf c16
      refine r_iconst hC dX8_read_21 ic_0 ?_
      obtain rfl := so_1 hf
      exact J22_10
    · replace hf := o_neg hf c16
      exact J17_12 hf
noncomputable def fX8_differs_L5 (N : Nat) (c8_units : Int32) (c8_rests : Int32) (c8_sizes : Nat → Int32) (c8_weights : Nat → Int32) (c8_growths : Nat → Int32) (c8_unitWay : Nat → Int32) (c8_unitStuff : Nat → Int32) (c8_kindOf : Nat → Int32) (c8_placeOf : Nat → Int32) (c8_readOf : Nat → Int32) (c8_isGone : Nat → Int32) (p1 : Int32) (p2 : Int32) : Nat → Int32 → Int32 → Option (Int32)
  | 0, _, _ => none
  | n + 1, x1, x2 => (if c8_rests ≤ x2 then some x1 else og (vp_in x2 12) (ob ((if (c8_isGone (Int32.toNatClampNeg x2)) = 0 then (if x2 = p2 then some x1 else og (vp_in x2 12) ((if (c8_readOf (Int32.toNatClampNeg x2)) = (-9) then some x1 else ob (fX8_twice N c8_units c8_rests c8_sizes c8_weights c8_growths c8_unitWay c8_unitStuff c8_kindOf c8_placeOf c8_isGone x2 p1 p2) (fun (r12 : Int32) => og (vp_in x2 12) (olet (r12 - (c8_readOf (Int32.toNatClampNeg x2))) (fun (x15 : Int32) => ob ((if 0 ≤ x15 then some x15 else some (-x15))) (fun (t16 : Int32) => olet (x1 + t16) (fun (x17 : Int32) => some x17)))))))) else some x1)) (fun (x5 : Int32) => fX8_differs_L5 N c8_units c8_rests c8_sizes c8_weights c8_growths c8_unitWay c8_unitStuff c8_kindOf c8_placeOf c8_readOf c8_isGone p1 p2 n x5 (x2 + 1))))
noncomputable def fX8_differs (N : Nat) (c8_units : Int32) (c8_rests : Int32) (c8_sizes : Nat → Int32) (c8_weights : Nat → Int32) (c8_growths : Nat → Int32) (c8_unitWay : Nat → Int32) (c8_unitStuff : Nat → Int32) (c8_kindOf : Nat → Int32) (c8_placeOf : Nat → Int32) (c8_readOf : Nat → Int32) (c8_isGone : Nat → Int32) (p1 : Int32) (p2 : Int32) : Option (Int32) := fX8_differs_L5 N c8_units c8_rests c8_sizes c8_weights c8_growths c8_unitWay c8_unitStuff c8_kindOf c8_placeOf c8_readOf c8_isGone p1 p2 N 0 0
theorem ydX8_differs : yX8_differs.cls = RX8 ∧ yX8_differs.cls ≠ "java/lang/invoke/MethodHandle" ∧ yX8_differs.cls ≠ "java/lang/invoke/VarHandle" ∧ (parseMethodDescriptor yX8_differs.desc).map (fun d => d.parameters.length) = some 2 := by decide +kernel
set_option maxHeartbeats 8000000 in
set_option maxRecDepth 100000 in
theorem kX8_differs (l : Launch) (D : va_G) (cy : Nat → ClassId) (ad : Nat → Nat) (c8_latest : Int32) (c8_asked : Int32) (c8_upper : Int64) (c8_lower : Int64) (c8_legs : Int32) (c8_units : Int32) (c8_rests : Int32) (c8_rates : Int32) (c8_lines : Int32) (c8_came : Nat → Int32) (c8_sizes : Nat → Int32) (c8_weights : Nat → Int32) (c8_growths : Nat → Int32) (c8_copied : Nat → Int32) (c8_legWay : Nat → Int32) (c8_legUnits : Nat → Int32) (c8_legStuff : Nat → Int32) (c8_unitWay : Nat → Int32) (c8_unitStuff : Nat → Int32) (c8_xs : Nat → Int32) (c8_ys : Nat → Int32) (c8_zs : Nat → Int32) (c8_kindOf : Nat → Int32) (c8_placeOf : Nat → Int32) (c8_rateOf : Nat → Int32) (c8_readOf : Nat → Int32) (c8_isGone : Nat → Int32) (c8_theList : Nat → Int32) (c8_amounts : Nat → Int32) (c8_low : Nat → Int32) (c8_high : Nat → Int32) (c8_barred : Nat → Int32) (c8_times : Nat → Int32) (c8_ranges : Nat → Int32) (p1 : Int32) (p2 : Int32) (N : Nat) {ra : Int32} (hf : fX8_differs N c8_units c8_rests c8_sizes c8_weights c8_growths c8_unitWay c8_unitStuff c8_kindOf c8_placeOf c8_readOf c8_isGone p1 p2 = some ra) : CI l D cy yX8_differs wsX8_differs ({ frames := 5, cells := 0, slots := 0, locals := 118 } : Room) [.ref (ad 80), .int p1, .int p2] (w8 cy ad c8_latest c8_asked c8_upper c8_lower c8_legs c8_units c8_rests c8_rates c8_lines c8_came c8_sizes c8_weights c8_growths c8_copied c8_legWay c8_legUnits c8_legStuff c8_unitWay c8_unitStuff c8_xs c8_ys c8_zs c8_kindOf c8_placeOf c8_rateOf c8_readOf c8_isGone c8_theList c8_amounts c8_low c8_high c8_barred c8_times c8_ranges) ra (w8 cy ad c8_latest c8_asked c8_upper c8_lower c8_legs c8_units c8_rests c8_rates c8_lines c8_came c8_sizes c8_weights c8_growths c8_copied c8_legWay c8_legUnits c8_legStuff c8_unitWay c8_unitStuff c8_xs c8_ys c8_zs c8_kindOf c8_placeOf c8_rateOf c8_readOf c8_isGone c8_theList c8_amounts c8_low c8_high c8_barred c8_times c8_ranges) := by
  unfold fX8_differs at hf
  refine c_of_i (ty := .int) (own := RX8) (by decide) rfl rfl (Nat.le_of_ble_eq_true rfl) (fun X hC hRet => ?_)
  refine r_sub [(0, .ref (ad 80)), (1, .int p1), (2, .int p2)] [0, 1, 2] rfl ?_
  have hin8 : ∀ w ∈ wsX80, w ∈ wsX8_differs := fun w h => List.mem_cons_of_mem _ (List.mem_append_right _ h)
  have hw0 : Cond.fieldLink RX8 164 "HotPipesModel" "rests" "I" ∈ wsX8_differs := List.mem_of_getElem? (i := 1) rfl
  have hw1 : Cond.fieldLink RX8 62 "HotPipesModel" "isGone" "[Z" ∈ wsX8_differs := List.mem_of_getElem? (i := 2) rfl
  have hw2 : Cond.fieldLink RX8 59 "HotPipesModel" "readOf" "[I" ∈ wsX8_differs := List.mem_of_getElem? (i := 3) rfl
  refine r_iconst hC dX8_differs_0 ic_0 ?_
  refine r_istore_n hC [(3, .int 0), (0, .ref (ad 80)), (1, .int p1), (2, .int p2)] dX8_differs_1 rfl (by decide) rfl ?_
  refine r_iconst hC dX8_differs_2 ic_0 ?_
  refine r_istore hC [(4, .int 0), (3, .int 0), (0, .ref (ad 80)), (1, .int p1), (2, .int p2)] dX8_differs_3 (by decide) rfl ?_
  have L5 : ∀ (n : Nat) (x1 : Int32) (x2 : Int32), fX8_differs_L5 N c8_units c8_rests c8_sizes c8_weights c8_growths c8_unitWay c8_unitStuff c8_kindOf c8_placeOf c8_readOf c8_isGone p1 p2 n x1 x2 = some ra → GG X 6 0 0 (w8 cy ad c8_latest c8_asked c8_upper c8_lower c8_legs c8_units c8_rests c8_rates c8_lines c8_came c8_sizes c8_weights c8_growths c8_copied c8_legWay c8_legUnits c8_legStuff c8_unitWay c8_unitStuff c8_xs c8_ys c8_zs c8_kindOf c8_placeOf c8_rateOf c8_readOf c8_isGone c8_theList c8_amounts c8_low c8_high c8_barred c8_times c8_ranges) [(0, .ref (ad 80)), (1, .int p1), (2, .int p2), (3, .int x1), (4, .int x2)] 5 [] := by
    intro n
    induction n with
    | zero => intro x1 x2 hf; cases (show none = some _ from hf)
    | succ n ih =>
      intro x1 x2 hf
      rw [fX8_differs_L5] at hf
      refine r_iload hC dX8_differs_5 4 rfl ?_
      refine r_aload_n hC dX8_differs_7 rfl 0 rfl ?_
      refine r_get hC hin8 0 rfl rfl 19 (by decide) rfl hw0 rfl dX8_differs_8 ?_
      refine r_icmp_ge (tgt := 82) hC dX8_differs_11 (by decide) (fun c3 => ?_) (fun c3 => ?_)
      · replace hf := o_pos hf c3
        refine r_iload_n hC dX8_differs_82 rfl 3 rfl ?_
        obtain rfl := so_1 hf
        exact hRet _ _ _ dX8_differs_83 rfl
      · replace hf := o_neg hf c3
        refine r_aload_n hC dX8_differs_14 rfl 0 rfl ?_
        refine r_get hC hin8 0 rfl rfl 24 (by decide) rfl hw1 rfl dX8_differs_15 ?_
        refine r_iload hC dX8_differs_18 4 rfl ?_
        obtain ⟨g4, hf⟩ := og_some hf
        refine r_zald hC 18 rfl g4 dX8_differs_20 ?_
        obtain ⟨x5, h7, hf⟩ := ob_some hf
        have J76_6 : GG X 6 0 0 (w8 cy ad c8_latest c8_asked c8_upper c8_lower c8_legs c8_units c8_rests c8_rates c8_lines c8_came c8_sizes c8_weights c8_growths c8_copied c8_legWay c8_legUnits c8_legStuff c8_unitWay c8_unitStuff c8_xs c8_ys c8_zs c8_kindOf c8_placeOf c8_rateOf c8_readOf c8_isGone c8_theList c8_amounts c8_low c8_high c8_barred c8_times c8_ranges) [(0, .ref (ad 80)), (1, .int p1), (2, .int p2), (3, .int x5), (4, .int x2)] 76 [] := by
          refine r_iinc hC [(4, .int (x2 + 1)), (0, .ref (ad 80)), (1, .int p1), (2, .int p2), (3, .int x5)] (x2 + 1) dX8_differs_76 4 rfl (ii_1 _) (by decide) rfl ?_
          refine r_goto (tgt := 5) hC dX8_differs_79 (by decide) ?_
          refine r_sub [(0, .ref (ad 80)), (1, .int p1), (2, .int p2), (3, .int x5), (4, .int (x2 + 1))] [1, 2, 3, 4, 0] rfl ?_
          exact ih x5 (x2 + 1) hf
        replace hf := h7
        refine r_if_ne (tgt := 76) hC dX8_differs_21 (by decide) (fun c8 => ?_) (fun c8 => ?_)
        · replace hf := o_neg hf c8
          obtain rfl := so_1 hf
          exact J76_6
        · replace hf := o_pos hf c8
          refine r_iload hC dX8_differs_24 4 rfl ?_
          refine r_iload_n hC dX8_differs_26 rfl 2 rfl ?_
          refine r_icmp_eq (tgt := 76) hC dX8_differs_27 (by decide) (fun c9 => ?_) (fun c9 => ?_)
          · replace hf := o_pos hf c9
            obtain rfl := so_1 hf
            exact J76_6
          · replace hf := o_neg hf c9
            refine r_aload_n hC dX8_differs_30 rfl 0 rfl ?_
            refine r_get hC hin8 0 rfl rfl 23 (by decide) rfl hw2 rfl dX8_differs_31 ?_
            refine r_iload hC dX8_differs_34 4 rfl ?_
            obtain ⟨g10, hf⟩ := og_some hf
            refine r_iald hC 17 rfl g10 dX8_differs_36 ?_
            refine r_bipush hC dX8_differs_37 bp_m9 ?_
            refine r_icmp_eq (tgt := 76) hC dX8_differs_39 (by decide) (fun c11 => ?_) (fun c11 => ?_)
            · replace hf := o_pos hf c11
              obtain rfl := so_1 hf
              exact J76_6
            · replace hf := o_neg hf c11
              refine r_aload_n hC dX8_differs_42 rfl 0 rfl ?_
              refine r_iload hC dX8_differs_43 4 rfl ?_
              refine r_iload_n hC dX8_differs_45 rfl 1 rfl ?_
              refine r_iload_n hC dX8_differs_46 rfl 2 rfl ?_
              obtain ⟨r12, h13, hf⟩ := ob_some hf
              refine r_vi (st := []) hC (kX8_twice l D cy ad c8_latest c8_asked c8_upper c8_lower c8_legs c8_units c8_rests c8_rates c8_lines c8_came c8_sizes c8_weights c8_growths c8_copied c8_legWay c8_legUnits c8_legStuff c8_unitWay c8_unitStuff c8_xs c8_ys c8_zs c8_kindOf c8_placeOf c8_rateOf c8_readOf c8_isGone c8_theList c8_amounts c8_low c8_high c8_barred c8_times c8_ranges x2 p1 p2 N h13) gX8_differs_X8_twice rfl ⟨rfl, rfl⟩ ydX8_twice ⟨Nat.le_of_ble_eq_true rfl, Nat.le_of_ble_eq_true rfl⟩ ⟨Nat.le_refl 0, Nat.le_refl 0⟩ 0 rfl rfl [] [] rfl _ rfl (Nat.le_of_ble_eq_true rfl) dX8_differs_47 (w8 cy ad c8_latest c8_asked c8_upper c8_lower c8_legs c8_units c8_rests c8_rates c8_lines c8_came c8_sizes c8_weights c8_growths c8_copied c8_legWay c8_legUnits c8_legStuff c8_unitWay c8_unitStuff c8_xs c8_ys c8_zs c8_kindOf c8_placeOf c8_rateOf c8_readOf c8_isGone c8_theList c8_amounts c8_low c8_high c8_barred c8_times c8_ranges) rfl ?_
              refine r_aload_n hC dX8_differs_50 rfl 0 rfl ?_
              refine r_get hC hin8 0 rfl rfl 23 (by decide) rfl hw2 rfl dX8_differs_51 ?_
              refine r_iload hC dX8_differs_54 4 rfl ?_
              obtain ⟨g14, hf⟩ := og_some hf
              refine r_iald hC 17 rfl g14 dX8_differs_56 ?_
              refine r_isub hC dX8_differs_57 ?_
              refine r_topi (fun x15 ex15 => ?_)
              replace hf := olet_some hf ex15
              refine r_istore hC [(5, .int x15), (0, .ref (ad 80)), (1, .int p1), (2, .int p2), (3, .int x1), (4, .int x2)] dX8_differs_58 (by decide) rfl ?_
              refine r_iload_n hC dX8_differs_60 rfl 4 rfl ?_
              refine r_iload hC dX8_differs_61 0 rfl ?_
              obtain ⟨t16, h19, hf⟩ := ob_some hf
              have J74_18 : GG X 6 0 0 (w8 cy ad c8_latest c8_asked c8_upper c8_lower c8_legs c8_units c8_rests c8_rates c8_lines c8_came c8_sizes c8_weights c8_growths c8_copied c8_legWay c8_legUnits c8_legStuff c8_unitWay c8_unitStuff c8_xs c8_ys c8_zs c8_kindOf c8_placeOf c8_rateOf c8_readOf c8_isGone c8_theList c8_amounts c8_low c8_high c8_barred c8_times c8_ranges) [(0, .ref (ad 80)), (1, .int p1), (2, .int p2), (4, .int x2)] 74 [.int t16, .int x1] := by
                refine r_iadd hC dX8_differs_74 ?_
                refine r_topi (fun x17 ex17 => ?_)
                replace hf := olet_some hf ex17
                refine r_istore_n hC [(3, .int x17), (0, .ref (ad 80)), (1, .int p1), (2, .int p2), (4, .int x2)] dX8_differs_75 rfl (by decide) rfl ?_
                obtain rfl := so_1 hf
                refine r_sub [(0, .ref (ad 80)), (1, .int p1), (2, .int p2), (3, .int x17), (4, .int x2)] [1, 2, 3, 0, 4] rfl ?_
                exact J76_6
              replace hf := h19
              refine r_if_ge (tgt := 72) hC dX8_differs_63 (by decide) (fun c20 => ?_) (fun c20 => ?_)
              · replace hf := o_pos hf c20
                refine r_iload hC dX8_differs_72 0 rfl ?_
                obtain rfl := so_1 hf
                refine r_sub [(0, .ref (ad 80)), (1, .int p1), (2, .int p2), (4, .int x2)] [1, 2, 3, 5] rfl ?_
                exact J74_18
              · replace hf := o_neg hf c20
                refine r_iload hC dX8_differs_66 0 rfl ?_
                refine r_ineg hC dX8_differs_68 ?_
                refine r_goto (tgt := 74) hC dX8_differs_69 (by decide) ?_
                obtain rfl := so_1 hf
                refine r_sub [(0, .ref (ad 80)), (1, .int p1), (2, .int p2), (4, .int x2)] [1, 2, 3, 5] rfl ?_
                exact J74_18
  refine r_sub [(0, .ref (ad 80)), (1, .int p1), (2, .int p2), (3, .int 0), (4, .int 0)] [2, 3, 4, 1, 0] rfl ?_
  exact L5 N 0 0 hf
noncomputable def fX8_missing_L79 (N : Nat) (c8_units : Int32) (c8_rests : Int32) (c8_sizes : Nat → Int32) (c8_weights : Nat → Int32) (c8_growths : Nat → Int32) (c8_unitWay : Nat → Int32) (c8_unitStuff : Nat → Int32) (c8_kindOf : Nat → Int32) (c8_placeOf : Nat → Int32) (c8_readOf : Nat → Int32) (c8_isGone : Nat → Int32) (p1 : Int32) (K132_11 : Int32 → Int32 → Option (Int32 × Int32)) : Nat → Int32 → Int32 → Int32 → Option (Int32 × Int32)
  | 0, _, _, _ => none
  | n + 1, x15, x16, x17 => (if c8_rests ≤ x17 then K132_11 x15 x16 else ob (fX8_isBearing N c8_units c8_sizes c8_growths c8_unitWay c8_unitStuff c8_kindOf c8_placeOf c8_isGone x17 p1) (fun (r19 : Int32) => ob ((if r19 = 0 then some x16 else ob (fX8_differs N c8_units c8_rests c8_sizes c8_weights c8_growths c8_unitWay c8_unitStuff c8_kindOf c8_placeOf c8_readOf c8_isGone p1 x17) (fun (r30 : Int32) => some r30))) (fun (t21 : Int32) => ob2 ((if x16 ≤ t21 then some (x15, x16) else some (x17, t21))) (fun (x22 : Int32) (x23 : Int32) => fX8_missing_L79 N c8_units c8_rests c8_sizes c8_weights c8_growths c8_unitWay c8_unitStuff c8_kindOf c8_placeOf c8_readOf c8_isGone p1 K132_11 n x22 x23 (x17 + 1)))))
noncomputable def fX8_missing_L13 (c8_rests : Int32) (c8_readOf : Nat → Int32) (c8_isGone : Nat → Int32) (K57_5 : Int32 → Option (Int32 × Int32)) : Nat → Int32 → Int32 → Option (Int32 × Int32)
  | 0, _, _ => none
  | n + 1, x32, x33 => (if c8_rests ≤ x33 then K57_5 x32 else ob (oj (some 1) (fun (K45_38 : Option (Int32)) => (if x32 = 0 then og (vp_in x33 12) (oj (some 0) (fun (K49_41 : Option (Int32)) => (if (c8_isGone (Int32.toNatClampNeg x33)) = 0 then og (vp_in x33 12) ((if (c8_readOf (Int32.toNatClampNeg x33)) = (-9) then K49_41 else K45_38)) else K49_41))) else K45_38))) (fun (t35 : Int32) => fX8_missing_L13 c8_rests c8_readOf c8_isGone K57_5 n t35 (x33 + 1)))
noncomputable def fX8_missing (N : Nat) (c8_asked : Int32) (c8_units : Int32) (c8_rests : Int32) (c8_sizes : Nat → Int32) (c8_weights : Nat → Int32) (c8_growths : Nat → Int32) (c8_unitWay : Nat → Int32) (c8_unitStuff : Nat → Int32) (c8_kindOf : Nat → Int32) (c8_placeOf : Nat → Int32) (c8_readOf : Nat → Int32) (c8_isGone : Nat → Int32) (p1 : Int32) : Option (Int32 × Int32) := ob (fX8_isStep p1) (fun (r1 : Int32) => (if r1 = 0 then some ((-1), c8_asked) else oj (fun (x4 : Int32) => (if x4 = 0 then some ((-4), c8_asked) else ob (fX8_differs N c8_units c8_rests c8_sizes c8_weights c8_growths c8_unitWay c8_unitStuff c8_kindOf c8_placeOf c8_readOf c8_isGone p1 (-9)) (fun (r7 : Int32) => oj (fun (x9 : Int32) (x10 : Int32) => ob2 (fX8_tells c8_asked x10 x9) (fun (r12 : Int32) (s13 : Int32) => some (r12, s13))) (fun (K132_11 : Int32 → Int32 → Option (Int32 × Int32)) => fX8_missing_L79 N c8_units c8_rests c8_sizes c8_weights c8_growths c8_unitWay c8_unitStuff c8_kindOf c8_placeOf c8_readOf c8_isGone p1 K132_11 N (-9) r7 0)))) (fun (K57_5 : Int32 → Option (Int32 × Int32)) => fX8_missing_L13 c8_rests c8_readOf c8_isGone K57_5 N 0 0)))
theorem ydX8_missing : yX8_missing.cls = RX8 ∧ yX8_missing.cls ≠ "java/lang/invoke/MethodHandle" ∧ yX8_missing.cls ≠ "java/lang/invoke/VarHandle" ∧ (parseMethodDescriptor yX8_missing.desc).map (fun d => d.parameters.length) = some 1 := by decide +kernel
set_option maxHeartbeats 8000000 in
set_option maxRecDepth 100000 in
theorem kX8_missing (l : Launch) (D : va_G) (cy : Nat → ClassId) (ad : Nat → Nat) (c8_latest : Int32) (c8_asked : Int32) (c8_upper : Int64) (c8_lower : Int64) (c8_legs : Int32) (c8_units : Int32) (c8_rests : Int32) (c8_rates : Int32) (c8_lines : Int32) (c8_came : Nat → Int32) (c8_sizes : Nat → Int32) (c8_weights : Nat → Int32) (c8_growths : Nat → Int32) (c8_copied : Nat → Int32) (c8_legWay : Nat → Int32) (c8_legUnits : Nat → Int32) (c8_legStuff : Nat → Int32) (c8_unitWay : Nat → Int32) (c8_unitStuff : Nat → Int32) (c8_xs : Nat → Int32) (c8_ys : Nat → Int32) (c8_zs : Nat → Int32) (c8_kindOf : Nat → Int32) (c8_placeOf : Nat → Int32) (c8_rateOf : Nat → Int32) (c8_readOf : Nat → Int32) (c8_isGone : Nat → Int32) (c8_theList : Nat → Int32) (c8_amounts : Nat → Int32) (c8_low : Nat → Int32) (c8_high : Nat → Int32) (c8_barred : Nat → Int32) (c8_times : Nat → Int32) (c8_ranges : Nat → Int32) (p1 : Int32) (N : Nat) {ra : Int32} {z8_asked : Int32} (hf : fX8_missing N c8_asked c8_units c8_rests c8_sizes c8_weights c8_growths c8_unitWay c8_unitStuff c8_kindOf c8_placeOf c8_readOf c8_isGone p1 = some (ra, z8_asked)) : CI l D cy yX8_missing wsX8_missing ({ frames := 6, cells := 0, slots := 0, locals := 143 } : Room) [.ref (ad 80), .int p1] (w8 cy ad c8_latest c8_asked c8_upper c8_lower c8_legs c8_units c8_rests c8_rates c8_lines c8_came c8_sizes c8_weights c8_growths c8_copied c8_legWay c8_legUnits c8_legStuff c8_unitWay c8_unitStuff c8_xs c8_ys c8_zs c8_kindOf c8_placeOf c8_rateOf c8_readOf c8_isGone c8_theList c8_amounts c8_low c8_high c8_barred c8_times c8_ranges) ra (w8 cy ad c8_latest z8_asked c8_upper c8_lower c8_legs c8_units c8_rests c8_rates c8_lines c8_came c8_sizes c8_weights c8_growths c8_copied c8_legWay c8_legUnits c8_legStuff c8_unitWay c8_unitStuff c8_xs c8_ys c8_zs c8_kindOf c8_placeOf c8_rateOf c8_readOf c8_isGone c8_theList c8_amounts c8_low c8_high c8_barred c8_times c8_ranges) := by
  unfold fX8_missing at hf
  refine c_of_i (ty := .int) (own := RX8) (by decide) rfl rfl (Nat.le_of_ble_eq_true rfl) (fun X hC hRet => ?_)
  refine r_sub [(0, .ref (ad 80)), (1, .int p1)] [0, 1] rfl ?_
  have hin8 : ∀ w ∈ wsX80, w ∈ wsX8_missing := fun w h => List.mem_cons_of_mem _ (List.mem_append_right _ h)
  have hw0 : Cond.fieldLink RX8 164 "HotPipesModel" "rests" "I" ∈ wsX8_missing := List.mem_of_getElem? (i := 1) rfl
  have hw1 : Cond.fieldLink RX8 62 "HotPipesModel" "isGone" "[Z" ∈ wsX8_missing := List.mem_of_getElem? (i := 2) rfl
  have hw2 : Cond.fieldLink RX8 59 "HotPipesModel" "readOf" "[I" ∈ wsX8_missing := List.mem_of_getElem? (i := 3) rfl
  refine r_iload_n hC dX8_missing_0 rfl 1 rfl ?_
  obtain ⟨r1, h2, hf⟩ := ob_some hf
  refine r_si (st := []) hC (kX8_isStep l D cy p1 h2) gX8_missing_X8_isStep rfl ⟨rfl, rfl⟩ ydX8_isStep ⟨Nat.le_of_ble_eq_true rfl, Nat.le_of_ble_eq_true rfl⟩ ⟨Nat.le_refl 0, Nat.le_refl 0⟩ _ rfl (Nat.le_of_ble_eq_true rfl) dX8_missing_1 ?_
  refine r_if_ne (tgt := 9) hC dX8_missing_4 (by decide) (fun c3 => ?_) (fun c3 => ?_)
  · replace hf := o_neg hf c3
    refine r_iconst hC dX8_missing_9 ic_0 ?_
    refine r_istore_n hC [(2, .int 0), (0, .ref (ad 80)), (1, .int p1)] dX8_missing_10 rfl (by decide) rfl ?_
    refine r_iconst hC dX8_missing_11 ic_0 ?_
    refine r_istore_n hC [(3, .int 0), (2, .int 0), (0, .ref (ad 80)), (1, .int p1)] dX8_missing_12 rfl (by decide) rfl ?_
    obtain ⟨K57_5, eK57_5, hf⟩ := oj_some hf
    have J57_5 : ∀ (x4 : Int32), K57_5 x4 = some (ra, z8_asked) → GG X 7 0 0 (w8 cy ad c8_latest c8_asked c8_upper c8_lower c8_legs c8_units c8_rests c8_rates c8_lines c8_came c8_sizes c8_weights c8_growths c8_copied c8_legWay c8_legUnits c8_legStuff c8_unitWay c8_unitStuff c8_xs c8_ys c8_zs c8_kindOf c8_placeOf c8_rateOf c8_readOf c8_isGone c8_theList c8_amounts c8_low c8_high c8_barred c8_times c8_ranges) [(0, .ref (ad 80)), (1, .int p1), (2, .int x4)] 57 [] := by
      intro x4 hf
      replace hf := oa1 eK57_5 hf
      refine r_iload_n hC dX8_missing_57 rfl 2 rfl ?_
      refine r_if_ne (tgt := 64) hC dX8_missing_58 (by decide) (fun c6 => ?_) (fun c6 => ?_)
      · replace hf := o_neg hf c6
        refine r_bipush hC dX8_missing_64 bp_m9 ?_
        refine r_istore_n hC [(3, .int (-9)), (0, .ref (ad 80)), (1, .int p1), (2, .int x4)] dX8_missing_66 rfl (by decide) rfl ?_
        refine r_aload_n hC dX8_missing_67 rfl 1 rfl ?_
        refine r_iload_n hC dX8_missing_68 rfl 2 rfl ?_
        refine r_bipush hC dX8_missing_69 bp_m9 ?_
        obtain ⟨r7, h8, hf⟩ := ob_some hf
        refine r_vi (st := []) hC (kX8_differs l D cy ad c8_latest c8_asked c8_upper c8_lower c8_legs c8_units c8_rests c8_rates c8_lines c8_came c8_sizes c8_weights c8_growths c8_copied c8_legWay c8_legUnits c8_legStuff c8_unitWay c8_unitStuff c8_xs c8_ys c8_zs c8_kindOf c8_placeOf c8_rateOf c8_readOf c8_isGone c8_theList c8_amounts c8_low c8_high c8_barred c8_times c8_ranges p1 (-9) N h8) gX8_missing_X8_differs rfl ⟨rfl, rfl⟩ ydX8_differs ⟨Nat.le_of_ble_eq_true rfl, Nat.le_of_ble_eq_true rfl⟩ ⟨Nat.le_refl 0, Nat.le_refl 0⟩ 0 rfl rfl [] [] rfl _ rfl (Nat.le_of_ble_eq_true rfl) dX8_missing_71 (w8 cy ad c8_latest c8_asked c8_upper c8_lower c8_legs c8_units c8_rests c8_rates c8_lines c8_came c8_sizes c8_weights c8_growths c8_copied c8_legWay c8_legUnits c8_legStuff c8_unitWay c8_unitStuff c8_xs c8_ys c8_zs c8_kindOf c8_placeOf c8_rateOf c8_readOf c8_isGone c8_theList c8_amounts c8_low c8_high c8_barred c8_times c8_ranges) rfl ?_
        refine r_istore hC [(4, .int r7), (3, .int (-9)), (0, .ref (ad 80)), (1, .int p1), (2, .int x4)] dX8_missing_74 (by decide) rfl ?_
        refine r_iconst hC dX8_missing_76 ic_0 ?_
        refine r_istore hC [(5, .int 0), (4, .int r7), (3, .int (-9)), (0, .ref (ad 80)), (1, .int p1), (2, .int x4)] dX8_missing_77 (by decide) rfl ?_
        obtain ⟨K132_11, eK132_11, hf⟩ := oj_some hf
        have J132_11 : ∀ (x9 : Int32) (x10 : Int32), K132_11 x9 x10 = some (ra, z8_asked) → GG X 7 0 0 (w8 cy ad c8_latest c8_asked c8_upper c8_lower c8_legs c8_units c8_rests c8_rates c8_lines c8_came c8_sizes c8_weights c8_growths c8_copied c8_legWay c8_legUnits c8_legStuff c8_unitWay c8_unitStuff c8_xs c8_ys c8_zs c8_kindOf c8_placeOf c8_rateOf c8_readOf c8_isGone c8_theList c8_amounts c8_low c8_high c8_barred c8_times c8_ranges) [(0, .ref (ad 80)), (3, .int x9), (4, .int x10)] 132 [] := by
          intro x9 x10 hf
          replace hf := oa2 eK132_11 hf
          refine r_aload_n hC dX8_missing_132 rfl 0 rfl ?_
          refine r_iload hC dX8_missing_133 2 rfl ?_
          refine r_iload_n hC dX8_missing_135 rfl 1 rfl ?_
          obtain ⟨r12, s13, h14, hf⟩ := ob2_some hf
          refine r_vi (st := []) hC (kX8_tells l D cy ad c8_latest c8_asked c8_upper c8_lower c8_legs c8_units c8_rests c8_rates c8_lines c8_came c8_sizes c8_weights c8_growths c8_copied c8_legWay c8_legUnits c8_legStuff c8_unitWay c8_unitStuff c8_xs c8_ys c8_zs c8_kindOf c8_placeOf c8_rateOf c8_readOf c8_isGone c8_theList c8_amounts c8_low c8_high c8_barred c8_times c8_ranges x10 x9 h14) gX8_missing_X8_tells rfl ⟨rfl, rfl⟩ ydX8_tells ⟨Nat.le_of_ble_eq_true rfl, Nat.le_of_ble_eq_true rfl⟩ ⟨Nat.le_refl 0, Nat.le_refl 0⟩ 0 rfl rfl [] [] rfl _ rfl (Nat.le_of_ble_eq_true rfl) dX8_missing_136 (w8 cy ad c8_latest s13 c8_upper c8_lower c8_legs c8_units c8_rests c8_rates c8_lines c8_came c8_sizes c8_weights c8_growths c8_copied c8_legWay c8_legUnits c8_legStuff c8_unitWay c8_unitStuff c8_xs c8_ys c8_zs c8_kindOf c8_placeOf c8_rateOf c8_readOf c8_isGone c8_theList c8_amounts c8_low c8_high c8_barred c8_times c8_ranges) rfl ?_
          obtain ⟨rfl, rfl⟩ := so_2 hf
          exact hRet _ _ _ dX8_missing_139 rfl
        have L79 : ∀ (n : Nat) (x15 : Int32) (x16 : Int32) (x17 : Int32), fX8_missing_L79 N c8_units c8_rests c8_sizes c8_weights c8_growths c8_unitWay c8_unitStuff c8_kindOf c8_placeOf c8_readOf c8_isGone p1 K132_11 n x15 x16 x17 = some (ra, z8_asked) → GG X 7 0 0 (w8 cy ad c8_latest c8_asked c8_upper c8_lower c8_legs c8_units c8_rests c8_rates c8_lines c8_came c8_sizes c8_weights c8_growths c8_copied c8_legWay c8_legUnits c8_legStuff c8_unitWay c8_unitStuff c8_xs c8_ys c8_zs c8_kindOf c8_placeOf c8_rateOf c8_readOf c8_isGone c8_theList c8_amounts c8_low c8_high c8_barred c8_times c8_ranges) [(0, .ref (ad 80)), (1, .int p1), (3, .int x15), (4, .int x16), (5, .int x17)] 79 [] := by
          intro n
          induction n with
          | zero => intro x15 x16 x17 hf; cases (show none = some _ from hf)
          | succ n ih =>
            intro x15 x16 x17 hf
            rw [fX8_missing_L79] at hf
            refine r_iload hC dX8_missing_79 4 rfl ?_
            refine r_aload_n hC dX8_missing_81 rfl 0 rfl ?_
            refine r_get hC hin8 0 rfl rfl 19 (by decide) rfl hw0 rfl dX8_missing_82 ?_
            refine r_icmp_ge (tgt := 132) hC dX8_missing_85 (by decide) (fun c18 => ?_) (fun c18 => ?_)
            · replace hf := o_pos hf c18
              refine r_sub [(0, .ref (ad 80)), (3, .int x15), (4, .int x16)] [0, 2, 3] rfl ?_
              exact J132_11 x15 x16 hf
            · replace hf := o_neg hf c18
              refine r_aload_n hC dX8_missing_88 rfl 0 rfl ?_
              refine r_iload hC dX8_missing_89 4 rfl ?_
              refine r_iload_n hC dX8_missing_91 rfl 1 rfl ?_
              obtain ⟨r19, h20, hf⟩ := ob_some hf
              refine r_vi (st := []) hC (kX8_isBearing l D cy ad c8_latest c8_asked c8_upper c8_lower c8_legs c8_units c8_rests c8_rates c8_lines c8_came c8_sizes c8_weights c8_growths c8_copied c8_legWay c8_legUnits c8_legStuff c8_unitWay c8_unitStuff c8_xs c8_ys c8_zs c8_kindOf c8_placeOf c8_rateOf c8_readOf c8_isGone c8_theList c8_amounts c8_low c8_high c8_barred c8_times c8_ranges x17 p1 N h20) gX8_missing_X8_isBearing rfl ⟨rfl, rfl⟩ ydX8_isBearing ⟨Nat.le_of_ble_eq_true rfl, Nat.le_of_ble_eq_true rfl⟩ ⟨Nat.le_refl 0, Nat.le_refl 0⟩ 0 rfl rfl [] [] rfl _ rfl (Nat.le_of_ble_eq_true rfl) dX8_missing_92 (w8 cy ad c8_latest c8_asked c8_upper c8_lower c8_legs c8_units c8_rests c8_rates c8_lines c8_came c8_sizes c8_weights c8_growths c8_copied c8_legWay c8_legUnits c8_legStuff c8_unitWay c8_unitStuff c8_xs c8_ys c8_zs c8_kindOf c8_placeOf c8_rateOf c8_readOf c8_isGone c8_theList c8_amounts c8_low c8_high c8_barred c8_times c8_ranges) rfl ?_
              obtain ⟨t21, h28, hf⟩ := ob_some hf
              have J110_27 : GG X 7 0 0 (w8 cy ad c8_latest c8_asked c8_upper c8_lower c8_legs c8_units c8_rests c8_rates c8_lines c8_came c8_sizes c8_weights c8_growths c8_copied c8_legWay c8_legUnits c8_legStuff c8_unitWay c8_unitStuff c8_xs c8_ys c8_zs c8_kindOf c8_placeOf c8_rateOf c8_readOf c8_isGone c8_theList c8_amounts c8_low c8_high c8_barred c8_times c8_ranges) [(0, .ref (ad 80)), (1, .int p1), (3, .int x15), (4, .int x16), (5, .int x17)] 110 [.int t21] := by
                refine r_istore hC [(6, .int t21), (0, .ref (ad 80)), (1, .int p1), (3, .int x15), (4, .int x16), (5, .int x17)] dX8_missing_110 (by decide) rfl ?_
                refine r_iload hC dX8_missing_112 0 rfl ?_
                refine r_iload hC dX8_missing_114 4 rfl ?_
                obtain ⟨x22, x23, h25, hf⟩ := ob2_some hf
                have J126_24 : GG X 7 0 0 (w8 cy ad c8_latest c8_asked c8_upper c8_lower c8_legs c8_units c8_rests c8_rates c8_lines c8_came c8_sizes c8_weights c8_growths c8_copied c8_legWay c8_legUnits c8_legStuff c8_unitWay c8_unitStuff c8_xs c8_ys c8_zs c8_kindOf c8_placeOf c8_rateOf c8_readOf c8_isGone c8_theList c8_amounts c8_low c8_high c8_barred c8_times c8_ranges) [(0, .ref (ad 80)), (1, .int p1), (3, .int x22), (4, .int x23), (5, .int x17)] 126 [] := by
                  refine r_iinc hC [(5, .int (x17 + 1)), (0, .ref (ad 80)), (1, .int p1), (3, .int x22), (4, .int x23)] (x17 + 1) dX8_missing_126 4 rfl (ii_1 _) (by decide) rfl ?_
                  refine r_goto (tgt := 79) hC dX8_missing_129 (by decide) ?_
                  refine r_sub [(0, .ref (ad 80)), (1, .int p1), (3, .int x22), (4, .int x23), (5, .int (x17 + 1))] [1, 2, 3, 4, 0] rfl ?_
                  exact ih x22 x23 (x17 + 1) hf
                replace hf := h25
                refine r_icmp_ge (tgt := 126) hC dX8_missing_116 (by decide) (fun c26 => ?_) (fun c26 => ?_)
                · replace hf := o_pos hf c26
                  obtain ⟨rfl, rfl⟩ := so_2 hf
                  refine r_sub [(0, .ref (ad 80)), (1, .int p1), (3, .int x15), (4, .int x16), (5, .int x17)] [1, 2, 3, 4, 5] rfl ?_
                  exact J126_24
                · replace hf := o_neg hf c26
                  refine r_iload hC dX8_missing_119 5 rfl ?_
                  refine r_istore_n hC [(3, .int x17), (6, .int t21), (0, .ref (ad 80)), (1, .int p1), (4, .int x16), (5, .int x17)] dX8_missing_121 rfl (by decide) rfl ?_
                  refine r_iload hC dX8_missing_122 1 rfl ?_
                  refine r_istore hC [(4, .int t21), (3, .int x17), (6, .int t21), (0, .ref (ad 80)), (1, .int p1), (5, .int x17)] dX8_missing_124 (by decide) rfl ?_
                  obtain ⟨rfl, rfl⟩ := so_2 hf
                  refine r_sub [(0, .ref (ad 80)), (1, .int p1), (3, .int x17), (4, .int t21), (5, .int x17)] [3, 4, 1, 0, 5] rfl ?_
                  exact J126_24
              replace hf := h28
              refine r_if_eq (tgt := 108) hC dX8_missing_95 (by decide) (fun c29 => ?_) (fun c29 => ?_)
              · replace hf := o_pos hf c29
                refine r_iload hC dX8_missing_108 3 rfl ?_
                obtain rfl := so_1 hf
                exact J110_27
              · replace hf := o_neg hf c29
                refine r_aload_n hC dX8_missing_98 rfl 0 rfl ?_
                refine r_iload_n hC dX8_missing_99 rfl 1 rfl ?_
                refine r_iload hC dX8_missing_100 4 rfl ?_
                obtain ⟨r30, h31, hf⟩ := ob_some hf
                refine r_vi (st := []) hC (kX8_differs l D cy ad c8_latest c8_asked c8_upper c8_lower c8_legs c8_units c8_rests c8_rates c8_lines c8_came c8_sizes c8_weights c8_growths c8_copied c8_legWay c8_legUnits c8_legStuff c8_unitWay c8_unitStuff c8_xs c8_ys c8_zs c8_kindOf c8_placeOf c8_rateOf c8_readOf c8_isGone c8_theList c8_amounts c8_low c8_high c8_barred c8_times c8_ranges p1 x17 N h31) gX8_missing_X8_differs rfl ⟨rfl, rfl⟩ ydX8_differs ⟨Nat.le_of_ble_eq_true rfl, Nat.le_of_ble_eq_true rfl⟩ ⟨Nat.le_refl 0, Nat.le_refl 0⟩ 0 rfl rfl [] [] rfl _ rfl (Nat.le_of_ble_eq_true rfl) dX8_missing_102 (w8 cy ad c8_latest c8_asked c8_upper c8_lower c8_legs c8_units c8_rests c8_rates c8_lines c8_came c8_sizes c8_weights c8_growths c8_copied c8_legWay c8_legUnits c8_legStuff c8_unitWay c8_unitStuff c8_xs c8_ys c8_zs c8_kindOf c8_placeOf c8_rateOf c8_readOf c8_isGone c8_theList c8_amounts c8_low c8_high c8_barred c8_times c8_ranges) rfl ?_
                refine r_goto (tgt := 110) hC dX8_missing_105 (by decide) ?_
                obtain rfl := so_1 hf
                exact J110_27
        refine r_sub [(0, .ref (ad 80)), (1, .int p1), (3, .int (-9)), (4, .int r7), (5, .int 0)] [3, 4, 2, 1, 0] rfl ?_
        exact L79 N (-9) r7 0 hf
      · replace hf := o_pos hf c6
        refine r_bipush hC dX8_missing_61 bp_m4 ?_
        obtain ⟨rfl, rfl⟩ := so_2 hf
        exact hRet _ _ _ dX8_missing_63 rfl
    have L13 : ∀ (n : Nat) (x32 : Int32) (x33 : Int32), fX8_missing_L13 c8_rests c8_readOf c8_isGone K57_5 n x32 x33 = some (ra, z8_asked) → GG X 7 0 0 (w8 cy ad c8_latest c8_asked c8_upper c8_lower c8_legs c8_units c8_rests c8_rates c8_lines c8_came c8_sizes c8_weights c8_growths c8_copied c8_legWay c8_legUnits c8_legStuff c8_unitWay c8_unitStuff c8_xs c8_ys c8_zs c8_kindOf c8_placeOf c8_rateOf c8_readOf c8_isGone c8_theList c8_amounts c8_low c8_high c8_barred c8_times c8_ranges) [(0, .ref (ad 80)), (1, .int p1), (2, .int x32), (3, .int x33)] 13 [] := by
      intro n
      induction n with
      | zero => intro x32 x33 hf; cases (show none = some _ from hf)
      | succ n ih =>
        intro x32 x33 hf
        rw [fX8_missing_L13] at hf
        refine r_iload_n hC dX8_missing_13 rfl 3 rfl ?_
        refine r_aload_n hC dX8_missing_14 rfl 0 rfl ?_
        refine r_get hC hin8 0 rfl rfl 19 (by decide) rfl hw0 rfl dX8_missing_15 ?_
        refine r_icmp_ge (tgt := 57) hC dX8_missing_18 (by decide) (fun c34 => ?_) (fun c34 => ?_)
        · replace hf := o_pos hf c34
          refine r_sub [(0, .ref (ad 80)), (1, .int p1), (2, .int x32)] [0, 1, 2] rfl ?_
          exact J57_5 x32 hf
        · replace hf := o_neg hf c34
          refine r_iload_n hC dX8_missing_21 rfl 2 rfl ?_
          obtain ⟨t35, h37, hf⟩ := ob_some hf
          have J50_36 : GG X 7 0 0 (w8 cy ad c8_latest c8_asked c8_upper c8_lower c8_legs c8_units c8_rests c8_rates c8_lines c8_came c8_sizes c8_weights c8_growths c8_copied c8_legWay c8_legUnits c8_legStuff c8_unitWay c8_unitStuff c8_xs c8_ys c8_zs c8_kindOf c8_placeOf c8_rateOf c8_readOf c8_isGone c8_theList c8_amounts c8_low c8_high c8_barred c8_times c8_ranges) [(0, .ref (ad 80)), (1, .int p1), (3, .int x33)] 50 [.int t35] := by
            refine r_istore_n hC [(2, .int t35), (0, .ref (ad 80)), (1, .int p1), (3, .int x33)] dX8_missing_50 rfl (by decide) rfl ?_
            refine r_iinc hC [(3, .int (x33 + 1)), (2, .int t35), (0, .ref (ad 80)), (1, .int p1)] (x33 + 1) dX8_missing_51 3 rfl (ii_1 _) (by decide) rfl ?_
            refine r_goto (tgt := 13) hC dX8_missing_54 (by decide) ?_
            refine r_sub [(0, .ref (ad 80)), (1, .int p1), (2, .int t35), (3, .int (x33 + 1))] [2, 3, 1, 0] rfl ?_
            exact ih t35 (x33 + 1) hf
          replace hf := h37
          obtain ⟨K45_38, eK45_38, hf⟩ := oj_some hf
          have J45_38 : K45_38 = some t35 → GG X 7 0 0 (w8 cy ad c8_latest c8_asked c8_upper c8_lower c8_legs c8_units c8_rests c8_rates c8_lines c8_came c8_sizes c8_weights c8_growths c8_copied c8_legWay c8_legUnits c8_legStuff c8_unitWay c8_unitStuff c8_xs c8_ys c8_zs c8_kindOf c8_placeOf c8_rateOf c8_readOf c8_isGone c8_theList c8_amounts c8_low c8_high c8_barred c8_times c8_ranges) [(0, .ref (ad 80)), (1, .int p1), (3, .int x33)] 45 [] := by
            intro hf
            replace hf := oa0 eK45_38 hf
            refine r_iconst hC dX8_missing_45 ic_1 ?_
            refine r_goto (tgt := 50) hC dX8_missing_46 (by decide) ?_
            obtain rfl := so_1 hf
            exact J50_36
          refine r_if_ne (tgt := 45) hC dX8_missing_22 (by decide) (fun c39 => ?_) (fun c39 => ?_)
          · replace hf := o_neg hf c39
            refine r_sub [(0, .ref (ad 80)), (1, .int p1), (3, .int x33)] [0, 1, 3] rfl ?_
            exact J45_38 hf
          · replace hf := o_pos hf c39
            refine r_aload_n hC dX8_missing_25 rfl 0 rfl ?_
            refine r_get hC hin8 0 rfl rfl 24 (by decide) rfl hw1 rfl dX8_missing_26 ?_
            refine r_iload_n hC dX8_missing_29 rfl 3 rfl ?_
            obtain ⟨g40, hf⟩ := og_some hf
            refine r_zald hC 18 rfl g40 dX8_missing_30 ?_
            obtain ⟨K49_41, eK49_41, hf⟩ := oj_some hf
            have J49_41 : K49_41 = some t35 → GG X 7 0 0 (w8 cy ad c8_latest c8_asked c8_upper c8_lower c8_legs c8_units c8_rests c8_rates c8_lines c8_came c8_sizes c8_weights c8_growths c8_copied c8_legWay c8_legUnits c8_legStuff c8_unitWay c8_unitStuff c8_xs c8_ys c8_zs c8_kindOf c8_placeOf c8_rateOf c8_readOf c8_isGone c8_theList c8_amounts c8_low c8_high c8_barred c8_times c8_ranges) [(0, .ref (ad 80)), (1, .int p1), (3, .int x33)] 49 [] := by
              intro hf
              replace hf := oa0 eK49_41 hf
              refine r_iconst hC dX8_missing_49 ic_0 ?_
              obtain rfl := so_1 hf
              exact J50_36
            refine r_if_ne (tgt := 49) hC dX8_missing_31 (by decide) (fun c42 => ?_) (fun c42 => ?_)
            · replace hf := o_neg hf c42
              refine r_sub [(0, .ref (ad 80)), (1, .int p1), (3, .int x33)] [0, 1, 3] rfl ?_
              exact J49_41 hf
            · replace hf := o_pos hf c42
              refine r_aload_n hC dX8_missing_34 rfl 0 rfl ?_
              refine r_get hC hin8 0 rfl rfl 23 (by decide) rfl hw2 rfl dX8_missing_35 ?_
              refine r_iload_n hC dX8_missing_38 rfl 3 rfl ?_
              obtain ⟨g43, hf⟩ := og_some hf
              refine r_iald hC 17 rfl g43 dX8_missing_39 ?_
              refine r_bipush hC dX8_missing_40 bp_m9 ?_
              refine r_icmp_eq (tgt := 49) hC dX8_missing_42 (by decide) (fun c44 => ?_) (fun c44 => ?_)
              · replace hf := o_pos hf c44
                refine r_sub [(0, .ref (ad 80)), (1, .int p1), (3, .int x33)] [0, 1, 3] rfl ?_
                exact J49_41 hf
              · replace hf := o_neg hf c44
                refine r_sub [(0, .ref (ad 80)), (1, .int p1), (3, .int x33)] [0, 1, 3] rfl ?_
                exact J45_38 hf
    refine r_sub [(0, .ref (ad 80)), (1, .int p1), (2, .int 0), (3, .int 0)] [2, 3, 1, 0] rfl ?_
    exact L13 N 0 0 hf
  · replace hf := o_pos hf c3
    refine r_iconst hC dX8_missing_7 ic_m1 ?_
    obtain ⟨rfl, rfl⟩ := so_2 hf
    exact hRet _ _ _ dX8_missing_8 rfl
noncomputable def fX8_count_L4 (c8_rests : Int32) (c8_isGone : Nat → Int32) (K35_2 : Int32 → Option (Int32)) : Nat → Int32 → Int32 → Option (Int32)
  | 0, _, _ => none
  | n + 1, x9, x10 => (if c8_rests ≤ x10 then K35_2 x9 else og (vp_in x10 12) (ob ((if (c8_isGone (Int32.toNatClampNeg x10)) = 0 then some 1 else some 0)) (fun (t13 : Int32) => olet (x9 + t13) (fun (x14 : Int32) => fX8_count_L4 c8_rests c8_isGone K35_2 n x14 (x10 + 1)))))
noncomputable def fX8_count (N : Nat) (c8_legs : Int32) (c8_units : Int32) (c8_rests : Int32) (c8_rates : Int32) (c8_lines : Int32) (c8_isGone : Nat → Int32) (p1 : Int32) : Option (Int32) := oj (fun (x1 : Int32) => (if p1 = 0 then some c8_legs else (if p1 = 1 then some c8_units else (if p1 = 2 then some c8_rests else (if p1 = 3 then some x1 else (if p1 = 4 then some c8_rates else (if p1 = 5 then some c8_lines else (some (-1))))))))) (fun (K35_2 : Int32 → Option (Int32)) => fX8_count_L4 c8_rests c8_isGone K35_2 N 0 0)
theorem ydX8_count : yX8_count.cls = RX8 ∧ yX8_count.cls ≠ "java/lang/invoke/MethodHandle" ∧ yX8_count.cls ≠ "java/lang/invoke/VarHandle" ∧ (parseMethodDescriptor yX8_count.desc).map (fun d => d.parameters.length) = some 1 := by decide +kernel
set_option maxHeartbeats 8000000 in
set_option maxRecDepth 100000 in
theorem kX8_count (l : Launch) (D : va_G) (cy : Nat → ClassId) (ad : Nat → Nat) (c8_latest : Int32) (c8_asked : Int32) (c8_upper : Int64) (c8_lower : Int64) (c8_legs : Int32) (c8_units : Int32) (c8_rests : Int32) (c8_rates : Int32) (c8_lines : Int32) (c8_came : Nat → Int32) (c8_sizes : Nat → Int32) (c8_weights : Nat → Int32) (c8_growths : Nat → Int32) (c8_copied : Nat → Int32) (c8_legWay : Nat → Int32) (c8_legUnits : Nat → Int32) (c8_legStuff : Nat → Int32) (c8_unitWay : Nat → Int32) (c8_unitStuff : Nat → Int32) (c8_xs : Nat → Int32) (c8_ys : Nat → Int32) (c8_zs : Nat → Int32) (c8_kindOf : Nat → Int32) (c8_placeOf : Nat → Int32) (c8_rateOf : Nat → Int32) (c8_readOf : Nat → Int32) (c8_isGone : Nat → Int32) (c8_theList : Nat → Int32) (c8_amounts : Nat → Int32) (c8_low : Nat → Int32) (c8_high : Nat → Int32) (c8_barred : Nat → Int32) (c8_times : Nat → Int32) (c8_ranges : Nat → Int32) (p1 : Int32) (N : Nat) {ra : Int32} (hf : fX8_count N c8_legs c8_units c8_rests c8_rates c8_lines c8_isGone p1 = some ra) : CI l D cy yX8_count wsX8_count ({ frames := 0, cells := 0, slots := 0, locals := 0 } : Room) [.ref (ad 80), .int p1] (w8 cy ad c8_latest c8_asked c8_upper c8_lower c8_legs c8_units c8_rests c8_rates c8_lines c8_came c8_sizes c8_weights c8_growths c8_copied c8_legWay c8_legUnits c8_legStuff c8_unitWay c8_unitStuff c8_xs c8_ys c8_zs c8_kindOf c8_placeOf c8_rateOf c8_readOf c8_isGone c8_theList c8_amounts c8_low c8_high c8_barred c8_times c8_ranges) ra (w8 cy ad c8_latest c8_asked c8_upper c8_lower c8_legs c8_units c8_rests c8_rates c8_lines c8_came c8_sizes c8_weights c8_growths c8_copied c8_legWay c8_legUnits c8_legStuff c8_unitWay c8_unitStuff c8_xs c8_ys c8_zs c8_kindOf c8_placeOf c8_rateOf c8_readOf c8_isGone c8_theList c8_amounts c8_low c8_high c8_barred c8_times c8_ranges) := by
  unfold fX8_count at hf
  refine c_of_i (ty := .int) (own := RX8) (by decide) rfl rfl (Nat.le_of_ble_eq_true rfl) (fun X hC hRet => ?_)
  refine r_sub [(0, .ref (ad 80)), (1, .int p1)] [0, 1] rfl ?_
  have hin8 : ∀ w ∈ wsX80, w ∈ wsX8_count := fun w h => List.mem_cons_of_mem _ (List.mem_append_right _ h)
  have hw0 : Cond.fieldLink RX8 116 "HotPipesModel" "legs" "I" ∈ wsX8_count := List.mem_of_getElem? (i := 3) rfl
  have hw1 : Cond.fieldLink RX8 113 "HotPipesModel" "units" "I" ∈ wsX8_count := List.mem_of_getElem? (i := 4) rfl
  have hw2 : Cond.fieldLink RX8 164 "HotPipesModel" "rests" "I" ∈ wsX8_count := List.mem_of_getElem? (i := 1) rfl
  have hw3 : Cond.fieldLink RX8 202 "HotPipesModel" "rates" "I" ∈ wsX8_count := List.mem_of_getElem? (i := 5) rfl
  have hw4 : Cond.fieldLink RX8 217 "HotPipesModel" "lines" "I" ∈ wsX8_count := List.mem_of_getElem? (i := 6) rfl
  have hw5 : Cond.fieldLink RX8 62 "HotPipesModel" "isGone" "[Z" ∈ wsX8_count := List.mem_of_getElem? (i := 2) rfl
  refine r_iconst hC dX8_count_0 ic_0 ?_
  refine r_istore_n hC [(2, .int 0), (0, .ref (ad 80)), (1, .int p1)] dX8_count_1 rfl (by decide) rfl ?_
  refine r_iconst hC dX8_count_2 ic_0 ?_
  refine r_istore_n hC [(3, .int 0), (2, .int 0), (0, .ref (ad 80)), (1, .int p1)] dX8_count_3 rfl (by decide) rfl ?_
  obtain ⟨K35_2, eK35_2, hf⟩ := oj_some hf
  have J35_2 : ∀ (x1 : Int32), K35_2 x1 = some ra → GG X 4 0 0 (w8 cy ad c8_latest c8_asked c8_upper c8_lower c8_legs c8_units c8_rests c8_rates c8_lines c8_came c8_sizes c8_weights c8_growths c8_copied c8_legWay c8_legUnits c8_legStuff c8_unitWay c8_unitStuff c8_xs c8_ys c8_zs c8_kindOf c8_placeOf c8_rateOf c8_readOf c8_isGone c8_theList c8_amounts c8_low c8_high c8_barred c8_times c8_ranges) [(0, .ref (ad 80)), (1, .int p1), (2, .int x1)] 35 [] := by
    intro x1 hf
    replace hf := oa1 eK35_2 hf
    refine r_iload_n hC dX8_count_35 rfl 1 rfl ?_
    by_cases c3 : p1 = 0
    · replace hf := o_pos hf c3
      refine r_tableIn (off := 40) (tgt := 76) hC dX8_count_36 (by rw [c3]; decide) (by rw [c3]; decide) (by rw [c3]; rfl) (by decide) ?_
      refine r_aload_n hC dX8_count_76 rfl 0 rfl ?_
      refine r_get hC hin8 0 rfl rfl 9 (by decide) rfl hw0 rfl dX8_count_77 ?_
      obtain rfl := so_1 hf
      exact hRet _ _ _ dX8_count_80 rfl
    replace hf := o_neg hf c3
    by_cases c4 : p1 = 1
    · replace hf := o_pos hf c4
      refine r_tableIn (off := 45) (tgt := 81) hC dX8_count_36 (by rw [c4]; decide) (by rw [c4]; decide) (by rw [c4]; rfl) (by decide) ?_
      refine r_aload_n hC dX8_count_81 rfl 0 rfl ?_
      refine r_get hC hin8 0 rfl rfl 13 (by decide) rfl hw1 rfl dX8_count_82 ?_
      obtain rfl := so_1 hf
      exact hRet _ _ _ dX8_count_85 rfl
    replace hf := o_neg hf c4
    by_cases c5 : p1 = 2
    · replace hf := o_pos hf c5
      refine r_tableIn (off := 50) (tgt := 86) hC dX8_count_36 (by rw [c5]; decide) (by rw [c5]; decide) (by rw [c5]; rfl) (by decide) ?_
      refine r_aload_n hC dX8_count_86 rfl 0 rfl ?_
      refine r_get hC hin8 0 rfl rfl 19 (by decide) rfl hw2 rfl dX8_count_87 ?_
      obtain rfl := so_1 hf
      exact hRet _ _ _ dX8_count_90 rfl
    replace hf := o_neg hf c5
    by_cases c6 : p1 = 3
    · replace hf := o_pos hf c6
      refine r_tableIn (off := 55) (tgt := 91) hC dX8_count_36 (by rw [c6]; decide) (by rw [c6]; decide) (by rw [c6]; rfl) (by decide) ?_
      refine r_iload_n hC dX8_count_91 rfl 2 rfl ?_
      obtain rfl := so_1 hf
      exact hRet _ _ _ dX8_count_92 rfl
    replace hf := o_neg hf c6
    by_cases c7 : p1 = 4
    · replace hf := o_pos hf c7
      refine r_tableIn (off := 57) (tgt := 93) hC dX8_count_36 (by rw [c7]; decide) (by rw [c7]; decide) (by rw [c7]; rfl) (by decide) ?_
      refine r_aload_n hC dX8_count_93 rfl 0 rfl ?_
      refine r_get hC hin8 0 rfl rfl 25 (by decide) rfl hw3 rfl dX8_count_94 ?_
      obtain rfl := so_1 hf
      exact hRet _ _ _ dX8_count_97 rfl
    replace hf := o_neg hf c7
    by_cases c8 : p1 = 5
    · replace hf := o_pos hf c8
      refine r_tableIn (off := 62) (tgt := 98) hC dX8_count_36 (by rw [c8]; decide) (by rw [c8]; decide) (by rw [c8]; rfl) (by decide) ?_
      refine r_aload_n hC dX8_count_98 rfl 0 rfl ?_
      refine r_get hC hin8 0 rfl rfl 31 (by decide) rfl hw4 rfl dX8_count_99 ?_
      obtain rfl := so_1 hf
      exact hRet _ _ _ dX8_count_102 rfl
    replace hf := o_neg hf c8
    refine r_tableOut (tgt := 103) hC dX8_count_36 (tb_5 c3 c4 c5 c6 c7 c8) (by decide) ?_
    refine r_iconst hC dX8_count_103 ic_m1 ?_
    obtain rfl := so_1 hf
    exact hRet _ _ _ dX8_count_104 rfl
  have L4 : ∀ (n : Nat) (x9 : Int32) (x10 : Int32), fX8_count_L4 c8_rests c8_isGone K35_2 n x9 x10 = some ra → GG X 4 0 0 (w8 cy ad c8_latest c8_asked c8_upper c8_lower c8_legs c8_units c8_rests c8_rates c8_lines c8_came c8_sizes c8_weights c8_growths c8_copied c8_legWay c8_legUnits c8_legStuff c8_unitWay c8_unitStuff c8_xs c8_ys c8_zs c8_kindOf c8_placeOf c8_rateOf c8_readOf c8_isGone c8_theList c8_amounts c8_low c8_high c8_barred c8_times c8_ranges) [(0, .ref (ad 80)), (1, .int p1), (2, .int x9), (3, .int x10)] 4 [] := by
    intro n
    induction n with
    | zero => intro x9 x10 hf; cases (show none = some _ from hf)
    | succ n ih =>
      intro x9 x10 hf
      rw [fX8_count_L4] at hf
      refine r_iload_n hC dX8_count_4 rfl 3 rfl ?_
      refine r_aload_n hC dX8_count_5 rfl 0 rfl ?_
      refine r_get hC hin8 0 rfl rfl 19 (by decide) rfl hw2 rfl dX8_count_6 ?_
      refine r_icmp_ge (tgt := 35) hC dX8_count_9 (by decide) (fun c11 => ?_) (fun c11 => ?_)
      · replace hf := o_pos hf c11
        refine r_sub [(0, .ref (ad 80)), (1, .int p1), (2, .int x9)] [0, 1, 2] rfl ?_
        exact J35_2 x9 hf
      · replace hf := o_neg hf c11
        refine r_iload_n hC dX8_count_12 rfl 2 rfl ?_
        refine r_aload_n hC dX8_count_13 rfl 0 rfl ?_
        refine r_get hC hin8 0 rfl rfl 24 (by decide) rfl hw5 rfl dX8_count_14 ?_
        refine r_iload_n hC dX8_count_17 rfl 3 rfl ?_
        obtain ⟨g12, hf⟩ := og_some hf
        refine r_zald hC 18 rfl g12 dX8_count_18 ?_
        obtain ⟨t13, h16, hf⟩ := ob_some hf
        have J27_15 : GG X 4 0 0 (w8 cy ad c8_latest c8_asked c8_upper c8_lower c8_legs c8_units c8_rests c8_rates c8_lines c8_came c8_sizes c8_weights c8_growths c8_copied c8_legWay c8_legUnits c8_legStuff c8_unitWay c8_unitStuff c8_xs c8_ys c8_zs c8_kindOf c8_placeOf c8_rateOf c8_readOf c8_isGone c8_theList c8_amounts c8_low c8_high c8_barred c8_times c8_ranges) [(0, .ref (ad 80)), (1, .int p1), (3, .int x10)] 27 [.int t13, .int x9] := by
          refine r_iadd hC dX8_count_27 ?_
          refine r_topi (fun x14 ex14 => ?_)
          replace hf := olet_some hf ex14
          refine r_istore_n hC [(2, .int x14), (0, .ref (ad 80)), (1, .int p1), (3, .int x10)] dX8_count_28 rfl (by decide) rfl ?_
          refine r_iinc hC [(3, .int (x10 + 1)), (2, .int x14), (0, .ref (ad 80)), (1, .int p1)] (x10 + 1) dX8_count_29 3 rfl (ii_1 _) (by decide) rfl ?_
          refine r_goto (tgt := 4) hC dX8_count_32 (by decide) ?_
          refine r_sub [(0, .ref (ad 80)), (1, .int p1), (2, .int x14), (3, .int (x10 + 1))] [2, 3, 1, 0] rfl ?_
          exact ih x14 (x10 + 1) hf
        replace hf := h16
        refine r_if_eq (tgt := 26) hC dX8_count_19 (by decide) (fun c17 => ?_) (fun c17 => ?_)
        · replace hf := o_pos hf c17
          refine r_iconst hC dX8_count_26 ic_1 ?_
          obtain rfl := so_1 hf
          refine r_sub [(0, .ref (ad 80)), (1, .int p1), (3, .int x10)] [0, 1, 3] rfl ?_
          exact J27_15
        · replace hf := o_neg hf c17
          refine r_iconst hC dX8_count_22 ic_0 ?_
          refine r_goto (tgt := 27) hC dX8_count_23 (by decide) ?_
          obtain rfl := so_1 hf
          refine r_sub [(0, .ref (ad 80)), (1, .int p1), (3, .int x10)] [0, 1, 3] rfl ?_
          exact J27_15
  refine r_sub [(0, .ref (ad 80)), (1, .int p1), (2, .int 0), (3, .int 0)] [2, 3, 1, 0] rfl ?_
  exact L4 N 0 0 hf
noncomputable def fX8_digest_L276 (c8_sizes : Nat → Int32) (c8_growths : Nat → Int32) (x10 : Int32) (K313_16 : Int64 → Option (Int64)) : Nat → Int64 → Int32 → Option (Int64)
  | 0, _, _ => none
  | n + 1, x17, x18 => og (vp_in x10 4) ((if (c8_sizes (Int32.toNatClampNeg x10)) ≤ x18 then K313_16 x17 else og (vp_in ((16 * x10) + x18) 64) (olet ((31 * x17) + (Int32.toInt64 (c8_growths (Int32.toNatClampNeg ((16 * x10) + x18))))) (fun (x22 : Int64) => fX8_digest_L276 c8_sizes c8_growths x10 K313_16 n x22 (x18 + 1)))))
noncomputable def fX8_digest_L242 (N : Nat) (c8_sizes : Nat → Int32) (c8_weights : Nat → Int32) (c8_growths : Nat → Int32) : Nat → Int64 → Int32 → Option (Int64)
  | 0, _, _ => none
  | n + 1, x9, x10 => (if 4 ≤ x10 then some x9 else og (vp_in x10 4) (og (vp_in x10 4) (olet ((31 * ((31 * x9) + (Int32.toInt64 (c8_weights (Int32.toNatClampNeg x10))))) + (Int32.toInt64 (c8_sizes (Int32.toNatClampNeg x10)))) (fun (x14 : Int64) => oj (fun (x15 : Int64) => fX8_digest_L242 N c8_sizes c8_weights c8_growths n x15 (x10 + 1)) (fun (K313_16 : Int64 → Option (Int64)) => fX8_digest_L276 c8_sizes c8_growths x10 K313_16 N x14 0)))))
noncomputable def fX8_digest_L190 (c8_amounts : Nat → Int32) (c8_low : Nat → Int32) (c8_high : Nat → Int32) (K240_8 : Int64 → Option (Int64)) : Nat → Int64 → Int32 → Option (Int64)
  | 0, _, _ => none
  | n + 1, x23, x24 => (if 8 ≤ x24 then K240_8 x23 else og (vp_in x24 8) (og (vp_in x24 8) (og (vp_in x24 8) (olet ((31 * ((31 * ((31 * x23) + (Int32.toInt64 (c8_amounts (Int32.toNatClampNeg x24))))) + (Int32.toInt64 (c8_low (Int32.toNatClampNeg x24))))) + (Int32.toInt64 (c8_high (Int32.toNatClampNeg x24)))) (fun (x29 : Int64) => fX8_digest_L190 c8_amounts c8_low c8_high K240_8 n x29 (x24 + 1))))))
noncomputable def fX8_digest_L119 (c8_units : Int32) (c8_kindOf : Nat → Int32) (c8_placeOf : Nat → Int32) (c8_rateOf : Nat → Int32) (c8_isGone : Nat → Int32) (x31 : Int32) (K155_36 : Int64 → Option (Int64)) : Nat → Int64 → Int32 → Option (Int64)
  | 0, _, _ => none
  | n + 1, x43, x44 => (if 4 ≤ x44 then K155_36 x43 else og (vp_in x31 12) ((if (c8_isGone (Int32.toNatClampNeg x31)) = 0 then ob (fX8_toldOf c8_units c8_kindOf c8_placeOf c8_rateOf c8_isGone x31 x44) (fun (r48 : Int32) => olet ((31 * x43) + (Int32.toInt64 r48)) (fun (x50 : Int64) => fX8_digest_L119 c8_units c8_kindOf c8_placeOf c8_rateOf c8_isGone x31 K155_36 n x50 (x44 + 1))) else K155_36 x43)))
noncomputable def fX8_digest_L87 (N : Nat) (c8_units : Int32) (c8_rests : Int32) (c8_kindOf : Nat → Int32) (c8_placeOf : Nat → Int32) (c8_rateOf : Nat → Int32) (c8_readOf : Nat → Int32) (c8_isGone : Nat → Int32) (K188_6 : Int64 → Option (Int64)) : Nat → Int64 → Int32 → Option (Int64)
  | 0, _, _ => none
  | n + 1, x30, x31 => (if c8_rests ≤ x31 then K188_6 x30 else og (vp_in x31 12) (ob ((if (c8_isGone (Int32.toNatClampNeg x31)) = 0 then some x30 else some ((31 * x30) - 1))) (fun (t34 : Int64) => oj (fun (x35 : Int64) => og (vp_in x31 12) (ob ((if (c8_isGone (Int32.toNatClampNeg x31)) = 0 then og (vp_in x31 12) (some ((31 * x35) + (Int32.toInt64 (c8_readOf (Int32.toNatClampNeg x31))))) else some x35)) (fun (t38 : Int64) => fX8_digest_L87 N c8_units c8_rests c8_kindOf c8_placeOf c8_rateOf c8_readOf c8_isGone K188_6 n t38 (x31 + 1)))) (fun (K155_36 : Int64 → Option (Int64)) => fX8_digest_L119 c8_units c8_kindOf c8_placeOf c8_rateOf c8_isGone x31 K155_36 N t34 0))))
noncomputable def fX8_digest_L33 (c8_legs : Int32) (c8_legWay : Nat → Int32) (c8_legUnits : Nat → Int32) (c8_legStuff : Nat → Int32) (K85_4 : Int64 → Option (Int64)) : Nat → Int64 → Int32 → Option (Int64)
  | 0, _, _ => none
  | n + 1, x54, x55 => (if c8_legs ≤ x55 then K85_4 x54 else og (vp_in x55 12) (og (vp_in x55 12) (og (vp_in x55 12) (olet ((31 * ((31 * ((31 * x54) + (Int32.toInt64 (c8_legWay (Int32.toNatClampNeg x55))))) + (Int32.toInt64 (c8_legUnits (Int32.toNatClampNeg x55))))) + (Int32.toInt64 (c8_legStuff (Int32.toNatClampNeg x55)))) (fun (x60 : Int64) => fX8_digest_L33 c8_legs c8_legWay c8_legUnits c8_legStuff K85_4 n x60 (x55 + 1))))))
noncomputable def fX8_digest_L6 (N : Nat) (c8_legs : Int32) (c8_units : Int32) (c8_rests : Int32) (c8_rates : Int32) (c8_lines : Int32) (c8_isGone : Nat → Int32) (K31_2 : Int64 → Option (Int64)) : Nat → Int64 → Int32 → Option (Int64)
  | 0, _, _ => none
  | n + 1, x61, x62 => (if 6 ≤ x62 then K31_2 x61 else ob (fX8_count N c8_legs c8_units c8_rests c8_rates c8_lines c8_isGone x62) (fun (r64 : Int32) => olet ((31 * x61) + (Int32.toInt64 r64)) (fun (x66 : Int64) => fX8_digest_L6 N c8_legs c8_units c8_rests c8_rates c8_lines c8_isGone K31_2 n x66 (x62 + 1))))
noncomputable def fX8_digest (N : Nat) (c8_legs : Int32) (c8_units : Int32) (c8_rests : Int32) (c8_rates : Int32) (c8_lines : Int32) (c8_sizes : Nat → Int32) (c8_weights : Nat → Int32) (c8_growths : Nat → Int32) (c8_legWay : Nat → Int32) (c8_legUnits : Nat → Int32) (c8_legStuff : Nat → Int32) (c8_kindOf : Nat → Int32) (c8_placeOf : Nat → Int32) (c8_rateOf : Nat → Int32) (c8_readOf : Nat → Int32) (c8_isGone : Nat → Int32) (c8_amounts : Nat → Int32) (c8_low : Nat → Int32) (c8_high : Nat → Int32) : Option (Int64) := oj (fun (x1 : Int64) => oj (fun (x3 : Int64) => oj (fun (x5 : Int64) => oj (fun (x7 : Int64) => fX8_digest_L242 N c8_sizes c8_weights c8_growths N x7 0) (fun (K240_8 : Int64 → Option (Int64)) => fX8_digest_L190 c8_amounts c8_low c8_high K240_8 N x5 0)) (fun (K188_6 : Int64 → Option (Int64)) => fX8_digest_L87 N c8_units c8_rests c8_kindOf c8_placeOf c8_rateOf c8_readOf c8_isGone K188_6 N x3 0)) (fun (K85_4 : Int64 → Option (Int64)) => fX8_digest_L33 c8_legs c8_legWay c8_legUnits c8_legStuff K85_4 N x1 0)) (fun (K31_2 : Int64 → Option (Int64)) => fX8_digest_L6 N c8_legs c8_units c8_rests c8_rates c8_lines c8_isGone K31_2 N 17 0)
theorem ydX8_digest : yX8_digest.cls = RX8 ∧ yX8_digest.cls ≠ "java/lang/invoke/MethodHandle" ∧ yX8_digest.cls ≠ "java/lang/invoke/VarHandle" ∧ (parseMethodDescriptor yX8_digest.desc).map (fun d => d.parameters.length) = some 0 := by decide +kernel
set_option maxHeartbeats 8000000 in
set_option maxRecDepth 100000 in
theorem kX8_digest (l : Launch) (D : va_G) (cy : Nat → ClassId) (ad : Nat → Nat) (c8_latest : Int32) (c8_asked : Int32) (c8_upper : Int64) (c8_lower : Int64) (c8_legs : Int32) (c8_units : Int32) (c8_rests : Int32) (c8_rates : Int32) (c8_lines : Int32) (c8_came : Nat → Int32) (c8_sizes : Nat → Int32) (c8_weights : Nat → Int32) (c8_growths : Nat → Int32) (c8_copied : Nat → Int32) (c8_legWay : Nat → Int32) (c8_legUnits : Nat → Int32) (c8_legStuff : Nat → Int32) (c8_unitWay : Nat → Int32) (c8_unitStuff : Nat → Int32) (c8_xs : Nat → Int32) (c8_ys : Nat → Int32) (c8_zs : Nat → Int32) (c8_kindOf : Nat → Int32) (c8_placeOf : Nat → Int32) (c8_rateOf : Nat → Int32) (c8_readOf : Nat → Int32) (c8_isGone : Nat → Int32) (c8_theList : Nat → Int32) (c8_amounts : Nat → Int32) (c8_low : Nat → Int32) (c8_high : Nat → Int32) (c8_barred : Nat → Int32) (c8_times : Nat → Int32) (c8_ranges : Nat → Int32) (N : Nat) {ra : Int64} (hf : fX8_digest N c8_legs c8_units c8_rests c8_rates c8_lines c8_sizes c8_weights c8_growths c8_legWay c8_legUnits c8_legStuff c8_kindOf c8_placeOf c8_rateOf c8_readOf c8_isGone c8_amounts c8_low c8_high = some ra) : CL l D cy yX8_digest wsX8_digest ({ frames := 2, cells := 0, slots := 0, locals := 43 } : Room) [.ref (ad 80)] (w8 cy ad c8_latest c8_asked c8_upper c8_lower c8_legs c8_units c8_rests c8_rates c8_lines c8_came c8_sizes c8_weights c8_growths c8_copied c8_legWay c8_legUnits c8_legStuff c8_unitWay c8_unitStuff c8_xs c8_ys c8_zs c8_kindOf c8_placeOf c8_rateOf c8_readOf c8_isGone c8_theList c8_amounts c8_low c8_high c8_barred c8_times c8_ranges) ra (w8 cy ad c8_latest c8_asked c8_upper c8_lower c8_legs c8_units c8_rests c8_rates c8_lines c8_came c8_sizes c8_weights c8_growths c8_copied c8_legWay c8_legUnits c8_legStuff c8_unitWay c8_unitStuff c8_xs c8_ys c8_zs c8_kindOf c8_placeOf c8_rateOf c8_readOf c8_isGone c8_theList c8_amounts c8_low c8_high c8_barred c8_times c8_ranges) := by
  unfold fX8_digest at hf
  refine c_of_l (own := RX8) (by decide) rfl rfl (Nat.le_of_ble_eq_true rfl) (fun X hC hRet => ?_)
  refine r_sub [(0, .ref (ad 80))] [0] rfl ?_
  have hin8 : ∀ w ∈ wsX80, w ∈ wsX8_digest := fun w h => List.mem_cons_of_mem _ (List.mem_append_right _ h)
  have hw0 : Cond.constantLong RX8 225 (17) ∈ wsX8_digest := List.mem_of_getElem? (i := 1) rfl
  have hw1 : Cond.constantLong RX8 227 (31) ∈ wsX8_digest := List.mem_of_getElem? (i := 2) rfl
  have hw2 : Cond.fieldLink RX8 16 "HotPipesModel" "weights" "[I" ∈ wsX8_digest := List.mem_of_getElem? (i := 13) rfl
  have hw3 : Cond.fieldLink RX8 13 "HotPipesModel" "sizes" "[I" ∈ wsX8_digest := List.mem_of_getElem? (i := 14) rfl
  have hw4 : Cond.fieldLink RX8 19 "HotPipesModel" "growths" "[B" ∈ wsX8_digest := List.mem_of_getElem? (i := 15) rfl
  have hw5 : Cond.fieldLink RX8 69 "HotPipesModel" "amounts" "[I" ∈ wsX8_digest := List.mem_of_getElem? (i := 10) rfl
  have hw6 : Cond.fieldLink RX8 72 "HotPipesModel" "low" "[I" ∈ wsX8_digest := List.mem_of_getElem? (i := 11) rfl
  have hw7 : Cond.fieldLink RX8 75 "HotPipesModel" "high" "[I" ∈ wsX8_digest := List.mem_of_getElem? (i := 12) rfl
  have hw8 : Cond.fieldLink RX8 164 "HotPipesModel" "rests" "I" ∈ wsX8_digest := List.mem_of_getElem? (i := 7) rfl
  have hw9 : Cond.fieldLink RX8 62 "HotPipesModel" "isGone" "[Z" ∈ wsX8_digest := List.mem_of_getElem? (i := 8) rfl
  have hw10 : Cond.fieldLink RX8 59 "HotPipesModel" "readOf" "[I" ∈ wsX8_digest := List.mem_of_getElem? (i := 9) rfl
  have hw11 : Cond.fieldLink RX8 116 "HotPipesModel" "legs" "I" ∈ wsX8_digest := List.mem_of_getElem? (i := 3) rfl
  have hw12 : Cond.fieldLink RX8 26 "HotPipesModel" "legWay" "[I" ∈ wsX8_digest := List.mem_of_getElem? (i := 4) rfl
  have hw13 : Cond.fieldLink RX8 29 "HotPipesModel" "legUnits" "[I" ∈ wsX8_digest := List.mem_of_getElem? (i := 5) rfl
  have hw14 : Cond.fieldLink RX8 32 "HotPipesModel" "legStuff" "[I" ∈ wsX8_digest := List.mem_of_getElem? (i := 6) rfl
  refine r_ldc2 hC hw0 dX8_digest_0 ?_
  refine r_lstore_n hC [(1, .long 17), (0, .ref (ad 80))] dX8_digest_3 rfl (by decide) rfl ?_
  refine r_iconst hC dX8_digest_4 ic_0 ?_
  refine r_istore_n hC [(3, .int 0), (1, .long 17), (0, .ref (ad 80))] dX8_digest_5 rfl (by decide) rfl ?_
  obtain ⟨K31_2, eK31_2, hf⟩ := oj_some hf
  have J31_2 : ∀ (x1 : Int64), K31_2 x1 = some ra → GG X 5 0 0 (w8 cy ad c8_latest c8_asked c8_upper c8_lower c8_legs c8_units c8_rests c8_rates c8_lines c8_came c8_sizes c8_weights c8_growths c8_copied c8_legWay c8_legUnits c8_legStuff c8_unitWay c8_unitStuff c8_xs c8_ys c8_zs c8_kindOf c8_placeOf c8_rateOf c8_readOf c8_isGone c8_theList c8_amounts c8_low c8_high c8_barred c8_times c8_ranges) [(0, .ref (ad 80)), (1, .long x1)] 31 [] := by
    intro x1 hf
    replace hf := oa1 eK31_2 hf
    refine r_iconst hC dX8_digest_31 ic_0 ?_
    refine r_istore_n hC [(3, .int 0), (0, .ref (ad 80)), (1, .long x1)] dX8_digest_32 rfl (by decide) rfl ?_
    obtain ⟨K85_4, eK85_4, hf⟩ := oj_some hf
    have J85_4 : ∀ (x3 : Int64), K85_4 x3 = some ra → GG X 5 0 0 (w8 cy ad c8_latest c8_asked c8_upper c8_lower c8_legs c8_units c8_rests c8_rates c8_lines c8_came c8_sizes c8_weights c8_growths c8_copied c8_legWay c8_legUnits c8_legStuff c8_unitWay c8_unitStuff c8_xs c8_ys c8_zs c8_kindOf c8_placeOf c8_rateOf c8_readOf c8_isGone c8_theList c8_amounts c8_low c8_high c8_barred c8_times c8_ranges) [(0, .ref (ad 80)), (1, .long x3)] 85 [] := by
      intro x3 hf
      replace hf := oa1 eK85_4 hf
      refine r_iconst hC dX8_digest_85 ic_0 ?_
      refine r_istore_n hC [(3, .int 0), (0, .ref (ad 80)), (1, .long x3)] dX8_digest_86 rfl (by decide) rfl ?_
      obtain ⟨K188_6, eK188_6, hf⟩ := oj_some hf
      have J188_6 : ∀ (x5 : Int64), K188_6 x5 = some ra → GG X 5 0 0 (w8 cy ad c8_latest c8_asked c8_upper c8_lower c8_legs c8_units c8_rests c8_rates c8_lines c8_came c8_sizes c8_weights c8_growths c8_copied c8_legWay c8_legUnits c8_legStuff c8_unitWay c8_unitStuff c8_xs c8_ys c8_zs c8_kindOf c8_placeOf c8_rateOf c8_readOf c8_isGone c8_theList c8_amounts c8_low c8_high c8_barred c8_times c8_ranges) [(0, .ref (ad 80)), (1, .long x5)] 188 [] := by
        intro x5 hf
        replace hf := oa1 eK188_6 hf
        refine r_iconst hC dX8_digest_188 ic_0 ?_
        refine r_istore_n hC [(3, .int 0), (0, .ref (ad 80)), (1, .long x5)] dX8_digest_189 rfl (by decide) rfl ?_
        obtain ⟨K240_8, eK240_8, hf⟩ := oj_some hf
        have J240_8 : ∀ (x7 : Int64), K240_8 x7 = some ra → GG X 5 0 0 (w8 cy ad c8_latest c8_asked c8_upper c8_lower c8_legs c8_units c8_rests c8_rates c8_lines c8_came c8_sizes c8_weights c8_growths c8_copied c8_legWay c8_legUnits c8_legStuff c8_unitWay c8_unitStuff c8_xs c8_ys c8_zs c8_kindOf c8_placeOf c8_rateOf c8_readOf c8_isGone c8_theList c8_amounts c8_low c8_high c8_barred c8_times c8_ranges) [(0, .ref (ad 80)), (1, .long x7)] 240 [] := by
          intro x7 hf
          replace hf := oa1 eK240_8 hf
          refine r_iconst hC dX8_digest_240 ic_0 ?_
          refine r_istore_n hC [(3, .int 0), (0, .ref (ad 80)), (1, .long x7)] dX8_digest_241 rfl (by decide) rfl ?_
          have L242 : ∀ (n : Nat) (x9 : Int64) (x10 : Int32), fX8_digest_L242 N c8_sizes c8_weights c8_growths n x9 x10 = some ra → GG X 5 0 0 (w8 cy ad c8_latest c8_asked c8_upper c8_lower c8_legs c8_units c8_rests c8_rates c8_lines c8_came c8_sizes c8_weights c8_growths c8_copied c8_legWay c8_legUnits c8_legStuff c8_unitWay c8_unitStuff c8_xs c8_ys c8_zs c8_kindOf c8_placeOf c8_rateOf c8_readOf c8_isGone c8_theList c8_amounts c8_low c8_high c8_barred c8_times c8_ranges) [(0, .ref (ad 80)), (1, .long x9), (3, .int x10)] 242 [] := by
            intro n
            induction n with
            | zero => intro x9 x10 hf; cases (show none = some _ from hf)
            | succ n ih =>
              intro x9 x10 hf
              rw [fX8_digest_L242] at hf
              refine r_iload_n hC dX8_digest_242 rfl 2 rfl ?_
              refine r_iconst hC dX8_digest_243 ic_4 ?_
              refine r_icmp_ge (tgt := 319) hC dX8_digest_244 (by decide) (fun c11 => ?_) (fun c11 => ?_)
              · replace hf := o_pos hf c11
                refine r_lload_n hC dX8_digest_319 rfl 1 rfl ?_
                obtain rfl := so_1 hf
                exact hRet _ _ _ dX8_digest_320
              · replace hf := o_neg hf c11
                refine r_ldc2 hC hw1 dX8_digest_247 ?_
                refine r_ldc2 hC hw1 dX8_digest_250 ?_
                refine r_lload_n hC dX8_digest_253 rfl 1 rfl ?_
                refine r_lmul hC dX8_digest_254 ?_
                refine r_aload_n hC dX8_digest_255 rfl 0 rfl ?_
                refine r_get hC hin8 0 rfl rfl 6 (by decide) rfl hw2 rfl dX8_digest_256 ?_
                refine r_iload_n hC dX8_digest_259 rfl 2 rfl ?_
                obtain ⟨g12, hf⟩ := og_some hf
                refine r_iald hC 3 rfl g12 dX8_digest_260 ?_
                refine r_i2l hC dX8_digest_261 ?_
                refine r_ladd hC dX8_digest_262 ?_
                refine r_lmul hC dX8_digest_263 ?_
                refine r_aload_n hC dX8_digest_264 rfl 0 rfl ?_
                refine r_get hC hin8 0 rfl rfl 5 (by decide) rfl hw3 rfl dX8_digest_265 ?_
                refine r_iload_n hC dX8_digest_268 rfl 2 rfl ?_
                obtain ⟨g13, hf⟩ := og_some hf
                refine r_iald hC 2 rfl g13 dX8_digest_269 ?_
                refine r_i2l hC dX8_digest_270 ?_
                refine r_ladd hC dX8_digest_271 ?_
                refine r_topl (fun x14 ex14 => ?_)
                replace hf := olet_some hf ex14
                refine r_lstore_n hC [(1, .long x14), (0, .ref (ad 80)), (3, .int x10)] dX8_digest_272 rfl (by decide) rfl ?_
                refine r_iconst hC dX8_digest_273 ic_0 ?_
                refine r_istore hC [(4, .int 0), (1, .long x14), (0, .ref (ad 80)), (3, .int x10)] dX8_digest_274 (by decide) rfl ?_
                obtain ⟨K313_16, eK313_16, hf⟩ := oj_some hf
                have J313_16 : ∀ (x15 : Int64), K313_16 x15 = some ra → GG X 5 0 0 (w8 cy ad c8_latest c8_asked c8_upper c8_lower c8_legs c8_units c8_rests c8_rates c8_lines c8_came c8_sizes c8_weights c8_growths c8_copied c8_legWay c8_legUnits c8_legStuff c8_unitWay c8_unitStuff c8_xs c8_ys c8_zs c8_kindOf c8_placeOf c8_rateOf c8_readOf c8_isGone c8_theList c8_amounts c8_low c8_high c8_barred c8_times c8_ranges) [(0, .ref (ad 80)), (1, .long x15), (3, .int x10)] 313 [] := by
                  intro x15 hf
                  replace hf := oa1 eK313_16 hf
                  refine r_iinc hC [(3, .int (x10 + 1)), (0, .ref (ad 80)), (1, .long x15)] (x10 + 1) dX8_digest_313 2 rfl (ii_1 _) (by decide) rfl ?_
                  refine r_goto (tgt := 242) hC dX8_digest_316 (by decide) ?_
                  refine r_sub [(0, .ref (ad 80)), (1, .long x15), (3, .int (x10 + 1))] [1, 2, 0] rfl ?_
                  exact ih x15 (x10 + 1) hf
                have L276 : ∀ (n : Nat) (x17 : Int64) (x18 : Int32), fX8_digest_L276 c8_sizes c8_growths x10 K313_16 n x17 x18 = some ra → GG X 5 0 0 (w8 cy ad c8_latest c8_asked c8_upper c8_lower c8_legs c8_units c8_rests c8_rates c8_lines c8_came c8_sizes c8_weights c8_growths c8_copied c8_legWay c8_legUnits c8_legStuff c8_unitWay c8_unitStuff c8_xs c8_ys c8_zs c8_kindOf c8_placeOf c8_rateOf c8_readOf c8_isGone c8_theList c8_amounts c8_low c8_high c8_barred c8_times c8_ranges) [(0, .ref (ad 80)), (1, .long x17), (3, .int x10), (4, .int x18)] 276 [] := by
                  intro n
                  induction n with
                  | zero => intro x17 x18 hf; cases (show none = some _ from hf)
                  | succ n ih =>
                    intro x17 x18 hf
                    rw [fX8_digest_L276] at hf
                    refine r_iload hC dX8_digest_276 3 rfl ?_
                    refine r_aload_n hC dX8_digest_278 rfl 0 rfl ?_
                    refine r_get hC hin8 0 rfl rfl 5 (by decide) rfl hw3 rfl dX8_digest_279 ?_
                    refine r_iload_n hC dX8_digest_282 rfl 2 rfl ?_
                    obtain ⟨g19, hf⟩ := og_some hf
                    refine r_iald hC 2 rfl g19 dX8_digest_283 ?_
                    refine r_icmp_ge (tgt := 313) hC dX8_digest_284 (by decide) (fun c20 => ?_) (fun c20 => ?_)
                    · replace hf := o_pos hf c20
                      refine r_sub [(0, .ref (ad 80)), (1, .long x17), (3, .int x10)] [0, 1, 2] rfl ?_
                      exact J313_16 x17 hf
                    · replace hf := o_neg hf c20
                      refine r_ldc2 hC hw1 dX8_digest_287 ?_
                      refine r_lload_n hC dX8_digest_290 rfl 1 rfl ?_
                      refine r_lmul hC dX8_digest_291 ?_
                      refine r_aload_n hC dX8_digest_292 rfl 0 rfl ?_
                      refine r_get hC hin8 0 rfl rfl 7 (by decide) rfl hw4 rfl dX8_digest_293 ?_
                      refine r_bipush hC dX8_digest_296 bp_16 ?_
                      refine r_iload_n hC dX8_digest_298 rfl 2 rfl ?_
                      refine r_imul hC dX8_digest_299 ?_
                      refine r_iload hC dX8_digest_300 3 rfl ?_
                      refine r_iadd hC dX8_digest_302 ?_
                      obtain ⟨g21, hf⟩ := og_some hf
                      refine r_bald hC 4 rfl g21 dX8_digest_303 ?_
                      refine r_i2l hC dX8_digest_304 ?_
                      refine r_ladd hC dX8_digest_305 ?_
                      refine r_topl (fun x22 ex22 => ?_)
                      replace hf := olet_some hf ex22
                      refine r_lstore_n hC [(1, .long x22), (0, .ref (ad 80)), (3, .int x10), (4, .int x18)] dX8_digest_306 rfl (by decide) rfl ?_
                      refine r_iinc hC [(4, .int (x18 + 1)), (1, .long x22), (0, .ref (ad 80)), (3, .int x10)] (x18 + 1) dX8_digest_307 3 rfl (ii_1 _) (by decide) rfl ?_
                      refine r_goto (tgt := 276) hC dX8_digest_310 (by decide) ?_
                      refine r_sub [(0, .ref (ad 80)), (1, .long x22), (3, .int x10), (4, .int (x18 + 1))] [2, 1, 3, 0] rfl ?_
                      exact ih x22 (x18 + 1) hf
                refine r_sub [(0, .ref (ad 80)), (1, .long x14), (3, .int x10), (4, .int 0)] [2, 1, 3, 0] rfl ?_
                exact L276 N x14 0 hf
          refine r_sub [(0, .ref (ad 80)), (1, .long x7), (3, .int 0)] [1, 2, 0] rfl ?_
          exact L242 N x7 0 hf
        have L190 : ∀ (n : Nat) (x23 : Int64) (x24 : Int32), fX8_digest_L190 c8_amounts c8_low c8_high K240_8 n x23 x24 = some ra → GG X 5 0 0 (w8 cy ad c8_latest c8_asked c8_upper c8_lower c8_legs c8_units c8_rests c8_rates c8_lines c8_came c8_sizes c8_weights c8_growths c8_copied c8_legWay c8_legUnits c8_legStuff c8_unitWay c8_unitStuff c8_xs c8_ys c8_zs c8_kindOf c8_placeOf c8_rateOf c8_readOf c8_isGone c8_theList c8_amounts c8_low c8_high c8_barred c8_times c8_ranges) [(0, .ref (ad 80)), (1, .long x23), (3, .int x24)] 190 [] := by
          intro n
          induction n with
          | zero => intro x23 x24 hf; cases (show none = some _ from hf)
          | succ n ih =>
            intro x23 x24 hf
            rw [fX8_digest_L190] at hf
            refine r_iload_n hC dX8_digest_190 rfl 2 rfl ?_
            refine r_bipush hC dX8_digest_191 bp_8 ?_
            refine r_icmp_ge (tgt := 240) hC dX8_digest_193 (by decide) (fun c25 => ?_) (fun c25 => ?_)
            · replace hf := o_pos hf c25
              refine r_sub [(0, .ref (ad 80)), (1, .long x23)] [0, 1] rfl ?_
              exact J240_8 x23 hf
            · replace hf := o_neg hf c25
              refine r_ldc2 hC hw1 dX8_digest_196 ?_
              refine r_ldc2 hC hw1 dX8_digest_199 ?_
              refine r_ldc2 hC hw1 dX8_digest_202 ?_
              refine r_lload_n hC dX8_digest_205 rfl 1 rfl ?_
              refine r_lmul hC dX8_digest_206 ?_
              refine r_aload_n hC dX8_digest_207 rfl 0 rfl ?_
              refine r_get hC hin8 0 rfl rfl 27 (by decide) rfl hw5 rfl dX8_digest_208 ?_
              refine r_iload_n hC dX8_digest_211 rfl 2 rfl ?_
              obtain ⟨g26, hf⟩ := og_some hf
              refine r_iald hC 20 rfl g26 dX8_digest_212 ?_
              refine r_i2l hC dX8_digest_213 ?_
              refine r_ladd hC dX8_digest_214 ?_
              refine r_lmul hC dX8_digest_215 ?_
              refine r_aload_n hC dX8_digest_216 rfl 0 rfl ?_
              refine r_get hC hin8 0 rfl rfl 28 (by decide) rfl hw6 rfl dX8_digest_217 ?_
              refine r_iload_n hC dX8_digest_220 rfl 2 rfl ?_
              obtain ⟨g27, hf⟩ := og_some hf
              refine r_iald hC 21 rfl g27 dX8_digest_221 ?_
              refine r_i2l hC dX8_digest_222 ?_
              refine r_ladd hC dX8_digest_223 ?_
              refine r_lmul hC dX8_digest_224 ?_
              refine r_aload_n hC dX8_digest_225 rfl 0 rfl ?_
              refine r_get hC hin8 0 rfl rfl 29 (by decide) rfl hw7 rfl dX8_digest_226 ?_
              refine r_iload_n hC dX8_digest_229 rfl 2 rfl ?_
              obtain ⟨g28, hf⟩ := og_some hf
              refine r_iald hC 22 rfl g28 dX8_digest_230 ?_
              refine r_i2l hC dX8_digest_231 ?_
              refine r_ladd hC dX8_digest_232 ?_
              refine r_topl (fun x29 ex29 => ?_)
              replace hf := olet_some hf ex29
              refine r_lstore_n hC [(1, .long x29), (0, .ref (ad 80)), (3, .int x24)] dX8_digest_233 rfl (by decide) rfl ?_
              refine r_iinc hC [(3, .int (x24 + 1)), (1, .long x29), (0, .ref (ad 80))] (x24 + 1) dX8_digest_234 2 rfl (ii_1 _) (by decide) rfl ?_
              refine r_goto (tgt := 190) hC dX8_digest_237 (by decide) ?_
              refine r_sub [(0, .ref (ad 80)), (1, .long x29), (3, .int (x24 + 1))] [2, 1, 0] rfl ?_
              exact ih x29 (x24 + 1) hf
        refine r_sub [(0, .ref (ad 80)), (1, .long x5), (3, .int 0)] [1, 2, 0] rfl ?_
        exact L190 N x5 0 hf
      have L87 : ∀ (n : Nat) (x30 : Int64) (x31 : Int32), fX8_digest_L87 N c8_units c8_rests c8_kindOf c8_placeOf c8_rateOf c8_readOf c8_isGone K188_6 n x30 x31 = some ra → GG X 5 0 0 (w8 cy ad c8_latest c8_asked c8_upper c8_lower c8_legs c8_units c8_rests c8_rates c8_lines c8_came c8_sizes c8_weights c8_growths c8_copied c8_legWay c8_legUnits c8_legStuff c8_unitWay c8_unitStuff c8_xs c8_ys c8_zs c8_kindOf c8_placeOf c8_rateOf c8_readOf c8_isGone c8_theList c8_amounts c8_low c8_high c8_barred c8_times c8_ranges) [(0, .ref (ad 80)), (1, .long x30), (3, .int x31)] 87 [] := by
        intro n
        induction n with
        | zero => intro x30 x31 hf; cases (show none = some _ from hf)
        | succ n ih =>
          intro x30 x31 hf
          rw [fX8_digest_L87] at hf
          refine r_iload_n hC dX8_digest_87 rfl 2 rfl ?_
          refine r_aload_n hC dX8_digest_88 rfl 0 rfl ?_
          refine r_get hC hin8 0 rfl rfl 19 (by decide) rfl hw8 rfl dX8_digest_89 ?_
          refine r_icmp_ge (tgt := 188) hC dX8_digest_92 (by decide) (fun c32 => ?_) (fun c32 => ?_)
          · replace hf := o_pos hf c32
            refine r_sub [(0, .ref (ad 80)), (1, .long x30)] [0, 1] rfl ?_
            exact J188_6 x30 hf
          · replace hf := o_neg hf c32
            refine r_aload_n hC dX8_digest_95 rfl 0 rfl ?_
            refine r_get hC hin8 0 rfl rfl 24 (by decide) rfl hw9 rfl dX8_digest_96 ?_
            refine r_iload_n hC dX8_digest_99 rfl 2 rfl ?_
            obtain ⟨g33, hf⟩ := og_some hf
            refine r_zald hC 18 rfl g33 dX8_digest_100 ?_
            obtain ⟨t34, h52, hf⟩ := ob_some hf
            have J115_51 : GG X 5 0 0 (w8 cy ad c8_latest c8_asked c8_upper c8_lower c8_legs c8_units c8_rests c8_rates c8_lines c8_came c8_sizes c8_weights c8_growths c8_copied c8_legWay c8_legUnits c8_legStuff c8_unitWay c8_unitStuff c8_xs c8_ys c8_zs c8_kindOf c8_placeOf c8_rateOf c8_readOf c8_isGone c8_theList c8_amounts c8_low c8_high c8_barred c8_times c8_ranges) [(0, .ref (ad 80)), (3, .int x31)] 115 [.long t34] := by
              refine r_lstore_n hC [(1, .long t34), (0, .ref (ad 80)), (3, .int x31)] dX8_digest_115 rfl (by decide) rfl ?_
              refine r_iconst hC dX8_digest_116 ic_0 ?_
              refine r_istore hC [(4, .int 0), (1, .long t34), (0, .ref (ad 80)), (3, .int x31)] dX8_digest_117 (by decide) rfl ?_
              obtain ⟨K155_36, eK155_36, hf⟩ := oj_some hf
              have J155_36 : ∀ (x35 : Int64), K155_36 x35 = some ra → GG X 5 0 0 (w8 cy ad c8_latest c8_asked c8_upper c8_lower c8_legs c8_units c8_rests c8_rates c8_lines c8_came c8_sizes c8_weights c8_growths c8_copied c8_legWay c8_legUnits c8_legStuff c8_unitWay c8_unitStuff c8_xs c8_ys c8_zs c8_kindOf c8_placeOf c8_rateOf c8_readOf c8_isGone c8_theList c8_amounts c8_low c8_high c8_barred c8_times c8_ranges) [(0, .ref (ad 80)), (1, .long x35), (3, .int x31)] 155 [] := by
                intro x35 hf
                replace hf := oa1 eK155_36 hf
                refine r_aload_n hC dX8_digest_155 rfl 0 rfl ?_
                refine r_get hC hin8 0 rfl rfl 24 (by decide) rfl hw9 rfl dX8_digest_156 ?_
                refine r_iload_n hC dX8_digest_159 rfl 2 rfl ?_
                obtain ⟨g37, hf⟩ := og_some hf
                refine r_zald hC 18 rfl g37 dX8_digest_160 ?_
                obtain ⟨t38, h40, hf⟩ := ob_some hf
                have J181_39 : GG X 5 0 0 (w8 cy ad c8_latest c8_asked c8_upper c8_lower c8_legs c8_units c8_rests c8_rates c8_lines c8_came c8_sizes c8_weights c8_growths c8_copied c8_legWay c8_legUnits c8_legStuff c8_unitWay c8_unitStuff c8_xs c8_ys c8_zs c8_kindOf c8_placeOf c8_rateOf c8_readOf c8_isGone c8_theList c8_amounts c8_low c8_high c8_barred c8_times c8_ranges) [(0, .ref (ad 80)), (3, .int x31)] 181 [.long t38] := by
                  refine r_lstore_n hC [(1, .long t38), (0, .ref (ad 80)), (3, .int x31)] dX8_digest_181 rfl (by decide) rfl ?_
                  refine r_iinc hC [(3, .int (x31 + 1)), (1, .long t38), (0, .ref (ad 80))] (x31 + 1) dX8_digest_182 2 rfl (ii_1 _) (by decide) rfl ?_
                  refine r_goto (tgt := 87) hC dX8_digest_185 (by decide) ?_
                  refine r_sub [(0, .ref (ad 80)), (1, .long t38), (3, .int (x31 + 1))] [2, 1, 0] rfl ?_
                  exact ih t38 (x31 + 1) hf
                replace hf := h40
                refine r_if_eq (tgt := 168) hC dX8_digest_161 (by decide) (fun c41 => ?_) (fun c41 => ?_)
                · replace hf := o_pos hf c41
                  refine r_ldc2 hC hw1 dX8_digest_168 ?_
                  refine r_lload_n hC dX8_digest_171 rfl 1 rfl ?_
                  refine r_lmul hC dX8_digest_172 ?_
                  refine r_aload_n hC dX8_digest_173 rfl 0 rfl ?_
                  refine r_get hC hin8 0 rfl rfl 23 (by decide) rfl hw10 rfl dX8_digest_174 ?_
                  refine r_iload_n hC dX8_digest_177 rfl 2 rfl ?_
                  obtain ⟨g42, hf⟩ := og_some hf
                  refine r_iald hC 17 rfl g42 dX8_digest_178 ?_
                  refine r_i2l hC dX8_digest_179 ?_
                  refine r_ladd hC dX8_digest_180 ?_
                  obtain rfl := so_1 hf
                  refine r_sub [(0, .ref (ad 80)), (3, .int x31)] [0, 2] rfl ?_
                  exact J181_39
                · replace hf := o_neg hf c41
                  refine r_lload_n hC dX8_digest_164 rfl 1 rfl ?_
                  refine r_goto (tgt := 181) hC dX8_digest_165 (by decide) ?_
                  obtain rfl := so_1 hf
                  refine r_sub [(0, .ref (ad 80)), (3, .int x31)] [0, 2] rfl ?_
                  exact J181_39
              have L119 : ∀ (n : Nat) (x43 : Int64) (x44 : Int32), fX8_digest_L119 c8_units c8_kindOf c8_placeOf c8_rateOf c8_isGone x31 K155_36 n x43 x44 = some ra → GG X 5 0 0 (w8 cy ad c8_latest c8_asked c8_upper c8_lower c8_legs c8_units c8_rests c8_rates c8_lines c8_came c8_sizes c8_weights c8_growths c8_copied c8_legWay c8_legUnits c8_legStuff c8_unitWay c8_unitStuff c8_xs c8_ys c8_zs c8_kindOf c8_placeOf c8_rateOf c8_readOf c8_isGone c8_theList c8_amounts c8_low c8_high c8_barred c8_times c8_ranges) [(0, .ref (ad 80)), (1, .long x43), (3, .int x31), (4, .int x44)] 119 [] := by
                intro n
                induction n with
                | zero => intro x43 x44 hf; cases (show none = some _ from hf)
                | succ n ih =>
                  intro x43 x44 hf
                  rw [fX8_digest_L119] at hf
                  refine r_iload hC dX8_digest_119 3 rfl ?_
                  refine r_iconst hC dX8_digest_121 ic_4 ?_
                  refine r_icmp_ge (tgt := 155) hC dX8_digest_122 (by decide) (fun c45 => ?_) (fun c45 => ?_)
                  · replace hf := o_pos hf c45
                    refine r_sub [(0, .ref (ad 80)), (1, .long x43), (3, .int x31)] [0, 1, 2] rfl ?_
                    exact J155_36 x43 hf
                  · replace hf := o_neg hf c45
                    refine r_aload_n hC dX8_digest_125 rfl 0 rfl ?_
                    refine r_get hC hin8 0 rfl rfl 24 (by decide) rfl hw9 rfl dX8_digest_126 ?_
                    refine r_iload_n hC dX8_digest_129 rfl 2 rfl ?_
                    obtain ⟨g46, hf⟩ := og_some hf
                    refine r_zald hC 18 rfl g46 dX8_digest_130 ?_
                    refine r_if_ne (tgt := 155) hC dX8_digest_131 (by decide) (fun c47 => ?_) (fun c47 => ?_)
                    · replace hf := o_neg hf c47
                      refine r_sub [(0, .ref (ad 80)), (1, .long x43), (3, .int x31)] [0, 1, 2] rfl ?_
                      exact J155_36 x43 hf
                    · replace hf := o_pos hf c47
                      refine r_ldc2 hC hw1 dX8_digest_134 ?_
                      refine r_lload_n hC dX8_digest_137 rfl 1 rfl ?_
                      refine r_lmul hC dX8_digest_138 ?_
                      refine r_aload_n hC dX8_digest_139 rfl 0 rfl ?_
                      refine r_iload_n hC dX8_digest_140 rfl 2 rfl ?_
                      refine r_iload hC dX8_digest_141 3 rfl ?_
                      obtain ⟨r48, h49, hf⟩ := ob_some hf
                      refine r_vi (st := [.long (31 * x43)]) hC (kX8_toldOf l D cy ad c8_latest c8_asked c8_upper c8_lower c8_legs c8_units c8_rests c8_rates c8_lines c8_came c8_sizes c8_weights c8_growths c8_copied c8_legWay c8_legUnits c8_legStuff c8_unitWay c8_unitStuff c8_xs c8_ys c8_zs c8_kindOf c8_placeOf c8_rateOf c8_readOf c8_isGone c8_theList c8_amounts c8_low c8_high c8_barred c8_times c8_ranges x31 x44 h49) gX8_digest_X8_toldOf rfl ⟨rfl, rfl⟩ ydX8_toldOf ⟨Nat.le_of_ble_eq_true rfl, Nat.le_of_ble_eq_true rfl⟩ ⟨Nat.le_refl 0, Nat.le_refl 0⟩ 0 rfl rfl [] [] rfl _ rfl (Nat.le_of_ble_eq_true rfl) dX8_digest_143 (w8 cy ad c8_latest c8_asked c8_upper c8_lower c8_legs c8_units c8_rests c8_rates c8_lines c8_came c8_sizes c8_weights c8_growths c8_copied c8_legWay c8_legUnits c8_legStuff c8_unitWay c8_unitStuff c8_xs c8_ys c8_zs c8_kindOf c8_placeOf c8_rateOf c8_readOf c8_isGone c8_theList c8_amounts c8_low c8_high c8_barred c8_times c8_ranges) rfl ?_
                      refine r_i2l hC dX8_digest_146 ?_
                      refine r_ladd hC dX8_digest_147 ?_
                      refine r_topl (fun x50 ex50 => ?_)
                      replace hf := olet_some hf ex50
                      refine r_lstore_n hC [(1, .long x50), (0, .ref (ad 80)), (3, .int x31), (4, .int x44)] dX8_digest_148 rfl (by decide) rfl ?_
                      refine r_iinc hC [(4, .int (x44 + 1)), (1, .long x50), (0, .ref (ad 80)), (3, .int x31)] (x44 + 1) dX8_digest_149 3 rfl (ii_1 _) (by decide) rfl ?_
                      refine r_goto (tgt := 119) hC dX8_digest_152 (by decide) ?_
                      refine r_sub [(0, .ref (ad 80)), (1, .long x50), (3, .int x31), (4, .int (x44 + 1))] [2, 1, 3, 0] rfl ?_
                      exact ih x50 (x44 + 1) hf
              refine r_sub [(0, .ref (ad 80)), (1, .long t34), (3, .int x31), (4, .int 0)] [2, 1, 3, 0] rfl ?_
              exact L119 N t34 0 hf
            replace hf := h52
            refine r_if_eq (tgt := 114) hC dX8_digest_101 (by decide) (fun c53 => ?_) (fun c53 => ?_)
            · replace hf := o_pos hf c53
              refine r_lload_n hC dX8_digest_114 rfl 1 rfl ?_
              obtain rfl := so_1 hf
              refine r_sub [(0, .ref (ad 80)), (3, .int x31)] [0, 2] rfl ?_
              exact J115_51
            · replace hf := o_neg hf c53
              refine r_ldc2 hC hw1 dX8_digest_104 ?_
              refine r_lload_n hC dX8_digest_107 rfl 1 rfl ?_
              refine r_lmul hC dX8_digest_108 ?_
              refine r_lconst hC dX8_digest_109 lc_1 ?_
              refine r_lsub hC dX8_digest_110 ?_
              refine r_goto (tgt := 115) hC dX8_digest_111 (by decide) ?_
              obtain rfl := so_1 hf
              refine r_sub [(0, .ref (ad 80)), (3, .int x31)] [0, 2] rfl ?_
              exact J115_51
      refine r_sub [(0, .ref (ad 80)), (1, .long x3), (3, .int 0)] [1, 2, 0] rfl ?_
      exact L87 N x3 0 hf
    have L33 : ∀ (n : Nat) (x54 : Int64) (x55 : Int32), fX8_digest_L33 c8_legs c8_legWay c8_legUnits c8_legStuff K85_4 n x54 x55 = some ra → GG X 5 0 0 (w8 cy ad c8_latest c8_asked c8_upper c8_lower c8_legs c8_units c8_rests c8_rates c8_lines c8_came c8_sizes c8_weights c8_growths c8_copied c8_legWay c8_legUnits c8_legStuff c8_unitWay c8_unitStuff c8_xs c8_ys c8_zs c8_kindOf c8_placeOf c8_rateOf c8_readOf c8_isGone c8_theList c8_amounts c8_low c8_high c8_barred c8_times c8_ranges) [(0, .ref (ad 80)), (1, .long x54), (3, .int x55)] 33 [] := by
      intro n
      induction n with
      | zero => intro x54 x55 hf; cases (show none = some _ from hf)
      | succ n ih =>
        intro x54 x55 hf
        rw [fX8_digest_L33] at hf
        refine r_iload_n hC dX8_digest_33 rfl 2 rfl ?_
        refine r_aload_n hC dX8_digest_34 rfl 0 rfl ?_
        refine r_get hC hin8 0 rfl rfl 9 (by decide) rfl hw11 rfl dX8_digest_35 ?_
        refine r_icmp_ge (tgt := 85) hC dX8_digest_38 (by decide) (fun c56 => ?_) (fun c56 => ?_)
        · replace hf := o_pos hf c56
          refine r_sub [(0, .ref (ad 80)), (1, .long x54)] [0, 1] rfl ?_
          exact J85_4 x54 hf
        · replace hf := o_neg hf c56
          refine r_ldc2 hC hw1 dX8_digest_41 ?_
          refine r_ldc2 hC hw1 dX8_digest_44 ?_
          refine r_ldc2 hC hw1 dX8_digest_47 ?_
          refine r_lload_n hC dX8_digest_50 rfl 1 rfl ?_
          refine r_lmul hC dX8_digest_51 ?_
          refine r_aload_n hC dX8_digest_52 rfl 0 rfl ?_
          refine r_get hC hin8 0 rfl rfl 10 (by decide) rfl hw12 rfl dX8_digest_53 ?_
          refine r_iload_n hC dX8_digest_56 rfl 2 rfl ?_
          obtain ⟨g57, hf⟩ := og_some hf
          refine r_iald hC 6 rfl g57 dX8_digest_57 ?_
          refine r_i2l hC dX8_digest_58 ?_
          refine r_ladd hC dX8_digest_59 ?_
          refine r_lmul hC dX8_digest_60 ?_
          refine r_aload_n hC dX8_digest_61 rfl 0 rfl ?_
          refine r_get hC hin8 0 rfl rfl 11 (by decide) rfl hw13 rfl dX8_digest_62 ?_
          refine r_iload_n hC dX8_digest_65 rfl 2 rfl ?_
          obtain ⟨g58, hf⟩ := og_some hf
          refine r_iald hC 7 rfl g58 dX8_digest_66 ?_
          refine r_i2l hC dX8_digest_67 ?_
          refine r_ladd hC dX8_digest_68 ?_
          refine r_lmul hC dX8_digest_69 ?_
          refine r_aload_n hC dX8_digest_70 rfl 0 rfl ?_
          refine r_get hC hin8 0 rfl rfl 12 (by decide) rfl hw14 rfl dX8_digest_71 ?_
          refine r_iload_n hC dX8_digest_74 rfl 2 rfl ?_
          obtain ⟨g59, hf⟩ := og_some hf
          refine r_iald hC 8 rfl g59 dX8_digest_75 ?_
          refine r_i2l hC dX8_digest_76 ?_
          refine r_ladd hC dX8_digest_77 ?_
          refine r_topl (fun x60 ex60 => ?_)
          replace hf := olet_some hf ex60
          refine r_lstore_n hC [(1, .long x60), (0, .ref (ad 80)), (3, .int x55)] dX8_digest_78 rfl (by decide) rfl ?_
          refine r_iinc hC [(3, .int (x55 + 1)), (1, .long x60), (0, .ref (ad 80))] (x55 + 1) dX8_digest_79 2 rfl (ii_1 _) (by decide) rfl ?_
          refine r_goto (tgt := 33) hC dX8_digest_82 (by decide) ?_
          refine r_sub [(0, .ref (ad 80)), (1, .long x60), (3, .int (x55 + 1))] [2, 1, 0] rfl ?_
          exact ih x60 (x55 + 1) hf
    refine r_sub [(0, .ref (ad 80)), (1, .long x1), (3, .int 0)] [1, 2, 0] rfl ?_
    exact L33 N x1 0 hf
  have L6 : ∀ (n : Nat) (x61 : Int64) (x62 : Int32), fX8_digest_L6 N c8_legs c8_units c8_rests c8_rates c8_lines c8_isGone K31_2 n x61 x62 = some ra → GG X 5 0 0 (w8 cy ad c8_latest c8_asked c8_upper c8_lower c8_legs c8_units c8_rests c8_rates c8_lines c8_came c8_sizes c8_weights c8_growths c8_copied c8_legWay c8_legUnits c8_legStuff c8_unitWay c8_unitStuff c8_xs c8_ys c8_zs c8_kindOf c8_placeOf c8_rateOf c8_readOf c8_isGone c8_theList c8_amounts c8_low c8_high c8_barred c8_times c8_ranges) [(0, .ref (ad 80)), (1, .long x61), (3, .int x62)] 6 [] := by
    intro n
    induction n with
    | zero => intro x61 x62 hf; cases (show none = some _ from hf)
    | succ n ih =>
      intro x61 x62 hf
      rw [fX8_digest_L6] at hf
      refine r_iload_n hC dX8_digest_6 rfl 2 rfl ?_
      refine r_bipush hC dX8_digest_7 bp_6 ?_
      refine r_icmp_ge (tgt := 31) hC dX8_digest_9 (by decide) (fun c63 => ?_) (fun c63 => ?_)
      · replace hf := o_pos hf c63
        refine r_sub [(0, .ref (ad 80)), (1, .long x61)] [0, 1] rfl ?_
        exact J31_2 x61 hf
      · replace hf := o_neg hf c63
        refine r_ldc2 hC hw1 dX8_digest_12 ?_
        refine r_lload_n hC dX8_digest_15 rfl 1 rfl ?_
        refine r_lmul hC dX8_digest_16 ?_
        refine r_aload_n hC dX8_digest_17 rfl 0 rfl ?_
        refine r_iload_n hC dX8_digest_18 rfl 2 rfl ?_
        obtain ⟨r64, h65, hf⟩ := ob_some hf
        refine r_vi (st := [.long (31 * x61)]) hC (kX8_count l D cy ad c8_latest c8_asked c8_upper c8_lower c8_legs c8_units c8_rests c8_rates c8_lines c8_came c8_sizes c8_weights c8_growths c8_copied c8_legWay c8_legUnits c8_legStuff c8_unitWay c8_unitStuff c8_xs c8_ys c8_zs c8_kindOf c8_placeOf c8_rateOf c8_readOf c8_isGone c8_theList c8_amounts c8_low c8_high c8_barred c8_times c8_ranges x62 N h65) gX8_digest_X8_count rfl ⟨rfl, rfl⟩ ydX8_count ⟨Nat.le_of_ble_eq_true rfl, Nat.le_of_ble_eq_true rfl⟩ ⟨Nat.le_refl 0, Nat.le_refl 0⟩ 0 rfl rfl [] [] rfl _ rfl (Nat.le_of_ble_eq_true rfl) dX8_digest_19 (w8 cy ad c8_latest c8_asked c8_upper c8_lower c8_legs c8_units c8_rests c8_rates c8_lines c8_came c8_sizes c8_weights c8_growths c8_copied c8_legWay c8_legUnits c8_legStuff c8_unitWay c8_unitStuff c8_xs c8_ys c8_zs c8_kindOf c8_placeOf c8_rateOf c8_readOf c8_isGone c8_theList c8_amounts c8_low c8_high c8_barred c8_times c8_ranges) rfl ?_
        refine r_i2l hC dX8_digest_22 ?_
        refine r_ladd hC dX8_digest_23 ?_
        refine r_topl (fun x66 ex66 => ?_)
        replace hf := olet_some hf ex66
        refine r_lstore_n hC [(1, .long x66), (0, .ref (ad 80)), (3, .int x62)] dX8_digest_24 rfl (by decide) rfl ?_
        refine r_iinc hC [(3, .int (x62 + 1)), (1, .long x66), (0, .ref (ad 80))] (x62 + 1) dX8_digest_25 2 rfl (ii_1 _) (by decide) rfl ?_
        refine r_goto (tgt := 6) hC dX8_digest_28 (by decide) ?_
        refine r_sub [(0, .ref (ad 80)), (1, .long x66), (3, .int (x62 + 1))] [2, 1, 0] rfl ?_
        exact ih x66 (x62 + 1) hf
  refine r_sub [(0, .ref (ad 80)), (1, .long 17), (3, .int 0)] [2, 1, 0] rfl ?_
  exact L6 N 17 0 hf
