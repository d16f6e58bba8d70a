noncomputable def fX0_put (c0_amounts : Nat → Int32) (c0_lows : Nat → Int32) (c0_highs : Nat → Int32) (p1 : Int32) (p2 : Int32) (p3 : Int32) (p4 : Int32) : Option ((Nat → Int32) × (Nat → Int32) × (Nat → Int32)) := og (vp_in p1 8) (og (vp_in p1 8) (og (vp_in p1 8) (some ((upd c0_amounts (Int32.toNatClampNeg p1) p2), (upd c0_lows (Int32.toNatClampNeg p1) p3), (upd c0_highs (Int32.toNatClampNeg p1) p4)))))
theorem ydX0_put : yX0_put.cls = RX0 ∧ yX0_put.cls ≠ "java/lang/invoke/MethodHandle" ∧ yX0_put.cls ≠ "java/lang/invoke/VarHandle" ∧ (parseMethodDescriptor yX0_put.desc).map (fun d => d.parameters.length) = some 4 := by decide +kernel
set_option maxHeartbeats 8000000 in
set_option maxRecDepth 100000 in
theorem kX0_put (l : Launch) (D : va_G) (cy : Nat → ClassId) (ad : Nat → Nat) (c0_amounts : Nat → Int32) (c0_lows : Nat → Int32) (c0_highs : Nat → Int32) (c0_barred : Nat → Int32) (p1 : Int32) (p2 : Int32) (p3 : Int32) (p4 : Int32) {z0_amounts : Nat → Int32} {z0_lows : Nat → Int32} {z0_highs : Nat → Int32} (hf : fX0_put c0_amounts c0_lows c0_highs p1 p2 p3 p4 = some (z0_amounts, z0_lows, z0_highs)) : CV l D cy yX0_put wsX0_put ({ frames := 0, cells := 0, slots := 0, locals := 0 } : Room) [.ref (ad 900), .int p1, .int p2, .int p3, .int p4] (w0 cy ad c0_amounts c0_lows c0_highs c0_barred) (w0 cy ad z0_amounts z0_lows z0_highs c0_barred) := by
  unfold fX0_put at hf
  refine c_of_v (own := RX0) (by decide) rfl rfl (Nat.le_of_ble_eq_true rfl) (fun X hC hRet => ?_)
  refine r_sub [(0, .ref (ad 900)), (1, .int p1), (2, .int p2), (3, .int p3), (4, .int p4)] [0, 1, 2, 3, 4] rfl ?_
  have hin0 : ∀ w ∈ wsX00, w ∈ wsX0_put := fun w h => List.mem_cons_of_mem _ (List.mem_append_right _ h)
  have hw0 : Cond.fieldLink RX0 9 "HotPipes$Cases" "amounts" "[I" ∈ wsX0_put := List.mem_of_getElem? (i := 1) rfl
  have hw1 : Cond.fieldLink RX0 15 "HotPipes$Cases" "lows" "[I" ∈ wsX0_put := List.mem_of_getElem? (i := 2) rfl
  have hw2 : Cond.fieldLink RX0 18 "HotPipes$Cases" "highs" "[I" ∈ wsX0_put := List.mem_of_getElem? (i := 3) rfl
  refine r_aload_n hC dX0_put_0 rfl 0 rfl ?_
  refine r_get hC hin0 0 rfl rfl 0 (by decide) rfl hw0 rfl dX0_put_1 ?_
  refine r_iload_n hC dX0_put_4 rfl 1 rfl ?_
  refine r_iload_n hC dX0_put_5 rfl 2 rfl ?_
  obtain ⟨g1, hf⟩ := og_some hf
  refine r_iast hC 1 rfl g1 dX0_put_6 (w0 cy ad (upd c0_amounts (Int32.toNatClampNeg p1) p2) c0_lows c0_highs c0_barred) rfl ?_
  refine r_aload_n hC dX0_put_7 rfl 0 rfl ?_
  refine r_get hC hin0 0 rfl rfl 1 (by decide) rfl hw1 rfl dX0_put_8 ?_
  refine r_iload_n hC dX0_put_11 rfl 1 rfl ?_
  refine r_iload_n hC dX0_put_12 rfl 3 rfl ?_
  obtain ⟨g2, hf⟩ := og_some hf
  refine r_iast hC 2 rfl g2 dX0_put_13 (w0 cy ad (upd c0_amounts (Int32.toNatClampNeg p1) p2) (upd c0_lows (Int32.toNatClampNeg p1) p3) c0_highs c0_barred) rfl ?_
  refine r_aload_n hC dX0_put_14 rfl 0 rfl ?_
  refine r_get hC hin0 0 rfl rfl 2 (by decide) rfl hw2 rfl dX0_put_15 ?_
  refine r_iload_n hC dX0_put_18 rfl 1 rfl ?_
  refine r_iload hC dX0_put_19 4 rfl ?_
  obtain ⟨g3, hf⟩ := og_some hf
  refine r_iast hC 3 rfl g3 dX0_put_21 (w0 cy ad (upd c0_amounts (Int32.toNatClampNeg p1) p2) (upd c0_lows (Int32.toNatClampNeg p1) p3) (upd c0_highs (Int32.toNatClampNeg p1) p4) c0_barred) rfl ?_
  obtain ⟨rfl, rfl, rfl⟩ := so_3 hf
  exact hRet _ _ _ dX0_put_22
noncomputable def fX0_setBarred (c0_barred : Nat → Int32) (p1 : Int32) (p2 : Int32) (p3 : Int32) : Option (Int32 × (Nat → Int32)) := og (vp_in p1 8) (ob ((if ((c0_barred (Int32.toNatClampNeg p1)) &&& (1 <<< (p2 &&& 31))) = 0 then some 0 else some 1)) (fun (t2 : Int32) => (if t2 = p3 then og (t2 = 0 ∨ t2 = 1) (some (t2, c0_barred)) else og (vp_in p1 8) (og (vp_in p1 8) (og (vp_in p2 8) (og (vp_in p2 8) (og (t2 = 0 ∨ t2 = 1) (some (t2, (upd (upd c0_barred (Int32.toNatClampNeg p1) ((c0_barred (Int32.toNatClampNeg p1)) ^^^ (1 <<< (p2 &&& 31)))) (Int32.toNatClampNeg p2) (((upd c0_barred (Int32.toNatClampNeg p1) ((c0_barred (Int32.toNatClampNeg p1)) ^^^ (1 <<< (p2 &&& 31)))) (Int32.toNatClampNeg p2)) ^^^ (1 <<< (p1 &&& 31)))))))))))))
theorem ydX0_setBarred : yX0_setBarred.cls = RX0 ∧ yX0_setBarred.cls ≠ "java/lang/invoke/MethodHandle" ∧ yX0_setBarred.cls ≠ "java/lang/invoke/VarHandle" ∧ (parseMethodDescriptor yX0_setBarred.desc).map (fun d => d.parameters.length) = some 3 := by decide +kernel
set_option maxHeartbeats 8000000 in
set_option maxRecDepth 100000 in
theorem kX0_setBarred (l : Launch) (D : va_G) (cy : Nat → ClassId) (ad : Nat → Nat) (c0_amounts : Nat → Int32) (c0_lows : Nat → Int32) (c0_highs : Nat → Int32) (c0_barred : Nat → Int32) (p1 : Int32) (p2 : Int32) (p3 : Int32) {ra : Int32} {z0_barred : Nat → Int32} (hf : fX0_setBarred c0_barred p1 p2 p3 = some (ra, z0_barred)) : CI l D cy yX0_setBarred wsX0_setBarred ({ frames := 0, cells := 0, slots := 0, locals := 0 } : Room) [.ref (ad 900), .int p1, .int p2, .int p3] (w0 cy ad c0_amounts c0_lows c0_highs c0_barred) ra (w0 cy ad c0_amounts c0_lows c0_highs z0_barred) := by
  unfold fX0_setBarred at hf
  refine c_of_i (ty := .boolean) (own := RX0) (by decide) rfl rfl (Nat.le_of_ble_eq_true rfl) (fun X hC hRet => ?_)
  refine r_sub [(0, .ref (ad 900)), (1, .int p1), (2, .int p2), (3, .int p3)] [0, 1, 2, 3] rfl ?_
  have hin0 : ∀ w ∈ wsX00, w ∈ wsX0_setBarred := fun w h => List.mem_cons_of_mem _ (List.mem_append_right _ h)
  have hw0 : Cond.fieldLink RX0 21 "HotPipes$Cases" "barred" "[I" ∈ wsX0_setBarred := List.mem_of_getElem? (i := 1) rfl
  refine r_aload_n hC dX0_setBarred_0 rfl 0 rfl ?_
  refine r_get hC hin0 0 rfl rfl 3 (by decide) rfl hw0 rfl dX0_setBarred_1 ?_
  refine r_iload_n hC dX0_setBarred_4 rfl 1 rfl ?_
  obtain ⟨g1, hf⟩ := og_some hf
  refine r_iald hC 4 rfl g1 dX0_setBarred_5 ?_
  refine r_iconst hC dX0_setBarred_6 ic_1 ?_
  refine r_iload_n hC dX0_setBarred_7 rfl 2 rfl ?_
  refine r_ishl hC dX0_setBarred_8 ?_
  refine r_iand hC dX0_setBarred_9 ?_
  obtain ⟨t2, h11, hf⟩ := ob_some hf
  have J18_10 : GG X 5 0 0 (w0 cy ad c0_amounts c0_lows c0_highs c0_barred) [(0, .ref (ad 900)), (1, .int p1), (2, .int p2), (3, .int p3)] 18 [.int t2] := by
    refine r_istore hC [(4, .int t2), (0, .ref (ad 900)), (1, .int p1), (2, .int p2), (3, .int p3)] dX0_setBarred_18 (by decide) rfl ?_
    refine r_iload hC dX0_setBarred_20 0 rfl ?_
    refine r_iload_n hC dX0_setBarred_22 rfl 4 rfl ?_
    refine r_icmp_eq (tgt := 50) hC dX0_setBarred_23 (by decide) (fun c3 => ?_) (fun c3 => ?_)
    · replace hf := o_pos hf c3
      refine r_iload hC dX0_setBarred_50 0 rfl ?_
      obtain ⟨g4, hf⟩ := og_some hf
      obtain ⟨rfl, rfl⟩ := so_2 hf
      exact hRet _ _ _ dX0_setBarred_52 (nb_of g4)
    · replace hf := o_neg hf c3
      refine r_aload_n hC dX0_setBarred_26 rfl 1 rfl ?_
      refine r_get hC hin0 0 rfl rfl 3 (by decide) rfl hw0 rfl dX0_setBarred_27 ?_
      refine r_iload_n hC dX0_setBarred_30 rfl 2 rfl ?_
      refine r_dup2 hC dX0_setBarred_31 rfl rfl ?_
      obtain ⟨g5, hf⟩ := og_some hf
      refine r_iald hC 4 rfl g5 dX0_setBarred_32 ?_
      refine r_iconst hC dX0_setBarred_33 ic_1 ?_
      refine r_iload_n hC dX0_setBarred_34 rfl 3 rfl ?_
      refine r_ishl hC dX0_setBarred_35 ?_
      refine r_ixor hC dX0_setBarred_36 ?_
      obtain ⟨g6, hf⟩ := og_some hf
      refine r_iast hC 4 rfl g6 dX0_setBarred_37 (w0 cy ad c0_amounts c0_lows c0_highs (upd c0_barred (Int32.toNatClampNeg p1) ((c0_barred (Int32.toNatClampNeg p1)) ^^^ (1 <<< (p2 &&& 31))))) rfl ?_
      refine r_aload_n hC dX0_setBarred_38 rfl 1 rfl ?_
      refine r_get hC hin0 0 rfl rfl 3 (by decide) rfl hw0 rfl dX0_setBarred_39 ?_
      refine r_iload_n hC dX0_setBarred_42 rfl 3 rfl ?_
      refine r_dup2 hC dX0_setBarred_43 rfl rfl ?_
      obtain ⟨g7, hf⟩ := og_some hf
      refine r_iald hC 4 rfl g7 dX0_setBarred_44 ?_
      refine r_iconst hC dX0_setBarred_45 ic_1 ?_
      refine r_iload_n hC dX0_setBarred_46 rfl 2 rfl ?_
      refine r_ishl hC dX0_setBarred_47 ?_
      refine r_ixor hC dX0_setBarred_48 ?_
      obtain ⟨g8, hf⟩ := og_some hf
      refine r_iast hC 4 rfl g8 dX0_setBarred_49 (w0 cy ad c0_amounts c0_lows c0_highs (upd (upd c0_barred (Int32.toNatClampNeg p1) ((c0_barred (Int32.toNatClampNeg p1)) ^^^ (1 <<< (p2 &&& 31)))) (Int32.toNatClampNeg p2) (((upd c0_barred (Int32.toNatClampNeg p1) ((c0_barred (Int32.toNatClampNeg p1)) ^^^ (1 <<< (p2 &&& 31)))) (Int32.toNatClampNeg p2)) ^^^ (1 <<< (p1 &&& 31))))) rfl ?_
      refine r_iload hC dX0_setBarred_50 0 rfl ?_
      obtain ⟨g9, hf⟩ := og_some hf
      obtain ⟨rfl, rfl⟩ := so_2 hf
      exact hRet _ _ _ dX0_setBarred_52 (nb_of g9)
  replace hf := h11
  refine r_if_eq (tgt := 17) hC dX0_setBarred_10 (by decide) (fun c12 => ?_) (fun c12 => ?_)
  · replace hf := o_pos hf c12
    refine r_iconst hC dX0_setBarred_17 ic_0 ?_
    obtain rfl := so_1 hf
    exact J18_10
  · replace hf := o_neg hf c12
    refine r_iconst hC dX0_setBarred_13 ic_1 ?_
    refine r_goto (tgt := 18) hC dX0_setBarred_14 (by decide) ?_
    obtain rfl := so_1 hf
    exact J18_10
noncomputable def fX0_goesTogether_L2 (c0_barred : Nat → Int32) (p1 : Int32) : Nat → Int32 → Option (Int32)
  | 0, _ => none
  | n + 1, x1 => (if 8 ≤ x1 then some 1 else oj (fX0_goesTogether_L2 c0_barred p1 n (x1 + 1)) (fun (K29_3 : Option (Int32)) => (if (p1 &&& (1 <<< (x1 &&& 31))) = 0 then K29_3 else og (vp_in x1 8) ((if (p1 &&& (c0_barred (Int32.toNatClampNeg x1))) = 0 then K29_3 else some 0)))))
noncomputable def fX0_goesTogether (N : Nat) (c0_barred : Nat → Int32) (p1 : Int32) : Option (Int32) := fX0_goesTogether_L2 c0_barred p1 N 0
theorem ydX0_goesTogether : yX0_goesTogether.cls = RX0 ∧ yX0_goesTogether.cls ≠ "java/lang/invoke/MethodHandle" ∧ yX0_goesTogether.cls ≠ "java/lang/invoke/VarHandle" ∧ (parseMethodDescriptor yX0_goesTogether.desc).map (fun d => d.parameters.length) = some 1 := by decide +kernel
set_option maxHeartbeats 8000000 in
set_option maxRecDepth 100000 in
theorem kX0_goesTogether (l : Launch) (D : va_G) (cy : Nat → ClassId) (ad : Nat → Nat) (c0_amounts : Nat → Int32) (c0_lows : Nat → Int32) (c0_highs : Nat → Int32) (c0_barred : Nat → Int32) (p1 : Int32) (N : Nat) {ra : Int32} (hf : fX0_goesTogether N c0_barred p1 = some ra) : CI l D cy yX0_goesTogether wsX0_goesTogether ({ frames := 0, cells := 0, slots := 0, locals := 0 } : Room) [.ref (ad 900), .int p1] (w0 cy ad c0_amounts c0_lows c0_highs c0_barred) ra (w0 cy ad c0_amounts c0_lows c0_highs c0_barred) := by
  unfold fX0_goesTogether at hf
  refine c_of_i (ty := .boolean) (own := RX0) (by decide) rfl rfl (Nat.le_of_ble_eq_true rfl) (fun X hC hRet => ?_)
  refine r_sub [(0, .ref (ad 900)), (1, .int p1)] [0, 1] rfl ?_
  have hin0 : ∀ w ∈ wsX00, w ∈ wsX0_goesTogether := fun w h => List.mem_cons_of_mem _ (List.mem_append_right _ h)
  have hw0 : Cond.fieldLink RX0 21 "HotPipes$Cases" "barred" "[I" ∈ wsX0_goesTogether := List.mem_of_getElem? (i := 1) rfl
  refine r_iconst hC dX0_goesTogether_0 ic_0 ?_
  refine r_istore_n hC [(2, .int 0), (0, .ref (ad 900)), (1, .int p1)] dX0_goesTogether_1 rfl (by decide) rfl ?_
  have L2 : ∀ (n : Nat) (x1 : Int32), fX0_goesTogether_L2 c0_barred p1 n x1 = some ra → GG X 3 0 0 (w0 cy ad c0_amounts c0_lows c0_highs c0_barred) [(0, .ref (ad 900)), (1, .int p1), (2, .int x1)] 2 [] := by
    intro n
    induction n with
    | zero => intro x1 hf; cases (show none = some _ from hf)
    | succ n ih =>
      intro x1 hf
      rw [fX0_goesTogether_L2] at hf
      refine r_iload_n hC dX0_goesTogether_2 rfl 2 rfl ?_
      refine r_bipush hC dX0_goesTogether_3 bp_8 ?_
      refine r_icmp_ge (tgt := 35) hC dX0_goesTogether_5 (by decide) (fun c2 => ?_) (fun c2 => ?_)
      · replace hf := o_pos hf c2
        refine r_iconst hC dX0_goesTogether_35 ic_1 ?_
        obtain rfl := so_1 hf
        exact hRet _ _ _ dX0_goesTogether_36 nb_1
      · replace hf := o_neg hf c2
        refine r_iload_n hC dX0_goesTogether_8 rfl 1 rfl ?_
        refine r_iconst hC dX0_goesTogether_9 ic_1 ?_
        refine r_iload_n hC dX0_goesTogether_10 rfl 2 rfl ?_
        refine r_ishl hC dX0_goesTogether_11 ?_
        refine r_iand hC dX0_goesTogether_12 ?_
        obtain ⟨K29_3, eK29_3, hf⟩ := oj_some hf
        have J29_3 : K29_3 = some ra → GG X 3 0 0 (w0 cy ad c0_amounts c0_lows c0_highs c0_barred) [(0, .ref (ad 900)), (1, .int p1), (2, .int x1)] 29 [] := by
          intro hf
          replace hf := oa0 eK29_3 hf
          refine r_iinc hC [(2, .int (x1 + 1)), (0, .ref (ad 900)), (1, .int p1)] (x1 + 1) dX0_goesTogether_29 2 rfl (ii_1 _) (by decide) rfl ?_
          refine r_goto (tgt := 2) hC dX0_goesTogether_32 (by decide) ?_
          refine r_sub [(0, .ref (ad 900)), (1, .int p1), (2, .int (x1 + 1))] [1, 2, 0] rfl ?_
          exact ih (x1 + 1) hf
        refine r_if_eq (tgt := 29) hC dX0_goesTogether_13 (by decide) (fun c4 => ?_) (fun c4 => ?_)
        · replace hf := o_pos hf c4
          exact J29_3 hf
        · replace hf := o_neg hf c4
          refine r_iload_n hC dX0_goesTogether_16 rfl 1 rfl ?_
          refine r_aload_n hC dX0_goesTogether_17 rfl 0 rfl ?_
          refine r_get hC hin0 0 rfl rfl 3 (by decide) rfl hw0 rfl dX0_goesTogether_18 ?_
          refine r_iload_n hC dX0_goesTogether_21 rfl 2 rfl ?_
          obtain ⟨g5, hf⟩ := og_some hf
          refine r_iald hC 4 rfl g5 dX0_goesTogether_22 ?_
          refine r_iand hC dX0_goesTogether_23 ?_
          refine r_if_eq (tgt := 29) hC dX0_goesTogether_24 (by decide) (fun c6 => ?_) (fun c6 => ?_)
          · replace hf := o_pos hf c6
            exact J29_3 hf
          · replace hf := o_neg hf c6
            refine r_iconst hC dX0_goesTogether_27 ic_0 ?_
            obtain rfl := so_1 hf
            exact hRet _ _ _ dX0_goesTogether_28 nb_0
  refine r_sub [(0, .ref (ad 900)), (1, .int p1), (2, .int 0)] [1, 2, 0] rfl ?_
  exact L2 N 0 hf
noncomputable def fX0_joined_L4 (c0_amounts : Nat → Int32) (c0_lows : Nat → Int32) (c0_highs : Nat → Int32) (p1 : Int32) : Nat → Int32 → Int32 → Option (Int32)
  | 0, _, _ => none
  | n + 1, x1, x2 => (if 8 ≤ x2 then some x1 else ob ((if (p1 &&& (1 <<< (x2 &&& 31))) = 0 then some x1 else og (vp_in x2 8) (og (vp_in x2 8) (og (vp_in x2 8) (og (vp_in x2 8) (olet (x1 + (if ((c0_amounts (Int32.toNatClampNeg x2)) * (c0_lows (Int32.toNatClampNeg x2))) < ((c0_amounts (Int32.toNatClampNeg x2)) * (c0_highs (Int32.toNatClampNeg x2))) then ((c0_amounts (Int32.toNatClampNeg x2)) * (c0_highs (Int32.toNatClampNeg x2))) else ((c0_amounts (Int32.toNatClampNeg x2)) * (c0_lows (Int32.toNatClampNeg x2))))) (fun (x12 : Int32) => some x12))))))) (fun (x4 : Int32) => fX0_joined_L4 c0_amounts c0_lows c0_highs p1 n x4 (x2 + 1)))
noncomputable def fX0_joined (N : Nat) (c0_amounts : Nat → Int32) (c0_lows : Nat → Int32) (c0_highs : Nat → Int32) (p1 : Int32) : Option (Int32) := fX0_joined_L4 c0_amounts c0_lows c0_highs p1 N 0 0
theorem ydX0_joined : yX0_joined.cls = RX0 ∧ yX0_joined.cls ≠ "java/lang/invoke/MethodHandle" ∧ yX0_joined.cls ≠ "java/lang/invoke/VarHandle" ∧ (parseMethodDescriptor yX0_joined.desc).map (fun d => d.parameters.length) = some 1 := by decide +kernel
set_option maxHeartbeats 8000000 in
set_option maxRecDepth 100000 in
theorem kX0_joined (l : Launch) (D : va_G) (cy : Nat → ClassId) (ad : Nat → Nat) (c0_amounts : Nat → Int32) (c0_lows : Nat → Int32) (c0_highs : Nat → Int32) (c0_barred : Nat → Int32) (p1 : Int32) (N : Nat) {ra : Int32} (hf : fX0_joined N c0_amounts c0_lows c0_highs p1 = some ra) : CI l D cy yX0_joined wsX0_joined ({ frames := 1, cells := 0, slots := 0, locals := 21 } : Room) [.ref (ad 900), .int p1] (w0 cy ad c0_amounts c0_lows c0_highs c0_barred) ra (w0 cy ad c0_amounts c0_lows c0_highs c0_barred) := by
  unfold fX0_joined at hf
  refine c_of_i (ty := .int) (own := RX0) (by decide) rfl rfl (Nat.le_of_ble_eq_true rfl) (fun X hC hRet => ?_)
  refine r_sub [(0, .ref (ad 900)), (1, .int p1)] [0, 1] rfl ?_
  have hin0 : ∀ w ∈ wsX00, w ∈ wsX0_joined := fun w h => List.mem_cons_of_mem _ (List.mem_append_right _ h)
  have hw0 : Cond.fieldLink RX0 9 "HotPipes$Cases" "amounts" "[I" ∈ wsX0_joined := List.mem_of_getElem? (i := 1) rfl
  have hw1 : Cond.fieldLink RX0 15 "HotPipes$Cases" "lows" "[I" ∈ wsX0_joined := List.mem_of_getElem? (i := 2) rfl
  have hw2 : Cond.fieldLink RX0 18 "HotPipes$Cases" "highs" "[I" ∈ wsX0_joined := List.mem_of_getElem? (i := 3) rfl
  have hw3 : Cond.methodLink RX0 38 Lib.Math.max.name ∈ wsX0_joined := List.mem_of_getElem? (i := 4) rfl
  have hw4 : Cond.static Lib.Math.max.name ∈ wsX0_joined := List.mem_of_getElem? (i := 5) rfl
  have hw5 : Cond.initialized "java/lang/Math" ∈ wsX0_joined := List.mem_of_getElem? (i := 6) rfl
  have hw6 : Cond.code Lib.Math.max.name Lib.Math.max.code 2 (some .int) ∈ wsX0_joined := List.mem_of_getElem? (i := 7) rfl
  refine r_iconst hC dX0_joined_0 ic_0 ?_
  refine r_istore_n hC [(2, .int 0), (0, .ref (ad 900)), (1, .int p1)] dX0_joined_1 rfl (by decide) rfl ?_
  refine r_iconst hC dX0_joined_2 ic_0 ?_
  refine r_istore_n hC [(3, .int 0), (2, .int 0), (0, .ref (ad 900)), (1, .int p1)] dX0_joined_3 rfl (by decide) rfl ?_
  have L4 : ∀ (n : Nat) (x1 : Int32) (x2 : Int32), fX0_joined_L4 c0_amounts c0_lows c0_highs p1 n x1 x2 = some ra → GG X 4 0 0 (w0 cy ad c0_amounts c0_lows c0_highs c0_barred) [(0, .ref (ad 900)), (1, .int p1), (2, .int x1), (3, .int x2)] 4 [] := by
    intro n
    induction n with
    | zero => intro x1 x2 hf; cases (show none = some _ from hf)
    | succ n ih =>
      intro x1 x2 hf
      rw [fX0_joined_L4] at hf
      refine r_iload_n hC dX0_joined_4 rfl 3 rfl ?_
      refine r_bipush hC dX0_joined_5 bp_8 ?_
      refine r_icmp_ge (tgt := 56) hC dX0_joined_7 (by decide) (fun c3 => ?_) (fun c3 => ?_)
      · replace hf := o_pos hf c3
        refine r_iload_n hC dX0_joined_56 rfl 2 rfl ?_
        obtain rfl := so_1 hf
        exact hRet _ _ _ dX0_joined_57 rfl
      · replace hf := o_neg hf c3
        refine r_iload_n hC dX0_joined_10 rfl 1 rfl ?_
        refine r_iconst hC dX0_joined_11 ic_1 ?_
        refine r_iload_n hC dX0_joined_12 rfl 3 rfl ?_
        refine r_ishl hC dX0_joined_13 ?_
        refine r_iand hC dX0_joined_14 ?_
        obtain ⟨x4, h6, hf⟩ := ob_some hf
        have J50_5 : GG X 4 0 0 (w0 cy ad c0_amounts c0_lows c0_highs c0_barred) [(0, .ref (ad 900)), (1, .int p1), (2, .int x4), (3, .int x2)] 50 [] := by
          refine r_iinc hC [(3, .int (x2 + 1)), (0, .ref (ad 900)), (1, .int p1), (2, .int x4)] (x2 + 1) dX0_joined_50 3 rfl (ii_1 _) (by decide) rfl ?_
          refine r_goto (tgt := 4) hC dX0_joined_53 (by decide) ?_
          refine r_sub [(0, .ref (ad 900)), (1, .int p1), (2, .int x4), (3, .int (x2 + 1))] [1, 2, 3, 0] rfl ?_
          exact ih x4 (x2 + 1) hf
        replace hf := h6
        refine r_if_eq (tgt := 50) hC dX0_joined_15 (by decide) (fun c7 => ?_) (fun c7 => ?_)
        · replace hf := o_pos hf c7
          obtain rfl := so_1 hf
          exact J50_5
        · replace hf := o_neg hf c7
          refine r_iload_n hC dX0_joined_18 rfl 2 rfl ?_
          refine r_aload_n hC dX0_joined_19 rfl 0 rfl ?_
          refine r_get hC hin0 0 rfl rfl 0 (by decide) rfl hw0 rfl dX0_joined_20 ?_
          refine r_iload_n hC dX0_joined_23 rfl 3 rfl ?_
          obtain ⟨g8, hf⟩ := og_some hf
          refine r_iald hC 1 rfl g8 dX0_joined_24 ?_
          refine r_aload_n hC dX0_joined_25 rfl 0 rfl ?_
          refine r_get hC hin0 0 rfl rfl 1 (by decide) rfl hw1 rfl dX0_joined_26 ?_
          refine r_iload_n hC dX0_joined_29 rfl 3 rfl ?_
          obtain ⟨g9, hf⟩ := og_some hf
          refine r_iald hC 2 rfl g9 dX0_joined_30 ?_
          refine r_imul hC dX0_joined_31 ?_
          refine r_aload_n hC dX0_joined_32 rfl 0 rfl ?_
          refine r_get hC hin0 0 rfl rfl 0 (by decide) rfl hw0 rfl dX0_joined_33 ?_
          refine r_iload_n hC dX0_joined_36 rfl 3 rfl ?_
          obtain ⟨g10, hf⟩ := og_some hf
          refine r_iald hC 1 rfl g10 dX0_joined_37 ?_
          refine r_aload_n hC dX0_joined_38 rfl 0 rfl ?_
          refine r_get hC hin0 0 rfl rfl 2 (by decide) rfl hw2 rfl dX0_joined_39 ?_
          refine r_iload_n hC dX0_joined_42 rfl 3 rfl ?_
          obtain ⟨g11, hf⟩ := og_some hf
          refine r_iald hC 3 rfl g11 dX0_joined_43 ?_
          refine r_imul hC dX0_joined_44 ?_
          refine r_mmax hC hw3 hw4 hw5 hw6 (Nat.le_of_ble_eq_true rfl) (Nat.le_of_ble_eq_true rfl) (Nat.le_refl 0) (Nat.le_refl 0) dX0_joined_45 ?_
          refine r_iadd hC dX0_joined_48 ?_
          refine r_topi (fun x12 ex12 => ?_)
          replace hf := olet_some hf ex12
          refine r_istore_n hC [(2, .int x12), (0, .ref (ad 900)), (1, .int p1), (3, .int x2)] dX0_joined_49 rfl (by decide) rfl ?_
          obtain rfl := so_1 hf
          refine r_sub [(0, .ref (ad 900)), (1, .int p1), (2, .int x12), (3, .int x2)] [1, 2, 0, 3] rfl ?_
          exact J50_5
  refine r_sub [(0, .ref (ad 900)), (1, .int p1), (2, .int 0), (3, .int 0)] [2, 3, 1, 0] rfl ?_
  exact L4 N 0 0 hf
noncomputable def fX0_worstSet_L6 (N : Nat) (c0_amounts : Nat → Int32) (c0_lows : Nat → Int32) (c0_highs : Nat → Int32) (c0_barred : Nat → Int32) : Nat → Int32 → Int32 → Int32 → Option (Int32)
  | 0, _, _, _ => none
  | n + 1, x1, x2, x3 => (if 256 ≤ x3 then some x1 else ob (fX0_goesTogether N c0_barred x3) (fun (r5 : Int32) => ob2 ((if r5 = 0 then some (x1, x2) else ob (fX0_joined N c0_amounts c0_lows c0_highs x3) (fun (r12 : Int32) => (if r12 ≤ x2 then some (x1, x2) else some (x3, r12))))) (fun (x7 : Int32) (x8 : Int32) => fX0_worstSet_L6 N c0_amounts c0_lows c0_highs c0_barred n x7 x8 (x3 + 1))))
noncomputable def fX0_worstSet (N : Nat) (c0_amounts : Nat → Int32) (c0_lows : Nat → Int32) (c0_highs : Nat → Int32) (c0_barred : Nat → Int32) : Option (Int32) := fX0_worstSet_L6 N c0_amounts c0_lows c0_highs c0_barred N 0 0 1
theorem ydX0_worstSet : yX0_worstSet.cls = RX0 ∧ yX0_worstSet.cls ≠ "java/lang/invoke/MethodHandle" ∧ yX0_worstSet.cls ≠ "java/lang/invoke/VarHandle" ∧ (parseMethodDescriptor yX0_worstSet.desc).map (fun d => d.parameters.length) = some 0 := by decide +kernel
set_option maxHeartbeats 8000000 in
set_option maxRecDepth 100000 in
theorem kX0_worstSet (l : Launch) (D : va_G) (cy : Nat → ClassId) (ad : Nat → Nat) (c0_amounts : Nat → Int32) (c0_lows : Nat → Int32) (c0_highs : Nat → Int32) (c0_barred : Nat → Int32) (N : Nat) {ra : Int32} (hf : fX0_worstSet N c0_amounts c0_lows c0_highs c0_barred = some ra) : CI l D cy yX0_worstSet wsX0_worstSet ({ frames := 2, cells := 0, slots := 0, locals := 44 } : Room) [.ref (ad 900)] (w0 cy ad c0_amounts c0_lows c0_highs c0_barred) ra (w0 cy ad c0_amounts c0_lows c0_highs c0_barred) := by
  unfold fX0_worstSet at hf
  refine c_of_i (ty := .int) (own := RX0) (by decide) rfl rfl (Nat.le_of_ble_eq_true rfl) (fun X hC hRet => ?_)
  refine r_sub [(0, .ref (ad 900))] [0] rfl ?_
  refine r_iconst hC dX0_worstSet_0 ic_0 ?_
  refine r_istore_n hC [(1, .int 0), (0, .ref (ad 900))] dX0_worstSet_1 rfl (by decide) rfl ?_
  refine r_iconst hC dX0_worstSet_2 ic_0 ?_
  refine r_istore_n hC [(2, .int 0), (1, .int 0), (0, .ref (ad 900))] dX0_worstSet_3 rfl (by decide) rfl ?_
  refine r_iconst hC dX0_worstSet_4 ic_1 ?_
  refine r_istore_n hC [(3, .int 1), (2, .int 0), (1, .int 0), (0, .ref (ad 900))] dX0_worstSet_5 rfl (by decide) rfl ?_
  have L6 : ∀ (n : Nat) (x1 : Int32) (x2 : Int32) (x3 : Int32), fX0_worstSet_L6 N c0_amounts c0_lows c0_highs c0_barred n x1 x2 x3 = some ra → GG X 5 0 0 (w0 cy ad c0_amounts c0_lows c0_highs c0_barred) [(0, .ref (ad 900)), (1, .int x1), (2, .int x2), (3, .int x3)] 6 [] := by
    intro n
    induction n with
    | zero => intro x1 x2 x3 hf; cases (show none = some _ from hf)
    | succ n ih =>
      intro x1 x2 x3 hf
      rw [fX0_worstSet_L6] at hf
      refine r_iload_n hC dX0_worstSet_6 rfl 3 rfl ?_
      refine r_sipush hC dX0_worstSet_7 sp_256 ?_
      refine r_icmp_ge (tgt := 45) hC dX0_worstSet_10 (by decide) (fun c4 => ?_) (fun c4 => ?_)
      · replace hf := o_pos hf c4
        refine r_iload_n hC dX0_worstSet_45 rfl 1 rfl ?_
        obtain rfl := so_1 hf
        exact hRet _ _ _ dX0_worstSet_46 rfl
      · replace hf := o_neg hf c4
        refine r_aload_n hC dX0_worstSet_13 rfl 0 rfl ?_
        refine r_iload_n hC dX0_worstSet_14 rfl 3 rfl ?_
        obtain ⟨r5, h6, hf⟩ := ob_some hf
        refine r_vi (st := []) hC (kX0_goesTogether l D cy ad c0_amounts c0_lows c0_highs c0_barred x3 N h6) gX0_worstSet_X0_goesTogether rfl ⟨rfl, rfl⟩ ydX0_goesTogether ⟨Nat.le_of_ble_eq_true rfl, Nat.le_of_ble_eq_true rfl⟩ ⟨Nat.le_refl 0, Nat.le_refl 0⟩ 0 rfl rfl [] [] rfl _ rfl (Nat.le_of_ble_eq_true rfl) dX0_worstSet_15 (w0 cy ad c0_amounts c0_lows c0_highs c0_barred) rfl ?_
        obtain ⟨x7, x8, h10, hf⟩ := ob2_some hf
        have J39_9 : GG X 5 0 0 (w0 cy ad c0_amounts c0_lows c0_highs c0_barred) [(0, .ref (ad 900)), (1, .int x7), (2, .int x8), (3, .int x3)] 39 [] := by
          refine r_iinc hC [(3, .int (x3 + 1)), (0, .ref (ad 900)), (1, .int x7), (2, .int x8)] (x3 + 1) dX0_worstSet_39 3 rfl (ii_1 _) (by decide) rfl ?_
          refine r_goto (tgt := 6) hC dX0_worstSet_42 (by decide) ?_
          refine r_sub [(0, .ref (ad 900)), (1, .int x7), (2, .int x8), (3, .int (x3 + 1))] [1, 2, 3, 0] rfl ?_
          exact ih x7 x8 (x3 + 1) hf
        replace hf := h10
        refine r_if_eq (tgt := 39) hC dX0_worstSet_18 (by decide) (fun c11 => ?_) (fun c11 => ?_)
        · replace hf := o_pos hf c11
          obtain ⟨rfl, rfl⟩ := so_2 hf
          exact J39_9
        · replace hf := o_neg hf c11
          refine r_aload_n hC dX0_worstSet_21 rfl 0 rfl ?_
          refine r_iload_n hC dX0_worstSet_22 rfl 3 rfl ?_
          obtain ⟨r12, h13, hf⟩ := ob_some hf
          refine r_vi (st := []) hC (kX0_joined l D cy ad c0_amounts c0_lows c0_highs c0_barred x3 N h13) gX0_worstSet_X0_joined rfl ⟨rfl, rfl⟩ ydX0_joined ⟨Nat.le_of_ble_eq_true rfl, Nat.le_of_ble_eq_true rfl⟩ ⟨Nat.le_refl 0, Nat.le_refl 0⟩ 0 rfl rfl [] [] rfl _ rfl (Nat.le_of_ble_eq_true rfl) dX0_worstSet_23 (w0 cy ad c0_amounts c0_lows c0_highs c0_barred) rfl ?_
          refine r_istore hC [(4, .int r12), (0, .ref (ad 900)), (1, .int x1), (2, .int x2), (3, .int x3)] dX0_worstSet_26 (by decide) rfl ?_
          refine r_iload hC dX0_worstSet_28 0 rfl ?_
          refine r_iload_n hC dX0_worstSet_30 rfl 3 rfl ?_
          refine r_icmp_le (tgt := 39) hC dX0_worstSet_31 (by decide) (fun c14 => ?_) (fun c14 => ?_)
          · replace hf := o_pos hf c14
            obtain ⟨rfl, rfl⟩ := so_2 hf
            refine r_sub [(0, .ref (ad 900)), (1, .int x1), (2, .int x2), (3, .int x3)] [1, 2, 3, 4] rfl ?_
            exact J39_9
          · replace hf := o_neg hf c14
            refine r_iload_n hC dX0_worstSet_34 rfl 4 rfl ?_
            refine r_istore_n hC [(1, .int x3), (4, .int r12), (0, .ref (ad 900)), (2, .int x2), (3, .int x3)] dX0_worstSet_35 rfl (by decide) rfl ?_
            refine r_iload hC dX0_worstSet_36 1 rfl ?_
            refine r_istore_n hC [(2, .int r12), (1, .int x3), (4, .int r12), (0, .ref (ad 900)), (3, .int x3)] dX0_worstSet_38 rfl (by decide) rfl ?_
            obtain ⟨rfl, rfl⟩ := so_2 hf
            refine r_sub [(0, .ref (ad 900)), (1, .int x3), (2, .int r12), (3, .int x3)] [3, 1, 0, 4] rfl ?_
            exact J39_9
  refine r_sub [(0, .ref (ad 900)), (1, .int 0), (2, .int 0), (3, .int 1)] [3, 2, 1, 0] rfl ?_
  exact L6 N 0 0 1 hf
noncomputable def fX0_mixInto_L2 (c0_amounts : Nat → Int32) (c0_lows : Nat → Int32) (c0_highs : Nat → Int32) : Nat → Int64 → Int32 → Option (Int64)
  | 0, _, _ => none
  | n + 1, x1, x2 => (if 8 ≤ x2 then some x1 else og (vp_in x2 8) (olet ((31 * x1) + (Int32.toInt64 (c0_amounts (Int32.toNatClampNeg x2)))) (fun (x5 : Int64) => og (vp_in x2 8) (olet ((31 * x5) + (Int32.toInt64 (c0_lows (Int32.toNatClampNeg x2)))) (fun (x7 : Int64) => og (vp_in x2 8) (olet ((31 * x7) + (Int32.toInt64 (c0_highs (Int32.toNatClampNeg x2)))) (fun (x9 : Int64) => fX0_mixInto_L2 c0_amounts c0_lows c0_highs n x9 (x2 + 1))))))))
noncomputable def fX0_mixInto (N : Nat) (c0_amounts : Nat → Int32) (c0_lows : Nat → Int32) (c0_highs : Nat → Int32) (p1 : Int64) : Option (Int64) := fX0_mixInto_L2 c0_amounts c0_lows c0_highs N p1 0
theorem ydX0_mixInto : yX0_mixInto.cls = RX0 ∧ yX0_mixInto.cls ≠ "java/lang/invoke/MethodHandle" ∧ yX0_mixInto.cls ≠ "java/lang/invoke/VarHandle" ∧ (parseMethodDescriptor yX0_mixInto.desc).map (fun d => d.parameters.length) = some 1 := by decide +kernel
set_option maxHeartbeats 8000000 in
set_option maxRecDepth 100000 in
theorem kX0_mixInto (l : Launch) (D : va_G) (cy : Nat → ClassId) (ad : Nat → Nat) (c0_amounts : Nat → Int32) (c0_lows : Nat → Int32) (c0_highs : Nat → Int32) (c0_barred : Nat → Int32) (p1 : Int64) (N : Nat) {ra : Int64} (hf : fX0_mixInto N c0_amounts c0_lows c0_highs p1 = some ra) : CL l D cy yX0_mixInto wsX0_mixInto ({ frames := 0, cells := 0, slots := 0, locals := 0 } : Room) [.ref (ad 900), .long p1] (w0 cy ad c0_amounts c0_lows c0_highs c0_barred) ra (w0 cy ad c0_amounts c0_lows c0_highs c0_barred) := by
  unfold fX0_mixInto at hf
  refine c_of_l (own := RX0) (by decide) rfl rfl (Nat.le_of_ble_eq_true rfl) (fun X hC hRet => ?_)
  refine r_sub [(0, .ref (ad 900)), (1, .long p1)] [0, 1] rfl ?_
  have hin0 : ∀ w ∈ wsX00, w ∈ wsX0_mixInto := fun w h => List.mem_cons_of_mem _ (List.mem_append_right _ h)
  have hw0 : Cond.constantLong RX0 44 (31) ∈ wsX0_mixInto := List.mem_of_getElem? (i := 1) rfl
  have hw1 : Cond.fieldLink RX0 9 "HotPipes$Cases" "amounts" "[I" ∈ wsX0_mixInto := List.mem_of_getElem? (i := 2) rfl
  have hw2 : Cond.fieldLink RX0 15 "HotPipes$Cases" "lows" "[I" ∈ wsX0_mixInto := List.mem_of_getElem? (i := 3) rfl
  have hw3 : Cond.fieldLink RX0 18 "HotPipes$Cases" "highs" "[I" ∈ wsX0_mixInto := List.mem_of_getElem? (i := 4) rfl
  refine r_iconst hC dX0_mixInto_0 ic_0 ?_
  refine r_istore_n hC [(3, .int 0), (0, .ref (ad 900)), (1, .long p1)] dX0_mixInto_1 rfl (by decide) rfl ?_
  have L2 : ∀ (n : Nat) (x1 : Int64) (x2 : Int32), fX0_mixInto_L2 c0_amounts c0_lows c0_highs n x1 x2 = some ra → GG X 4 0 0 (w0 cy ad c0_amounts c0_lows c0_highs c0_barred) [(0, .ref (ad 900)), (1, .long x1), (3, .int x2)] 2 [] := by
    intro n
    induction n with
    | zero => intro x1 x2 hf; cases (show none = some _ from hf)
    | succ n ih =>
      intro x1 x2 hf
      rw [fX0_mixInto_L2] at hf
      refine r_iload_n hC dX0_mixInto_2 rfl 2 rfl ?_
      refine r_bipush hC dX0_mixInto_3 bp_8 ?_
      refine r_icmp_ge (tgt := 56) hC dX0_mixInto_5 (by decide) (fun c3 => ?_) (fun c3 => ?_)
      · replace hf := o_pos hf c3
        refine r_lload_n hC dX0_mixInto_56 rfl 1 rfl ?_
        obtain rfl := so_1 hf
        exact hRet _ _ _ dX0_mixInto_57
      · replace hf := o_neg hf c3
        refine r_ldc2 hC hw0 dX0_mixInto_8 ?_
        refine r_lload_n hC dX0_mixInto_11 rfl 1 rfl ?_
        refine r_lmul hC dX0_mixInto_12 ?_
        refine r_aload_n hC dX0_mixInto_13 rfl 0 rfl ?_
        refine r_get hC hin0 0 rfl rfl 0 (by decide) rfl hw1 rfl dX0_mixInto_14 ?_
        refine r_iload_n hC dX0_mixInto_17 rfl 2 rfl ?_
        obtain ⟨g4, hf⟩ := og_some hf
        refine r_iald hC 1 rfl g4 dX0_mixInto_18 ?_
        refine r_i2l hC dX0_mixInto_19 ?_
        refine r_ladd hC dX0_mixInto_20 ?_
        refine r_topl (fun x5 ex5 => ?_)
        replace hf := olet_some hf ex5
        refine r_lstore_n hC [(1, .long x5), (0, .ref (ad 900)), (3, .int x2)] dX0_mixInto_21 rfl (by decide) rfl ?_
        refine r_ldc2 hC hw0 dX0_mixInto_22 ?_
        refine r_lload_n hC dX0_mixInto_25 rfl 0 rfl ?_
        refine r_lmul hC dX0_mixInto_26 ?_
        refine r_aload_n hC dX0_mixInto_27 rfl 1 rfl ?_
        refine r_get hC hin0 0 rfl rfl 1 (by decide) rfl hw2 rfl dX0_mixInto_28 ?_
        refine r_iload_n hC dX0_mixInto_31 rfl 2 rfl ?_
        obtain ⟨g6, hf⟩ := og_some hf
        refine r_iald hC 2 rfl g6 dX0_mixInto_32 ?_
        refine r_i2l hC dX0_mixInto_33 ?_
        refine r_ladd hC dX0_mixInto_34 ?_
        refine r_topl (fun x7 ex7 => ?_)
        replace hf := olet_some hf ex7
        refine r_lstore_n hC [(1, .long x7), (0, .ref (ad 900)), (3, .int x2)] dX0_mixInto_35 rfl (by decide) rfl ?_
        refine r_ldc2 hC hw0 dX0_mixInto_36 ?_
        refine r_lload_n hC dX0_mixInto_39 rfl 0 rfl ?_
        refine r_lmul hC dX0_mixInto_40 ?_
        refine r_aload_n hC dX0_mixInto_41 rfl 1 rfl ?_
        refine r_get hC hin0 0 rfl rfl 2 (by decide) rfl hw3 rfl dX0_mixInto_42 ?_
        refine r_iload_n hC dX0_mixInto_45 rfl 2 rfl ?_
        obtain ⟨g8, hf⟩ := og_some hf
        refine r_iald hC 3 rfl g8 dX0_mixInto_46 ?_
        refine r_i2l hC dX0_mixInto_47 ?_
        refine r_ladd hC dX0_mixInto_48 ?_
        refine r_topl (fun x9 ex9 => ?_)
        replace hf := olet_some hf ex9
        refine r_lstore_n hC [(1, .long x9), (0, .ref (ad 900)), (3, .int x2)] dX0_mixInto_49 rfl (by decide) rfl ?_
        refine r_iinc hC [(3, .int (x2 + 1)), (1, .long x9), (0, .ref (ad 900))] (x2 + 1) dX0_mixInto_50 2 rfl (ii_1 _) (by decide) rfl ?_
        refine r_goto (tgt := 2) hC dX0_mixInto_53 (by decide) ?_
        refine r_sub [(0, .ref (ad 900)), (1, .long x9), (3, .int (x2 + 1))] [2, 1, 0] rfl ?_
        exact ih x9 (x2 + 1) hf
  refine r_sub [(0, .ref (ad 900)), (1, .long p1), (3, .int 0)] [1, 2, 0] rfl ?_
  exact L2 N p1 0 hf
noncomputable def fX1_lines (c1_lines : Int32) : Option (Int32) := some c1_lines
theorem ydX1_lines : yX1_lines.cls = RX1 ∧ yX1_lines.cls ≠ "java/lang/invoke/MethodHandle" ∧ yX1_lines.cls ≠ "java/lang/invoke/VarHandle" ∧ (parseMethodDescriptor yX1_lines.desc).map (fun d => d.parameters.length) = some 0 := by decide +kernel
set_option maxHeartbeats 8000000 in
set_option maxRecDepth 100000 in
theorem kX1_lines (l : Launch) (D : va_G) (cy : Nat → ClassId) (ad : Nat → Nat) (c1_lines : Int32) (c1_parts : Int64) {ra : Int32} (hf : fX1_lines c1_lines = some ra) : CI l D cy yX1_lines wsX1_lines ({ frames := 0, cells := 0, slots := 0, locals := 0 } : Room) [.ref (ad 10)] (w1 cy ad c1_lines c1_parts) ra (w1 cy ad c1_lines c1_parts) := by
  unfold fX1_lines at hf
  refine c_of_i (ty := .int) (own := RX1) (by decide) rfl rfl (Nat.le_of_ble_eq_true rfl) (fun X hC hRet => ?_)
  refine r_sub [(0, .ref (ad 10))] [0] rfl ?_
  have hin1 : ∀ w ∈ wsX10, w ∈ wsX1_lines := fun w h => List.mem_cons_of_mem _ (List.mem_append_right _ h)
  have hw0 : Cond.fieldLink RX1 7 "HotPipes$Cycles" "lines" "I" ∈ wsX1_lines := List.mem_of_getElem? (i := 1) rfl
  refine r_aload_n hC dX1_lines_0 rfl 0 rfl ?_
  refine r_get hC hin1 0 rfl rfl 0 (by decide) rfl hw0 rfl dX1_lines_1 ?_
  obtain rfl := so_1 hf
  exact hRet _ _ _ dX1_lines_4 rfl
noncomputable def fX1_partsUsed (c1_parts : Int64) : Option (Int64) := some c1_parts
theorem ydX1_partsUsed : yX1_partsUsed.cls = RX1 ∧ yX1_partsUsed.cls ≠ "java/lang/invoke/MethodHandle" ∧ yX1_partsUsed.cls ≠ "java/lang/invoke/VarHandle" ∧ (parseMethodDescriptor yX1_partsUsed.desc).map (fun d => d.parameters.length) = some 0 := by decide +kernel
set_option maxHeartbeats 8000000 in
set_option maxRecDepth 100000 in
theorem kX1_partsUsed (l : Launch) (D : va_G) (cy : Nat → ClassId) (ad : Nat → Nat) (c1_lines : Int32) (c1_parts : Int64) {ra : Int64} (hf : fX1_partsUsed c1_parts = some ra) : CL l D cy yX1_partsUsed wsX1_partsUsed ({ frames := 0, cells := 0, slots := 0, locals := 0 } : Room) [.ref (ad 10)] (w1 cy ad c1_lines c1_parts) ra (w1 cy ad c1_lines c1_parts) := by
  unfold fX1_partsUsed at hf
  refine c_of_l (own := RX1) (by decide) rfl rfl (Nat.le_of_ble_eq_true rfl) (fun X hC hRet => ?_)
  refine r_sub [(0, .ref (ad 10))] [0] rfl ?_
  have hin1 : ∀ w ∈ wsX10, w ∈ wsX1_partsUsed := fun w h => List.mem_cons_of_mem _ (List.mem_append_right _ h)
  have hw0 : Cond.fieldLink RX1 13 "HotPipes$Cycles" "parts" "J" ∈ wsX1_partsUsed := List.mem_of_getElem? (i := 1) rfl
  refine r_aload_n hC dX1_partsUsed_0 rfl 0 rfl ?_
  refine r_get hC hin1 0 rfl rfl 1 (by decide) rfl hw0 rfl dX1_partsUsed_1 ?_
  obtain rfl := so_1 hf
  exact hRet _ _ _ dX1_partsUsed_4
noncomputable def fX1_append (c1_lines : Int32) (c1_parts : Int64) (p1 : Int32) (p2 : Int32) : Option (Int32 × Int64) := some ((c1_lines + 1), (c1_parts + ((Int32.toInt64 p1) <<< (Int32.toInt64 (p2 / 4) &&& 63))))
theorem ydX1_append : yX1_append.cls = RX1 ∧ yX1_append.cls ≠ "java/lang/invoke/MethodHandle" ∧ yX1_append.cls ≠ "java/lang/invoke/VarHandle" ∧ (parseMethodDescriptor yX1_append.desc).map (fun d => d.parameters.length) = some 2 := by decide +kernel
set_option maxHeartbeats 8000000 in
set_option maxRecDepth 100000 in
theorem kX1_append (l : Launch) (D : va_G) (cy : Nat → ClassId) (ad : Nat → Nat) (c1_lines : Int32) (c1_parts : Int64) (p1 : Int32) (p2 : Int32) {z1_lines : Int32} {z1_parts : Int64} (hf : fX1_append c1_lines c1_parts p1 p2 = some (z1_lines, z1_parts)) : CV l D cy yX1_append wsX1_append ({ frames := 0, cells := 0, slots := 0, locals := 0 } : Room) [.ref (ad 10), .int p1, .int p2] (w1 cy ad c1_lines c1_parts) (w1 cy ad z1_lines z1_parts) := by
  unfold fX1_append at hf
  refine c_of_v (own := RX1) (by decide) rfl rfl (Nat.le_of_ble_eq_true rfl) (fun X hC hRet => ?_)
  refine r_sub [(0, .ref (ad 10)), (1, .int p1), (2, .int p2)] [0, 1, 2] rfl ?_
  have hin1 : ∀ w ∈ wsX10, w ∈ wsX1_append := fun w h => List.mem_cons_of_mem _ (List.mem_append_right _ h)
  have hw0 : Cond.fieldLink RX1 7 "HotPipes$Cycles" "lines" "I" ∈ wsX1_append := List.mem_of_getElem? (i := 1) rfl
  have hw1 : Cond.fieldLink RX1 13 "HotPipes$Cycles" "parts" "J" ∈ wsX1_append := List.mem_of_getElem? (i := 2) rfl
  refine r_aload_n hC dX1_append_0 rfl 0 rfl ?_
  refine r_dup hC dX1_append_1 rfl ?_
  refine r_get hC hin1 0 rfl rfl 0 (by decide) rfl hw0 rfl dX1_append_2 ?_
  refine r_iconst hC dX1_append_5 ic_1 ?_
  refine r_iadd hC dX1_append_6 ?_
  refine r_put (ty := .int) hC hin1 tyX1_ok nmX1 0 rfl rfl 0 (by decide) rfl hw0 rfl rfl rfl rfl (Nat.le_of_ble_eq_true rfl) dX1_append_7 (w1 cy ad (c1_lines + 1) c1_parts) rfl ?_
  refine r_aload_n hC dX1_append_10 rfl 0 rfl ?_
  refine r_dup hC dX1_append_11 rfl ?_
  refine r_get hC hin1 0 rfl rfl 1 (by decide) rfl hw1 rfl dX1_append_12 ?_
  refine r_iload_n hC dX1_append_15 rfl 1 rfl ?_
  refine r_i2l hC dX1_append_16 ?_
  refine r_iload_n hC dX1_append_17 rfl 2 rfl ?_
  refine r_iconst hC dX1_append_18 ic_4 ?_
  refine r_idiv hC dX1_append_19 (by decide) ?_
  refine r_lshl hC dX1_append_20 ?_
  refine r_ladd hC dX1_append_21 ?_
  refine r_put (ty := .long) hC hin1 tyX1_ok nmX1 0 rfl rfl 1 (by decide) rfl hw1 rfl rfl rfl rfl (Nat.le_of_ble_eq_true rfl) dX1_append_22 (w1 cy ad (c1_lines + 1) (c1_parts + ((Int32.toInt64 p1) <<< (Int32.toInt64 (p2 / 4) &&& 63)))) rfl ?_
  obtain ⟨rfl, rfl⟩ := so_2 hf
  exact hRet _ _ _ dX1_append_25
noncomputable def fX2_greatestShared_L3  : Nat → Int64 → Int64 → Int32 → Option (Int64)
  | 0, _, _, _ => none
  | n + 1, x1, x2, x3 => (if 200 ≤ x3 then some x1 else (if (lg_cmp x2 0) = 0 then some x1 else og (¬ x2 = 0) (olet (x1 - x1 / x2 * x2) (fun (x7 : Int64) => fX2_greatestShared_L3 n x2 x7 (x3 + 1)))))
noncomputable def fX2_greatestShared (N : Nat) (p1 : Int64) (p2 : Int64) : Option (Int64) := fX2_greatestShared_L3 N p1 p2 0
theorem ydX2_greatestShared : yX2_greatestShared.cls ≠ "java/lang/invoke/MethodHandle" ∧ yX2_greatestShared.cls ≠ "java/lang/invoke/VarHandle" ∧ (parseMethodDescriptor yX2_greatestShared.desc).map (fun d => d.parameters.length) = some 2 := by decide +kernel
set_option maxHeartbeats 8000000 in
set_option maxRecDepth 100000 in
theorem kX2_greatestShared (l : Launch) (D : va_G) (cy : Nat → ClassId) (p1 : Int64) (p2 : Int64) (N : Nat) {ra : Int64} (hf : fX2_greatestShared N p1 p2 = some ra) : CL l D cy yX2_greatestShared wsX2_greatestShared ({ frames := 0, cells := 0, slots := 0, locals := 0 } : Room) [.long p1, .long p2] [] ra [] := by
  unfold fX2_greatestShared at hf
  refine c_of_l (own := RX2) (by decide) rfl rfl (Nat.le_of_ble_eq_true rfl) (fun X hC hRet => ?_)
  refine r_sub [(0, .long p1), (2, .long p2)] [0, 1] rfl ?_
  refine r_iconst hC dX2_greatestShared_0 ic_0 ?_
  refine r_istore hC [(4, .int 0), (0, .long p1), (2, .long p2)] dX2_greatestShared_1 (by decide) rfl ?_
  have L3 : ∀ (n : Nat) (x1 : Int64) (x2 : Int64) (x3 : Int32), fX2_greatestShared_L3 n x1 x2 x3 = some ra → GG X 7 0 0 [] [(0, .long x1), (2, .long x2), (4, .int x3)] 3 [] := by
    intro n
    induction n with
    | zero => intro x1 x2 x3 hf; cases (show none = some _ from hf)
    | succ n ih =>
      intro x1 x2 x3 hf
      rw [fX2_greatestShared_L3] at hf
      refine r_iload hC dX2_greatestShared_3 2 rfl ?_
      refine r_sipush hC dX2_greatestShared_5 sp_200 ?_
      refine r_icmp_ge (tgt := 33) hC dX2_greatestShared_8 (by decide) (fun c4 => ?_) (fun c4 => ?_)
      · replace hf := o_pos hf c4
        refine r_lload_n hC dX2_greatestShared_33 rfl 0 rfl ?_
        obtain rfl := so_1 hf
        exact hRet _ _ _ dX2_greatestShared_34
      · replace hf := o_neg hf c4
        refine r_lload_n hC dX2_greatestShared_11 rfl 1 rfl ?_
        refine r_lconst hC dX2_greatestShared_12 lc_0 ?_
        refine r_lcmp hC dX2_greatestShared_13 ?_
        refine r_if_eq (tgt := 33) hC dX2_greatestShared_14 (by decide) (fun c5 => ?_) (fun c5 => ?_)
        · replace hf := o_pos hf c5
          refine r_lload_n hC dX2_greatestShared_33 rfl 0 rfl ?_
          obtain rfl := so_1 hf
          exact hRet _ _ _ dX2_greatestShared_34
        · replace hf := o_neg hf c5
          refine r_lload_n hC dX2_greatestShared_17 rfl 0 rfl ?_
          refine r_lload_n hC dX2_greatestShared_18 rfl 1 rfl ?_
          obtain ⟨g6, hf⟩ := og_some hf
          refine r_lrem hC dX2_greatestShared_19 g6 ?_
          refine r_topl (fun x7 ex7 => ?_)
          replace hf := olet_some hf ex7
          refine r_lstore hC [(5, .long x7), (0, .long x1), (2, .long x2), (4, .int x3)] dX2_greatestShared_20 (by decide) rfl ?_
          refine r_lload_n hC dX2_greatestShared_22 rfl 2 rfl ?_
          refine r_lstore_n hC [(0, .long x2), (5, .long x7), (2, .long x2), (4, .int x3)] dX2_greatestShared_23 rfl (by decide) rfl ?_
          refine r_lload hC dX2_greatestShared_24 1 rfl ?_
          refine r_lstore_n hC [(2, .long x7), (0, .long x2), (5, .long x7), (4, .int x3)] dX2_greatestShared_26 rfl (by decide) rfl ?_
          refine r_iinc hC [(4, .int (x3 + 1)), (2, .long x7), (0, .long x2), (5, .long x7)] (x3 + 1) dX2_greatestShared_27 3 rfl (ii_1 _) (by decide) rfl ?_
          refine r_goto (tgt := 3) hC dX2_greatestShared_30 (by decide) ?_
          refine r_sub [(0, .long x2), (2, .long x7), (4, .int (x3 + 1))] [2, 1, 0] rfl ?_
          exact ih x2 x7 (x3 + 1) hf
  refine r_sub [(0, .long p1), (2, .long p2), (4, .int 0)] [1, 2, 0] rfl ?_
  exact L3 N p1 p2 0 hf
noncomputable def fX2_put (N : Nat) (c2_above : Int64) (c2_below : Int64) (p1 : Int64) (p2 : Int64) : Option (Int64 × Int64) := ob (fX2_greatestShared N p1 p2) (fun (r1 : Int64) => (if (lg_cmp r1 0) ≤ 0 then some (c2_above, c2_below) else og (¬ r1 = 0) (og (¬ r1 = 0) (some ((p1 / r1), (p2 / r1))))))
theorem ydX2_put : yX2_put.cls = RX2 ∧ yX2_put.cls ≠ "java/lang/invoke/MethodHandle" ∧ yX2_put.cls ≠ "java/lang/invoke/VarHandle" ∧ (parseMethodDescriptor yX2_put.desc).map (fun d => d.parameters.length) = some 2 := by decide +kernel
set_option maxHeartbeats 8000000 in
set_option maxRecDepth 100000 in
theorem kX2_put (l : Launch) (D : va_G) (cy : Nat → ClassId) (ad : Nat → Nat) (c2_above : Int64) (c2_below : Int64) (p1 : Int64) (p2 : Int64) (N : Nat) {z2_above : Int64} {z2_below : Int64} (hf : fX2_put N c2_above c2_below p1 p2 = some (z2_above, z2_below)) : CV l D cy yX2_put wsX2_put ({ frames := 1, cells := 0, slots := 0, locals := 26 } : Room) [.ref (ad 20), .long p1, .long p2] (w2 cy ad c2_above c2_below) (w2 cy ad z2_above z2_below) := by
  unfold fX2_put at hf
  refine c_of_v (own := RX2) (by decide) rfl rfl (Nat.le_of_ble_eq_true rfl) (fun X hC hRet => ?_)
  refine r_sub [(0, .ref (ad 20)), (1, .long p1), (3, .long p2)] [0, 1, 2] rfl ?_
  have hin2 : ∀ w ∈ wsX20, w ∈ wsX2_put := fun w h => List.mem_cons_of_mem _ (List.mem_append_right _ h)
  have hw0 : Cond.fieldLink RX2 7 "HotPipes$Fraction" "above" "J" ∈ wsX2_put := List.mem_of_getElem? (i := 1) rfl
  have hw1 : Cond.fieldLink RX2 13 "HotPipes$Fraction" "below" "J" ∈ wsX2_put := List.mem_of_getElem? (i := 2) rfl
  refine r_lload_n hC dX2_put_0 rfl 1 rfl ?_
  refine r_lload_n hC dX2_put_1 rfl 2 rfl ?_
  obtain ⟨r1, h2, hf⟩ := ob_some hf
  refine r_sl (st := []) hC (kX2_greatestShared l D cy p1 p2 N h2) gX2_put_X2_greatestShared rfl ⟨rfl, rfl⟩ ydX2_greatestShared ⟨Nat.le_of_ble_eq_true rfl, Nat.le_of_ble_eq_true rfl⟩ ⟨Nat.le_refl 0, Nat.le_refl 0⟩ _ rfl (Nat.le_of_ble_eq_true rfl) dX2_put_2 ?_
  refine r_lstore hC [(5, .long r1), (0, .ref (ad 20)), (1, .long p1), (3, .long p2)] dX2_put_5 (by decide) rfl ?_
  refine r_lload hC dX2_put_7 0 rfl ?_
  refine r_lconst hC dX2_put_9 lc_0 ?_
  refine r_lcmp hC dX2_put_10 ?_
  refine r_if_le (tgt := 30) hC dX2_put_11 (by decide) (fun c3 => ?_) (fun c3 => ?_)
  · replace hf := o_pos hf c3
    obtain ⟨rfl, rfl⟩ := so_2 hf
    exact hRet _ _ _ dX2_put_30
  · replace hf := o_neg hf c3
    refine r_aload_n hC dX2_put_14 rfl 1 rfl ?_
    refine r_lload_n hC dX2_put_15 rfl 2 rfl ?_
    refine r_lload hC dX2_put_16 0 rfl ?_
    obtain ⟨g4, hf⟩ := og_some hf
    refine r_ldiv hC dX2_put_18 g4 ?_
    refine r_put (ty := .long) hC hin2 tyX2_ok nmX2 0 rfl rfl 0 (by decide) rfl hw0 rfl rfl rfl rfl (Nat.le_of_ble_eq_true rfl) dX2_put_19 (w2 cy ad (p1 / r1) c2_below) rfl ?_
    refine r_aload_n hC dX2_put_22 rfl 1 rfl ?_
    refine r_lload_n hC dX2_put_23 rfl 3 rfl ?_
    refine r_lload hC dX2_put_24 0 rfl ?_
    obtain ⟨g5, hf⟩ := og_some hf
    refine r_ldiv hC dX2_put_26 g5 ?_
    refine r_put (ty := .long) hC hin2 tyX2_ok nmX2 0 rfl rfl 1 (by decide) rfl hw1 rfl rfl rfl rfl (Nat.le_of_ble_eq_true rfl) dX2_put_27 (w2 cy ad (p1 / r1) (p2 / r1)) rfl ?_
    obtain ⟨rfl, rfl⟩ := so_2 hf
    exact hRet _ _ _ dX2_put_30
noncomputable def fX3_size (c3_size : Int32) : Option (Int32) := some c3_size
theorem ydX3_size : yX3_size.cls = RX3 ∧ yX3_size.cls ≠ "java/lang/invoke/MethodHandle" ∧ yX3_size.cls ≠ "java/lang/invoke/VarHandle" ∧ (parseMethodDescriptor yX3_size.desc).map (fun d => d.parameters.length) = some 0 := by decide +kernel
set_option maxHeartbeats 8000000 in
set_option maxRecDepth 100000 in
theorem kX3_size (l : Launch) (D : va_G) (cy : Nat → ClassId) (ad : Nat → Nat) (c3_size : Int32) (c3_rates : Nat → Int32) {ra : Int32} (hf : fX3_size c3_size = some ra) : CI l D cy yX3_size wsX3_size ({ frames := 0, cells := 0, slots := 0, locals := 0 } : Room) [.ref (ad 30)] (w3 cy ad c3_size c3_rates) ra (w3 cy ad c3_size c3_rates) := by
  unfold fX3_size at hf
  refine c_of_i (ty := .int) (own := RX3) (by decide) rfl rfl (Nat.le_of_ble_eq_true rfl) (fun X hC hRet => ?_)
  refine r_sub [(0, .ref (ad 30))] [0] rfl ?_
  have hin3 : ∀ w ∈ wsX30, w ∈ wsX3_size := fun w h => List.mem_cons_of_mem _ (List.mem_append_right _ h)
  have hw0 : Cond.fieldLink RX3 15 "HotPipes$Rates" "size" "I" ∈ wsX3_size := List.mem_of_getElem? (i := 1) rfl
  refine r_aload_n hC dX3_size_0 rfl 0 rfl ?_
  refine r_get hC hin3 0 rfl rfl 1 (by decide) rfl hw0 rfl dX3_size_1 ?_
  obtain rfl := so_1 hf
  exact hRet _ _ _ dX3_size_4 rfl
noncomputable def fX3_append (c3_size : Int32) (c3_rates : Nat → Int32) (p1 : Int32) : Option (Int32 × (Nat → Int32)) := og (vp_in c3_size 12) (some ((c3_size + 1), (upd c3_rates (Int32.toNatClampNeg c3_size) p1)))
theorem ydX3_append : yX3_append.cls = RX3 ∧ yX3_append.cls ≠ "java/lang/invoke/MethodHandle" ∧ yX3_append.cls ≠ "java/lang/invoke/VarHandle" ∧ (parseMethodDescriptor yX3_append.desc).map (fun d => d.parameters.length) = some 1 := by decide +kernel
set_option maxHeartbeats 8000000 in
set_option maxRecDepth 100000 in
theorem kX3_append (l : Launch) (D : va_G) (cy : Nat → ClassId) (ad : Nat → Nat) (c3_size : Int32) (c3_rates : Nat → Int32) (p1 : Int32) {z3_size : Int32} {z3_rates : Nat → Int32} (hf : fX3_append c3_size c3_rates p1 = some (z3_size, z3_rates)) : CV l D cy yX3_append wsX3_append ({ frames := 0, cells := 0, slots := 0, locals := 0 } : Room) [.ref (ad 30), .int p1] (w3 cy ad c3_size c3_rates) (w3 cy ad z3_size z3_rates) := by
  unfold fX3_append at hf
  refine c_of_v (own := RX3) (by decide) rfl rfl (Nat.le_of_ble_eq_true rfl) (fun X hC hRet => ?_)
  refine r_sub [(0, .ref (ad 30)), (1, .int p1)] [0, 1] rfl ?_
  have hin3 : ∀ w ∈ wsX30, w ∈ wsX3_append := fun w h => List.mem_cons_of_mem _ (List.mem_append_right _ h)
  have hw0 : Cond.fieldLink RX3 9 "HotPipes$Rates" "rates" "[I" ∈ wsX3_append := List.mem_of_getElem? (i := 1) rfl
  have hw1 : Cond.fieldLink RX3 15 "HotPipes$Rates" "size" "I" ∈ wsX3_append := List.mem_of_getElem? (i := 2) rfl
  refine r_aload_n hC dX3_append_0 rfl 0 rfl ?_
  refine r_get hC hin3 0 rfl rfl 0 (by decide) rfl hw0 rfl dX3_append_1 ?_
  refine r_aload_n hC dX3_append_4 rfl 0 rfl ?_
  refine r_get hC hin3 0 rfl rfl 1 (by decide) rfl hw1 rfl dX3_append_5 ?_
  refine r_iload_n hC dX3_append_8 rfl 1 rfl ?_
  obtain ⟨g1, hf⟩ := og_some hf
  refine r_iast hC 1 rfl g1 dX3_append_9 (w3 cy ad c3_size (upd c3_rates (Int32.toNatClampNeg c3_size) p1)) rfl ?_
  refine r_aload_n hC dX3_append_10 rfl 0 rfl ?_
  refine r_dup hC dX3_append_11 rfl ?_
  refine r_get hC hin3 0 rfl rfl 1 (by decide) rfl hw1 rfl dX3_append_12 ?_
  refine r_iconst hC dX3_append_15 ic_1 ?_
  refine r_iadd hC dX3_append_16 ?_
  refine r_put (ty := .int) hC hin3 tyX3_ok nmX3 0 rfl rfl 1 (by decide) rfl hw1 rfl rfl rfl rfl (Nat.le_of_ble_eq_true rfl) dX3_append_17 (w3 cy ad (c3_size + 1) (upd c3_rates (Int32.toNatClampNeg c3_size) p1)) rfl ?_
  obtain ⟨rfl, rfl⟩ := so_2 hf
  exact hRet _ _ _ dX3_append_20
noncomputable def fX3_greatestFirmEnough_L6 (c3_size : Int32) (c3_rates : Nat → Int32) (p1 : Int32) (p2 : Int32) : Nat → Int32 → Int32 → Option (Int32)
  | 0, _, _ => none
  | n + 1, x1, x2 => (if c3_size ≤ x2 then some x1 else og (vp_in x2 12) (ob ((if 0 < (lg_cmp ((8 * (Int32.toInt64 (c3_rates (Int32.toNatClampNeg x2)))) * (Int32.toInt64 p1)) (1000 * (Int32.toInt64 p2))) then some 0 else some 1)) (fun (t5 : Int32) => ob ((if t5 = 0 then some x1 else og (vp_in x2 12) ((if (c3_rates (Int32.toNatClampNeg x2)) ≤ x1 then some x1 else og (vp_in x2 12) (olet (c3_rates (Int32.toNatClampNeg x2)) (fun (x13 : Int32) => some x13)))))) (fun (x6 : Int32) => fX3_greatestFirmEnough_L6 c3_size c3_rates p1 p2 n x6 (x2 + 1)))))
noncomputable def fX3_greatestFirmEnough (N : Nat) (c3_size : Int32) (c3_rates : Nat → Int32) (p1 : Int32) (p2 : Int32) : Option (Int32) := fX3_greatestFirmEnough_L6 c3_size c3_rates p1 p2 N (-9) 0
theorem ydX3_greatestFirmEnough : yX3_greatestFirmEnough.cls = RX3 ∧ yX3_greatestFirmEnough.cls ≠ "java/lang/invoke/MethodHandle" ∧ yX3_greatestFirmEnough.cls ≠ "java/lang/invoke/VarHandle" ∧ (parseMethodDescriptor yX3_greatestFirmEnough.desc).map (fun d => d.parameters.length) = some 2 := by decide +kernel
set_option maxHeartbeats 8000000 in
set_option maxRecDepth 100000 in
theorem kX3_greatestFirmEnough (l : Launch) (D : va_G) (cy : Nat → ClassId) (ad : Nat → Nat) (c3_size : Int32) (c3_rates : Nat → Int32) (p1 : Int32) (p2 : Int32) (N : Nat) {ra : Int32} (hf : fX3_greatestFirmEnough N c3_size c3_rates p1 p2 = some ra) : CI l D cy yX3_greatestFirmEnough wsX3_greatestFirmEnough ({ frames := 0, cells := 0, slots := 0, locals := 0 } : Room) [.ref (ad 30), .int p1, .int p2] (w3 cy ad c3_size c3_rates) ra (w3 cy ad c3_size c3_rates) := by
  unfold fX3_greatestFirmEnough at hf
  refine c_of_i (ty := .int) (own := RX3) (by decide) rfl rfl (Nat.le_of_ble_eq_true rfl) (fun X hC hRet => ?_)
  refine r_sub [(0, .ref (ad 30)), (1, .int p1), (2, .int p2)] [0, 1, 2] rfl ?_
  have hin3 : ∀ w ∈ wsX30, w ∈ wsX3_greatestFirmEnough := fun w h => List.mem_cons_of_mem _ (List.mem_append_right _ h)
  have hw0 : Cond.fieldLink RX3 15 "HotPipes$Rates" "size" "I" ∈ wsX3_greatestFirmEnough := List.mem_of_getElem? (i := 1) rfl
  have hw1 : Cond.constantLong RX3 19 (8) ∈ wsX3_greatestFirmEnough := List.mem_of_getElem? (i := 2) rfl
  have hw2 : Cond.fieldLink RX3 9 "HotPipes$Rates" "rates" "[I" ∈ wsX3_greatestFirmEnough := List.mem_of_getElem? (i := 3) rfl
  have hw3 : Cond.constantLong RX3 21 (1000) ∈ wsX3_greatestFirmEnough := List.mem_of_getElem? (i := 4) rfl
  refine r_bipush hC dX3_greatestFirmEnough_0 bp_m9 ?_
  refine r_istore_n hC [(3, .int (-9)), (0, .ref (ad 30)), (1, .int p1), (2, .int p2)] dX3_greatestFirmEnough_2 rfl (by decide) rfl ?_
  refine r_iconst hC dX3_greatestFirmEnough_3 ic_0 ?_
  refine r_istore hC [(4, .int 0), (3, .int (-9)), (0, .ref (ad 30)), (1, .int p1), (2, .int p2)] dX3_greatestFirmEnough_4 (by decide) rfl ?_
  have L6 : ∀ (n : Nat) (x1 : Int32) (x2 : Int32), fX3_greatestFirmEnough_L6 c3_size c3_rates p1 p2 n x1 x2 = some ra → GG X 6 0 0 (w3 cy ad c3_size c3_rates) [(0, .ref (ad 30)), (1, .int p1), (2, .int p2), (3, .int x1), (4, .int x2)] 6 [] := by
    intro n
    induction n with
    | zero => intro x1 x2 hf; cases (show none = some _ from hf)
    | succ n ih =>
      intro x1 x2 hf
      rw [fX3_greatestFirmEnough_L6] at hf
      refine r_iload hC dX3_greatestFirmEnough_6 4 rfl ?_
      refine r_aload_n hC dX3_greatestFirmEnough_8 rfl 0 rfl ?_
      refine r_get hC hin3 0 rfl rfl 1 (by decide) rfl hw0 rfl dX3_greatestFirmEnough_9 ?_
      refine r_icmp_ge (tgt := 77) hC dX3_greatestFirmEnough_12 (by decide) (fun c3 => ?_) (fun c3 => ?_)
      · replace hf := o_pos hf c3
        refine r_iload_n hC dX3_greatestFirmEnough_77 rfl 3 rfl ?_
        obtain rfl := so_1 hf
        exact hRet _ _ _ dX3_greatestFirmEnough_78 rfl
      · replace hf := o_neg hf c3
        refine r_ldc2 hC hw1 dX3_greatestFirmEnough_15 ?_
        refine r_aload_n hC dX3_greatestFirmEnough_18 rfl 0 rfl ?_
        refine r_get hC hin3 0 rfl rfl 0 (by decide) rfl hw2 rfl dX3_greatestFirmEnough_19 ?_
        refine r_iload hC dX3_greatestFirmEnough_22 4 rfl ?_
        obtain ⟨g4, hf⟩ := og_some hf
        refine r_iald hC 1 rfl g4 dX3_greatestFirmEnough_24 ?_
        refine r_i2l hC dX3_greatestFirmEnough_25 ?_
        refine r_lmul hC dX3_greatestFirmEnough_26 ?_
        refine r_iload_n hC dX3_greatestFirmEnough_27 rfl 1 rfl ?_
        refine r_i2l hC dX3_greatestFirmEnough_28 ?_
        refine r_lmul hC dX3_greatestFirmEnough_29 ?_
        refine r_ldc2 hC hw3 dX3_greatestFirmEnough_30 ?_
        refine r_iload_n hC dX3_greatestFirmEnough_33 rfl 2 rfl ?_
        refine r_i2l hC dX3_greatestFirmEnough_34 ?_
        refine r_lmul hC dX3_greatestFirmEnough_35 ?_
        refine r_lcmp hC dX3_greatestFirmEnough_36 ?_
        obtain ⟨t5, h15, hf⟩ := ob_some hf
        have J45_14 : GG X 6 0 0 (w3 cy ad c3_size c3_rates) [(0, .ref (ad 30)), (1, .int p1), (2, .int p2), (3, .int x1), (4, .int x2)] 45 [.int t5] := by
          refine r_istore hC [(5, .int t5), (0, .ref (ad 30)), (1, .int p1), (2, .int p2), (3, .int x1), (4, .int x2)] dX3_greatestFirmEnough_45 (by decide) rfl ?_
          refine r_iload hC dX3_greatestFirmEnough_47 0 rfl ?_
          obtain ⟨x6, h8, hf⟩ := ob_some hf
          have J71_7 : GG X 6 0 0 (w3 cy ad c3_size c3_rates) [(0, .ref (ad 30)), (1, .int p1), (2, .int p2), (3, .int x6), (4, .int x2)] 71 [] := by
            refine r_iinc hC [(4, .int (x2 + 1)), (0, .ref (ad 30)), (1, .int p1), (2, .int p2), (3, .int x6)] (x2 + 1) dX3_greatestFirmEnough_71 4 rfl (ii_1 _) (by decide) rfl ?_
            refine r_goto (tgt := 6) hC dX3_greatestFirmEnough_74 (by decide) ?_
            refine r_sub [(0, .ref (ad 30)), (1, .int p1), (2, .int p2), (3, .int x6), (4, .int (x2 + 1))] [1, 2, 3, 4, 0] rfl ?_
            exact ih x6 (x2 + 1) hf
          replace hf := h8
          refine r_if_eq (tgt := 71) hC dX3_greatestFirmEnough_49 (by decide) (fun c9 => ?_) (fun c9 => ?_)
          · replace hf := o_pos hf c9
            obtain rfl := so_1 hf
            refine r_sub [(0, .ref (ad 30)), (1, .int p1), (2, .int p2), (3, .int x1), (4, .int x2)] [1, 2, 3, 4, 5] rfl ?_
            exact J71_7
          · replace hf := o_neg hf c9
            refine r_aload_n hC dX3_greatestFirmEnough_52 rfl 1 rfl ?_
            refine r_get hC hin3 0 rfl rfl 0 (by decide) rfl hw2 rfl dX3_greatestFirmEnough_53 ?_
            refine r_iload hC dX3_greatestFirmEnough_56 5 rfl ?_
            obtain ⟨g10, hf⟩ := og_some hf
            refine r_iald hC 1 rfl g10 dX3_greatestFirmEnough_58 ?_
            refine r_iload_n hC dX3_greatestFirmEnough_59 rfl 4 rfl ?_
            refine r_icmp_le (tgt := 71) hC dX3_greatestFirmEnough_60 (by decide) (fun c11 => ?_) (fun c11 => ?_)
            · replace hf := o_pos hf c11
              obtain rfl := so_1 hf
              refine r_sub [(0, .ref (ad 30)), (1, .int p1), (2, .int p2), (3, .int x1), (4, .int x2)] [1, 2, 3, 4, 5] rfl ?_
              exact J71_7
            · replace hf := o_neg hf c11
              refine r_aload_n hC dX3_greatestFirmEnough_63 rfl 1 rfl ?_
              refine r_get hC hin3 0 rfl rfl 0 (by decide) rfl hw2 rfl dX3_greatestFirmEnough_64 ?_
              refine r_iload hC dX3_greatestFirmEnough_67 5 rfl ?_
              obtain ⟨g12, hf⟩ := og_some hf
              refine r_iald hC 1 rfl g12 dX3_greatestFirmEnough_69 ?_
              refine r_topi (fun x13 ex13 => ?_)
              replace hf := olet_some hf ex13
              refine r_istore_n hC [(3, .int x13), (5, .int t5), (0, .ref (ad 30)), (1, .int p1), (2, .int p2), (4, .int x2)] dX3_greatestFirmEnough_70 rfl (by decide) rfl ?_
              obtain rfl := so_1 hf
              refine r_sub [(0, .ref (ad 30)), (1, .int p1), (2, .int p2), (3, .int x13), (4, .int x2)] [2, 3, 4, 0, 5] rfl ?_
              exact J71_7
        replace hf := h15
        refine r_if_gt (tgt := 44) hC dX3_greatestFirmEnough_37 (by decide) (fun c16 => ?_) (fun c16 => ?_)
        · replace hf := o_pos hf c16
          refine r_iconst hC dX3_greatestFirmEnough_44 ic_0 ?_
          obtain rfl := so_1 hf
          exact J45_14
        · replace hf := o_neg hf c16
          refine r_iconst hC dX3_greatestFirmEnough_40 ic_1 ?_
          refine r_goto (tgt := 45) hC dX3_greatestFirmEnough_41 (by decide) ?_
          obtain rfl := so_1 hf
          exact J45_14
  refine r_sub [(0, .ref (ad 30)), (1, .int p1), (2, .int p2), (3, .int (-9)), (4, .int 0)] [2, 3, 4, 1, 0] rfl ?_
  exact L6 N (-9) 0 hf
noncomputable def fX6_growthAt (c6_bytes : Nat → Int32) (c6_sizes : Nat → Int32) (p1 : Int32) (p2 : Int32) : Option (Int32) := og (vp_in p1 4) ((if (c6_sizes (Int32.toNatClampNeg p1)) ≤ p2 then some 0 else og (vp_in ((p1 * 16) + p2) 64) (some (c6_bytes (Int32.toNatClampNeg ((p1 * 16) + p2))))))
theorem ydX6_growthAt : yX6_growthAt.cls = RX6 ∧ yX6_growthAt.cls ≠ "java/lang/invoke/MethodHandle" ∧ yX6_growthAt.cls ≠ "java/lang/invoke/VarHandle" ∧ (parseMethodDescriptor yX6_growthAt.desc).map (fun d => d.parameters.length) = some 2 := by decide +kernel
set_option maxHeartbeats 8000000 in
set_option maxRecDepth 100000 in
theorem kX6_growthAt (l : Launch) (D : va_G) (cy : Nat → ClassId) (ad : Nat → Nat) (c6_bytes : Nat → Int32) (c6_sizes : Nat → Int32) (c6_weights : Nat → Int32) (p1 : Int32) (p2 : Int32) {ra : Int32} (hf : fX6_growthAt c6_bytes c6_sizes p1 p2 = some ra) : CI l D cy yX6_growthAt wsX6_growthAt ({ frames := 0, cells := 0, slots := 0, locals := 0 } : Room) [.ref (ad 60), .int p1, .int p2] (w6 cy ad c6_bytes c6_sizes c6_weights) ra (w6 cy ad c6_bytes c6_sizes c6_weights) := by
  unfold fX6_growthAt at hf
  refine c_of_i (ty := .int) (own := RX6) (by decide) rfl rfl (Nat.le_of_ble_eq_true rfl) (fun X hC hRet => ?_)
  refine r_sub [(0, .ref (ad 60)), (1, .int p1), (2, .int p2)] [0, 1, 2] rfl ?_
  have hin6 : ∀ w ∈ wsX60, w ∈ wsX6_growthAt := fun w h => List.mem_cons_of_mem _ (List.mem_append_right _ h)
  have hw0 : Cond.fieldLink RX6 15 "HotPipes$Stuffs" "sizes" "[I" ∈ wsX6_growthAt := List.mem_of_getElem? (i := 1) rfl
  have hw1 : Cond.fieldLink RX6 9 "HotPipes$Stuffs" "bytes" "[B" ∈ wsX6_growthAt := List.mem_of_getElem? (i := 2) rfl
  refine r_iload_n hC dX6_growthAt_0 rfl 2 rfl ?_
  refine r_aload_n hC dX6_growthAt_1 rfl 0 rfl ?_
  refine r_get hC hin6 0 rfl rfl 1 (by decide) rfl hw0 rfl dX6_growthAt_2 ?_
  refine r_iload_n hC dX6_growthAt_5 rfl 1 rfl ?_
  obtain ⟨g1, hf⟩ := og_some hf
  refine r_iald hC 2 rfl g1 dX6_growthAt_6 ?_
  refine r_icmp_ge (tgt := 24) hC dX6_growthAt_7 (by decide) (fun c2 => ?_) (fun c2 => ?_)
  · replace hf := o_pos hf c2
    refine r_iconst hC dX6_growthAt_24 ic_0 ?_
    obtain rfl := so_1 hf
    exact hRet _ _ _ dX6_growthAt_25 rfl
  · replace hf := o_neg hf c2
    refine r_aload_n hC dX6_growthAt_10 rfl 0 rfl ?_
    refine r_get hC hin6 0 rfl rfl 0 (by decide) rfl hw1 rfl dX6_growthAt_11 ?_
    refine r_iload_n hC dX6_growthAt_14 rfl 1 rfl ?_
    refine r_bipush hC dX6_growthAt_15 bp_16 ?_
    refine r_imul hC dX6_growthAt_17 ?_
    refine r_iload_n hC dX6_growthAt_18 rfl 2 rfl ?_
    refine r_iadd hC dX6_growthAt_19 ?_
    obtain ⟨g3, hf⟩ := og_some hf
    refine r_bald hC 1 rfl g3 dX6_growthAt_20 ?_
    refine r_goto (tgt := 25) hC dX6_growthAt_21 (by decide) ?_
    obtain rfl := so_1 hf
    exact hRet _ _ _ dX6_growthAt_25 rfl
noncomputable def fX6_weightOf (c6_weights : Nat → Int32) (p1 : Int32) : Option (Int32) := og (vp_in p1 4) (some (c6_weights (Int32.toNatClampNeg p1)))
theorem ydX6_weightOf : yX6_weightOf.cls = RX6 ∧ yX6_weightOf.cls ≠ "java/lang/invoke/MethodHandle" ∧ yX6_weightOf.cls ≠ "java/lang/invoke/VarHandle" ∧ (parseMethodDescriptor yX6_weightOf.desc).map (fun d => d.parameters.length) = some 1 := by decide +kernel
set_option maxHeartbeats 8000000 in
set_option maxRecDepth 100000 in
theorem kX6_weightOf (l : Launch) (D : va_G) (cy : Nat → ClassId) (ad : Nat → Nat) (c6_bytes : Nat → Int32) (c6_sizes : Nat → Int32) (c6_weights : Nat → Int32) (p1 : Int32) {ra : Int32} (hf : fX6_weightOf c6_weights p1 = some ra) : CI l D cy yX6_weightOf wsX6_weightOf ({ frames := 0, cells := 0, slots := 0, locals := 0 } : Room) [.ref (ad 60), .int p1] (w6 cy ad c6_bytes c6_sizes c6_weights) ra (w6 cy ad c6_bytes c6_sizes c6_weights) := by
  unfold fX6_weightOf at hf
  refine c_of_i (ty := .int) (own := RX6) (by decide) rfl rfl (Nat.le_of_ble_eq_true rfl) (fun X hC hRet => ?_)
  refine r_sub [(0, .ref (ad 60)), (1, .int p1)] [0, 1] rfl ?_
  have hin6 : ∀ w ∈ wsX60, w ∈ wsX6_weightOf := fun w h => List.mem_cons_of_mem _ (List.mem_append_right _ h)
  have hw0 : Cond.fieldLink RX6 19 "HotPipes$Stuffs" "weights" "[I" ∈ wsX6_weightOf := List.mem_of_getElem? (i := 1) rfl
  refine r_aload_n hC dX6_weightOf_0 rfl 0 rfl ?_
  refine r_get hC hin6 0 rfl rfl 2 (by decide) rfl hw0 rfl dX6_weightOf_1 ?_
  refine r_iload_n hC dX6_weightOf_4 rfl 1 rfl ?_
  obtain ⟨g1, hf⟩ := og_some hf
  refine r_iald hC 3 rfl g1 dX6_weightOf_5 ?_
  obtain rfl := so_1 hf
  exact hRet _ _ _ dX6_weightOf_6 rfl
noncomputable def fX6_isThere (c6_sizes : Nat → Int32) (p1 : Int32) : Option (Int32) := og (vp_in p1 4) ((if (c6_sizes (Int32.toNatClampNeg p1)) = (-1) then some 0 else some 1))
theorem ydX6_isThere : yX6_isThere.cls = RX6 ∧ yX6_isThere.cls ≠ "java/lang/invoke/MethodHandle" ∧ yX6_isThere.cls ≠ "java/lang/invoke/VarHandle" ∧ (parseMethodDescriptor yX6_isThere.desc).map (fun d => d.parameters.length) = some 1 := by decide +kernel
set_option maxHeartbeats 8000000 in
set_option maxRecDepth 100000 in
theorem kX6_isThere (l : Launch) (D : va_G) (cy : Nat → ClassId) (ad : Nat → Nat) (c6_bytes : Nat → Int32) (c6_sizes : Nat → Int32) (c6_weights : Nat → Int32) (p1 : Int32) {ra : Int32} (hf : fX6_isThere c6_sizes p1 = some ra) : CI l D cy yX6_isThere wsX6_isThere ({ frames := 0, cells := 0, slots := 0, locals := 0 } : Room) [.ref (ad 60), .int p1] (w6 cy ad c6_bytes c6_sizes c6_weights) ra (w6 cy ad c6_bytes c6_sizes c6_weights) := by
  unfold fX6_isThere at hf
  refine c_of_i (ty := .boolean) (own := RX6) (by decide) rfl rfl (Nat.le_of_ble_eq_true rfl) (fun X hC hRet => ?_)
  refine r_sub [(0, .ref (ad 60)), (1, .int p1)] [0, 1] rfl ?_
  have hin6 : ∀ w ∈ wsX60, w ∈ wsX6_isThere := fun w h => List.mem_cons_of_mem _ (List.mem_append_right _ h)
  have hw0 : Cond.fieldLink RX6 15 "HotPipes$Stuffs" "sizes" "[I" ∈ wsX6_isThere := List.mem_of_getElem? (i := 1) rfl
  refine r_aload_n hC dX6_isThere_0 rfl 0 rfl ?_
  refine r_get hC hin6 0 rfl rfl 1 (by decide) rfl hw0 rfl dX6_isThere_1 ?_
  refine r_iload_n hC dX6_isThere_4 rfl 1 rfl ?_
  obtain ⟨g1, hf⟩ := og_some hf
  refine r_iald hC 2 rfl g1 dX6_isThere_5 ?_
  refine r_iconst hC dX6_isThere_6 ic_m1 ?_
  refine r_icmp_eq (tgt := 14) hC dX6_isThere_7 (by decide) (fun c2 => ?_) (fun c2 => ?_)
  · replace hf := o_pos hf c2
    refine r_iconst hC dX6_isThere_14 ic_0 ?_
    obtain rfl := so_1 hf
    exact hRet _ _ _ dX6_isThere_15 nb_0
  · replace hf := o_neg hf c2
    refine r_iconst hC dX6_isThere_10 ic_1 ?_
    refine r_goto (tgt := 15) hC dX6_isThere_11 (by decide) ?_
    obtain rfl := so_1 hf
    exact hRet _ _ _ dX6_isThere_15 nb_1
noncomputable def fX6_hasBytes (c6_sizes : Nat → Int32) (p1 : Int32) (p2 : Int32) (p3 : Int32) : Option (Int32) := oj (some 0) (fun (K34_1 : Option (Int32)) => (if p2 < 0 then K34_1 else (if p3 < 0 then K34_1 else og (vp_in p1 4) ((if (c6_sizes (Int32.toNatClampNeg p1)) < p2 then K34_1 else og (vp_in p1 4) ((if ((c6_sizes (Int32.toNatClampNeg p1)) - p2) < p3 then K34_1 else some 1)))))))
theorem ydX6_hasBytes : yX6_hasBytes.cls = RX6 ∧ yX6_hasBytes.cls ≠ "java/lang/invoke/MethodHandle" ∧ yX6_hasBytes.cls ≠ "java/lang/invoke/VarHandle" ∧ (parseMethodDescriptor yX6_hasBytes.desc).map (fun d => d.parameters.length) = some 3 := by decide +kernel
set_option maxHeartbeats 8000000 in
set_option maxRecDepth 100000 in
theorem kX6_hasBytes (l : Launch) (D : va_G) (cy : Nat → ClassId) (ad : Nat → Nat) (c6_bytes : Nat → Int32) (c6_sizes : Nat → Int32) (c6_weights : Nat → Int32) (p1 : Int32) (p2 : Int32) (p3 : Int32) {ra : Int32} (hf : fX6_hasBytes c6_sizes p1 p2 p3 = some ra) : CI l D cy yX6_hasBytes wsX6_hasBytes ({ frames := 0, cells := 0, slots := 0, locals := 0 } : Room) [.ref (ad 60), .int p1, .int p2, .int p3] (w6 cy ad c6_bytes c6_sizes c6_weights) ra (w6 cy ad c6_bytes c6_sizes c6_weights) := by
  unfold fX6_hasBytes at hf
  refine c_of_i (ty := .boolean) (own := RX6) (by decide) rfl rfl (Nat.le_of_ble_eq_true rfl) (fun X hC hRet => ?_)
  refine r_sub [(0, .ref (ad 60)), (1, .int p1), (2, .int p2), (3, .int p3)] [0, 1, 2, 3] rfl ?_
  have hin6 : ∀ w ∈ wsX60, w ∈ wsX6_hasBytes := fun w h => List.mem_cons_of_mem _ (List.mem_append_right _ h)
  have hw0 : Cond.fieldLink RX6 15 "HotPipes$Stuffs" "sizes" "[I" ∈ wsX6_hasBytes := List.mem_of_getElem? (i := 1) rfl
  refine r_iload_n hC dX6_hasBytes_0 rfl 2 rfl ?_
  obtain ⟨K34_1, eK34_1, hf⟩ := oj_some hf
  have J34_1 : K34_1 = some ra → GG X 4 0 0 (w6 cy ad c6_bytes c6_sizes c6_weights) [] 34 [] := by
    intro hf
    replace hf := oa0 eK34_1 hf
    refine r_iconst hC dX6_hasBytes_34 ic_0 ?_
    obtain rfl := so_1 hf
    exact hRet _ _ _ dX6_hasBytes_35 nb_0
  refine r_if_lt (tgt := 34) hC dX6_hasBytes_1 (by decide) (fun c2 => ?_) (fun c2 => ?_)
  · replace hf := o_pos hf c2
    refine r_sub [] [] rfl ?_
    exact J34_1 hf
  · replace hf := o_neg hf c2
    refine r_iload_n hC dX6_hasBytes_4 rfl 3 rfl ?_
    refine r_if_lt (tgt := 34) hC dX6_hasBytes_5 (by decide) (fun c3 => ?_) (fun c3 => ?_)
    · replace hf := o_pos hf c3
      refine r_sub [] [] rfl ?_
      exact J34_1 hf
    · replace hf := o_neg hf c3
      refine r_iload_n hC dX6_hasBytes_8 rfl 2 rfl ?_
      refine r_aload_n hC dX6_hasBytes_9 rfl 0 rfl ?_
      refine r_get hC hin6 0 rfl rfl 1 (by decide) rfl hw0 rfl dX6_hasBytes_10 ?_
      refine r_iload_n hC dX6_hasBytes_13 rfl 1 rfl ?_
      obtain ⟨g4, hf⟩ := og_some hf
      refine r_iald hC 2 rfl g4 dX6_hasBytes_14 ?_
      refine r_icmp_gt (tgt := 34) hC dX6_hasBytes_15 (by decide) (fun c5 => ?_) (fun c5 => ?_)
      · replace hf := o_pos hf c5
        refine r_sub [] [] rfl ?_
        exact J34_1 hf
      · replace hf := o_neg hf c5
        refine r_iload_n hC dX6_hasBytes_18 rfl 3 rfl ?_
        refine r_aload_n hC dX6_hasBytes_19 rfl 0 rfl ?_
        refine r_get hC hin6 0 rfl rfl 1 (by decide) rfl hw0 rfl dX6_hasBytes_20 ?_
        refine r_iload_n hC dX6_hasBytes_23 rfl 1 rfl ?_
        obtain ⟨g6, hf⟩ := og_some hf
        refine r_iald hC 2 rfl g6 dX6_hasBytes_24 ?_
        refine r_iload_n hC dX6_hasBytes_25 rfl 2 rfl ?_
        refine r_isub hC dX6_hasBytes_26 ?_
        refine r_icmp_gt (tgt := 34) hC dX6_hasBytes_27 (by decide) (fun c7 => ?_) (fun c7 => ?_)
        · replace hf := o_pos hf c7
          refine r_sub [] [] rfl ?_
          exact J34_1 hf
        · replace hf := o_neg hf c7
          refine r_iconst hC dX6_hasBytes_30 ic_1 ?_
          refine r_goto (tgt := 35) hC dX6_hasBytes_31 (by decide) ?_
          obtain rfl := so_1 hf
          exact hRet _ _ _ dX6_hasBytes_35 nb_1
noncomputable def fX6_sizeOf (c6_sizes : Nat → Int32) (p1 : Int32) : Option (Int32) := og (vp_in p1 4) (some (c6_sizes (Int32.toNatClampNeg p1)))
theorem ydX6_sizeOf : yX6_sizeOf.cls = RX6 ∧ yX6_sizeOf.cls ≠ "java/lang/invoke/MethodHandle" ∧ yX6_sizeOf.cls ≠ "java/lang/invoke/VarHandle" ∧ (parseMethodDescriptor yX6_sizeOf.desc).map (fun d => d.parameters.length) = some 1 := by decide +kernel
set_option maxHeartbeats 8000000 in
set_option maxRecDepth 100000 in
theorem kX6_sizeOf (l : Launch) (D : va_G) (cy : Nat → ClassId) (ad : Nat → Nat) (c6_bytes : Nat → Int32) (c6_sizes : Nat → Int32) (c6_weights : Nat → Int32) (p1 : Int32) {ra : Int32} (hf : fX6_sizeOf c6_sizes p1 = some ra) : CI l D cy yX6_sizeOf wsX6_sizeOf ({ frames := 0, cells := 0, slots := 0, locals := 0 } : Room) [.ref (ad 60), .int p1] (w6 cy ad c6_bytes c6_sizes c6_weights) ra (w6 cy ad c6_bytes c6_sizes c6_weights) := by
  unfold fX6_sizeOf at hf
  refine c_of_i (ty := .int) (own := RX6) (by decide) rfl rfl (Nat.le_of_ble_eq_true rfl) (fun X hC hRet => ?_)
  refine r_sub [(0, .ref (ad 60)), (1, .int p1)] [0, 1] rfl ?_
  have hin6 : ∀ w ∈ wsX60, w ∈ wsX6_sizeOf := fun w h => List.mem_cons_of_mem _ (List.mem_append_right _ h)
  have hw0 : Cond.fieldLink RX6 15 "HotPipes$Stuffs" "sizes" "[I" ∈ wsX6_sizeOf := List.mem_of_getElem? (i := 1) rfl
  refine r_aload_n hC dX6_sizeOf_0 rfl 0 rfl ?_
  refine r_get hC hin6 0 rfl rfl 1 (by decide) rfl hw0 rfl dX6_sizeOf_1 ?_
  refine r_iload_n hC dX6_sizeOf_4 rfl 1 rfl ?_
  obtain ⟨g1, hf⟩ := og_some hf
  refine r_iald hC 2 rfl g1 dX6_sizeOf_5 ?_
  obtain rfl := so_1 hf
  exact hRet _ _ _ dX6_sizeOf_6 rfl
noncomputable def fX6_begin_L2 (p1 : Int32) (K26_2 : (Nat → Int32) → Option ((Nat → Int32) × (Nat → Int32))) : Nat → Int32 → (Nat → Int32) → Option ((Nat → Int32) × (Nat → Int32))
  | 0, _, _ => none
  | n + 1, x4, s5 => (if 16 ≤ x4 then K26_2 s5 else og (vp_in ((p1 * 16) + x4) 64) (fX6_begin_L2 p1 K26_2 n (x4 + 1) (upd s5 (Int32.toNatClampNeg ((p1 * 16) + x4)) (vp_nar .byte 0))))
noncomputable def fX6_begin (N : Nat) (c6_bytes : Nat → Int32) (c6_sizes : Nat → Int32) (p1 : Int32) (p2 : Int32) : Option ((Nat → Int32) × (Nat → Int32)) := oj (fun (s1 : Nat → Int32) => og (vp_in p1 4) (some (s1, (upd c6_sizes (Int32.toNatClampNeg p1) p2)))) (fun (K26_2 : (Nat → Int32) → Option ((Nat → Int32) × (Nat → Int32))) => fX6_begin_L2 p1 K26_2 N 0 c6_bytes)
theorem ydX6_begin : yX6_begin.cls = RX6 ∧ yX6_begin.cls ≠ "java/lang/invoke/MethodHandle" ∧ yX6_begin.cls ≠ "java/lang/invoke/VarHandle" ∧ (parseMethodDescriptor yX6_begin.desc).map (fun d => d.parameters.length) = some 2 := by decide +kernel
set_option maxHeartbeats 8000000 in
set_option maxRecDepth 100000 in
theorem kX6_begin (l : Launch) (D : va_G) (cy : Nat → ClassId) (ad : Nat → Nat) (c6_bytes : Nat → Int32) (c6_sizes : Nat → Int32) (c6_weights : Nat → Int32) (p1 : Int32) (p2 : Int32) (N : Nat) {z6_bytes : Nat → Int32} {z6_sizes : Nat → Int32} (hf : fX6_begin N c6_bytes c6_sizes p1 p2 = some (z6_bytes, z6_sizes)) : CV l D cy yX6_begin wsX6_begin ({ frames := 0, cells := 0, slots := 0, locals := 0 } : Room) [.ref (ad 60), .int p1, .int p2] (w6 cy ad c6_bytes c6_sizes c6_weights) (w6 cy ad z6_bytes z6_sizes c6_weights) := by
  unfold fX6_begin at hf
  refine c_of_v (own := RX6) (by decide) rfl rfl (Nat.le_of_ble_eq_true rfl) (fun X hC hRet => ?_)
  refine r_sub [(0, .ref (ad 60)), (1, .int p1), (2, .int p2)] [0, 1, 2] rfl ?_
  have hin6 : ∀ w ∈ wsX60, w ∈ wsX6_begin := fun w h => List.mem_cons_of_mem _ (List.mem_append_right _ h)
  have hw0 : Cond.fieldLink RX6 15 "HotPipes$Stuffs" "sizes" "[I" ∈ wsX6_begin := List.mem_of_getElem? (i := 2) rfl
  have hw1 : Cond.fieldLink RX6 9 "HotPipes$Stuffs" "bytes" "[B" ∈ wsX6_begin := List.mem_of_getElem? (i := 1) rfl
  refine r_iconst hC dX6_begin_0 ic_0 ?_
  refine r_istore_n hC [(3, .int 0), (0, .ref (ad 60)), (1, .int p1), (2, .int p2)] dX6_begin_1 rfl (by decide) rfl ?_
  obtain ⟨K26_2, eK26_2, hf⟩ := oj_some hf
  have J26_2 : ∀ (s1 : Nat → Int32), K26_2 s1 = some (z6_bytes, z6_sizes) → GG X 4 0 0 (w6 cy ad s1 c6_sizes c6_weights) [(0, .ref (ad 60)), (1, .int p1), (2, .int p2)] 26 [] := by
    intro s1 hf
    replace hf := oa1 eK26_2 hf
    refine r_aload_n hC dX6_begin_26 rfl 0 rfl ?_
    refine r_get hC hin6 0 rfl rfl 1 (by decide) rfl hw0 rfl dX6_begin_27 ?_
    refine r_iload_n hC dX6_begin_30 rfl 1 rfl ?_
    refine r_iload_n hC dX6_begin_31 rfl 2 rfl ?_
    obtain ⟨g3, hf⟩ := og_some hf
    refine r_iast hC 2 rfl g3 dX6_begin_32 (w6 cy ad s1 (upd c6_sizes (Int32.toNatClampNeg p1) p2) c6_weights) rfl ?_
    obtain ⟨rfl, rfl⟩ := so_2 hf
    exact hRet _ _ _ dX6_begin_33
  have L2 : ∀ (n : Nat) (x4 : Int32) (s5 : Nat → Int32), fX6_begin_L2 p1 K26_2 n x4 s5 = some (z6_bytes, z6_sizes) → GG X 4 0 0 (w6 cy ad s5 c6_sizes c6_weights) [(0, .ref (ad 60)), (1, .int p1), (2, .int p2), (3, .int x4)] 2 [] := by
    intro n
    induction n with
    | zero => intro x4 s5 hf; cases (show none = some _ from hf)
    | succ n ih =>
      intro x4 s5 hf
      rw [fX6_begin_L2] at hf
      refine r_iload_n hC dX6_begin_2 rfl 3 rfl ?_
      refine r_bipush hC dX6_begin_3 bp_16 ?_
      refine r_icmp_ge (tgt := 26) hC dX6_begin_5 (by decide) (fun c6 => ?_) (fun c6 => ?_)
      · replace hf := o_pos hf c6
        refine r_sub [(0, .ref (ad 60)), (1, .int p1), (2, .int p2)] [0, 1, 2] rfl ?_
        exact J26_2 s5 hf
      · replace hf := o_neg hf c6
        refine r_aload_n hC dX6_begin_8 rfl 0 rfl ?_
        refine r_get hC hin6 0 rfl rfl 0 (by decide) rfl hw1 rfl dX6_begin_9 ?_
        refine r_iload_n hC dX6_begin_12 rfl 1 rfl ?_
        refine r_bipush hC dX6_begin_13 bp_16 ?_
        refine r_imul hC dX6_begin_15 ?_
        refine r_iload_n hC dX6_begin_16 rfl 3 rfl ?_
        refine r_iadd hC dX6_begin_17 ?_
        refine r_iconst hC dX6_begin_18 ic_0 ?_
        obtain ⟨g7, hf⟩ := og_some hf
        refine r_bast hC 1 rfl g7 dX6_begin_19 (w6 cy ad (upd s5 (Int32.toNatClampNeg ((p1 * 16) + x4)) (vp_nar .byte 0)) c6_sizes c6_weights) rfl ?_
        refine r_iinc hC [(3, .int (x4 + 1)), (0, .ref (ad 60)), (1, .int p1), (2, .int p2)] (x4 + 1) dX6_begin_20 3 rfl (ii_1 _) (by decide) rfl ?_
        refine r_goto (tgt := 2) hC dX6_begin_23 (by decide) ?_
        refine r_sub [(0, .ref (ad 60)), (1, .int p1), (2, .int p2), (3, .int (x4 + 1))] [1, 2, 3, 0] rfl ?_
        exact ih (x4 + 1) (upd s5 (Int32.toNatClampNeg ((p1 * 16) + x4)) (vp_nar .byte 0)) hf
  refine r_sub [(0, .ref (ad 60)), (1, .int p1), (2, .int p2), (3, .int 0)] [1, 2, 3, 0] rfl ?_
  exact L2 N 0 c6_bytes hf
noncomputable def fX6_end (c6_sizes : Nat → Int32) (p1 : Int32) : Option ((Nat → Int32)) := og (vp_in p1 4) (some (upd c6_sizes (Int32.toNatClampNeg p1) (-1)))
theorem ydX6_end : yX6_end.cls = RX6 ∧ yX6_end.cls ≠ "java/lang/invoke/MethodHandle" ∧ yX6_end.cls ≠ "java/lang/invoke/VarHandle" ∧ (parseMethodDescriptor yX6_end.desc).map (fun d => d.parameters.length) = some 1 := by decide +kernel
set_option maxHeartbeats 8000000 in
set_option maxRecDepth 100000 in
theorem kX6_end (l : Launch) (D : va_G) (cy : Nat → ClassId) (ad : Nat → Nat) (c6_bytes : Nat → Int32) (c6_sizes : Nat → Int32) (c6_weights : Nat → Int32) (p1 : Int32) {z6_sizes : Nat → Int32} (hf : fX6_end c6_sizes p1 = some z6_sizes) : CV l D cy yX6_end wsX6_end ({ frames := 0, cells := 0, slots := 0, locals := 0 } : Room) [.ref (ad 60), .int p1] (w6 cy ad c6_bytes c6_sizes c6_weights) (w6 cy ad c6_bytes z6_sizes c6_weights) := by
  unfold fX6_end at hf
  refine c_of_v (own := RX6) (by decide) rfl rfl (Nat.le_of_ble_eq_true rfl) (fun X hC hRet => ?_)
  refine r_sub [(0, .ref (ad 60)), (1, .int p1)] [0, 1] rfl ?_
  have hin6 : ∀ w ∈ wsX60, w ∈ wsX6_end := fun w h => List.mem_cons_of_mem _ (List.mem_append_right _ h)
  have hw0 : Cond.fieldLink RX6 15 "HotPipes$Stuffs" "sizes" "[I" ∈ wsX6_end := List.mem_of_getElem? (i := 1) rfl
  refine r_aload_n hC dX6_end_0 rfl 0 rfl ?_
  refine r_get hC hin6 0 rfl rfl 1 (by decide) rfl hw0 rfl dX6_end_1 ?_
  refine r_iload_n hC dX6_end_4 rfl 1 rfl ?_
  refine r_iconst hC dX6_end_5 ic_m1 ?_
  obtain ⟨g1, hf⟩ := og_some hf
  refine r_iast hC 2 rfl g1 dX6_end_6 (w6 cy ad c6_bytes (upd c6_sizes (Int32.toNatClampNeg p1) (-1)) c6_weights) rfl ?_
  obtain rfl := so_1 hf
  exact hRet _ _ _ dX6_end_7
noncomputable def fX6_replace (c6_bytes : Nat → Int32) (p1 : Int32) (p2 : Int32) (p3 : Int32) : Option (Int32 × (Nat → Int32)) := og (vp_in ((p1 * 16) + p2) 64) (olet (c6_bytes (Int32.toNatClampNeg ((p1 * 16) + p2))) (fun (x2 : Int32) => og (vp_in ((p1 * 16) + p2) 64) (some (x2, (upd c6_bytes (Int32.toNatClampNeg ((p1 * 16) + p2)) (vp_nar .byte p3))))))
theorem ydX6_replace : yX6_replace.cls = RX6 ∧ yX6_replace.cls ≠ "java/lang/invoke/MethodHandle" ∧ yX6_replace.cls ≠ "java/lang/invoke/VarHandle" ∧ (parseMethodDescriptor yX6_replace.desc).map (fun d => d.parameters.length) = some 3 := by decide +kernel
set_option maxHeartbeats 8000000 in
set_option maxRecDepth 100000 in
theorem kX6_replace (l : Launch) (D : va_G) (cy : Nat → ClassId) (ad : Nat → Nat) (c6_bytes : Nat → Int32) (c6_sizes : Nat → Int32) (c6_weights : Nat → Int32) (p1 : Int32) (p2 : Int32) (p3 : Int32) {ra : Int32} {z6_bytes : Nat → Int32} (hf : fX6_replace c6_bytes p1 p2 p3 = some (ra, z6_bytes)) : CI l D cy yX6_replace wsX6_replace ({ frames := 0, cells := 0, slots := 0, locals := 0 } : Room) [.ref (ad 60), .int p1, .int p2, .int p3] (w6 cy ad c6_bytes c6_sizes c6_weights) ra (w6 cy ad z6_bytes c6_sizes c6_weights) := by
  unfold fX6_replace at hf
  refine c_of_i (ty := .int) (own := RX6) (by decide) rfl rfl (Nat.le_of_ble_eq_true rfl) (fun X hC hRet => ?_)
  refine r_sub [(0, .ref (ad 60)), (1, .int p1), (2, .int p2), (3, .int p3)] [0, 1, 2, 3] rfl ?_
  have hin6 : ∀ w ∈ wsX60, w ∈ wsX6_replace := fun w h => List.mem_cons_of_mem _ (List.mem_append_right _ h)
  have hw0 : Cond.fieldLink RX6 9 "HotPipes$Stuffs" "bytes" "[B" ∈ wsX6_replace := List.mem_of_getElem? (i := 1) rfl
  refine r_aload_n hC dX6_replace_0 rfl 0 rfl ?_
  refine r_get hC hin6 0 rfl rfl 0 (by decide) rfl hw0 rfl dX6_replace_1 ?_
  refine r_iload_n hC dX6_replace_4 rfl 1 rfl ?_
  refine r_bipush hC dX6_replace_5 bp_16 ?_
  refine r_imul hC dX6_replace_7 ?_
  refine r_iload_n hC dX6_replace_8 rfl 2 rfl ?_
  refine r_iadd hC dX6_replace_9 ?_
  obtain ⟨g1, hf⟩ := og_some hf
  refine r_bald hC 1 rfl g1 dX6_replace_10 ?_
  refine r_topi (fun x2 ex2 => ?_)
  replace hf := olet_some hf ex2
  refine r_istore hC [(4, .int x2), (0, .ref (ad 60)), (1, .int p1), (2, .int p2), (3, .int p3)] dX6_replace_11 (by decide) rfl ?_
  refine r_aload_n hC dX6_replace_13 rfl 1 rfl ?_
  refine r_get hC hin6 0 rfl rfl 0 (by decide) rfl hw0 rfl dX6_replace_14 ?_
  refine r_iload_n hC dX6_replace_17 rfl 2 rfl ?_
  refine r_bipush hC dX6_replace_18 bp_16 ?_
  refine r_imul hC dX6_replace_20 ?_
  refine r_iload_n hC dX6_replace_21 rfl 3 rfl ?_
  refine r_iadd hC dX6_replace_22 ?_
  refine r_iload_n hC dX6_replace_23 rfl 4 rfl ?_
  obtain ⟨g3, hf⟩ := og_some hf
  refine r_bast hC 1 rfl g3 dX6_replace_24 (w6 cy ad (upd c6_bytes (Int32.toNatClampNeg ((p1 * 16) + p2)) (vp_nar .byte p3)) c6_sizes c6_weights) rfl ?_
  refine r_iload hC dX6_replace_25 0 rfl ?_
  obtain ⟨rfl, rfl⟩ := so_2 hf
  exact hRet _ _ _ dX6_replace_27 rfl
noncomputable def fX6_reweigh (c6_weights : Nat → Int32) (p1 : Int32) (p2 : Int32) : Option (Int32 × (Nat → Int32)) := og (vp_in p1 4) (olet (c6_weights (Int32.toNatClampNeg p1)) (fun (x2 : Int32) => og (vp_in p1 4) (some (x2, (upd c6_weights (Int32.toNatClampNeg p1) p2)))))
theorem ydX6_reweigh : yX6_reweigh.cls = RX6 ∧ yX6_reweigh.cls ≠ "java/lang/invoke/MethodHandle" ∧ yX6_reweigh.cls ≠ "java/lang/invoke/VarHandle" ∧ (parseMethodDescriptor yX6_reweigh.desc).map (fun d => d.parameters.length) = some 2 := by decide +kernel
set_option maxHeartbeats 8000000 in
set_option maxRecDepth 100000 in
theorem kX6_reweigh (l : Launch) (D : va_G) (cy : Nat → ClassId) (ad : Nat → Nat) (c6_bytes : Nat → Int32) (c6_sizes : Nat → Int32) (c6_weights : Nat → Int32) (p1 : Int32) (p2 : Int32) {ra : Int32} {z6_weights : Nat → Int32} (hf : fX6_reweigh c6_weights p1 p2 = some (ra, z6_weights)) : CI l D cy yX6_reweigh wsX6_reweigh ({ frames := 0, cells := 0, slots := 0, locals := 0 } : Room) [.ref (ad 60), .int p1, .int p2] (w6 cy ad c6_bytes c6_sizes c6_weights) ra (w6 cy ad c6_bytes c6_sizes z6_weights) := by
  unfold fX6_reweigh at hf
  refine c_of_i (ty := .int) (own := RX6) (by decide) rfl rfl (Nat.le_of_ble_eq_true rfl) (fun X hC hRet => ?_)
  refine r_sub [(0, .ref (ad 60)), (1, .int p1), (2, .int p2)] [0, 1, 2] rfl ?_
  have hin6 : ∀ w ∈ wsX60, w ∈ wsX6_reweigh := fun w h => List.mem_cons_of_mem _ (List.mem_append_right _ h)
  have hw0 : Cond.fieldLink RX6 19 "HotPipes$Stuffs" "weights" "[I" ∈ wsX6_reweigh := List.mem_of_getElem? (i := 1) rfl
  refine r_aload_n hC dX6_reweigh_0 rfl 0 rfl ?_
  refine r_get hC hin6 0 rfl rfl 2 (by decide) rfl hw0 rfl dX6_reweigh_1 ?_
  refine r_iload_n hC dX6_reweigh_4 rfl 1 rfl ?_
  obtain ⟨g1, hf⟩ := og_some hf
  refine r_iald hC 3 rfl g1 dX6_reweigh_5 ?_
  refine r_topi (fun x2 ex2 => ?_)
  replace hf := olet_some hf ex2
  refine r_istore_n hC [(3, .int x2), (0, .ref (ad 60)), (1, .int p1), (2, .int p2)] dX6_reweigh_6 rfl (by decide) rfl ?_
  refine r_aload_n hC dX6_reweigh_7 rfl 1 rfl ?_
  refine r_get hC hin6 0 rfl rfl 2 (by decide) rfl hw0 rfl dX6_reweigh_8 ?_
  refine r_iload_n hC dX6_reweigh_11 rfl 2 rfl ?_
  refine r_iload_n hC dX6_reweigh_12 rfl 3 rfl ?_
  obtain ⟨g3, hf⟩ := og_some hf
  refine r_iast hC 3 rfl g3 dX6_reweigh_13 (w6 cy ad c6_bytes c6_sizes (upd c6_weights (Int32.toNatClampNeg p1) p2)) rfl ?_
  refine r_iload_n hC dX6_reweigh_14 rfl 0 rfl ?_
  obtain ⟨rfl, rfl⟩ := so_2 hf
  exact hRet _ _ _ dX6_reweigh_15 rfl
noncomputable def fX6_sumOf_L4 (c6_bytes : Nat → Int32) (c6_sizes : Nat → Int32) (p1 : Int32) : Nat → Int32 → Int32 → Option (Int32)
  | 0, _, _ => none
  | n + 1, x1, x2 => og (vp_in p1 4) ((if (c6_sizes (Int32.toNatClampNeg p1)) ≤ x2 then some x1 else og (vp_in ((p1 * 16) + x2) 64) (olet (x1 + (c6_bytes (Int32.toNatClampNeg ((p1 * 16) + x2)))) (fun (x6 : Int32) => fX6_sumOf_L4 c6_bytes c6_sizes p1 n x6 (x2 + 1)))))
noncomputable def fX6_sumOf (N : Nat) (c6_bytes : Nat → Int32) (c6_sizes : Nat → Int32) (p1 : Int32) : Option (Int32) := fX6_sumOf_L4 c6_bytes c6_sizes p1 N 0 0
theorem ydX6_sumOf : yX6_sumOf.cls = RX6 ∧ yX6_sumOf.cls ≠ "java/lang/invoke/MethodHandle" ∧ yX6_sumOf.cls ≠ "java/lang/invoke/VarHandle" ∧ (parseMethodDescriptor yX6_sumOf.desc).map (fun d => d.parameters.length) = some 1 := by decide +kernel
set_option maxHeartbeats 8000000 in
set_option maxRecDepth 100000 in
theorem kX6_sumOf (l : Launch) (D : va_G) (cy : Nat → ClassId) (ad : Nat → Nat) (c6_bytes : Nat → Int32) (c6_sizes : Nat → Int32) (c6_weights : Nat → Int32) (p1 : Int32) (N : Nat) {ra : Int32} (hf : fX6_sumOf N c6_bytes c6_sizes p1 = some ra) : CI l D cy yX6_sumOf wsX6_sumOf ({ frames := 0, cells := 0, slots := 0, locals := 0 } : Room) [.ref (ad 60), .int p1] (w6 cy ad c6_bytes c6_sizes c6_weights) ra (w6 cy ad c6_bytes c6_sizes c6_weights) := by
  unfold fX6_sumOf at hf
  refine c_of_i (ty := .int) (own := RX6) (by decide) rfl rfl (Nat.le_of_ble_eq_true rfl) (fun X hC hRet => ?_)
  refine r_sub [(0, .ref (ad 60)), (1, .int p1)] [0, 1] rfl ?_
  have hin6 : ∀ w ∈ wsX60, w ∈ wsX6_sumOf := fun w h => List.mem_cons_of_mem _ (List.mem_append_right _ h)
  have hw0 : Cond.fieldLink RX6 15 "HotPipes$Stuffs" "sizes" "[I" ∈ wsX6_sumOf := List.mem_of_getElem? (i := 1) rfl
  have hw1 : Cond.fieldLink RX6 9 "HotPipes$Stuffs" "bytes" "[B" ∈ wsX6_sumOf := List.mem_of_getElem? (i := 2) rfl
  refine r_iconst hC dX6_sumOf_0 ic_0 ?_
  refine r_istore_n hC [(2, .int 0), (0, .ref (ad 60)), (1, .int p1)] dX6_sumOf_1 rfl (by decide) rfl ?_
  refine r_iconst hC dX6_sumOf_2 ic_0 ?_
  refine r_istore_n hC [(3, .int 0), (2, .int 0), (0, .ref (ad 60)), (1, .int p1)] dX6_sumOf_3 rfl (by decide) rfl ?_
  have L4 : ∀ (n : Nat) (x1 : Int32) (x2 : Int32), fX6_sumOf_L4 c6_bytes c6_sizes p1 n x1 x2 = some ra → GG X 4 0 0 (w6 cy ad c6_bytes c6_sizes c6_weights) [(0, .ref (ad 60)), (1, .int p1), (2, .int x1), (3, .int x2)] 4 [] := by
    intro n
    induction n with
    | zero => intro x1 x2 hf; cases (show none = some _ from hf)
    | succ n ih =>
      intro x1 x2 hf
      rw [fX6_sumOf_L4] at hf
      refine r_iload_n hC dX6_sumOf_4 rfl 3 rfl ?_
      refine r_aload_n hC dX6_sumOf_5 rfl 0 rfl ?_
      refine r_get hC hin6 0 rfl rfl 1 (by decide) rfl hw0 rfl dX6_sumOf_6 ?_
      refine r_iload_n hC dX6_sumOf_9 rfl 1 rfl ?_
      obtain ⟨g3, hf⟩ := og_some hf
      refine r_iald hC 2 rfl g3 dX6_sumOf_10 ?_
      refine r_icmp_ge (tgt := 34) hC dX6_sumOf_11 (by decide) (fun c4 => ?_) (fun c4 => ?_)
      · replace hf := o_pos hf c4
        refine r_iload_n hC dX6_sumOf_34 rfl 2 rfl ?_
        obtain rfl := so_1 hf
        exact hRet _ _ _ dX6_sumOf_35 rfl
      · replace hf := o_neg hf c4
        refine r_iload_n hC dX6_sumOf_14 rfl 2 rfl ?_
        refine r_aload_n hC dX6_sumOf_15 rfl 0 rfl ?_
        refine r_get hC hin6 0 rfl rfl 0 (by decide) rfl hw1 rfl dX6_sumOf_16 ?_
        refine r_iload_n hC dX6_sumOf_19 rfl 1 rfl ?_
        refine r_bipush hC dX6_sumOf_20 bp_16 ?_
        refine r_imul hC dX6_sumOf_22 ?_
        refine r_iload_n hC dX6_sumOf_23 rfl 3 rfl ?_
        refine r_iadd hC dX6_sumOf_24 ?_
        obtain ⟨g5, hf⟩ := og_some hf
        refine r_bald hC 1 rfl g5 dX6_sumOf_25 ?_
        refine r_iadd hC dX6_sumOf_26 ?_
        refine r_topi (fun x6 ex6 => ?_)
        replace hf := olet_some hf ex6
        refine r_istore_n hC [(2, .int x6), (0, .ref (ad 60)), (1, .int p1), (3, .int x2)] dX6_sumOf_27 rfl (by decide) rfl ?_
        refine r_iinc hC [(3, .int (x2 + 1)), (2, .int x6), (0, .ref (ad 60)), (1, .int p1)] (x2 + 1) dX6_sumOf_28 3 rfl (ii_1 _) (by decide) rfl ?_
        refine r_goto (tgt := 4) hC dX6_sumOf_31 (by decide) ?_
        refine r_sub [(0, .ref (ad 60)), (1, .int p1), (2, .int x6), (3, .int (x2 + 1))] [2, 3, 1, 0] rfl ?_
        exact ih x6 (x2 + 1) hf
  refine r_sub [(0, .ref (ad 60)), (1, .int p1), (2, .int 0), (3, .int 0)] [2, 3, 1, 0] rfl ?_
  exact L4 N 0 0 hf
noncomputable def fX6_mixInto_L38 (c6_bytes : Nat → Int32) (c6_sizes : Nat → Int32) (x2 : Int32) (K75_9 : Int64 → Option (Int64)) : Nat → Int64 → Int32 → Option (Int64)
  | 0, _, _ => none
  | n + 1, x10, x11 => og (vp_in x2 4) ((if (c6_sizes (Int32.toNatClampNeg x2)) ≤ x11 then K75_9 x10 else og (vp_in ((x2 * 16) + x11) 64) (olet ((31 * x10) + (Int32.toInt64 (c6_bytes (Int32.toNatClampNeg ((x2 * 16) + x11))))) (fun (x15 : Int64) => fX6_mixInto_L38 c6_bytes c6_sizes x2 K75_9 n x15 (x11 + 1)))))
noncomputable def fX6_mixInto_L2 (N : Nat) (c6_bytes : Nat → Int32) (c6_sizes : Nat → Int32) (c6_weights : Nat → Int32) : Nat → Int64 → Int32 → Option (Int64)
  | 0, _, _ => none
  | n + 1, x1, x2 => (if 4 ≤ x2 then some x1 else og (vp_in x2 4) (olet ((31 * x1) + (Int32.toInt64 (c6_weights (Int32.toNatClampNeg x2)))) (fun (x5 : Int64) => og (vp_in x2 4) (olet ((31 * x5) + (Int32.toInt64 (c6_sizes (Int32.toNatClampNeg x2)))) (fun (x7 : Int64) => oj (fun (x8 : Int64) => fX6_mixInto_L2 N c6_bytes c6_sizes c6_weights n x8 (x2 + 1)) (fun (K75_9 : Int64 → Option (Int64)) => fX6_mixInto_L38 c6_bytes c6_sizes x2 K75_9 N x7 0))))))
noncomputable def fX6_mixInto (N : Nat) (c6_bytes : Nat → Int32) (c6_sizes : Nat → Int32) (c6_weights : Nat → Int32) (p1 : Int64) : Option (Int64) := fX6_mixInto_L2 N c6_bytes c6_sizes c6_weights N p1 0
theorem ydX6_mixInto : yX6_mixInto.cls = RX6 ∧ yX6_mixInto.cls ≠ "java/lang/invoke/MethodHandle" ∧ yX6_mixInto.cls ≠ "java/lang/invoke/VarHandle" ∧ (parseMethodDescriptor yX6_mixInto.desc).map (fun d => d.parameters.length) = some 1 := by decide +kernel
set_option maxHeartbeats 8000000 in
set_option maxRecDepth 100000 in
theorem kX6_mixInto (l : Launch) (D : va_G) (cy : Nat → ClassId) (ad : Nat → Nat) (c6_bytes : Nat → Int32) (c6_sizes : Nat → Int32) (c6_weights : Nat → Int32) (p1 : Int64) (N : Nat) {ra : Int64} (hf : fX6_mixInto N c6_bytes c6_sizes c6_weights p1 = some ra) : CL l D cy yX6_mixInto wsX6_mixInto ({ frames := 0, cells := 0, slots := 0, locals := 0 } : Room) [.ref (ad 60), .long p1] (w6 cy ad c6_bytes c6_sizes c6_weights) ra (w6 cy ad c6_bytes c6_sizes c6_weights) := by
  unfold fX6_mixInto at hf
  refine c_of_l (own := RX6) (by decide) rfl rfl (Nat.le_of_ble_eq_true rfl) (fun X hC hRet => ?_)
  refine r_sub [(0, .ref (ad 60)), (1, .long p1)] [0, 1] rfl ?_
  have hin6 : ∀ w ∈ wsX60, w ∈ wsX6_mixInto := fun w h => List.mem_cons_of_mem _ (List.mem_append_right _ h)
  have hw0 : Cond.constantLong RX6 34 (31) ∈ wsX6_mixInto := List.mem_of_getElem? (i := 1) rfl
  have hw1 : Cond.fieldLink RX6 19 "HotPipes$Stuffs" "weights" "[I" ∈ wsX6_mixInto := List.mem_of_getElem? (i := 2) rfl
  have hw2 : Cond.fieldLink RX6 15 "HotPipes$Stuffs" "sizes" "[I" ∈ wsX6_mixInto := List.mem_of_getElem? (i := 3) rfl
  have hw3 : Cond.fieldLink RX6 9 "HotPipes$Stuffs" "bytes" "[B" ∈ wsX6_mixInto := List.mem_of_getElem? (i := 4) rfl
  refine r_iconst hC dX6_mixInto_0 ic_0 ?_
  refine r_istore_n hC [(3, .int 0), (0, .ref (ad 60)), (1, .long p1)] dX6_mixInto_1 rfl (by decide) rfl ?_
  have L2 : ∀ (n : Nat) (x1 : Int64) (x2 : Int32), fX6_mixInto_L2 N c6_bytes c6_sizes c6_weights n x1 x2 = some ra → GG X 5 0 0 (w6 cy ad c6_bytes c6_sizes c6_weights) [(0, .ref (ad 60)), (1, .long x1), (3, .int x2)] 2 [] := by
    intro n
    induction n with
    | zero => intro x1 x2 hf; cases (show none = some _ from hf)
    | succ n ih =>
      intro x1 x2 hf
      rw [fX6_mixInto_L2] at hf
      refine r_iload_n hC dX6_mixInto_2 rfl 2 rfl ?_
      refine r_iconst hC dX6_mixInto_3 ic_4 ?_
      refine r_icmp_ge (tgt := 81) hC dX6_mixInto_4 (by decide) (fun c3 => ?_) (fun c3 => ?_)
      · replace hf := o_pos hf c3
        refine r_lload_n hC dX6_mixInto_81 rfl 1 rfl ?_
        obtain rfl := so_1 hf
        exact hRet _ _ _ dX6_mixInto_82
      · replace hf := o_neg hf c3
        refine r_ldc2 hC hw0 dX6_mixInto_7 ?_
        refine r_lload_n hC dX6_mixInto_10 rfl 1 rfl ?_
        refine r_lmul hC dX6_mixInto_11 ?_
        refine r_aload_n hC dX6_mixInto_12 rfl 0 rfl ?_
        refine r_get hC hin6 0 rfl rfl 2 (by decide) rfl hw1 rfl dX6_mixInto_13 ?_
        refine r_iload_n hC dX6_mixInto_16 rfl 2 rfl ?_
        obtain ⟨g4, hf⟩ := og_some hf
        refine r_iald hC 3 rfl g4 dX6_mixInto_17 ?_
        refine r_i2l hC dX6_mixInto_18 ?_
        refine r_ladd hC dX6_mixInto_19 ?_
        refine r_topl (fun x5 ex5 => ?_)
        replace hf := olet_some hf ex5
        refine r_lstore_n hC [(1, .long x5), (0, .ref (ad 60)), (3, .int x2)] dX6_mixInto_20 rfl (by decide) rfl ?_
        refine r_ldc2 hC hw0 dX6_mixInto_21 ?_
        refine r_lload_n hC dX6_mixInto_24 rfl 0 rfl ?_
        refine r_lmul hC dX6_mixInto_25 ?_
        refine r_aload_n hC dX6_mixInto_26 rfl 1 rfl ?_
        refine r_get hC hin6 0 rfl rfl 1 (by decide) rfl hw2 rfl dX6_mixInto_27 ?_
        refine r_iload_n hC dX6_mixInto_30 rfl 2 rfl ?_
        obtain ⟨g6, hf⟩ := og_some hf
        refine r_iald hC 2 rfl g6 dX6_mixInto_31 ?_
        refine r_i2l hC dX6_mixInto_32 ?_
        refine r_ladd hC dX6_mixInto_33 ?_
        refine r_topl (fun x7 ex7 => ?_)
        replace hf := olet_some hf ex7
        refine r_lstore_n hC [(1, .long x7), (0, .ref (ad 60)), (3, .int x2)] dX6_mixInto_34 rfl (by decide) rfl ?_
        refine r_iconst hC dX6_mixInto_35 ic_0 ?_
        refine r_istore hC [(4, .int 0), (1, .long x7), (0, .ref (ad 60)), (3, .int x2)] dX6_mixInto_36 (by decide) rfl ?_
        obtain ⟨K75_9, eK75_9, hf⟩ := oj_some hf
        have J75_9 : ∀ (x8 : Int64), K75_9 x8 = some ra → GG X 5 0 0 (w6 cy ad c6_bytes c6_sizes c6_weights) [(0, .ref (ad 60)), (1, .long x8), (3, .int x2)] 75 [] := by
          intro x8 hf
          replace hf := oa1 eK75_9 hf
          refine r_iinc hC [(3, .int (x2 + 1)), (0, .ref (ad 60)), (1, .long x8)] (x2 + 1) dX6_mixInto_75 2 rfl (ii_1 _) (by decide) rfl ?_
          refine r_goto (tgt := 2) hC dX6_mixInto_78 (by decide) ?_
          refine r_sub [(0, .ref (ad 60)), (1, .long x8), (3, .int (x2 + 1))] [1, 2, 0] rfl ?_
          exact ih x8 (x2 + 1) hf
        have L38 : ∀ (n : Nat) (x10 : Int64) (x11 : Int32), fX6_mixInto_L38 c6_bytes c6_sizes x2 K75_9 n x10 x11 = some ra → GG X 5 0 0 (w6 cy ad c6_bytes c6_sizes c6_weights) [(0, .ref (ad 60)), (1, .long x10), (3, .int x2), (4, .int x11)] 38 [] := by
          intro n
          induction n with
          | zero => intro x10 x11 hf; cases (show none = some _ from hf)
          | succ n ih =>
            intro x10 x11 hf
            rw [fX6_mixInto_L38] at hf
            refine r_iload hC dX6_mixInto_38 3 rfl ?_
            refine r_aload_n hC dX6_mixInto_40 rfl 0 rfl ?_
            refine r_get hC hin6 0 rfl rfl 1 (by decide) rfl hw2 rfl dX6_mixInto_41 ?_
            refine r_iload_n hC dX6_mixInto_44 rfl 2 rfl ?_
            obtain ⟨g12, hf⟩ := og_some hf
            refine r_iald hC 2 rfl g12 dX6_mixInto_45 ?_
            refine r_icmp_ge (tgt := 75) hC dX6_mixInto_46 (by decide) (fun c13 => ?_) (fun c13 => ?_)
            · replace hf := o_pos hf c13
              refine r_sub [(0, .ref (ad 60)), (1, .long x10), (3, .int x2)] [0, 1, 2] rfl ?_
              exact J75_9 x10 hf
            · replace hf := o_neg hf c13
              refine r_ldc2 hC hw0 dX6_mixInto_49 ?_
              refine r_lload_n hC dX6_mixInto_52 rfl 1 rfl ?_
              refine r_lmul hC dX6_mixInto_53 ?_
              refine r_aload_n hC dX6_mixInto_54 rfl 0 rfl ?_
              refine r_get hC hin6 0 rfl rfl 0 (by decide) rfl hw3 rfl dX6_mixInto_55 ?_
              refine r_iload_n hC dX6_mixInto_58 rfl 2 rfl ?_
              refine r_bipush hC dX6_mixInto_59 bp_16 ?_
              refine r_imul hC dX6_mixInto_61 ?_
              refine r_iload hC dX6_mixInto_62 3 rfl ?_
              refine r_iadd hC dX6_mixInto_64 ?_
              obtain ⟨g14, hf⟩ := og_some hf
              refine r_bald hC 1 rfl g14 dX6_mixInto_65 ?_
              refine r_i2l hC dX6_mixInto_66 ?_
              refine r_ladd hC dX6_mixInto_67 ?_
              refine r_topl (fun x15 ex15 => ?_)
              replace hf := olet_some hf ex15
              refine r_lstore_n hC [(1, .long x15), (0, .ref (ad 60)), (3, .int x2), (4, .int x11)] dX6_mixInto_68 rfl (by decide) rfl ?_
              refine r_iinc hC [(4, .int (x11 + 1)), (1, .long x15), (0, .ref (ad 60)), (3, .int x2)] (x11 + 1) dX6_mixInto_69 3 rfl (ii_1 _) (by decide) rfl ?_
              refine r_goto (tgt := 38) hC dX6_mixInto_72 (by decide) ?_
              refine r_sub [(0, .ref (ad 60)), (1, .long x15), (3, .int x2), (4, .int (x11 + 1))] [2, 1, 3, 0] rfl ?_
              exact ih x15 (x11 + 1) hf
        refine r_sub [(0, .ref (ad 60)), (1, .long x7), (3, .int x2), (4, .int 0)] [2, 1, 3, 0] rfl ?_
        exact L38 N x7 0 hf
  refine r_sub [(0, .ref (ad 60)), (1, .long p1), (3, .int 0)] [1, 2, 0] rfl ?_
  exact L2 N p1 0 hf
