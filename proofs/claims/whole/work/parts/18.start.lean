def R_law : String := "HotPipesLaw"
def lw_P (b : Addr) (xs : List Int32) (args : Array Value) (s : State) : Prop := args = #[.ref b] ∧ s.IntsAt b xs ∧ xs.length ≤ 3072 ∧ (Jvm.Cond.and given_1 narrow_1).before args s = true
def lw_Q (_ : Array Value) (s : State) (o : Outcome) (t : State) : Prop := o = .returned (some (.int 1)) ∧ Framed s o t [] 52 1789
def lw_Z (below : List Frame) (a : Array Value) (s : State) : State → Prop := fun t => ∃ o, t.status = .running ∧ Ended t below o ∧ lw_Q a s o t
/-- the law's own end, with 1 on the stack, nothing written that was there before, its room as the claim has it -/
theorem lw_ret {p : Program} {l : Launch} {e : Env} {s : State} {m : MethodId} {below : List Frame} {meth : Method} {c : Code} {b : Nat} (hx : p.tables.exec = Jvm.exec) (hb : c.code = code) (hr : meth.sig.returnType = ret) (hlocks : meth.locks = false) {pc : Nat} {H : Heap} {ls : Array Slot} (hdg : decode code pc = .ok (.ireturn, 1)) : W p l e room_1 s m #[Value.ref b] below meth c H [] 52 1789 (lw_Z below #[Value.ref b] s) (F0 m pc ls [.int 1]) := by
  intro T hT X
  obtain ⟨fs, hret, hrun, hended, hW, hframe⟩ := X.leave (v := some (.int 1)) (hlocks := hlocks) (fun h => by rw [hr] at h; cases h)
  have hmeth' : T.vm.method? m = some meth := X.method'
  refine ⟨T.setFrames fs, ?_, .returned (some (.int 1)), hrun, hended, rfl, ⟨_, rfl⟩, hW, hframe⟩
  jvm_step X.here [X.here.top, hx, hb, hdg, hmeth', hr, ret, narrow_b1]
  (try refine ⟨rfl, ?_⟩); (try refine ⟨rfl, ?_⟩)
  first | (intro acts; rw [hret _ acts rfl rfl rfl]) | rw [hret _ _ rfl rfl rfl]
  exact Steps.refl _
/-- what holds at the law's entry: the machine, the code, the tables' words (any of lw_tbl by 'hts w (by decide +kernel)'), the script of L ints xs at the cell b, what the Statement gives of the start (any of its parts by flat_of_before) -/
def lw_At (p : Program) (s : State) (m : MethodId) (meth : Method) (c : Code) (b L : Nat) (xs : Nat → Int32) : Prop :=
  p.tables.exec = Jvm.exec ∧ c.code = code ∧ meth.sig.returnType = ret ∧ c.maxLocals = 4 ∧ s.vm.findClass R_law = some m.cls ∧ (∀ w ∈ lw_tbl, w.before #[Value.ref b] s = true) ∧ va_X b L xs s s.heap ∧ b < s.heap.size ∧ meth.locks = false ∧ (Jvm.Cond.and given_1 narrow_1).before #[Value.ref b] s = true
theorem inlX0 : ∀ w ∈ wsX00, w ∈ wsL_law := fun _ h => List.mem_append_left _ (List.mem_append_left _ (List.mem_append_left _ (List.mem_append_right _ h)))
theorem inlX1 : ∀ w ∈ wsX10, w ∈ wsL_law := fun _ h => List.mem_append_left _ (List.mem_append_left _ (List.mem_append_right _ h))
theorem inlX2 : ∀ w ∈ wsX20, w ∈ wsL_law := fun _ h => List.mem_append_left _ (List.mem_append_right _ h)
theorem inlX3 : ∀ w ∈ wsX30, w ∈ wsL_law := fun _ h => List.mem_append_left _ (List.mem_append_left _ (List.mem_append_left _ (List.mem_append_left _ (List.mem_append_right _ h))))
theorem inlX4 : ∀ w ∈ wsX40, w ∈ wsL_law := fun _ h => List.mem_append_left _ (List.mem_append_left _ (List.mem_append_left _ (List.mem_append_left _ (List.mem_append_left _ (List.mem_append_right _ h)))))
theorem inlX5 : ∀ w ∈ wsX50, w ∈ wsL_law := fun _ h => List.mem_append_left _ (List.mem_append_left _ (List.mem_append_left _ (List.mem_append_left _ (List.mem_append_left _ (List.mem_append_left _ (List.mem_append_right _ h))))))
theorem inlX6 : ∀ w ∈ wsX60, w ∈ wsL_law := fun _ h => List.mem_append_left _ (List.mem_append_left _ (List.mem_append_left _ (List.mem_append_left _ (List.mem_append_left _ (List.mem_append_left _ (List.mem_append_left _ (List.mem_append_right _ h)))))))
theorem inlX7 : ∀ w ∈ wsX70, w ∈ wsL_law := fun _ h => List.mem_append_left _ (List.mem_append_left _ (List.mem_append_left _ (List.mem_append_left _ (List.mem_append_left _ (List.mem_append_left _ (List.mem_append_left _ (List.mem_append_left _ (List.mem_append_left _ (List.mem_append_right _ h)))))))))
theorem inlX8 : ∀ w ∈ wsX80, w ∈ wsL_law := fun _ h => List.mem_append_left _ (List.mem_append_left _ (List.mem_append_left _ (List.mem_append_left _ (List.mem_append_left _ (List.mem_append_left _ (List.mem_append_left _ (List.mem_append_left _ (List.mem_append_right _ h))))))))
theorem bp_63 : (Int8.ofInt 63).toInt32 = 63 := by decide
theorem tb_37 {x : Int32} (h0 : ¬ x = 0) (h1 : ¬ x = 1) (h2 : ¬ x = 2) (h3 : ¬ x = 3) (h4 : ¬ x = 4) (h5 : ¬ x = 5) (h6 : ¬ x = 6) (h7 : ¬ x = 7) (h8 : ¬ x = 8) (h9 : ¬ x = 9) (h10 : ¬ x = 10) (h11 : ¬ x = 11) (h12 : ¬ x = 12) (h13 : ¬ x = 13) (h14 : ¬ x = 14) (h15 : ¬ x = 15) (h16 : ¬ x = 16) (h17 : ¬ x = 17) (h18 : ¬ x = 18) (h19 : ¬ x = 19) (h20 : ¬ x = 20) (h21 : ¬ x = 21) (h22 : ¬ x = 22) (h23 : ¬ x = 23) (h24 : ¬ x = 24) (h25 : ¬ x = 25) (h26 : ¬ x = 26) (h27 : ¬ x = 27) (h28 : ¬ x = 28) (h29 : ¬ x = 29) (h30 : ¬ x = 30) (h31 : ¬ x = 31) (h32 : ¬ x = 32) (h33 : ¬ x = 33) (h34 : ¬ x = 34) (h35 : ¬ x = 35) (h36 : ¬ x = 36) (h37 : ¬ x = 37) : x.toInt < 0 ∨ 37 < x.toInt := by
  have q : ∀ j : Int32, ¬ x = j → x.toInt ≠ j.toInt := fun j h e => h (Int32.toInt_inj.mp e)
  have q0 : x.toInt ≠ 0 := q 0 h0
  have q1 : x.toInt ≠ 1 := q 1 h1
  have q2 : x.toInt ≠ 2 := q 2 h2
  have q3 : x.toInt ≠ 3 := q 3 h3
  have q4 : x.toInt ≠ 4 := q 4 h4
  have q5 : x.toInt ≠ 5 := q 5 h5
  have q6 : x.toInt ≠ 6 := q 6 h6
  have q7 : x.toInt ≠ 7 := q 7 h7
  have q8 : x.toInt ≠ 8 := q 8 h8
  have q9 : x.toInt ≠ 9 := q 9 h9
  have q10 : x.toInt ≠ 10 := q 10 h10
  have q11 : x.toInt ≠ 11 := q 11 h11
  have q12 : x.toInt ≠ 12 := q 12 h12
  have q13 : x.toInt ≠ 13 := q 13 h13
  have q14 : x.toInt ≠ 14 := q 14 h14
  have q15 : x.toInt ≠ 15 := q 15 h15
  have q16 : x.toInt ≠ 16 := q 16 h16
  have q17 : x.toInt ≠ 17 := q 17 h17
  have q18 : x.toInt ≠ 18 := q 18 h18
  have q19 : x.toInt ≠ 19 := q 19 h19
  have q20 : x.toInt ≠ 20 := q 20 h20
  have q21 : x.toInt ≠ 21 := q 21 h21
  have q22 : x.toInt ≠ 22 := q 22 h22
  have q23 : x.toInt ≠ 23 := q 23 h23
  have q24 : x.toInt ≠ 24 := q 24 h24
  have q25 : x.toInt ≠ 25 := q 25 h25
  have q26 : x.toInt ≠ 26 := q 26 h26
  have q27 : x.toInt ≠ 27 := q 27 h27
  have q28 : x.toInt ≠ 28 := q 28 h28
  have q29 : x.toInt ≠ 29 := q 29 h29
  have q30 : x.toInt ≠ 30 := q 30 h30
  have q31 : x.toInt ≠ 31 := q 31 h31
  have q32 : x.toInt ≠ 32 := q 32 h32
  have q33 : x.toInt ≠ 33 := q 33 h33
  have q34 : x.toInt ≠ 34 := q 34 h34
  have q35 : x.toInt ≠ 35 := q 35 h35
  have q36 : x.toInt ≠ 36 := q 36 h36
  have q37 : x.toInt ≠ 37 := q 37 h37
  omega
theorem law_more {j L : Nat} (hj : j < 2 ^ 20) (hL : L < 2 ^ 20) (h : ¬ nI L - 6 < nI j) : j + 6 ≤ L := by
  rw [Int32.lt_iff_toInt_lt, show (6 : Int32) = nI 6 from rfl, pk_sub_toInt (by omega) (by decide), nI_toInt (by omega)] at h
  omega
/-- the law's end: nothing that was there before has changed -/
theorem r_end {p : Program} {l : Launch} {e : Env} {s : State} {m : MethodId} {below : List Frame} {meth : Method} {c : Code} {b : Nat} {D : va_G} {ws : va_W} {lv : List (Nat × Value)} {pc : Nat} (hx : p.tables.exec = Jvm.exec) (hb : c.code = code) (hr : meth.sig.returnType = ret) (hlocks : meth.locks = false) (d : decode code pc = .ok (.ireturn, 1)) : GG (p, l, e, room_1, s, m, #[Value.ref b], below, meth, c, D, (fun q => s.heap.size ≤ q), lw_Z below #[Value.ref b] s) 4 52 1789 ws lv pc [.int 1] := by
  intro H locs ls hP hD hS hl
  exact va_forget (fun q hq => hS.2.2 q hq) (lw_ret hx hb hr hlocks d)
set_option maxHeartbeats 8000000 in
set_option maxRecDepth 100000 in
theorem law_main (X : CX) (l : Launch) (D : va_G) (cy : Nat → ClassId) (ad7 ad8 : Nat → Nat) (N : Nat) (Rel : S7 → S8 → Prop) (b L : Nat) (xs : Nat → Int32) (hC : OK X l D cy room_1 code 4 wsL_law RL) (hS : SC X b L xs) (hZ : ZL X.2.2.2.2.1) (hL : L ≤ 3072) (hsim : Sim N Rel) (hend : ∀ (ws : va_W) (lv : List (Nat × Value)), GG X 4 52 1789 ws lv 1360 [.int 1]) : ∀ (n j : Nat) (s : S7) (t : S8), L < j + n → j ≤ L → Rel s t → GG X 4 52 1789 (W7 cy ad7 s ++ W8 cy ad8 t) [(0, .ref b), (1, .ref (ad7 70)), (2, .ref (ad8 80)), (3, .int (nI j))] 18 [] := by
  obtain ⟨-, h_stuff, h_lay, h_tear, h_copy, h_weigh, h_mean, h_leg, h_cut, h_where, h_grown, h_move, h_soft, h_loop, h_bestLoop, h_rest, h_drop, h_told, h_is, h_lifts, h_load, h_change, h_firm, h_list, h_choose, h_amount, h_bar, h_worst, h_cycle, h_used, h_read, h_missing, h_asked, h_upper, h_lower, h_count, h_finding, h_findings, h_digest⟩ := hsim
  intro n
  induction n with
  | zero => intro j s t h1 h2; omega
  | succ n ih =>
    intro j s t h1 h2 hR
    refine r_iload_n hC dL_law_18 rfl 3 rfl ?_
    refine r_aload_n hC dL_law_19 rfl 0 rfl ?_
    refine r_slen hC hS dL_law_20 ?_
    refine r_bipush hC dL_law_21 bp_6 ?_
    refine r_isub hC dL_law_23 ?_
    refine r_icmp_gt (tgt := 1359) hC dL_law_24 (by decide) (fun c => ?_) (fun c => ?_)
    · refine r_iconst hC dL_law_1359 ic_1 ?_
      exact hend _ _
    have hj : j + 6 ≤ L := law_more (by omega) (by omega) c
    have next : ∀ (s : S7) (t : S8), Rel s t → GG X 4 52 1789 (W7 cy ad7 s ++ W8 cy ad8 t) [(0, .ref b), (1, .ref (ad7 70)), (2, .ref (ad8 80)), (3, .int (nI j))] 1353 [] := by
      intro s t hR
      refine r_iinc hC [(3, .int (nI (j + 6))), (0, .ref b), (1, .ref (ad7 70)), (2, .ref (ad8 80))] (nI (j + 6)) dL_law_1353 3 rfl (by rw [← nI_add]; rfl) (by decide) rfl ?_
      refine r_goto (tgt := 18) hC dL_law_1356 (by decide) ?_
      refine r_sub [(0, .ref b), (1, .ref (ad7 70)), (2, .ref (ad8 80)), (3, .int (nI (j + 6)))] [1, 2, 3, 0] rfl ?_
      exact ih (j + 6) s t (by omega) hj hR
    refine r_aload_n hC dL_law_27 rfl 0 rfl ?_
    refine r_iload_n hC dL_law_28 rfl 3 rfl ?_
    refine r_sld hC hS (vp_in_nI (by omega) (by omega)) dL_law_29 ?_
    refine r_bipush hC dL_law_30 bp_63 ?_
    refine r_iand hC dL_law_32 ?_
    refine r_topi (fun x ex => ?_)
    by_cases c0 : x = 0
    · refine r_tableIn (off := 167) (tgt := 200) hC dL_law_33 (by rw [c0]; decide) (by rw [c0]; decide) (by rw [c0]; rfl) (by decide) ?_
      exact law_stuff X l D cy ad7 ad8 N Rel b L xs hC hS hZ j hj hL s t hR h_stuff next
    by_cases c1 : x = 1
    · refine r_tableIn (off := 200) (tgt := 233) hC dL_law_33 (by rw [c1]; decide) (by rw [c1]; decide) (by rw [c1]; rfl) (by decide) ?_
      exact law_lay X l D cy ad7 ad8 N Rel b L xs hC hS hZ j hj hL s t hR h_lay next
    by_cases c2 : x = 2
    · refine r_tableIn (off := 243) (tgt := 276) hC dL_law_33 (by rw [c2]; decide) (by rw [c2]; decide) (by rw [c2]; rfl) (by decide) ?_
      exact law_tear X l D cy ad7 ad8 N Rel b L xs hC hS hZ j hj hL s t hR h_tear next
    by_cases c3 : x = 3
    · refine r_tableIn (off := 266) (tgt := 299) hC dL_law_33 (by rw [c3]; decide) (by rw [c3]; decide) (by rw [c3]; rfl) (by decide) ?_
      exact law_copy X l D cy ad7 ad8 N Rel b L xs hC hS hZ j hj hL s t hR h_copy next
    by_cases c4 : x = 4
    · refine r_tableIn (off := 329) (tgt := 362) hC dL_law_33 (by rw [c4]; decide) (by rw [c4]; decide) (by rw [c4]; rfl) (by decide) ?_
      exact law_weigh X l D cy ad7 ad8 N Rel b L xs hC hS hZ j hj hL s t hR h_weigh next
    by_cases c5 : x = 5
    · refine r_tableIn (off := 362) (tgt := 395) hC dL_law_33 (by rw [c5]; decide) (by rw [c5]; decide) (by rw [c5]; rfl) (by decide) ?_
      exact law_mean X l D cy ad7 ad8 N Rel b L xs hC hS hZ j hj hL s t hR h_mean next
    by_cases c6 : x = 6
    · refine r_tableIn (off := 385) (tgt := 418) hC dL_law_33 (by rw [c6]; decide) (by rw [c6]; decide) (by rw [c6]; rfl) (by decide) ?_
      exact law_leg X l D cy ad7 ad8 N Rel b L xs hC hS hZ j hj hL s t hR h_leg next
    by_cases c7 : x = 7
    · refine r_tableIn (off := 428) (tgt := 461) hC dL_law_33 (by rw [c7]; decide) (by rw [c7]; decide) (by rw [c7]; rfl) (by decide) ?_
      exact law_cut X l D cy ad7 ad8 N Rel b L xs hC hS hZ j hj hL s t hR h_cut next
    by_cases c8 : x = 8
    · refine r_tableIn (off := 441) (tgt := 474) hC dL_law_33 (by rw [c8]; decide) (by rw [c8]; decide) (by rw [c8]; rfl) (by decide) ?_
      exact law_where X l D cy ad7 ad8 N Rel b L xs hC hS hZ j hj hL s t hR h_where next
    by_cases c9 : x = 9
    · refine r_tableIn (off := 474) (tgt := 507) hC dL_law_33 (by rw [c9]; decide) (by rw [c9]; decide) (by rw [c9]; rfl) (by decide) ?_
      exact law_grown X l D cy ad7 ad8 N Rel b L xs hC hS hZ j hj hL s t hR h_grown next
    by_cases c10 : x = 10
    · refine r_tableIn (off := 507) (tgt := 540) hC dL_law_33 (by rw [c10]; decide) (by rw [c10]; decide) (by rw [c10]; rfl) (by decide) ?_
      exact law_move X l D cy ad7 ad8 N Rel b L xs hC hS hZ j hj hL s t hR h_move next
    by_cases c11 : x = 11
    · refine r_tableIn (off := 540) (tgt := 573) hC dL_law_33 (by rw [c11]; decide) (by rw [c11]; decide) (by rw [c11]; rfl) (by decide) ?_
      exact law_soft X l D cy ad7 ad8 N Rel b L xs hC hS hZ j hj hL s t hR h_soft next
    by_cases c12 : x = 12
    · refine r_tableIn (off := 573) (tgt := 606) hC dL_law_33 (by rw [c12]; decide) (by rw [c12]; decide) (by rw [c12]; rfl) (by decide) ?_
      exact law_loop X l D cy ad7 ad8 N Rel b L xs hC hS hZ j hj hL s t hR h_loop next
    by_cases c13 : x = 13
    · refine r_tableIn (off := 626) (tgt := 659) hC dL_law_33 (by rw [c13]; decide) (by rw [c13]; decide) (by rw [c13]; rfl) (by decide) ?_
      exact law_bestLoop X l D cy ad7 ad8 N Rel b L xs hC hS hZ j hj hL s t hR h_bestLoop next
    by_cases c14 : x = 14
    · refine r_tableIn (off := 659) (tgt := 692) hC dL_law_33 (by rw [c14]; decide) (by rw [c14]; decide) (by rw [c14]; rfl) (by decide) ?_
      exact law_rest X l D cy ad7 ad8 N Rel b L xs hC hS hZ j hj hL s t hR h_rest next
    by_cases c15 : x = 15
    · refine r_tableIn (off := 702) (tgt := 735) hC dL_law_33 (by rw [c15]; decide) (by rw [c15]; decide) (by rw [c15]; rfl) (by decide) ?_
      exact law_drop X l D cy ad7 ad8 N Rel b L xs hC hS hZ j hj hL s t hR h_drop next
    by_cases c16 : x = 16
    · refine r_tableIn (off := 725) (tgt := 758) hC dL_law_33 (by rw [c16]; decide) (by rw [c16]; decide) (by rw [c16]; rfl) (by decide) ?_
      exact law_told X l D cy ad7 ad8 N Rel b L xs hC hS hZ j hj hL s t hR h_told next
    by_cases c17 : x = 17
    · refine r_tableIn (off := 758) (tgt := 791) hC dL_law_33 (by rw [c17]; decide) (by rw [c17]; decide) (by rw [c17]; rfl) (by decide) ?_
      exact law_is X l D cy ad7 ad8 N Rel b L xs hC hS hZ j hj hL s t hR h_is next
    by_cases c18 : x = 18
    · refine r_tableIn (off := 791) (tgt := 824) hC dL_law_33 (by rw [c18]; decide) (by rw [c18]; decide) (by rw [c18]; rfl) (by decide) ?_
      exact law_lifts X l D cy ad7 ad8 N Rel b L xs hC hS hZ j hj hL s t hR h_lifts next
    by_cases c19 : x = 19
    · refine r_tableIn (off := 824) (tgt := 857) hC dL_law_33 (by rw [c19]; decide) (by rw [c19]; decide) (by rw [c19]; rfl) (by decide) ?_
      exact law_load X l D cy ad7 ad8 N Rel b L xs hC hS hZ j hj hL s t hR h_load next
    by_cases c20 : x = 20
    · refine r_tableIn (off := 857) (tgt := 890) hC dL_law_33 (by rw [c20]; decide) (by rw [c20]; decide) (by rw [c20]; rfl) (by decide) ?_
      exact law_change X l D cy ad7 ad8 N Rel b L xs hC hS hZ j hj hL s t hR h_change next
    by_cases c21 : x = 21
    · refine r_tableIn (off := 890) (tgt := 923) hC dL_law_33 (by rw [c21]; decide) (by rw [c21]; decide) (by rw [c21]; rfl) (by decide) ?_
      exact law_firm X l D cy ad7 ad8 N Rel b L xs hC hS hZ j hj hL s t hR h_firm next
    by_cases c22 : x = 22
    · refine r_tableIn (off := 923) (tgt := 956) hC dL_law_33 (by rw [c22]; decide) (by rw [c22]; decide) (by rw [c22]; rfl) (by decide) ?_
      exact law_list X l D cy ad7 ad8 N Rel b L xs hC hS hZ j hj hL s t hR h_list next
    by_cases c23 : x = 23
    · refine r_tableIn (off := 946) (tgt := 979) hC dL_law_33 (by rw [c23]; decide) (by rw [c23]; decide) (by rw [c23]; rfl) (by decide) ?_
      exact law_choose X l D cy ad7 ad8 N Rel b L xs hC hS hZ j hj hL s t hR h_choose next
    by_cases c24 : x = 24
    · refine r_tableIn (off := 979) (tgt := 1012) hC dL_law_33 (by rw [c24]; decide) (by rw [c24]; decide) (by rw [c24]; rfl) (by decide) ?_
      exact law_amount X l D cy ad7 ad8 N Rel b L xs hC hS hZ j hj hL s t hR h_amount next
    by_cases c25 : x = 25
    · refine r_tableIn (off := 1032) (tgt := 1065) hC dL_law_33 (by rw [c25]; decide) (by rw [c25]; decide) (by rw [c25]; rfl) (by decide) ?_
      exact law_bar X l D cy ad7 ad8 N Rel b L xs hC hS hZ j hj hL s t hR h_bar next
    by_cases c26 : x = 26
    · refine r_tableIn (off := 1091) (tgt := 1124) hC dL_law_33 (by rw [c26]; decide) (by rw [c26]; decide) (by rw [c26]; rfl) (by decide) ?_
      exact law_worst X l D cy ad7 ad8 N Rel b L xs hC hS hZ j hj hL s t hR h_worst next
    by_cases c27 : x = 27
    · refine r_tableIn (off := 1104) (tgt := 1137) hC dL_law_33 (by rw [c27]; decide) (by rw [c27]; decide) (by rw [c27]; rfl) (by decide) ?_
      exact law_cycle X l D cy ad7 ad8 N Rel b L xs hC hS hZ j hj hL s t hR h_cycle next
    by_cases c28 : x = 28
    · refine r_tableIn (off := 1137) (tgt := 1170) hC dL_law_33 (by rw [c28]; decide) (by rw [c28]; decide) (by rw [c28]; rfl) (by decide) ?_
      exact law_used X l D cy ad7 ad8 N Rel b L xs hC hS hZ j hj hL s t hR h_used next
    by_cases c29 : x = 29
    · refine r_tableIn (off := 1150) (tgt := 1183) hC dL_law_33 (by rw [c29]; decide) (by rw [c29]; decide) (by rw [c29]; rfl) (by decide) ?_
      exact law_read X l D cy ad7 ad8 N Rel b L xs hC hS hZ j hj hL s t hR h_read next
    by_cases c30 : x = 30
    · refine r_tableIn (off := 1183) (tgt := 1216) hC dL_law_33 (by rw [c30]; decide) (by rw [c30]; decide) (by rw [c30]; rfl) (by decide) ?_
      exact law_missing X l D cy ad7 ad8 N Rel b L xs hC hS hZ j hj hL s t hR h_missing next
    by_cases c31 : x = 31
    · refine r_tableIn (off := 1206) (tgt := 1239) hC dL_law_33 (by rw [c31]; decide) (by rw [c31]; decide) (by rw [c31]; rfl) (by decide) ?_
      exact law_asked X l D cy ad7 ad8 N Rel b L xs hC hS hZ j hj hL s t hR h_asked next
    by_cases c32 : x = 32
    · refine r_tableIn (off := 1219) (tgt := 1252) hC dL_law_33 (by rw [c32]; decide) (by rw [c32]; decide) (by rw [c32]; rfl) (by decide) ?_
      exact law_upper X l D cy ad7 ad8 N Rel b L xs hC hS hZ j hj hL s t hR h_upper next
    by_cases c33 : x = 33
    · refine r_tableIn (off := 1233) (tgt := 1266) hC dL_law_33 (by rw [c33]; decide) (by rw [c33]; decide) (by rw [c33]; rfl) (by decide) ?_
      exact law_lower X l D cy ad7 ad8 N Rel b L xs hC hS hZ j hj hL s t hR h_lower next
    by_cases c34 : x = 34
    · refine r_tableIn (off := 1247) (tgt := 1280) hC dL_law_33 (by rw [c34]; decide) (by rw [c34]; decide) (by rw [c34]; rfl) (by decide) ?_
      exact law_count X l D cy ad7 ad8 N Rel b L xs hC hS hZ j hj hL s t hR h_count next
    by_cases c35 : x = 35
    · refine r_tableIn (off := 1270) (tgt := 1303) hC dL_law_33 (by rw [c35]; decide) (by rw [c35]; decide) (by rw [c35]; rfl) (by decide) ?_
      exact law_finding X l D cy ad7 ad8 N Rel b L xs hC hS hZ j hj hL s t hR h_finding next
    by_cases c36 : x = 36
    · refine r_tableIn (off := 1283) (tgt := 1316) hC dL_law_33 (by rw [c36]; decide) (by rw [c36]; decide) (by rw [c36]; rfl) (by decide) ?_
      exact law_findings X l D cy ad7 ad8 N Rel b L xs hC hS hZ j hj hL s t hR h_findings next
    by_cases c37 : x = 37
    · refine r_tableIn (off := 1306) (tgt := 1339) hC dL_law_33 (by rw [c37]; decide) (by rw [c37]; decide) (by rw [c37]; rfl) (by decide) ?_
      exact law_digest X l D cy ad7 ad8 N Rel b L xs hC hS hZ j hj hL s t hR h_digest next
    refine r_tableOut (tgt := 1353) hC dL_law_33 (tb_37 c0 c1 c2 c3 c4 c5 c6 c7 c8 c9 c10 c11 c12 c13 c14 c15 c16 c17 c18 c19 c20 c21 c22 c23 c24 c25 c26 c27 c28 c29 c30 c31 c32 c33 c34 c35 c36 c37) (by decide) ?_
    exact next s t hR
theorem arr_of {ty : FieldType} {args : Array Value} {s : State} (hp : ∀ C, ty ≠ .object C) (h : (Cond.arrayClass ty).before args s = true) : ∃ cA : ClassId, ArrOfT s cA ty ∧ va_RA s cA ty := by
  obtain ⟨cA, kA, comp, h1, h2, h3⟩ := Cond.arrayClass_spec h
  refine ⟨cA, fun n z => ⟨fun k h => (by cases h), kA, h2, comp, h3⟩, ?_⟩
  cases ty with
  | object C => exact absurd rfl (hp C)
  | _ => exact h1
set_option maxHeartbeats 16000000 in
set_option maxRecDepth 100000 in
theorem whole_open {p : Program} {e : Env} {s : State} {m : MethodId} {below : List Frame} {meth : Method} {c : Code} (l : Launch) {b L : Nat} {xs : Nat → Int32} (hL : L ≤ 3072) (C0 : lw_At p s m meth c b L xs) (N : Nat) (Rel : S7 → S8 → Prop) (hsim : Sim N Rel) : W p l e room_1 s m #[Value.ref b] below meth c s.heap [] 0 0 (lw_Z below #[Value.ref b] s) (entryFrame m ([Value.ref b] : List Value).toArray 4) := by
  obtain ⟨hx, hb, hr, hml, hown, hts, hX, hbl, hlocks, hgv⟩ := C0
  obtain ⟨c0, iS0, hKn0⟩ := u_known (C := RX0) (T := TX0) (N := 4) (n := 4) hts inX0 (hts (.instantiable RX0 4) (ltb_1 _ (List.mem_of_getElem? (i := 113) (by decide +kernel))))
  obtain ⟨c1, iS1, hKn1⟩ := u_known (C := RX1) (T := TX1) (N := 2) (n := 2) hts inX1 (hts (.instantiable RX1 2) (ltb_1 _ (List.mem_of_getElem? (i := 133) (by decide +kernel))))
  obtain ⟨c2, iS2, hKn2⟩ := u_known (C := RX2) (T := TX2) (N := 2) (n := 2) hts inX2 (hts (.instantiable RX2 2) (ltb_1 _ (List.mem_of_getElem? (i := 146) (by decide +kernel))))
  obtain ⟨c3, iS3, hKn3⟩ := u_known (C := RX3) (T := TX3) (N := 2) (n := 2) hts inX3 (hts (.instantiable RX3 2) (ltb_1 _ (List.mem_of_getElem? (i := 100) (by decide +kernel))))
  obtain ⟨c4, iS4, hKn4⟩ := u_known (C := RX4) (T := TX4) (N := 7) (n := 7) hts inX4 (hts (.instantiable RX4 7) (ltb_1 _ (List.mem_of_getElem? (i := 71) (by decide +kernel))))
  obtain ⟨c5, iS5, hKn5⟩ := u_known (C := RX5) (T := TX5) (N := 7) (n := 7) hts inX5 (hts (.instantiable RX5 7) (ltb_1 _ (List.mem_of_getElem? (i := 43) (by decide +kernel))))
  obtain ⟨c6, iS6, hKn6⟩ := u_known (C := RX6) (T := TX6) (N := 3) (n := 3) hts inX6 (hts (.instantiable RX6 3) (ltb_1 _ (List.mem_of_getElem? (i := 22) (by decide +kernel))))
  obtain ⟨c7, iS7, hKn7⟩ := u_known (C := RX7) (T := TX7) (N := 10) (n := 10) hts inX7 (hts (.instantiable RX7 10) (ltb_1 _ (List.mem_of_getElem? (i := 14) (by decide +kernel))))
  obtain ⟨c8, iS8, hKn8⟩ := u_known (C := RX8) (T := TX8) (N := 34) (n := 34) hts inX8 (hts (.instantiable RX8 34) (ltb_3 _ (List.mem_of_getElem? (i := 210) (by decide +kernel))))
  obtain ⟨D, hKc⟩ : ∃ D : va_G, ∀ (k : Nat) (q : vw_C), vwCl[k]? = some q → u_Kn s q.1 q.2.1 q.2.2 (D.1 k) (D.2 k) := by
    refine ⟨(fun k => if k = 0 then c0 else if k = 1 then c1 else if k = 2 then c2 else if k = 3 then c3 else if k = 4 then c4 else if k = 5 then c5 else if k = 6 then c6 else if k = 7 then c7 else c8, fun k => if k = 0 then iS0 else if k = 1 then iS1 else if k = 2 then iS2 else if k = 3 then iS3 else if k = 4 then iS4 else if k = 5 then iS5 else if k = 6 then iS6 else if k = 7 then iS7 else iS8), ?_⟩
    intro k q hq
    match k, hq with
    | 0, hq => cases hq; exact hKn0
    | 1, hq => cases hq; exact hKn1
    | 2, hq => cases hq; exact hKn2
    | 3, hq => cases hq; exact hKn3
    | 4, hq => cases hq; exact hKn4
    | 5, hq => cases hq; exact hKn5
    | 6, hq => cases hq; exact hKn6
    | 7, hq => cases hq; exact hKn7
    | 8, hq => cases hq; exact hKn8
    | k + 9, hq => simp [vwCl] at hq
  obtain ⟨y0, hA0, hB0⟩ := arr_of (ty := .byte) (fun C h => by cases h) (hts (.arrayClass .byte) (ltb_1 _ (List.mem_of_getElem? (i := 40) (by decide +kernel))))
  obtain ⟨y1, hA1, hB1⟩ := arr_of (ty := .int) (fun C h => by cases h) (hts (.arrayClass .int) (ltb_1 _ (List.mem_of_getElem? (i := 41) (by decide +kernel))))
  obtain ⟨y2, hA2, hB2⟩ := arr_of (ty := .boolean) (fun C h => by cases h) (hts (.arrayClass .boolean) (ltb_1 _ (List.mem_of_getElem? (i := 98) (by decide +kernel))))
  obtain ⟨cy, ecy⟩ : ∃ cy : Nat → ClassId, cy = (fun k => if k = 0 then y0 else if k = 1 then y1 else y2) := ⟨_, rfl⟩
  have hK : va_K D vwCl (ty3 cy) s := by
    refine ⟨hKc, fun k q hq => ?_⟩
    subst ecy
    match k, hq with
    | 0, hq => cases hq; exact ⟨hA0, hB0⟩
    | 1, hq => cases hq; exact ⟨hA1, hB1⟩
    | 2, hq => cases hq; exact ⟨hA2, hB2⟩
    | k + 3, hq => simp at hq
  clear hKn0 hKn1 hKn2 hKn3 hKn4 hKn5 hKn6 hKn7 hKn8 ecy hA0 hA1 hA2 hB0 hB1 hB2
  have hZ7 : Z7 s := ⟨(va_Nw.of rfl (hts (.methodLinkNest RX7 36 yX3_init RX7) (ltb_1 _ (List.mem_of_getElem? (i := 101) (by decide +kernel))))), (va_Nw.of rfl (hts (.methodLinkNest RX7 50 yX1_init RX7) (ltb_1 _ (List.mem_of_getElem? (i := 134) (by decide +kernel))))), (va_Nw.of rfl (hts (.methodLinkNest RX7 57 yX2_init RX7) (ltb_1 _ (List.mem_of_getElem? (i := 147) (by decide +kernel)))))⟩
  have hZL : ZL s := ⟨hZ7, (va_Nw.of rfl (hts (.fieldLinkNest RX7 274 "HotPipes$Fraction" "above" "J" RX7) (ltb_1 _ (List.mem_of_getElem? (i := 152) (by decide +kernel))))), (va_Nw.of rfl (hts (.fieldLinkNest RX7 278 "HotPipes$Fraction" "below" "J" RX7) (ltb_1 _ (List.mem_of_getElem? (i := 154) (by decide +kernel)))))⟩
  obtain ⟨X, eX⟩ : ∃ X : CX, X = (p, l, e, room_1, s, m, #[Value.ref b], below, meth, c, D, (fun q => s.heap.size ≤ q), lw_Z below #[Value.ref b] s) := ⟨_, rfl⟩
  have hC : OK X l D cy room_1 code 4 wsL_law RL := by rw [eX]; exact ⟨hx, hb, hml, hown, fun w hw => hts w (wsL_law_in w hw), hK, fun q hq => hq, rfl, rfl, rfl⟩
  have hSC : SC X b L xs := by rw [eX]; exact ⟨hX, hbl, Nat.not_le.mpr hbl⟩
  have hZX : ZL X.2.2.2.2.1 := by rw [eX]; exact hZL
  have hend : ∀ (ws : va_W) (lv : List (Nat × Value)), GG X 4 52 1789 ws lv 1360 [.int 1] := by rw [eX]; exact fun ws lv => r_end hx hb hr hlocks dL_law_1360
  have hrun : GG X 4 0 0 [] [(0, .ref b)] 0 [] := by
    obtain ⟨⟨z8_sizes, z8_weights, z8_high, hf8, hR0⟩, -⟩ := id hsim
    refine r_new (ci := 7) hC inlX7 tyX7_ok (List.mem_append_left _ (List.mem_append_left _ (List.mem_append_left _ (List.mem_append_left _ (List.mem_append_left _ (List.mem_append_left _ (List.mem_append_left _ (List.mem_append_left _ (List.mem_append_left _ (List.mem_append_left _ (List.mem_of_getElem? (i := 0) (by decide +kernel)))))))))))) (List.mem_append_left _ (List.mem_append_left _ (List.mem_append_left _ (List.mem_append_left _ (List.mem_append_left _ (List.mem_append_left _ (List.mem_append_left _ (List.mem_append_left _ (List.mem_append_left _ (List.mem_append_left _ (List.mem_of_getElem? (i := 1) (by decide +kernel)))))))))))) (List.mem_append_left _ (List.mem_append_left _ (List.mem_append_left _ (List.mem_append_left _ (List.mem_append_left _ (List.mem_append_left _ (List.mem_append_left _ (List.mem_append_left _ (List.mem_append_left _ (List.mem_append_left _ (List.mem_of_getElem? (i := 2) (by decide +kernel)))))))))))) rfl [.null, .null, .null, .null, .null, .null, .null, .null, .int 0, .int 0] (fun j hj => by rcases (show j = 0 ∨ j = 1 ∨ j = 2 ∨ j = 3 ∨ j = 4 ∨ j = 5 ∨ j = 6 ∨ j = 7 ∨ j = 8 ∨ j = 9 by omega) with rfl | rfl | rfl | rfl | rfl | rfl | rfl | rfl | rfl | rfl <;> rfl) (Nat.le_of_ble_eq_true rfl) (Nat.le_of_ble_eq_true rfl) dL_law_0 (fun q7 => ?_)
    refine r_ws [(q7, .inr (7, [.null, .null, .null, .null, .null, .null, .null, .null, .int 0, .int 0]))] rfl ?_
    refine r_dup hC dL_law_3 rfl ?_
    refine r_nv (st := [.ref q7]) hC Z7_ok hZX.1 (kX7_init l D cy q7) gL_law_X7_init rfl ⟨rfl, rfl⟩ (List.mem_append_left _ (List.mem_append_left _ (List.mem_append_left _ (List.mem_append_left _ (List.mem_append_left _ (List.mem_append_left _ (List.mem_append_left _ (List.mem_append_left _ (List.mem_append_left _ (List.mem_append_left _ (List.mem_of_getElem? (i := 2) (by decide +kernel)))))))))))) (List.mem_append_left _ (List.mem_append_left _ (List.mem_append_left _ (List.mem_append_left _ (List.mem_append_left _ (List.mem_append_left _ (List.mem_append_left _ (List.mem_append_left _ (List.mem_append_left _ (List.mem_append_left _ (List.mem_of_getElem? (i := 6) (by decide +kernel)))))))))))) (List.mem_append_left _ (List.mem_append_left _ (List.mem_append_left _ (List.mem_append_left _ (List.mem_append_left _ (List.mem_append_left _ (List.mem_append_left _ (List.mem_append_left _ (List.mem_append_left _ (List.mem_append_left _ (List.mem_of_getElem? (i := 7) (by decide +kernel)))))))))))) rfl ydX7_init ⟨(Nat.le_of_ble_eq_true rfl), (Nat.le_of_ble_eq_true rfl)⟩ ⟨(Nat.le_of_ble_eq_true rfl), (Nat.le_of_ble_eq_true rfl)⟩ [] rfl _ rfl (Nat.le_of_ble_eq_true rfl) dL_law_4 (fun ad => ?_)
    obtain ⟨ad7, ea7⟩ : ∃ ad7 : Nat → Nat, ad7 = (fun j => if j = 70 then q7 else ad j) := ⟨_, rfl⟩
    have e7 : q7 = ad7 70 := by rw [ea7]; rfl
    refine r_ws (W7 cy ad7 init7) (by rw [ea7]; rfl) ?_
    clear ea7
    subst e7
    refine r_astore_n hC [(1, .ref (ad7 70)), (0, .ref b)] dL_law_7 rfl (by decide) rfl ?_
    refine r_new (ci := 8) hC inlX8 tyX8_ok (List.mem_append_left _ (List.mem_append_left _ (List.mem_append_left _ (List.mem_append_left _ (List.mem_append_left _ (List.mem_append_left _ (List.mem_append_left _ (List.mem_append_left _ (List.mem_append_left _ (List.mem_append_left _ (List.mem_of_getElem? (i := 3) (by decide +kernel)))))))))))) (List.mem_append_left _ (List.mem_append_left _ (List.mem_append_left _ (List.mem_append_left _ (List.mem_append_left _ (List.mem_append_left _ (List.mem_append_left _ (List.mem_append_left _ (List.mem_append_left _ (List.mem_append_left _ (List.mem_of_getElem? (i := 4) (by decide +kernel)))))))))))) (List.mem_append_left _ (List.mem_append_left _ (List.mem_append_left _ (List.mem_append_left _ (List.mem_append_left _ (List.mem_append_left _ (List.mem_append_left _ (List.mem_append_left _ (List.mem_append_left _ (List.mem_append_left _ (List.mem_of_getElem? (i := 5) (by decide +kernel)))))))))))) rfl [.int 0, .null, .int 0, .long 0, .long 0, .null, .null, .null, .null, .int 0, .null, .null, .null, .int 0, .null, .null, .null, .null, .null, .int 0, .null, .null, .null, .null, .null, .int 0, .null, .null, .null, .null, .null, .int 0, .null, .null] (fun j hj => by rcases (show j = 0 ∨ j = 1 ∨ j = 2 ∨ j = 3 ∨ j = 4 ∨ j = 5 ∨ j = 6 ∨ j = 7 ∨ j = 8 ∨ j = 9 ∨ j = 10 ∨ j = 11 ∨ j = 12 ∨ j = 13 ∨ j = 14 ∨ j = 15 ∨ j = 16 ∨ j = 17 ∨ j = 18 ∨ j = 19 ∨ j = 20 ∨ j = 21 ∨ j = 22 ∨ j = 23 ∨ j = 24 ∨ j = 25 ∨ j = 26 ∨ j = 27 ∨ j = 28 ∨ j = 29 ∨ j = 30 ∨ j = 31 ∨ j = 32 ∨ j = 33 by omega) with rfl | rfl | rfl | rfl | rfl | rfl | rfl | rfl | rfl | rfl | rfl | rfl | rfl | rfl | rfl | rfl | rfl | rfl | rfl | rfl | rfl | rfl | rfl | rfl | rfl | rfl | rfl | rfl | rfl | rfl | rfl | rfl | rfl | rfl <;> rfl) (Nat.le_of_ble_eq_true rfl) (Nat.le_of_ble_eq_true rfl) dL_law_8 (fun q8 => ?_)
    refine r_dup hC dL_law_11 rfl ?_
    refine r_nv (st := [.ref q8]) hC Ztrue_ok trivial (kX8_init l D cy q8 N hf8) gL_law_X8_init rfl ⟨rfl, rfl⟩ (List.mem_append_left _ (List.mem_append_left _ (List.mem_append_left _ (List.mem_append_left _ (List.mem_append_left _ (List.mem_append_left _ (List.mem_append_left _ (List.mem_append_left _ (List.mem_append_left _ (List.mem_append_left _ (List.mem_of_getElem? (i := 5) (by decide +kernel)))))))))))) (List.mem_append_left _ (List.mem_append_left _ (List.mem_append_left _ (List.mem_append_left _ (List.mem_append_left _ (List.mem_append_left _ (List.mem_append_left _ (List.mem_append_left _ (List.mem_append_left _ (List.mem_append_left _ (List.mem_of_getElem? (i := 103) (by decide +kernel)))))))))))) (List.mem_append_left _ (List.mem_append_left _ (List.mem_append_left _ (List.mem_append_left _ (List.mem_append_left _ (List.mem_append_left _ (List.mem_append_left _ (List.mem_append_left _ (List.mem_append_left _ (List.mem_append_left _ (List.mem_of_getElem? (i := 104) (by decide +kernel)))))))))))) rfl ydX8_init ⟨(Nat.le_of_ble_eq_true rfl), (Nat.le_of_ble_eq_true rfl)⟩ ⟨(Nat.le_of_ble_eq_true rfl), (Nat.le_of_ble_eq_true rfl)⟩ (W7 cy ad7 init7) rfl _ rfl (Nat.le_of_ble_eq_true rfl) dL_law_12 (fun ad => ?_)
    obtain ⟨ad8, ea8⟩ : ∃ ad8 : Nat → Nat, ad8 = (fun j => if j = 80 then q8 else ad j) := ⟨_, rfl⟩
    have e8 : q8 = ad8 80 := by rw [ea8]; rfl
    refine r_ws (W7 cy ad7 init7 ++ W8 cy ad8 (mk8 0 0 0 1 0 0 0 0 0 z0 z8_sizes z8_weights z0 z0 z0 z0 z0 z0 z0 z0 z0 z0 z0 z0 z0 z0 z0 z0 z0 z0 z8_high z0 z0 z0)) (by rw [ea8]; rfl) ?_
    clear ea8
    subst e8
    refine r_astore_n hC [(2, .ref (ad8 80)), (1, .ref (ad7 70)), (0, .ref b)] dL_law_15 rfl (by decide) rfl ?_
    refine r_iconst hC dL_law_16 ic_0 ?_
    refine r_istore_n hC [(3, .int 0), (2, .ref (ad8 80)), (1, .ref (ad7 70)), (0, .ref b)] dL_law_17 rfl (by decide) rfl ?_
    refine r_sub [(0, .ref b), (1, .ref (ad7 70)), (2, .ref (ad8 80)), (3, .int (nI 0))] [3, 2, 1, 0] rfl ?_
    exact law_main X l D cy ad7 ad8 N Rel b L xs hC hSC hZX hL hsim hend (L + 1) 0 init7 _ (by omega) (by omega) hR0
  have hl := lv_entry ([.ref b]) (n := 4) (Nat.le_of_ble_eq_true rfl)
  rw [lg_entry_eq]
  rw [eX] at hrun
  exact hrun s.heap [] _ (fun k q h => by simp at h) ⟨fun i j p q h => by simp at h, fun k q h => by simp at h⟩ va_S.rf hl
