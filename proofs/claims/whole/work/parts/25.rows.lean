/-! ===== list, amount, cycle ===== -/
theorem nI_eqI {a b : Nat} (ha : a < 2 ^ 31) (hb : b < 2 ^ 31) : (nI a = nI b) = (a = b) := propext (nI_eq ha hb)
theorem m_list (N : Nat) : op_list N Rel := by
  intro s t hR a1
  obtain ⟨hF, hA, hU, hS, hL, hRr, hT, hC, hY⟩ := id hR
  obtain ⟨e1, e2, qT⟩ := id hT
  have same : ∀ (sz : Int32) (li : Nat → Int32), RT_ sz li → ∃ (r sz' : Int32) (li' : Nat → Int32), fX7_list sz li a1 = some (r, sz', li') ∧ fX8_list sz li a1 = some (r, sz', li') ∧ RT_ sz' li' := by
    intro sz li hq0
    obtain ⟨n, hn, en, hq⟩ := id hq0
    by_cases h : (1 : Int32) ≤ a1 ∧ a1 ≤ 500
    · by_cases h12 : n = 12
      · have h0 : ¬ nI n < 12 := by rw [h12]; decide
        have h1 : nI n = 12 := by rw [h12]; rfl
        refine ⟨-2, sz, li, ?_, ?_, hq0⟩
        · simp only [fX7_list, isRate7, ob, bz, fX3_size, en]
          rw [if_neg (not_not_intro h), if_neg h0]
        · simp only [fX8_list, wi8, ob, bz, en]
          rw [if_neg (not_not_intro h), if_pos h1]
      · have h0 : nI n < 12 := nI_lt (b := 12) (by omega) (by decide)
        have h1 : ¬ nI n = 12 := by rw [show (12 : Int32) = nI 12 from rfl, nI_eqI (by omega) (by omega)]; exact h12
        have g : vp_in (nI n) 12 := vp_in_nI (by omega) (by decide)
        obtain ⟨v, v1, v2, rfl⟩ := nI_rng 1 500 (by decide) (by decide) h.1 h.2
        refine ⟨nI (n + 1), nI (n + 1), upd li n (nI v), ?_, ?_, n + 1, by omega, rfl, ?_⟩
        · simp only [fX7_list, isRate7, ob, bz, fX3_size, en, fX3_append, og_pos g, ob2, nI_s, tn_nI (show n < 2 ^ 31 by omega)]
          rw [if_neg (not_not_intro h), if_pos h0]
        · simp only [fX8_list, wi8, ob, bz, en, og_pos g, nI_s, tn_nI (show n < 2 ^ 31 by omega)]
          rw [if_neg (not_not_intro h), if_neg h1]
        · intro k hk
          rw [upd_at]
          by_cases ek : k = n
          · rw [if_pos ek]; exact ⟨v, v1, v2, rfl⟩
          · rw [if_neg ek]; exact hq k (by omega)
    · refine ⟨-1, sz, li, ?_, ?_, hq0⟩
      · simp only [fX7_list, isRate7, ob, bz]; rw [if_pos h]
      · simp only [fX8_list, wi8, ob, bz]; rw [if_pos h]
  obtain ⟨r, sz', li', g1, g2, g3⟩ := same _ _ qT
  exact ⟨r, sz', li', sz', li', g1, by rw [e1, e2]; exact g2, hF, hA, hU, hS, hL, hRr, ⟨rfl, rfl, g3⟩, hC, hY⟩
theorem m_amount (N : Nat) : op_amount N Rel := by
  intro s t hR a1 a2 a3 a4
  obtain ⟨hF, hA, hU, hS, hL, hRr, hT, hC, hY⟩ := id hR
  obtain ⟨e1, e2, e3, e4, q1, q2⟩ := id hC
  have same : ∃ (r : Int32) (am lo hi : Nat → Int32), fX7_amount (pc0_amounts s) (pc0_lows s) (pc0_highs s) a1 a2 a3 a4 = some (r, am, lo, hi) ∧ fX8_amount (pc0_amounts s) (pc0_lows s) (pc0_highs s) a1 a2 a3 a4 = some (r, am, lo, hi) ∧ RC_ am lo hi (pc0_barred s) := by
    by_cases h : (0 : Int32) ≤ a1 ∧ a1 ≤ 7
    · by_cases h2 : (-10000 : Int32) ≤ a2 ∧ a2 ≤ 10000
      · by_cases h3 : ((-9 : Int32) ≤ a3 ∧ a3 ≤ a4) ∧ a4 ≤ 9
        · have h4 : (-9 : Int32) ≤ a3 ∧ a3 ≤ 9 := ⟨h3.1.1, by have x := h3.1.2; have y := h3.2; rw [leT] at x y ⊢; omega⟩
          have h5 : a3 ≤ a4 ∧ a4 ≤ 9 := ⟨h3.1.2, h3.2⟩
          obtain ⟨j, -, hj7, rfl⟩ := nI_rng 0 7 (by decide) (by decide) h.1 h.2
          have g : vp_in (nI j) 8 := vp_in_nI (by omega) (by decide)
          refine ⟨1, upd (pc0_amounts s) j a2, upd (pc0_lows s) j a3, upd (pc0_highs s) j a4, ?_, ?_, ?_, q2⟩
          · simp only [fX7_amount, isCase7, wi7, ob, bz, fX0_put, og_pos g, ob3, tn_nI (show j < 2 ^ 31 by omega)]
            rw [if_neg (not_not_intro h), if_neg (not_not_intro h2), if_neg (not_not_intro h3.1), if_pos h3.2]
          · simp only [fX8_amount, isCase8, wi8, ob, bz, og_pos g, tn_nI (show j < 2 ^ 31 by omega)]
            rw [if_neg (not_not_intro h), if_neg (not_not_intro h2), if_neg (not_not_intro h4), if_neg (not_not_intro h5)]
          · intro c hc
            simp only [upd_at]
            have := q1 c hc
            by_cases ec : c = j
            · simp only [ec, if_true]
              obtain ⟨b1, b2⟩ := h2
              obtain ⟨b3, b4⟩ := h4
              obtain ⟨b5, b6⟩ := h5
              rw [leT] at b1 b2 b3 b4 b5 b6
              simp only [show (-10000 : Int32).toInt = -10000 from by decide, show (10000 : Int32).toInt = 10000 from by decide, show (-9 : Int32).toInt = -9 from by decide, show (9 : Int32).toInt = 9 from by decide] at b1 b2 b3 b4 b5 b6
              omega
            · simp only [ec, if_false]; exact this
        · refine ⟨-1, pc0_amounts s, pc0_lows s, pc0_highs s, ?_, ?_, q1, q2⟩
          · simp only [fX7_amount, isCase7, wi7, ob, bz]
            rw [if_neg (not_not_intro h), if_neg (not_not_intro h2)]
            by_cases h4 : (-9 : Int32) ≤ a3 ∧ a3 ≤ a4
            · rw [if_neg (not_not_intro h4), if_neg (fun c => h3 ⟨h4, c⟩)]
            · rw [if_pos h4]
          · simp only [fX8_amount, isCase8, wi8, ob, bz]
            rw [if_neg (not_not_intro h), if_neg (not_not_intro h2)]
            by_cases h4 : (-9 : Int32) ≤ a3 ∧ a3 ≤ 9
            · rw [if_neg (not_not_intro h4), if_pos (fun c => h3 ⟨⟨h4.1, c.1⟩, c.2⟩)]
            · rw [if_pos h4]
      · refine ⟨-1, pc0_amounts s, pc0_lows s, pc0_highs s, ?_, ?_, q1, q2⟩
        · simp only [fX7_amount, isCase7, wi7, ob, bz]; rw [if_neg (not_not_intro h), if_pos h2]
        · simp only [fX8_amount, isCase8, wi8, ob, bz]; rw [if_neg (not_not_intro h), if_pos h2]
    · refine ⟨-1, pc0_amounts s, pc0_lows s, pc0_highs s, ?_, ?_, q1, q2⟩
      · simp only [fX7_amount, isCase7, ob, bz]; rw [if_pos h]
      · simp only [fX8_amount, isCase8, ob, bz]; rw [if_pos h]
  obtain ⟨r, am, lo, hi, g1, g2, g3⟩ := same
  exact ⟨r, am, lo, hi, am, lo, hi, g1, by rw [e1, e2, e3]; exact g2, hF, hA, hU, hS, hL, hRr, hT, ⟨rfl, rfl, rfl, e4, g3⟩, hY⟩
theorem ysum_cong {ti ti' ra ra' : Nat → Int32} : ∀ n, (∀ k, k < n → ti k = ti' k ∧ ra k = ra' k) → ysum ti ra n = ysum ti' ra' n
  | 0, _ => rfl
  | n + 1, h => by rw [ysum, ysum, ysum_cong n (fun k hk => h k (by omega)), (h n (by omega)).1, (h n (by omega)).2]
theorem m_cycle (N : Nat) : op_cycle N Rel := by
  intro s t hR a1 a2
  obtain ⟨hF, hA, hU, hS, hL, hRr, hT, hC, hY⟩ := id hR
  obtain ⟨e1, qY⟩ := id hY
  have same : ∀ (li : Int32) (pa : Int64) (ti ra : Nat → Int32), RY_ li pa ti ra → ∃ (r li' : Int32) (pa' : Int64) (ti' ra' : Nat → Int32), fX7_cycle li pa a1 a2 = some (r, li', pa') ∧ fX8_cycle li ti ra a1 a2 = some (r, li', ti', ra') ∧ RY_ li' pa' ti' ra' := by
    intro li pa ti ra hq0
    obtain ⟨n, hn, en, ep, hq⟩ := id hq0
    by_cases h : (1 : Int32) ≤ a1 ∧ a1 ≤ 100000
    · by_cases h2 : (1 : Int32) ≤ a2 ∧ a2 ≤ 60
      · by_cases h30 : n = 30
        · have h0 : ¬ nI n < 30 := by rw [h30]; decide
          have h1 : nI n = 30 := by rw [h30]; rfl
          refine ⟨-2, li, pa, ti, ra, ?_, ?_, hq0⟩
          · simp only [fX7_cycle, wi7, ob, bz, fX1_lines, en]; rw [if_neg (not_not_intro h), if_neg (not_not_intro h2), if_neg h0]
          · simp only [fX8_cycle, wi8, ob, bz, en]; rw [if_neg (not_not_intro h), if_neg (not_not_intro h2), if_pos h1]
        · have h0 : nI n < 30 := nI_lt (b := 30) (by omega) (by decide)
          have h1 : ¬ nI n = 30 := by rw [show (30 : Int32) = nI 30 from rfl, nI_eqI (by omega) (by omega)]; exact h30
          have g : vp_in (nI n) 30 := vp_in_nI (by omega) (by decide)
          obtain ⟨v, v1, v2, rfl⟩ := nI_rng 1 100000 (by decide) (by decide) h.1 h.2
          obtain ⟨w, w1, w2, rfl⟩ := nI_rng 1 60 (by decide) (by decide) h2.1 h2.2
          refine ⟨nI (n + 1), nI (n + 1), pa + (Int32.toInt64 (nI v) <<< (Int32.toInt64 (nI w / 4) &&& 63)), upd ti n (nI v), upd ra n (nI w), ?_, ?_, n + 1, by omega, rfl, ?_, ?_⟩
          · simp only [fX7_cycle, wi7, ob, bz, fX1_lines, en, fX1_append, ob2, nI_s]; rw [if_neg (not_not_intro h), if_neg (not_not_intro h2), if_pos h0]
          · simp only [fX8_cycle, wi8, ob, bz, en, og_pos g, nI_s, tn_nI (show n < 2 ^ 31 by omega)]; rw [if_neg (not_not_intro h), if_neg (not_not_intro h2), if_neg h1]
          · rw [ysum, ep, ysum_cong (ti := upd ti n (nI v)) (ti' := ti) (ra := upd ra n (nI w)) (ra' := ra) n (fun k hk => ⟨by rw [upd_at, if_neg (by omega)], by rw [upd_at, if_neg (by omega)]⟩), upd_at, upd_at, if_pos rfl, if_pos rfl]
          · intro k hk
            rw [upd_at, upd_at]
            by_cases ek : k = n
            · rw [if_pos ek, if_pos ek]; exact ⟨⟨v, v1, v2, rfl⟩, ⟨w, w1, w2, rfl⟩⟩
            · rw [if_neg ek, if_neg ek]; exact hq k (by omega)
      · refine ⟨-1, li, pa, ti, ra, ?_, ?_, hq0⟩
        · simp only [fX7_cycle, wi7, ob, bz]; rw [if_neg (not_not_intro h), if_pos h2]
        · simp only [fX8_cycle, wi8, ob, bz]; rw [if_neg (not_not_intro h), if_pos h2]
    · refine ⟨-1, li, pa, ti, ra, ?_, ?_, hq0⟩
      · simp only [fX7_cycle, wi7, ob, bz]; rw [if_pos h]
      · simp only [fX8_cycle, wi8, ob, bz]; rw [if_pos h]
  obtain ⟨r, li', pa', ti', ra', g1, g2, g3⟩ := same _ _ _ _ qY
  exact ⟨r, li', pa', li', ti', ra', g1, by rw [e1]; exact g2, hF, hA, hU, hS, hL, hRr, hT, hC, ⟨rfl, g3⟩⟩
