/-! ===== rests: drop, told, is, read ===== -/
theorem sub1 {n : Nat} (h : n ≤ 2 ^ 20) : (nI n - 1).toInt = (n : Int) - 1 := by
  rw [show (1 : Int32) = nI 1 from rfl, pk_sub_toInt (by omega) (by decide)]; rfl
/-- refused with BAD, with NOTHING, or not at all -/
theorem need3 {n : Nat} {mad : Int32} {ki pl ra re ko go : Nat → Int32} (h : RRn n mad ki pl ra re ko go) (lf : Int32) (fo : Nat → Int32) (p g : Int32) :
    (fX7_refusalOfRest lf fo mad ki p g = some (-1, lf, fo) ∧ fX8_need lf mad fo go g p = some (-1, lf, fo)) ∨
    (fX7_refusalOfRest lf fo mad ki p g = some (-3, 1, upd fo 1 (fo 1 + 1)) ∧ fX8_need lf mad fo go g p = some (-3, 1, upd fo 1 (fo 1 + 1))) ∨
    (∃ r : Nat, r < n ∧ p = nI r ∧ ¬ g = 0 ∧ go r = 0 ∧ fX7_refusalOfRest lf fo mad ki p g = some (0, lf, fo) ∧ fX8_need lf mad fo go g p = some (0, lf, fo)) := by
  obtain ⟨hn, en, hq⟩ := h
  by_cases h1 : (0 : Int32) ≤ p ∧ p ≤ mad - 1
  · by_cases h2 : g = 0
    · left
      constructor
      · simp only [fX7_refusalOfRest, fX4_made, ob, wi7, bz]; rw [if_neg (not_not_intro h1), if_pos h2]
      · simp only [fX8_need, ob, wi8, bz, oj]; rw [if_neg (not_not_intro h1), if_pos h2]
    · right
      obtain ⟨r, hr31, rfl⟩ := nI_of (x := p) (by have := h1.1; rw [leT, t_0] at this; rw [ltT, t_0]; omega)
      have hr : r < n := by
        have := h1.2
        rw [leT, en, sub1 (by omega), nI_T hr31] at this
        omega
      have gr : vp_in (nI r) 12 := vp_in_nI (by omega) (by decide)
      obtain ⟨⟨k, hk, ek, hk2⟩, -⟩ := hq r hr
      rcases hk2 with ⟨g0, kk⟩ | ⟨g1, kk⟩
      · right
        have hk1 : ¬ ki r = -1 := by
          rw [kk, eqT, nI_T (by omega), t_m1]; omega
        refine ⟨r, hr, rfl, h2, g0, ?_, ?_⟩
        · simp only [fX7_refusalOfRest, fX4_made, ob, wi7, bz, fX4_isGone, og_pos gr, tn_nI hr31, hk1, if_false, if_true]; rw [if_neg (not_not_intro h1), if_neg h2]
        · simp only [fX8_need, ob, wi8, bz, oj, og_pos gr, tn_nI hr31, g0, if_true]; rw [if_neg (not_not_intro h1), if_neg h2]
      · left
        have n01 : ¬ (1 : Int32) = 0 := by decide
        constructor
        · simp only [fX7_refusalOfRest, fX4_made, ob, wi7, bz, fX4_isGone, og_pos gr, tn_nI hr31, kk, if_true, n01, if_false, ob3, refuse7_1]; rw [if_neg (not_not_intro h1), if_neg h2]
        · simp only [fX8_need, ob, wi8, bz, oj, og_pos gr, tn_nI hr31, g1, n01, if_false, ob3, meets8_1]; rw [if_neg (not_not_intro h1), if_neg h2]
  · left
    constructor
    · simp only [fX7_refusalOfRest, fX4_made, ob, wi7, bz]; rw [if_pos h1]
    · simp only [fX8_need, ob, wi8, bz, oj]; rw [if_pos h1]
theorem nm1 : ¬ (-1 : Int32) = 0 := by decide
theorem nm3 : ¬ (-3 : Int32) = 0 := by decide
theorem lm1 : ¬ (0 : Int32) ≤ -1 := by decide
theorem lm3 : ¬ (0 : Int32) ≤ -3 := by decide
theorem l00 : (0 : Int32) ≤ 0 := by decide
theorem narz1 : vp_nar .boolean 1 = 1 := by decide
theorem narz0 : vp_nar .boolean 0 = 0 := by decide
theorem RR_drop {n : Nat} {mad : Int32} {ki pl ra re ko go : Nat → Int32} (h : RRn n mad ki pl ra re ko go) (r : Nat) : RRn n mad (upd ki r (-1)) pl ra re ko (upd go r 1) := by
  refine ⟨h.1, h.2.1, fun i hi => ?_⟩
  obtain ⟨⟨k, hk, ek, h2⟩, h3⟩ := h.2.2 i hi
  refine ⟨⟨k, hk, ek, ?_⟩, h3⟩
  rw [upd_at, upd_at]
  by_cases e : i = r
  · rw [if_pos e, if_pos e]; exact Or.inr ⟨rfl, rfl⟩
  · rw [if_neg e, if_neg e]; exact h2
theorem m_drop (N : Nat) : op_drop N Rel := by
  intro s t hR a1
  obtain ⟨hF, hA, hU, hS, hL, hRr, hT, hC, hY⟩ := id hR
  obtain ⟨e1, e2, e3, e4, n, q⟩ := id hRr
  have hqn := q.1
  rcases need3 q (pc7_lastFound s) (pc7_found s) a1 1 with ⟨h7, h8⟩ | ⟨h7, h8⟩ | ⟨r, hr, rfl, -, g0, h7, h8⟩
  · refine ⟨-1, pc7_lastFound s, pc7_found s, pc4_kinds s, pc7_lastFound s, pc7_found s, pc8_isGone t, ?_, ?_, ⟨rfl, rfl⟩, hA, hU, hS, hL, ⟨e1, e2, e3, e4, n, q⟩, hT, hC, hY⟩
    · simp only [fX7_drop, h7, ob3, ob, nm1, if_false]
    · simp only [fX8_drop, e1, hF.1, hF.2, h8, ob3, ob, lm1, if_false]
  · refine ⟨-3, 1, upd (pc7_found s) 1 (pc7_found s 1 + 1), pc4_kinds s, 1, upd (pc7_found s) 1 (pc7_found s 1 + 1), pc8_isGone t, ?_, ?_, ⟨rfl, rfl⟩, hA, hU, hS, hL, ⟨e1, e2, e3, e4, n, q⟩, hT, hC, hY⟩
    · simp only [fX7_drop, h7, ob3, ob, nm3, if_false]
    · simp only [fX8_drop, e1, hF.1, hF.2, h8, ob3, ob, lm3, if_false]
  · have gr : vp_in (nI r) 12 := vp_in_nI (by omega) (by decide)
    refine ⟨1, pc7_lastFound s, pc7_found s, upd (pc4_kinds s) r (-1), pc7_lastFound s, pc7_found s, upd (pc8_isGone t) r 1, ?_, ?_, ⟨rfl, rfl⟩, hA, hU, hS, hL, ⟨e1, e2, e3, e4, n, RR_drop q r⟩, hT, hC, hY⟩
    · simp only [fX7_drop, h7, ob3, ob, if_true, fX4_remove, og_pos gr, tn_nI (show r < 2 ^ 31 by omega)]
    · simp only [fX8_drop, e1, hF.1, hF.2, h8, ob3, ob, l00, if_true, og_pos gr, tn_nI (show r < 2 ^ 31 by omega), narz1]
theorem kind_eq {n : Nat} {mad : Int32} {ki pl ra re ko go : Nat → Int32} (h : RRn n mad ki pl ra re ko go) {r : Nat} (hr : r < n) (g0 : go r = 0) : ki r = ko r ∧ ∃ k : Nat, k < 4 ∧ ko r = nI k := by
  obtain ⟨⟨k, hk, ek, h2⟩, -⟩ := h.2.2 r hr
  rcases h2 with ⟨-, h3⟩ | ⟨h3, -⟩
  · exact ⟨by rw [h3, ek], k, hk, ek⟩
  · rw [g0] at h3; exact absurd h3 (by decide)
/-- isPresent and isThere -/
theorem pres7 {n : Nat} {mad : Int32} {ki pl ra re ko go : Nat → Int32} (h : RRn n mad ki pl ra re ko go) (ln : Int32) {r : Nat} (hr : r < n) : fX4_isPresent ki pl ln (nI r) = some (if go r = 0 ∧ pl r < ln then 1 else 0) := by
  have hn := h.1
  have gr : vp_in (nI r) 12 := vp_in_nI (by omega) (by decide)
  obtain ⟨⟨k, hk, ek, h2⟩, -⟩ := h.2.2 r hr
  rcases h2 with ⟨g0, kk⟩ | ⟨g1, kk⟩
  · have hk1 : ¬ ki r = -1 := by rw [kk, eqT, nI_T (by omega), t_m1]; omega
    simp only [fX4_isPresent, fX4_isGone, og_pos gr, tn_nI (show r < 2 ^ 31 by omega), hk1, if_false, ob, oj, if_true, fX5_length, g0, true_and]
    by_cases hl : ln ≤ pl r
    · rw [if_pos hl, if_neg (by rw [ltT]; rw [leT] at hl; omega)]
    · rw [if_neg hl, if_pos (by rw [ltT]; rw [leT] at hl; omega)]
  · have n01 : ¬ (1 : Int32) = 0 := by decide
    simp only [fX4_isPresent, fX4_isGone, og_pos gr, tn_nI (show r < 2 ^ 31 by omega), kk, if_true, ob, oj, n01, if_false, g1, false_and]
theorem pres8 {n : Nat} {mad : Int32} {ki pl ra re ko go : Nat → Int32} (h : RRn n mad ki pl ra re ko go) (ln : Int32) {r : Nat} (hr : r < n) : fX8_isThere ln pl go (nI r) = some (if go r = 0 ∧ pl r < ln then 1 else 0) := by
  have hn := h.1
  have gr : vp_in (nI r) 12 := vp_in_nI (by omega) (by decide)
  simp only [fX8_isThere, og_pos gr, tn_nI (show r < 2 ^ 31 by omega), oj]
  by_cases g0 : go r = 0
  · simp only [g0, if_true, true_and]
    by_cases hl : ln ≤ pl r
    · rw [if_pos hl, if_neg (by rw [ltT]; rw [leT] at hl; omega)]
    · rw [if_neg hl, if_pos (by rw [ltT]; rw [leT] at hl; omega)]
  · simp only [g0, if_false, false_and]
theorem tell_eq {n : Nat} {mad : Int32} {ki pl ra re ko go : Nat → Int32} (h : RRn n mad ki pl ra re ko go) (ln : Int32) {r : Nat} (hr : r < n) (g0 : go r = 0) (w : Int32) : ∃ v, fX4_tell ki pl ra ln (nI r) w = some v ∧ fX8_toldOf ln ko pl ra go (nI r) w = some v := by
  have hn := h.1
  have gr : vp_in (nI r) 12 := vp_in_nI (by omega) (by decide)
  have ke := (kind_eq h hr g0).1
  simp only [fX4_tell, fX8_toldOf, og_pos gr, tn_nI (show r < 2 ^ 31 by omega), pres7 h ln hr, pres8 h ln hr, ob, ke]
  by_cases h0 : w = 0
  · rw [if_pos h0]; exact ⟨_, rfl, rfl⟩
  · rw [if_neg h0]
    by_cases h1 : w = 1
    · rw [if_pos h1]; exact ⟨_, rfl, rfl⟩
    · rw [if_neg h1]
      by_cases h2 : w = 2
      · rw [if_pos h2]; exact ⟨_, rfl, rfl⟩
      · rw [if_neg h2]
        by_cases h3 : (if go r = 0 ∧ pl r < ln then (1 : Int32) else 0) = 0
        · rw [if_pos h3]; exact ⟨_, rfl, rfl⟩
        · rw [if_neg h3]; exact ⟨_, rfl, rfl⟩
theorem m_told (N : Nat) : op_told N Rel := by
  intro s t hR a1 a2
  obtain ⟨hF, hA, hU, hS, hL, hRr, hT, hC, hY⟩ := id hR
  obtain ⟨e1, e2, e3, e4, n, q⟩ := id hRr
  have hl := hL.2.1
  rcases need3 q (pc7_lastFound s) (pc7_found s) a1 (if (0 : Int32) ≤ a2 ∧ a2 ≤ 3 then 1 else 0) with ⟨h7, h8⟩ | ⟨h7, h8⟩ | ⟨r, hr, rfl, -, g0, h7, h8⟩
  · refine ⟨-1, pc7_lastFound s, pc7_found s, pc7_lastFound s, pc7_found s, ?_, ?_, ⟨rfl, rfl⟩, hA, hU, hS, hL, hRr, hT, hC, hY⟩
    · simp only [fX7_told, wi7, h7, ob3, ob, nm1, if_false]
    · simp only [fX8_told, wi8, e1, hF.1, hF.2, h8, ob3, ob, lm1, if_false]
  · refine ⟨-3, 1, upd (pc7_found s) 1 (pc7_found s 1 + 1), 1, upd (pc7_found s) 1 (pc7_found s 1 + 1), ?_, ?_, ⟨rfl, rfl⟩, hA, hU, hS, hL, hRr, hT, hC, hY⟩
    · simp only [fX7_told, wi7, h7, ob3, ob, nm3, if_false]
    · simp only [fX8_told, wi8, e1, hF.1, hF.2, h8, ob3, ob, lm3, if_false]
  · obtain ⟨v, t7, t8⟩ := tell_eq q (pc5_length s) hr g0 a2
    refine ⟨v, pc7_lastFound s, pc7_found s, pc7_lastFound s, pc7_found s, ?_, ?_, ⟨rfl, rfl⟩, hA, hU, hS, hL, hRr, hT, hC, hY⟩
    · simp only [fX7_told, wi7, h7, ob3, ob, if_true, t7]
    · simp only [fX8_told, wi8, e1, e2, e3, hl, hF.1, hF.2, h8, ob3, ob, l00, if_true, t8]
theorem m_is (N : Nat) : op_is N Rel := by
  intro s t hR a1 a2
  obtain ⟨hF, hA, hU, hS, hL, hRr, hT, hC, hY⟩ := id hR
  obtain ⟨e1, e2, e3, e4, n, q⟩ := id hRr
  have hqn := q.1
  rcases need3 q (pc7_lastFound s) (pc7_found s) a1 (if (0 : Int32) ≤ a2 ∧ a2 ≤ 3 then 1 else 0) with ⟨h7, h8⟩ | ⟨h7, h8⟩ | ⟨r, hr, rfl, -, g0, h7, h8⟩
  · refine ⟨-1, pc7_lastFound s, pc7_found s, pc7_lastFound s, pc7_found s, ?_, ?_, ⟨rfl, rfl⟩, hA, hU, hS, hL, hRr, hT, hC, hY⟩
    · simp only [fX7_is, isKind7, h7, ob3, ob, nm1, if_false]
    · simp only [fX8_is, wi8, e1, hF.1, hF.2, h8, ob3, ob, lm1, if_false]
  · refine ⟨-3, 1, upd (pc7_found s) 1 (pc7_found s 1 + 1), 1, upd (pc7_found s) 1 (pc7_found s 1 + 1), ?_, ?_, ⟨rfl, rfl⟩, hA, hU, hS, hL, hRr, hT, hC, hY⟩
    · simp only [fX7_is, isKind7, h7, ob3, ob, nm3, if_false]
    · simp only [fX8_is, wi8, e1, hF.1, hF.2, h8, ob3, ob, lm3, if_false]
  · have gr : vp_in (nI r) 12 := vp_in_nI (by omega) (by decide)
    have n01 : ¬ (1 : Int32) = 0 := by decide
    have ke := (kind_eq q hr g0).1
    refine ⟨if pc8_kindOf t r = a2 ∨ a2 = 0 ∨ (a2 = 1 ∧ pc8_kindOf t r = 2) then 1 else 0, pc7_lastFound s, pc7_found s, pc7_lastFound s, pc7_found s, ?_, ?_, ⟨rfl, rfl⟩, hA, hU, hS, hL, hRr, hT, hC, hY⟩
    · simp only [fX7_is, isKind7, h7, ob3, ob, if_true, fX4_isOfKind, og_pos gr, olet, oj, tn_nI (show r < 2 ^ 31 by omega), ke]
      by_cases c1 : pc8_kindOf t r = a2
      · simp [c1, n01]
      · by_cases c2 : a2 = 0
        · simp [c1, c2, n01]
        · by_cases c3 : a2 = 1
          · by_cases c4 : pc8_kindOf t r = 2
            · simp [c1, c2, c3, c4, n01]
            · have c5 : ¬ pc8_kindOf t r = 1 := fun z => c1 (by rw [z, c3])
              simp [c3, c4, c5, n01]
          · simp [c1, c2, c3, n01]
    · simp only [fX8_is, wi8, e1, hF.1, hF.2, h8, ob3, ob, l00, if_true, og_pos gr, oj, tn_nI (show r < 2 ^ 31 by omega)]
      by_cases c2 : a2 = 0
      · simp [c2]
      · by_cases c1 : pc8_kindOf t r = a2
        · simp [c1, c2]
        · by_cases c3 : a2 = 1
          · by_cases c4 : pc8_kindOf t r = 2
            · simp [c1, c2, c3, c4]
            · have c5 : ¬ pc8_kindOf t r = 1 := fun z => c1 (by rw [z, c3])
              simp [c3, c4, c5, n01]
          · simp [c1, c2, c3]
theorem RR_read {n : Nat} {mad : Int32} {ki pl ra re ko go : Nat → Int32} (h : RRn n mad ki pl ra re ko go) (r : Nat) {v : Int32} (hv : v = -9 ∨ ∃ w : Nat, w ≤ 100000 ∧ v = nI w) : RRn n mad ki pl ra (upd re r v) ko go := by
  refine ⟨h.1, h.2.1, fun i hi => ?_⟩
  obtain ⟨a, b, c, d, f⟩ := h.2.2 i hi
  refine ⟨a, b, c, d, ?_⟩
  rw [upd_at]
  by_cases e : i = r
  · rw [if_pos e]; exact hv
  · rw [if_neg e]; exact f
theorem m_read (N : Nat) : op_read N Rel := by
  intro s t hR a1 a2
  obtain ⟨hF, hA, hU, hS, hL, hRr, hT, hC, hY⟩ := id hR
  obtain ⟨e1, e2, e3, e4, n, q⟩ := id hRr
  have hqn := q.1
  have fl7 : (oj (some (1 : Int32)) (fun (K18_12 : Option Int32) => (if a2 = (-9) then K18_12 else ob (fX7_isWithin a2 0 100000) (fun (r14 : Int32) => (if r14 = 0 then some 0 else K18_12))))) = some (if a2 = -9 ∨ ((0 : Int32) ≤ a2 ∧ a2 ≤ 100000) then 1 else 0) := by
    simp only [oj, wi7, ob, bz]
    by_cases c : a2 = -9
    · simp [c]
    · by_cases c2 : (0 : Int32) ≤ a2 ∧ a2 ≤ 100000
      · rw [if_neg c, if_neg (not_not_intro c2), if_pos (Or.inr c2)]
      · rw [if_neg c, if_pos c2, if_neg (fun z => z.elim c c2)]
  have fl8 : (oj (some (1 : Int32)) (fun (K17_12 : Option Int32) => (if a2 = (-9) then K17_12 else ob (fX8_in a2 0 100000) (fun (r14 : Int32) => (if r14 = 0 then some 0 else K17_12))))) = some (if a2 = -9 ∨ ((0 : Int32) ≤ a2 ∧ a2 ≤ 100000) then 1 else 0) := by
    rw [← fl7]; rfl
  rcases need3 q (pc7_lastFound s) (pc7_found s) a1 (if a2 = -9 ∨ ((0 : Int32) ≤ a2 ∧ a2 ≤ 100000) then 1 else 0) with ⟨h7, h8⟩ | ⟨h7, h8⟩ | ⟨r, hr, rfl, hg, g0, h7, h8⟩
  · refine ⟨-1, pc7_lastFound s, pc7_found s, pc4_readings s, pc7_lastFound s, pc7_found s, pc4_readings s, ?_, ?_, ⟨rfl, rfl⟩, hA, hU, hS, hL, ⟨e1, e2, e3, rfl, n, q⟩, hT, hC, hY⟩
    · rw [fX7_read, fl7]; simp only [h7, ob3, ob, nm1, if_false]
    · rw [fX8_read, fl8]; simp only [e1, e4, hF.1, hF.2, h8, ob3, ob, lm1, if_false]
  · refine ⟨-3, 1, upd (pc7_found s) 1 (pc7_found s 1 + 1), pc4_readings s, 1, upd (pc7_found s) 1 (pc7_found s 1 + 1), pc4_readings s, ?_, ?_, ⟨rfl, rfl⟩, hA, hU, hS, hL, ⟨e1, e2, e3, rfl, n, q⟩, hT, hC, hY⟩
    · rw [fX7_read, fl7]; simp only [h7, ob3, ob, nm3, if_false]
    · rw [fX8_read, fl8]; simp only [e1, e4, hF.1, hF.2, h8, ob3, ob, lm3, if_false]
  · have gr : vp_in (nI r) 12 := vp_in_nI (by omega) (by decide)
    have hv : a2 = -9 ∨ ∃ w : Nat, w ≤ 100000 ∧ a2 = nI w := by
      by_cases c : a2 = -9
      · exact Or.inl c
      · right
        by_cases c2 : (0 : Int32) ≤ a2 ∧ a2 ≤ 100000
        · obtain ⟨w, -, w2, rfl⟩ := nI_rng 0 100000 (by decide) (by decide) c2.1 c2.2
          exact ⟨w, w2, rfl⟩
        · exact absurd (by rw [if_neg (fun z => z.elim c c2)]) hg
    refine ⟨pc4_readings s r, pc7_lastFound s, pc7_found s, upd (pc4_readings s) r a2, pc7_lastFound s, pc7_found s, upd (pc4_readings s) r a2, ?_, ?_, ⟨rfl, rfl⟩, hA, hU, hS, hL, ⟨e1, e2, e3, rfl, n, RR_read q r hv⟩, hT, hC, hY⟩
    · rw [fX7_read, fl7]; simp only [h7, ob3, ob, if_true, fX4_replaceReading, og_pos gr, olet, ob2, tn_nI (show r < 2 ^ 31 by omega)]
    · rw [fX8_read, fl8]; simp only [e1, e4, hF.1, hF.2, h8, ob3, ob, l00, if_true, og_pos gr, olet, tn_nI (show r < 2 ^ 31 by omega)]
