/-! ===== stuffs: tear, lay, stuff, copy, mean ===== -/
theorem t_m1 : (-1 : Int32).toInt = -1 := by decide
theorem t_0 : (0 : Int32).toInt = 0 := by decide
theorem t_1 : (1 : Int32).toInt = 1 := by decide
theorem t_16 : (16 : Int32).toInt = 16 := by decide
theorem refuse7_1 (lf : Int32) (fo : Nat → Int32) : fX7_refuse lf fo 1 = some (-3, 1, upd fo 1 (fo 1 + 1)) := refuse7 lf fo 1 (by omega) (by omega)
theorem meets8_1 (la : Int32) (ca : Nat → Int32) : fX8_meets la ca 1 = some (-3, 1, upd ca 1 (ca 1 + 1)) := meets8 la ca 1 (by omega)
theorem refuse7_2 (lf : Int32) (fo : Nat → Int32) : fX7_refuse lf fo 2 = some (-3, 2, upd fo 2 (fo 2 + 1)) := refuse7 lf fo 2 (by omega) (by omega)
theorem meets8_2 (la : Int32) (ca : Nat → Int32) : fX8_meets la ca 2 = some (-3, 2, upd ca 2 (ca 2 + 1)) := meets8 la ca 2 (by omega)
theorem refuse7_3 (lf : Int32) (fo : Nat → Int32) : fX7_refuse lf fo 3 = some (-3, 3, upd fo 3 (fo 3 + 1)) := refuse7 lf fo 3 (by omega) (by omega)
theorem meets8_3 (la : Int32) (ca : Nat → Int32) : fX8_meets la ca 3 = some (-3, 3, upd ca 3 (ca 3 + 1)) := meets8 la ca 3 (by omega)
theorem refuse7_4 (lf : Int32) (fo : Nat → Int32) : fX7_refuse lf fo 4 = some (-3, 4, upd fo 4 (fo 4 + 1)) := refuse7 lf fo 4 (by omega) (by omega)
theorem meets8_4 (la : Int32) (ca : Nat → Int32) : fX8_meets la ca 4 = some (-3, 4, upd ca 4 (ca 4 + 1)) := meets8 la ca 4 (by omega)
theorem refuse7_5 (lf : Int32) (fo : Nat → Int32) : fX7_refuse lf fo 5 = some (-3, 5, upd fo 5 (fo 5 + 1)) := refuse7 lf fo 5 (by omega) (by omega)
theorem meets8_5 (la : Int32) (ca : Nat → Int32) : fX8_meets la ca 5 = some (-3, 5, upd ca 5 (ca 5 + 1)) := meets8 la ca 5 (by omega)
theorem refS7_no (lf : Int32) (fo sz : Nat → Int32) (v : Int32) (h : ¬ ((0 : Int32) ≤ v ∧ v ≤ 3)) : fX7_refusalOfStuff lf fo sz v = some (-1, lf, fo) := by
  simp only [fX7_refusalOfStuff, isStuff7, ob, bz]; rw [if_pos h]
theorem in03 {j : Nat} (hj : j < 4) : (0 : Int32) ≤ nI j ∧ nI j ≤ 3 := ⟨nI_le (a := 0) (by omega) (by omega), nI_le (b := 3) (by omega) (by decide)⟩
theorem refS7_gone (lf : Int32) (fo sz : Nat → Int32) {j : Nat} (hj : j < 4) (h : sz j = -1) : fX7_refusalOfStuff lf fo sz (nI j) = some (-3, 1, upd fo 1 (fo 1 + 1)) := by
  have g : vp_in (nI j) 4 := vp_in_nI hj (by decide)
  simp only [fX7_refusalOfStuff, isStuff7, ob, bz, fX6_isThere, og_pos g, tn_nI (show j < 2 ^ 31 by omega), h, if_true]
  rw [if_neg (not_not_intro (in03 hj))]
  simp only [ob3, ob, refuse7_1]
theorem refS7_ok (lf : Int32) (fo sz : Nat → Int32) {j : Nat} (hj : j < 4) (h : sz j ≠ -1) : fX7_refusalOfStuff lf fo sz (nI j) = some (0, lf, fo) := by
  have g : vp_in (nI j) 4 := vp_in_nI hj (by decide)
  simp only [fX7_refusalOfStuff, isStuff7, ob, bz, fX6_isThere, og_pos g, tn_nI (show j < 2 ^ 31 by omega), h, if_false]
  rw [if_neg (not_not_intro (in03 hj))]
  rfl
theorem sz_neg {x : Int32} (h1 : -1 ≤ x.toInt) : (x = -1) ↔ ¬ (0 : Int32) ≤ x := by
  rw [eqT, leT, t_m1, t_0]; omega
theorem RS_sz {by_ sz we : Nat → Int32} (h : RS by_ sz we) {j : Nat} (hj : j < 4) {x : Int32} (h1 : -1 ≤ x.toInt) (h2 : x.toInt ≤ 16) : RS by_ (upd sz j x) we := by
  refine ⟨fun k hk => ?_, h.2.1, h.2.2⟩
  rw [upd_at]
  by_cases e : k = j
  · rw [if_pos e]; exact ⟨h1, h2⟩
  · rw [if_neg e]; exact h.1 k hk
theorem m_tear (N : Nat) : op_tear N Rel := by
  intro s t hR a1
  obtain ⟨hF, hA, hU, hS, hL, hRr, hT, hC, hY⟩ := id hR
  obtain ⟨e1, e2, e3, q⟩ := id hS
  by_cases h : (0 : Int32) ≤ a1 ∧ a1 ≤ 3
  · obtain ⟨j, -, h2, rfl⟩ := nI_rng 0 3 (by decide) (by decide) h.1 h.2
    have hj : j < 4 := by omega
    have g : vp_in (nI j) 4 := vp_in_nI hj (by decide)
    by_cases hz : pc6_sizes s j = -1
    · have hz' := (sz_neg (q.1 j hj).1).mp hz
      refine ⟨-3, 1, upd (pc7_found s) 1 (pc7_found s 1 + 1), pc6_sizes s, 1, upd (pc7_found s) 1 (pc7_found s 1 + 1), pc6_sizes s, ?_, ?_, ⟨rfl, rfl⟩, hA, hU, ⟨e1, rfl, e3, q⟩, hL, hRr, hT, hC, hY⟩
      · simp only [fX7_tear, refS7_gone _ _ _ hj hz, ob3, ob]; rfl
      · simp only [fX8_tear, isStuff8, ob, bz, og_pos g, tn_nI (show j < 2 ^ 31 by omega), e2]
        rw [if_neg (not_not_intro h), if_neg hz']
        simp only [ob3, ob, meets8_1, hF.2]
    · have hz' : (0 : Int32) ≤ pc6_sizes s j := Classical.byContradiction fun c => hz ((sz_neg (q.1 j hj).1).mpr c)
      refine ⟨1, pc7_lastFound s, pc7_found s, upd (pc6_sizes s) j (-1), pc7_lastFound s, pc7_found s, upd (pc6_sizes s) j (-1), ?_, ?_, ⟨rfl, rfl⟩, hA, hU, ⟨e1, rfl, e3, RS_sz q hj (by decide) (by decide)⟩, hL, hRr, hT, hC, hY⟩
      · simp only [fX7_tear, refS7_ok _ _ _ hj hz, ob3, ob, fX6_end, og_pos g, tn_nI (show j < 2 ^ 31 by omega)]; rfl
      · simp only [fX8_tear, isStuff8, ob, bz, og_pos g, tn_nI (show j < 2 ^ 31 by omega), e2, hF.1, hF.2]
        rw [if_neg (not_not_intro h), if_pos hz']
  · refine ⟨-1, pc7_lastFound s, pc7_found s, pc6_sizes s, pc7_lastFound s, pc7_found s, pc6_sizes s, ?_, ?_, ⟨rfl, rfl⟩, hA, hU, ⟨e1, rfl, e3, q⟩, hL, hRr, hT, hC, hY⟩
    · simp only [fX7_tear, refS7_no _ _ _ _ h, ob3, ob]; rfl
    · simp only [fX8_tear, isStuff8, ob, bz, e2, hF.1, hF.2]; rw [if_pos h]
theorem hasB (sz : Nat → Int32) {j : Nat} (hj : j < 4) (hz : -1 ≤ (sz j).toInt) (hz2 : (sz j).toInt ≤ 16) (a b : Int32) : fX6_hasBytes sz (nI j) a b = some (if 0 ≤ a.toInt ∧ 0 ≤ b.toInt ∧ a.toInt + b.toInt ≤ (sz j).toInt then 1 else 0) := by
  have g : vp_in (nI j) 4 := vp_in_nI hj (by decide)
  simp only [fX6_hasBytes, oj, og_pos g, tn_nI (show j < 2 ^ 31 by omega)]
  have ra := fb_rng a
  have rb := fb_rng b
  by_cases h1 : a < 0
  · rw [if_pos h1, if_neg]; rw [ltT, t_0] at h1; omega
  · rw [if_neg h1]; rw [ltT, t_0] at h1
    by_cases h2 : b < 0
    · rw [if_pos h2, if_neg]; rw [ltT, t_0] at h2; omega
    · rw [if_neg h2]; rw [ltT, t_0] at h2
      by_cases h3 : sz j < a
      · rw [if_pos h3, if_neg]; rw [ltT] at h3; omega
      · rw [if_neg h3]; rw [ltT] at h3
        have e : (sz j - a).toInt = (sz j).toInt - a.toInt := fb_subI (by omega) (by omega)
        by_cases h4 : sz j - a < b
        · rw [if_pos h4, if_neg]; rw [ltT, e] at h4; omega
        · rw [if_neg h4, if_pos]; rw [ltT, e] at h4; omega
theorem RS_by {by_ sz we : Nat → Int32} (h : RS by_ sz we) {k : Nat} {x : Int32} (h1 : -128 ≤ x.toInt) (h2 : x.toInt ≤ 127) : RS (upd by_ k x) sz we := by
  refine ⟨h.1, h.2.1, fun i hi => ?_⟩
  rw [upd_at]
  by_cases e : i = k
  · rw [if_pos e]; exact ⟨h1, h2⟩
  · rw [if_neg e]; exact h.2.2 i hi
theorem m_lay (N : Nat) : op_lay N Rel := by
  intro s t hR a1 a2 a3
  obtain ⟨hF, hA, hU, hS, hL, hRr, hT, hC, hY⟩ := id hR
  obtain ⟨e1, e2, e3, q⟩ := id hS
  by_cases h : (0 : Int32) ≤ a1 ∧ a1 ≤ 3
  · obtain ⟨j, -, h2, rfl⟩ := nI_rng 0 3 (by decide) (by decide) h.1 h.2
    have hj : j < 4 := by omega
    have g : vp_in (nI j) 4 := vp_in_nI hj (by decide)
    by_cases hz : pc6_sizes s j = -1
    · have hz' := (sz_neg (q.1 j hj).1).mp hz
      refine ⟨-3, 1, upd (pc7_found s) 1 (pc7_found s 1 + 1), pc6_bytes s, 1, upd (pc7_found s) 1 (pc7_found s 1 + 1), pc6_bytes s, ?_, ?_, ⟨rfl, rfl⟩, hA, hU, ⟨rfl, e2, e3, q⟩, hL, hRr, hT, hC, hY⟩
      · simp only [fX7_lay, refS7_gone _ _ _ hj hz, ob3, ob]; rfl
      · simp only [fX8_lay, isStuff8, ob, bz, og_pos g, tn_nI (show j < 2 ^ 31 by omega), e2]
        rw [if_neg (not_not_intro h), if_neg hz']
        simp only [ob3, ob, meets8_1, hF.2, e1]
    · have hz' : (0 : Int32) ≤ pc6_sizes s j := Classical.byContradiction fun c => hz ((sz_neg (q.1 j hj).1).mpr c)
      have hzT : 0 ≤ (pc6_sizes s j).toInt := by rw [leT, t_0] at hz'; exact hz'
      have hzU := (q.1 j hj).2
      have es : (pc6_sizes s j - 1).toInt = (pc6_sizes s j).toInt - 1 := by rw [fb_subI] <;> rw [t_1] <;> omega
      have ra := fb_rng a2
      by_cases hb : 0 ≤ a2.toInt ∧ 0 ≤ (1 : Int32).toInt ∧ a2.toInt + (1 : Int32).toInt ≤ (pc6_sizes s j).toInt
      · have hb8 : (0 : Int32) ≤ a2 ∧ a2 ≤ pc6_sizes s j - 1 := by
          rw [t_1] at hb
          exact ⟨by rw [leT, t_0]; exact hb.1, by rw [leT, es]; omega⟩
        rw [t_1] at hb
        obtain ⟨i, hi, rfl⟩ := nI_of (x := a2) (by rw [ltT, t_0]; omega)
        rw [nI_T hi] at hb
        have gi : vp_in (nI (16 * j + i)) 64 := vp_in_nI (by omega) (by decide)
        have x7 : nI j * 16 + nI i = nI (16 * j + i) := by rw [show (16 : Int32) = nI 16 from rfl, pk_mul, nI_add, Nat.mul_comm]
        have x8 : 16 * nI j + nI i = nI (16 * j + i) := by rw [show (16 : Int32) = nI 16 from rfl, pk_mul, nI_add]
        have rb := fb_byte_rng a3
        refine ⟨1000 + pc6_bytes s (16 * j + i), pc7_lastFound s, pc7_found s, upd (pc6_bytes s) (16 * j + i) a3.toInt8.toInt32, pc7_lastFound s, pc7_found s, upd (pc6_bytes s) (16 * j + i) a3.toInt8.toInt32, ?_, ?_, ⟨rfl, rfl⟩, hA, hU, ⟨rfl, e2, e3, RS_by q rb.1 (by omega)⟩, hL, hRr, hT, hC, hY⟩
        · simp only [fX7_lay, refS7_ok _ _ _ hj hz, ob3, ob, ob2, hasB _ hj (q.1 j hj).1 hzU, fX6_replace, x7, og_pos gi, olet, tn_nI (show 16 * j + i < 2 ^ 31 by omega), bz, pk_vb, t_1, nI_T hi]
          rw [if_pos trivial, if_neg (not_not_intro (by omega)), Int32.add_comm]
        · simp only [fX8_lay, isStuff8, ob, bz, og_pos g, tn_nI (show j < 2 ^ 31 by omega), e2, e1, hF.1, hF.2, wi8, x8, og_pos gi, olet, tn_nI (show 16 * j + i < 2 ^ 31 by omega), pk_vb]
          rw [if_neg (not_not_intro h), if_pos hz', if_neg (not_not_intro hb8)]
      · have hb8 : ¬ ((0 : Int32) ≤ a2 ∧ a2 ≤ pc6_sizes s j - 1) := by
          rw [leT, leT, t_0, es]; rw [t_1] at hb; omega
        refine ⟨-3, 2, upd (pc7_found s) 2 (pc7_found s 2 + 1), pc6_bytes s, 2, upd (pc7_found s) 2 (pc7_found s 2 + 1), pc6_bytes s, ?_, ?_, ⟨rfl, rfl⟩, hA, hU, ⟨rfl, e2, e3, q⟩, hL, hRr, hT, hC, hY⟩
        · simp only [fX7_lay, refS7_ok _ _ _ hj hz, ob3, ob, hasB _ hj (q.1 j hj).1 hzU, bz]
          rw [if_pos trivial, if_pos hb]
          simp only [refuse7_2]
        · simp only [fX8_lay, isStuff8, ob, bz, og_pos g, tn_nI (show j < 2 ^ 31 by omega), e2, e1, wi8]
          rw [if_neg (not_not_intro h), if_pos hz', if_pos hb8]
          simp only [ob3, ob, meets8_2, hF.2]
  · refine ⟨-1, pc7_lastFound s, pc7_found s, pc6_bytes s, pc7_lastFound s, pc7_found s, pc6_bytes s, ?_, ?_, ⟨rfl, rfl⟩, hA, hU, ⟨rfl, e2, e3, q⟩, hL, hRr, hT, hC, hY⟩
    · simp only [fX7_lay, refS7_no _ _ _ _ h, ob3, ob]; rfl
    · simp only [fX8_lay, isStuff8, ob, bz, e1, hF.1, hF.2]; rw [if_pos h]
