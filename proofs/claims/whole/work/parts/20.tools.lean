/-! ===== numbers ===== -/
theorem ltT (x y : Int32) : (x < y) = (x.toInt < y.toInt) := by rw [Int32.lt_iff_toInt_lt]
theorem leT (x y : Int32) : (x ≤ y) = (x.toInt ≤ y.toInt) := by rw [Int32.le_iff_toInt_le]
theorem eqT (x y : Int32) : (x = y) = (x.toInt = y.toInt) := by rw [Int32.toInt_inj]
theorem n_lit (n : Nat) : (OfNat.ofNat n : Int32) = nI n := rfl
theorem tn_nI {n : Nat} (h : n < 2 ^ 31) : (nI n).toNatClampNeg = n := nI_clamp h
theorem nI_rng {x : Int32} (a b : Nat) (hb : b < 2 ^ 31) (ha : a < 2 ^ 31) (h1 : nI a ≤ x) (h2 : x ≤ nI b) : ∃ j : Nat, a ≤ j ∧ j ≤ b ∧ x = nI j := by
  have e : ¬ x < 0 := by
    rw [ltT]; rw [leT, nI_toInt ha] at h1
    simp only [show (0 : Int32).toInt = 0 from rfl]
    omega
  obtain ⟨j, hj, rfl⟩ := nI_of e
  refine ⟨j, ?_, ?_, rfl⟩
  · rw [leT, nI_toInt ha, nI_toInt hj] at h1; omega
  · rw [leT, nI_toInt hb, nI_toInt hj] at h2; omega
/-! ===== in, isWithin and their like ===== -/
theorem wi7 (v lo hi : Int32) : fX7_isWithin v lo hi = some (if lo ≤ v ∧ v ≤ hi then 1 else 0) := by
  simp only [fX7_isWithin, oj]
  by_cases h1 : v < lo
  · rw [if_pos h1, if_neg]
    rw [leT, leT]; rw [ltT] at h1; omega
  · rw [if_neg h1]
    by_cases h2 : hi < v
    · rw [if_pos h2, if_neg]
      rw [leT, leT]; rw [ltT] at h2; omega
    · rw [if_neg h2, if_pos]
      rw [leT, leT]; rw [ltT] at h1 h2; omega
theorem wi8 (v lo hi : Int32) : fX8_in v lo hi = some (if lo ≤ v ∧ v ≤ hi then 1 else 0) := by
  rw [← wi7]; rfl
theorem b01 (c : Prop) [Decidable c] : (if c then (1 : Int32) else 0) = 0 ∨ (if c then (1 : Int32) else 0) = 1 := by
  by_cases h : c
  · right; rw [if_pos h]
  · left; rw [if_neg h]
theorem bz (c : Prop) [Decidable c] : ((if c then (1 : Int32) else 0) = 0) = ¬ c := by
  by_cases h : c
  · rw [if_pos h]; simp [h]
  · rw [if_neg h]; simp [h]
theorem isStuff7 (v : Int32) : fX7_isStuff v = some (if 0 ≤ v ∧ v ≤ 3 then 1 else 0) := by
  simp only [fX7_isStuff, wi7, ob]; exact og_pos (b01 _)
theorem isStuff8 (v : Int32) : fX8_isStuff v = some (if 0 ≤ v ∧ v ≤ 3 then 1 else 0) := by
  simp only [fX8_isStuff, wi8, ob]; exact og_pos (b01 _)
theorem isStep7 (v : Int32) : fX7_isStep v = some (if 0 ≤ v ∧ v ≤ 15 then 1 else 0) := by
  simp only [fX7_isStep, wi7, ob]; exact og_pos (b01 _)
theorem isStep8 (v : Int32) : fX8_isStep v = some (if 0 ≤ v ∧ v ≤ 15 then 1 else 0) := by
  simp only [fX8_isStep, wi8, ob]; exact og_pos (b01 _)
theorem isCase7 (v : Int32) : fX7_isCase v = some (if 0 ≤ v ∧ v ≤ 7 then 1 else 0) := by
  simp only [fX7_isCase, wi7, ob]; exact og_pos (b01 _)
theorem isCase8 (v : Int32) : fX8_isCase v = some (if 0 ≤ v ∧ v ≤ 7 then 1 else 0) := by
  simp only [fX8_isCase, wi8, ob]; exact og_pos (b01 _)
theorem isWay7 (v : Int32) : fX7_isWay v = some (if 0 ≤ v ∧ v ≤ 5 then 1 else 0) := by
  simp only [fX7_isWay, wi7, ob]; exact og_pos (b01 _)
theorem isAxis7 (v : Int32) : fX7_isAxis v = some (if 0 ≤ v ∧ v ≤ 2 then 1 else 0) := by
  simp only [fX7_isAxis, wi7, ob]; exact og_pos (b01 _)
theorem isThickness7 (v : Int32) : fX7_isThickness v = some (if 1 ≤ v ∧ v ≤ 100 then 1 else 0) := by
  simp only [fX7_isThickness, wi7, ob]; exact og_pos (b01 _)
theorem isKind7 (v : Int32) : fX7_isKind v = some (if 0 ≤ v ∧ v ≤ 3 then 1 else 0) := by
  simp only [fX7_isKind, wi7, ob]; exact og_pos (b01 _)
theorem isRate7 (v : Int32) : fX7_isRate v = some (if 1 ≤ v ∧ v ≤ 500 then 1 else 0) := by
  simp only [fX7_isRate, wi7, ob]; exact og_pos (b01 _)
/-! ===== findings ===== -/
theorem refuse7 (lf : Int32) (fo : Nat → Int32) (k : Nat) (h1 : 1 ≤ k) (h5 : k ≤ 5) : fX7_refuse lf fo (nI k) = some ((-3), nI k, upd fo k (fo k + 1)) := by
  have g : vp_in (nI k) 6 := vp_in_nI (by omega) (by decide)
  have hw : (1 : Int32) ≤ nI k ∧ nI k ≤ 5 := ⟨nI_le (a := 1) h1 (by omega), nI_le (b := 5) h5 (by decide)⟩
  simp only [fX7_refuse, wi7, ob, bz, og_pos g, tn_nI (show k < 2 ^ 31 by omega)]
  rw [if_neg (not_not_intro hw)]
theorem meets8 (la : Int32) (ca : Nat → Int32) (k : Nat) (h5 : k ≤ 5) : fX8_meets la ca (nI k) = some ((-3), nI k, upd ca k (ca k + 1)) := by
  have g : vp_in (nI k) 6 := vp_in_nI (by omega) (by decide)
  simp only [fX8_meets, og_pos g, tn_nI (show k < 2 ^ 31 by omega)]
