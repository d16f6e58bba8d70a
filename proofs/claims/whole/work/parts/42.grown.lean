/-! ===== grown, move ===== -/
def gr (by_ sz : Nat → Int32) (st : Nat) (q : Int32) : Int32 := if sz q.toNatClampNeg ≤ nI st then 0 else by_ (16 * q.toNatClampNeg + st)
def hG (wy so by_ sz : Nat → Int32) (a st i : Nat) : Int32 := if wy i / 2 = nI a then sgn (wy i) * gr by_ sz st (so i) else 0
theorem gr7 (by_ sz : Nat → Int32) {q st : Nat} (hq : q < 4) (hs : st < 16) : fX6_growthAt by_ sz (nI q) (nI st) = some (gr by_ sz st (nI q)) := by
  have g : vp_in (nI q) 4 := vp_in_nI hq (by decide)
  have g2 : vp_in (nI (16 * q + st)) 64 := vp_in_nI (by omega) (by decide)
  rw [fX6_growthAt, gr, og_pos g, idx7, og_pos g2, tn_nI (n := q) (by omega), tn_nI (by omega)]
  exact ite_some _ _
theorem gr8 (by_ sz : Nat → Int32) {q st : Nat} (hq : q < 4) (hs : st < 16) : fX8_growth sz by_ (nI q) (nI st) = some (gr by_ sz st (nI q)) := by
  have g : vp_in (nI q) 4 := vp_in_nI hq (by decide)
  have g2 : vp_in (nI (16 * q + st)) 64 := vp_in_nI (by omega) (by decide)
  rw [fX8_growth, gr, og_pos g, idx8, og_pos g2, tn_nI (n := q) (by omega), tn_nI (by omega)]
  exact ite_some _ _
theorem gro_L9 {n : Nat} {wy un so : Nat → Int32} (hn : n ≤ 12) (hq : LegOk n wy un so) (by_ sz : Nat → Int32) {P st : Nat} (hP : P ≤ 1000) (hs : st < 16) (a : Nat) : ∀ (k i q : Nat), i + k = n → k < q → fX5_growth_L9 (nI n) wy un so by_ sz (nI P) (nI st) (nI a) q (ps (hG wy so by_ sz a st) un P i) (nI (us un i)) (nI i) = some (ps (hG wy so by_ sz a st) un P n) := by
  have htot : us un n ≤ 240 := by have := us_le n (fun j hj => (hq j hj).2.1); omega
  intro k
  induction k with
  | zero =>
    intro i q hi hq'
    obtain ⟨q, rfl⟩ : ∃ z, q = z + 1 := ⟨q - 1, by omega⟩
    have e : i = n := by omega
    subst e
    rw [fX5_growth_L9, if_pos (nI_le (by omega) (by omega))]
  | succ k ih =>
    intro i q hi hq'
    obtain ⟨q, rfl⟩ : ∃ z, q = z + 1 := ⟨q - 1, by omega⟩
    have g : vp_in (nI i) 12 := vp_in_nI (by omega) (by decide)
    obtain ⟨⟨w, hw, ew⟩, ⟨u, hu1, hu2, eu⟩, ⟨z, hz, ez⟩⟩ := hq i (by omega)
    have hui : us un i ≤ us un n := us_mono (by omega)
    have eus : us un (i + 1) = us un i + u := by rw [us, eu, tn_nI (by omega)]
    have ub := ub_eq (un := un) (i := i) (by omega) hu2 eu (S := us un i) (a := 0) (b := P) (by omega) (by omega) hP
    have ih' := ih (i + 1) q (by omega) (by omega)
    rw [ps] at ih'
    have em : min (us un i + u) P - max (us un i) 0 = min (us un (i + 1)) P - us un i := by rw [eus]; congr 1; omega
    rw [fX5_growth_L9, if_neg (lit_le (by omega) (by omega))]
    simp only [og_pos g, tn_nI (show i < 2 ^ 31 by omega), ew, eu, ez, ax7 hw, sg7 hw, gr7 by_ sz hz hs, ob, olet, nI_s, nI_add]
    rw [← eus]
    by_cases c : nI w / 2 = nI a
    · rw [if_pos c, show fX5_unitsBetween un (nI i) (nI (us un i)) 0 (nI P) = _ from ub]
      simp only []
      rw [em]
      simp only [hG, ew, ez, if_pos c] at ih'
      exact ih'
    · rw [if_neg c]
      simp only []
      simp only [hG, ew, if_neg c] at ih'
      rw [Int32.zero_mul, Int32.add_zero] at ih'
      exact ih'
theorem growth7 (N : Nat) (hN : 400 ≤ N) {n : Nat} {le ln : Int32} {wy un so uw ut xs ys zs : Nat → Int32} (h : RLn n le ln wy un so uw ut xs ys zs) (by_ sz : Nat → Int32) {P st : Nat} (hP : P ≤ 1000) (hs : st < 16) (a : Nat) : fX5_growth N le wy un so by_ sz (nI P) (nI st) (nI a) = some (ps (hG wy so by_ sz a st) un P n) := by
  obtain ⟨hn, en, -, hq, -⟩ := id h
  rw [fX5_growth, en]
  exact gro_L9 hn hq by_ sz hP hs a n 0 N (by omega) (by omega)
theorem gto_L6 {n : Nat} {le ln : Int32} {wy un so uw ut xs ys zs : Nat → Int32} (h : RLn n le ln wy un so uw ut xs ys zs) (by_ sz : Nat → Int32) {P st : Nat} (hP : P ≤ 1000) (hs : st < 16) (a : Nat) : ∀ (k p q : Nat), p + k = min (us un n) P → k < q → fX8_grownTo_L6 (nI (us un n)) sz by_ uw ut (nI P) (nI st) (nI a) q (qs (fun j => hG wy so by_ sz a st (lof un n j)) p) (nI p) = some (qs (fun j => hG wy so by_ sz a st (lof un n j)) (min (us un n) P)) := by
  have hl := uw_lof h n (Nat.le_refl n)
  have htot : us un n ≤ 240 := by have := us_le n (fun j hj => (h.2.2.2.1 j hj).2.1); have := h.1; omega
  intro k
  induction k with
  | zero =>
    intro p q hp hq
    obtain ⟨q, rfl⟩ : ∃ z, q = z + 1 := ⟨q - 1, by omega⟩
    have e : p = min (us un n) P := by omega
    subst e
    rw [fX8_grownTo_L6]
    by_cases c : us un n ≤ P
    · rw [if_pos (nI_le (by omega) (by omega))]
    · rw [if_neg (lit_le (by omega) (by omega)), if_pos (nI_le (by omega) (by omega))]
  | succ k ih =>
    intro p q hp hq
    obtain ⟨q, rfl⟩ : ∃ z, q = z + 1 := ⟨q - 1, by omega⟩
    have g : vp_in (nI p) 240 := vp_in_nI (by omega) (by decide)
    obtain ⟨hlf, e1, e2⟩ := hl p (by omega)
    obtain ⟨⟨w, hw, ew⟩, -, ⟨z, hz, ez⟩⟩ := h.2.2.2.1 (lof un n p) hlf
    have ih' := ih (p + 1) q (by omega) (by omega)
    rw [qs] at ih'
    rw [fX8_grownTo_L6, if_neg (lit_le (by omega) (by omega)), if_neg (lit_le (by omega) (by omega))]
    simp only [og_pos g, tn_nI (show p < 2 ^ 31 by omega), e1, e2, ew, ez, sg8, gr8 by_ sz hz hs, ob, olet, nI_s]
    by_cases c : nI w / 2 = nI a
    · rw [if_pos c]
      simp only []
      simp only [hG, ew, ez, if_pos c] at ih'
      exact ih'
    · rw [if_neg c]
      simp only []
      simp only [hG, ew, if_neg c] at ih'
      exact ih'
theorem growth8 (N : Nat) (hN : 400 ≤ N) {n : Nat} {le ln : Int32} {wy un so uw ut xs ys zs : Nat → Int32} (h : RLn n le ln wy un so uw ut xs ys zs) (by_ sz : Nat → Int32) {P st : Nat} (hP : P ≤ 1000) (hs : st < 16) (a : Nat) : fX8_grownTo N ln sz by_ uw ut (nI P) (nI st) (nI a) = some (ps (hG wy so by_ sz a st) un P n) := by
  have htot : us un n ≤ 240 := by have := us_le n (fun j hj => (h.2.2.2.1 j hj).2.1); have := h.1; omega
  rw [fX8_grownTo, h.2.2.1, ← qs_ps]
  exact gto_L6 h by_ sz hP hs a (min (us un n) P) 0 N (by omega) (by omega)
theorem m_grown (N : Nat) (hN : 400 ≤ N) : op_grown N Rel := by
  intro s t hR a1 a2
  obtain ⟨hF, hA, hU, hS, hL, hRr, hT, hC, hY⟩ := id hR
  obtain ⟨l1, l2, l3, l4, l5, n, q⟩ := id hL
  obtain ⟨s1, s2, s3, qs_⟩ := id hS
  have htot : us (pc5_units s) n ≤ 240 := by have := us_le n (fun j hj => (q.2.2.2.1 j hj).2.1); have := q.1; omega
  have eln : pc5_length s = nI (us (pc5_units s) n) := q.2.2.1
  by_cases h1 : (0 : Int32) ≤ a1 ∧ a1 ≤ 15
  · by_cases h2 : (0 : Int32) ≤ a2 ∧ a2 ≤ 2
    · obtain ⟨st, -, hst, rfl⟩ := nI_rng 0 15 (by decide) (by decide) h1.1 h1.2
      obtain ⟨a, -, ha, rfl⟩ := nI_rng 0 2 (by decide) (by decide) h2.1 h2.2
      have g7 := growth7 N hN q (pc6_bytes s) (pc6_sizes s) (show us (pc5_units s) n ≤ 1000 by omega) (show st < 16 by omega) a
      have g8 := growth8 N hN q (pc6_bytes s) (pc6_sizes s) (show us (pc5_units s) n ≤ 1000 by omega) (show st < 16 by omega) a
      rw [← eln] at g7 g8
      refine ⟨1, ps (hG (pc5_ways s) (pc5_stuffOf s) (pc6_bytes s) (pc6_sizes s) a st) (pc5_units s) (us (pc5_units s) n) n, ps (hG (pc5_ways s) (pc5_stuffOf s) (pc6_bytes s) (pc6_sizes s) a st) (pc5_units s) (us (pc5_units s) n) n, ?_, ?_, hF, rfl, hU, hS, hL, hRr, hT, hC, hY⟩
      · simp only [fX7_grown, fX5_length, ob, isStep7, bz, isAxis7, g7]
        rw [if_neg (not_not_intro h1), if_neg (not_not_intro h2)]
      · simp only [fX8_grown, ob, isStep8, wi8, bz, oj, l2, s1, s2, g8, fX8_tells, ob2]
        rw [if_neg (not_not_intro h1), if_neg (not_not_intro h2)]
    · refine ⟨-1, pc7_lastAsked s, pc7_lastAsked s, ?_, ?_, hF, rfl, hU, hS, hL, hRr, hT, hC, hY⟩
      · simp only [fX7_grown, ob, isStep7, bz, isAxis7]; rw [if_neg (not_not_intro h1), if_pos h2]
      · rw [show pc8_asked t = pc7_lastAsked s from hA]
        simp only [fX8_grown, ob, isStep8, wi8, bz, oj]; rw [if_neg (not_not_intro h1), if_pos h2]
  · refine ⟨-1, pc7_lastAsked s, pc7_lastAsked s, ?_, ?_, hF, rfl, hU, hS, hL, hRr, hT, hC, hY⟩
    · simp only [fX7_grown, ob, isStep7, bz]; rw [if_pos h1]
    · rw [show pc8_asked t = pc7_lastAsked s from hA]
      simp only [fX8_grown, ob, isStep8, bz, oj]; rw [if_pos h1]
theorem m_move (N : Nat) (hN : 400 ≤ N) : op_move N Rel := by
  intro s t hR a1 a2
  obtain ⟨hF, hA, hU, hS, hL, hRr, hT, hC, hY⟩ := id hR
  obtain ⟨l1, l2, l3, l4, l5, n, q⟩ := id hL
  obtain ⟨s1, s2, s3, qs_⟩ := id hS
  have htot : us (pc5_units s) n ≤ 240 := by have := us_le n (fun j hj => (q.2.2.2.1 j hj).2.1); have := q.1; omega
  have eln : pc5_length s = nI (us (pc5_units s) n) := q.2.2.1
  by_cases h1 : (0 : Int32) ≤ a1 ∧ a1 ≤ pc5_length s
  · by_cases h2 : (0 : Int32) ≤ a2 ∧ a2 ≤ 15
    · have h1' := h1
      rw [eln] at h1'
      obtain ⟨P, -, hP, rfl⟩ := nI_rng 0 (us (pc5_units s) n) (by omega) (by decide) h1'.1 h1'.2
      obtain ⟨st, -, hst, rfl⟩ := nI_rng 0 15 (by decide) (by decide) h2.1 h2.2
      have g7 : fX5_growth N (pc5_legs s) (pc5_ways s) (pc5_units s) (pc5_stuffOf s) (pc6_bytes s) (pc6_sizes s) (nI P) (nI st) 2 = _ := growth7 N hN q (pc6_bytes s) (pc6_sizes s) (show P ≤ 1000 by omega) (show st < 16 by omega) 2
      have g8 : fX8_grownTo N (pc5_length s) (pc6_sizes s) (pc6_bytes s) (pc8_unitWay t) (pc8_unitStuff t) (nI P) (nI st) 2 = _ := growth8 N hN q (pc6_bytes s) (pc6_sizes s) (show P ≤ 1000 by omega) (show st < 16 by omega) 2
      refine ⟨1, ps (hG (pc5_ways s) (pc5_stuffOf s) (pc6_bytes s) (pc6_sizes s) 2 st) (pc5_units s) P n, ps (hG (pc5_ways s) (pc5_stuffOf s) (pc6_bytes s) (pc6_sizes s) 2 st) (pc5_units s) P n, ?_, ?_, hF, rfl, hU, hS, hL, hRr, hT, hC, hY⟩
      · simp only [fX7_move, fX5_length, ob, wi7, isStep7, bz, g7]
        rw [if_neg (not_not_intro h1), if_neg (not_not_intro h2)]
      · simp only [fX8_move, ob, isStep8, wi8, bz, oj, l2, s1, s2, g8, fX8_tells, ob2]
        rw [if_neg (not_not_intro h1), if_neg (not_not_intro h2)]
    · refine ⟨-1, pc7_lastAsked s, pc7_lastAsked s, ?_, ?_, hF, rfl, hU, hS, hL, hRr, hT, hC, hY⟩
      · simp only [fX7_move, fX5_length, ob, wi7, isStep7, bz]; rw [if_neg (not_not_intro h1), if_pos h2]
      · rw [show pc8_asked t = pc7_lastAsked s from hA]
        simp only [fX8_move, ob, isStep8, wi8, bz, oj, l2]; rw [if_neg (not_not_intro h1), if_pos h2]
  · refine ⟨-1, pc7_lastAsked s, pc7_lastAsked s, ?_, ?_, hF, rfl, hU, hS, hL, hRr, hT, hC, hY⟩
    · simp only [fX7_move, fX5_length, ob, wi7, bz]; rw [if_pos h1]
    · rw [show pc8_asked t = pc7_lastAsked s from hA]
      simp only [fX8_move, ob, wi8, bz, oj, l2]; rw [if_pos h1]
