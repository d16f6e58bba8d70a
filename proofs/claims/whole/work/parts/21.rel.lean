/-! ===== the relation of the two states ===== -/
def T_ (x : Int32) : Int := x.toInt
/-- stuffs: bytes, sizes, weights -/
def RS (by_ sz we : Nat → Int32) : Prop := (∀ j, j < 4 → -1 ≤ (sz j).toInt ∧ (sz j).toInt ≤ 16) ∧ (∀ j, j < 4 → 1 ≤ (we j).toInt ∧ (we j).toInt ≤ 50) ∧ ∀ k, k < 64 → -128 ≤ (by_ k).toInt ∧ (by_ k).toInt ≤ 127
/-- how many units the first n legs have -/
def us (un : Nat → Int32) : Nat → Nat
  | 0 => 0
  | n + 1 => us un n + (un n).toNatClampNeg
/-- what one unit of a way adds along an axis -/
def stp (a : Nat) (w : Int32) : Int32 := if w / 2 = nI a then (if w - w / 2 * 2 = 0 then 1 else -1) else 0
def RLn (n : Nat) (le ln : Int32) (wy un so uw ut xs ys zs : Nat → Int32) : Prop :=
  n ≤ 12 ∧ le = nI n ∧ ln = nI (us un n) ∧ (∀ i, i < n → (∃ w : Nat, w < 6 ∧ wy i = nI w) ∧ (∃ u : Nat, 1 ≤ u ∧ u ≤ 20 ∧ un i = nI u) ∧ ∃ q : Nat, q < 4 ∧ so i = nI q) ∧
  (∀ i v, i < n → v < (un i).toNatClampNeg → uw (us un i + v) = wy i ∧ ut (us un i + v) = so i) ∧ xs 0 = 0 ∧ ys 0 = 0 ∧ zs 0 = 0 ∧
  ∀ p, p < us un n → xs (p + 1) = xs p + stp 0 (uw p) ∧ ys (p + 1) = ys p + stp 1 (uw p) ∧ zs (p + 1) = zs p + stp 2 (uw p)
/-- the run -/
def RL_ (le ln : Int32) (wy un so uw ut xs ys zs : Nat → Int32) : Prop := ∃ n : Nat, RLn n le ln wy un so uw ut xs ys zs
def RRn (n : Nat) (mad : Int32) (ki pl ra re ko go : Nat → Int32) : Prop :=
  n ≤ 12 ∧ mad = nI n ∧ ∀ r, r < n → (∃ k : Nat, k < 4 ∧ ko r = nI k ∧ ((go r = 0 ∧ ki r = nI k) ∨ (go r = 1 ∧ ki r = -1))) ∧ (∃ q : Nat, 1 ≤ q ∧ q < 240 ∧ pl r = nI q) ∧ (ra r = -9 ∨ ∃ v : Nat, 1 ≤ v ∧ v ≤ 500 ∧ ra r = nI v) ∧ (ko r = 2 → ra r ≠ -9) ∧ (re r = -9 ∨ ∃ v : Nat, v ≤ 100000 ∧ re r = nI v)
/-- rests -/
def RR_ (mad : Int32) (ki pl ra re ko go : Nat → Int32) : Prop := ∃ n : Nat, RRn n mad ki pl ra re ko go
/-- the list -/
def RT_ (sz : Int32) (li : Nat → Int32) : Prop := ∃ n : Nat, n ≤ 12 ∧ sz = nI n ∧ ∀ k, k < n → ∃ v : Nat, 1 ≤ v ∧ v ≤ 500 ∧ li k = nI v
/-- cases -/
def RC_ (am lo hi ba : Nat → Int32) : Prop := (∀ c, c < 8 → -10000 ≤ (am c).toInt ∧ (am c).toInt ≤ 10000 ∧ -9 ≤ (lo c).toInt ∧ (lo c).toInt ≤ 9 ∧ -9 ≤ (hi c).toInt ∧ (hi c).toInt ≤ 9) ∧ ∃ f : Nat → Nat, (∀ c, c < 8 → f c < 256 ∧ ba c = nI (f c)) ∧ ∀ c d, c < 8 → d < 8 → (f c).testBit d = (f d).testBit c
/-- what the first n lines use up -/
def ysum (ti ra : Nat → Int32) : Nat → Int64
  | 0 => 0
  | n + 1 => ysum ti ra n + (Int32.toInt64 (ti n) <<< (Int32.toInt64 (ra n / 4) &&& 63))
/-- cycles -/
def RY_ (li : Int32) (pa : Int64) (ti ra : Nat → Int32) : Prop := ∃ n : Nat, n ≤ 30 ∧ li = nI n ∧ pa = ysum ti ra n ∧ ∀ k, k < n → (∃ v : Nat, 1 ≤ v ∧ v ≤ 100000 ∧ ti k = nI v) ∧ ∃ v : Nat, 1 ≤ v ∧ v ≤ 60 ∧ ra k = nI v
/-- the fraction -/
def RU_ (ab be : Int64) : Prop := True
def EqF (s : S7) (t : S8) : Prop := pc8_latest t = pc7_lastFound s ∧ pc8_came t = pc7_found s
def EqA (s : S7) (t : S8) : Prop := pc8_asked t = pc7_lastAsked s
def EqU (s : S7) (t : S8) : Prop := pc8_upper t = pc2_above s ∧ pc8_lower t = pc2_below s
def EqS (s : S7) (t : S8) : Prop := pc8_growths t = pc6_bytes s ∧ pc8_sizes t = pc6_sizes s ∧ pc8_weights t = pc6_weights s ∧ RS (pc6_bytes s) (pc6_sizes s) (pc6_weights s)
def EqL (s : S7) (t : S8) : Prop := pc8_legs t = pc5_legs s ∧ pc8_units t = pc5_length s ∧ pc8_legWay t = pc5_ways s ∧ pc8_legUnits t = pc5_units s ∧ pc8_legStuff t = pc5_stuffOf s ∧ RL_ (pc5_legs s) (pc5_length s) (pc5_ways s) (pc5_units s) (pc5_stuffOf s) (pc8_unitWay t) (pc8_unitStuff t) (pc8_xs t) (pc8_ys t) (pc8_zs t)
def EqR (s : S7) (t : S8) : Prop := pc8_rests t = pc4_made s ∧ pc8_placeOf t = pc4_places s ∧ pc8_rateOf t = pc4_rates s ∧ pc8_readOf t = pc4_readings s ∧ RR_ (pc4_made s) (pc4_kinds s) (pc4_places s) (pc4_rates s) (pc4_readings s) (pc8_kindOf t) (pc8_isGone t)
def EqT_ (s : S7) (t : S8) : Prop := pc8_rates t = pc3_size s ∧ pc8_theList t = pc3_rates s ∧ RT_ (pc3_size s) (pc3_rates s)
def EqC (s : S7) (t : S8) : Prop := pc8_amounts t = pc0_amounts s ∧ pc8_low t = pc0_lows s ∧ pc8_high t = pc0_highs s ∧ pc8_barred t = pc0_barred s ∧ RC_ (pc0_amounts s) (pc0_lows s) (pc0_highs s) (pc0_barred s)
def EqY (s : S7) (t : S8) : Prop := pc8_lines t = pc1_lines s ∧ RY_ (pc1_lines s) (pc1_parts s) (pc8_times t) (pc8_ranges t)
def Rel (s : S7) (t : S8) : Prop := EqF s t ∧ EqA s t ∧ EqU s t ∧ EqS s t ∧ EqL s t ∧ EqR s t ∧ EqT_ s t ∧ EqC s t ∧ EqY s t
/-! ===== the methods that only tell ===== -/
theorem m_finding (N : Nat) : op_finding N Rel := by
  intro s t hR
  obtain ⟨hF, hA, hU, hS, hL, hRr, hT, hC, hY⟩ := id hR
  exact ⟨pc7_lastFound s, rfl, by rw [hF.1]; rfl, hR⟩
theorem m_asked (N : Nat) : op_asked N Rel := by
  intro s t hR
  obtain ⟨hF, hA, hU, hS, hL, hRr, hT, hC, hY⟩ := id hR
  exact ⟨pc7_lastAsked s, rfl, by rw [hA]; rfl, hR⟩
theorem m_upper (N : Nat) : op_upper N Rel := by
  intro s t hR
  obtain ⟨hF, hA, hU, hS, hL, hRr, hT, hC, hY⟩ := id hR
  rw [hU.1]; rfl
theorem m_lower (N : Nat) : op_lower N Rel := by
  intro s t hR
  obtain ⟨hF, hA, hU, hS, hL, hRr, hT, hC, hY⟩ := id hR
  rw [hU.2]; rfl
theorem m_findings (N : Nat) : op_findings N Rel := by
  intro s t hR a1
  obtain ⟨hF, hA, hU, hS, hL, hRr, hT, hC, hY⟩ := id hR
  by_cases h : (1 : Int32) ≤ a1 ∧ a1 ≤ 5
  · obtain ⟨j, h1, h2, rfl⟩ := nI_rng 1 5 (by decide) (by decide) h.1 h.2
    have g : vp_in (nI j) 6 := vp_in_nI (by omega) (by decide)
    refine ⟨pc7_found s j, ?_, ?_, hR⟩
    · simp only [fX7_findings, wi7, ob, bz, og_pos g, tn_nI (show j < 2 ^ 31 by omega)]; rw [if_neg (not_not_intro h)]
    · simp only [fX8_findings, wi8, ob, bz, og_pos g, tn_nI (show j < 2 ^ 31 by omega), hF.2]; rw [if_neg (not_not_intro h)]
  · refine ⟨-1, ?_, ?_, hR⟩
    · simp only [fX7_findings, wi7, ob, bz]; rw [if_pos h]
    · simp only [fX8_findings, wi8, ob, bz]; rw [if_pos h]
/-! ===== weigh, list ===== -/
theorem nI_T {n : Nat} (h : n < 2 ^ 31) : (nI n).toInt = n := nI_toInt h
theorem upd_at (f : Nat → Int32) (k : Nat) (x : Int32) (j : Nat) : upd f k x j = if j = k then x else f j := rfl
theorem m_weigh (N : Nat) : op_weigh N Rel := by
  intro s t hR a1 a2
  obtain ⟨hF, hA, hU, hS, hL, hRr, hT, hC, hY⟩ := id hR
  obtain ⟨e1, e2, e3, q1, q2, q3⟩ := id hS
  by_cases h : (0 : Int32) ≤ a1 ∧ a1 ≤ 3
  · by_cases h' : (1 : Int32) ≤ a2 ∧ a2 ≤ 50
    · obtain ⟨j, h1, h2, rfl⟩ := nI_rng 0 3 (by decide) (by decide) h.1 h.2
      obtain ⟨w, w1, w2, rfl⟩ := nI_rng 1 50 (by decide) (by decide) h'.1 h'.2
      have g : vp_in (nI j) 4 := vp_in_nI (by omega) (by decide)
      refine ⟨pc6_weights s j, upd (pc6_weights s) j (nI w), upd (pc6_weights s) j (nI w), ?_, ?_, hF, hA, hU, ⟨e1, e2, rfl, q1, ?_, q3⟩, hL, hRr, hT, hC, hY⟩
      · simp only [fX7_weigh, isStuff7, wi7, ob, ob2, bz, fX6_reweigh, og_pos g, olet, tn_nI (show j < 2 ^ 31 by omega)]; rw [if_neg (not_not_intro h), if_neg (not_not_intro h')]
      · simp only [fX8_weigh, isStuff8, wi8, ob, bz, og_pos g, olet, tn_nI (show j < 2 ^ 31 by omega), e3]; rw [if_neg (not_not_intro h), if_neg (not_not_intro h')]
      · intro k hk
        show 1 ≤ (upd (pc6_weights s) j (nI w) k).toInt ∧ (upd (pc6_weights s) j (nI w) k).toInt ≤ 50
        rw [upd_at]
        by_cases hkj : k = j
        · rw [if_pos hkj, nI_T (by omega)]; omega
        · rw [if_neg hkj]; exact q2 k hk
    · refine ⟨-1, pc6_weights s, pc6_weights s, ?_, ?_, hF, hA, hU, ⟨e1, e2, rfl, q1, q2, q3⟩, hL, hRr, hT, hC, hY⟩
      · simp only [fX7_weigh, isStuff7, wi7, ob, bz]; rw [if_neg (not_not_intro h), if_pos h']
      · simp only [fX8_weigh, isStuff8, wi8, ob, bz, e3]; rw [if_neg (not_not_intro h), if_pos h']
  · refine ⟨-1, pc6_weights s, pc6_weights s, ?_, ?_, hF, hA, hU, ⟨e1, e2, rfl, q1, q2, q3⟩, hL, hRr, hT, hC, hY⟩
    · simp only [fX7_weigh, isStuff7, ob, bz]; rw [if_pos h]
    · simp only [fX8_weigh, isStuff8, ob, bz, e3]; rw [if_pos h]
