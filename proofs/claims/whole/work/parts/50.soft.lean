/-! ===== the whole root, both sides ===== -/
theorem sq_le {a b : Nat} (h : a ≤ b) : a * a ≤ b * b := Nat.mul_le_mul h h
theorem sq_one {n r s : Nat} (h1 : r * r ≤ n) (h2 : n < (r + 1) * (r + 1)) (h3 : s * s ≤ n) (h4 : n < (s + 1) * (s + 1)) : r = s := by
  rcases Nat.lt_trichotomy r s with c | c | c
  · have := sq_le (show r + 1 ≤ s by omega); omega
  · exact c
  · have := sq_le (show s + 1 ≤ r by omega); omega
theorem nI_m1 (k : Nat) : nI (k + 1) + (-1) = nI k := by
  rw [show (nI (k + 1) + (-1) : Int32) = nI (k + 1) - 1 from (Int32.sub_eq_add_neg (a := nI (k + 1)) (b := 1)).symm, nI_pred]
theorem shl_1 : ∀ k : Nat, k < 31 → (1 : Int64) <<< (Int32.toInt64 (nI k) &&& 63) = lN (2 ^ k) := by decide +kernel
theorem lN_nI {r : Nat} (h : r < 2 ^ 31) : Int64.toInt32 (lN r) = nI r := by
  rw [← nI_l h]; exact Int32.toInt32_toInt64 _
theorem gt_l {a b : Nat} (ha : a < 2 ^ 63) (hb : b < 2 ^ 63) : 0 < lg_cmp (lN a) (lN b) ↔ b < a := (lg_cmp_gt _ _).trans (pk_lLT hb ha)
theorem root7_L {n : Nat} (hn : n < 2 ^ 62) : ∀ (k a q : Nat), k ≤ 31 → k < q → a + 2 ^ k ≤ 2 ^ 31 → a * a ≤ n → n < (a + 2 ^ k) * (a + 2 ^ k) → ∃ r : Nat, r * r ≤ n ∧ n < (r + 1) * (r + 1) ∧ fX5_root_L6 (lN n) q (lN a) (nI k + (-1)) = some (nI r) := by
  intro k
  induction k with
  | zero =>
    intro a q hk hq h1 h2 h3
    obtain ⟨q, rfl⟩ : ∃ z, q = z + 1 := ⟨q - 1, by omega⟩
    refine ⟨a, h2, h3, ?_⟩
    rw [fX5_root_L6, if_pos (by decide), lN_nI (by omega)]
  | succ k ih =>
    intro a q hk hq h1 h2 h3
    obtain ⟨q, rfl⟩ : ∃ z, q = z + 1 := ⟨q - 1, by omega⟩
    have e2 : 2 ^ (k + 1) = 2 ^ k + 2 ^ k := by rw [Nat.pow_succ]; omega
    have hp : 0 < 2 ^ k := Nat.two_pow_pos k
    have hb : (a + 2 ^ k) * (a + 2 ^ k) ≤ 2 ^ 31 * 2 ^ 31 := sq_le (by omega)
    have n0 : ¬ nI k < 0 := nI_nlt (b := 0) (by omega) (by omega)
    rw [fX5_root_L6, nI_m1, if_neg n0]
    simp only [olet]
    rw [shl_1 k (by omega), lN_add, lN_mul]
    by_cases c : n < (a + 2 ^ k) * (a + 2 ^ k)
    · obtain ⟨r, r1, r2, r3⟩ := ih a q (by omega) (by omega) (by omega) h2 c
      refine ⟨r, r1, r2, ?_⟩
      rw [if_pos ((gt_l (by omega) (by omega)).mpr c)]
      exact r3
    · obtain ⟨r, r1, r2, r3⟩ := ih (a + 2 ^ k) q (by omega) (by omega) (by omega) (by omega) (by rw [Nat.add_assoc, ← e2]; exact h3)
      refine ⟨r, r1, r2, ?_⟩
      rw [if_neg (fun z => c ((gt_l (by omega) (by omega)).mp z))]
      exact r3
theorem root8_L {n : Nat} (hn : n < 2 ^ 62) : ∀ (k a q : Nat), k ≤ 17 → k < q → a + 2 ^ k ≤ 2 ^ 17 → a * a ≤ n → n < (a + 2 ^ k) * (a + 2 ^ k) → ∃ r : Nat, r * r ≤ n ∧ n < (r + 1) * (r + 1) ∧ r < 2 ^ 17 ∧ fX8_root_L5 (lN n) q (nI a) (nI (2 ^ k / 2)) = some (nI r) := by
  intro k
  induction k with
  | zero =>
    intro a q hk hq h1 h2 h3
    obtain ⟨q, rfl⟩ : ∃ z, q = z + 1 := ⟨q - 1, by omega⟩
    refine ⟨a, h2, h3, by omega, ?_⟩
    rw [fX8_root_L5, if_pos (by decide)]
  | succ k ih =>
    intro a q hk hq h1 h2 h3
    obtain ⟨q, rfl⟩ : ∃ z, q = z + 1 := ⟨q - 1, by omega⟩
    have e2 : 2 ^ (k + 1) = 2 ^ k + 2 ^ k := by rw [Nat.pow_succ]; omega
    have e3 : 2 ^ (k + 1) / 2 = 2 ^ k := by omega
    have hp : 0 < 2 ^ k := Nat.two_pow_pos k
    have hb : (a + 2 ^ k) * (a + 2 ^ k) ≤ 2 ^ 17 * 2 ^ 17 := sq_le (by omega)
    have n0 : ¬ nI (2 ^ k) ≤ 0 := lit_le (i := 0) hp (by omega)
    have e4 : nI (2 ^ k) / 2 = nI (2 ^ k / 2) := pk_div (a := 2 ^ k) (d := 2) (by omega) (by decide) (by decide)
    rw [fX8_root_L5, e3, if_neg n0]
    simp only [olet]
    rw [nI_add, nI_l (by omega), lN_mul, e4]
    by_cases c : n < (a + 2 ^ k) * (a + 2 ^ k)
    · obtain ⟨r, r1, r2, r3, r4⟩ := ih a q (by omega) (by omega) (by omega) h2 c
      refine ⟨r, r1, r2, r3, ?_⟩
      rw [if_pos ((gt_l (by omega) (by omega)).mpr c)]
      simp only [ob, Int32.add_zero]
      exact r4
    · obtain ⟨r, r1, r2, r3, r4⟩ := ih (a + 2 ^ k) q (by omega) (by omega) (by omega) (by omega) (by rw [Nat.add_assoc, ← e2]; exact h3)
      refine ⟨r, r1, r2, r3, ?_⟩
      rw [if_neg (fun z => c ((gt_l (by omega) (by omega)).mp z))]
      simp only [ob, nI_add]
      exact r4
theorem root_eq (N : Nat) (hN : 400 ≤ N) {n : Nat} (hn : n < 2 ^ 34) : ∃ r : Nat, r * r ≤ n ∧ r < 2 ^ 17 ∧ fX5_root N (lN n) = some (nI r) ∧ fX8_root N (lN n) = some (nI r) := by
  obtain ⟨r, r1, r2, r3⟩ := root7_L (n := n) (by omega) 31 0 N (by omega) (by omega) (by omega) (by omega) (by omega)
  obtain ⟨s, s1, s2, s3, s4⟩ := root8_L (n := n) (by omega) 17 0 N (by omega) (by omega) (by omega) (by omega) (by omega)
  have e := sq_one r1 r2 s1 s2
  subst e
  exact ⟨r, r1, s3, r3, s4⟩
/-! squares -/
theorem sq_l {x : Int32} (h1 : -40000 ≤ x.toInt) (h2 : x.toInt ≤ 40000) : Int32.toInt64 x * Int32.toInt64 x = lN (x.toInt.natAbs * x.toInt.natAbs) := by
  have hb : x.toInt.natAbs * x.toInt.natAbs ≤ 40000 * 40000 := sq_le (by omega)
  have e : x.toInt * x.toInt = ((x.toInt.natAbs * x.toInt.natAbs : Nat) : Int) := Int.natAbs_mul_self.symm
  rw [← Int64.toInt_inj, fb_mulL, Int32.toInt_toInt64, pk_lT (by omega), e]
  · rw [Int32.toInt_toInt64, e]; omega
  · rw [Int32.toInt_toInt64, e]; omega
theorem stp_one (w : Int32) : (stp 0 w).toInt.natAbs + (stp 1 w).toInt.natAbs + (stp 2 w).toInt.natAbs ≤ 1 := by
  simp only [stp]
  have k : (if w - w / 2 * 2 = 0 then (1 : Int32) else -1).toInt.natAbs = 1 := by
    by_cases c : w - w / 2 * 2 = 0
    · rw [if_pos c]; decide
    · rw [if_neg c]; decide
  have z : (0 : Int32).toInt.natAbs = 0 := by decide
  generalize (if w - w / 2 * 2 = 0 then (1 : Int32) else -1) = t at k ⊢
  by_cases c0 : w / 2 = nI 0
  · rw [if_pos c0, if_neg (by rw [c0]; decide), if_neg (by rw [c0]; decide), k, z]; omega
  · by_cases c1 : w / 2 = nI 1
    · rw [if_neg c0, if_pos c1, if_neg (by rw [c1]; decide), k, z]; omega
    · by_cases c2 : w / 2 = nI 2
      · rw [if_neg c0, if_neg c1, if_pos c2, k, z]; omega
      · rw [if_neg c0, if_neg c1, if_neg c2, z]; omega
/-- how far from the begin, in whole steps -/
theorem man {n : Nat} {le ln : Int32} {wy un so uw ut xs ys zs : Nat → Int32} (h : RLn n le ln wy un so uw ut xs ys zs) : ∀ p, p ≤ us un n → (xs p).toInt.natAbs + (ys p).toInt.natAbs + (zs p).toInt.natAbs ≤ p := by
  have htot : us un n ≤ 240 := by have := us_le n (fun j hj => (h.2.2.2.1 j hj).2.1); have := h.1; omega
  obtain ⟨-, -, -, -, -, hx, hy, hz, hst⟩ := id h
  intro p
  induction p with
  | zero => intro _; rw [hx, hy, hz]; decide
  | succ p ih =>
    intro hp
    have i := ih (by omega)
    obtain ⟨a, b, c⟩ := hst p (by omega)
    have o := stp_one (uw p)
    rw [a, b, c, fb_addI (by omega) (by omega), fb_addI (by omega) (by omega), fb_addI (by omega) (by omega)]
    omega
theorem sq3 (a b c : Nat) : a * a + b * b + c * c ≤ (a + b + c) * (a + b + c) := by
  have e : (a + b + c) * (a + b + c) = a * a + b * b + c * c + (2 * (a * b) + 2 * (a * c) + 2 * (b * c)) := by
    rw [Nat.add_mul, Nat.add_mul, Nat.mul_add, Nat.mul_add, Nat.mul_add, Nat.mul_add, Nat.mul_add, Nat.mul_add, Nat.mul_comm b a, Nat.mul_comm c a, Nat.mul_comm c b]
    omega
  omega
/-- what is let less what is there, both sides -/
theorem spare_eq (N : Nat) (hN : 400 ≤ N) {n : Nat} {le ln : Int32} {wy un so uw ut xs ys zs : Nat → Int32} (h : RLn n le ln wy un so uw ut xs ys zs) {by_ sz we : Nat → Int32} (hS : RS by_ sz we) {st : Nat} (hs : st < 16) : ∃ R G : Nat, R ≤ us un n ∧ G < 2 ^ 17 ∧ ∀ th mo : Int32, fX5_spare N le ln wy un so by_ sz (nI st) th mo = some (30 * (ln + mo - nI R) * (ln + mo - nI R) - th * nI G) ∧ fX8_room N ln sz by_ uw ut xs ys zs (nI st) th mo = some (30 * (ln + mo - nI R) * (ln + mo - nI R) - th * nI G) := by
  have htot : us un n ≤ 240 := by have := us_le n (fun j hj => (h.2.2.2.1 j hj).2.1); have := h.1; omega
  have eln := h.2.2.1
  have g70 : fX5_growth N le wy un so by_ sz ln (nI st) 0 = some (ps (hG wy so by_ sz 0 st) un (us un n) n) := by rw [eln]; exact growth7 N hN h by_ sz (show us un n ≤ 1000 by omega) hs 0
  have g71 : fX5_growth N le wy un so by_ sz ln (nI st) 1 = some (ps (hG wy so by_ sz 1 st) un (us un n) n) := by rw [eln]; exact growth7 N hN h by_ sz (show us un n ≤ 1000 by omega) hs 1
  have g72 : fX5_growth N le wy un so by_ sz ln (nI st) 2 = some (ps (hG wy so by_ sz 2 st) un (us un n) n) := by rw [eln]; exact growth7 N hN h by_ sz (show us un n ≤ 1000 by omega) hs 2
  have g80 : fX8_grownTo N ln sz by_ uw ut ln (nI st) 0 = some (ps (hG wy so by_ sz 0 st) un (us un n) n) := by rw [show fX8_grownTo N ln sz by_ uw ut ln (nI st) 0 = fX8_grownTo N ln sz by_ uw ut (nI (us un n)) (nI st) (nI 0) by rw [eln]; rfl]; exact growth8 N hN h by_ sz (show us un n ≤ 1000 by omega) hs 0
  have g81 : fX8_grownTo N ln sz by_ uw ut ln (nI st) 1 = some (ps (hG wy so by_ sz 1 st) un (us un n) n) := by rw [show fX8_grownTo N ln sz by_ uw ut ln (nI st) 1 = fX8_grownTo N ln sz by_ uw ut (nI (us un n)) (nI st) (nI 1) by rw [eln]; rfl]; exact growth8 N hN h by_ sz (show us un n ≤ 1000 by omega) hs 1
  have g82 : fX8_grownTo N ln sz by_ uw ut ln (nI st) 2 = some (ps (hG wy so by_ sz 2 st) un (us un n) n) := by rw [show fX8_grownTo N ln sz by_ uw ut ln (nI st) 2 = fX8_grownTo N ln sz by_ uw ut (nI (us un n)) (nI st) (nI 2) by rw [eln]; rfl]; exact growth8 N hN h by_ sz (show us un n ≤ 1000 by omega) hs 2
  have p70 : fX5_position N le wy un ln 0 = some (ps (fun j => stp 0 (wy j)) un (us un n) n) := by rw [eln]; exact position_eq N hN h (show us un n ≤ 1000 by omega) 0
  have p71 : fX5_position N le wy un ln 1 = some (ps (fun j => stp 1 (wy j)) un (us un n) n) := by rw [eln]; exact position_eq N hN h (show us un n ≤ 1000 by omega) 1
  have p72 : fX5_position N le wy un ln 2 = some (ps (fun j => stp 2 (wy j)) un (us un n) n) := by rw [eln]; exact position_eq N hN h (show us un n ≤ 1000 by omega) 2
  have a0 := ps_abs h hS (us un n) hs 0
  have a1 := ps_abs h hS (us un n) hs 1
  have a2 := ps_abs h hS (us un n) hs 2
  obtain ⟨px, py, pz⟩ := pos_at h (Nat.le_refl (us un n))
  have mn := man h (us un n) (Nat.le_refl _)
  rw [px, py, pz] at mn
  have g : vp_in ln 241 := by rw [eln]; exact vp_in_nI (by omega) (by decide)
  generalize ps (fun j => stp 0 (wy j)) un (us un n) n = X at px mn p70
  generalize ps (fun j => stp 1 (wy j)) un (us un n) n = Y at py mn p71
  generalize ps (fun j => stp 2 (wy j)) un (us un n) n = Z at pz mn p72
  generalize ps (hG wy so by_ sz 0 st) un (us un n) n = A at g70 g80 a0
  generalize ps (hG wy so by_ sz 1 st) un (us un n) n = B at g71 g81 a1
  generalize ps (hG wy so by_ sz 2 st) un (us un n) n = C at g72 g82 a2
  have s3 := sq3 X.toInt.natAbs Y.toInt.natAbs Z.toInt.natAbs
  have s4 := sq_le mn
  have s5 : us un n * us un n ≤ 240 * 240 := sq_le htot
  have b0 : A.toInt.natAbs * A.toInt.natAbs ≤ 30720 * 30720 := sq_le (by omega)
  have b1 : B.toInt.natAbs * B.toInt.natAbs ≤ 30720 * 30720 := sq_le (by omega)
  have b2 : C.toInt.natAbs * C.toInt.natAbs ≤ 30720 * 30720 := sq_le (by omega)
  obtain ⟨R, R1, -, R7, R8⟩ := root_eq N hN (n := X.toInt.natAbs * X.toInt.natAbs + Y.toInt.natAbs * Y.toInt.natAbs + Z.toInt.natAbs * Z.toInt.natAbs) (by omega)
  obtain ⟨G, -, G2, G7, G8⟩ := root_eq N hN (n := A.toInt.natAbs * A.toInt.natAbs + B.toInt.natAbs * B.toInt.natAbs + C.toInt.natAbs * C.toInt.natAbs) (by omega)
  have hR : R ≤ us un n := by
    rcases Nat.lt_or_ge (us un n) R with c | c
    · have s6 := sq_le (show us un n + 1 ≤ R from c)
      have s7 : us un n * us un n < (us un n + 1) * (us un n + 1) := Nat.mul_lt_mul'' (Nat.lt_succ_self _) (Nat.lt_succ_self _)
      omega
    · exact c
  refine ⟨R, G, hR, G2, fun th mo => ⟨?_, ?_⟩⟩
  · have L : ∀ (q : Nat) K, fX5_spare_L9 N le ln wy un so by_ sz (nI st) K (q + 4) 0 0 0 = K (lN (A.toInt.natAbs * A.toInt.natAbs + B.toInt.natAbs * B.toInt.natAbs + C.toInt.natAbs * C.toInt.natAbs)) (lN (X.toInt.natAbs * X.toInt.natAbs + Y.toInt.natAbs * Y.toInt.natAbs + Z.toInt.natAbs * Z.toInt.natAbs)) := by
      intro q K
      have z1 : (0 : Int32) + 1 = 1 := by decide
      have z2 : (1 : Int32) + 1 = 2 := by decide
      have z3 : (2 : Int32) + 1 = 3 := by decide
      rw [fX5_spare_L9, if_neg (by decide)]
      simp only [g70, p70, ob, olet, z1, sq_l (x := A) (by omega) (by omega), sq_l (x := X) (by omega) (by omega), Int64.zero_add]
      rw [fX5_spare_L9, if_neg (by decide)]
      simp only [g71, p71, ob, olet, z2, sq_l (x := B) (by omega) (by omega), sq_l (x := Y) (by omega) (by omega), lN_add]
      rw [fX5_spare_L9, if_neg (by decide)]
      simp only [g72, p72, ob, olet, z3, sq_l (x := C) (by omega) (by omega), sq_l (x := Z) (by omega) (by omega), lN_add]
      rw [fX5_spare_L9, if_pos (by decide)]
    obtain ⟨M, eM⟩ : ∃ M, N = M + 4 := ⟨N - 4, by omega⟩
    have L' := L M
    rw [← eM] at L'
    simp only [fX5_spare, oj]
    rw [L']
    simp only [R7, G7, ob, olet]
  · simp only [fX8_room, og_pos g, fX8_squares, ob, olet, g80, g81, g82]
    rw [show Int32.toNatClampNeg ln = us un n by rw [eln]; exact tn_nI (by omega), px, py, pz, sq_l (x := X) (by omega) (by omega), sq_l (x := Y) (by omega) (by omega), sq_l (x := Z) (by omega) (by omega), sq_l (x := A) (by omega) (by omega), sq_l (x := B) (by omega) (by omega), sq_l (x := C) (by omega) (by omega), lN_add, lN_add, lN_add, lN_add, R8]
    simp only [G8]
theorem m_soft (N : Nat) (hN : 400 ≤ N) : op_soft N Rel := by
  intro s t hR a1 a2
  obtain ⟨hF, hA, hU, hS, hL, hRr, hT, hC, hY⟩ := id hR
  obtain ⟨l1, l2, l3, l4, l5, n, q⟩ := id hL
  obtain ⟨s1, s2, s3, qs_⟩ := id hS
  have hA' : pc8_asked t = pc7_lastAsked s := hA
  by_cases h1 : (0 : Int32) ≤ a1 ∧ a1 ≤ 15
  · by_cases h2 : (1 : Int32) ≤ a2 ∧ a2 ≤ 100
    · by_cases h3 : pc5_legs s = 0
      · refine ⟨-4, pc7_lastAsked s, pc7_lastAsked s, ?_, ?_, hF, rfl, hU, hS, hL, hRr, hT, hC, hY⟩
        · simp only [fX7_soft, isStep7, isThickness7, ob, bz, fX5_legs]
          rw [if_neg (not_not_intro h1), if_neg (not_not_intro h2), if_pos h3]
        · simp only [fX8_soft, isStep8, wi8, ob, bz, hA', l1]
          rw [if_neg (not_not_intro h1), if_neg (not_not_intro h2), if_pos h3]
      · obtain ⟨st, -, hst, rfl⟩ := nI_rng 0 15 (by decide) (by decide) h1.1 h1.2
        obtain ⟨R, G, -, -, E⟩ := spare_eq N hN q qs_ (show st < 16 by omega)
        obtain ⟨E7, E8⟩ := E a2 0
        generalize 30 * (pc5_length s + 0 - nI R) * (pc5_length s + 0 - nI R) - a2 * nI G = v at E7 E8
        refine ⟨if v < 0 then 0 else 1, v, v, ?_, ?_, hF, rfl, hU, hS, hL, hRr, hT, hC, hY⟩
        · simp only [fX7_soft, isStep7, isThickness7, ob, bz, fX5_legs]
          rw [if_neg (not_not_intro h1), if_neg (not_not_intro h2), if_neg h3, E7]
          by_cases c : v < 0
          · simp only [if_pos c]
          · simp only [if_neg c]
        · simp only [fX8_soft, isStep8, wi8, ob, bz, hA', l1, l2, s1, s2]
          rw [if_neg (not_not_intro h1), if_neg (not_not_intro h2), if_neg h3, E8]
          simp only []
          rw [ite_some]
          rfl
    · refine ⟨-1, pc7_lastAsked s, pc7_lastAsked s, ?_, ?_, hF, rfl, hU, hS, hL, hRr, hT, hC, hY⟩
      · simp only [fX7_soft, isStep7, isThickness7, ob, bz]; rw [if_neg (not_not_intro h1), if_pos h2]
      · simp only [fX8_soft, isStep8, wi8, ob, bz, hA']; rw [if_neg (not_not_intro h1), if_pos h2]
  · refine ⟨-1, pc7_lastAsked s, pc7_lastAsked s, ?_, ?_, hF, rfl, hU, hS, hL, hRr, hT, hC, hY⟩
    · simp only [fX7_soft, isStep7, ob, bz]; rw [if_pos h1]
    · simp only [fX8_soft, isStep8, ob, bz, hA']; rw [if_pos h1]
