/-! ===== worst ===== -/
def jt (am lo hi : Nat → Int32) (m c : Nat) : Int32 := if m.testBit c then (if am c * lo c < am c * hi c then am c * hi c else am c * lo c) else 0
def jsum (am lo hi : Nat → Int32) (m : Nat) : Nat → Nat → Int32 → Int32
  | 0, _, a => a
  | k + 1, c, a => jsum am lo hi m k (c + 1) (a + jt am lo hi m c)
theorem mx_eq (x y : Int32) : (if x ≤ y then some y else some x) = some (if x < y then y else x) := by
  by_cases h : x < y
  · rw [if_pos h, if_pos (by rw [leT]; rw [ltT] at h; omega)]
  · rw [if_neg h]
    by_cases h2 : x ≤ y
    · rw [if_pos h2]
      have : x = y := by rw [eqT]; rw [ltT] at h; rw [leT] at h2; omega
      rw [this]
    · rw [if_neg h2]
theorem jo7 (am lo hi : Nat → Int32) {m : Nat} (hm : m < 256) : ∀ (k c n : Nat) (a : Int32), c + k = 8 → k < n → fX0_joined_L4 am lo hi (nI m) n a (nI c) = some (jsum am lo hi m k c a) := by
  intro k
  induction k with
  | zero =>
    intro c n a hc hn
    obtain ⟨n, rfl⟩ : ∃ q, n = q + 1 := ⟨n - 1, by omega⟩
    have e : c = 8 := by omega
    subst e
    rw [fX0_joined_L4, if_pos (show (8 : Int32) ≤ nI 8 from by decide)]; rfl
  | succ k ih =>
    intro c n a hc hn
    obtain ⟨n, rfl⟩ : ∃ q, n = q + 1 := ⟨n - 1, by omega⟩
    have g : vp_in (nI c) 8 := vp_in_nI (by omega) (by decide)
    have hb := bt_and m hm c (by omega)
    rw [fX0_joined_L4, if_neg (show ¬ (8 : Int32) ≤ nI c from lit_le (n := 8) (by omega) (by decide))]
    simp only [og_pos g, olet, tn_nI (show c < 2 ^ 31 by omega), nI_s]
    by_cases h : m.testBit c = true
    · rw [if_neg (fun q => by rw [hb.mp q] at h; cases h)]
      simp only [ob]
      rw [ih (c + 1) n _ (by omega) (by omega), jsum, jt, if_pos h]
    · have h' : m.testBit c = false := by simpa using h
      rw [if_pos (hb.mpr h')]
      simp only [ob]
      rw [ih (c + 1) n _ (by omega) (by omega), jsum, jt, if_neg h, Int32.add_zero]
theorem jo8 (am lo hi : Nat → Int32) {m : Nat} (hm : m < 256) : ∀ (k c n : Nat) (a : Int32), c + k = 8 → k < n → fX8_joined_L4 am lo hi (nI m) n a (nI c) = some (jsum am lo hi m k c a) := by
  intro k
  induction k with
  | zero =>
    intro c n a hc hn
    obtain ⟨n, rfl⟩ : ∃ q, n = q + 1 := ⟨n - 1, by omega⟩
    have e : c = 8 := by omega
    subst e
    rw [fX8_joined_L4, if_pos (show (8 : Int32) ≤ nI 8 from by decide)]; rfl
  | succ k ih =>
    intro c n a hc hn
    obtain ⟨n, rfl⟩ : ∃ q, n = q + 1 := ⟨n - 1, by omega⟩
    have g : vp_in (nI c) 8 := vp_in_nI (by omega) (by decide)
    have hb := bt_was m hm c (by omega)
    rw [fX8_joined_L4, if_neg (show ¬ (8 : Int32) ≤ nI c from lit_le (n := 8) (by omega) (by decide))]
    simp only [og_pos g, olet, tn_nI (show c < 2 ^ 31 by omega), nI_s, hb, mx_eq]
    by_cases h : m.testBit c = true
    · simp only [h, if_true]
      rw [if_neg (by decide)]
      simp only [ob]
      rw [ih (c + 1) n _ (by omega) (by omega), jsum, jt, if_pos h]
    · simp only [h, if_false]
      rw [if_pos (by first | trivial | rfl)]
      simp only [ob]
      rw [ih (c + 1) n _ (by omega) (by omega), jsum, jt, if_neg h]
def gv (ba : Nat → Int32) (m : Nat) : Nat → Nat → Int32
  | 0, _ => 1
  | k + 1, c => if m.testBit c = true ∧ ¬ (nI m &&& ba c) = 0 then 0 else gv ba m k (c + 1)
theorem gv01 (ba : Nat → Int32) (m : Nat) : ∀ k c, gv ba m k c = 0 ∨ gv ba m k c = 1
  | 0, _ => Or.inr rfl
  | k + 1, c => by
    rw [gv]
    by_cases h : m.testBit c = true ∧ ¬ (nI m &&& ba c) = 0
    · rw [if_pos h]; exact Or.inl rfl
    · rw [if_neg h]; exact gv01 ba m k (c + 1)
theorem go7 (ba : Nat → Int32) {m : Nat} (hm : m < 256) : ∀ (k c n : Nat), c + k = 8 → k < n → fX0_goesTogether_L2 ba (nI m) n (nI c) = some (gv ba m k c) := by
  intro k
  induction k with
  | zero =>
    intro c n hc hn
    obtain ⟨n, rfl⟩ : ∃ q, n = q + 1 := ⟨n - 1, by omega⟩
    have e : c = 8 := by omega
    subst e
    rw [fX0_goesTogether_L2, if_pos (show (8 : Int32) ≤ nI 8 from by decide)]; rfl
  | succ k ih =>
    intro c n hc hn
    obtain ⟨n, rfl⟩ : ∃ q, n = q + 1 := ⟨n - 1, by omega⟩
    have g : vp_in (nI c) 8 := vp_in_nI (by omega) (by decide)
    have hb := bt_and m hm c (by omega)
    rw [fX0_goesTogether_L2, if_neg (show ¬ (8 : Int32) ≤ nI c from lit_le (n := 8) (by omega) (by decide))]
    simp only [oj, og_pos g, tn_nI (show c < 2 ^ 31 by omega), nI_s]
    rw [ih (c + 1) n (by omega) (by omega), gv]
    by_cases h : m.testBit c = true
    · rw [if_neg (fun q => by rw [hb.mp q] at h; cases h)]
      by_cases h2 : (nI m &&& ba c) = 0
      · rw [if_pos h2, if_neg (fun q => q.2 h2)]
      · rw [if_neg h2, if_pos ⟨h, h2⟩]
    · have h' : m.testBit c = false := by simpa using h
      rw [if_pos (hb.mpr h'), if_neg (fun q => h q.1)]
theorem mj0 (ba : Nat → Int32) (p : Int32) : ∀ (k c n : Nat), c + k = 8 → k < n → fX8_mayJoin_L4 ba p n 0 (nI c) = some 0 := by
  intro k
  induction k with
  | zero =>
    intro c n hc hn
    obtain ⟨n, rfl⟩ : ∃ q, n = q + 1 := ⟨n - 1, by omega⟩
    have e : c = 8 := by omega
    subst e
    rw [fX8_mayJoin_L4, if_pos (show (8 : Int32) ≤ nI 8 from by decide), og_pos (Or.inl rfl)]
  | succ k ih =>
    intro c n hc hn
    obtain ⟨n, rfl⟩ : ∃ q, n = q + 1 := ⟨n - 1, by omega⟩
    rw [fX8_mayJoin_L4, if_neg (show ¬ (8 : Int32) ≤ nI c from lit_le (n := 8) (by omega) (by decide))]
    simp only [oj, if_true, ob, nI_s]
    exact ih (c + 1) n (by omega) (by omega)
theorem mj1 (ba : Nat → Int32) {m : Nat} (hm : m < 256) : ∀ (k c n : Nat), c + k = 8 → k < n → fX8_mayJoin_L4 ba (nI m) n 1 (nI c) = some (gv ba m k c) := by
  intro k
  induction k with
  | zero =>
    intro c n hc hn
    obtain ⟨n, rfl⟩ : ∃ q, n = q + 1 := ⟨n - 1, by omega⟩
    have e : c = 8 := by omega
    subst e
    rw [fX8_mayJoin_L4, if_pos (show (8 : Int32) ≤ nI 8 from by decide), og_pos (Or.inr rfl)]; rfl
  | succ k ih =>
    intro c n hc hn
    obtain ⟨n, rfl⟩ : ∃ q, n = q + 1 := ⟨n - 1, by omega⟩
    have g : vp_in (nI c) 8 := vp_in_nI (by omega) (by decide)
    have hb := bt_was m hm c (by omega)
    have n01 : ¬ (1 : Int32) = 0 := by decide
    rw [fX8_mayJoin_L4, if_neg (show ¬ (8 : Int32) ≤ nI c from lit_le (n := 8) (by omega) (by decide))]
    simp only [oj, og_pos g, tn_nI (show c < 2 ^ 31 by omega), nI_s, n01, if_false, hb]
    rw [gv, Int32.and_comm (ba c)]
    by_cases h : m.testBit c = true
    · simp only [h, if_true, n01, if_false]
      by_cases h2 : (nI m &&& ba c) = 0
      · rw [if_pos h2, if_neg (fun q => q.2 h2)]
        simp only [ob]
        exact ih (c + 1) n (by omega) (by omega)
      · rw [if_neg h2, if_pos ⟨trivial, h2⟩]
        simp only [ob]
        exact mj0 ba _ k (c + 1) n (by omega) (by omega)
    · have h' : m.testBit c = false := by simpa using h
      simp only [h', Bool.false_eq_true, if_false, if_true, false_and, ob]
      exact ih (c + 1) n (by omega) (by omega)
def jv (am lo hi : Nat → Int32) (m : Nat) : Int32 := jsum am lo hi m 8 0 0
theorem jsum0 (am lo hi : Nat → Int32) : ∀ (k c : Nat) (a : Int32), jsum am lo hi 0 k c a = a
  | 0, _, _ => rfl
  | k + 1, c, a => by rw [jsum, jsum0, jt, Nat.zero_testBit, if_neg (by decide), Int32.add_zero]
def wf (am lo hi ba : Nat → Int32) : Nat → Nat → Int32 → Int32 → Int32 × Int32
  | 0, _, x, y => (x, y)
  | k + 1, c, x, y => if gv ba c 8 0 = 0 then wf am lo hi ba k (c + 1) x y else if jv am lo hi c ≤ y then wf am lo hi ba k (c + 1) x y else wf am lo hi ba k (c + 1) (nI c) (jv am lo hi c)
theorem wf_inv (am lo hi ba : Nat → Int32) : ∀ (k c : Nat) (x y : Int32), c + k = 256 → (∃ m : Nat, m < 256 ∧ x = nI m ∧ y = jv am lo hi m) → ∃ m : Nat, m < 256 ∧ (wf am lo hi ba k c x y).1 = nI m ∧ (wf am lo hi ba k c x y).2 = jv am lo hi m
  | 0, _, _, _, _, h => h
  | k + 1, c, x, y, hc, h => by
    rw [wf]
    by_cases h1 : gv ba c 8 0 = 0
    · rw [if_pos h1]; exact wf_inv am lo hi ba k (c + 1) x y (by omega) h
    · rw [if_neg h1]
      by_cases h2 : jv am lo hi c ≤ y
      · rw [if_pos h2]; exact wf_inv am lo hi ba k (c + 1) x y (by omega) h
      · rw [if_neg h2]; exact wf_inv am lo hi ba k (c + 1) _ _ (by omega) ⟨c, by omega, rfl, rfl⟩
theorem wo7 (N : Nat) (hN : 400 ≤ N) (am lo hi ba : Nat → Int32) : ∀ (k c n : Nat) (x y : Int32), c + k = 256 → k < n → fX0_worstSet_L6 N am lo hi ba n x y (nI c) = some (wf am lo hi ba k c x y).1 := by
  intro k
  induction k with
  | zero =>
    intro c n x y hc hn
    obtain ⟨n, rfl⟩ : ∃ q, n = q + 1 := ⟨n - 1, by omega⟩
    have e : c = 256 := by omega
    subst e
    rw [fX0_worstSet_L6, if_pos (show (256 : Int32) ≤ nI 256 from by decide)]; rfl
  | succ k ih =>
    intro c n x y hc hn
    obtain ⟨n, rfl⟩ : ∃ q, n = q + 1 := ⟨n - 1, by omega⟩
    rw [fX0_worstSet_L6, if_neg (show ¬ (256 : Int32) ≤ nI c from lit_le (n := 256) (by omega) (by decide)), fX0_goesTogether, show fX0_goesTogether_L2 ba (nI c) N 0 = _ from go7 ba (show c < 256 by omega) 8 0 N (by omega) (by omega), fX0_joined, show fX0_joined_L4 am lo hi (nI c) N 0 0 = _ from jo7 am lo hi (show c < 256 by omega) 8 0 N 0 (by omega) (by omega)]
    simp only [ob, ob2, nI_s]
    rw [wf]
    by_cases h1 : gv ba c 8 0 = 0
    · rw [if_pos h1, if_pos h1]
      exact ih (c + 1) n x y (by omega) (by omega)
    · rw [if_neg h1, if_neg h1]
      by_cases h2 : jv am lo hi c ≤ y
      · rw [if_pos h2, if_pos (show jsum am lo hi c 8 0 0 ≤ y from h2)]
        exact ih (c + 1) n x y (by omega) (by omega)
      · rw [if_neg h2, if_neg (show ¬ jsum am lo hi c 8 0 0 ≤ y from h2)]
        exact ih (c + 1) n _ _ (by omega) (by omega)
theorem wo8 (N : Nat) (hN : 400 ≤ N) (am lo hi ba : Nat → Int32) (K : Int32 → Int32 → Option (Int32 × Int32)) : ∀ (k c n : Nat) (x y : Int32), c + k = 256 → k < n → fX8_worst_L6 N am lo hi ba K n x y (nI c) = K (wf am lo hi ba k c x y).1 (wf am lo hi ba k c x y).2 := by
  intro k
  induction k with
  | zero =>
    intro c n x y hc hn
    obtain ⟨n, rfl⟩ : ∃ q, n = q + 1 := ⟨n - 1, by omega⟩
    have e : c = 256 := by omega
    subst e
    rw [fX8_worst_L6, if_pos (show (256 : Int32) ≤ nI 256 from by decide)]; rfl
  | succ k ih =>
    intro c n x y hc hn
    obtain ⟨n, rfl⟩ : ∃ q, n = q + 1 := ⟨n - 1, by omega⟩
    rw [fX8_worst_L6, if_neg (show ¬ (256 : Int32) ≤ nI c from lit_le (n := 256) (by omega) (by decide)), fX8_mayJoin, show fX8_mayJoin_L4 ba (nI c) N 1 0 = _ from mj1 ba (show c < 256 by omega) 8 0 N (by omega) (by omega), fX8_joined, show fX8_joined_L4 am lo hi (nI c) N 0 0 = _ from jo8 am lo hi (show c < 256 by omega) 8 0 N 0 (by omega) (by omega)]
    simp only [ob, ob2, nI_s]
    rw [wf]
    by_cases h1 : gv ba c 8 0 = 0
    · rw [if_pos h1, if_pos h1]
      exact ih (c + 1) n x y (by omega) (by omega)
    · rw [if_neg h1, if_neg h1]
      by_cases h2 : jv am lo hi c ≤ y
      · rw [if_pos h2, if_pos (show jsum am lo hi c 8 0 0 ≤ y from h2)]
        exact ih (c + 1) n x y (by omega) (by omega)
      · rw [if_neg h2, if_neg (show ¬ jsum am lo hi c 8 0 0 ≤ y from h2)]
        exact ih (c + 1) n _ _ (by omega) (by omega)
theorem m_worst (N : Nat) (hN : 400 ≤ N) : op_worst N Rel := by
  intro s t hR
  obtain ⟨hF, hA, hU, hS, hL, hRr, hT, hC, hY⟩ := id hR
  obtain ⟨e1, e2, e3, e4, q⟩ := id hC
  obtain ⟨m, hm, em, ev⟩ := wf_inv (pc0_amounts s) (pc0_lows s) (pc0_highs s) (pc0_barred s) 255 1 0 0 (by omega) ⟨0, by omega, rfl, (jsum0 _ _ _ 8 0 0).symm⟩
  refine ⟨jv (pc0_amounts s) (pc0_lows s) (pc0_highs s) m, nI m, nI m, ?_, ?_, hF, rfl, hU, hS, hL, hRr, hT, hC, hY⟩
  · simp only [fX7_worst, fX0_worstSet, fX0_joined]
    rw [show fX0_worstSet_L6 N (pc0_amounts s) (pc0_lows s) (pc0_highs s) (pc0_barred s) N 0 0 1 = _ from wo7 N hN _ _ _ _ 255 1 N 0 0 (by omega) (by omega), em]
    simp only [ob]
    rw [show fX0_joined_L4 (pc0_amounts s) (pc0_lows s) (pc0_highs s) (nI m) N 0 0 = _ from jo7 _ _ _ hm 8 0 N 0 (by omega) (by omega)]
    rfl
  · simp only [fX8_worst, oj, e1, e2, e3, e4]
    rw [show fX8_worst_L6 N (pc0_amounts s) (pc0_lows s) (pc0_highs s) (pc0_barred s) _ N 0 0 1 = _ from wo8 N hN _ _ _ _ _ 255 1 N 0 0 (by omega) (by omega), em, ev]
    rfl
