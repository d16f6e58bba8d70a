/-! ===== layRun, leg, cut ===== -/
/-- the leg of a unit, among the first n -/
def lof (un : Nat → Int32) : Nat → Nat → Nat
  | 0, _ => 0
  | n + 1, p => if us un n ≤ p then n else lof un n p
theorem us_mono {un : Nat → Int32} {i : Nat} : ∀ {n : Nat}, i ≤ n → us un i ≤ us un n
  | 0, h => by have : i = 0 := by omega
               subst this; exact Nat.le_refl _
  | n + 1, h => by
    rcases Nat.lt_or_ge i (n + 1) with q | q
    · exact Nat.le_trans (us_mono (n := n) (by omega)) (by rw [us]; omega)
    · have : i = n + 1 := by omega
      subst this; exact Nat.le_refl _
theorem lof_at {un : Nat → Int32} {i v : Nat} (hv : v < (un i).toNatClampNeg) : ∀ {n : Nat}, i < n → lof un n (us un i + v) = i
  | 0, h => by omega
  | n + 1, h => by
    rw [lof]
    rcases Nat.lt_or_ge i n with q | q
    · have := us_mono (un := un) (i := i + 1) (n := n) (by omega)
      rw [us] at this
      rw [if_neg (by omega)]; exact lof_at hv q
    · have e : i = n := by omega
      subst e
      rw [if_pos (by omega)]
def Good (wy un so : Nat → Int32) (n T : Nat) (uw ut xs ys zs : Nat → Int32) : Prop := xs 0 = 0 ∧ ys 0 = 0 ∧ zs 0 = 0 ∧ ∀ p, p < T → (uw p = wy (lof un n p) ∧ ut p = so (lof un n p)) ∧ xs (p + 1) = xs p + stp 0 (uw p) ∧ ys (p + 1) = ys p + stp 1 (uw p) ∧ zs (p + 1) = zs p + stp 2 (uw p)
def LegOk (n : Nat) (wy un so : Nat → Int32) : Prop := ∀ i, i < n → (∃ w : Nat, w < 6 ∧ wy i = nI w) ∧ (∃ u : Nat, 1 ≤ u ∧ u ≤ 20 ∧ un i = nI u) ∧ ∃ q : Nat, q < 4 ∧ so i = nI q
theorem Good_step {wy un so : Nat → Int32} {n T i : Nat} {uw ut xs ys zs : Nat → Int32} (h : Good wy un so n T uw ut xs ys zs) (e : lof un n T = i) : Good wy un so n (T + 1) (upd uw T (wy i)) (upd ut T (so i)) (upd xs (T + 1) (xs T + stp 0 (wy i))) (upd ys (T + 1) (ys T + stp 1 (wy i))) (upd zs (T + 1) (zs T + stp 2 (wy i))) := by
  obtain ⟨h1, h2, h3, h4⟩ := h
  refine ⟨by rw [upd_at, if_neg (by omega)]; exact h1, by rw [upd_at, if_neg (by omega)]; exact h2, by rw [upd_at, if_neg (by omega)]; exact h3, fun p hp => ?_⟩
  simp only [upd_at]
  by_cases c : p = T
  · subst c
    rw [e]
    simp
  · have hp' : p < T := by omega
    have := h4 p hp'
    rw [if_neg c, if_neg c, if_neg (by omega), if_neg (by omega), if_neg (by omega), if_neg (by omega), if_neg (by omega), if_neg (by omega)]
    exact this
theorem stp_some (a : Nat) (w : Int32) : (if w / 2 = nI a then ob (fX8_signOf w) (fun (r : Int32) => some r) else some 0) = some (stp a w) := by
  rw [stp, fX8_signOf]
  by_cases h : w / 2 = nI a
  · rw [if_pos h, if_pos h]
    by_cases h2 : w - w / 2 * 2 = 0
    · rw [if_pos h2, if_pos h2]; rfl
    · rw [if_neg h2, if_neg h2]; rfl
  · rw [if_neg h, if_neg h]
theorem lay_L17 {n i : Nat} {wy un so : Nat → Int32} (hn : n ≤ 12) (hq : LegOk n wy un so) (hi : i < n) : ∀ (k v q : Nat) (uw ut xs ys zs : Nat → Int32), v + k = (un i).toNatClampNeg → k < q → Good wy un so n (us un i + v) uw ut xs ys zs → ∃ uw' ut' xs' ys' zs' : Nat → Int32, Good wy un so n (us un (i + 1)) uw' ut' xs' ys' zs' ∧ ∀ K, fX8_layRun_L17 wy un so (nI i) K q (nI v) (nI (us un i + v)) uw ut xs ys zs = K (nI (us un (i + 1))) uw' ut' xs' ys' zs' := by
  have g12 : vp_in (nI i) 12 := vp_in_nI (by omega) (by decide)
  have htot : us un n ≤ 240 := by have := us_le n (fun j hj => (hq j hj).2.1); omega
  have hi1 : us un (i + 1) ≤ us un n := us_mono (by omega)
  obtain ⟨-, ⟨u, hu1, hu2, eu⟩, -⟩ := hq i hi
  have eu' : (un i).toNatClampNeg = u := by rw [eu]; exact tn_nI (by omega)
  intro k
  induction k with
  | zero =>
    intro v q uw ut xs ys zs hv hq' hG
    obtain ⟨q, rfl⟩ : ∃ z, q = z + 1 := ⟨q - 1, by omega⟩
    have e : us un i + v = us un (i + 1) := by rw [us]; omega
    rw [e] at hG ⊢
    refine ⟨uw, ut, xs, ys, zs, hG, fun K => ?_⟩
    rw [fX8_layRun_L17, og_pos g12, tn_nI (show i < 2 ^ 31 by omega), eu, if_pos (nI_le (by omega) (by omega))]
  | succ k ih =>
    intro v q uw ut xs ys zs hv hq' hG
    obtain ⟨q, rfl⟩ : ∃ z, q = z + 1 := ⟨q - 1, by omega⟩
    have hT : us un i + v < us un (i + 1) := by rw [us]; omega
    have gT : vp_in (nI (us un i + v)) 240 := vp_in_nI (by omega) (by decide)
    have gT1 : vp_in (nI (us un i + v)) 241 := vp_in_nI (by omega) (by decide)
    have gT2 : vp_in (nI (us un i + v + 1)) 241 := vp_in_nI (by omega) (by decide)
    have el : lof un n (us un i + v) = i := lof_at (by omega) hi
    obtain ⟨uw', ut', xs', ys', zs', G', E'⟩ := ih (v + 1) q _ _ _ _ _ (by omega) (by omega) (Good_step hG el)
    refine ⟨uw', ut', xs', ys', zs', G', fun K => ?_⟩
    rw [fX8_layRun_L17, og_pos g12, og_pos g12, tn_nI (show i < 2 ^ 31 by omega), if_neg (by rw [eu]; exact lit_le (by omega) (by omega))]
    simp only [olet, og_pos g12, og_pos gT, og_pos gT1, nI_s, og_pos gT2]
    rw [show (if wy i / 2 = 0 then ob (fX8_signOf (wy i)) (fun (r : Int32) => some r) else some 0) = _ from stp_some 0 (wy i), show (if wy i / 2 = 1 then ob (fX8_signOf (wy i)) (fun (r : Int32) => some r) else some 0) = _ from stp_some 1 (wy i), show (if wy i / 2 = 2 then ob (fX8_signOf (wy i)) (fun (r : Int32) => some r) else some 0) = _ from stp_some 2 (wy i)]
    simp only [ob, tn_nI (show us un i + v < 2 ^ 31 by omega), tn_nI (show us un i + v + 1 < 2 ^ 31 by omega)]
    exact E' K
theorem lay_L7 (N : Nat) (hN : 400 ≤ N) {n : Nat} {wy un so : Nat → Int32} (hn : n ≤ 12) (hq : LegOk n wy un so) : ∀ (k i q : Nat) (uw ut xs ys zs : Nat → Int32), i + k = n → k < q → Good wy un so n (us un i) uw ut xs ys zs → ∃ uw' ut' xs' ys' zs' : Nat → Int32, Good wy un so n (us un n) uw' ut' xs' ys' zs' ∧ fX8_layRun_L7 N (nI n) wy un so q (nI i) (nI (us un i)) uw ut xs ys zs = some (nI (us un n), uw', ut', xs', ys', zs') := by
  intro k
  induction k with
  | zero =>
    intro i q uw ut xs ys zs hi hq' hG
    obtain ⟨q, rfl⟩ : ∃ z, q = z + 1 := ⟨q - 1, by omega⟩
    have e : i = n := by omega
    subst e
    exact ⟨uw, ut, xs, ys, zs, hG, by rw [fX8_layRun_L7, if_pos (nI_le (by omega) (by omega))]⟩
  | succ k ih =>
    intro i q uw ut xs ys zs hi hq' hG
    obtain ⟨q, rfl⟩ : ∃ z, q = z + 1 := ⟨q - 1, by omega⟩
    obtain ⟨-, ⟨u, hu1, hu2, eu⟩, -⟩ := hq i (by omega)
    have eu' : (un i).toNatClampNeg = u := by rw [eu]; exact tn_nI (by omega)
    obtain ⟨a, b, c, d, f, G1, E1⟩ := lay_L17 hn hq (show i < n by omega) (un i).toNatClampNeg 0 N uw ut xs ys zs (by omega) (by omega) hG
    obtain ⟨a', b', c', d', f', G2, E2⟩ := ih (i + 1) q a b c d f (by omega) (by omega) G1
    refine ⟨a', b', c', d', f', G2, ?_⟩
    rw [fX8_layRun_L7, if_neg (lit_le (by omega) (by omega))]
    simp only [oj, nI_s]
    rw [show fX8_layRun_L17 wy un so (nI i) _ N 0 (nI (us un i)) uw ut xs ys zs = _ from E1 _]
    exact E2
theorem lay_ok (N : Nat) (hN : 400 ≤ N) {n : Nat} {wy un so : Nat → Int32} (hn : n ≤ 12) (hq : LegOk n wy un so) (un0 : Int32) (uw ut xs ys zs : Nat → Int32) (hx : xs 0 = 0) (hy : ys 0 = 0) (hz : zs 0 = 0) : ∃ uw' ut' xs' ys' zs' : Nat → Int32, fX8_layRun N (nI n) un0 wy un so uw ut xs ys zs = some (nI (us un n), uw', ut', xs', ys', zs') ∧ RLn n (nI n) (nI (us un n)) wy un so uw' ut' xs' ys' zs' := by
  obtain ⟨a, b, c, d, f, G, E⟩ := lay_L7 N hN hn hq n 0 N uw ut xs ys zs (by omega) (by omega) ⟨hx, hy, hz, fun p hp => absurd hp (Nat.not_lt_zero p)⟩
  refine ⟨a, b, c, d, f, E, hn, rfl, rfl, hq, fun i v hi hv => ?_, G.1, G.2.1, G.2.2.1, fun p hp => (G.2.2.2 p hp).2⟩
  have hp : us un i + v < us un n := by
    have := us_mono (un := un) (i := i + 1) (n := n) (by omega)
    rw [us] at this; omega
  have := (G.2.2.2 _ hp).1
  rw [lof_at hv hi] at this
  exact this
theorem us_cong {un un' : Nat → Int32} : ∀ n, (∀ i, i < n → un i = un' i) → us un n = us un' n
  | 0, _ => rfl
  | n + 1, h => by rw [us, us, us_cong n (fun i hi => h i (by omega)), h n (by omega)]
theorem m_leg (N : Nat) (hN : 400 ≤ N) : op_leg N Rel := by
  intro s t hR a1 a2 a3
  obtain ⟨hF, hA, hU, hS, hL, hRr, hT, hC, hY⟩ := id hR
  obtain ⟨l1, l2, l3, l4, l5, qL⟩ := id hL
  have same : ∀ (le ln : Int32) (wy un so uw ut xs ys zs : Nat → Int32), RL_ le ln wy un so uw ut xs ys zs → ∃ (r le' ln' : Int32) (wy' un' so' uw' ut' xs' ys' zs' : Nat → Int32), fX7_leg le ln wy un so a1 a2 a3 = some (r, le', ln', wy', un', so') ∧ fX8_leg N le ln wy un so uw ut xs ys zs a1 a2 a3 = some (r, le', ln', wy', un', so', uw', ut', xs', ys', zs') ∧ RL_ le' ln' wy' un' so' uw' ut' xs' ys' zs' := by
    intro le ln wy un so uw ut xs ys zs hq0
    obtain ⟨n, hn, en, eln, hq, hrow, hx, hy, hz, hst⟩ := id hq0
    by_cases h1 : (0 : Int32) ≤ a1 ∧ a1 ≤ 5
    · by_cases h2 : (1 : Int32) ≤ a2 ∧ a2 ≤ 20
      · by_cases h3 : (0 : Int32) ≤ a3 ∧ a3 ≤ 3
        · by_cases h12 : n = 12
          · have c0 : ¬ nI n < 12 := by rw [h12]; decide
            have c1 : nI n = 12 := by rw [h12]; rfl
            refine ⟨-2, le, ln, wy, un, so, uw, ut, xs, ys, zs, ?_, ?_, hq0⟩
            · simp only [fX7_leg, isWay7, wi7, isStuff7, ob, bz, fX5_legs, en]
              rw [if_neg (not_not_intro h1), if_neg (not_not_intro h2), if_neg (not_not_intro h3), if_neg c0]
            · simp only [fX8_leg, wi8, isStuff8, ob, bz, en]
              rw [if_neg (not_not_intro h1), if_neg (not_not_intro h2), if_neg (not_not_intro h3), if_pos c1]
          · have c0 : nI n < 12 := nI_lt (b := 12) (by omega) (by decide)
            have c1 : ¬ nI n = 12 := by rw [show (12 : Int32) = nI 12 from rfl, nI_eqI (by omega) (by omega)]; exact h12
            have g : vp_in (nI n) 12 := vp_in_nI (by omega) (by decide)
            obtain ⟨w, -, hw, rfl⟩ := nI_rng 0 5 (by decide) (by decide) h1.1 h1.2
            obtain ⟨u, hu1, hu2, rfl⟩ := nI_rng 1 20 (by decide) (by decide) h2.1 h2.2
            obtain ⟨q, -, hq3, rfl⟩ := nI_rng 0 3 (by decide) (by decide) h3.1 h3.2
            have hq' : LegOk (n + 1) (upd wy n (nI w)) (upd un n (nI u)) (upd so n (nI q)) := by
              intro i hi
              simp only [upd_at]
              by_cases c : i = n
              · simp only [c, if_true]; exact ⟨⟨w, by omega, rfl⟩, ⟨u, hu1, hu2, rfl⟩, ⟨q, by omega, rfl⟩⟩
              · simp only [c, if_false]; exact hq i (by omega)
            obtain ⟨uw', ut', xs', ys', zs', E, G⟩ := lay_ok N hN (by omega) hq' ln uw ut xs ys zs hx hy hz
            have eus : us (upd un n (nI u)) (n + 1) = us un n + u := by
              rw [us, us_cong (un := upd un n (nI u)) (un' := un) n (fun i hi => by rw [upd_at, if_neg (by omega)]), upd_at, if_pos rfl, tn_nI (by omega)]
            have el : ln + nI u = nI (us (upd un n (nI u)) (n + 1)) := by rw [eln, nI_add, eus]
            refine ⟨nI (n + 1), nI (n + 1), nI (us (upd un n (nI u)) (n + 1)), upd wy n (nI w), upd un n (nI u), upd so n (nI q), uw', ut', xs', ys', zs', ?_, ?_, n + 1, G⟩
            · simp only [fX7_leg, isWay7, wi7, isStuff7, ob, bz, fX5_legs, en, fX5_append, og_pos g, ob5, nI_s, tn_nI (show n < 2 ^ 31 by omega), el]
              rw [if_neg (not_not_intro h1), if_neg (not_not_intro h2), if_neg (not_not_intro h3), if_pos c0]
            · simp only [fX8_leg, wi8, isStuff8, ob, bz, en, og_pos g, nI_s, tn_nI (show n < 2 ^ 31 by omega), E, ob6]
              rw [if_neg (not_not_intro h1), if_neg (not_not_intro h2), if_neg (not_not_intro h3), if_neg c1]
        · refine ⟨-1, le, ln, wy, un, so, uw, ut, xs, ys, zs, ?_, ?_, hq0⟩
          · simp only [fX7_leg, isWay7, wi7, isStuff7, ob, bz]; rw [if_neg (not_not_intro h1), if_neg (not_not_intro h2), if_pos h3]
          · simp only [fX8_leg, wi8, isStuff8, ob, bz]; rw [if_neg (not_not_intro h1), if_neg (not_not_intro h2), if_pos h3]
      · refine ⟨-1, le, ln, wy, un, so, uw, ut, xs, ys, zs, ?_, ?_, hq0⟩
        · simp only [fX7_leg, isWay7, wi7, ob, bz]; rw [if_neg (not_not_intro h1), if_pos h2]
        · simp only [fX8_leg, wi8, ob, bz]; rw [if_neg (not_not_intro h1), if_pos h2]
    · refine ⟨-1, le, ln, wy, un, so, uw, ut, xs, ys, zs, ?_, ?_, hq0⟩
      · simp only [fX7_leg, isWay7, ob, bz]; rw [if_pos h1]
      · simp only [fX8_leg, wi8, ob, bz]; rw [if_pos h1]
  obtain ⟨r, le', ln', wy', un', so', uw', ut', xs', ys', zs', g1, g2, g3⟩ := same _ _ _ _ _ _ _ _ _ _ qL
  exact ⟨r, le', ln', wy', un', so', le', ln', wy', un', so', uw', ut', xs', ys', zs', g1, by rw [l1, l2, l3, l4, l5]; exact g2, hF, hA, hU, hS, ⟨rfl, rfl, rfl, rfl, rfl, g3⟩, hRr, hT, hC, hY⟩
theorem m_cut (N : Nat) (hN : 400 ≤ N) : op_cut N Rel := by
  intro s t hR
  obtain ⟨hF, hA, hU, hS, hL, hRr, hT, hC, hY⟩ := id hR
  obtain ⟨l1, l2, l3, l4, l5, qL⟩ := id hL
  have same : ∀ (le ln : Int32) (wy un so uw ut xs ys zs : Nat → Int32), RL_ le ln wy un so uw ut xs ys zs → ∃ (r le' ln' : Int32) (uw' ut' xs' ys' zs' : Nat → Int32), fX7_cut le ln un = some (r, le', ln') ∧ fX8_cut N le ln wy un so uw ut xs ys zs = some (r, le', ln', uw', ut', xs', ys', zs') ∧ RL_ le' ln' wy un so uw' ut' xs' ys' zs' := by
    intro le ln wy un so uw ut xs ys zs hq0
    obtain ⟨n, hn, en, eln, hq, hrow, hx, hy, hz, hst⟩ := id hq0
    by_cases h0 : n = 0
    · have c1 : nI n = 0 := by rw [h0]; rfl
      refine ⟨-4, le, ln, uw, ut, xs, ys, zs, ?_, ?_, hq0⟩
      · simp only [fX7_cut, fX5_legs, ob, en]; rw [if_pos c1]
      · simp only [fX8_cut, en]; rw [if_pos c1]
    · have c1 : ¬ nI n = 0 := nI_ne0 (by omega) (by omega)
      obtain ⟨n, rfl⟩ : ∃ z, n = z + 1 := ⟨n - 1, by omega⟩
      have g : vp_in (nI n) 12 := vp_in_nI (by omega) (by decide)
      have hq' : LegOk n wy un so := fun i hi => hq i (by omega)
      obtain ⟨uw', ut', xs', ys', zs', E, G⟩ := lay_ok N hN (show n ≤ 12 by omega) hq' ln uw ut xs ys zs hx hy hz
      obtain ⟨-, ⟨u, hu1, hu2, eu⟩, -⟩ := hq n (by omega)
      have el : nI (us un (n + 1)) - un n = nI (us un n) := by
        rw [us, eu, tn_nI (by omega), pk_sub (by omega)]; congr 1; omega
      refine ⟨nI n, nI n, nI (us un n), uw', ut', xs', ys', zs', ?_, ?_, n, G⟩
      · simp only [fX7_cut, fX5_legs, ob, en, fX5_removeLast, nI_pred, og_pos g, tn_nI (show n < 2 ^ 31 by omega), eln, el, ob2]; rw [if_neg c1]
      · simp only [fX8_cut, en, nI_pred, E, ob6, ob]; rw [if_neg c1]
  obtain ⟨r, le', ln', uw', ut', xs', ys', zs', g1, g2, g3⟩ := same _ _ _ _ _ _ _ _ _ _ qL
  exact ⟨r, le', ln', le', ln', uw', ut', xs', ys', zs', g1, by rw [l1, l2, l3, l4, l5]; exact g2, hF, hA, hU, hS, ⟨rfl, rfl, l3, l4, l5, g3⟩, hRr, hT, hC, hY⟩
