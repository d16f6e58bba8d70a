/-! ===== a new object; lifts ===== -/
theorem ini_L242 (s1 s2 : Nat → Int32) : ∀ (k c q : Nat) (f : Nat → Int32), c + k = 8 → k < q → (f = fun j => if j < c then 1 else z0 j) → fX8_init_L242 s1 s2 q (nI c) f = some (s1, s2, i0_highs) := by
  intro k
  induction k with
  | zero =>
    intro c q f hc hq hf
    obtain ⟨q, rfl⟩ : ∃ z, q = z + 1 := ⟨q - 1, by omega⟩
    have e : c = 8 := by omega
    subst e
    rw [fX8_init_L242, if_pos (show (8 : Int32) ≤ nI 8 from by decide), hf]; rfl
  | succ k ih =>
    intro c q f hc hq hf
    obtain ⟨q, rfl⟩ : ∃ z, q = z + 1 := ⟨q - 1, by omega⟩
    have g : vp_in (nI c) 8 := vp_in_nI (by omega) (by decide)
    rw [fX8_init_L242, if_neg (show ¬ (8 : Int32) ≤ nI c from lit_le (n := 8) (by omega) (by decide)), og_pos g, nI_s, tn_nI (by omega)]
    refine ih (c + 1) q _ (by omega) (by omega) ?_
    rw [hf]
    funext j
    rw [upd_at]
    by_cases e : j = c
    · rw [if_pos e, if_pos (by omega)]
    · rw [if_neg e]
      by_cases e2 : j < c
      · rw [if_pos e2, if_pos (by omega)]
      · rw [if_neg e2, if_neg (by omega)]
theorem ini_L214 (K : (Nat → Int32) → (Nat → Int32) → Option ((Nat → Int32) × (Nat → Int32) × (Nat → Int32))) : ∀ (k c q : Nat) (f g : Nat → Int32), c + k = 4 → k < q → (f = fun j => if j < c then -1 else z0 j) → (g = fun j => if j < c then 10 else z0 j) → fX8_init_L214 K q (nI c) f g = K i6_sizes i6_weights := by
  intro k
  induction k with
  | zero =>
    intro c q f g hc hq hf hg
    obtain ⟨q, rfl⟩ : ∃ z, q = z + 1 := ⟨q - 1, by omega⟩
    have e : c = 4 := by omega
    subst e
    rw [fX8_init_L214, if_pos (show (4 : Int32) ≤ nI 4 from by decide), hf, hg]; rfl
  | succ k ih =>
    intro c q f g hc hq hf hg
    obtain ⟨q, rfl⟩ : ∃ z, q = z + 1 := ⟨q - 1, by omega⟩
    have gg : vp_in (nI c) 4 := vp_in_nI (by omega) (by decide)
    rw [fX8_init_L214, if_neg (show ¬ (4 : Int32) ≤ nI c from lit_le (n := 4) (by omega) (by decide)), og_pos gg, og_pos gg, nI_s, tn_nI (by omega)]
    refine ih (c + 1) q _ _ (by omega) (by omega) ?_ ?_
    · rw [hf]
      funext j
      rw [upd_at]
      by_cases e : j = c
      · rw [if_pos e, if_pos (by omega)]
      · rw [if_neg e]
        by_cases e2 : j < c
        · rw [if_pos e2, if_pos (by omega)]
        · rw [if_neg e2, if_neg (by omega)]
    · rw [hg]
      funext j
      rw [upd_at]
      by_cases e : j = c
      · rw [if_pos e, if_pos (by omega)]
      · rw [if_neg e]
        by_cases e2 : j < c
        · rw [if_pos e2, if_pos (by omega)]
        · rw [if_neg e2, if_neg (by omega)]
theorem m_new (N : Nat) (hN : 400 ≤ N) : op_new N Rel := by
  refine ⟨i6_sizes, i6_weights, i0_highs, ?_, ⟨rfl, rfl⟩, rfl, ⟨rfl, rfl⟩, ⟨rfl, rfl, rfl, ?_⟩, ⟨rfl, rfl, rfl, rfl, rfl, ?_⟩, ⟨rfl, rfl, rfl, rfl, ?_⟩, ⟨rfl, rfl, ?_⟩, ⟨rfl, rfl, rfl, rfl, ?_⟩, ⟨rfl, ?_⟩⟩
  · rw [fX8_init, oj, show fX8_init_L214 _ N 0 z0 z0 = _ from ini_L214 _ 4 0 N z0 z0 (by omega) (by omega) (by funext j; simp) (by funext j; simp)]
    exact ini_L242 _ _ 8 0 N z0 (by omega) (by omega) (by funext j; simp)
  · show RS z0 i6_sizes i6_weights
    refine ⟨fun j hj => ?_, fun j hj => ?_, fun k hk => (show -128 ≤ (0 : Int32).toInt ∧ (0 : Int32).toInt ≤ 127 from by decide)⟩
    · rw [show i6_sizes j = -1 from if_pos hj]; decide
    · rw [show i6_weights j = 10 from if_pos hj]; decide
  · show RL_ 0 0 z0 z0 z0 z0 z0 z0 z0 z0
    exact ⟨0, by omega, rfl, rfl, fun i hi => absurd hi (Nat.not_lt_zero i), fun i v hi => absurd hi (Nat.not_lt_zero i), rfl, rfl, rfl, fun p hp => absurd hp (Nat.not_lt_zero p)⟩
  · show RR_ 0 z0 z0 z0 z0 z0 z0
    exact ⟨0, by omega, rfl, fun i hi => absurd hi (Nat.not_lt_zero i)⟩
  · show RT_ 0 z0
    exact ⟨0, by omega, rfl, fun i hi => absurd hi (Nat.not_lt_zero i)⟩
  · show RC_ z0 z0 i0_highs z0
    refine ⟨fun c hc => ?_, fun _ => 0, fun c hc => ⟨(show 0 < 256 from by decide), rfl⟩, fun c d _ _ => by simp⟩
    rw [show i0_highs c = 1 from if_pos hc]
    exact (show -10000 ≤ (0 : Int32).toInt ∧ (0 : Int32).toInt ≤ 10000 ∧ -9 ≤ (0 : Int32).toInt ∧ (0 : Int32).toInt ≤ 9 ∧ -9 ≤ (1 : Int32).toInt ∧ (1 : Int32).toInt ≤ 9 from by decide)
  · show RY_ 0 0 z0 z0
    exact ⟨0, by omega, rfl, rfl, fun i hi => absurd hi (Nat.not_lt_zero i)⟩
/-! lifts -/
def lifv (ko pl go wy un so by_ sz : Nat → Int32) (ln : Int32) (n r st : Nat) : Int32 := if (go r = 0 ∧ pl r < ln) ∧ ¬ (2 : Int32) ≤ ko r ∧ ¬ ps (hG wy so by_ sz 2 st) un (pl r).toNatClampNeg n ≤ 0 then 1 else 0
theorem lif01 (ko pl go wy un so by_ sz : Nat → Int32) (ln : Int32) (n r st : Nat) : lifv ko pl go wy un so by_ sz ln n r st = 0 ∨ lifv ko pl go wy un so by_ sz ln n r st = 1 := b01 _
theorem lif7 (N : Nat) (hN : 400 ≤ N) {m : Nat} {mad : Int32} {ki pl ra re ko go : Nat → Int32} (hr_ : RRn m mad ki pl ra re ko go) {n : Nat} {le ln : Int32} {wy un so uw ut xs ys zs : Nat → Int32} (hl_ : RLn n le ln wy un so uw ut xs ys zs) (by_ sz : Nat → Int32) {r st : Nat} (hr : r < m) (hs : st < 16) : fX4_isLifted N ki pl le ln wy un so by_ sz (nI r) (nI st) = some (lifv ko pl go wy un so by_ sz ln n r st) := by
  have hm := hr_.1
  have g : vp_in (nI r) 12 := vp_in_nI (by omega) (by decide)
  obtain ⟨-, ⟨P, hP1, hP2, eP⟩, -⟩ := hr_.2.2 r hr
  have gw : fX5_growth N le wy un so by_ sz (nI P) (nI st) 2 = _ := growth7 N hN hl_ by_ sz (show P ≤ 1000 by omega) hs 2
  have n01 : ¬ (1 : Int32) = 0 := by decide
  simp only [fX4_isLifted, pres7 hr_ ln hr, ob, oj, bz, og_pos g, tn_nI (show r < 2 ^ 31 by omega), lifv, eP, tn_nI (show P < 2 ^ 31 by omega), gw]
  by_cases c1 : go r = 0 ∧ nI P < ln
  · obtain ⟨ke, k, hk, ek⟩ := kind_eq hr_ hr c1.1
    rw [if_neg (not_not_intro c1), ke, ek]
    by_cases c2 : (2 : Int32) ≤ nI k
    · have k2 : 2 ≤ k := by rw [leT, nI_T (show k < 2 ^ 31 by omega), show (2 : Int32).toInt = 2 from by decide] at c2; omega
      rw [if_neg (nI_ne0 (by omega) (by omega)), if_neg (show ¬ nI k = 1 from by rw [show (1 : Int32) = nI 1 from rfl, nI_eqI (by omega) (by omega)]; omega)]
      simp only [if_true]
      rw [if_neg (fun z => z.2.1 c2)]
    · have k2 : k = 0 ∨ k = 1 := by rw [leT, nI_T (show k < 2 ^ 31 by omega), show (2 : Int32).toInt = 2 from by decide] at c2; omega
      have e1 : (if nI k = 0 then some (1 : Int32) else if nI k = 1 then some 1 else some 0) = some 1 := by
        rcases k2 with rfl | rfl
        · rfl
        · rfl
      rw [e1]
      simp only [n01, if_false]
      by_cases c3 : ps (hG wy so by_ sz 2 st) un P n ≤ 0
      · rw [if_pos c3, if_neg (fun z => z.2.2 c3)]
      · rw [if_neg c3, if_pos ⟨c1, c2, c3⟩]
  · rw [if_pos c1]
    simp only [if_true]
    rw [if_neg (fun z => c1 z.1)]
theorem lif8 (N : Nat) (hN : 400 ≤ N) {m : Nat} {mad : Int32} {ki pl ra re ko go : Nat → Int32} (hr_ : RRn m mad ki pl ra re ko go) {n : Nat} {le ln : Int32} {wy un so uw ut xs ys zs : Nat → Int32} (hl_ : RLn n le ln wy un so uw ut xs ys zs) (by_ sz : Nat → Int32) {r st : Nat} (hr : r < m) (hs : st < 16) : fX8_isLifted N ln sz by_ uw ut ko pl go (nI r) (nI st) = some (lifv ko pl go wy un so by_ sz ln n r st) := by
  have hm := hr_.1
  have g : vp_in (nI r) 12 := vp_in_nI (by omega) (by decide)
  obtain ⟨-, ⟨P, hP1, hP2, eP⟩, -⟩ := hr_.2.2 r hr
  have gw : fX8_grownTo N ln sz by_ uw ut (nI P) (nI st) 2 = _ := growth8 N hN hl_ by_ sz (show P ≤ 1000 by omega) hs 2
  simp only [fX8_isLifted, pres8 hr_ ln hr, ob, oj, bz, og_pos g, tn_nI (show r < 2 ^ 31 by omega), lifv, eP, tn_nI (show P < 2 ^ 31 by omega), gw]
  by_cases c1 : go r = 0 ∧ nI P < ln
  · rw [if_neg (not_not_intro c1)]
    by_cases c2 : (2 : Int32) ≤ ko r
    · rw [if_pos c2, if_neg (fun z => z.2.1 c2)]
    · rw [if_neg c2]
      by_cases c3 : ps (hG wy so by_ sz 2 st) un P n ≤ 0
      · rw [if_pos c3, if_neg (fun z => z.2.2 c3)]
      · rw [if_neg c3, if_pos ⟨c1, c2, c3⟩]
  · rw [if_pos c1, if_neg (fun z => c1 z.1)]
theorem m_lifts (N : Nat) (hN : 400 ≤ N) : op_lifts N Rel := by
  intro s t hR a1 a2
  obtain ⟨hF, hA, hU, hS, hL, hRr, hT, hC, hY⟩ := id hR
  obtain ⟨e1, e2, e3, e4, m, q⟩ := id hRr
  obtain ⟨l1, l2, l3, l4, l5, n, ql⟩ := id hL
  obtain ⟨s1, s2, s3, qs_⟩ := id hS
  rcases need3 q (pc7_lastFound s) (pc7_found s) a1 (if (0 : Int32) ≤ a2 ∧ a2 ≤ 15 then 1 else 0) with ⟨h7, h8⟩ | ⟨h7, h8⟩ | ⟨r, hr, rfl, hg, g0, h7, h8⟩
  · refine ⟨-1, pc7_lastFound s, pc7_found s, pc7_lastFound s, pc7_found s, ?_, ?_, ⟨rfl, rfl⟩, hA, hU, hS, hL, hRr, hT, hC, hY⟩
    · simp only [fX7_lifts, isStep7, h7, ob3, ob, nm1, if_false]
    · simp only [fX8_lifts, isStep8, e1, hF.1, hF.2, h8, ob3, ob, lm1, if_false]
  · refine ⟨-3, 1, upd (pc7_found s) 1 (pc7_found s 1 + 1), 1, upd (pc7_found s) 1 (pc7_found s 1 + 1), ?_, ?_, ⟨rfl, rfl⟩, hA, hU, hS, hL, hRr, hT, hC, hY⟩
    · simp only [fX7_lifts, isStep7, h7, ob3, ob, nm3, if_false]
    · simp only [fX8_lifts, isStep8, e1, hF.1, hF.2, h8, ob3, ob, lm3, if_false]
  · have hst : (0 : Int32) ≤ a2 ∧ a2 ≤ 15 := Classical.byContradiction fun c => hg (by rw [if_neg c])
    obtain ⟨st, -, hst2, rfl⟩ := nI_rng 0 15 (by decide) (by decide) hst.1 hst.2
    have u7 := lif7 N hN q ql (pc6_bytes s) (pc6_sizes s) hr (show st < 16 by omega)
    have u8 := lif8 N hN q ql (pc6_bytes s) (pc6_sizes s) hr (show st < 16 by omega)
    generalize lifv (pc8_kindOf t) (pc4_places s) (pc8_isGone t) (pc5_ways s) (pc5_units s) (pc5_stuffOf s) (pc6_bytes s) (pc6_sizes s) (pc5_length s) n r st = v at u7 u8
    refine ⟨if v = 0 then 0 else 1, pc7_lastFound s, pc7_found s, pc7_lastFound s, pc7_found s, ?_, ?_, ⟨rfl, rfl⟩, hA, hU, hS, hL, hRr, hT, hC, hY⟩
    · simp only [fX7_lifts, isStep7, h7, ob3, ob, if_true, u7]
      by_cases c : v = 0
      · rw [if_pos c, if_pos c]
      · rw [if_neg c, if_neg c]
    · simp only [fX8_lifts, isStep8, e1, e2, l2, s1, s2, hF.1, hF.2, h8, ob3, ob, l00, if_true, u8]
      by_cases c : v = 0
      · rw [if_pos c, if_pos c]
      · rw [if_neg c, if_neg c]
