/-! ===== digest ===== -/
theorem dg_count (N : Nat) (hN : 400 ≤ N) {n : Nat} {mad : Int32} {ki pl ra re ko go : Nat → Int32} (h : RRn n mad ki pl ra re ko go) (le ln sz li : Int32) : ∀ (k c q q' : Nat) (x : Int64), c + k = 6 → k < q → k < q' → ∃ v : Int64, (∀ K, fX7_digest_L6 N mad ki le ln sz li K q x (nI c) = K v) ∧ ∀ K, fX8_digest_L6 N le ln mad sz li go K q' x (nI c) = K v := by
  intro k
  induction k with
  | zero =>
    intro c q q' x hc hq hq'
    obtain ⟨q, rfl⟩ : ∃ z, q = z + 1 := ⟨q - 1, by omega⟩
    obtain ⟨q', rfl⟩ : ∃ z, q' = z + 1 := ⟨q' - 1, by omega⟩
    have e : c = 6 := by omega
    subst e
    exact ⟨x, fun K => by rw [fX7_digest_L6, if_pos (show (5 : Int32) < nI 6 from by decide)], fun K => by rw [fX8_digest_L6, if_pos (show (6 : Int32) ≤ nI 6 from by decide)]⟩
  | succ k ih =>
    intro c q q' x hc hq hq'
    obtain ⟨q, rfl⟩ : ∃ z, q = z + 1 := ⟨q - 1, by omega⟩
    obtain ⟨q', rfl⟩ : ∃ z, q' = z + 1 := ⟨q' - 1, by omega⟩
    obtain ⟨u, u7, u8⟩ := count_eq N hN h le ln sz li (nI c)
    obtain ⟨v, v7, v8⟩ := ih (c + 1) q q' (31 * x + Int32.toInt64 u) (by omega) (by omega) (by omega)
    refine ⟨v, fun K => ?_, fun K => ?_⟩
    · rw [fX7_digest_L6, if_neg (show ¬ (5 : Int32) < nI c from nI_nlt (a := 5) (by omega) (by omega)), u7]
      simp only [ob, olet, nI_s]
      exact v7 K
    · rw [fX8_digest_L6, if_neg (show ¬ (6 : Int32) ≤ nI c from lit_le (n := 6) (by omega) (by decide)), u8]
      simp only [ob, olet, nI_s]
      exact v8 K
theorem dg_legs {n : Nat} (hn : n ≤ 12) (wy un so : Nat → Int32) : ∀ (k c q q' : Nat) (x : Int64), c + k = n → k < q → k < q' → ∃ v : Int64, fX5_mixInto_L2 (nI n) wy un so q x (nI c) = some v ∧ ∀ K, fX8_digest_L33 (nI n) wy un so K q' x (nI c) = K v := by
  intro k
  induction k with
  | zero =>
    intro c q q' x hc hq hq'
    obtain ⟨q, rfl⟩ : ∃ z, q = z + 1 := ⟨q - 1, by omega⟩
    obtain ⟨q', rfl⟩ : ∃ z, q' = z + 1 := ⟨q' - 1, by omega⟩
    exact ⟨x, by rw [fX5_mixInto_L2, if_pos (nI_le (by omega) (by omega))], fun K => by rw [fX8_digest_L33, if_pos (nI_le (by omega) (by omega))]⟩
  | succ k ih =>
    intro c q q' x hc hq hq'
    obtain ⟨q, rfl⟩ : ∃ z, q = z + 1 := ⟨q - 1, by omega⟩
    obtain ⟨q', rfl⟩ : ∃ z, q' = z + 1 := ⟨q' - 1, by omega⟩
    have g : vp_in (nI c) 12 := vp_in_nI (by omega) (by decide)
    obtain ⟨v, v7, v8⟩ := ih (c + 1) q q' (31 * (31 * (31 * x + Int32.toInt64 (wy c)) + Int32.toInt64 (un c)) + Int32.toInt64 (so c)) (by omega) (by omega) (by omega)
    refine ⟨v, ?_, fun K => ?_⟩
    · rw [fX5_mixInto_L2, if_neg (lit_le (by omega) (by omega))]
      simp only [og_pos g, olet, nI_s, tn_nI (show c < 2 ^ 31 by omega)]
      exact v7
    · rw [fX8_digest_L33, if_neg (lit_le (by omega) (by omega))]
      simp only [og_pos g, olet, nI_s, tn_nI (show c < 2 ^ 31 by omega)]
      exact v8 K
theorem dg_told {n : Nat} {mad : Int32} {ki pl ra re ko go : Nat → Int32} (h : RRn n mad ki pl ra re ko go) (ln : Int32) {r : Nat} (hr : r < n) (g0 : go r = 0) : ∀ (k c q q' : Nat) (x : Int64), c + k = 4 → k < q → k < q' → ∃ v : Int64, (∀ K, fX4_mixInto_L32 ki pl ra ln (nI r) K q x (nI c) = K v) ∧ ∀ K, fX8_digest_L119 ln ko pl ra go (nI r) K q' x (nI c) = K v := by
  have hn := h.1
  have gr : vp_in (nI r) 12 := vp_in_nI (by omega) (by decide)
  intro k
  induction k with
  | zero =>
    intro c q q' x hc hq hq'
    obtain ⟨q, rfl⟩ : ∃ z, q = z + 1 := ⟨q - 1, by omega⟩
    obtain ⟨q', rfl⟩ : ∃ z, q' = z + 1 := ⟨q' - 1, by omega⟩
    have e : c = 4 := by omega
    subst e
    exact ⟨x, fun K => by rw [fX4_mixInto_L32, if_pos (show (3 : Int32) < nI 4 from by decide)], fun K => by rw [fX8_digest_L119, if_pos (show (4 : Int32) ≤ nI 4 from by decide)]⟩
  | succ k ih =>
    intro c q q' x hc hq hq'
    obtain ⟨q, rfl⟩ : ∃ z, q = z + 1 := ⟨q - 1, by omega⟩
    obtain ⟨q', rfl⟩ : ∃ z, q' = z + 1 := ⟨q' - 1, by omega⟩
    obtain ⟨u, u7, u8⟩ := tell_eq h ln hr g0 (nI c)
    obtain ⟨v, v7, v8⟩ := ih (c + 1) q q' (31 * x + Int32.toInt64 u) (by omega) (by omega) (by omega)
    refine ⟨v, fun K => ?_, fun K => ?_⟩
    · rw [fX4_mixInto_L32, if_neg (show ¬ (3 : Int32) < nI c from nI_nlt (a := 3) (by omega) (by omega)), u7]
      simp only [ob, olet, nI_s]
      exact v7 K
    · rw [fX8_digest_L119, if_neg (show ¬ (4 : Int32) ≤ nI c from lit_le (n := 4) (by omega) (by decide)), og_pos gr, tn_nI (show r < 2 ^ 31 by omega), if_pos g0, u8]
      simp only [ob, olet, nI_s]
      exact v8 K
theorem dg_rests (N : Nat) (hN : 400 ≤ N) {n : Nat} {mad : Int32} {ki pl ra re ko go : Nat → Int32} (h : RRn n mad ki pl ra re ko go) (ln : Int32) : ∀ (k c q q' : Nat) (x : Int64), c + k = n → k < q → k < q' → ∃ v : Int64, fX4_mixInto_L2 N mad ki pl ra re ln q x (nI c) = some v ∧ ∀ K, fX8_digest_L87 N ln mad ko pl ra re go K q' x (nI c) = K v := by
  have hn := h.1
  have en := h.2.1
  intro k
  induction k with
  | zero =>
    intro c q q' x hc hq hq'
    obtain ⟨q, rfl⟩ : ∃ z, q = z + 1 := ⟨q - 1, by omega⟩
    obtain ⟨q', rfl⟩ : ∃ z, q' = z + 1 := ⟨q' - 1, by omega⟩
    have hc' : mad ≤ nI c := by rw [en]; exact nI_le (by omega) (by omega)
    exact ⟨x, by rw [fX4_mixInto_L2, if_pos hc'], fun K => by rw [fX8_digest_L87, if_pos hc']⟩
  | succ k ih =>
    intro c q q' x hc hq hq'
    obtain ⟨q, rfl⟩ : ∃ z, q = z + 1 := ⟨q - 1, by omega⟩
    obtain ⟨q', rfl⟩ : ∃ z, q' = z + 1 := ⟨q' - 1, by omega⟩
    have hr : c < n := by omega
    have hc' : ¬ mad ≤ nI c := by rw [en]; exact lit_le (by omega) (by omega)
    have g : vp_in (nI c) 12 := vp_in_nI (by omega) (by decide)
    by_cases g0 : go c = 0
    · obtain ⟨y, y7, y8⟩ := dg_told h ln hr g0 4 0 N N x (by omega) (by omega) (by omega)
      obtain ⟨v, v7, v8⟩ := ih (c + 1) q q' (31 * y + Int32.toInt64 (re c)) (by omega) (by omega) (by omega)
      refine ⟨v, ?_, fun K => ?_⟩
      · rw [fX4_mixInto_L2, if_neg hc', gone7 h hr, if_pos g0]
        simp only [ob, oj, if_true]
        rw [show fX4_mixInto_L32 ki pl ra ln (nI c) _ N x 0 = _ from y7 _]
        simp only [og_pos g, olet, nI_s, tn_nI (show c < 2 ^ 31 by omega)]
        exact v7
      · rw [fX8_digest_L87, if_neg hc', og_pos g, tn_nI (show c < 2 ^ 31 by omega), if_pos g0]
        simp only [ob, oj, og_pos g]
        rw [show fX8_digest_L119 ln ko pl ra go (nI c) _ N x 0 = _ from y8 _]
        rw [if_pos g0]
        simp only [nI_s]
        exact v8 K
    · obtain ⟨v, v7, v8⟩ := ih (c + 1) q q' (31 * x - 1) (by omega) (by omega) (by omega)
      refine ⟨v, ?_, fun K => ?_⟩
      · rw [fX4_mixInto_L2, if_neg hc', gone7 h hr, if_neg g0]
        simp only [ob, oj]
        rw [if_neg (by decide)]
        simp only [olet, nI_s]
        exact v7
      · rw [fX8_digest_L87, if_neg hc', og_pos g, tn_nI (show c < 2 ^ 31 by omega), if_neg g0]
        simp only [ob, oj, og_pos g]
        obtain ⟨N, rfl⟩ : ∃ z, N = z + 1 := ⟨N - 1, by omega⟩
        rw [fX8_digest_L119, if_neg (by decide), og_pos g, tn_nI (show c < 2 ^ 31 by omega), if_neg g0, if_neg g0]
        simp only [nI_s]
        exact v8 K
theorem dg_cases (am lo hi : Nat → Int32) : ∀ (k c q q' : Nat) (x : Int64), c + k = 8 → k < q → k < q' → ∃ v : Int64, fX0_mixInto_L2 am lo hi q x (nI c) = some v ∧ ∀ K, fX8_digest_L190 am lo hi K q' x (nI c) = K v := by
  intro k
  induction k with
  | zero =>
    intro c q q' x hc hq hq'
    obtain ⟨q, rfl⟩ : ∃ z, q = z + 1 := ⟨q - 1, by omega⟩
    obtain ⟨q', rfl⟩ : ∃ z, q' = z + 1 := ⟨q' - 1, by omega⟩
    have e : c = 8 := by omega
    subst e
    exact ⟨x, by rw [fX0_mixInto_L2, if_pos (show (8 : Int32) ≤ nI 8 from by decide)], fun K => by rw [fX8_digest_L190, if_pos (show (8 : Int32) ≤ nI 8 from by decide)]⟩
  | succ k ih =>
    intro c q q' x hc hq hq'
    obtain ⟨q, rfl⟩ : ∃ z, q = z + 1 := ⟨q - 1, by omega⟩
    obtain ⟨q', rfl⟩ : ∃ z, q' = z + 1 := ⟨q' - 1, by omega⟩
    have g : vp_in (nI c) 8 := vp_in_nI (by omega) (by decide)
    have hc' : ¬ (8 : Int32) ≤ nI c := lit_le (n := 8) (by omega) (by decide)
    obtain ⟨v, v7, v8⟩ := ih (c + 1) q q' (31 * (31 * (31 * x + Int32.toInt64 (am c)) + Int32.toInt64 (lo c)) + Int32.toInt64 (hi c)) (by omega) (by omega) (by omega)
    refine ⟨v, ?_, fun K => ?_⟩
    · rw [fX0_mixInto_L2, if_neg hc']
      simp only [og_pos g, olet, nI_s, tn_nI (show c < 2 ^ 31 by omega)]
      exact v7
    · rw [fX8_digest_L190, if_neg hc']
      simp only [og_pos g, olet, nI_s, tn_nI (show c < 2 ^ 31 by omega)]
      exact v8 K
theorem sz_le {x : Int32} (h1 : -1 ≤ x.toInt) (h2 : x.toInt ≤ 16) : ∃ z : Nat, z ≤ 16 ∧ ∀ i : Nat, i < 2 ^ 31 → ((x ≤ nI i) ↔ z ≤ i) := by
  refine ⟨x.toInt.toNat, by omega, fun i hi => ?_⟩
  rw [leT, nI_T hi]; omega
theorem dg_bytes' {j : Nat} (hj : j < 4) (f sz : Nat → Int32) (h1 : -1 ≤ (sz j).toInt) (h2 : (sz j).toInt ≤ 16) (N : Nat) (hN : 400 ≤ N) (x : Int64) : ∃ v : Int64, (∀ K, fX6_mixInto_L38 f sz (nI j) K N x 0 = K v) ∧ ∀ K, fX8_digest_L276 sz f (nI j) K N x 0 = K v := by
  have g4 : vp_in (nI j) 4 := vp_in_nI hj (by decide)
  obtain ⟨z, hz, ez⟩ := sz_le h1 h2
  have main : ∀ (k c q q' : Nat) (x : Int64), c + k = z → k < q → k < q' → ∃ v : Int64, (∀ K, fX6_mixInto_L38 f sz (nI j) K q x (nI c) = K v) ∧ ∀ K, fX8_digest_L276 sz f (nI j) K q' x (nI c) = K v := by
    intro k
    induction k with
    | zero =>
      intro c q q' x hc hq hq'
      obtain ⟨q, rfl⟩ : ∃ z, q = z + 1 := ⟨q - 1, by omega⟩
      obtain ⟨q', rfl⟩ : ∃ z, q' = z + 1 := ⟨q' - 1, by omega⟩
      have hc' : sz j ≤ nI c := (ez c (by omega)).mpr (by omega)
      exact ⟨x, fun K => by rw [fX6_mixInto_L38, og_pos g4, tn_nI (by omega), if_pos hc'], fun K => by rw [fX8_digest_L276, og_pos g4, tn_nI (by omega), if_pos hc']⟩
    | succ k ih =>
      intro c q q' x hc hq hq'
      obtain ⟨q, rfl⟩ : ∃ z, q = z + 1 := ⟨q - 1, by omega⟩
      obtain ⟨q', rfl⟩ : ∃ z, q' = z + 1 := ⟨q' - 1, by omega⟩
      have hc' : ¬ sz j ≤ nI c := fun q => by have := (ez c (by omega)).mp q; omega
      have g : vp_in (nI (16 * j + c)) 64 := vp_in_nI (by omega) (by decide)
      obtain ⟨v, v7, v8⟩ := ih (c + 1) q q' (31 * x + Int32.toInt64 (f (16 * j + c))) (by omega) (by omega) (by omega)
      refine ⟨v, fun K => ?_, fun K => ?_⟩
      · rw [fX6_mixInto_L38, og_pos g4, tn_nI (n := j) (by omega), if_neg hc', idx7, og_pos g, olet, nI_s, tn_nI (by omega)]
        exact v7 K
      · rw [fX8_digest_L276, og_pos g4, tn_nI (n := j) (by omega), if_neg hc', idx8, og_pos g, olet, nI_s, tn_nI (by omega)]
        exact v8 K
  exact main z 0 N N x (by omega) (by omega) (by omega)
theorem dg_stuffs (N : Nat) (hN : 400 ≤ N) {by_ sz we : Nat → Int32} (h : RS by_ sz we) : ∀ (k c q q' : Nat) (x : Int64), c + k = 4 → k < q → k < q' → ∃ v : Int64, fX6_mixInto_L2 N by_ sz we q x (nI c) = some v ∧ fX8_digest_L242 N sz we by_ q' x (nI c) = some v := by
  intro k
  induction k with
  | zero =>
    intro c q q' x hc hq hq'
    obtain ⟨q, rfl⟩ : ∃ z, q = z + 1 := ⟨q - 1, by omega⟩
    obtain ⟨q', rfl⟩ : ∃ z, q' = z + 1 := ⟨q' - 1, by omega⟩
    have e : c = 4 := by omega
    subst e
    exact ⟨x, by rw [fX6_mixInto_L2, if_pos (show (4 : Int32) ≤ nI 4 from by decide)], by rw [fX8_digest_L242, if_pos (show (4 : Int32) ≤ nI 4 from by decide)]⟩
  | succ k ih =>
    intro c q q' x hc hq hq'
    obtain ⟨q, rfl⟩ : ∃ z, q = z + 1 := ⟨q - 1, by omega⟩
    obtain ⟨q', rfl⟩ : ∃ z, q' = z + 1 := ⟨q' - 1, by omega⟩
    have hj : c < 4 := by omega
    have g : vp_in (nI c) 4 := vp_in_nI hj (by decide)
    have hc' : ¬ (4 : Int32) ≤ nI c := lit_le (n := 4) (by omega) (by decide)
    obtain ⟨y, y7, y8⟩ := dg_bytes' hj by_ sz (h.1 c hj).1 (h.1 c hj).2 N hN (31 * (31 * x + Int32.toInt64 (we c)) + Int32.toInt64 (sz c))
    obtain ⟨v, v7, v8⟩ := ih (c + 1) q q' y (by omega) (by omega) (by omega)
    refine ⟨v, ?_, ?_⟩
    · rw [fX6_mixInto_L2, if_neg hc']
      simp only [og_pos g, olet, oj, nI_s, tn_nI (show c < 2 ^ 31 by omega)]
      rw [y7]; exact v7
    · rw [fX8_digest_L242, if_neg hc']
      simp only [og_pos g, olet, oj, nI_s, tn_nI (show c < 2 ^ 31 by omega)]
      rw [y8]; exact v8
theorem m_digest (N : Nat) (hN : 400 ≤ N) : op_digest N Rel := by
  intro s t hR
  obtain ⟨hF, hA, hU, hS, hL, hRr, hT, hC, hY⟩ := id hR
  obtain ⟨e1, e2, e3, e4, n, q⟩ := id hRr
  obtain ⟨l1, l2, l3, l4, l5, nl, ql⟩ := id hL
  obtain ⟨c1, c2, c3, c4, qc⟩ := id hC
  obtain ⟨s1, s2, s3, qs⟩ := id hS
  have hn := q.1
  have hnl := ql.1
  obtain ⟨v1, a7, a8⟩ := dg_count N hN q (pc5_legs s) (pc5_length s) (pc3_size s) (pc1_lines s) 6 0 N N 17 (by omega) (by omega) (by omega)
  obtain ⟨v2, b7, b8⟩ := dg_legs hnl (pc5_ways s) (pc5_units s) (pc5_stuffOf s) nl 0 N N v1 (by omega) (by omega) (by omega)
  obtain ⟨v3, d7, d8⟩ := dg_rests N hN q (pc5_length s) n 0 N N v2 (by omega) (by omega) (by omega)
  obtain ⟨v4, f7, f8⟩ := dg_cases (pc0_amounts s) (pc0_lows s) (pc0_highs s) 8 0 N N v3 (by omega) (by omega) (by omega)
  obtain ⟨v5, g7, g8⟩ := dg_stuffs N hN qs 4 0 N N v4 (by omega) (by omega) (by omega)
  have el : pc5_legs s = nI nl := ql.2.1
  refine ⟨v5, ?_, ?_, hR⟩
  · simp only [fX7_digest, oj]
    rw [show fX7_digest_L6 N (pc4_made s) (pc4_kinds s) (pc5_legs s) (pc5_length s) (pc3_size s) (pc1_lines s) _ N 17 0 = _ from a7 _]
    simp only [fX5_mixInto, fX4_mixInto, fX0_mixInto, fX6_mixInto]
    rw [el, show fX5_mixInto_L2 (nI nl) (pc5_ways s) (pc5_units s) (pc5_stuffOf s) N v1 0 = _ from b7]
    simp only [ob]
    rw [show fX4_mixInto_L2 N (pc4_made s) (pc4_kinds s) (pc4_places s) (pc4_rates s) (pc4_readings s) (pc5_length s) N v2 0 = _ from d7]
    simp only []
    rw [show fX0_mixInto_L2 (pc0_amounts s) (pc0_lows s) (pc0_highs s) N v3 0 = _ from f7]
    simp only []
    rw [show fX6_mixInto_L2 N (pc6_bytes s) (pc6_sizes s) (pc6_weights s) N v4 0 = _ from g7]
  · simp only [fX8_digest, oj, l1, l2, l3, l4, l5, e1, e2, e3, e4, c1, c2, c3, s1, s2, s3, hT.1, hY.1]
    rw [show fX8_digest_L6 N (pc5_legs s) (pc5_length s) (pc4_made s) (pc3_size s) (pc1_lines s) (pc8_isGone t) _ N 17 0 = _ from a8 _, el,
      show fX8_digest_L33 (nI nl) (pc5_ways s) (pc5_units s) (pc5_stuffOf s) _ N v1 0 = _ from b8 _,
      show fX8_digest_L87 N (pc5_length s) (pc4_made s) (pc8_kindOf t) (pc4_places s) (pc4_rates s) (pc4_readings s) (pc8_isGone t) _ N v2 0 = _ from d8 _,
      show fX8_digest_L190 (pc0_amounts s) (pc0_lows s) (pc0_highs s) _ N v3 0 = _ from f8 _]
    exact g8
