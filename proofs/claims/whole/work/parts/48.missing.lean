/-! ===== missing ===== -/
theorem isRead7 {n : Nat} {mad : Int32} {ki pl ra re ko go : Nat → Int32} (h : RRn n mad ki pl ra re ko go) {r : Nat} (hr : r < n) : fX4_isRead ki re (nI r) = some (if go r = 0 ∧ ¬ re r = -9 then 1 else 0) := by
  have hn := h.1
  have g : vp_in (nI r) 12 := vp_in_nI (by omega) (by decide)
  have n10 : ¬ (1 : Int32) = 0 := by decide
  simp only [fX4_isRead, gone7 h hr, ob, oj, og_pos g, tn_nI (show r < 2 ^ 31 by omega)]
  by_cases c1 : go r = 0
  · rw [if_pos c1, if_pos rfl]
    by_cases c2 : re r = -9
    · rw [if_pos c2, if_neg (fun z => z.2 c2)]
    · rw [if_neg c2, if_pos ⟨c1, c2⟩]
  · rw [if_neg c1, if_neg n10, if_neg (fun z => c1 z.1)]
theorem has8_1 {m : Nat} (hm : m ≤ 12) (re go : Nat → Int32) : ∀ (k c q : Nat), c + k = m → k < q → ∀ K, fX8_missing_L13 (nI m) re go K q 1 (nI c) = K 1 := by
  have n10 : ¬ (1 : Int32) = 0 := by decide
  intro k
  induction k with
  | zero =>
    intro c q hc hq K
    obtain ⟨q, rfl⟩ : ∃ z, q = z + 1 := ⟨q - 1, by omega⟩
    rw [fX8_missing_L13, if_pos (nI_le (by omega) (by omega))]
  | succ k ih =>
    intro c q hc hq K
    obtain ⟨q, rfl⟩ : ∃ z, q = z + 1 := ⟨q - 1, by omega⟩
    rw [fX8_missing_L13, if_neg (lit_le (by omega) (by omega))]
    simp only [oj, n10, if_false, ob, nI_s]
    exact ih (c + 1) q (by omega) (by omega) K
theorem has_eq {m : Nat} {mad : Int32} {ki pl ra re ko go : Nat → Int32} (h : RRn m mad ki pl ra re ko go) : ∀ (k c q q' : Nat), c + k = m → k < q → k < q' → ∃ v : Int32, fX4_hasReading_L2 (nI m) ki re q (nI c) = some v ∧ ∀ K, fX8_missing_L13 (nI m) re go K q' 0 (nI c) = K v := by
  have hm := h.1
  have n10 : ¬ (1 : Int32) = 0 := by decide
  intro k
  induction k with
  | zero =>
    intro c q q' hc hq hq'
    obtain ⟨q, rfl⟩ : ∃ z, q = z + 1 := ⟨q - 1, by omega⟩
    obtain ⟨q', rfl⟩ : ∃ z, q' = z + 1 := ⟨q' - 1, by omega⟩
    exact ⟨0, by rw [fX4_hasReading_L2, if_pos (nI_le (by omega) (by omega))], fun K => by rw [fX8_missing_L13, if_pos (nI_le (by omega) (by omega))]⟩
  | succ k ih =>
    intro c q q' hc hq hq'
    obtain ⟨q, rfl⟩ : ∃ z, q = z + 1 := ⟨q - 1, by omega⟩
    obtain ⟨q', rfl⟩ : ∃ z, q' = z + 1 := ⟨q' - 1, by omega⟩
    have hcm : c < m := by omega
    have g : vp_in (nI c) 12 := vp_in_nI (by omega) (by decide)
    by_cases c1 : go c = 0 ∧ ¬ re c = -9
    · refine ⟨1, ?_, fun K => ?_⟩
      · rw [fX4_hasReading_L2, if_neg (lit_le (by omega) (by omega)), isRead7 h hcm, if_pos c1]
        simp only [ob, n10, if_false]
      · rw [fX8_missing_L13, if_neg (lit_le (by omega) (by omega))]
        simp only [oj, if_true, og_pos g, tn_nI (show c < 2 ^ 31 by omega)]
        rw [if_pos c1.1, if_neg c1.2]
        simp only [ob, nI_s]
        exact has8_1 hm re go k (c + 1) q' (by omega) (by omega) K
    · obtain ⟨v, i7, i8⟩ := ih (c + 1) q q' (by omega) (by omega) (by omega)
      refine ⟨v, ?_, fun K => ?_⟩
      · rw [fX4_hasReading_L2, if_neg (lit_le (by omega) (by omega)), isRead7 h hcm, if_neg c1]
        simp only [ob, if_true, nI_s]
        exact i7
      · rw [fX8_missing_L13, if_neg (lit_le (by omega) (by omega))]
        simp only [oj, if_true, og_pos g, tn_nI (show c < 2 ^ 31 by omega), nI_s]
        by_cases c2 : go c = 0
        · rw [if_pos c2]
          by_cases c3 : re c = -9
          · rw [if_pos c3]; exact i8 K
          · exact absurd ⟨c2, c3⟩ c1
        · rw [if_neg c2]; exact i8 K
theorem dif_L (N : Nat) (hN : 400 ≤ N) {m : Nat} {mad : Int32} {ki pl ra re ko go : Nat → Int32} (hr_ : RRn m mad ki pl ra re ko go) {n : Nat} {le ln : Int32} {wy un so uw ut xs ys zs : Nat → Int32} (hl_ : RLn n le ln wy un so uw ut xs ys zs) {by_ sz we be : Nat → Int32} (hS : RS by_ sz we) {st : Nat} (hs : st < 16) (hbe : ∀ c, c < m → be c = bv ko pl go wy un so by_ sz ln n c st) (wo : Int32) : ∀ (k c q q' : Nat) (x : Int32), c + k = m → k < q → k < q' → ∃ x' : Int32, fX4_differenceWithout_L4 N mad ki pl re be le ln un so we wo q x (nI c) = some x' ∧ fX8_differs_L5 N ln mad sz we by_ uw ut ko pl re go (nI st) wo q' x (nI c) = some x' := by
  have hm := hr_.1
  have em := hr_.2.1
  have n10 : ¬ (1 : Int32) = 0 := by decide
  intro k
  induction k with
  | zero =>
    intro c q q' x hc hq hq'
    obtain ⟨q, rfl⟩ : ∃ z, q = z + 1 := ⟨q - 1, by omega⟩
    obtain ⟨q', rfl⟩ : ∃ z, q' = z + 1 := ⟨q' - 1, by omega⟩
    exact ⟨x, by rw [fX4_differenceWithout_L4, if_pos (by rw [em]; exact nI_le (by omega) (by omega))], by rw [fX8_differs_L5, if_pos (by rw [em]; exact nI_le (by omega) (by omega))]⟩
  | succ k ih =>
    intro c q q' x hc hq hq'
    obtain ⟨q, rfl⟩ : ∃ z, q = z + 1 := ⟨q - 1, by omega⟩
    obtain ⟨q', rfl⟩ : ∃ z, q' = z + 1 := ⟨q' - 1, by omega⟩
    have hcm : c < m := by omega
    have g : vp_in (nI c) 12 := vp_in_nI (by omega) (by decide)
    have nn : ¬ mad ≤ nI c := by rw [em]; exact lit_le (by omega) (by omega)
    by_cases c1 : go c = 0
    · by_cases c2 : re c = -9
      · obtain ⟨x', i7, i8⟩ := ih (c + 1) q q' x (by omega) (by omega) (by omega)
        refine ⟨x', ?_, ?_⟩
        · rw [fX4_differenceWithout_L4, if_neg nn, isRead7 hr_ hcm, if_neg (fun z => z.2 c2)]
          simp only [ob, if_true, nI_s]
          exact i7
        · rw [fX8_differs_L5, if_neg nn]
          simp only [og_pos g, tn_nI (show c < 2 ^ 31 by omega), nI_s]
          rw [if_pos c1, if_pos c2, ite_some, show (if nI c = wo then x else x) = x from ite_self _]
          exact i8
      · by_cases c3 : nI c = wo
        · obtain ⟨x', i7, i8⟩ := ih (c + 1) q q' x (by omega) (by omega) (by omega)
          refine ⟨x', ?_, ?_⟩
          · rw [fX4_differenceWithout_L4, if_neg nn, isRead7 hr_ hcm, if_pos ⟨c1, c2⟩]
            simp only [ob, n10, if_false, nI_s]
            rw [if_pos c3]
            exact i7
          · rw [fX8_differs_L5, if_neg nn]
            simp only [og_pos g, tn_nI (show c < 2 ^ 31 by omega), nI_s]
            rw [if_pos c1, if_pos c3]
            exact i8
        · obtain ⟨v, hv, t7, t8⟩ := twice_eq N hN hr_ hl_ hS hcm hs hbe c3
          obtain ⟨x', i7, i8⟩ := ih (c + 1) q q' (x + if 0 ≤ nI v - re c then nI v - re c else 0 - (nI v - re c)) (by omega) (by omega) (by omega)
          refine ⟨x', ?_, ?_⟩
          · rw [fX4_differenceWithout_L4, if_neg nn, isRead7 hr_ hcm, if_pos ⟨c1, c2⟩]
            simp only [ob, n10, if_false, nI_s, t7, og_pos g, olet, tn_nI (show c < 2 ^ 31 by omega)]
            rw [if_neg c3]
            exact i7
          · rw [fX8_differs_L5, if_neg nn]
            simp only [og_pos g, tn_nI (show c < 2 ^ 31 by omega), nI_s, t8, ob, olet]
            rw [if_pos c1, if_neg c3, if_neg c2, ite_some, ← Int32.zero_sub]
            exact i8
    · obtain ⟨x', i7, i8⟩ := ih (c + 1) q q' x (by omega) (by omega) (by omega)
      refine ⟨x', ?_, ?_⟩
      · rw [fX4_differenceWithout_L4, if_neg nn, isRead7 hr_ hcm, if_neg (fun z => c1 z.1)]
        simp only [ob, if_true, nI_s]
        exact i7
      · rw [fX8_differs_L5, if_neg nn]
        simp only [og_pos g, tn_nI (show c < 2 ^ 31 by omega), nI_s]
        rw [if_neg c1]
        exact i8
theorem dif_eq (N : Nat) (hN : 400 ≤ N) {m : Nat} {mad : Int32} {ki pl ra re ko go : Nat → Int32} (hr_ : RRn m mad ki pl ra re ko go) {n : Nat} {le ln : Int32} {wy un so uw ut xs ys zs : Nat → Int32} (hl_ : RLn n le ln wy un so uw ut xs ys zs) {by_ sz we be : Nat → Int32} (hS : RS by_ sz we) {st : Nat} (hs : st < 16) (hbe : ∀ c, c < m → be c = bv ko pl go wy un so by_ sz ln n c st) (wo : Int32) : ∃ x' : Int32, fX4_differenceWithout N mad ki pl re be le ln un so we wo = some x' ∧ fX8_differs N ln mad sz we by_ uw ut ko pl re go (nI st) wo = some x' := by
  have hm := hr_.1
  obtain ⟨x', i7, i8⟩ := dif_L N hN hr_ hl_ hS hs hbe wo m 0 N N 0 (by omega) (by omega) (by omega)
  exact ⟨x', i7, i8⟩
theorem mis_L (N : Nat) (hN : 400 ≤ N) {m : Nat} {mad : Int32} {ki pl ra re ko go : Nat → Int32} (hr_ : RRn m mad ki pl ra re ko go) {n : Nat} {le ln : Int32} {wy un so uw ut xs ys zs : Nat → Int32} (hl_ : RLn n le ln wy un so uw ut xs ys zs) {by_ sz we be : Nat → Int32} (hS : RS by_ sz we) {st : Nat} (hs : st < 16) (hbe : ∀ c, c < m → be c = bv ko pl go wy un so by_ sz ln n c st) : ∀ (k c q q' : Nat) (x y : Int32), c + k = m → k < q → k < q' → ∃ x' y' : Int32, (∀ K, fX7_missing_L46 N mad ki pl re le ln un so we be K q x y (nI c) = K x' y') ∧ ∀ K, fX8_missing_L79 N ln mad sz we by_ uw ut ko pl re go (nI st) K q' x y (nI c) = K x' y' := by
  have hm := hr_.1
  have em := hr_.2.1
  intro k
  induction k with
  | zero =>
    intro c q q' x y hc hq hq'
    obtain ⟨q, rfl⟩ : ∃ z, q = z + 1 := ⟨q - 1, by omega⟩
    obtain ⟨q', rfl⟩ : ∃ z, q' = z + 1 := ⟨q' - 1, by omega⟩
    have nn : mad ≤ nI c := by rw [em]; exact nI_le (by omega) (by omega)
    exact ⟨x, y, fun K => by rw [fX7_missing_L46]; simp only [fX4_made, ob]; rw [if_pos nn], fun K => by rw [fX8_missing_L79, if_pos nn]⟩
  | succ k ih =>
    intro c q q' x y hc hq hq'
    obtain ⟨q, rfl⟩ : ∃ z, q = z + 1 := ⟨q - 1, by omega⟩
    obtain ⟨q', rfl⟩ : ∃ z, q' = z + 1 := ⟨q' - 1, by omega⟩
    have hcm : c < m := by omega
    have g : vp_in (nI c) 12 := vp_in_nI (by omega) (by decide)
    have nn : ¬ mad ≤ nI c := by rw [em]; exact lit_le (by omega) (by omega)
    have b8 := bea8 N hN hr_ hl_ by_ sz hcm hs
    have hb := hbe c hcm
    have g01 : bv ko pl go wy un so by_ sz ln n c st = 0 ∨ bv ko pl go wy un so by_ sz ln n c st = 1 := b01 _
    have b7 : fX4_isBearing be (nI c) = some (bv ko pl go wy un so by_ sz ln n c st) := by
      simp only [fX4_isBearing, og_pos g, tn_nI (show c < 2 ^ 31 by omega), hb, og_pos g01]
    by_cases c1 : bv ko pl go wy un so by_ sz ln n c st = 0
    · obtain ⟨x', y', i7, i8⟩ := ih (c + 1) q q' x y (by omega) (by omega) (by omega)
      refine ⟨x', y', fun K => ?_, fun K => ?_⟩
      · rw [fX7_missing_L46]; simp only [fX4_made, ob, b7, nI_s]
        rw [if_neg nn, if_pos c1]
        exact i7 K
      · rw [fX8_missing_L79]; simp only [ob, b8, nI_s]
        rw [if_neg nn, if_pos c1]
        simp only []
        rw [if_pos (show y ≤ y by rw [leT]; omega)]
        exact i8 K
    · obtain ⟨d, d7, d8⟩ := dif_eq N hN hr_ hl_ hS hs hbe (nI c)
      by_cases c2 : y ≤ d
      · obtain ⟨x', y', i7, i8⟩ := ih (c + 1) q q' x y (by omega) (by omega) (by omega)
        refine ⟨x', y', fun K => ?_, fun K => ?_⟩
        · rw [fX7_missing_L46]; simp only [fX4_made, ob, b7, nI_s, d7]
          rw [if_neg nn, if_neg c1, if_pos c2]
          exact i7 K
        · rw [fX8_missing_L79]; simp only [ob, b8, nI_s, d8]
          rw [if_neg nn, if_neg c1]
          simp only []
          rw [if_pos c2]
          exact i8 K
      · obtain ⟨x', y', i7, i8⟩ := ih (c + 1) q q' (nI c) d (by omega) (by omega) (by omega)
        refine ⟨x', y', fun K => ?_, fun K => ?_⟩
        · rw [fX7_missing_L46]; simp only [fX4_made, ob, b7, nI_s, d7]
          rw [if_neg nn, if_neg c1, if_neg c2]
          exact i7 K
        · rw [fX8_missing_L79]; simp only [ob, b8, nI_s, d8]
          rw [if_neg nn, if_neg c1]
          simp only []
          rw [if_neg c2]
          exact i8 K
theorem m_missing (N : Nat) (hN : 400 ≤ N) : op_missing N Rel := by
  intro s t hR a1
  obtain ⟨hF, hA, hU, hS, hL, hRr, hT, hC, hY⟩ := id hR
  obtain ⟨e1, e2, e3, e4, m, q⟩ := id hRr
  obtain ⟨l1, l2, l3, l4, l5, n, ql⟩ := id hL
  obtain ⟨s1, s2, s3, qs_⟩ := id hS
  have hm := q.1
  have em := q.2.1
  have hA' : pc8_asked t = pc7_lastAsked s := hA
  by_cases h1 : (0 : Int32) ≤ a1 ∧ a1 ≤ 15
  · obtain ⟨st, -, hst, rfl⟩ := nI_rng 0 15 (by decide) (by decide) h1.1 h1.2
    obtain ⟨v, v7, v8⟩ := has_eq q m 0 N N (by omega) (by omega) (by omega)
    rw [← em] at v7 v8
    by_cases c1 : v = 0
    · refine ⟨-4, pc7_lastAsked s, pc4_bearing s, pc7_lastAsked s, ?_, ?_, hF, rfl, hU, hS, hL, hRr, hT, hC, hY⟩
      · simp only [fX7_missing, isStep7, ob, bz]
        rw [if_neg (not_not_intro h1), fX4_hasReading, show fX4_hasReading_L2 (pc4_made s) (pc4_kinds s) (pc4_readings s) N 0 = _ from v7]
        simp only []
        rw [if_pos c1]
      · simp only [fX8_missing, isStep8, ob, bz, e1, e4, hA', oj]
        rw [if_neg (not_not_intro h1), show fX8_missing_L13 (pc4_made s) (pc4_readings s) (pc8_isGone t) _ N 0 0 = _ from v8 _]
        rw [if_pos c1]
    · obtain ⟨be, eb, hbe⟩ := note_ok N hN q ql (pc6_bytes s) (pc6_sizes s) (pc4_bearing s) (show st < 16 by omega)
      obtain ⟨d, d7, d8⟩ := dif_eq N hN q ql qs_ (show st < 16 by omega) hbe (-9)
      obtain ⟨x, y, i7, i8⟩ := mis_L N hN q ql qs_ (show st < 16 by omega) hbe m 0 N N (-9) d (by omega) (by omega) (by omega)
      refine ⟨x, y, be, y, ?_, ?_, hF, rfl, hU, hS, hL, hRr, hT, hC, hY⟩
      · simp only [fX7_missing, isStep7, ob, bz]
        rw [if_neg (not_not_intro h1), fX4_hasReading, show fX4_hasReading_L2 (pc4_made s) (pc4_kinds s) (pc4_readings s) N 0 = _ from v7]
        simp only []
        rw [if_neg c1, eb]
        simp only [d7, oj]
        exact i7 _
      · simp only [fX8_missing, isStep8, ob, bz, e1, e2, e4, l2, s1, s2, s3, hA', oj]
        rw [if_neg (not_not_intro h1), show fX8_missing_L13 (pc4_made s) (pc4_readings s) (pc8_isGone t) _ N 0 0 = _ from v8 _]
        rw [if_neg c1, d8]
        simp only []
        exact i8 _
  · refine ⟨-1, pc7_lastAsked s, pc4_bearing s, pc7_lastAsked s, ?_, ?_, hF, rfl, hU, hS, hL, hRr, hT, hC, hY⟩
    · simp only [fX7_missing, isStep7, ob, bz]; rw [if_pos h1]
    · simp only [fX8_missing, isStep8, ob, bz, hA']; rw [if_pos h1]
