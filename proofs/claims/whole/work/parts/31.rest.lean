/-! ===== rest, count ===== -/
theorem us_le {un : Nat → Int32} : ∀ n, (∀ i, i < n → ∃ u : Nat, 1 ≤ u ∧ u ≤ 20 ∧ un i = nI u) → us un n ≤ 20 * n
  | 0, _ => by simp [us]
  | n + 1, h => by
    have := us_le n (fun i hi => h i (by omega))
    obtain ⟨u, -, hu, e⟩ := h n (by omega)
    rw [us, e, tn_nI (by omega)]; omega
theorem RL_len {le ln : Int32} {wy un so uw ut xs ys zs : Nat → Int32} (h : RL_ le ln wy un so uw ut xs ys zs) : ∃ L : Nat, L ≤ 240 ∧ ln = nI L := by
  obtain ⟨n, h1, -, h3, h4, -⟩ := h
  exact ⟨us un n, by have := us_le n (fun i hi => (h4 i hi).2.1); omega, h3⟩
def tkv (pl go : Nat → Int32) (p : Int32) : Nat → Nat → Int32
  | 0, _ => 0
  | k + 1, c => if go c = 0 ∧ pl c = p then 1 else tkv pl go p k (c + 1)
theorem tkv01 (pl go : Nat → Int32) (p : Int32) : ∀ k c, tkv pl go p k c = 0 ∨ tkv pl go p k c = 1
  | 0, _ => Or.inl rfl
  | k + 1, c => by
    rw [tkv]
    by_cases h : go c = 0 ∧ pl c = p
    · rw [if_pos h]; exact Or.inr rfl
    · rw [if_neg h]; exact tkv01 pl go p k (c + 1)
theorem gone7 {n : Nat} {mad : Int32} {ki pl ra re ko go : Nat → Int32} (h : RRn n mad ki pl ra re ko go) {r : Nat} (hr : r < n) : fX4_isGone ki (nI r) = some (if go r = 0 then 0 else 1) := by
  have hn := h.1
  have gr : vp_in (nI r) 12 := vp_in_nI (by omega) (by decide)
  obtain ⟨⟨k, hk, ek, h2⟩, -⟩ := h.2.2 r hr
  rcases h2 with ⟨g0, kk⟩ | ⟨g1, kk⟩
  · have hk1 : ¬ ki r = -1 := by rw [kk, eqT, nI_T (by omega), t_m1]; omega
    simp only [fX4_isGone, og_pos gr, tn_nI (show r < 2 ^ 31 by omega), hk1, if_false, g0, if_true]
  · have n01 : ¬ (1 : Int32) = 0 := by decide
    simp only [fX4_isGone, og_pos gr, tn_nI (show r < 2 ^ 31 by omega), kk, if_true, g1, n01, if_false]
theorem tk7 {n : Nat} {mad : Int32} {ki pl ra re ko go : Nat → Int32} (h : RRn n mad ki pl ra re ko go) (p : Int32) : ∀ (k c q : Nat), c + k = n → k < q → fX4_isTaken_L2 mad ki pl p q (nI c) = some (tkv pl go p k c) := by
  have hn := h.1
  have en := h.2.1
  intro k
  induction k with
  | zero =>
    intro c q hc hq
    obtain ⟨q, rfl⟩ : ∃ z, q = z + 1 := ⟨q - 1, by omega⟩
    rw [fX4_isTaken_L2, en, if_pos (nI_le (by omega) (by omega))]; rfl
  | succ k ih =>
    intro c q hc hq
    obtain ⟨q, rfl⟩ : ∃ z, q = z + 1 := ⟨q - 1, by omega⟩
    have gr : vp_in (nI c) 12 := vp_in_nI (by omega) (by decide)
    rw [fX4_isTaken_L2, if_neg (by rw [en]; exact lit_le (by omega) (by omega)), gone7 h (show c < n by omega)]
    simp only [ob, oj, og_pos gr, tn_nI (show c < 2 ^ 31 by omega), nI_s]
    rw [ih (c + 1) q (by omega) (by omega), tkv]
    by_cases g0 : go c = 0
    · simp only [g0, if_true, true_and]
      by_cases e : pl c = p
      · rw [if_pos e, if_pos e]
      · rw [if_neg e, if_neg e]
    · simp only [g0, if_false, false_and]
      rw [if_neg (by decide)]
theorem rs0 {n : Nat} (hn : n ≤ 12) (pl go : Nat → Int32) (p : Int32) (K : Int32 → Option (Int32 × Int32 × (Nat → Int32) × (Nat → Int32) × (Nat → Int32) × (Nat → Int32) × (Nat → Int32))) : ∀ (k c q : Nat), c + k = n → k < q → fX8_rest_L49 (nI n) pl go p K q 0 (nI c) = K 0 := by
  intro k
  induction k with
  | zero =>
    intro c q hc hq
    obtain ⟨q, rfl⟩ : ∃ z, q = z + 1 := ⟨q - 1, by omega⟩
    rw [fX8_rest_L49, if_pos (nI_le (by omega) (by omega))]
  | succ k ih =>
    intro c q hc hq
    obtain ⟨q, rfl⟩ : ∃ z, q = z + 1 := ⟨q - 1, by omega⟩
    rw [fX8_rest_L49, if_neg (lit_le (by omega) (by omega))]
    simp only [oj, if_true, ob, nI_s]
    exact ih (c + 1) q (by omega) (by omega)
theorem rs1 {n : Nat} (hn : n ≤ 12) (pl go : Nat → Int32) (p : Int32) (K : Int32 → Option (Int32 × Int32 × (Nat → Int32) × (Nat → Int32) × (Nat → Int32) × (Nat → Int32) × (Nat → Int32))) : ∀ (k c q : Nat), c + k = n → k < q → fX8_rest_L49 (nI n) pl go p K q 1 (nI c) = K (if tkv pl go p k c = 0 then 1 else 0) := by
  intro k
  induction k with
  | zero =>
    intro c q hc hq
    obtain ⟨q, rfl⟩ : ∃ z, q = z + 1 := ⟨q - 1, by omega⟩
    rw [fX8_rest_L49, if_pos (nI_le (by omega) (by omega))]; rfl
  | succ k ih =>
    intro c q hc hq
    obtain ⟨q, rfl⟩ : ∃ z, q = z + 1 := ⟨q - 1, by omega⟩
    have gr : vp_in (nI c) 12 := vp_in_nI (by omega) (by decide)
    have n01 : ¬ (1 : Int32) = 0 := by decide
    rw [fX8_rest_L49, if_neg (lit_le (by omega) (by omega))]
    simp only [oj, n01, if_false, og_pos gr, tn_nI (show c < 2 ^ 31 by omega), nI_s]
    rw [tkv]
    by_cases g0 : go c = 0
    · simp only [g0, if_true, true_and]
      by_cases e : pl c = p
      · rw [if_pos e, if_pos e, if_neg n01]
        simp only [ob]
        exact rs0 hn pl go p K k (c + 1) q (by omega) (by omega)
      · rw [if_neg e, if_neg e]
        simp only [ob]
        exact ih (c + 1) q (by omega) (by omega)
    · simp only [g0, if_false, false_and, ob]
      exact ih (c + 1) q (by omega) (by omega)
theorem RR_put {n : Nat} {mad : Int32} {ki pl ra re ko go : Nat → Int32} (h : RRn n mad ki pl ra re ko go) (hn : n < 12) {k q : Nat} (hk : k < 4) (h1 : 1 ≤ q) (h2 : q < 240) {v : Int32} (hv : v = -9 ∨ ∃ w : Nat, 1 ≤ w ∧ w ≤ 500 ∧ v = nI w) (hkv : k = 2 → v ≠ -9) : RRn (n + 1) (nI (n + 1)) (upd ki n (nI k)) (upd pl n (nI q)) (upd ra n v) (upd re n (-9)) (upd ko n (nI k)) (upd go n 0) := by
  refine ⟨by omega, rfl, fun i hi => ?_⟩
  simp only [upd_at]
  by_cases e : i = n
  · simp only [e, if_true]
    refine ⟨⟨k, hk, rfl, Or.inl ⟨trivial, rfl⟩⟩, ⟨q, h1, h2, rfl⟩, hv, fun z => hkv ?_, Or.inl trivial⟩
    rw [show (2 : Int32) = nI 2 from rfl, nI_eqI (by omega) (by omega)] at z
    exact z
  · simp only [e, if_false]
    exact h.2.2 i (by omega)
theorem m_rest (N : Nat) (hN : 400 ≤ N) : op_rest N Rel := by
  intro s t hR a1 a2 a3
  obtain ⟨hF, hA, hU, hS, hL, hRr, hT, hC, hY⟩ := id hR
  obtain ⟨e1, e2, e3, e4, qR⟩ := id hRr
  obtain ⟨l1, l2, l3, l4, l5, qL⟩ := id hL
  obtain ⟨L, hL240, eL⟩ := RL_len qL
  have same : ∀ (mad ln : Int32) (ki pl ra re ko go : Nat → Int32), RR_ mad ki pl ra re ko go → ln = nI L → ∃ (r mad' : Int32) (ki' pl' ra' re' ko' go' : Nat → Int32), fX7_rest N mad ki pl ra re ln a1 a2 a3 = some (r, mad', ki', pl', ra', re') ∧ fX8_rest N ln mad ko pl ra re go a1 a2 a3 = some (r, mad', ko', pl', ra', re', go') ∧ RR_ mad' ki' pl' ra' re' ko' go' := by
    intro mad ln ki pl ra re ko go hq0 eln
    obtain ⟨n, hq⟩ := id hq0
    have hn := hq.1
    have en := hq.2.1
    subst en
    have n01 : ¬ (1 : Int32) = 0 := by decide
    have k7 : fX4_isTaken N (nI n) ki pl a2 = some (tkv pl go a2 n 0) := by rw [fX4_isTaken]; exact tk7 hq a2 n 0 N (by omega) (by omega)
    by_cases h1 : (0 : Int32) ≤ a1 ∧ a1 ≤ 3
    · by_cases h2 : (1 : Int32) ≤ a2 ∧ a2 ≤ ln - 1
      · by_cases h3 : tkv pl go a2 n 0 = 0
        · by_cases h4 : a1 = 2 ∧ ¬ ((1 : Int32) ≤ a3 ∧ a3 ≤ 500)
          · refine ⟨-1, (nI n), ki, pl, ra, re, ko, go, ?_, ?_, hq0⟩
            · simp only [fX7_rest, isKind7, ob, bz, fX5_length, wi7, k7, h3, oj, isRate7]
              rw [if_neg (not_not_intro h1), if_neg (not_not_intro h2), if_pos trivial, if_pos h4.1, if_pos h4.2]
            · simp only [fX8_rest, wi8, ob, bz, oj]
              rw [if_neg (not_not_intro h1), if_neg (not_not_intro h2), if_pos h4.1, if_pos h4.2]
              simp only []
              rw [show fX8_rest_L49 (nI n) pl go a2 _ N 0 0 = _ from rs0 hn pl go a2 _ n 0 N (by omega) (by omega)]
              rfl
          · have t3 : (oj (some (0 : Int32)) (fun (K43_32 : Option Int32) => (if ¬ ((0 : Int32) ≤ a1 ∧ a1 ≤ 3) then K43_32 else (if ¬ ((1 : Int32) ≤ a2 ∧ a2 ≤ ln - 1) then K43_32 else oj (some (1 : Int32)) (fun (K39_37 : Option Int32) => (if a1 = 2 then (if ¬ ((1 : Int32) ≤ a3 ∧ a3 ≤ 500) then K43_32 else K39_37) else K39_37)))))) = some 1 := by
              simp only [oj]
              rw [if_neg (not_not_intro h1), if_neg (not_not_intro h2)]
              by_cases c : a1 = 2
              · rw [if_pos c, if_neg (fun z => h4 ⟨c, z⟩)]
              · rw [if_neg c]
            by_cases h12 : n = 12
            · have c0 : ¬ nI n < 12 := by rw [h12]; decide
              have c1 : nI n = 12 := by rw [h12]; rfl
              refine ⟨-2, (nI n), ki, pl, ra, re, ko, go, ?_, ?_, hq0⟩
              · simp only [fX7_rest, isKind7, ob, bz, fX5_length, wi7, k7, h3, oj, isRate7, fX4_made]
                rw [if_neg (not_not_intro h1), if_neg (not_not_intro h2), if_pos trivial, if_neg c0]
                by_cases c : a1 = 2
                · rw [if_pos c, if_neg (fun z => h4 ⟨c, z⟩)]
                · rw [if_neg c]
              · simp only [oj] at t3
                simp only [fX8_rest, wi8, ob, bz, oj, t3]
                rw [show fX8_rest_L49 (nI n) pl go a2 _ N 1 0 = _ from rs1 hn pl go a2 _ n 0 N (by omega) (by omega), if_pos h3, if_neg n01, if_pos c1]
            · have c0 : nI n < 12 := nI_lt (b := 12) (by omega) (by decide)
              have c1 : ¬ nI n = 12 := by rw [show (12 : Int32) = nI 12 from rfl, nI_eqI (by omega) (by omega)]; exact h12
              have g : vp_in (nI n) 12 := vp_in_nI (by omega) (by decide)
              obtain ⟨k, -, hk3, rfl⟩ := nI_rng 0 3 (by decide) (by decide) h1.1 h1.2
              have h2' := h2.2
              obtain ⟨p, hp, rfl⟩ := nI_of (x := a2) (by have := h2.1; rw [leT, t_1] at this; rw [ltT, t_0]; omega)
              have hp1 : 1 ≤ p := by have := h2.1; rw [leT, t_1, nI_T hp] at this; omega
              have hp2 : p < 240 := by rw [leT, eln, sub1 (by omega), nI_T hp] at h2'; omega
              have hv : (if nI k = 2 then a3 else (-9 : Int32)) = -9 ∨ ∃ w : Nat, 1 ≤ w ∧ w ≤ 500 ∧ (if nI k = 2 then a3 else (-9 : Int32)) = nI w := by
                by_cases c : nI k = 2
                · rw [if_pos c]; right
                  have c3 : (1 : Int32) ≤ a3 ∧ a3 ≤ 500 := Classical.byContradiction fun z => h4 ⟨c, z⟩
                  obtain ⟨w, w1, w2, rfl⟩ := nI_rng 1 500 (by decide) (by decide) c3.1 c3.2
                  exact ⟨w, w1, w2, rfl⟩
                · rw [if_neg c]; exact Or.inl rfl
              have hkv : k = 2 → (if nI k = 2 then a3 else (-9 : Int32)) ≠ -9 := fun c => by
                subst c
                rw [if_pos (show nI 2 = 2 from rfl)]
                have c3 : (1 : Int32) ≤ a3 ∧ a3 ≤ 500 := Classical.byContradiction fun z => h4 ⟨rfl, z⟩
                intro z
                rw [z] at c3
                exact absurd c3.1 (by decide)
              have ev : (if nI k = 2 then some a3 else some (-9 : Int32)) = some (if nI k = 2 then a3 else (-9 : Int32)) := by
                by_cases c : nI k = 2
                · rw [if_pos c, if_pos c]
                · rw [if_neg c, if_neg c]
              refine ⟨nI n, nI (n + 1), upd ki n (nI k), upd pl n (nI p), upd ra n (if nI k = 2 then a3 else -9), upd re n (-9), upd ko n (nI k), upd go n 0, ?_, ?_, n + 1, RR_put hq (by omega) (by omega) hp1 hp2 hv hkv⟩
              · simp only [fX7_rest, isKind7, ob, bz, fX5_length, wi7, k7, h3, oj, isRate7, fX4_made, fX4_put, og_pos g, ev, ob6, tn_nI (show n < 2 ^ 31 by omega), nI_s, nI_pred]
                rw [if_neg (not_not_intro h1), if_neg (not_not_intro h2), if_pos trivial, if_pos c0]
                by_cases c : nI k = 2
                · rw [if_pos c, if_neg (fun z => h4 ⟨c, z⟩)]
                · rw [if_neg c]
              · simp only [oj] at t3
                simp only [fX8_rest, wi8, ob, bz, oj, t3]
                rw [show fX8_rest_L49 (nI n) pl go (nI p) _ N 1 0 = _ from rs1 hn pl go (nI p) _ n 0 N (by omega) (by omega), if_pos h3, if_neg n01, if_neg c1]
                simp only [og_pos g, ev, tn_nI (show n < 2 ^ 31 by omega), nI_s, nI_pred, narz0]
        · refine ⟨-1, (nI n), ki, pl, ra, re, ko, go, ?_, ?_, hq0⟩
          · simp only [fX7_rest, isKind7, ob, bz, fX5_length, wi7, k7]
            rw [if_neg (not_not_intro h1), if_neg (not_not_intro h2), if_neg h3]
          · simp only [fX8_rest, wi8, ob, bz, oj]
            rw [if_neg (not_not_intro h1), if_neg (not_not_intro h2)]
            by_cases c : a1 = 2
            · rw [if_pos c]
              by_cases c2 : (1 : Int32) ≤ a3 ∧ a3 ≤ 500
              · rw [if_neg (not_not_intro c2)]
                simp only []
                rw [show fX8_rest_L49 (nI n) pl go a2 _ N 1 0 = _ from rs1 hn pl go a2 _ n 0 N (by omega) (by omega), if_neg h3]
                rfl
              · rw [if_pos c2]
                simp only []
                rw [show fX8_rest_L49 (nI n) pl go a2 _ N 0 0 = _ from rs0 hn pl go a2 _ n 0 N (by omega) (by omega)]
                rfl
            · rw [if_neg c]
              simp only []
              rw [show fX8_rest_L49 (nI n) pl go a2 _ N 1 0 = _ from rs1 hn pl go a2 _ n 0 N (by omega) (by omega), if_neg h3]
              rfl
      · refine ⟨-1, (nI n), ki, pl, ra, re, ko, go, ?_, ?_, hq0⟩
        · simp only [fX7_rest, isKind7, ob, bz, fX5_length, wi7]
          rw [if_neg (not_not_intro h1), if_pos h2]
        · simp only [fX8_rest, wi8, ob, bz, oj]
          rw [if_neg (not_not_intro h1), if_pos h2]
          simp only []
          rw [show fX8_rest_L49 (nI n) pl go a2 _ N 0 0 = _ from rs0 hn pl go a2 _ n 0 N (by omega) (by omega)]
          rfl
    · refine ⟨-1, (nI n), ki, pl, ra, re, ko, go, ?_, ?_, hq0⟩
      · simp only [fX7_rest, isKind7, ob, bz]; rw [if_pos h1]
      · simp only [fX8_rest, wi8, ob, bz, oj]
        rw [if_pos h1]
        simp only []
        rw [show fX8_rest_L49 (nI n) pl go a2 _ N 0 0 = _ from rs0 hn pl go a2 _ n 0 N (by omega) (by omega)]
        rfl
  obtain ⟨r, mad', ki', pl', ra', re', ko', go', g1, g2, g3⟩ := same _ _ _ _ _ _ _ _ qR eL
  exact ⟨r, mad', ki', pl', ra', re', mad', ko', pl', ra', re', go', g1, by rw [e1, e2, e3, e4, l2]; exact g2, hF, hA, hU, hS, hL, ⟨rfl, rfl, rfl, rfl, g3⟩, hT, hC, hY⟩
/-! count -/
def kp (go : Nat → Int32) : Nat → Nat → Int32 → Int32
  | 0, _, a => a
  | k + 1, c, a => kp go k (c + 1) (a + (if go c = 0 then 1 else 0))
theorem ite_some {c : Prop} [Decidable c] (x y : Int32) : (if c then some x else some y) = some (if c then x else y) := by
  by_cases h : c
  · rw [if_pos h, if_pos h]
  · rw [if_neg h, if_neg h]
theorem kp7 {n : Nat} {mad : Int32} {ki pl ra re ko go : Nat → Int32} (h : RRn n mad ki pl ra re ko go) : ∀ (k c q : Nat) (a : Int32), c + k = n → k < q → fX4_kept_L4 mad ki q a (nI c) = some (kp go k c a) := by
  have hn := h.1
  have en := h.2.1
  intro k
  induction k with
  | zero =>
    intro c q a hc hq
    obtain ⟨q, rfl⟩ : ∃ z, q = z + 1 := ⟨q - 1, by omega⟩
    rw [fX4_kept_L4, en, if_pos (nI_le (by omega) (by omega))]; rfl
  | succ k ih =>
    intro c q a hc hq
    obtain ⟨q, rfl⟩ : ∃ z, q = z + 1 := ⟨q - 1, by omega⟩
    rw [fX4_kept_L4, if_neg (by rw [en]; exact lit_le (by omega) (by omega)), gone7 h (show c < n by omega)]
    simp only [ob, olet, nI_s]
    rw [kp]
    by_cases g0 : go c = 0
    · simp only [g0, if_true]
      exact ih (c + 1) q _ (by omega) (by omega)
    · simp only [g0, if_false]
      rw [if_neg (by decide)]
      exact ih (c + 1) q _ (by omega) (by omega)
theorem kp8 {n : Nat} (hn : n ≤ 12) (go : Nat → Int32) (K : Int32 → Option Int32) : ∀ (k c q : Nat) (a : Int32), c + k = n → k < q → fX8_count_L4 (nI n) go K q a (nI c) = K (kp go k c a) := by
  intro k
  induction k with
  | zero =>
    intro c q a hc hq
    obtain ⟨q, rfl⟩ : ∃ z, q = z + 1 := ⟨q - 1, by omega⟩
    rw [fX8_count_L4, if_pos (nI_le (by omega) (by omega))]; rfl
  | succ k ih =>
    intro c q a hc hq
    obtain ⟨q, rfl⟩ : ∃ z, q = z + 1 := ⟨q - 1, by omega⟩
    have gr : vp_in (nI c) 12 := vp_in_nI (by omega) (by decide)
    rw [fX8_count_L4, if_neg (lit_le (by omega) (by omega)), og_pos gr, tn_nI (by omega), ite_some, nI_s]
    simp only [ob, olet]
    rw [kp]
    exact ih (c + 1) q _ (by omega) (by omega)
/-- count, of the parts of a state -/
theorem count_eq (N : Nat) (hN : 400 ≤ N) {n : Nat} {mad : Int32} {ki pl ra re ko go : Nat → Int32} (h : RRn n mad ki pl ra re ko go) (le ln sz li w : Int32) : ∃ v, fX7_count N mad ki le ln sz li w = some v ∧ fX8_count N le ln mad sz li go w = some v := by
  have hn := h.1
  have en := h.2.1
  have h7 : fX4_kept N mad ki = some (kp go n 0 0) := by rw [fX4_kept]; exact kp7 h n 0 N 0 (by omega) (by omega)
  have h8 : fX8_count N le ln mad sz li go w = (if w = 0 then some le else (if w = 1 then some ln else (if w = 2 then some mad else (if w = 3 then some (kp go n 0 0) else (if w = 4 then some sz else (if w = 5 then some li else (some (-1)))))))) := by
    rw [fX8_count, oj]
    conv => lhs; rw [en]
    rw [show fX8_count_L4 (nI n) go _ N 0 0 = _ from kp8 hn go _ n 0 N 0 (by omega) (by omega), en]
  rw [h8]
  simp only [fX7_count, h7, ob, fX5_legs, fX5_length, fX4_made, fX3_size, fX1_lines]
  by_cases c0 : w = 0
  · rw [if_pos c0]; exact ⟨_, rfl, rfl⟩
  · rw [if_neg c0]
    by_cases c1 : w = 1
    · rw [if_pos c1]; exact ⟨_, rfl, rfl⟩
    · rw [if_neg c1]
      by_cases c2 : w = 2
      · rw [if_pos c2]; exact ⟨_, rfl, rfl⟩
      · rw [if_neg c2]
        by_cases c3 : w = 3
        · rw [if_pos c3]; exact ⟨_, rfl, rfl⟩
        · rw [if_neg c3]
          by_cases c4 : w = 4
          · rw [if_pos c4]; exact ⟨_, rfl, rfl⟩
          · rw [if_neg c4]
            by_cases c5 : w = 5
            · rw [if_pos c5]; exact ⟨_, rfl, rfl⟩
            · rw [if_neg c5]; exact ⟨_, rfl, rfl⟩
theorem m_count (N : Nat) (hN : 400 ≤ N) : op_count N Rel := by
  intro s t hR a1
  obtain ⟨hF, hA, hU, hS, hL, hRr, hT, hC, hY⟩ := id hR
  obtain ⟨e1, e2, e3, e4, n, q⟩ := id hRr
  obtain ⟨v, g7, g8⟩ := count_eq N hN q (pc5_legs s) (pc5_length s) (pc3_size s) (pc1_lines s) a1
  exact ⟨v, g7, by rw [hL.1, hL.2.1, e1, hT.1, hY.1]; exact g8, hR⟩
