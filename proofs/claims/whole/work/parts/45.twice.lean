/-! ===== twice the load ===== -/
theorem ft_eq (N : Nat) (hN : 400 ≤ N) {m : Nat} {mad : Int32} {ki pl ra re ko go : Nat → Int32} (hr_ : RRn m mad ki pl ra re ko go) {n : Nat} {le ln : Int32} {wy un so uw ut xs ys zs : Nat → Int32} (hl_ : RLn n le ln wy un so uw ut xs ys zs) (by_ sz be : Nat → Int32) {r st : Nat} (hr : r < m) (hs : st < 16) (hbe : ∀ c, c < m → be c = bv ko pl go wy un so by_ sz ln n c st) (wo : Int32) : ∀ (k c q q' F T : Nat), c + k = m → k < q → k < q' → F ≤ 240 → T ≤ us un n → ∃ F' T' : Nat, F' ≤ 240 ∧ T' ≤ us un n ∧ (∀ K, fX4_twiceLoad_L30 (nI m) pl be (nI r) wo K q (nI F) (nI T) (nI c) = K (nI F') (nI T')) ∧ ∀ K, fX8_twice_L23 N ln (nI m) sz by_ uw ut ko pl go (nI r) (nI st) wo K q' (nI F) (nI T) (nI c) = K (nI F') (nI T') := by
  have hm := hr_.1
  have htot : us un n ≤ 240 := by have := us_le n (fun j hj => (hl_.2.2.2.1 j hj).2.1); have := hl_.1; omega
  have gr_ : vp_in (nI r) 12 := vp_in_nI (by omega) (by decide)
  obtain ⟨-, ⟨B, hB1, hB2, eB⟩, -⟩ := hr_.2.2 r hr
  intro k
  induction k with
  | zero =>
    intro c q q' F T hc hq hq' hF hT
    obtain ⟨q, rfl⟩ : ∃ z, q = z + 1 := ⟨q - 1, by omega⟩
    obtain ⟨q', rfl⟩ : ∃ z, q' = z + 1 := ⟨q' - 1, by omega⟩
    exact ⟨F, T, hF, hT, fun K => by rw [fX4_twiceLoad_L30, if_pos (nI_le (by omega) (by omega))], fun K => by rw [fX8_twice_L23, if_pos (nI_le (by omega) (by omega))]⟩
  | succ k ih =>
    intro c q q' F T hc hq hq' hF hT
    obtain ⟨q, rfl⟩ : ∃ z, q = z + 1 := ⟨q - 1, by omega⟩
    obtain ⟨q', rfl⟩ : ∃ z, q' = z + 1 := ⟨q' - 1, by omega⟩
    have hcm : c < m := by omega
    have g : vp_in (nI c) 12 := vp_in_nI (by omega) (by decide)
    obtain ⟨-, ⟨A, hA1, hA2, eA⟩, -⟩ := hr_.2.2 c hcm
    have b8 := bea8 N hN hr_ hl_ by_ sz hcm hs
    have n7 : ¬ nI m ≤ nI c := lit_le (by omega) (by omega)
    have key : ∃ F1 T1 : Nat, F1 ≤ 240 ∧ T1 ≤ us un n ∧ (∀ K, fX4_twiceLoad_L30 (nI m) pl be (nI r) wo K (q + 1) (nI F) (nI T) (nI c) = fX4_twiceLoad_L30 (nI m) pl be (nI r) wo K q (nI F1) (nI T1) (nI (c + 1))) ∧ ∀ K, fX8_twice_L23 N ln (nI m) sz by_ uw ut ko pl go (nI r) (nI st) wo K (q' + 1) (nI F) (nI T) (nI c) = fX8_twice_L23 N ln (nI m) sz by_ uw ut ko pl go (nI r) (nI st) wo K q' (nI F1) (nI T1) (nI (c + 1)) := by
      have u7 : ∀ K, fX4_twiceLoad_L30 (nI m) pl be (nI r) wo K (q + 1) (nI F) (nI T) (nI c) = ob2 (if be c = 0 then some (nI F, nI T) else if nI c = wo then some (nI F, nI T) else if nI B ≤ nI A then (if nI A ≤ nI B then some (nI F, nI T) else some (nI F, if nI A < nI T then nI A else nI T)) else some (if nI F < nI A then nI A else nI F, nI T)) (fun x16 x17 => fX4_twiceLoad_L30 (nI m) pl be (nI r) wo K q x16 x17 (nI (c + 1))) := fun K => by
        rw [fX4_twiceLoad_L30, if_neg n7]
        simp only [og_pos g, og_pos gr_, olet, tn_nI (show c < 2 ^ 31 by omega), tn_nI (show r < 2 ^ 31 by omega), eA, eB, nI_s]
      have u8 : ∀ K, fX8_twice_L23 N ln (nI m) sz by_ uw ut ko pl go (nI r) (nI st) wo K (q' + 1) (nI F) (nI T) (nI c) = ob2 (if nI c = nI r then some (nI F, nI T) else if nI c = wo then some (nI F, nI T) else if bv ko pl go wy un so by_ sz ln n c st = 0 then some (nI F, nI T) else ob (if nI B ≤ nI A then some (nI F) else if nI A ≤ nI F then some (nI F) else some (nI A)) (fun t28 => ob (if nI A ≤ nI B then some (nI T) else if nI T ≤ nI A then some (nI T) else some (nI A)) (fun t31 => some (t28, t31)))) (fun x16 x17 => fX8_twice_L23 N ln (nI m) sz by_ uw ut ko pl go (nI r) (nI st) wo K q' x16 x17 (nI (c + 1))) := fun K => by
        rw [fX8_twice_L23, if_neg n7, b8]
        simp only [oj, og_pos g, og_pos gr_, tn_nI (show c < 2 ^ 31 by omega), tn_nI (show r < 2 ^ 31 by omega), eA, eB, nI_s, ob]
      have hb := hbe c hcm
      rw [hb] at u7
      have skip7 : (bv ko pl go wy un so by_ sz ln n c st = 0 ∨ nI c = wo ∨ A = B) → ∀ K, fX4_twiceLoad_L30 (nI m) pl be (nI r) wo K (q + 1) (nI F) (nI T) (nI c) = fX4_twiceLoad_L30 (nI m) pl be (nI r) wo K q (nI F) (nI T) (nI (c + 1)) := fun z K => by
        rw [u7 K]
        by_cases c1 : bv ko pl go wy un so by_ sz ln n c st = 0
        · rw [if_pos c1]; rfl
        · by_cases c2 : nI c = wo
          · rw [if_neg c1, if_pos c2]; rfl
          · have c3 : A = B := (z.resolve_left c1).resolve_left c2
            rw [if_neg c1, if_neg c2, c3, if_pos (nI_le (Nat.le_refl B) (by omega)), if_pos (nI_le (Nat.le_refl B) (by omega))]; rfl
      have skip8 : (nI c = nI r ∨ bv ko pl go wy un so by_ sz ln n c st = 0 ∨ nI c = wo ∨ A = B) → ∀ K, fX8_twice_L23 N ln (nI m) sz by_ uw ut ko pl go (nI r) (nI st) wo K (q' + 1) (nI F) (nI T) (nI c) = fX8_twice_L23 N ln (nI m) sz by_ uw ut ko pl go (nI r) (nI st) wo K q' (nI F) (nI T) (nI (c + 1)) := fun z K => by
        rw [u8 K]
        by_cases c0 : nI c = nI r
        · rw [if_pos c0]; rfl
        · rw [if_neg c0]
          by_cases c2 : nI c = wo
          · rw [if_pos c2]; rfl
          · rw [if_neg c2]
            by_cases c1 : bv ko pl go wy un so by_ sz ln n c st = 0
            · rw [if_pos c1]; rfl
            · have c3 : A = B := ((z.resolve_left c0).resolve_left c1).resolve_left c2
              rw [if_neg c1, c3, if_pos (nI_le (Nat.le_refl B) (by omega)), if_pos (nI_le (Nat.le_refl B) (by omega))]; rfl
      by_cases c0 : c = r
      · have eAB : A = B := by
          have : nI A = nI B := by rw [← eA, ← eB, c0]
          exact (nI_eq (by omega) (by omega)).mp this
        exact ⟨F, T, hF, hT, skip7 (Or.inr (Or.inr eAB)), skip8 (Or.inl (by rw [c0]))⟩
      · by_cases c1 : bv ko pl go wy un so by_ sz ln n c st = 0
        · exact ⟨F, T, hF, hT, skip7 (Or.inl c1), skip8 (Or.inr (Or.inl c1))⟩
        · by_cases c2 : nI c = wo
          · exact ⟨F, T, hF, hT, skip7 (Or.inr (Or.inl c2)), skip8 (Or.inr (Or.inr (Or.inl c2)))⟩
          · have c0' : ¬ nI c = nI r := fun z => c0 ((nI_eq (by omega) (by omega)).mp z)
            rcases Nat.lt_trichotomy A B with c3 | c3 | c3
            · refine ⟨max F A, T, by omega, hT, fun K => ?_, fun K => ?_⟩
              · rw [u7 K, if_neg c1, if_neg c2, if_neg (lit_le (by omega) (by omega))]
                by_cases c4 : F < A
                · rw [if_pos (nI_lt c4 (by omega)), show max F A = A by omega]; rfl
                · rw [if_neg (nI_nlt (by omega) (by omega)), show max F A = F by omega]; rfl
              · rw [u8 K, if_neg c0', if_neg c2, if_neg c1, if_neg (show ¬ nI B ≤ nI A from lit_le (by omega) (by omega)), if_pos (show nI A ≤ nI B from nI_le (by omega) (by omega))]
                by_cases c4 : F < A
                · rw [if_neg (show ¬ nI A ≤ nI F from lit_le (by omega) (by omega)), show max F A = A by omega]; rfl
                · rw [if_pos (show nI A ≤ nI F from nI_le (by omega) (by omega)), show max F A = F by omega]; rfl
            · exact ⟨F, T, hF, hT, skip7 (Or.inr (Or.inr c3)), skip8 (Or.inr (Or.inr (Or.inr c3)))⟩
            · refine ⟨F, min T A, hF, by omega, fun K => ?_, fun K => ?_⟩
              · rw [u7 K, if_neg c1, if_neg c2, if_pos (nI_le (by omega) (by omega)), if_neg (lit_le (by omega) (by omega))]
                by_cases c4 : A < T
                · rw [if_pos (nI_lt c4 (by omega)), show min T A = A by omega]; rfl
                · rw [if_neg (nI_nlt (by omega) (by omega)), show min T A = T by omega]; rfl
              · rw [u8 K, if_neg c0', if_neg c2, if_neg c1, if_pos (show nI B ≤ nI A from nI_le (by omega) (by omega)), if_neg (show ¬ nI A ≤ nI B from lit_le (by omega) (by omega))]
                by_cases c4 : A < T
                · rw [if_neg (lit_le (by omega) (by omega)), show min T A = A by omega]; rfl
                · rw [if_pos (nI_le (by omega) (by omega)), show min T A = T by omega]; rfl
    obtain ⟨F1, T1, h1, h2, k7, k8⟩ := key
    obtain ⟨F2, T2, h3, h4, j7, j8⟩ := ih (c + 1) q q' F1 T1 (by omega) (by omega) (by omega) h1 h2
    exact ⟨F2, T2, h3, h4, fun K => by rw [k7 K]; exact j7 K, fun K => by rw [k8 K]; exact j8 K⟩
/-- twice the load of a rest, both sides -/
theorem twice_eq (N : Nat) (hN : 400 ≤ N) {m : Nat} {mad : Int32} {ki pl ra re ko go : Nat → Int32} (hr_ : RRn m mad ki pl ra re ko go) {n : Nat} {le ln : Int32} {wy un so uw ut xs ys zs : Nat → Int32} (hl_ : RLn n le ln wy un so uw ut xs ys zs) {by_ sz we be : Nat → Int32} (hS : RS by_ sz we) {r st : Nat} (hr : r < m) (hs : st < 16) (hbe : ∀ c, c < m → be c = bv ko pl go wy un so by_ sz ln n c st) {wo : Int32} (hwo : ¬ nI r = wo) : ∃ v : Nat, v ≤ 12000 ∧ fX4_twiceLoad N mad pl be le ln un so we (nI r) wo = some (nI v) ∧ fX8_twice N ln mad sz we by_ uw ut ko pl go (nI r) (nI st) wo = some (nI v) := by
  have hm := hr_.1
  have em := hr_.2.1
  have htot : us un n ≤ 240 := by have := us_le n (fun j hj => (hl_.2.2.2.1 j hj).2.1); have := hl_.1; omega
  have g : vp_in (nI r) 12 := vp_in_nI (by omega) (by decide)
  have b8 := bea8 N hN hr_ hl_ by_ sz hr hs
  have hb := hbe r hr
  by_cases c1 : bv ko pl go wy un so by_ sz ln n r st = 0
  · refine ⟨0, by omega, ?_, ?_⟩
    · rw [fX4_twiceLoad, og_pos g, tn_nI (by omega), hb, if_pos c1]; rfl
    · rw [fX8_twice, b8]; simp only [ob]; rw [if_pos c1]; rfl
  · obtain ⟨F, T, h1, h2, j7, j8⟩ := ft_eq N hN hr_ hl_ by_ sz be hr hs hbe wo m 0 N N 0 (us un n) (by omega) (by omega) (by omega) (by omega) (Nat.le_refl _)
    obtain ⟨v, hv, w7, w8⟩ := wei_eq N hN hl_ hS (show F ≤ 1000 by omega) h2
    refine ⟨v, hv, ?_, ?_⟩
    · rw [fX4_twiceLoad, og_pos g, tn_nI (by omega), hb, if_neg c1, if_neg hwo]
      simp only [fX5_length, ob, oj]
      rw [em, hl_.2.2.1, show fX4_twiceLoad_L30 (nI m) pl be (nI r) wo _ N 0 (nI (us un n)) 0 = _ from j7 _, w7]
    · rw [fX8_twice, b8]
      simp only [ob, oj]
      rw [if_neg c1, em]
      have := j8 (fun x4 x5 => fX8_twice_L151 we ut x5 N 0 x4)
      rw [← hl_.2.2.1] at this
      rw [show fX8_twice_L23 N ln (nI m) sz by_ uw ut ko pl go (nI r) (nI st) wo _ N 0 ln 0 = _ from this]
      exact w8
