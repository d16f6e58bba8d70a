/-! ===== a loop meets, or is free ===== -/
theorem sgn_pm (w : Int32) : (sgn w).toInt = 1 ∨ (sgn w).toInt = -1 := by
  rw [sgn]
  by_cases c : w - w / 2 * 2 = 0
  · rw [if_pos c]; left; decide
  · rw [if_neg c]; right; decide
theorem lin {n : Nat} {le ln : Int32} {wy un so uw ut xs ys zs : Nat → Int32} (h : RLn n le ln wy un so uw ut xs ys zs) {i u w : Nat} (hi : i < n) (hw : w < 6) (ew : wy i = nI w) (eu : un i = nI u) (hu : u ≤ 20) (t : Nat) : ∀ j a, a < 3 → t + j ≤ u → (cA xs ys zs a (us un i + t + j)).toInt = (cA xs ys zs a (us un i + t)).toInt + (if w / 2 = a then (j : Int) * (sgn (nI w)).toInt else 0) := by
  have hle : us un i + u ≤ us un n := by
    have := us_mono (un := un) (i := i + 1) (n := n) (by omega)
    rw [us, eu, tn_nI (by omega)] at this; omega
  intro j
  induction j with
  | zero =>
    intro a ha hj
    by_cases c : w / 2 = a
    · rw [if_pos c]; simp
    · rw [if_neg c]; simp
  | succ j ih =>
    intro a ha hj
    have i1 := ih a ha (by omega)
    have b1 := cA_b h a (p := us un i + t + j) (by omega)
    have ewu : uw (us un i + t + j) = nI w := by
      rw [Nat.add_assoc, (h.2.2.2.2.1 i (t + j) hi (by rw [eu, tn_nI (by omega)]; omega)).1, ew]
    have es : (stp a (uw (us un i + t + j))).toInt = if w / 2 = a then (sgn (nI w)).toInt else 0 := by
      rw [ewu, stp, way_d hw]
      by_cases c : w / 2 = a
      · rw [if_pos c, if_pos (by rw [c]), sgn, way_d hw]
      · rw [if_neg c, if_neg (fun z => c ((nI_eq (by omega) (by omega)).mp z))]; decide
    have pm := sgn_pm (nI w)
    rw [show us un i + t + (j + 1) = us un i + t + j + 1 by omega, cA_s h ha (by omega), fb_addI, es, i1]
    · by_cases c : w / 2 = a
      · rw [if_pos c, if_pos c, if_pos c]
        rcases pm with e | e
        · rw [e]; omega
        · rw [e]; omega
      · rw [if_neg c, if_neg c, if_neg c]; omega
    · rw [es]
      by_cases c : w / 2 = a
      · rw [if_pos c]; omega
      · rw [if_neg c]; omega
    · rw [es]
      by_cases c : w / 2 = a
      · rw [if_pos c]; omega
      · rw [if_neg c]; omega
theorem at_int {n : Nat} {le ln : Int32} {wy un so uw ut xs ys zs : Nat → Int32} (h : RLn n le ln wy un so uw ut xs ys zs) {q p : Nat} (hp : p ≤ us un n) (v : Nat) {k : Nat} (hk : k ≤ 20) : AT xs ys zs v q p k ↔ ∀ a, a < 3 → (cA xs ys zs a q).toInt = (cA xs ys zs a p).toInt + (if v / 2 = a then (k : Int) * (sgn (nI v)).toInt else 0) := by
  have key : ∀ a, a < 3 → ((cA xs ys zs a q = cA xs ys zs a p + (if v / 2 = a then nI k * sgn (nI v) else 0)) ↔ (cA xs ys zs a q).toInt = (cA xs ys zs a p).toInt + (if v / 2 = a then (k : Int) * (sgn (nI v)).toInt else 0)) := by
    intro a ha
    have b1 := cA_b h a hp
    have pm := sgn_pm (nI v)
    have em : (nI k * sgn (nI v)).toInt = (k : Int) * (sgn (nI v)).toInt := by
      rw [fb_mulI, nI_T (by omega)]
      · rw [nI_T (by omega)]; rcases pm with e | e <;> rw [e] <;> omega
      · rw [nI_T (by omega)]; rcases pm with e | e <;> rw [e] <;> omega
    have bk : -20 ≤ (k : Int) * (sgn (nI v)).toInt ∧ (k : Int) * (sgn (nI v)).toInt ≤ 20 := by
      rcases pm with e | e <;> rw [e] <;> omega
    rw [eqT]
    by_cases c : v / 2 = a
    · rw [if_pos c, if_pos c, fb_addI, em]
      · rw [em]; omega
      · rw [em]; omega
    · rw [if_neg c, if_neg c, Int32.add_zero, Int.add_zero]
  constructor
  · intro z a ha; exact (key a ha).mp (z a ha)
  · intro z a ha; exact (key a ha).mpr (z a ha)
/-- a point stands j ahead of the foot and k out -/
theorem at_iff {n : Nat} {le ln : Int32} {wy un so uw ut xs ys zs : Nat → Int32} (h : RLn n le ln wy un so uw ut xs ys zs) {i u w v : Nat} (hi : i < n) (hw : w < 6) (ew : wy i = nI w) (eu : un i = nI u) (hu : u ≤ 20) (hv : v < 6) (hne : ¬ w / 2 = v / 2) {q j k : Nat} (hq : q ≤ us un n) (hj : j ≤ u / 3) (hk : k ≤ 20) : AT xs ys zs v q (us un i + u / 3 + j) k ↔ (cA xs ys zs (3 - w / 2 - v / 2) q - cA xs ys zs (3 - w / 2 - v / 2) (us un i + u / 3)).toInt = 0 ∧ (sgn (nI w) * (cA xs ys zs (w / 2) q - cA xs ys zs (w / 2) (us un i + u / 3))).toInt = j ∧ (sgn (nI v) * (cA xs ys zs (v / 2) q - cA xs ys zs (v / 2) (us un i + u / 3))).toInt = k := by
  have hle : us un i + u ≤ us un n := by
    have := us_mono (un := un) (i := i + 1) (n := n) (by omega)
    rw [us, eu, tn_nI (by omega)] at this; have := h.1; omega
  have ln_ := fun a ha => lin h hi hw ew eu hu (u / 3) j a ha (by omega)
  have sub : ∀ a, (cA xs ys zs a q - cA xs ys zs a (us un i + u / 3)).toInt = (cA xs ys zs a q).toInt - (cA xs ys zs a (us un i + u / 3)).toInt := by
    intro a
    have b1 := cA_b h a hq
    have b2 := cA_b h a (p := us un i + u / 3) (by omega)
    exact fb_subI (by omega) (by omega)
  have mulw : ∀ (y : Nat) (a : Nat), (sgn (nI y) * (cA xs ys zs a q - cA xs ys zs a (us un i + u / 3))).toInt = (sgn (nI y)).toInt * ((cA xs ys zs a q).toInt - (cA xs ys zs a (us un i + u / 3)).toInt) := by
    intro y a
    have b1 := cA_b h a hq
    have b2 := cA_b h a (p := us un i + u / 3) (by omega)
    have pm := sgn_pm (nI y)
    rw [fb_mulI, sub]
    · rw [sub]; rcases pm with e | e <;> rw [e] <;> omega
    · rw [sub]; rcases pm with e | e <;> rw [e] <;> omega
  rw [at_int h (by omega) v hk, sub, mulw, mulw]
  have pw := sgn_pm (nI w)
  have pv := sgn_pm (nI v)
  generalize (sgn (nI w)).toInt = sw at pw ln_ ⊢
  generalize (sgn (nI v)).toInt = sv at pv ⊢
  constructor
  · intro z
    have z0 := z (3 - w / 2 - v / 2) (by omega)
    have z1 := z (w / 2) (by omega)
    have z2 := z (v / 2) (by omega)
    rw [ln_ _ (by omega), if_neg (by omega), if_neg (by omega)] at z0
    rw [ln_ _ (by omega), if_pos rfl, if_neg (by omega)] at z1
    rw [ln_ _ (by omega), if_neg (by omega), if_pos rfl] at z2
    rcases pw with e1 | e1 <;> rcases pv with e2 | e2 <;> rw [e1] at z1 ⊢ <;> rw [e2] at z2 ⊢ <;> refine ⟨?_, ?_, ?_⟩ <;> omega
  · rintro ⟨z0, z1, z2⟩ a ha
    rw [ln_ a ha]
    rcases (show a = 3 - w / 2 - v / 2 ∨ a = w / 2 ∨ a = v / 2 by omega) with rfl | rfl | rfl
    · rw [if_neg (by omega), if_neg (by omega)]; omega
    · rw [if_pos rfl, if_neg (by omega)]
      rcases pw with e1 | e1 <;> rw [e1] at z1 ⊢ <;> omega
    · rw [if_neg (by omega), if_pos rfl]
      rcases pv with e1 | e1 <;> rw [e1] at z2 ⊢ <;> omega
theorem free_iff {n : Nat} {le ln : Int32} {wy un so uw ut xs ys zs : Nat → Int32} (h : RLn n le ln wy un so uw ut xs ys zs) {i u w v d : Nat} (hi : i < n) (hw : w < 6) (ew : wy i = nI w) (eu : un i = nI u) (hu : u ≤ 20) (hv : v < 6) (hne : ¬ w / 2 = v / 2) (hd1 : 1 ≤ d) (hd : d ≤ 20) : (∀ q, q ≤ us un n → ¬ MQt xs ys zs w v u (us un i + u / 3) q d) ↔ ((∀ e, 1 ≤ e → e ≤ d → ¬ tk xs ys zs (us un n) v (us un i + u / 3) e ∧ ¬ tk xs ys zs (us un n) v (us un i + 2 * (u / 3)) e) ∧ ∀ p, us un i + u / 3 ≤ p → p ≤ us un i + 2 * (u / 3) → ¬ tk xs ys zs (us un n) v p d) := by
  constructor
  · intro z
    have key : ∀ j k, j ≤ u / 3 → 1 ≤ k → k ≤ d → (j = 0 ∨ j = u / 3 ∨ k = d) → ¬ tk xs ys zs (us un n) v (us un i + u / 3 + j) k := by
      rintro j k hj hk1 hk2 hx ⟨q, hq, e⟩
      obtain ⟨e0, e1, e2⟩ := (at_iff h hi hw ew eu hu hv hne hq hj (show k ≤ 20 by omega)).mp e
      refine z q hq ⟨e0, by rw [e1]; omega, by rw [e1]; omega, by rw [e2]; omega, by rw [e2]; omega, ?_⟩
      rw [e1, e2]
      rcases hx with hx | hx | hx
      · left; exact ⟨Or.inl (by omega), by omega⟩
      · left; exact ⟨Or.inr (by omega), by omega⟩
      · right; omega
    refine ⟨fun e h1 h2 => ⟨key 0 e (by omega) h1 h2 (Or.inl rfl), ?_⟩, fun p h1 h2 => ?_⟩
    · have := key (u / 3) e (Nat.le_refl _) h1 h2 (Or.inr (Or.inl rfl))
      rw [show us un i + u / 3 + u / 3 = us un i + 2 * (u / 3) by omega] at this
      exact this
    · have := key (p - (us un i + u / 3)) d (by omega) hd1 (Nat.le_refl _) (Or.inr (Or.inr rfl))
      rw [show us un i + u / 3 + (p - (us un i + u / 3)) = p by omega] at this
      exact this
  · rintro ⟨z1, z2⟩ q hq ⟨m0, m1, m2, m3, m4, m5⟩
    obtain ⟨j, ej⟩ := Int.eq_ofNat_of_zero_le m1
    obtain ⟨k, ek⟩ := Int.eq_ofNat_of_zero_le (show (0 : Int) ≤ _ from by omega : (0 : Int) ≤ (sgn (nI v) * (cA xs ys zs (v / 2) q - cA xs ys zs (v / 2) (us un i + u / 3))).toInt)
    rw [ej] at m2 m5
    rw [ek] at m3 m4 m5
    have hj : j ≤ u / 3 := by omega
    have a := (at_iff h hi hw ew eu hu hv hne hq hj (show k ≤ 20 by omega)).mpr ⟨m0, ej, ek⟩
    have t : tk xs ys zs (us un n) v (us un i + u / 3 + j) k := ⟨q, hq, a⟩
    rcases m5 with ⟨m5 | m5, m6⟩ | m5
    · rw [show us un i + u / 3 + j = us un i + u / 3 by omega] at t
      exact (z1 k (by omega) (by omega)).1 t
    · rw [show us un i + u / 3 + j = us un i + 2 * (u / 3) by omega] at t
      exact (z1 k (by omega) (by omega)).2 t
    · rw [show k = d by omega] at t
      exact z2 _ (by omega) (by omega) t
