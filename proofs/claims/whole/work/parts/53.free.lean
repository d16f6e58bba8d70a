/-! ===== a free loop, the reference's side ===== -/
theorem run_1 {L : Nat} (hL : L ≤ 240) (xs ys zs : Nat → Int32) (X Y Z : Int32) : ∀ (k c q : Nat), c + k = L + 1 → k < q → fX8_isOnRun_L6 (nI L) xs ys zs X Y Z q 1 (nI c) = some 1 := by
  have n10 : ¬ (1 : Int32) = 0 := by decide
  intro k
  induction k with
  | zero =>
    intro c q hc hq
    obtain ⟨q, rfl⟩ : ∃ z, q = z + 1 := ⟨q - 1, by omega⟩
    rw [fX8_isOnRun_L6, if_pos (nI_lt (by omega) (by omega)), og_pos (Or.inr rfl)]
  | succ k ih =>
    intro c q hc hq
    obtain ⟨q, rfl⟩ : ∃ z, q = z + 1 := ⟨q - 1, by omega⟩
    rw [fX8_isOnRun_L6, if_neg (nI_nlt (by omega) (by omega))]
    simp only [oj, n10, if_false, ob, nI_s]
    exact ih (c + 1) q (by omega) (by omega)
theorem run_0 {L : Nat} (hL : L ≤ 240) (xs ys zs : Nat → Int32) (X Y Z : Int32) : ∀ (k c q : Nat), c + k = L + 1 → k < q → ∃ b : Int32, fX8_isOnRun_L6 (nI L) xs ys zs X Y Z q 0 (nI c) = some b ∧ (b = 0 ∨ b = 1) ∧ (b = 0 ↔ ∀ p, c ≤ p → p ≤ L → ¬ (xs p = X ∧ ys p = Y ∧ zs p = Z)) := by
  have n10 : ¬ (1 : Int32) = 0 := by decide
  intro k
  induction k with
  | zero =>
    intro c q hc hq
    obtain ⟨q, rfl⟩ : ∃ z, q = z + 1 := ⟨q - 1, by omega⟩
    refine ⟨0, ?_, Or.inl rfl, ⟨fun _ p h1 h2 => by omega, fun _ => rfl⟩⟩
    rw [fX8_isOnRun_L6, if_pos (nI_lt (by omega) (by omega)), og_pos (Or.inl rfl)]
  | succ k ih =>
    intro c q hc hq
    obtain ⟨q, rfl⟩ : ∃ z, q = z + 1 := ⟨q - 1, by omega⟩
    have g : vp_in (nI c) 241 := vp_in_nI (by omega) (by decide)
    by_cases e : xs c = X ∧ ys c = Y ∧ zs c = Z
    · refine ⟨1, ?_, Or.inr rfl, ⟨fun z => absurd z n10, fun z => absurd e (z c (Nat.le_refl c) (by omega))⟩⟩
      rw [fX8_isOnRun_L6, if_neg (nI_nlt (by omega) (by omega))]
      simp only [oj, if_true, og_pos g, tn_nI (show c < 2 ^ 31 by omega), nI_s]
      rw [if_pos e.1, if_pos e.2.1, if_pos e.2.2]
      exact run_1 hL xs ys zs X Y Z k (c + 1) q (by omega) (by omega)
    · obtain ⟨b, E, h01, hb⟩ := ih (c + 1) q (by omega) (by omega)
      refine ⟨b, ?_, h01, hb.trans ⟨fun z p h1 h2 => ?_, fun z p h1 h2 => z p (by omega) h2⟩⟩
      · rw [fX8_isOnRun_L6, if_neg (nI_nlt (by omega) (by omega))]
        simp only [oj, if_true, og_pos g, tn_nI (show c < 2 ^ 31 by omega), nI_s]
        by_cases c1 : xs c = X
        · rw [if_pos c1]
          by_cases c2 : ys c = Y
          · rw [if_pos c2]
            by_cases c3 : zs c = Z
            · exact absurd ⟨c1, c2, c3⟩ e
            · rw [if_neg c3]; exact E
          · rw [if_neg c2]; exact E
        · rw [if_neg c1]; exact E
      · rcases Nat.lt_or_ge c p with q1 | q1
        · exact z p (by omega) h2
        · rw [show p = c by omega]; exact e
/-- the point q stands k units out of the point p -/
def AT (xs ys zs : Nat → Int32) (v q p k : Nat) : Prop := ∀ a, a < 3 → cA xs ys zs a q = cA xs ys zs a p + (if v / 2 = a then nI k * sgn (nI v) else 0)
def tk (xs ys zs : Nat → Int32) (L v p k : Nat) : Prop := ∃ q, q ≤ L ∧ AT xs ys zs v q p k
theorem all3 {P : Nat → Prop} : (∀ a, a < 3 → P a) ↔ P 0 ∧ P 1 ∧ P 2 := by
  constructor
  · intro h; exact ⟨h 0 (by omega), h 1 (by omega), h 2 (by omega)⟩
  · rintro ⟨h0, h1, h2⟩ a ha
    rcases (show a = 0 ∨ a = 1 ∨ a = 2 by omega) with rfl | rfl | rfl
    · exact h0
    · exact h1
    · exact h2
theorem taken_eq (N : Nat) (hN : 400 ≤ N) {L : Nat} (hL : L ≤ 240) (xs ys zs : Nat → Int32) {p v : Nat} (hp : p ≤ L) (hv : v < 6) (k : Nat) : ∃ b : Int32, fX8_isTaken N (nI L) xs ys zs (nI p) (nI v) (nI k) = some b ∧ (b = 0 ↔ ¬ tk xs ys zs L v p k) := by
  have g : vp_in (nI p) 241 := vp_in_nI (by omega) (by decide)
  have i0 : (nI v / 2 = 0) ↔ v / 2 = 0 := by rw [way_d hv]; exact nI_eq (a := v / 2) (b := 0) (by omega) (by omega)
  have i1 : (nI v / 2 = 1) ↔ v / 2 = 1 := by rw [way_d hv]; exact nI_eq (a := v / 2) (b := 1) (by omega) (by omega)
  have i2 : (nI v / 2 = 2) ↔ v / 2 = 2 := by rw [way_d hv]; exact nI_eq (a := v / 2) (b := 2) (by omega) (by omega)
  obtain ⟨b, E, h01, hb⟩ := run_0 hL xs ys zs (xs p + (if v / 2 = 0 then nI k * sgn (nI v) else 0)) (ys p + (if v / 2 = 1 then nI k * sgn (nI v) else 0)) (zs p + (if v / 2 = 2 then nI k * sgn (nI v) else 0)) (L + 1) 0 N (by omega) (by omega)
  refine ⟨b, ?_, ?_⟩
  · simp only [fX8_isTaken, sg8, ob, olet, og_pos g, ite_some, i0, i1, i2, tn_nI (show p < 2 ^ 31 by omega), fX8_isOnRun]
    rw [show fX8_isOnRun_L6 (nI L) xs ys zs _ _ _ N 0 0 = _ from E]
    simp only [og_pos h01]
  · rw [hb]
    constructor
    · rintro h ⟨q, hq, e⟩
      rw [AT, all3] at e
      exact h q (by omega) hq e
    · intro h q _ hq e
      exact h ⟨q, hq, by rw [AT, all3]; exact e⟩
theorem free_L6 {n i : Nat} {wy un so : Nat → Int32} (hn : n ≤ 12) (hq : LegOk n wy un so) (hi : i < n) : ∀ (k j q : Nat), j + k = i → k < q → ∀ K, fX8_isFree_L6 un (nI i) K q (nI (us un j)) (nI j) = K (nI (us un i)) := by
  intro k
  induction k with
  | zero =>
    intro j q hj hq' K
    obtain ⟨q, rfl⟩ : ∃ z, q = z + 1 := ⟨q - 1, by omega⟩
    have e : j = i := by omega
    subst e
    rw [fX8_isFree_L6, if_pos (nI_le (by omega) (by omega))]
  | succ k ih =>
    intro j q hj hq' K
    obtain ⟨q, rfl⟩ : ∃ z, q = z + 1 := ⟨q - 1, by omega⟩
    have g : vp_in (nI j) 12 := vp_in_nI (by omega) (by decide)
    obtain ⟨-, ⟨u, hu1, hu2, eu⟩, -⟩ := hq j (by omega)
    have ih' := ih (j + 1) q (by omega) (by omega) K
    rw [us, eu, tn_nI (by omega)] at ih'
    rw [fX8_isFree_L6, if_neg (lit_le (by omega) (by omega)), og_pos g, tn_nI (by omega), eu]
    simp only [olet, nI_add, nI_s]
    exact ih'
theorem free_L46 (N : Nat) (hN : 400 ≤ N) {L : Nat} (hL : L ≤ 240) (xs ys zs : Nat → Int32) {v d s W : Nat} (hv : v < 6) (hd : d ≤ 20) (hs : s + 2 * W ≤ L) : ∀ (k c q : Nat) (b0 : Int32), c + k = d + 1 → k < q → (b0 = 0 ∨ b0 = 1) → ∃ b : Int32, (b = 0 ∨ b = 1) ∧ (¬ b = 0 ↔ ¬ b0 = 0 ∧ ∀ e, c ≤ e → e ≤ d → ¬ tk xs ys zs L v (s + W) e ∧ ¬ tk xs ys zs L v (s + 2 * W) e) ∧ ∀ K, fX8_isFree_L46 N (nI L) xs ys zs (nI v) (nI d) (nI s) (nI W) K q b0 (nI c) = K b := by
  have n10 : ¬ (1 : Int32) = 0 := by decide
  have e2 : nI s + 2 * nI W = nI (s + 2 * W) := by
    rw [show (2 : Int32) = nI 2 from rfl, pk_mul, nI_add]
  intro k
  induction k with
  | zero =>
    intro c q b0 hc hq h0
    obtain ⟨q, rfl⟩ : ∃ z, q = z + 1 := ⟨q - 1, by omega⟩
    refine ⟨b0, h0, ⟨fun z => ⟨z, fun e h1 h2 => by omega⟩, fun z => z.1⟩, fun K => ?_⟩
    rw [fX8_isFree_L46, if_pos (nI_lt (by omega) (by omega))]
  | succ k ih =>
    intro c q b0 hc hq h0
    obtain ⟨q, rfl⟩ : ∃ z, q = z + 1 := ⟨q - 1, by omega⟩
    obtain ⟨t1, T1, U1⟩ := taken_eq N hN hL xs ys zs (p := s + W) (v := v) (by omega) hv c
    obtain ⟨t2, T2, U2⟩ := taken_eq N hN hL xs ys zs (p := s + 2 * W) (v := v) (by omega) hv c
    have key : ∃ b1 : Int32, (b1 = 0 ∨ b1 = 1) ∧ (¬ b1 = 0 ↔ ¬ b0 = 0 ∧ ¬ tk xs ys zs L v (s + W) c ∧ ¬ tk xs ys zs L v (s + 2 * W) c) ∧ ∀ K, fX8_isFree_L46 N (nI L) xs ys zs (nI v) (nI d) (nI s) (nI W) K (q + 1) b0 (nI c) = fX8_isFree_L46 N (nI L) xs ys zs (nI v) (nI d) (nI s) (nI W) K q b1 (nI (c + 1)) := by
      have u8 : ∀ K, fX8_isFree_L46 N (nI L) xs ys zs (nI v) (nI d) (nI s) (nI W) K (q + 1) b0 (nI c) = ob (if b0 = 0 then some 0 else if t1 = 0 then (if t2 = 0 then some 1 else some 0) else some 0) (fun t23 => fX8_isFree_L46 N (nI L) xs ys zs (nI v) (nI d) (nI s) (nI W) K q t23 (nI (c + 1))) := fun K => by
        rw [fX8_isFree_L46, if_neg (nI_nlt (by omega) (by omega))]
        simp only [oj, nI_add, e2, T1, T2, ob, nI_s]
      by_cases c0 : b0 = 0
      · exact ⟨0, Or.inl rfl, ⟨fun z => absurd rfl z, fun z => absurd c0 z.1⟩, fun K => by rw [u8 K, if_pos c0]; rfl⟩
      · by_cases c1 : t1 = 0
        · by_cases c2 : t2 = 0
          · exact ⟨1, Or.inr rfl, ⟨fun _ => ⟨c0, U1.mp c1, U2.mp c2⟩, fun _ => n10⟩, fun K => by rw [u8 K, if_neg c0, if_pos c1, if_pos c2]; rfl⟩
          · exact ⟨0, Or.inl rfl, ⟨fun z => absurd rfl z, fun z => absurd (U2.mpr z.2.2) c2⟩, fun K => by rw [u8 K, if_neg c0, if_pos c1, if_neg c2]; rfl⟩
        · exact ⟨0, Or.inl rfl, ⟨fun z => absurd rfl z, fun z => absurd (U1.mpr z.2.1) c1⟩, fun K => by rw [u8 K, if_neg c0, if_neg c1]; rfl⟩
    obtain ⟨b1, h1, k1, E1⟩ := key
    obtain ⟨b, h2, k2, E2⟩ := ih (c + 1) q b1 (by omega) (by omega) h1
    refine ⟨b, h2, ?_, fun K => by rw [E1 K]; exact E2 K⟩
    rw [k2, k1]
    constructor
    · rintro ⟨⟨z1, z2⟩, z3⟩
      refine ⟨z1, fun e h3 h4 => ?_⟩
      rcases Nat.lt_or_ge c e with q1 | q1
      · exact z3 e (by omega) h4
      · rw [show e = c by omega]; exact z2
    · rintro ⟨z1, z2⟩
      exact ⟨⟨z1, z2 c (Nat.le_refl c) (by omega)⟩, fun e h3 h4 => z2 e (by omega) h4⟩
theorem free_L109 (N : Nat) (hN : 400 ≤ N) {L : Nat} (hL : L ≤ 240) (xs ys zs : Nat → Int32) {v d s W : Nat} (hv : v < 6) (hs : s + 2 * W ≤ L) : ∀ (k c q : Nat) (b0 : Int32), c + k = s + 2 * W + 1 → k < q → (b0 = 0 ∨ b0 = 1) → ∃ b : Int32, (¬ b = 0 ↔ ¬ b0 = 0 ∧ ∀ p, c ≤ p → p ≤ s + 2 * W → ¬ tk xs ys zs L v p d) ∧ fX8_isFree_L109 N (nI L) xs ys zs (nI v) (nI d) (nI s) (nI W) q b0 (nI c) = some b := by
  have n10 : ¬ (1 : Int32) = 0 := by decide
  have e2 : nI s + 2 * nI W = nI (s + 2 * W) := by
    rw [show (2 : Int32) = nI 2 from rfl, pk_mul, nI_add]
  intro k
  induction k with
  | zero =>
    intro c q b0 hc hq h0
    obtain ⟨q, rfl⟩ : ∃ z, q = z + 1 := ⟨q - 1, by omega⟩
    refine ⟨b0, ⟨fun z => ⟨z, fun e h1 h2 => by omega⟩, fun z => z.1⟩, ?_⟩
    rw [fX8_isFree_L109, e2, if_pos (nI_lt (by omega) (by omega)), og_pos h0]
  | succ k ih =>
    intro c q b0 hc hq h0
    obtain ⟨q, rfl⟩ : ∃ z, q = z + 1 := ⟨q - 1, by omega⟩
    obtain ⟨t1, T1, U1⟩ := taken_eq N hN hL xs ys zs (p := c) (v := v) (by omega) hv d
    have key : ∃ b1 : Int32, (b1 = 0 ∨ b1 = 1) ∧ (¬ b1 = 0 ↔ ¬ b0 = 0 ∧ ¬ tk xs ys zs L v c d) ∧ fX8_isFree_L109 N (nI L) xs ys zs (nI v) (nI d) (nI s) (nI W) (q + 1) b0 (nI c) = fX8_isFree_L109 N (nI L) xs ys zs (nI v) (nI d) (nI s) (nI W) q b1 (nI (c + 1)) := by
      have u8 : fX8_isFree_L109 N (nI L) xs ys zs (nI v) (nI d) (nI s) (nI W) (q + 1) b0 (nI c) = ob (if b0 = 0 then some 0 else if t1 = 0 then some 1 else some 0) (fun t23 => fX8_isFree_L109 N (nI L) xs ys zs (nI v) (nI d) (nI s) (nI W) q t23 (nI (c + 1))) := by
        rw [fX8_isFree_L109, e2, if_neg (nI_nlt (by omega) (by omega))]
        simp only [oj, T1, ob, nI_s]
      by_cases c0 : b0 = 0
      · exact ⟨0, Or.inl rfl, ⟨fun z => absurd rfl z, fun z => absurd c0 z.1⟩, by rw [u8, if_pos c0]; rfl⟩
      · by_cases c1 : t1 = 0
        · exact ⟨1, Or.inr rfl, ⟨fun _ => ⟨c0, U1.mp c1⟩, fun _ => n10⟩, by rw [u8, if_neg c0, if_pos c1]; rfl⟩
        · exact ⟨0, Or.inl rfl, ⟨fun z => absurd rfl z, fun z => absurd (U1.mpr z.2) c1⟩, by rw [u8, if_neg c0, if_neg c1]; rfl⟩
    obtain ⟨b1, h1, k1, E1⟩ := key
    obtain ⟨b, k2, E2⟩ := ih (c + 1) q b1 (by omega) (by omega) h1
    refine ⟨b, ?_, by rw [E1]; exact E2⟩
    rw [k2, k1]
    constructor
    · rintro ⟨⟨z1, z2⟩, z3⟩
      refine ⟨z1, fun e h3 h4 => ?_⟩
      rcases Nat.lt_or_ge c e with q1 | q1
      · exact z3 e (by omega) h4
      · rw [show e = c by omega]; exact z2
    · rintro ⟨z1, z2⟩
      exact ⟨⟨z1, z2 c (Nat.le_refl c) (by omega)⟩, fun e h3 h4 => z2 e (by omega) h4⟩
/-- a loop is free, the reference's side -/
theorem free_eq (N : Nat) (hN : 400 ≤ N) {n : Nat} {le ln : Int32} {wy un so uw ut xs ys zs : Nat → Int32} (h : RLn n le ln wy un so uw ut xs ys zs) {i u v d : Nat} (hi : i < n) (eu : un i = nI u) (hu : u ≤ 20) (hv : v < 6) (hd : d ≤ 20) : ∃ b : Int32, (¬ b = 0 ↔ (∀ e, 1 ≤ e → e ≤ d → ¬ tk xs ys zs (us un n) v (us un i + u / 3) e ∧ ¬ tk xs ys zs (us un n) v (us un i + 2 * (u / 3)) e) ∧ ∀ p, us un i + u / 3 ≤ p → p ≤ us un i + 2 * (u / 3) → ¬ tk xs ys zs (us un n) v p d) ∧ fX8_isFree N ln un xs ys zs (nI i) (nI v) (nI d) = some b := by
  have hn := h.1
  have n10 : ¬ (1 : Int32) = 0 := by decide
  have htot : us un n ≤ 240 := by have := us_le n (fun j hj => (h.2.2.2.1 j hj).2.1); omega
  have hle : us un i + u ≤ us un n := by
    have := us_mono (un := un) (i := i + 1) (n := n) (by omega)
    rw [us, eu, tn_nI (by omega)] at this; omega
  have g : vp_in (nI i) 12 := vp_in_nI (by omega) (by decide)
  have e3 : nI u / 3 = nI (u / 3) := pk_div (a := u) (d := 3) (by omega) (by decide) (by decide)
  have F := free_L6 hn h.2.2.2.1 hi i 0 N (by omega) (by omega)
  obtain ⟨b1, h1, k1, E1⟩ := free_L46 N hN htot xs ys zs (v := v) (d := d) (s := us un i) (W := u / 3) hv hd (by omega) d 1 N 1 (by omega) (by omega) (Or.inr rfl)
  obtain ⟨b2, k2, E2⟩ := free_L109 N hN htot xs ys zs (v := v) (d := d) (s := us un i) (W := u / 3) hv (by omega) (u / 3 + 1) (us un i + u / 3) N b1 (by omega) (by omega) h1
  refine ⟨b2, ?_, ?_⟩
  · rw [k2, k1]
    constructor
    · rintro ⟨⟨-, z⟩, z2⟩; exact ⟨z, z2⟩
    · rintro ⟨z, z2⟩; exact ⟨⟨n10, z⟩, z2⟩
  · rw [fX8_isFree]
    simp only [oj, olet, og_pos g, tn_nI (show i < 2 ^ 31 by omega), eu, e3]
    rw [show fX8_isFree_L6 un (nI i) _ N 0 0 = _ from F _, h.2.2.1]
    simp only [nI_add]
    rw [show fX8_isFree_L46 N (nI (us un n)) xs ys zs (nI v) (nI d) (nI (us un i)) (nI (u / 3)) _ N 1 1 = _ from E1 _]
    exact E2
