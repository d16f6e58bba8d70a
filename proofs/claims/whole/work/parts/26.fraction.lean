/-! ===== fractions, used ===== -/
theorem lN0 : (0 : Int64) = lN 0 := rfl
theorem lcz {b : Nat} (hb : b < 2 ^ 63) : lg_cmp (lN b) 0 = 0 ↔ b = 0 := by
  rw [lN0]; exact (lg_cmp_eq _ _).trans (pk_lEQ hb (by decide))
theorem gcd_half {a b : Nat} (h : 0 < a % b) (hb : 0 < b) {k : Nat} (hk : b < 2 ^ (k + 1)) : b % (a % b) < 2 ^ k := by
  have h1 : a % b < b := Nat.mod_lt _ hb
  have h2 : b % (a % b) < a % b := Nat.mod_lt _ h
  have h3 : b % (a % b) + a % b ≤ b := by
    have := Nat.div_add_mod b (a % b)
    have h4 : 1 ≤ b / (a % b) := (Nat.one_le_div_iff h).mpr (by omega)
    have h5 : a % b ≤ a % b * (b / (a % b)) := Nat.le_mul_of_pos_right _ (by omega)
    omega
  rw [Nat.pow_succ] at hk
  omega
theorem gcd_next {a b : Nat} : Nat.gcd b (a % b) = Nat.gcd a b := by
  rw [Nat.gcd_comm a b, Nat.gcd_rec b a, Nat.gcd_comm]
theorem fr_L6 (K : Int64 → Option (Int32 × Int64 × Int64)) : ∀ (k a b n : Nat), a < 2 ^ 63 → b < 2 ^ 63 → b < 2 ^ k → 2 * k + 1 ≤ n → fX8_fraction_L6 K n (lN a) (lN b) = K (lN (Nat.gcd a b)) := by
  intro k
  induction k with
  | zero =>
    intro a b n ha hb hk hn
    obtain ⟨n, rfl⟩ : ∃ q, n = q + 1 := ⟨n - 1, by omega⟩
    have e : b = 0 := by simp at hk; exact hk
    subst e
    rw [fX8_fraction_L6, if_pos ((lcz hb).mpr rfl), Nat.gcd_zero_right]
  | succ k ih =>
    intro a b n ha hb hk hn
    obtain ⟨n, rfl⟩ : ∃ q, n = q + 2 := ⟨n - 2, by omega⟩
    rw [fX8_fraction_L6]
    by_cases h0 : b = 0
    · rw [if_pos ((lcz hb).mpr h0), h0, Nat.gcd_zero_right]
    · have hne : ¬ lN b = 0 := by rw [lN0, pk_lEQ hb (by decide)]; exact h0
      rw [if_neg (fun c => h0 ((lcz hb).mp c)), og_pos hne, olet, pk_lRem ha (by omega) hb, fX8_fraction_L6]
      have hr : a % b < b := Nat.mod_lt _ (by omega)
      have hrb : a % b < 2 ^ 63 := by omega
      by_cases h1 : a % b = 0
      · rw [if_pos ((lcz hrb).mpr h1), ← gcd_next, h1, Nat.gcd_zero_right]
      · have hne1 : ¬ lN (a % b) = 0 := by rw [lN0, pk_lEQ (by omega) (by decide)]; exact h1
        rw [if_neg (fun c => h1 ((lcz hrb).mp c)), og_pos hne1, olet, pk_lRem hb (by omega) (by omega), ih _ _ n (by omega) (by have := Nat.mod_lt b (show 0 < a % b by omega); omega) (gcd_half (by omega) (by omega) hk) (by omega), gcd_next, gcd_next]
theorem gs_L3 : ∀ (k a b n c : Nat), a < 2 ^ 63 → b < 2 ^ 63 → b < 2 ^ k → 2 * k + 1 ≤ n → c + (2 * k + 1) ≤ 200 → fX2_greatestShared_L3 n (lN a) (lN b) (nI c) = some (lN (Nat.gcd a b)) := by
  intro k
  induction k with
  | zero =>
    intro a b n c ha hb hk hn hc
    obtain ⟨n, rfl⟩ : ∃ q, n = q + 1 := ⟨n - 1, by omega⟩
    have e : b = 0 := by simp at hk; exact hk
    subst e
    rw [fX2_greatestShared_L3, if_neg (show ¬ (200 : Int32) ≤ nI c from lit_le (n := 200) (by omega) (by decide)), if_pos ((lcz hb).mpr rfl), Nat.gcd_zero_right]
  | succ k ih =>
    intro a b n c ha hb hk hn hc
    obtain ⟨n, rfl⟩ : ∃ q, n = q + 2 := ⟨n - 2, by omega⟩
    rw [fX2_greatestShared_L3, if_neg (show ¬ (200 : Int32) ≤ nI c from lit_le (n := 200) (by omega) (by decide))]
    by_cases h0 : b = 0
    · rw [if_pos ((lcz hb).mpr h0), h0, Nat.gcd_zero_right]
    · have hne : ¬ lN b = 0 := by rw [lN0, pk_lEQ hb (by decide)]; exact h0
      rw [if_neg (fun c => h0 ((lcz hb).mp c)), og_pos hne, olet, pk_lRem ha (by omega) hb, fX2_greatestShared_L3, nI_s, if_neg (show ¬ (200 : Int32) ≤ nI (c + 1) from lit_le (n := 200) (by omega) (by decide))]
      have hr : a % b < b := Nat.mod_lt _ (by omega)
      have hrb : a % b < 2 ^ 63 := by omega
      by_cases h1 : a % b = 0
      · rw [if_pos ((lcz hrb).mpr h1), ← gcd_next, h1, Nat.gcd_zero_right]
      · have hne1 : ¬ lN (a % b) = 0 := by rw [lN0, pk_lEQ (by omega) (by decide)]; exact h1
        rw [if_neg (fun c => h1 ((lcz hrb).mp c)), og_pos hne1, olet, pk_lRem hb (by omega) (by omega), nI_s, ih _ _ n _ (by omega) (by have := Nat.mod_lt b (show 0 < a % b by omega); omega) (gcd_half (by omega) (by omega) hk) (by omega) (by omega), gcd_next, gcd_next]
/-- put and fraction agree -/
theorem frac7 (N : Nat) (hN : 400 ≤ N) (ab be : Int64) {u l : Nat} (hu : u < 2 ^ 63) (h0 : 0 < l) (hl : l < 2 ^ 60) : fX2_put N ab be (lN u) (lN l) = some (lN (u / Nat.gcd u l), lN (l / Nat.gcd u l)) := by
  have hg : 0 < Nat.gcd u l := Nat.gcd_pos_of_pos_right _ h0
  have hgl : Nat.gcd u l ≤ l := Nat.gcd_le_right _ h0
  have hne : ¬ lN (Nat.gcd u l) = 0 := by rw [lN0, pk_lEQ (by omega) (by decide)]; omega
  have hc : ¬ lg_cmp (lN (Nat.gcd u l)) 0 ≤ 0 := by rw [lg_cmp_le, lN0, pk_lLE (by omega) (by decide)]; omega
  simp only [fX2_put, fX2_greatestShared]
  rw [show fX2_greatestShared_L3 N (lN u) (lN l) 0 = _ from gs_L3 60 u l N 0 hu (by omega) hl (by omega) (by omega)]
  simp only [ob]
  rw [if_neg hc, og_pos hne, og_pos hne, pk_lDiv hu hg (by omega), pk_lDiv (by omega) hg (by omega)]
theorem frac8 (N : Nat) (hN : 400 ≤ N) (up lo : Int64) {u l : Nat} (hu : u < 2 ^ 63) (h0 : 0 < l) (hl : l < 2 ^ 60) (v : Int32) : fX8_fraction N up lo (lN u) (lN l) v = some (v, lN (u / Nat.gcd u l), lN (l / Nat.gcd u l)) := by
  have hg : 0 < Nat.gcd u l := Nat.gcd_pos_of_pos_right _ h0
  have hgl : Nat.gcd u l ≤ l := Nat.gcd_le_right _ h0
  have hne : ¬ lN (Nat.gcd u l) = 0 := by rw [lN0, pk_lEQ (by omega) (by decide)]; omega
  simp only [fX8_fraction, oj]
  rw [fr_L6 _ 60 u l N hu (by omega) hl (by omega), og_pos hne, og_pos hne, pk_lDiv hu hg (by omega), pk_lDiv (by omega) hg (by omega)]
/-! used -/
theorem shl64 {v : Nat} (s : Int64) (k : Nat) (hs : (s.toBitVec.smod 64).toNat = k) (h : v * 2 ^ k < 2 ^ 63) : lN v <<< s = lN (v * 2 ^ k) := by
  apply Int64.toBitVec_inj.mp
  apply BitVec.eq_of_toNat_eq
  have hv : v < 2 ^ 64 := Nat.lt_of_le_of_lt (Nat.le_mul_of_pos_right v (Nat.two_pow_pos k)) (by omega)
  have tn : ∀ {n : Nat}, n < 2 ^ 64 → (lN n).toBitVec.toNat = n := fun h => Nat.mod_eq_of_lt h
  show ((lN v).toBitVec <<< (s.toBitVec.smod 64).toNat).toNat = _
  rw [hs, BitVec.toNat_shiftLeft, Nat.shiftLeft_eq, tn hv, tn (by omega), Nat.mod_eq_of_lt (by omega)]
theorem sh_q : ∀ q : Nat, q < 16 → ((Int32.toInt64 (nI q) &&& 63).toBitVec.smod 64).toNat = q := by decide +kernel
theorem term_N {v w : Nat} (hv : v ≤ 100000) (hw : w ≤ 60) : Int32.toInt64 (nI v) <<< (Int32.toInt64 (nI w / 4) &&& 63) = lN (v * 2 ^ (w / 4)) := by
  have hq : w / 4 < 16 := by omega
  have hp : 2 ^ (w / 4) ≤ 2 ^ 15 := Nat.pow_le_pow_right (by decide) (by omega)
  have hm : v * 2 ^ (w / 4) ≤ 100000 * 2 ^ 15 := Nat.mul_le_mul hv hp
  rw [show (4 : Int32) = nI 4 from rfl, pk_div (by omega) (by decide) (by decide), nI_l (show v < 2 ^ 31 by omega)]
  exact shl64 _ (w / 4) (sh_q _ hq) (by omega)
theorem ysum_N {ti ra : Nat → Int32} : ∀ n, (∀ k, k < n → (∃ v : Nat, 1 ≤ v ∧ v ≤ 100000 ∧ ti k = nI v) ∧ ∃ v : Nat, 1 ≤ v ∧ v ≤ 60 ∧ ra k = nI v) → ∃ u : Nat, u ≤ n * (100000 * 2 ^ 15) ∧ ysum ti ra n = lN u
  | 0, _ => ⟨0, by omega, rfl⟩
  | n + 1, h => by
    obtain ⟨u, hu, e⟩ := ysum_N n (fun k hk => h k (by omega))
    obtain ⟨⟨v, -, hv, ev⟩, ⟨w, -, hw, ew⟩⟩ := h n (by omega)
    have hp : 2 ^ (w / 4) ≤ 2 ^ 15 := Nat.pow_le_pow_right (by decide) (by omega)
    have hm : v * 2 ^ (w / 4) ≤ 100000 * 2 ^ 15 := Nat.mul_le_mul hv hp
    refine ⟨u + v * 2 ^ (w / 4), by rw [Nat.succ_mul]; omega, ?_⟩
    rw [ysum, e, ev, ew, term_N hv hw, lN_add]
theorem used_L4 {n : Nat} (hn : n ≤ 30) (ti ra : Nat → Int32) (K : Int64 → Option (Int32 × Int64 × Int64)) : ∀ (m i q : Nat), i + m = n → m < q → fX8_used_L4 (nI n) ti ra K q (ysum ti ra i) (nI i) = K (ysum ti ra n) := by
  intro m
  induction m with
  | zero =>
    intro i q hi hq
    obtain ⟨q, rfl⟩ : ∃ z, q = z + 1 := ⟨q - 1, by omega⟩
    have e : i = n := by omega
    subst e
    rw [fX8_used_L4, if_pos (nI_le (by omega) (by omega))]
  | succ m ih =>
    intro i q hi hq
    obtain ⟨q, rfl⟩ : ∃ z, q = z + 1 := ⟨q - 1, by omega⟩
    have g : vp_in (nI i) 30 := vp_in_nI (by omega) (by decide)
    rw [fX8_used_L4, if_neg (lit_le (by omega) (by omega)), og_pos g, og_pos g, olet, tn_nI (by omega), nI_s, ← ysum, ih (i + 1) q (by omega) (by omega)]
theorem m_used (N : Nat) (hN : 400 ≤ N) : op_used N Rel := by
  intro s t hR
  obtain ⟨hF, hA, hU, hS, hL, hRr, hT, hC, hY⟩ := id hR
  obtain ⟨e1, n, hn, en, ep, hq⟩ := id hY
  obtain ⟨u, hu, eu⟩ := ysum_N n hq
  have hu' : u < 2 ^ 63 := by
    have : n * (100000 * 2 ^ 15) ≤ 30 * (100000 * 2 ^ 15) := Nat.mul_le_mul_right _ hn
    omega
  have e65 : (65536 : Int64) = lN 65536 := rfl
  by_cases hc : lg_cmp (lN u) 65536 ≤ 0
  · refine ⟨0, lN (u / Nat.gcd u 65536), lN (65536 / Nat.gcd u 65536), lN (u / Nat.gcd u 65536), lN (65536 / Nat.gcd u 65536), ?_, ?_, hF, hA, ⟨rfl, rfl⟩, hS, hL, hRr, hT, hC, hY⟩
    · simp only [fX7_used, fX1_partsUsed, ob, ep, eu]
      rw [show fX2_put N (pc2_above s) (pc2_below s) (lN u) 65536 = _ from frac7 N hN _ _ hu' (by decide) (by decide)]
      simp only [ob2, ob]
      rw [if_pos hc]
    · simp only [fX8_used, oj, e1, en]
      rw [show fX8_used_L4 (nI n) (pc8_times t) (pc8_ranges t) _ N 0 0 = _ from used_L4 hn _ _ _ n 0 N (by omega) (by omega), eu, if_pos hc]
      simp only [ob]
      rw [show fX8_fraction N (pc8_upper t) (pc8_lower t) (lN u) 65536 0 = _ from frac8 N hN _ _ hu' (by decide) (by decide) 0]
      rfl
  · refine ⟨1, lN (u / Nat.gcd u 65536), lN (65536 / Nat.gcd u 65536), lN (u / Nat.gcd u 65536), lN (65536 / Nat.gcd u 65536), ?_, ?_, hF, hA, ⟨rfl, rfl⟩, hS, hL, hRr, hT, hC, hY⟩
    · simp only [fX7_used, fX1_partsUsed, ob, ep, eu]
      rw [show fX2_put N (pc2_above s) (pc2_below s) (lN u) 65536 = _ from frac7 N hN _ _ hu' (by decide) (by decide)]
      simp only [ob2, ob]
      rw [if_neg hc]
    · simp only [fX8_used, oj, e1, en]
      rw [show fX8_used_L4 (nI n) (pc8_times t) (pc8_ranges t) _ N 0 0 = _ from used_L4 hn _ _ _ n 0 N (by omega) (by omega), eu, if_neg hc]
      simp only [ob]
      rw [show fX8_fraction N (pc8_upper t) (pc8_lower t) (lN u) 65536 1 = _ from frac8 N hN _ _ hu' (by decide) (by decide) 1]
      rfl
