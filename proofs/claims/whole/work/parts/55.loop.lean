/-! ===== how much is spare with a loop ===== -/
theorem val_lt {U R d T G : Nat} (hR : R ≤ U) (hU : U ≤ 240) (hd : d ≤ 20) (hT : T ≤ 100) (hG : G < 2 ^ 17) : (30 * (nI U + 2 * nI d - nI R) * (nI U + 2 * nI d - nI R) - nI T * nI G < 0) ↔ 30 * ((U + 2 * d - R) * (U + 2 * d - R)) < T * G := by
  have e1 : nI U + 2 * nI d - nI R = nI (U + 2 * d - R) := by
    rw [show (2 : Int32) = nI 2 from rfl, pk_mul, nI_add, pk_sub (by omega)]
  have s1 : (U + 2 * d - R) * (U + 2 * d - R) ≤ 280 * 280 := sq_le (by omega)
  have s2 : T * G ≤ 100 * 2 ^ 17 := Nat.mul_le_mul hT (by omega)
  rw [e1, show (30 : Int32) = nI 30 from rfl, pk_mul, pk_mul, pk_mul, Nat.mul_assoc]
  generalize (U + 2 * d - R) * (U + 2 * d - R) = A at s1 ⊢
  generalize T * G = B at s2 ⊢
  rw [ltT, t_0, fb_subI, nI_T (by omega), nI_T (by omega)]
  · omega
  · rw [nI_T (by omega), nI_T (by omega)]; omega
  · rw [nI_T (by omega), nI_T (by omega)]; omega
theorem room_eq (N : Nat) (hN : 400 ≤ N) {n : Nat} {le ln : Int32} {wy un so uw ut xs ys zs : Nat → Int32} (h : RLn n le ln wy un so uw ut xs ys zs) {by_ sz we : Nat → Int32} (hS : RS by_ sz we) {st T : Nat} (hs : st < 16) (hT : T ≤ 100) : ∃ v : Nat → Int32, (∀ d, d ≤ 20 → fX5_spare N le ln wy un so by_ sz (nI st) (nI T) (2 * nI d) = some (v d) ∧ fX8_room N ln sz by_ uw ut xs ys zs (nI st) (nI T) (2 * nI d) = some (v d)) ∧ ∀ c d, c ≤ d → d ≤ 20 → ¬ v c < 0 → ¬ v d < 0 := by
  have htot : us un n ≤ 240 := by have := us_le n (fun j hj => (h.2.2.2.1 j hj).2.1); have := h.1; omega
  obtain ⟨R, G, hR, hG, E⟩ := spare_eq N hN h hS hs
  refine ⟨fun d => 30 * (ln + 2 * nI d - nI R) * (ln + 2 * nI d - nI R) - nI T * nI G, fun d _ => E _ _, fun c d hcd hd => ?_⟩
  show ¬ 30 * (ln + 2 * nI c - nI R) * (ln + 2 * nI c - nI R) - nI T * nI G < 0 → ¬ 30 * (ln + 2 * nI d - nI R) * (ln + 2 * nI d - nI R) - nI T * nI G < 0
  rw [h.2.2.1, val_lt hR htot hd hT hG, val_lt hR htot (by omega) hT hG]
  have s1 : (us un n + 2 * c - R) * (us un n + 2 * c - R) ≤ (us un n + 2 * d - R) * (us un n + 2 * d - R) := sq_le (by omega)
  omega
theorem first_L2 (N : Nat) {le ln : Int32} {wy un so by_ sz : Nat → Int32} {S T : Int32} {v : Nat → Int32} (E : ∀ d, d ≤ 20 → fX5_spare N le ln wy un so by_ sz S T (2 * nI d) = some (v d)) : ∀ (k c q : Nat), c + k = 21 → k < q → ∃ F, c ≤ F ∧ F ≤ 21 ∧ fX5_firstSoft_L2 N le ln wy un so by_ sz S T q (nI c) = some (nI F) ∧ (∀ d, c ≤ d → d < F → v d < 0) ∧ (F ≤ 20 → ¬ v F < 0) := by
  intro k
  induction k with
  | zero =>
    intro c q hc hq
    obtain ⟨q, rfl⟩ : ∃ z, q = z + 1 := ⟨q - 1, by omega⟩
    refine ⟨21, by omega, Nat.le_refl _, ?_, fun d h1 h2 => by omega, fun z => by omega⟩
    rw [fX5_firstSoft_L2, if_pos (show (20 : Int32) < nI c from nI_lt (a := 20) (by omega) (by omega))]; rfl
  | succ k ih =>
    intro c q hc hq
    obtain ⟨q, rfl⟩ : ∃ z, q = z + 1 := ⟨q - 1, by omega⟩
    by_cases c0 : v c < 0
    · obtain ⟨F, f1, f2, e, f3, f4⟩ := ih (c + 1) q (by omega) (by omega)
      refine ⟨F, by omega, f2, ?_, fun d h1 h2 => ?_, f4⟩
      · rw [fX5_firstSoft_L2, if_neg (show ¬ (20 : Int32) < nI c from nI_nlt (a := 20) (by omega) (by omega)), E c (by omega)]
        simp only [ob, if_pos c0, nI_s]
        exact e
      · rcases Nat.lt_or_ge c d with z | z
        · exact f3 d (by omega) h2
        · rw [show d = c by omega]; exact c0
    · refine ⟨c, Nat.le_refl c, by omega, ?_, fun d h1 h2 => by omega, fun _ => c0⟩
      rw [fX5_firstSoft_L2, if_neg (show ¬ (20 : Int32) < nI c from nI_nlt (a := 20) (by omega) (by omega)), E c (by omega)]
      simp only [ob, if_neg c0]
theorem first_eq (N : Nat) (hN : 400 ≤ N) {n : Nat} {le ln : Int32} {wy un so uw ut xs ys zs : Nat → Int32} (h : RLn n le ln wy un so uw ut xs ys zs) {by_ sz we : Nat → Int32} (hS : RS by_ sz we) {st T : Nat} (hs : st < 16) (hT : T ≤ 100) : ∃ (v : Nat → Int32) (F : Nat), 1 ≤ F ∧ F ≤ 21 ∧ fX5_firstSoft N le ln wy un so by_ sz (nI st) (nI T) = some (nI F) ∧ (∀ d, d ≤ 20 → fX8_room N ln sz by_ uw ut xs ys zs (nI st) (nI T) (2 * nI d) = some (v d)) ∧ (∀ d, 1 ≤ d → d < F → v d < 0) ∧ ∀ d, F ≤ d → d ≤ 20 → ¬ v d < 0 := by
  obtain ⟨v, E, M⟩ := room_eq N hN h hS hs hT
  obtain ⟨F, f1, f2, e, f3, f4⟩ := first_L2 N (fun d hd => (E d hd).1) 20 1 N (by omega) (by omega)
  exact ⟨v, F, f1, f2, e, fun d hd => (E d hd).2, f3, fun d h1 h2 => M F d h1 h2 (f4 (by omega))⟩
/-! ===== the least loop ===== -/
def RG (r : Int32) : Prop := r = -9 ∨ ∃ d : Nat, 1 ≤ d ∧ d ≤ 20 ∧ r = nI d
theorem for_skip (N : Nat) {ln : Int32} {sz by_ un uw ut xs ys zs : Nat → Int32} {I V S T : Int32} {v : Nat → Int32} (E : ∀ d, d ≤ 20 → fX8_room N ln sz by_ uw ut xs ys zs S T (2 * nI d) = some (v d)) {F : Nat} (hF : F ≤ 21) (hl : ∀ d, 1 ≤ d → d < F → v d < 0) : ∀ (k c q : Nat), 1 ≤ c → c + k = F → fX8_loopFor_L3 N ln sz by_ un uw ut xs ys zs I V S T (q + k) (nI c) = fX8_loopFor_L3 N ln sz by_ un uw ut xs ys zs I V S T q (nI F) := by
  intro k
  induction k with
  | zero => intro c q h1 hc; rw [show c = F by omega]; rfl
  | succ k ih =>
    intro c q h1 hc
    rw [← Nat.add_assoc, fX8_loopFor_L3, if_neg (show ¬ (20 : Int32) < nI c from nI_nlt (a := 20) (by omega) (by omega)), E c (by omega)]
    simp only [ob, oj, if_pos (hl c h1 (by omega)), nI_s]
    exact ih (c + 1) q (by omega) (by omega)
theorem for_least (N : Nat) {ln : Int32} {sz by_ un uw ut xs ys zs : Nat → Int32} {I V S T : Int32} {v : Nat → Int32} (E : ∀ d, d ≤ 20 → fX8_room N ln sz by_ uw ut xs ys zs S T (2 * nI d) = some (v d)) {F : Nat} (hg : ∀ d, F ≤ d → d ≤ 20 → ¬ v d < 0) {m : Int32} (s : Nat → Int32) (hf : ∀ d, 1 ≤ d → d ≤ 20 → ∃ b : Int32, fX8_isFree N ln un xs ys zs I V (nI d) = some b ∧ (¬ b = 0 ↔ (m &&& bit d) = 0)) : ∀ (k c q q2 : Nat), 1 ≤ c → F ≤ c → c + k = 21 → k < q → k < q2 → ∃ r, RG r ∧ fX8_loopFor_L3 N ln sz by_ un uw ut xs ys zs I V S T q (nI c) = some r ∧ fX5_leastLoop_L39 m s q2 (nI c) = some (r, s) := by
  intro k
  induction k with
  | zero =>
    intro c q q2 h1 h2 hc hq hq2
    obtain ⟨q, rfl⟩ : ∃ z, q = z + 1 := ⟨q - 1, by omega⟩
    obtain ⟨q2, rfl⟩ : ∃ z, q2 = z + 1 := ⟨q2 - 1, by omega⟩
    have g : nI 20 < nI c := nI_lt (by omega) (by omega)
    refine ⟨-9, Or.inl rfl, ?_, ?_⟩
    · rw [fX8_loopFor_L3, if_pos (show (20 : Int32) < nI c from g)]
    · rw [fX5_leastLoop_L39, if_pos (show (20 : Int32) < nI c from g)]
  | succ k ih =>
    intro c q q2 h1 h2 hc hq hq2
    obtain ⟨q, rfl⟩ : ∃ z, q = z + 1 := ⟨q - 1, by omega⟩
    obtain ⟨q2, rfl⟩ : ∃ z, q2 = z + 1 := ⟨q2 - 1, by omega⟩
    have g : ¬ nI 20 < nI c := nI_nlt (by omega) (by omega)
    obtain ⟨b, eb, hb⟩ := hf c h1 (by omega)
    by_cases c0 : (m &&& bit c) = 0
    · refine ⟨nI c, Or.inr ⟨c, h1, by omega, rfl⟩, ?_, ?_⟩
      · rw [fX8_loopFor_L3, if_neg (show ¬ (20 : Int32) < nI c from g), E c (by omega)]
        simp only [ob, oj, if_neg (hg c h2 (by omega)), eb, if_neg (hb.mpr c0)]
      · rw [fX5_leastLoop_L39, if_neg (show ¬ (20 : Int32) < nI c from g), if_pos (show (m &&& (1 <<< (nI c &&& 31))) = 0 from c0)]
    · obtain ⟨r, hr, e1, e2⟩ := ih (c + 1) q q2 (by omega) (by omega) (by omega) (by omega) (by omega)
      have b0 : b = 0 := by
        by_cases z : b = 0
        · exact z
        · exact absurd (hb.mp z) c0
      refine ⟨r, hr, ?_, ?_⟩
      · rw [fX8_loopFor_L3, if_neg (show ¬ (20 : Int32) < nI c from g), E c (by omega)]
        simp only [ob, oj, if_neg (hg c h2 (by omega)), eb, if_pos b0, nI_s]
        exact e1
      · rw [fX5_leastLoop_L39, if_neg (show ¬ (20 : Int32) < nI c from g), if_neg (show ¬ (m &&& (1 <<< (nI c &&& 31))) = 0 from c0), nI_s]
        exact e2
theorem ac7 {wy : Nat → Int32} {i w v : Nat} (hi : i < 12) (hw : w < 6) (ew : wy i = nI w) (hv : v < 6) : fX5_isAcross wy (nI i) (nI v) = some (if w / 2 = v / 2 then 0 else 1) := by
  have g : vp_in (nI i) 12 := vp_in_nI hi (by decide)
  simp only [fX5_isAcross, ax7 hv, og_pos g, tn_nI (show i < 2 ^ 31 by omega), ew, ax7 hw, ob, way_d hv, way_d hw]
  by_cases c : w / 2 = v / 2
  · rw [if_pos c, if_pos (by rw [c])]
  · rw [if_neg c, if_neg (fun z => c ((nI_eq (by omega) (by omega)).mp z).symm)]
theorem least_eq (N : Nat) (hN : 400 ≤ N) {n : Nat} {le ln : Int32} {wy un so uw ut xs ys zs : Nat → Int32} (h : RLn n le ln wy un so uw ut xs ys zs) {by_ sz we : Nat → Int32} (hS : RS by_ sz we) {st T : Nat} (hs : st < 16) (hT : T ≤ 100) : ∃ F : Nat, fX5_firstSoft N le ln wy un so by_ sz (nI st) (nI T) = some (nI F) ∧ ∀ (i w u v : Nat) (pt : Nat → Int32), i < n → w < 6 → wy i = nI w → un i = nI u → u ≤ 20 → v < 6 → ¬ w / 2 = v / 2 → 3 ≤ u → ∃ (r : Int32) (s' : Nat → Int32), RG r ∧ fX5_leastLoop N le wy un pt (nI i) (nI v) (nI F) = some (r, s') ∧ fX8_loopFor N ln sz by_ un uw ut xs ys zs (nI i) (nI v) (nI st) (nI T) = some r := by
  have hn := h.1
  obtain ⟨x, F, f1, f2, e, R8, hl, hg⟩ := first_eq N hN h hS hs hT
  refine ⟨F, e, fun i w u v pt hi hw ew eu hu hv hne h3 => ?_⟩
  obtain ⟨m, s, A, M⟩ := meet_eq N hN h hi hw ew eu hu hv hne pt
  have hf : ∀ d, 1 ≤ d → d ≤ 20 → ∃ b : Int32, fX8_isFree N ln un xs ys zs (nI i) (nI v) (nI d) = some b ∧ (¬ b = 0 ↔ (m &&& bit d) = 0) := by
    intro d d1 d2
    obtain ⟨b, hb, eb⟩ := free_eq N hN h hi eu hu hv d2
    exact ⟨b, eb, hb.trans ((free_iff h hi hw ew eu hu hv hne d1 d2).symm.trans (A d d2).symm)⟩
  have gi : vp_in (nI i) 12 := vp_in_nI (by omega) (by decide)
  have sk := for_skip N (un := un) (I := nI i) (V := nI v) R8 f2 hl (F - 1) 1 (N - (F - 1)) (Nat.le_refl 1) (by omega)
  rw [show N - (F - 1) + (F - 1) = N by omega] at sk
  obtain ⟨r, hr, L8, L7⟩ := for_least N (un := un) (I := nI i) (V := nI v) R8 hg s hf (21 - F) F (N - (F - 1)) N f1 (Nat.le_refl F) (by omega) (by omega) (by omega)
  have E8 : fX8_loopFor N ln sz by_ un uw ut xs ys zs (nI i) (nI v) (nI st) (nI T) = some r := by
    rw [fX8_loopFor, show fX8_loopFor_L3 N ln sz by_ un uw ut xs ys zs (nI i) (nI v) (nI st) (nI T) N 1 = _ from sk]
    exact L8
  have n10 : ¬ (1 : Int32) = 0 := by decide
  by_cases cF : F = 21
  · subst cF
    refine ⟨-9, pt, Or.inl rfl, ?_, ?_⟩
    · rw [fX5_leastLoop, og_pos gi, tn_nI (by omega), eu, if_neg (show ¬ nI u < (3 : Int32) from nI_nlt (b := 3) (by omega) (by omega)), ac7 (show i < 12 by omega) hw ew hv, if_neg hne]
      simp only [ob, if_neg n10]
      rw [if_neg (by decide)]
    · obtain ⟨q, eq⟩ : ∃ z, N = z + 1 := ⟨N - 1, by omega⟩
      rw [fX8_loopFor, show fX8_loopFor_L3 N ln sz by_ un uw ut xs ys zs (nI i) (nI v) (nI st) (nI T) N 1 = _ from sk, show N - (21 - 1) = (N - 21) + 1 by omega, fX8_loopFor_L3, if_pos (by decide)]
  · refine ⟨r, s, hr, ?_, E8⟩
    rw [fX5_leastLoop, og_pos gi, tn_nI (by omega), eu, if_neg (show ¬ nI u < (3 : Int32) from nI_nlt (b := 3) (by omega) (by omega)), ac7 (show i < 12 by omega) hw ew hv, if_neg hne]
    simp only [ob, if_neg n10]
    rw [if_pos (show nI F ≤ (20 : Int32) from nI_le (b := 20) (by omega) (by omega)), M]
    simp only [ob2, ob]
    exact L7
