/-! ===== loops that meet ===== -/
theorem or_bit (x y m : Int32) : (x ||| y) &&& m = 0 ↔ x &&& m = 0 ∧ y &&& m = 0 := by
  have e : ∀ z : Int32, z = 0 ↔ ∀ i, i < 32 → z.toBitVec.getLsbD i = false := fun z => by
    rw [← Int32.toBitVec_inj]
    constructor
    · intro h i hi; rw [h]; show (0#32).getLsbD i = false; simp
    · intro h
      apply BitVec.eq_of_getLsbD_eq
      intro i hi
      rw [h i hi]; show false = (0#32).getLsbD i; simp
  have g : ∀ (u w : Int32) (i : Nat), (u &&& w).toBitVec.getLsbD i = (u.toBitVec.getLsbD i && w.toBitVec.getLsbD i) := fun u w i => BitVec.getLsbD_and
  have g2 : ∀ (u w : Int32) (i : Nat), (u ||| w).toBitVec.getLsbD i = (u.toBitVec.getLsbD i || w.toBitVec.getLsbD i) := fun u w i => BitVec.getLsbD_or
  rw [e, e, e]
  constructor
  · intro h
    refine ⟨fun i hi => ?_, fun i hi => ?_⟩
    · have := h i hi
      rw [g, g2] at this
      rw [g]
      cases hx : x.toBitVec.getLsbD i <;> cases hm : m.toBitVec.getLsbD i <;> simp_all
    · have := h i hi
      rw [g, g2] at this
      rw [g]
      cases hx : y.toBitVec.getLsbD i <;> cases hm : m.toBitVec.getLsbD i <;> simp_all
  · rintro ⟨h1, h2⟩ i hi
    have a := h1 i hi
    have b := h2 i hi
    rw [g] at a b
    rw [g, g2]
    cases hx : x.toBitVec.getLsbD i <;> cases hy : y.toBitVec.getLsbD i <;> cases hm : m.toBitVec.getLsbD i <;> simp_all
def bit (d : Nat) : Int32 := 1 <<< (nI d &&& 31)
theorem bit_m : ∀ b : Nat, b < 21 → ∀ d : Nat, d < 21 → ((((-1 : Int32) <<< (nI b &&& 31)) &&& bit d) = 0 ↔ d < b) := by decide +kernel
theorem bit_1 : ∀ b : Nat, b < 21 → ∀ d : Nat, d < 21 → ((((1 : Int32) <<< (nI b &&& 31)) &&& bit d) = 0 ↔ ¬ b = d) := by decide +kernel
theorem bit_0 (d : Nat) : ((0 : Int32) &&& bit d) = 0 := Int32.zero_and
/-- the word of a point: how far aside, ahead, out; how wide -/
def mp (S A B W : Int32) : Int32 := if S = 0 then (if A < 0 then 0 else if W < A then 0 else if B < 1 then 0 else if B ≤ 20 then (if A = 0 then (-1) <<< (B &&& 31) else if A = W then (-1) <<< (B &&& 31) else 1 <<< (B &&& 31)) else 0) else 0
def MT (S A B W : Int) (d : Nat) : Prop := S = 0 ∧ 0 ≤ A ∧ A ≤ W ∧ 1 ≤ B ∧ B ≤ 20 ∧ (((A = 0 ∨ A = W) ∧ B ≤ d) ∨ B = d)
theorem t_20 : (20 : Int32).toInt = 20 := by decide
theorem mp_bit (S A B : Int32) {W d : Nat} (hW : W < 2 ^ 31) (hd : d ≤ 20) : (mp S A B (nI W) &&& bit d) = 0 ↔ ¬ MT S.toInt A.toInt B.toInt W d := by
  rw [mp]
  by_cases c0 : S = 0
  · have c0' := c0
    rw [eqT, t_0] at c0'
    rw [if_pos c0]
    by_cases c1 : A < 0
    · rw [if_pos c1, bit_0]
      rw [ltT, t_0] at c1
      exact ⟨fun _ z => by have := z.2.1; omega, fun _ => rfl⟩
    · rw [if_neg c1]
      rw [ltT, t_0] at c1
      by_cases c2 : nI W < A
      · rw [if_pos c2, bit_0]
        rw [ltT, nI_T hW] at c2
        exact ⟨fun _ z => by have := z.2.2.1; omega, fun _ => rfl⟩
      · rw [if_neg c2]
        rw [ltT, nI_T hW] at c2
        by_cases c3 : B < 1
        · rw [if_pos c3, bit_0]
          rw [ltT, t_1] at c3
          exact ⟨fun _ z => by have := z.2.2.2.1; omega, fun _ => rfl⟩
        · rw [if_neg c3]
          rw [ltT, t_1] at c3
          by_cases c4 : B ≤ 20
          · rw [if_pos c4]
            rw [leT, t_20] at c4
            obtain ⟨b, hb, rfl⟩ := nI_of (x := B) (by rw [ltT, t_0]; omega)
            rw [nI_T hb] at c3 c4 ⊢
            have k1 := bit_m b (by omega) d (by omega)
            have k2 := bit_1 b (by omega) d (by omega)
            by_cases c5 : A = 0
            · rw [if_pos c5, k1]
              rw [eqT, t_0] at c5
              constructor
              · intro h z; rcases z.2.2.2.2.2 with z | z <;> omega
              · intro h
                rcases Nat.lt_or_ge d b with q | q
                · exact q
                · exact absurd ⟨c0', by omega, by omega, by omega, by omega, Or.inl ⟨Or.inl c5, by omega⟩⟩ h
            · rw [if_neg c5]
              rw [eqT, t_0] at c5
              by_cases c6 : A = nI W
              · rw [if_pos c6, k1]
                rw [eqT, nI_T hW] at c6
                constructor
                · intro h z; rcases z.2.2.2.2.2 with z | z <;> omega
                · intro h
                  rcases Nat.lt_or_ge d b with q | q
                  · exact q
                  · exact absurd ⟨c0', by omega, by omega, by omega, by omega, Or.inl ⟨Or.inr c6, by omega⟩⟩ h
              · rw [if_neg c6, k2]
                rw [eqT, nI_T hW] at c6
                constructor
                · intro h z; rcases z.2.2.2.2.2 with z | z <;> omega
                · intro h e
                  exact h ⟨c0', by omega, by omega, by omega, by omega, Or.inr (by omega)⟩
          · rw [if_neg c4, bit_0]
            rw [leT, t_20] at c4
            exact ⟨fun _ z => by have := z.2.2.2.2.1; omega, fun _ => rfl⟩
  · rw [if_neg c0, bit_0]
    rw [eqT, t_0] at c0
    exact ⟨fun _ z => c0 z.1, fun _ => rfl⟩
/-! points -/
def cA (xs ys zs : Nat → Int32) (a : Nat) : Nat → Int32 := if a = 0 then xs else if a = 1 then ys else zs
theorem cA0 {n : Nat} {le ln : Int32} {wy un so uw ut xs ys zs : Nat → Int32} (h : RLn n le ln wy un so uw ut xs ys zs) (a : Nat) : cA xs ys zs a 0 = 0 := by
  obtain ⟨-, -, -, -, -, hx, hy, hz, -⟩ := id h
  rw [cA]
  by_cases c0 : a = 0
  · rw [if_pos c0]; exact hx
  · by_cases c1 : a = 1
    · rw [if_neg c0, if_pos c1]; exact hy
    · rw [if_neg c0, if_neg c1]; exact hz
theorem cA_s {n : Nat} {le ln : Int32} {wy un so uw ut xs ys zs : Nat → Int32} (h : RLn n le ln wy un so uw ut xs ys zs) {a p : Nat} (ha : a < 3) (hp : p < us un n) : cA xs ys zs a (p + 1) = cA xs ys zs a p + stp a (uw p) := by
  obtain ⟨hx, hy, hz⟩ := h.2.2.2.2.2.2.2.2 p hp
  rcases (show a = 0 ∨ a = 1 ∨ a = 2 by omega) with rfl | rfl | rfl
  · exact hx
  · exact hy
  · exact hz
theorem cA_b {n : Nat} {le ln : Int32} {wy un so uw ut xs ys zs : Nat → Int32} (h : RLn n le ln wy un so uw ut xs ys zs) (a : Nat) {p : Nat} (hp : p ≤ us un n) : -240 ≤ (cA xs ys zs a p).toInt ∧ (cA xs ys zs a p).toInt ≤ 240 := by
  have htot : us un n ≤ 240 := by have := us_le n (fun j hj => (h.2.2.2.1 j hj).2.1); have := h.1; omega
  have m := man h p hp
  rw [cA]
  by_cases c0 : a = 0
  · rw [if_pos c0]; omega
  · by_cases c1 : a = 1
    · rw [if_neg c0, if_pos c1]; omega
    · rw [if_neg c0, if_neg c1]; omega
theorem cA_pos (N : Nat) (hN : 400 ≤ N) {n : Nat} {le ln : Int32} {wy un so uw ut xs ys zs : Nat → Int32} (h : RLn n le ln wy un so uw ut xs ys zs) {a p : Nat} (ha : a < 3) (hp : p ≤ us un n) : fX5_position N le wy un (nI p) (nI a) = some (cA xs ys zs a p) := by
  have htot : us un n ≤ 240 := by have := us_le n (fun j hj => (h.2.2.2.1 j hj).2.1); have := h.1; omega
  obtain ⟨px, py, pz⟩ := pos_at h hp
  rw [position_eq N hN h (show p ≤ 1000 by omega) a]
  rcases (show a = 0 ∨ a = 1 ∨ a = 2 by omega) with rfl | rfl | rfl
  · rw [← px]; rfl
  · rw [← py]; rfl
  · rw [← pz]; rfl
/-! the foot -/
theorem foot_L {n i : Nat} {wy un so : Nat → Int32} (hn : n ≤ 12) (hq : LegOk n wy un so) (hi : i < n) (W : Nat) : ∀ (k j q : Nat), j + k = i → k < q → ∀ K, fX5_startAtFoot_L11 un (nI i) K q (nI (us un j + W)) (nI j) = K (nI (us un i + W)) := by
  intro k
  induction k with
  | zero =>
    intro j q hj hq' K
    obtain ⟨q, rfl⟩ : ∃ z, q = z + 1 := ⟨q - 1, by omega⟩
    have e : j = i := by omega
    subst e
    rw [fX5_startAtFoot_L11, if_pos (nI_le (by omega) (by omega))]
  | succ k ih =>
    intro j q hj hq' K
    obtain ⟨q, rfl⟩ : ∃ z, q = z + 1 := ⟨q - 1, by omega⟩
    have g : vp_in (nI j) 12 := vp_in_nI (by omega) (by decide)
    obtain ⟨-, ⟨u, hu1, hu2, eu⟩, -⟩ := hq j (by omega)
    have ih' := ih (j + 1) q (by omega) (by omega) K
    rw [us, eu, tn_nI (by omega)] at ih'
    rw [fX5_startAtFoot_L11, if_neg (lit_le (by omega) (by omega)), og_pos g, tn_nI (by omega), eu]
    simp only [olet, nI_add, nI_s]
    rw [show us un j + W + u = us un j + u + W by omega]
    exact ih'
theorem foot_eq (N : Nat) (hN : 400 ≤ N) {n : Nat} {le ln : Int32} {wy un so uw ut xs ys zs : Nat → Int32} (h : RLn n le ln wy un so uw ut xs ys zs) {i u : Nat} (hi : i < n) (eu : un i = nI u) (hu : u ≤ 20) (hf : us un i + u / 3 ≤ us un n) (pt : Nat → Int32) : ∃ s : Nat → Int32, fX5_startAtFoot N le wy un pt (nI i) = some s ∧ ∀ a, a < 3 → s a = cA xs ys zs a 0 - cA xs ys zs a (us un i + u / 3) := by
  have hn := h.1
  have g : vp_in (nI i) 12 := vp_in_nI (by omega) (by decide)
  have g0 : vp_in (0 : Int32) 3 := vp_in_nI (n := 0) (by omega) (by decide)
  have g1 : vp_in (1 : Int32) 3 := vp_in_nI (n := 1) (by omega) (by decide)
  have g2 : vp_in (2 : Int32) 3 := vp_in_nI (n := 2) (by omega) (by decide)
  have e3 : nI u / 3 = nI (u / 3) := pk_div (a := u) (d := 3) (by omega) (by decide) (by decide)
  have F := foot_L hn h.2.2.2.1 hi (u / 3) i 0 N (by omega) (by omega)
  rw [show us un 0 + u / 3 = u / 3 by rw [us]; omega] at F
  have p0 : fX5_position N le wy un (nI (us un i + u / 3)) 0 = some (cA xs ys zs 0 (us un i + u / 3)) := cA_pos N hN h (a := 0) (by omega) hf
  have p1 : fX5_position N le wy un (nI (us un i + u / 3)) 1 = some (cA xs ys zs 1 (us un i + u / 3)) := cA_pos N hN h (a := 1) (by omega) hf
  have p2 : fX5_position N le wy un (nI (us un i + u / 3)) 2 = some (cA xs ys zs 2 (us un i + u / 3)) := cA_pos N hN h (a := 2) (by omega) hf
  have L : ∀ q, fX5_startAtFoot_L33 N le wy un (nI (us un i + u / 3)) (q + 4) 0 pt = some (upd (upd (upd pt 0 (-(cA xs ys zs 0 (us un i + u / 3)))) 1 (-(cA xs ys zs 1 (us un i + u / 3)))) 2 (-(cA xs ys zs 2 (us un i + u / 3)))) := by
    intro q
    have z1 : (0 : Int32) + 1 = 1 := by decide
    have z2 : (1 : Int32) + 1 = 2 := by decide
    have z3 : (2 : Int32) + 1 = 3 := by decide
    have t0 : Int32.toNatClampNeg 0 = 0 := by decide
    have t1 : Int32.toNatClampNeg 1 = 1 := by decide
    have t2 : Int32.toNatClampNeg 2 = 2 := by decide
    rw [fX5_startAtFoot_L33, if_neg (by decide)]
    simp only [p0, ob, og_pos g0, z1, t0]
    rw [fX5_startAtFoot_L33, if_neg (by decide)]
    simp only [p1, ob, og_pos g1, z2, t1]
    rw [fX5_startAtFoot_L33, if_neg (by decide)]
    simp only [p2, ob, og_pos g2, z3, t2]
    rw [fX5_startAtFoot_L33, if_pos (by decide)]
  obtain ⟨M, eM⟩ : ∃ M, N = M + 4 := ⟨N - 4, by omega⟩
  have L' := L M
  rw [← eM] at L'
  refine ⟨upd (upd (upd pt 0 (-(cA xs ys zs 0 (us un i + u / 3)))) 1 (-(cA xs ys zs 1 (us un i + u / 3)))) 2 (-(cA xs ys zs 2 (us un i + u / 3))), ?_, ?_⟩
  · rw [fX5_startAtFoot, og_pos g, tn_nI (by omega), eu, e3]
    simp only [olet, oj]
    rw [show fX5_startAtFoot_L11 un (nI i) _ N (nI (u / 3)) 0 = _ from F _]
    exact L'
  · intro a ha
    rw [cA0 h a, Int32.zero_sub]
    rcases (show a = 0 ∨ a = 1 ∨ a = 2 by omega) with rfl | rfl | rfl
    · simp [upd_at]
    · simp [upd_at]
    · simp [upd_at]
