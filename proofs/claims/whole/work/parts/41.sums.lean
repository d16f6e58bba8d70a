/-! ===== sums over legs and over units ===== -/
def qs (f : Nat → Int32) : Nat → Int32
  | 0 => 0
  | m + 1 => qs f m + f m
def ps (h : Nat → Int32) (un : Nat → Int32) (P : Nat) : Nat → Int32
  | 0 => 0
  | n + 1 => ps h un P n + h n * nI (min (us un (n + 1)) P - us un n)
theorem qs_cong {f g : Nat → Int32} : ∀ m, (∀ p, p < m → f p = g p) → qs f m = qs g m
  | 0, _ => rfl
  | m + 1, h => by rw [qs, qs, qs_cong m (fun p hp => h p (by omega)), h m (by omega)]
theorem qs_const {f : Nat → Int32} {a : Nat} {c : Int32} : ∀ m, (∀ p, a ≤ p → p < a + m → f p = c) → qs f (a + m) = qs f a + c * nI m
  | 0, _ => by
    show qs f a = qs f a + c * 0
    rw [Int32.mul_zero, Int32.add_zero]
  | m + 1, h => by
    show qs f (a + m) + f (a + m) = _
    rw [qs_const m (fun p h1 h2 => h p h1 (by omega)), h (a + m) (by omega) (by omega), Int32.add_assoc, ← nI_s m, Int32.mul_add, Int32.mul_one]
theorem qs_ps (h un : Nat → Int32) (P : Nat) : ∀ n, qs (fun p => h (lof un n p)) (min (us un n) P) = ps h un P n
  | 0 => by simp [us, qs, ps]
  | n + 1 => by
    have ih := qs_ps h un P n
    have c1 : qs (fun p => h (lof un (n + 1) p)) (min (us un n) P) = ps h un P n := by
      rw [← ih]
      exact qs_cong _ (fun p hp => by show h (lof un (n + 1) p) = h (lof un n p); rw [lof, if_neg (by omega)])
    have hm : us un n ≤ us un (n + 1) := us_mono (by omega)
    rw [ps]
    rcases Nat.lt_or_ge (us un n) P with q | q
    · have e1 : min (us un n) P = us un n := by omega
      have e2 : min (us un (n + 1)) P = us un n + (min (us un (n + 1)) P - us un n) := by omega
      rw [e1] at c1
      rw [e2, qs_const (c := h n) _ (fun p h1 h2 => by show h (lof un (n + 1) p) = h n; rw [lof, if_pos h1]), c1, Nat.add_sub_cancel_left]
    · have e1 : min (us un n) P = P := by omega
      have e2 : min (us un (n + 1)) P = P := by omega
      have e3 : P - us un n = 0 := by omega
      rw [e1] at c1
      rw [e2, c1, e3]
      show ps h un P n = ps h un P n + h n * 0
      rw [Int32.mul_zero, Int32.add_zero]
theorem ub_eq {un : Nat → Int32} {i u : Nat} (hi : i < 12) (hu : u ≤ 20) (eu : un i = nI u) {S a b : Nat} (hS : S ≤ 1000) (ha : a ≤ 1000) (hb : b ≤ 1000) : fX5_unitsBetween un (nI i) (nI S) (nI a) (nI b) = some (nI (min (S + u) b - max S a)) := by
  have g : vp_in (nI i) 12 := vp_in_nI hi (by decide)
  have m1 : (if nI b < nI (S + u) then nI b else nI (S + u)) = nI (min (S + u) b) := by
    by_cases c : b < S + u
    · rw [if_pos (nI_lt c (by omega)), show min (S + u) b = b by omega]
    · rw [if_neg (nI_nlt (by omega) (by omega)), show min (S + u) b = S + u by omega]
  have m2 : (if nI S < nI a then nI a else nI S) = nI (max S a) := by
    by_cases c : S < a
    · rw [if_pos (nI_lt c (by omega)), show max S a = a by omega]
    · rw [if_neg (nI_nlt (by omega) (by omega)), show max S a = S by omega]
  rw [fX5_unitsBetween, og_pos g, tn_nI (by omega), eu, nI_add, m1, m2]
  have e := pk_sub_toInt (a := min (S + u) b) (b := max S a) (by omega) (by omega)
  by_cases c : max S a < min (S + u) b
  · rw [if_pos (by rw [ltT, t_0, e]; omega), pk_sub (by omega)]
  · rw [if_neg (by rw [ltT, t_0, e]; omega), show min (S + u) b - max S a = 0 by omega]; rfl
/-! ways -/
def sgn (w : Int32) : Int32 := if w - w / 2 * 2 = 0 then 1 else -1
theorem way_ax : ∀ w : Nat, w < 6 → (nI w >>> (1 &&& 31)) = nI w / 2 := by decide +kernel
theorem way_sg : ∀ w : Nat, w < 6 → (((nI w &&& 1) = 0) ↔ (nI w - nI w / 2 * 2 = 0)) := by decide +kernel
theorem ax7 {w : Nat} (hw : w < 6) : fX5_axisOf (nI w) = some (nI w / 2) := by rw [fX5_axisOf, way_ax w hw]
theorem sg7 {w : Nat} (hw : w < 6) : fX5_signOf (nI w) = some (sgn (nI w)) := by
  rw [fX5_signOf, sgn]
  by_cases h : (nI w &&& 1) = 0
  · rw [if_pos h, if_pos ((way_sg w hw).mp h)]
  · rw [if_neg h, if_neg (fun c => h ((way_sg w hw).mpr c))]
theorem sg8 (w : Int32) : fX8_signOf w = some (sgn w) := by
  rw [fX8_signOf, sgn]; exact ite_some _ _
/-! where -/
theorem pos_L8 {n : Nat} {wy un so : Nat → Int32} (hn : n ≤ 12) (hq : LegOk n wy un so) {P : Nat} (hP : P ≤ 1000) (a : Nat) : ∀ (k i q : Nat), i + k = n → k < q → fX5_position_L8 (nI n) wy un (nI P) (nI a) q (ps (fun j => stp a (wy j)) un P i) (nI (us un i)) (nI i) = some (ps (fun j => stp a (wy j)) un P n) := by
  have htot : us un n ≤ 240 := by have := us_le n (fun j hj => (hq j hj).2.1); omega
  intro k
  induction k with
  | zero =>
    intro i q hi hq'
    obtain ⟨q, rfl⟩ : ∃ z, q = z + 1 := ⟨q - 1, by omega⟩
    have e : i = n := by omega
    subst e
    rw [fX5_position_L8, if_pos (nI_le (by omega) (by omega))]
  | succ k ih =>
    intro i q hi hq'
    obtain ⟨q, rfl⟩ : ∃ z, q = z + 1 := ⟨q - 1, by omega⟩
    have g : vp_in (nI i) 12 := vp_in_nI (by omega) (by decide)
    obtain ⟨⟨w, hw, ew⟩, ⟨u, hu1, hu2, eu⟩, -⟩ := hq i (by omega)
    have hui : us un i ≤ us un n := us_mono (by omega)
    have eus : us un (i + 1) = us un i + u := by rw [us, eu, tn_nI (by omega)]
    have ub := ub_eq (un := un) (i := i) (by omega) hu2 eu (S := us un i) (a := 0) (b := P) (by omega) (by omega) hP
    have ih' := ih (i + 1) q (by omega) (by omega)
    rw [ps] at ih'
    have em : min (us un i + u) P - max (us un i) 0 = min (us un (i + 1)) P - us un i := by rw [eus]; congr 1; omega
    rw [fX5_position_L8, if_neg (lit_le (by omega) (by omega))]
    simp only [og_pos g, tn_nI (show i < 2 ^ 31 by omega), ew, eu, ax7 hw, sg7 hw, ob, olet, nI_s, nI_add]
    rw [← eus]
    by_cases c : nI w / 2 = nI a
    · rw [if_pos c, show fX5_unitsBetween un (nI i) (nI (us un i)) 0 (nI P) = _ from ub]
      simp only []
      rw [em]
      simp only [ew, stp, if_pos c] at ih'
      exact ih'
    · rw [if_neg c]
      simp only []
      simp only [ew, stp, if_neg c] at ih'
      rw [Int32.zero_mul, Int32.add_zero] at ih'
      exact ih'
/-- the units' ways by their legs -/
theorem uw_lof {n : Nat} {le ln : Int32} {wy un so uw ut xs ys zs : Nat → Int32} (h : RLn n le ln wy un so uw ut xs ys zs) : ∀ m, m ≤ n → ∀ p, p < us un m → lof un n p < n ∧ uw p = wy (lof un n p) ∧ ut p = so (lof un n p) := by
  intro m
  induction m with
  | zero => intro _ p hp; exact absurd hp (Nat.not_lt_zero p)
  | succ m ih =>
    intro hm p hp
    rcases Nat.lt_or_ge p (us un m) with c | c
    · exact ih (by omega) p c
    · rw [us] at hp
      obtain ⟨v, rfl⟩ : ∃ v, p = us un m + v := ⟨p - us un m, by omega⟩
      have hv : v < (un m).toNatClampNeg := by omega
      rw [lof_at hv (show m < n by omega)]
      exact ⟨by omega, h.2.2.2.2.1 m v (by omega) hv⟩
theorem xs_qs {f g : Nat → Int32} (h0 : f 0 = 0) {L : Nat} (h : ∀ p, p < L → f (p + 1) = f p + g p) : ∀ P, P ≤ L → f P = qs g P
  | 0, _ => h0
  | P + 1, hp => by rw [h P (by omega), xs_qs h0 h P (by omega)]; rfl
theorem pos_at {n : Nat} {le ln : Int32} {wy un so uw ut xs ys zs : Nat → Int32} (h : RLn n le ln wy un so uw ut xs ys zs) {P : Nat} (hP : P ≤ us un n) : xs P = ps (fun j => stp 0 (wy j)) un P n ∧ ys P = ps (fun j => stp 1 (wy j)) un P n ∧ zs P = ps (fun j => stp 2 (wy j)) un P n := by
  have hl := uw_lof h n (Nat.le_refl n)
  obtain ⟨-, -, -, -, -, hx, hy, hz, hst⟩ := id h
  have key : ∀ a, qs (fun p => stp a (uw p)) P = ps (fun j => stp a (wy j)) un P n := fun a => by
    rw [← qs_ps, show min (us un n) P = P by omega]
    exact qs_cong P (fun p hp => by show stp a (uw p) = stp a (wy (lof un n p)); rw [(hl p (by omega)).2.1])
  exact ⟨(xs_qs hx (fun p hp => (hst p hp).1) P hP).trans (key 0), (xs_qs hy (fun p hp => (hst p hp).2.1) P hP).trans (key 1), (xs_qs hz (fun p hp => (hst p hp).2.2) P hP).trans (key 2)⟩
theorem position_eq (N : Nat) (hN : 400 ≤ N) {n : Nat} {le ln : Int32} {wy un so uw ut xs ys zs : Nat → Int32} (h : RLn n le ln wy un so uw ut xs ys zs) {P : Nat} (hP : P ≤ 1000) (a : Nat) : fX5_position N le wy un (nI P) (nI a) = some (ps (fun j => stp a (wy j)) un P n) := by
  obtain ⟨hn, en, -, hq, -⟩ := id h
  rw [fX5_position, en]
  exact pos_L8 hn hq hP a n 0 N (by omega) (by omega)
theorem m_where (N : Nat) (hN : 400 ≤ N) : op_where N Rel := by
  intro s t hR a1 a2
  obtain ⟨hF, hA, hU, hS, hL, hRr, hT, hC, hY⟩ := id hR
  obtain ⟨l1, l2, l3, l4, l5, n, q⟩ := id hL
  have htot : us (pc5_units s) n ≤ 240 := by have := us_le n (fun j hj => (q.2.2.2.1 j hj).2.1); have := q.1; omega
  have eln : pc5_length s = nI (us (pc5_units s) n) := q.2.2.1
  by_cases h1 : (0 : Int32) ≤ a1 ∧ a1 ≤ pc5_length s
  · by_cases h2 : (0 : Int32) ≤ a2 ∧ a2 ≤ 2
    · have h1' := h1
      rw [eln] at h1'
      obtain ⟨P, -, hP, rfl⟩ := nI_rng 0 (us (pc5_units s) n) (by omega) (by decide) h1'.1 h1'.2
      obtain ⟨a, -, ha, rfl⟩ := nI_rng 0 2 (by decide) (by decide) h2.1 h2.2
      have g : vp_in (nI P) 241 := vp_in_nI (by omega) (by decide)
      obtain ⟨px, py, pz⟩ := pos_at q hP
      refine ⟨1, ps (fun j => stp a (pc5_ways s j)) (pc5_units s) P n, ps (fun j => stp a (pc5_ways s j)) (pc5_units s) P n, ?_, ?_, hF, rfl, hU, hS, hL, hRr, hT, hC, hY⟩
      · simp only [fX7_where, fX5_length, ob, wi7, bz, isAxis7, position_eq N hN q (show P ≤ 1000 by omega) a]
        rw [if_neg (not_not_intro h1), if_neg (not_not_intro h2)]
      · simp only [fX8_where, ob, wi8, bz, oj, l2, og_pos g, tn_nI (show P < 2 ^ 31 by omega), fX8_tells, ob2]
        rw [if_neg (not_not_intro h1), if_neg (not_not_intro h2)]
        rcases (show a = 0 ∨ a = 1 ∨ a = 2 by omega) with rfl | rfl | rfl
        · rw [if_pos (show nI 0 = 0 from rfl), px]
        · rw [if_neg (show ¬ nI 1 = 0 from by decide), if_pos (show nI 1 = 1 from rfl), py]
        · rw [if_neg (show ¬ nI 2 = 0 from by decide), if_neg (show ¬ nI 2 = 1 from by decide), pz]
    · refine ⟨-1, pc7_lastAsked s, pc7_lastAsked s, ?_, ?_, hF, rfl, hU, hS, hL, hRr, hT, hC, hY⟩
      · simp only [fX7_where, fX5_length, ob, wi7, bz, isAxis7]; rw [if_neg (not_not_intro h1), if_pos h2]
      · rw [show pc8_asked t = pc7_lastAsked s from hA]
        simp only [fX8_where, ob, wi8, bz, oj, l2]; rw [if_neg (not_not_intro h1), if_pos h2]
  · refine ⟨-1, pc7_lastAsked s, pc7_lastAsked s, ?_, ?_, hF, rfl, hU, hS, hL, hRr, hT, hC, hY⟩
    · simp only [fX7_where, fX5_length, ob, wi7, bz]; rw [if_pos h1]
    · rw [show pc8_asked t = pc7_lastAsked s from hA]
      simp only [fX8_where, ob, wi8, bz, oj, l2]; rw [if_pos h1]
