/-! ===== who bears, and what ===== -/
def bv (ko pl go wy un so by_ sz : Nat → Int32) (ln : Int32) (n r st : Nat) : Int32 := if (go r = 0 ∧ pl r < ln) ∧ ¬ ko r = 3 ∧ lifv ko pl go wy un so by_ sz ln n r st = 0 then 1 else 0
theorem bea8 (N : Nat) (hN : 400 ≤ N) {m : Nat} {mad : Int32} {ki pl ra re ko go : Nat → Int32} (hr_ : RRn m mad ki pl ra re ko go) {n : Nat} {le ln : Int32} {wy un so uw ut xs ys zs : Nat → Int32} (hl_ : RLn n le ln wy un so uw ut xs ys zs) (by_ sz : Nat → Int32) {r st : Nat} (hr : r < m) (hs : st < 16) : fX8_isBearing N ln sz by_ uw ut ko pl go (nI r) (nI st) = some (bv ko pl go wy un so by_ sz ln n r st) := by
  have hm := hr_.1
  have g : vp_in (nI r) 12 := vp_in_nI (by omega) (by decide)
  simp only [fX8_isBearing, pres8 hr_ ln hr, ob, oj, bz, og_pos g, tn_nI (show r < 2 ^ 31 by omega), lif8 N hN hr_ hl_ by_ sz hr hs, bv]
  by_cases c1 : go r = 0 ∧ pl r < ln
  · rw [if_neg (not_not_intro c1)]
    by_cases c2 : ko r = 3
    · rw [if_pos c2, if_neg (fun z => z.2.1 c2)]
    · rw [if_neg c2]
      by_cases c3 : lifv ko pl go wy un so by_ sz ln n r st = 0
      · rw [if_pos c3, if_pos ⟨c1, c2, c3⟩]
      · rw [if_neg c3, if_neg (fun z => c3 z.2.2)]
  · rw [if_pos c1, if_neg (fun z => c1 z.1)]
theorem narz {x : Int32} (h : x = 0 ∨ x = 1) : vp_nar .boolean x = x := by
  rcases h with rfl | rfl
  · exact narz0
  · exact narz1
theorem note_L2 (N : Nat) (hN : 400 ≤ N) {m : Nat} {mad : Int32} {ki pl ra re ko go : Nat → Int32} (hr_ : RRn m mad ki pl ra re ko go) {n : Nat} {le ln : Int32} {wy un so uw ut xs ys zs : Nat → Int32} (hl_ : RLn n le ln wy un so uw ut xs ys zs) (by_ sz : Nat → Int32) {st : Nat} (hs : st < 16) : ∀ (k c q : Nat) (f : Nat → Int32), c + k = m → k < q → (∀ r, r < c → f r = bv ko pl go wy un so by_ sz ln n r st) → ∃ f' : Nat → Int32, fX4_noteBearing_L2 N mad ki pl le ln wy un so by_ sz (nI st) q (nI c) f = some f' ∧ ∀ r, r < m → f' r = bv ko pl go wy un so by_ sz ln n r st := by
  have hm := hr_.1
  have em := hr_.2.1
  intro k
  induction k with
  | zero =>
    intro c q f hc hq hf
    obtain ⟨q, rfl⟩ : ∃ z, q = z + 1 := ⟨q - 1, by omega⟩
    exact ⟨f, by rw [fX4_noteBearing_L2, if_pos (by rw [em]; exact nI_le (by omega) (by omega))], fun r hr => hf r (by omega)⟩
  | succ k ih =>
    intro c q f hc hq hf
    obtain ⟨q, rfl⟩ : ∃ z, q = z + 1 := ⟨q - 1, by omega⟩
    have hr : c < m := by omega
    have g : vp_in (nI c) 12 := vp_in_nI (by omega) (by decide)
    obtain ⟨f', E, F⟩ := ih (c + 1) q (upd f c (bv ko pl go wy un so by_ sz ln n c st)) (by omega) (by omega) (fun r hr' => by
      rw [upd_at]
      by_cases e : r = c
      · rw [if_pos e, e]
      · rw [if_neg e]; exact hf r (by omega))
    refine ⟨f', ?_, F⟩
    rw [fX4_noteBearing_L2, if_neg (by rw [em]; exact lit_le (by omega) (by omega)), pres7 hr_ ln hr]
    simp only [ob, oj, bz, og_pos g, tn_nI (show c < 2 ^ 31 by omega), lif7 N hN hr_ hl_ by_ sz hr hs, nI_s]
    have eb : (if ¬ (go c = 0 ∧ pl c < ln) then some (0 : Int32) else if ki c = 3 then some 0 else if lifv ko pl go wy un so by_ sz ln n c st = 0 then some 1 else some 0) = some (bv ko pl go wy un so by_ sz ln n c st) := by
      rw [bv]
      by_cases c1 : go c = 0 ∧ pl c < ln
      · rw [if_neg (not_not_intro c1), (kind_eq hr_ hr c1.1).1]
        by_cases c2 : ko c = 3
        · rw [if_pos c2, if_neg (fun z => z.2.1 c2)]
        · rw [if_neg c2]
          by_cases c3 : lifv ko pl go wy un so by_ sz ln n c st = 0
          · rw [if_pos c3, if_pos ⟨c1, c2, c3⟩]
          · rw [if_neg c3, if_neg (fun z => c3 z.2.2)]
      · rw [if_pos c1, if_neg (fun z => c1 z.1)]
    rw [eb]
    simp only []
    rw [narz (show bv ko pl go wy un so by_ sz ln n c st = 0 ∨ bv ko pl go wy un so by_ sz ln n c st = 1 from b01 _)]
    exact E
theorem note_ok (N : Nat) (hN : 400 ≤ N) {m : Nat} {mad : Int32} {ki pl ra re ko go : Nat → Int32} (hr_ : RRn m mad ki pl ra re ko go) {n : Nat} {le ln : Int32} {wy un so uw ut xs ys zs : Nat → Int32} (hl_ : RLn n le ln wy un so uw ut xs ys zs) (by_ sz be : Nat → Int32) {st : Nat} (hs : st < 16) : ∃ f' : Nat → Int32, fX4_noteBearing N mad ki pl be le ln wy un so by_ sz (nI st) = some f' ∧ ∀ r, r < m → f' r = bv ko pl go wy un so by_ sz ln n r st := by
  rw [fX4_noteBearing]
  have hm := hr_.1
  exact note_L2 N hN hr_ hl_ by_ sz hs m 0 N be (by omega) (by omega) (fun r hr => absurd hr (Nat.not_lt_zero r))
/-! weights -/
def gF (f : Nat → Int32) (F : Nat) : Nat → Int32 := fun k => if F ≤ k then f k else 0
def ps2 (h un : Nat → Int32) (F T : Nat) : Nat → Int32
  | 0 => 0
  | n + 1 => ps2 h un F T n + h n * nI (min (us un (n + 1)) T - max (us un n) F)
theorem qs_seg {f : Nat → Int32} {a F : Nat} {c : Int32} : ∀ m, (∀ p, a ≤ p → p < a + m → f p = c) → qs (gF f F) (a + m) = qs (gF f F) a + c * nI (a + m - max a F)
  | 0, _ => by
    show qs (gF f F) a = qs (gF f F) a + c * nI (a - max a F)
    rw [show a - max a F = 0 by omega]
    show _ = qs (gF f F) a + c * 0
    rw [Int32.mul_zero, Int32.add_zero]
  | m + 1, h => by
    show qs (gF f F) (a + m) + gF f F (a + m) = _
    rw [qs_seg m (fun p h1 h2 => h p h1 (by omega)), gF]
    by_cases hF : F ≤ a + m
    · rw [if_pos hF, h (a + m) (by omega) (by omega), Int32.add_assoc, show a + (m + 1) - max a F = (a + m - max a F) + 1 by omega, ← nI_s, Int32.mul_add, Int32.mul_one]
    · rw [if_neg hF, Int32.add_zero, show a + (m + 1) - max a F = 0 by omega, show a + m - max a F = 0 by omega]
theorem qs_ps2 (h un : Nat → Int32) (F T : Nat) : ∀ n, qs (gF (fun p => h (lof un n p)) F) (min (us un n) T) = ps2 h un F T n
  | 0 => by simp [us, qs, ps2]
  | n + 1 => by
    have ih := qs_ps2 h un F T n
    have c1 : qs (gF (fun p => h (lof un (n + 1) p)) F) (min (us un n) T) = ps2 h un F T n := by
      rw [← ih]
      exact qs_cong _ (fun p hp => by
        have e : lof un (n + 1) p = lof un n p := by rw [lof, if_neg (by omega)]
        simp only [gF, e])
    have hm : us un n ≤ us un (n + 1) := us_mono (by omega)
    rw [ps2]
    rcases Nat.lt_or_ge (us un n) T with q | q
    · have e1 : min (us un n) T = us un n := by omega
      have e2 : min (us un (n + 1)) T = us un n + (min (us un (n + 1)) T - us un n) := by omega
      rw [e1] at c1
      have := qs_seg (f := fun p => h (lof un (n + 1) p)) (a := us un n) (F := F) (c := h n) (min (us un (n + 1)) T - us un n) (fun p h1 h2 => by show h (lof un (n + 1) p) = h n; rw [lof, if_pos h1])
      rw [← e2, c1] at this
      exact this
    · have e1 : min (us un n) T = T := by omega
      have e2 : min (us un (n + 1)) T = T := by omega
      rw [e1] at c1
      rw [e2, c1, show T - max (us un n) F = 0 by omega]
      show _ = ps2 h un F T n + h n * 0
      rw [Int32.mul_zero, Int32.add_zero]
theorem wei_L8 {n : Nat} {wy un so : Nat → Int32} (hn : n ≤ 12) (hq : LegOk n wy un so) (we : Nat → Int32) {F T : Nat} (hF : F ≤ 1000) (hT : T ≤ 1000) : ∀ (k i q : Nat), i + k = n → k < q → fX5_weight_L8 (nI n) un so we (nI F) (nI T) q (ps2 (fun j => we (so j).toNatClampNeg) un F T i) (nI (us un i)) (nI i) = some (ps2 (fun j => we (so j).toNatClampNeg) un F T n) := by
  have htot : us un n ≤ 240 := by have := us_le n (fun j hj => (hq j hj).2.1); omega
  intro k
  induction k with
  | zero =>
    intro i q hi hq'
    obtain ⟨q, rfl⟩ : ∃ z, q = z + 1 := ⟨q - 1, by omega⟩
    have e : i = n := by omega
    subst e
    rw [fX5_weight_L8, if_pos (nI_le (by omega) (by omega))]
  | succ k ih =>
    intro i q hi hq'
    obtain ⟨q, rfl⟩ : ∃ z, q = z + 1 := ⟨q - 1, by omega⟩
    have g : vp_in (nI i) 12 := vp_in_nI (by omega) (by decide)
    obtain ⟨-, ⟨u, hu1, hu2, eu⟩, ⟨z, hz, ez⟩⟩ := hq i (by omega)
    have g4 : vp_in (nI z) 4 := vp_in_nI hz (by decide)
    have hui : us un i ≤ us un n := us_mono (by omega)
    have eus : us un (i + 1) = us un i + u := by rw [us, eu, tn_nI (by omega)]
    have ub := ub_eq (un := un) (i := i) (by omega) hu2 eu (S := us un i) (a := F) (b := T) (by omega) hF hT
    have ih' := ih (i + 1) q (by omega) (by omega)
    rw [ps2, eus] at ih'
    rw [fX5_weight_L8, if_neg (lit_le (by omega) (by omega))]
    simp only [og_pos g, tn_nI (show i < 2 ^ 31 by omega), ez, fX6_weightOf, og_pos g4, ob, olet, nI_s, ub]
    rw [eu, nI_add]
    simp only [ez] at ih'
    exact ih'
theorem twi_L151 {n : Nat} {le ln : Int32} {wy un so uw ut xs ys zs : Nat → Int32} (h : RLn n le ln wy un so uw ut xs ys zs) (we : Nat → Int32) {F T : Nat} (hT : T ≤ us un n) (hF : F ≤ 1000) : ∀ (k p q : Nat), p + k = max F T → F ≤ p → k < q → fX8_twice_L151 we ut (nI T) q (qs (gF (fun j => we (so (lof un n j)).toNatClampNeg) F) p) (nI p) = some (qs (gF (fun j => we (so (lof un n j)).toNatClampNeg) F) (max F T)) := by
  have hl := uw_lof h n (Nat.le_refl n)
  have htot : us un n ≤ 240 := by have := us_le n (fun j hj => (h.2.2.2.1 j hj).2.1); have := h.1; omega
  intro k
  induction k with
  | zero =>
    intro p q hp hF hq
    obtain ⟨q, rfl⟩ : ∃ z, q = z + 1 := ⟨q - 1, by omega⟩
    have e : p = max F T := by omega
    rw [fX8_twice_L151, if_pos (nI_le (by omega) (by omega)), e]
  | succ k ih =>
    intro p q hp hF hq
    obtain ⟨q, rfl⟩ : ∃ z, q = z + 1 := ⟨q - 1, by omega⟩
    have g : vp_in (nI p) 240 := vp_in_nI (by omega) (by decide)
    obtain ⟨hlf, e1, e2⟩ := hl p (by omega)
    obtain ⟨-, -, ⟨z, hz, ez⟩⟩ := h.2.2.2.1 (lof un n p) hlf
    have g4 : vp_in (nI z) 4 := vp_in_nI hz (by decide)
    have ih' := ih (p + 1) q (by omega) (by omega) (by omega)
    rw [qs] at ih'
    simp only [gF, if_pos hF, ez] at ih'
    rw [fX8_twice_L151, if_neg (lit_le (by omega) (by omega))]
    simp only [og_pos g, tn_nI (show p < 2 ^ 31 by omega), e2, ez, og_pos g4, olet, nI_s]
    exact ih'
theorem gF_low (f : Nat → Int32) (F : Nat) : ∀ m, m ≤ F → qs (gF f F) m = 0
  | 0, _ => rfl
  | m + 1, h => by
    show qs (gF f F) m + gF f F m = 0
    rw [gF_low f F m (by omega), gF, if_neg (by omega)]; rfl
theorem gF_max (f : Nat → Int32) (F T : Nat) : qs (gF f F) (max F T) = qs (gF f F) T := by
  rcases Nat.lt_or_ge T F with c | c
  · rw [show max F T = F by omega, gF_low f F F (Nat.le_refl F), gF_low f F T (by omega)]
  · rw [show max F T = T by omega]
theorem qs_bound {f : Nat → Int32} : ∀ m, (∀ p, p < m → ∃ v : Nat, v ≤ 50 ∧ f p = nI v) → ∃ v : Nat, v ≤ 50 * m ∧ qs f m = nI v
  | 0, _ => ⟨0, by omega, rfl⟩
  | m + 1, h => by
    obtain ⟨v, hv, e⟩ := qs_bound m (fun p hp => h p (by omega))
    obtain ⟨w, hw, e2⟩ := h m (by omega)
    exact ⟨v + w, by omega, by rw [qs, e, e2, nI_add]⟩
/-- the weight between two places: both sides, and its size -/
theorem wei_eq (N : Nat) (hN : 400 ≤ N) {n : Nat} {le ln : Int32} {wy un so uw ut xs ys zs by_ sz we : Nat → Int32} (h : RLn n le ln wy un so uw ut xs ys zs) (hS : RS by_ sz we) {F T : Nat} (hF : F ≤ 1000) (hT : T ≤ us un n) : ∃ v : Nat, v ≤ 12000 ∧ fX5_weight N le un so we (nI F) (nI T) = some (nI v) ∧ fX8_twice_L151 we ut (nI T) N 0 (nI F) = some (nI v) := by
  obtain ⟨hn, en, -, hq, -⟩ := id h
  have htot : us un n ≤ 240 := by have := us_le n (fun j hj => (hq j hj).2.1); omega
  have hl := uw_lof h n (Nat.le_refl n)
  obtain ⟨v, hv, ev⟩ := qs_bound (f := gF (fun j => we (so (lof un n j)).toNatClampNeg) F) T (fun p hp => by
    rw [gF]
    by_cases c : F ≤ p
    · rw [if_pos c]
      obtain ⟨-, -, ⟨z, hz, ez⟩⟩ := hq (lof un n p) (hl p (by omega)).1
      rw [ez, tn_nI (by omega)]
      have := hS.2.1 z hz
      obtain ⟨x, hx, ex⟩ := nI_of (x := we z) (by rw [ltT, t_0]; omega)
      exact ⟨x, by rw [ex, nI_T hx] at this; omega, ex⟩
    · rw [if_neg c]; exact ⟨0, by omega, rfl⟩)
  refine ⟨v, by omega, ?_, ?_⟩
  · rw [fX5_weight, en, show fX5_weight_L8 (nI n) un so we (nI F) (nI T) N 0 0 0 = _ from wei_L8 hn hq we hF (by omega) n 0 N (by omega) (by omega), ← qs_ps2, show min (us un n) T = T by omega, ev]
  · have := twi_L151 h we hT hF (max F T - F) F N (by omega) (Nat.le_refl F) (by omega)
    rw [gF_low _ F F (Nat.le_refl F), gF_max, ev] at this
    exact this
