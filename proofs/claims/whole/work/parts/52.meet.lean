/-! the word of all points -/
theorem way_d {w : Nat} (hw : w < 6) : nI w / 2 = nI (w / 2) := pk_div (a := w) (d := 2) (by omega) (by decide) (by decide)
theorem pt_eq0 {wy un : Nat → Int32} {i w v A B S : Nat} {W : Int32} (hi : i < 12) (hw : w < 6) (ew : wy i = nI w) (eW : un i / 3 = W) (hv : v < 6) (eA : nI w / 2 = nI A) (eB : nI v / 2 = nI B) (eS : (3 : Int32) - nI A - nI B = nI S) (hA : A < 3) (hB : B < 3) (hS : S < 3) (s : Nat → Int32) : fX5_loopsThatMeetPoint wy un s (nI i) (nI v) = some (mp (s S) (sgn (nI w) * s A) (sgn (nI v) * s B) W) := by
  have g : vp_in (nI i) 12 := vp_in_nI hi (by decide)
  have gA : vp_in (nI A) 3 := vp_in_nI hA (by decide)
  have gB : vp_in (nI B) 3 := vp_in_nI hB (by decide)
  have gS : vp_in (nI S) 3 := vp_in_nI hS (by decide)
  have ti : Int32.toNatClampNeg (nI i) = i := tn_nI (by omega)
  have tA : Int32.toNatClampNeg (nI A) = A := tn_nI (by omega)
  have tB : Int32.toNatClampNeg (nI B) = B := tn_nI (by omega)
  have tS : Int32.toNatClampNeg (nI S) = S := tn_nI (by omega)
  have a1 := ax7 hw
  have a2 := ax7 hv
  rw [eA] at a1
  rw [eB] at a2
  rw [fX5_loopsThatMeetPoint, og_pos g, ti, ew, a1]
  simp only [ob, a2, olet, eS, og_pos g, og_pos gA, og_pos gB, og_pos gS, sg7 hw, sg7 hv, tA, tB, tS, eW, oj]
  rw [mp]
  simp only [ite_some]
theorem pt_eq {wy un : Nat → Int32} {i w u v : Nat} (hi : i < 12) (hw : w < 6) (ew : wy i = nI w) (eu : un i = nI u) (hu : u ≤ 20) (hv : v < 6) (hne : ¬ w / 2 = v / 2) (s : Nat → Int32) : fX5_loopsThatMeetPoint wy un s (nI i) (nI v) = some (mp (s (3 - w / 2 - v / 2)) (sgn (nI w) * s (w / 2)) (sgn (nI v) * s (v / 2)) (nI (u / 3))) := by
  have e3 : nI u / 3 = nI (u / 3) := pk_div (a := u) (d := 3) (by omega) (by decide) (by decide)
  have eS : (3 : Int32) - nI (w / 2) - nI (v / 2) = nI (3 - w / 2 - v / 2) := by
    rw [show (3 : Int32) = nI 3 from rfl, pk_sub (by omega), pk_sub (by omega)]
  exact pt_eq0 hi hw ew (by rw [eu]; exact e3) hv (way_d hw) (way_d hv) eS (by omega) (by omega) (by omega) s
def MQt (xs ys zs : Nat → Int32) (w v u f q d : Nat) : Prop := MT (cA xs ys zs (3 - w / 2 - v / 2) q - cA xs ys zs (3 - w / 2 - v / 2) f).toInt (sgn (nI w) * (cA xs ys zs (w / 2) q - cA xs ys zs (w / 2) f)).toInt (sgn (nI v) * (cA xs ys zs (v / 2) q - cA xs ys zs (v / 2) f)).toInt ((u / 3 : Nat) : Int) d
def Dp (xs ys zs : Nat → Int32) (f q : Nat) (s : Nat → Int32) : Prop := ∀ a, a < 3 → s a = cA xs ys zs a q - cA xs ys zs a f
def Acc (xs ys zs : Nat → Int32) (w v u f q : Nat) (x : Int32) : Prop := ∀ d, d ≤ 20 → ((x &&& bit d) = 0 ↔ ∀ q', q' ≤ q → ¬ MQt xs ys zs w v u f q' d)
theorem pt_acc {xs ys zs : Nat → Int32} {w v u f q : Nat} (hw : w < 6) (hv : v < 6) (hu : u ≤ 20) (hne : ¬ w / 2 = v / 2) {s : Nat → Int32} (hs : Dp xs ys zs f q s) {d : Nat} (hd : d ≤ 20) : (mp (s (3 - w / 2 - v / 2)) (sgn (nI w) * s (w / 2)) (sgn (nI v) * s (v / 2)) (nI (u / 3)) &&& bit d) = 0 ↔ ¬ MQt xs ys zs w v u f q d := by
  rw [mp_bit _ _ _ (by omega) hd, hs _ (show 3 - w / 2 - v / 2 < 3 by omega), hs _ (show w / 2 < 3 by omega), hs _ (show v / 2 < 3 by omega), MQt]
theorem sub_r (x y z : Int32) : x + y - z = x - z + y := by
  rw [Int32.sub_eq_add_neg, Int32.sub_eq_add_neg, Int32.add_assoc, Int32.add_comm y, Int32.add_assoc]
theorem meet_L39 {n : Nat} {le ln : Int32} {wy un so uw ut xs ys zs : Nat → Int32} (h : RLn n le ln wy un so uw ut xs ys zs) {i w u v : Nat} (hi : i < n) (hw : w < 6) (ew : wy i = nI w) (eu : un i = nI u) (hu : u ≤ 20) (hv : v < 6) (hne : ¬ w / 2 = v / 2) (f : Nat) {j b z : Nat} (hj : j < n) (hb : b < 6) (eb : wy j = nI b) (ez : un j = nI z) (hz : z ≤ 20) : ∀ (k t q : Nat) (x : Int32) (s : Nat → Int32), t + k = z → k < q → Dp xs ys zs f (us un j + t) s → Acc xs ys zs w v u f (us un j + t) x → ∃ (x' : Int32) (s' : Nat → Int32), Dp xs ys zs f (us un (j + 1)) s' ∧ Acc xs ys zs w v u f (us un (j + 1)) x' ∧ ∀ K, fX5_loopsThatMeet_L39 wy un (nI i) (nI v) (nI j) (nI (b / 2)) K q x (nI t) s = K x' s' := by
  have hn := h.1
  have g : vp_in (nI j) 12 := vp_in_nI (by omega) (by decide)
  have gA : vp_in (nI (b / 2)) 3 := vp_in_nI (by omega) (by decide)
  have eus : us un (j + 1) = us un j + z := by rw [us, ez, tn_nI (by omega)]
  have hle : us un (j + 1) ≤ us un n := us_mono (by omega)
  intro k
  induction k with
  | zero =>
    intro t q x s ht hq hD hA
    obtain ⟨q, rfl⟩ : ∃ z, q = z + 1 := ⟨q - 1, by omega⟩
    rw [show us un j + t = us un (j + 1) by omega] at hD hA
    refine ⟨x, s, hD, hA, fun K => ?_⟩
    rw [fX5_loopsThatMeet_L39, og_pos g, tn_nI (by omega), ez, if_pos (nI_le (by omega) (by omega))]
  | succ k ih =>
    intro t q x s ht hq hD hA
    obtain ⟨q, rfl⟩ : ∃ z, q = z + 1 := ⟨q - 1, by omega⟩
    have ewu : uw (us un j + t) = nI b := by
      rw [(h.2.2.2.2.1 j t hj (by rw [ez, tn_nI (by omega)]; omega)).1, eb]
    have hD' : Dp xs ys zs f (us un j + t + 1) (upd s (b / 2) (s (b / 2) + sgn (nI b))) := by
      intro a ha
      rw [cA_s h ha (by omega), ewu, sub_r, ← hD a ha, upd_at, stp, way_d hb]
      by_cases c : a = b / 2
      · rw [if_pos c, if_pos (by rw [c]), c]; rw [sgn, way_d hb]
      · rw [if_neg c, if_neg (fun z => c ((nI_eq (by omega) (by omega)).mp z).symm), Int32.add_zero]
    have hA' : Acc xs ys zs w v u f (us un j + t + 1) (x ||| mp (upd s (b / 2) (s (b / 2) + sgn (nI b)) (3 - w / 2 - v / 2)) (sgn (nI w) * upd s (b / 2) (s (b / 2) + sgn (nI b)) (w / 2)) (sgn (nI v) * upd s (b / 2) (s (b / 2) + sgn (nI b)) (v / 2)) (nI (u / 3))) := by
      intro d hd
      rw [or_bit, hA d hd, pt_acc hw hv hu hne hD' hd]
      constructor
      · rintro ⟨h1, h2⟩ q' hq'
        rcases Nat.lt_or_ge (us un j + t) q' with c | c
        · rw [show q' = us un j + t + 1 by omega]; exact h2
        · exact h1 q' c
      · intro h1
        exact ⟨fun q' hq' => h1 q' (by omega), h1 _ (Nat.le_refl _)⟩
    obtain ⟨x', s', d', a', E⟩ := ih (t + 1) q _ _ (by omega) (by omega) hD' hA'
    refine ⟨x', s', d', a', fun K => ?_⟩
    rw [fX5_loopsThatMeet_L39, og_pos g, tn_nI (by omega), ez, if_neg (lit_le (by omega) (by omega))]
    simp only [og_pos g, og_pos gA, tn_nI (show b / 2 < 2 ^ 31 by omega), eb, sg7 hb, ob, olet, nI_s, pt_eq (show i < 12 by omega) hw ew eu hu hv hne]
    exact E K
theorem meet_L15 (N : Nat) (hN : 400 ≤ N) {n : Nat} {le ln : Int32} {wy un so uw ut xs ys zs : Nat → Int32} (h : RLn n le ln wy un so uw ut xs ys zs) {i w u v : Nat} (hi : i < n) (hw : w < 6) (ew : wy i = nI w) (eu : un i = nI u) (hu : u ≤ 20) (hv : v < 6) (hne : ¬ w / 2 = v / 2) (f : Nat) : ∀ (k j q : Nat) (x : Int32) (s : Nat → Int32), j + k = n → k < q → Dp xs ys zs f (us un j) s → Acc xs ys zs w v u f (us un j) x → ∃ (x' : Int32) (s' : Nat → Int32), Acc xs ys zs w v u f (us un n) x' ∧ fX5_loopsThatMeet_L15 N le wy un (nI i) (nI v) q x (nI j) s = some (x', s') := by
  have hn := h.1
  have en := h.2.1
  intro k
  induction k with
  | zero =>
    intro j q x s hj hq hD hA
    obtain ⟨q, rfl⟩ : ∃ z, q = z + 1 := ⟨q - 1, by omega⟩
    have e : j = n := by omega
    subst e
    exact ⟨x, s, hA, by rw [fX5_loopsThatMeet_L15, en, if_pos (nI_le (by omega) (by omega))]⟩
  | succ k ih =>
    intro j q x s hj hq hD hA
    obtain ⟨q, rfl⟩ : ∃ z, q = z + 1 := ⟨q - 1, by omega⟩
    have g : vp_in (nI j) 12 := vp_in_nI (by omega) (by decide)
    obtain ⟨⟨b, hb, eb⟩, ⟨z, hz1, hz2, ez⟩, -⟩ := h.2.2.2.1 j (by omega)
    obtain ⟨x1, s1, D1, A1, E1⟩ := meet_L39 h hi hw ew eu hu hv hne f (show j < n by omega) hb eb ez hz2 z 0 N x s (by omega) (by omega) hD hA
    obtain ⟨x2, s2, A2, E2⟩ := ih (j + 1) q x1 s1 (by omega) (by omega) D1 A1
    refine ⟨x2, s2, A2, ?_⟩
    rw [fX5_loopsThatMeet_L15, if_neg (by rw [en]; exact lit_le (by omega) (by omega)), og_pos g, tn_nI (by omega), eb]
    simp only [ax7 hb, way_d hb, ob, oj, nI_s]
    rw [show fX5_loopsThatMeet_L39 wy un (nI i) (nI v) (nI j) (nI (b / 2)) _ N x 0 s = _ from E1 _]
    exact E2
/-- the bits of the loops that meet, class side -/
theorem meet_eq (N : Nat) (hN : 400 ≤ N) {n : Nat} {le ln : Int32} {wy un so uw ut xs ys zs : Nat → Int32} (h : RLn n le ln wy un so uw ut xs ys zs) {i w u v : Nat} (hi : i < n) (hw : w < 6) (ew : wy i = nI w) (eu : un i = nI u) (hu : u ≤ 20) (hv : v < 6) (hne : ¬ w / 2 = v / 2) (pt : Nat → Int32) : ∃ (x' : Int32) (s' : Nat → Int32), Acc xs ys zs w v u (us un i + u / 3) (us un n) x' ∧ fX5_loopsThatMeet N le wy un pt (nI i) (nI v) = some (x', s') := by
  have hn := h.1
  have hf : us un i + u / 3 ≤ us un n := by
    have := us_mono (un := un) (i := i + 1) (n := n) (by omega)
    rw [us, eu, tn_nI (by omega)] at this; omega
  obtain ⟨s, e1, hD⟩ := foot_eq N hN h hi eu hu hf pt
  have hA : Acc xs ys zs w v u (us un i + u / 3) 0 (mp (s (3 - w / 2 - v / 2)) (sgn (nI w) * s (w / 2)) (sgn (nI v) * s (v / 2)) (nI (u / 3))) := by
    intro d hd
    rw [pt_acc hw hv hu hne (show Dp xs ys zs (us un i + u / 3) 0 s from hD) hd]
    constructor
    · intro h1 q' hq'
      rw [show q' = 0 by omega]; exact h1
    · intro h1; exact h1 0 (Nat.le_refl _)
  obtain ⟨x2, s2, A2, E2⟩ := meet_L15 N hN h hi hw ew eu hu hv hne (us un i + u / 3) n 0 N _ s (by omega) (by omega) hD hA
  refine ⟨x2, s2, A2, ?_⟩
  rw [fX5_loopsThatMeet, e1]
  simp only [ob, pt_eq (show i < 12 by omega) hw ew eu hu hv hne]
  exact E2
