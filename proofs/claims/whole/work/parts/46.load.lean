/-! ===== load, change, firm ===== -/
theorem m9r {r : Nat} (h : r < 2 ^ 31) : ¬ nI r = -9 := by
  rw [eqT, nI_T h, show (-9 : Int32).toInt = -9 from by decide]; omega
theorem m_load (N : Nat) (hN : 400 ≤ N) : op_load N Rel := by
  intro s t hR a1 a2
  obtain ⟨hF, hA, hU, hS, hL, hRr, hT, hC, hY⟩ := id hR
  obtain ⟨e1, e2, e3, e4, m, q⟩ := id hRr
  obtain ⟨l1, l2, l3, l4, l5, n, ql⟩ := id hL
  obtain ⟨s1, s2, s3, qs_⟩ := id hS
  have hm := q.1
  rcases need3 q (pc7_lastFound s) (pc7_found s) a1 (if (0 : Int32) ≤ a2 ∧ a2 ≤ 15 then 1 else 0) with ⟨h7, h8⟩ | ⟨h7, h8⟩ | ⟨r, hr, rfl, hg, g0, h7, h8⟩
  · refine ⟨-1, pc7_lastFound s, pc7_found s, pc4_bearing s, pc2_above s, pc2_below s, pc7_lastFound s, pc2_above s, pc2_below s, pc7_found s, ?_, ?_, ⟨rfl, rfl⟩, hA, ⟨rfl, rfl⟩, hS, hL, hRr, hT, hC, hY⟩
    · simp only [fX7_load, isStep7, h7, ob3, ob, nm1, if_false]
    · simp only [fX8_load, isStep8, e1, hF.1, hF.2, hU.1, hU.2, h8, ob3, ob, lm1, if_false]
  · refine ⟨-3, 1, upd (pc7_found s) 1 (pc7_found s 1 + 1), pc4_bearing s, pc2_above s, pc2_below s, 1, pc2_above s, pc2_below s, upd (pc7_found s) 1 (pc7_found s 1 + 1), ?_, ?_, ⟨rfl, rfl⟩, hA, ⟨rfl, rfl⟩, hS, hL, hRr, hT, hC, hY⟩
    · simp only [fX7_load, isStep7, h7, ob3, ob, nm3, if_false]
    · simp only [fX8_load, isStep8, e1, hF.1, hF.2, hU.1, hU.2, h8, ob3, ob, lm3, if_false]
  · have hst : (0 : Int32) ≤ a2 ∧ a2 ≤ 15 := Classical.byContradiction fun c => hg (by rw [if_neg c])
    obtain ⟨st, -, hst2, rfl⟩ := nI_rng 0 15 (by decide) (by decide) hst.1 hst.2
    obtain ⟨be, eb, hbe⟩ := note_ok N hN q ql (pc6_bytes s) (pc6_sizes s) (pc4_bearing s) (show st < 16 by omega)
    obtain ⟨v, hv, t7, t8⟩ := twice_eq N hN q ql qs_ hr (show st < 16 by omega) hbe (m9r (r := r) (by omega))
    have el : Int32.toInt64 (nI v) = lN v := nI_l (by omega)
    have f7 := frac7 N hN (pc2_above s) (pc2_below s) (u := v) (l := 2) (by omega) (by omega) (by decide)
    have f8 := frac8 N hN (pc2_above s) (pc2_below s) (u := v) (l := 2) (by omega) (by omega) (by decide) 1
    refine ⟨1, pc7_lastFound s, pc7_found s, be, lN (v / Nat.gcd v 2), lN (2 / Nat.gcd v 2), pc7_lastFound s, lN (v / Nat.gcd v 2), lN (2 / Nat.gcd v 2), pc7_found s, ?_, ?_, ⟨rfl, rfl⟩, hA, ⟨rfl, rfl⟩, hS, hL, hRr, hT, hC, hY⟩
    · simp only [fX7_load, isStep7, h7, ob3, ob, if_true, eb, t7, el]
      rw [show fX2_put N (pc2_above s) (pc2_below s) (lN v) 2 = _ from f7]
      rfl
    · simp only [fX8_load, isStep8, e1, e2, l2, s1, s2, s3, hF.1, hF.2, hU.1, hU.2, h8, ob3, ob, l00, if_true, t8, el]
      rw [show fX8_fraction N (pc2_above s) (pc2_below s) (lN v) 2 1 = _ from f8]
/-! how far a place moves -/
theorem qs_abs {f : Nat → Int32} : ∀ m, m ≤ 1000 → (∀ p, p < m → -128 ≤ (f p).toInt ∧ (f p).toInt ≤ 128) → -(128 * (m : Int)) ≤ (qs f m).toInt ∧ (qs f m).toInt ≤ 128 * (m : Int)
  | 0, _, _ => by
    show -(128 * (0 : Int)) ≤ (0 : Int32).toInt ∧ (0 : Int32).toInt ≤ 128 * (0 : Int)
    decide
  | m + 1, hm, h => by
    have i := qs_abs m (by omega) (fun p hp => h p (by omega))
    have j := h m (by omega)
    rw [qs, fb_addI (by omega) (by omega)]
    omega
theorem sg_abs {w x : Int32} (h1 : -128 ≤ x.toInt) (h2 : x.toInt ≤ 127) : -128 ≤ (sgn w * x).toInt ∧ (sgn w * x).toInt ≤ 128 := by
  rw [sgn]
  by_cases c : w - w / 2 * 2 = 0
  · rw [if_pos c, Int32.one_mul]; omega
  · rw [if_neg c, fb_mulI] <;> rw [t_m1] <;> omega
theorem gr_abs {by_ sz we : Nat → Int32} (hS : RS by_ sz we) {z st : Nat} (hz : z < 4) (hs : st < 16) : -128 ≤ (gr by_ sz st (nI z)).toInt ∧ (gr by_ sz st (nI z)).toInt ≤ 127 := by
  rw [gr, tn_nI (by omega)]
  by_cases c : sz z ≤ nI st
  · rw [if_pos c]; decide
  · rw [if_neg c]; exact hS.2.2 _ (by omega)
theorem ps_abs {n : Nat} {le ln : Int32} {wy un so uw ut xs ys zs by_ sz we : Nat → Int32} (h : RLn n le ln wy un so uw ut xs ys zs) (hS : RS by_ sz we) (P : Nat) {st : Nat} (hs : st < 16) (a : Nat) : -30720 ≤ (ps (hG wy so by_ sz a st) un P n).toInt ∧ (ps (hG wy so by_ sz a st) un P n).toInt ≤ 30720 := by
  have htot : us un n ≤ 240 := by have := us_le n (fun j hj => (h.2.2.2.1 j hj).2.1); have := h.1; omega
  have hl := uw_lof h n (Nat.le_refl n)
  rw [← qs_ps]
  have := qs_abs (f := fun p => hG wy so by_ sz a st (lof un n p)) (min (us un n) P) (by omega) (fun p hp => by
    show -128 ≤ (hG wy so by_ sz a st (lof un n p)).toInt ∧ _
    obtain ⟨-, -, ⟨z, hz, ez⟩⟩ := h.2.2.2.1 (lof un n p) (hl p (by omega)).1
    rw [hG]
    by_cases c : wy (lof un n p) / 2 = nI a
    · rw [if_pos c, ez]
      have g := gr_abs hS hz hs
      exact sg_abs g.1 g.2
    · rw [if_neg c]; decide)
  omega
theorem travel_eq (N : Nat) (hN : 400 ≤ N) {m : Nat} {mad : Int32} {ki pl ra re ko go : Nat → Int32} (hr_ : RRn m mad ki pl ra re ko go) {n : Nat} {le ln : Int32} {wy un so uw ut xs ys zs by_ sz we : Nat → Int32} (hl_ : RLn n le ln wy un so uw ut xs ys zs) (hS : RS by_ sz we) {r st : Nat} (hr : r < m) (hs : st < 16) : ∃ w : Nat, w ≤ 30720 ∧ fX4_travel N pl le wy un so by_ sz (nI r) (nI st) = some (nI w) ∧ fX8_movedOf N ln sz by_ uw ut pl (nI r) (nI st) = some (lN w) := by
  have hm := hr_.1
  have g : vp_in (nI r) 12 := vp_in_nI (by omega) (by decide)
  obtain ⟨-, ⟨P, hP1, hP2, eP⟩, -⟩ := hr_.2.2 r hr
  have g7 : fX5_growth N le wy un so by_ sz (nI P) (nI st) 2 = _ := growth7 N hN hl_ by_ sz (show P ≤ 1000 by omega) hs 2
  have g8 : fX8_grownTo N ln sz by_ uw ut (nI P) (nI st) 2 = _ := growth8 N hN hl_ by_ sz (show P ≤ 1000 by omega) hs 2
  have ab := ps_abs hl_ hS P hs 2
  generalize ps (hG wy so by_ sz 2 st) un P n = x at g7 g8 ab
  simp only [fX4_travel, fX8_movedOf, og_pos g, tn_nI (show r < 2 ^ 31 by omega), eP, g7, g8, ob]
  by_cases c : (0 : Int32) ≤ x
  · have c' := c
    rw [leT, t_0] at c'
    obtain ⟨w, hw, rfl⟩ := nI_of (x := x) (by rw [ltT, t_0]; omega)
    rw [nI_T hw] at ab
    exact ⟨w, by omega, by rw [if_pos c], by rw [if_pos c, nI_l (by omega)]⟩
  · have c' := c
    rw [leT, t_0] at c'
    have e1 : (0 - x).toInt = -x.toInt := by rw [fb_subI] <;> rw [t_0] <;> omega
    have e2 : -x = 0 - x := by rw [eqT, e1, fb_negI (by omega)]
    obtain ⟨w, hw, ew⟩ := nI_of (x := 0 - x) (by rw [ltT, t_0, e1]; omega)
    refine ⟨w, ?_, ?_, ?_⟩
    · rw [ew, nI_T hw] at e1; omega
    · rw [if_neg c, ew]
    · rw [if_neg c, e2, ew, nI_l (by omega)]
/-- refused, or a spring that is there -/
theorem spring3 {n : Nat} {mad : Int32} {ki pl ra re ko go : Nat → Int32} (h : RRn n mad ki pl ra re ko go) (lf : Int32) (fo : Nat → Int32) (p st : Int32) :
    (∃ (v lf' : Int32) (fo' : Nat → Int32), ¬ v = 0 ∧ ¬ (0 : Int32) ≤ v ∧ fX7_refusalOfSpring lf fo mad ki p st = some (v, lf', fo') ∧ fX8_needSpring lf mad fo ko go p st = some (v, lf', fo')) ∨
    (∃ r q : Nat, r < n ∧ p = nI r ∧ q < 16 ∧ st = nI q ∧ go r = 0 ∧ ko r = 2 ∧ fX7_refusalOfSpring lf fo mad ki p st = some (0, lf, fo) ∧ fX8_needSpring lf mad fo ko go p st = some (0, lf, fo)) := by
  have hn := h.1
  rcases need3 h lf fo p (if (0 : Int32) ≤ st ∧ st ≤ 15 then 1 else 0) with ⟨h7, h8⟩ | ⟨h7, h8⟩ | ⟨r, hr, rfl, hg, g0, h7, h8⟩
  · left
    refine ⟨-1, lf, fo, nm1, lm1, ?_, ?_⟩
    · simp only [fX7_refusalOfSpring, isStep7, h7, ob3, ob, nm1, if_false]
    · simp only [fX8_needSpring, isStep8, h8, ob3, ob, lm1, if_false]
  · left
    refine ⟨-3, 1, upd fo 1 (fo 1 + 1), nm3, lm3, ?_, ?_⟩
    · simp only [fX7_refusalOfSpring, isStep7, h7, ob3, ob, nm3, if_false]
    · simp only [fX8_needSpring, isStep8, h8, ob3, ob, lm3, if_false]
  · have hst : (0 : Int32) ≤ st ∧ st ≤ 15 := Classical.byContradiction fun c => hg (by rw [if_neg c])
    obtain ⟨q, -, hq2, rfl⟩ := nI_rng 0 15 (by decide) (by decide) hst.1 hst.2
    have gr_ : vp_in (nI r) 12 := vp_in_nI (by omega) (by decide)
    have n01 : ¬ (1 : Int32) = 0 := by decide
    have n20 : ¬ (2 : Int32) = 0 := by decide
    have n21 : ¬ (2 : Int32) = 1 := by decide
    have ke := (kind_eq h hr g0).1
    by_cases c : ko r = 2
    · right
      refine ⟨r, q, hr, rfl, by omega, rfl, g0, c, ?_, ?_⟩
      · simp only [fX7_refusalOfSpring, isStep7, h7, ob3, ob, if_true, fX4_isOfKind, og_pos gr_, olet, oj, tn_nI (show r < 2 ^ 31 by omega), ke, c, n01, if_false]
      · simp only [fX8_needSpring, isStep8, h8, ob3, ob, l00, if_true, og_pos gr_, tn_nI (show r < 2 ^ 31 by omega), c]
    · left
      refine ⟨-3, 3, upd fo 3 (fo 3 + 1), nm3, lm3, ?_, ?_⟩
      · simp only [fX7_refusalOfSpring, isStep7, h7, ob3, ob, if_true, fX4_isOfKind, og_pos gr_, olet, oj, tn_nI (show r < 2 ^ 31 by omega), ke, c, n20, n21, if_false, refuse7_3]
      · simp only [fX8_needSpring, isStep8, h8, ob3, ob, l00, if_true, og_pos gr_, tn_nI (show r < 2 ^ 31 by omega), c, if_false, meets8_3]
