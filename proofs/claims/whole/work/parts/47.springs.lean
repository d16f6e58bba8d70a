/-! ===== change, firm, choose ===== -/
theorem rate_of {n : Nat} {mad : Int32} {ki pl ra re ko go : Nat → Int32} (h : RRn n mad ki pl ra re ko go) {r : Nat} (hr : r < n) (hk : ko r = 2) : ∃ v : Nat, 1 ≤ v ∧ v ≤ 500 ∧ ra r = nI v := by
  obtain ⟨-, -, c, d, -⟩ := h.2.2 r hr
  exact c.resolve_left (d hk)
theorem m_change (N : Nat) (hN : 400 ≤ N) : op_change N Rel := by
  intro s t hR a1 a2
  obtain ⟨hF, hA, hU, hS, hL, hRr, hT, hC, hY⟩ := id hR
  obtain ⟨e1, e2, e3, e4, m, q⟩ := id hRr
  obtain ⟨l1, l2, l3, l4, l5, n, ql⟩ := id hL
  obtain ⟨s1, s2, s3, qs_⟩ := id hS
  have hm := q.1
  rcases spring3 q (pc7_lastFound s) (pc7_found s) a1 a2 with ⟨v, lf, fo, n0, n1, h7, h8⟩ | ⟨r, st, hr, rfl, hst, rfl, g0, hk, h7, h8⟩
  · refine ⟨v, lf, fo, pc2_above s, pc2_below s, lf, pc2_above s, pc2_below s, fo, ?_, ?_, ⟨rfl, rfl⟩, hA, ⟨rfl, rfl⟩, hS, hL, hRr, hT, hC, hY⟩
    · simp only [fX7_change, h7, ob3, ob, n0, if_false]
    · simp only [fX8_change, e1, hF.1, hF.2, hU.1, hU.2, h8, ob3, ob, n1, if_false]
  · have gr_ : vp_in (nI r) 12 := vp_in_nI (by omega) (by decide)
    obtain ⟨v, v1, v2, ev⟩ := rate_of q hr hk
    obtain ⟨w, hw, t7, t8⟩ := travel_eq N hN q ql qs_ hr hst
    have el : Int32.toInt64 (nI v) = lN v := nI_l (by omega)
    have ew : Int32.toInt64 (nI w) = lN w := nI_l (by omega)
    have hb : v * w ≤ 500 * 30720 := Nat.mul_le_mul v2 hw
    have f7 := frac7 N hN (pc2_above s) (pc2_below s) (u := v * w) (l := 1000) (by omega) (by omega) (by decide)
    have f8 := frac8 N hN (pc2_above s) (pc2_below s) (u := v * w) (l := 1000) (by omega) (by omega) (by decide) 1
    refine ⟨1, pc7_lastFound s, pc7_found s, lN (v * w / Nat.gcd (v * w) 1000), lN (1000 / Nat.gcd (v * w) 1000), pc7_lastFound s, lN (v * w / Nat.gcd (v * w) 1000), lN (1000 / Nat.gcd (v * w) 1000), pc7_found s, ?_, ?_, ⟨rfl, rfl⟩, hA, ⟨rfl, rfl⟩, hS, hL, hRr, hT, hC, hY⟩
    · simp only [fX7_change, h7, ob3, ob, if_true, fX4_rateOf, og_pos gr_, tn_nI (show r < 2 ^ 31 by omega), ev, t7, el, ew, lN_mul]
      rw [show fX2_put N (pc2_above s) (pc2_below s) (lN (v * w)) 1000 = _ from f7]
      rfl
    · simp only [fX8_change, e1, e2, e3, l2, s1, s2, hF.1, hF.2, hU.1, hU.2, h8, ob3, ob, l00, if_true, og_pos gr_, tn_nI (show r < 2 ^ 31 by omega), t8, ev, el, lN_mul]
      rw [show fX8_fraction N (pc2_above s) (pc2_below s) (lN (v * w)) 1000 1 = _ from f8]
theorem m_firm (N : Nat) (hN : 400 ≤ N) : op_firm N Rel := by
  intro s t hR a1 a2
  obtain ⟨hF, hA, hU, hS, hL, hRr, hT, hC, hY⟩ := id hR
  obtain ⟨e1, e2, e3, e4, m, q⟩ := id hRr
  obtain ⟨l1, l2, l3, l4, l5, n, ql⟩ := id hL
  obtain ⟨s1, s2, s3, qs_⟩ := id hS
  have hm := q.1
  rcases spring3 q (pc7_lastFound s) (pc7_found s) a1 a2 with ⟨v, lf, fo, n0, n1, h7, h8⟩ | ⟨r, st, hr, rfl, hst, rfl, g0, hk, h7, h8⟩
  · refine ⟨v, lf, fo, pc4_bearing s, pc2_above s, pc2_below s, lf, pc2_above s, pc2_below s, fo, ?_, ?_, ⟨rfl, rfl⟩, hA, ⟨rfl, rfl⟩, hS, hL, hRr, hT, hC, hY⟩
    · simp only [fX7_firm, h7, ob3, ob, n0, if_false]
    · simp only [fX8_firm, e1, hF.1, hF.2, hU.1, hU.2, h8, ob3, ob, n1, if_false]
  · have gr_ : vp_in (nI r) 12 := vp_in_nI (by omega) (by decide)
    obtain ⟨v, v1, v2, ev⟩ := rate_of q hr hk
    obtain ⟨w, hw, t7, t8⟩ := travel_eq N hN q ql qs_ hr hst
    obtain ⟨be, eb, hbe⟩ := note_ok N hN q ql (pc6_bytes s) (pc6_sizes s) (pc4_bearing s) hst
    obtain ⟨d, hd, u7, u8⟩ := twice_eq N hN q ql qs_ hr hst hbe (m9r (r := r) (by omega))
    have ed : Int32.toInt64 (nI d) = lN d := nI_l (by omega)
    by_cases d0 : d = 0
    · subst d0
      have z0' : lg_cmp (Int32.toInt64 (nI 0)) 0 = 0 := by rw [ed]; exact (lcz (by decide)).mpr rfl
      have z1' : nI 0 = 0 := rfl
      refine ⟨-3, 4, upd (pc7_found s) 4 (pc7_found s 4 + 1), be, pc2_above s, pc2_below s, 4, pc2_above s, pc2_below s, upd (pc7_found s) 4 (pc7_found s 4 + 1), ?_, ?_, ⟨rfl, rfl⟩, hA, ⟨rfl, rfl⟩, hS, hL, hRr, hT, hC, hY⟩
      · simp only [fX7_firm, h7, ob3, ob, if_true, eb, u7, olet]
        rw [if_pos z0']
        simp only [refuse7_4]
      · simp only [fX8_firm, e1, e2, l2, s1, s2, s3, hF.1, hF.2, hU.1, hU.2, h8, ob3, ob, l00, if_true, u8]
        rw [if_pos z1']
        simp only [meets8_4]
    · have z0' : ¬ lg_cmp (Int32.toInt64 (nI d)) 0 = 0 := fun c => d0 ((lcz (by omega)).mp (by rw [← ed]; exact c))
      have z1' : ¬ nI d = 0 := nI_ne0 (by omega) (by omega)
      have el : Int32.toInt64 (nI v) = lN v := nI_l (by omega)
      have ew : Int32.toInt64 (nI w) = lN w := nI_l (by omega)
      have hb : 2 * v * w ≤ 1000 * 30720 := Nat.mul_le_mul (by omega) hw
      have x2 : (2 : Int64) * lN v = lN (2 * v) := lN_mul 2 v
      have x1000 : (1000 : Int64) * lN d = lN (1000 * d) := lN_mul 1000 d
      have f7 := frac7 N hN (pc2_above s) (pc2_below s) (u := 2 * v * w) (l := 1000 * d) (by omega) (by omega) (by omega)
      have f8 := frac8 N hN (pc2_above s) (pc2_below s) (u := 2 * v * w) (l := 1000 * d) (by omega) (by omega) (by omega) 1
      refine ⟨1, pc7_lastFound s, pc7_found s, be, lN (2 * v * w / Nat.gcd (2 * v * w) (1000 * d)), lN (1000 * d / Nat.gcd (2 * v * w) (1000 * d)), pc7_lastFound s, lN (2 * v * w / Nat.gcd (2 * v * w) (1000 * d)), lN (1000 * d / Nat.gcd (2 * v * w) (1000 * d)), pc7_found s, ?_, ?_, ⟨rfl, rfl⟩, hA, ⟨rfl, rfl⟩, hS, hL, hRr, hT, hC, hY⟩
      · simp only [fX7_firm, h7, ob3, ob, if_true, eb, u7, olet]
        rw [if_neg z0']
        simp only [fX4_rateOf, og_pos gr_, tn_nI (show r < 2 ^ 31 by omega), ev, t7, el, ew, ed, x2, x1000, lN_mul, f7]
        rfl
      · simp only [fX8_firm, e1, e2, e3, l2, s1, s2, s3, hF.1, hF.2, hU.1, hU.2, h8, ob3, ob, l00, if_true, u8]
        rw [if_neg z1']
        simp only [og_pos gr_, tn_nI (show r < 2 ^ 31 by omega), t8, ev, el, ed, x2, x1000, lN_mul, f8]
theorem ch_L {z : Nat} (hz : z ≤ 12) (li : Nat → Int32) (hli : ∀ k, k < z → ∃ v : Nat, 1 ≤ v ∧ v ≤ 500 ∧ li k = nI v) (N : Nat) (ln : Int32) (sz by_ uw ut pl : Nat → Int32) (r st : Int32) {w d : Nat} (hw : w ≤ 30720) (t8 : fX8_movedOf N ln sz by_ uw ut pl r st = some (lN w)) : ∀ (k c q q' : Nat) (x : Int32), c + k = z → k < q → k < q' → (x = -9 ∨ ∃ v : Nat, 1 ≤ v ∧ v ≤ 500 ∧ x = nI v) → ∃ x' : Int32, (x' = -9 ∨ ∃ v : Nat, 1 ≤ v ∧ v ≤ 500 ∧ x' = nI v) ∧ fX3_greatestFirmEnough_L6 (nI z) li (nI w) (nI d) q x (nI c) = some x' ∧ ∀ K, fX8_choose_L41 N ln (nI z) sz by_ uw ut pl li r st (nI d) K q' x (nI c) = K x' := by
  have ew : Int32.toInt64 (nI w) = lN w := nI_l (by omega)
  have n01 : ¬ (1 : Int32) = 0 := by decide
  intro k
  induction k with
  | zero =>
    intro c q q' x hc hq hq' hx
    obtain ⟨q, rfl⟩ : ∃ z, q = z + 1 := ⟨q - 1, by omega⟩
    obtain ⟨q', rfl⟩ : ∃ z, q' = z + 1 := ⟨q' - 1, by omega⟩
    exact ⟨x, hx, by rw [fX3_greatestFirmEnough_L6, if_pos (nI_le (by omega) (by omega))], fun K => by rw [fX8_choose_L41, if_pos (nI_le (by omega) (by omega))]⟩
  | succ k ih =>
    intro c q q' x hc hq hq' hx
    obtain ⟨q, rfl⟩ : ∃ z, q = z + 1 := ⟨q - 1, by omega⟩
    obtain ⟨q', rfl⟩ : ∃ z, q' = z + 1 := ⟨q' - 1, by omega⟩
    have g : vp_in (nI c) 12 := vp_in_nI (by omega) (by decide)
    have hy : (if 0 < lg_cmp (8 * Int32.toInt64 (li c) * lN w) (1000 * Int32.toInt64 (nI d)) then x else if li c ≤ x then x else li c) = -9 ∨ ∃ v : Nat, 1 ≤ v ∧ v ≤ 500 ∧ (if 0 < lg_cmp (8 * Int32.toInt64 (li c) * lN w) (1000 * Int32.toInt64 (nI d)) then x else if li c ≤ x then x else li c) = nI v := by
      by_cases c1 : 0 < lg_cmp (8 * Int32.toInt64 (li c) * lN w) (1000 * Int32.toInt64 (nI d))
      · rw [if_pos c1]; exact hx
      · rw [if_neg c1]
        by_cases c2 : li c ≤ x
        · rw [if_pos c2]; exact hx
        · rw [if_neg c2]; exact Or.inr (hli c (by omega))
    obtain ⟨x', hx', v7, v8⟩ := ih (c + 1) q q' _ (by omega) (by omega) (by omega) hy
    refine ⟨x', hx', ?_, fun K => ?_⟩
    · rw [fX3_greatestFirmEnough_L6, if_neg (lit_le (by omega) (by omega))]
      simp only [og_pos g, tn_nI (show c < 2 ^ 31 by omega), ew, olet, nI_s]
      by_cases c1 : 0 < lg_cmp (8 * Int32.toInt64 (li c) * lN w) (1000 * Int32.toInt64 (nI d))
      · rw [if_pos c1] at v7 ⊢
        simp only [ob, if_true]; exact v7
      · rw [if_neg c1] at v7 ⊢
        simp only [ob, n01, if_false]
        by_cases c2 : li c ≤ x
        · rw [if_pos c2] at v7 ⊢; exact v7
        · rw [if_neg c2] at v7 ⊢; exact v7
    · have v8' := v8 K
      rw [fX8_choose_L41, if_neg (lit_le (by omega) (by omega)), og_pos g, t8]
      simp only [og_pos g, tn_nI (show c < 2 ^ 31 by omega), ob, oj, nI_s]
      by_cases c1 : 0 < lg_cmp (8 * Int32.toInt64 (li c) * lN w) (1000 * Int32.toInt64 (nI d))
      · rw [if_pos c1] at v8' ⊢
        simp only [if_true]; exact v8'
      · rw [if_neg c1] at v8' ⊢
        simp only [n01, if_false]
        by_cases c2 : li c ≤ x
        · rw [if_pos c2] at v8' ⊢; exact v8'
        · rw [if_neg c2] at v8' ⊢; exact v8'
theorem RR_rate {n : Nat} {mad : Int32} {ki pl ra re ko go : Nat → Int32} (h : RRn n mad ki pl ra re ko go) (r : Nat) {v : Nat} (h1 : 1 ≤ v) (h2 : v ≤ 500) : RRn n mad ki pl (upd ra r (nI v)) re ko go := by
  refine ⟨h.1, h.2.1, fun i hi => ?_⟩
  obtain ⟨a, b, c, d, f⟩ := h.2.2 i hi
  rw [upd_at]
  by_cases e : i = r
  · rw [if_pos e]; exact ⟨a, b, Or.inr ⟨v, h1, h2, rfl⟩, fun _ => m9r (by omega), f⟩
  · rw [if_neg e]; exact ⟨a, b, c, d, f⟩
theorem m_choose (N : Nat) (hN : 400 ≤ N) : op_choose N Rel := by
  intro s t hR a1 a2
  obtain ⟨hF, hA, hU, hS, hL, hRr, hT, hC, hY⟩ := id hR
  obtain ⟨e1, e2, e3, e4, m, q⟩ := id hRr
  obtain ⟨l1, l2, l3, l4, l5, n, ql⟩ := id hL
  obtain ⟨s1, s2, s3, qs_⟩ := id hS
  obtain ⟨k1, k2, z, hz, ez, hli⟩ := id hT
  have hm := q.1
  rcases spring3 q (pc7_lastFound s) (pc7_found s) a1 a2 with ⟨v, lf, fo, n0, n1, h7, h8⟩ | ⟨r, st, hr, rfl, hst, rfl, g0, hk, h7, h8⟩
  · refine ⟨v, lf, fo, pc4_rates s, pc4_bearing s, lf, fo, pc4_rates s, ?_, ?_, ⟨rfl, rfl⟩, hA, hU, hS, hL, ⟨e1, e2, rfl, e4, m, q⟩, hT, hC, hY⟩
    · simp only [fX7_choose, h7, ob3, ob, n0, if_false]
    · simp only [fX8_choose, e1, e3, hF.1, hF.2, h8, ob3, ob, n1, if_false]
  · have gr_ : vp_in (nI r) 12 := vp_in_nI (by omega) (by decide)
    obtain ⟨w, hw, t7, t8⟩ := travel_eq N hN q ql qs_ hr hst
    obtain ⟨be, eb, hbe⟩ := note_ok N hN q ql (pc6_bytes s) (pc6_sizes s) (pc4_bearing s) hst
    obtain ⟨d, hd, u7, u8⟩ := twice_eq N hN q ql qs_ hr hst hbe (m9r (r := r) (by omega))
    by_cases d0 : d = 0
    · subst d0
      have z1' : nI 0 = 0 := rfl
      refine ⟨-3, 4, upd (pc7_found s) 4 (pc7_found s 4 + 1), pc4_rates s, be, 4, upd (pc7_found s) 4 (pc7_found s 4 + 1), pc4_rates s, ?_, ?_, ⟨rfl, rfl⟩, hA, hU, hS, hL, ⟨e1, e2, rfl, e4, m, q⟩, hT, hC, hY⟩
      · simp only [fX7_choose, h7, ob3, ob, if_true, eb, u7]
        rw [if_pos z1']
        simp only [refuse7_4]
      · simp only [fX8_choose, e1, e2, e3, l2, s1, s2, s3, hF.1, hF.2, h8, ob3, ob, l00, if_true, u8]
        rw [if_pos z1']
        simp only [meets8_4]
    · have z1' : ¬ nI d = 0 := nI_ne0 (by omega) (by omega)
      obtain ⟨x, hx, v7, v8⟩ := ch_L hz (pc3_rates s) hli N (pc5_length s) (pc6_sizes s) (pc6_bytes s) (pc8_unitWay t) (pc8_unitStuff t) (pc4_places s) (nI r) (nI st) (d := d) hw t8 z 0 N N (-9) (by omega) (by omega) (by omega) (Or.inl rfl)
      by_cases c : x = -9
      · refine ⟨x, pc7_lastFound s, pc7_found s, pc4_rates s, be, pc7_lastFound s, pc7_found s, pc4_rates s, ?_, ?_, ⟨rfl, rfl⟩, hA, hU, hS, hL, ⟨e1, e2, rfl, e4, m, q⟩, hT, hC, hY⟩
        · simp only [fX7_choose, h7, ob3, ob, if_true, eb, u7]
          rw [if_neg z1', t7]
          simp only [fX3_greatestFirmEnough, ez]
          rw [show fX3_greatestFirmEnough_L6 (nI z) (pc3_rates s) (nI w) (nI d) N (-9) 0 = _ from v7]
          simp only []
          rw [if_pos c]
        · simp only [fX8_choose, e1, e2, e3, k1, k2, l2, s1, s2, s3, hF.1, hF.2, h8, ob3, ob, l00, if_true, u8, oj, ez]
          rw [if_neg z1', show fX8_choose_L41 N (pc5_length s) (nI z) (pc6_sizes s) (pc6_bytes s) (pc8_unitWay t) (pc8_unitStuff t) (pc4_places s) (pc3_rates s) (nI r) (nI st) (nI d) _ N (-9) 0 = _ from v8 _, if_pos c]
          simp only [og_pos gr_, tn_nI (show r < 2 ^ 31 by omega)]
          rw [upd_same rfl]
      · obtain ⟨v, v1, v2, ev⟩ := hx.resolve_left c
        refine ⟨x, pc7_lastFound s, pc7_found s, upd (pc4_rates s) r x, be, pc7_lastFound s, pc7_found s, upd (pc4_rates s) r x, ?_, ?_, ⟨rfl, rfl⟩, hA, hU, hS, hL, ⟨e1, e2, rfl, e4, m, by rw [ev]; exact RR_rate q r v1 v2⟩, hT, hC, hY⟩
        · simp only [fX7_choose, h7, ob3, ob, if_true, eb, u7]
          rw [if_neg z1', t7]
          simp only [fX3_greatestFirmEnough, ez]
          rw [show fX3_greatestFirmEnough_L6 (nI z) (pc3_rates s) (nI w) (nI d) N (-9) 0 = _ from v7]
          simp only []
          rw [if_neg c]
          simp only [fX4_setRate, og_pos gr_, tn_nI (show r < 2 ^ 31 by omega)]
        · simp only [fX8_choose, e1, e2, e3, k1, k2, l2, s1, s2, s3, hF.1, hF.2, h8, ob3, ob, l00, if_true, u8, oj, ez]
          rw [if_neg z1', show fX8_choose_L41 N (pc5_length s) (nI z) (pc6_sizes s) (pc6_bytes s) (pc8_unitWay t) (pc8_unitStuff t) (pc4_places s) (pc3_rates s) (nI r) (nI st) (nI d) _ N (-9) 0 = _ from v8 _, if_neg c]
          simp only [og_pos gr_, tn_nI (show r < 2 ^ 31 by omega)]
