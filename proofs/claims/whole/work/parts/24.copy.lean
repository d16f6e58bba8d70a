/-! ===== copy ===== -/
theorem i64T (x : Int32) : (Int32.toInt64 x).toInt = x.toInt := Int32.toInt_toInt64 x
theorem add64 (a b : Int32) : (Int32.toInt64 a + Int32.toInt64 b).toInt = a.toInt + b.toInt := by
  have ra := fb_rng a
  have rb := fb_rng b
  rw [fb_addL] <;> rw [i64T, i64T] <;> omega
theorem le64 (x y : Int64) : (x ≤ y) = (x.toInt ≤ y.toInt) := by rw [Int64.le_iff_toInt_le]
theorem lt64 (x y : Int64) : (x < y) = (x.toInt < y.toInt) := by rw [Int64.lt_iff_toInt_lt]
theorem nar_b {x : Int32} (h1 : -128 ≤ x.toInt) (h2 : x.toInt ≤ 127) : vp_nar .byte x = x := by
  rw [vp_nar_byte]; exact fb_byte h1 (by omega)
theorem fit_b {x : Int32} (h1 : -128 ≤ x.toInt) (h2 : x.toInt ≤ 127) : fits .byte (.int x) = true := by
  have := pk_fb x
  rw [fb_byte h1 (by omega)] at this
  exact this
theorem idx8' (j i x : Nat) : 16 * nI j + nI i + nI x = nI (16 * j + i + x) := by rw [idx8, nI_add]
theorem cp_L98 {j i z : Nat} (hj : j < 4) (hz : i + z ≤ 16) (gr : Nat → Int32) (hg : ∀ k, k < 64 → -128 ≤ (gr k).toInt ∧ (gr k).toInt ≤ 127) (K : (Nat → Int32) → Option (Int32 × Int32 × (Nat → Int32) × (Nat → Int32) × (Nat → Int32))) (c : Nat → Int32) : ∀ (m x n : Nat), x + m = z → m < n → fX8_copy_L98 gr (nI j) (nI i) (nI z) K n (nI x) (fb_put c (fun k => gr (16 * j + i + k)) 0 x) = K (fb_put c (fun k => gr (16 * j + i + k)) 0 z) := by
  intro m
  induction m with
  | zero =>
    intro x n hx hn
    obtain ⟨n, rfl⟩ : ∃ q, n = q + 1 := ⟨n - 1, by omega⟩
    have e : x = z := by omega
    subst e
    rw [fX8_copy_L98, if_pos (nI_le (by omega) (by omega))]
  | succ m ih =>
    intro x n hx hn
    obtain ⟨n, rfl⟩ : ∃ q, n = q + 1 := ⟨n - 1, by omega⟩
    have g1 : vp_in (nI (16 * j + i + x)) 64 := vp_in_nI (by omega) (by decide)
    have g2 : vp_in (nI x) 16 := vp_in_nI (by omega) (by decide)
    have hb := hg (16 * j + i + x) (by omega)
    have es := fb_put_succ c (fun k => gr (16 * j + i + k)) 0 x
    rw [Nat.zero_add] at es
    rw [fX8_copy_L98, if_neg (lit_le (by omega) (by omega)), idx8', og_pos g1, og_pos g2, nI_s, tn_nI (n := x) (by omega), tn_nI (n := 16 * j + i + x) (by omega), nar_b hb.1 hb.2, es, ih (x + 1) n (by omega) (by omega)]
theorem cp_L135 {j i z : Nat} (hj : j < 4) (hz : i + z ≤ 16) (la : Int32) (ca gr s28 : Nat → Int32) (v : Nat → Int32) (hv : ∀ k, k < z → s28 k = v k ∧ -128 ≤ (v k).toInt ∧ (v k).toInt ≤ 127) : ∀ (m x n : Nat), x + m = z → m < n → fX8_copy_L135 la ca (nI j) (nI i) (nI z) s28 n (nI x) (fb_put gr v (16 * j + i) x) = some (1, la, ca, fb_put gr v (16 * j + i) z, s28) := by
  intro m
  induction m with
  | zero =>
    intro x n hx hn
    obtain ⟨n, rfl⟩ : ∃ q, n = q + 1 := ⟨n - 1, by omega⟩
    have e : x = z := by omega
    subst e
    rw [fX8_copy_L135, if_pos (nI_le (by omega) (by omega))]
  | succ m ih =>
    intro x n hx hn
    obtain ⟨n, rfl⟩ : ∃ q, n = q + 1 := ⟨n - 1, by omega⟩
    have g1 : vp_in (nI (16 * j + i + x)) 64 := vp_in_nI (by omega) (by decide)
    have g2 : vp_in (nI x) 16 := vp_in_nI (by omega) (by decide)
    have hb := hv x (by omega)
    rw [fX8_copy_L135, if_neg (lit_le (by omega) (by omega)), idx8', og_pos g2, og_pos g1, nI_s, tn_nI (n := x) (by omega), tn_nI (n := 16 * j + i + x) (by omega), hb.1, nar_b hb.2.1 hb.2.2, fb_put_succ, ih (x + 1) n (by omega) (by omega)]
theorem put_cpy (gr : Nat → Int32) (sp dp n : Nat) : fb_put gr (fun k => gr (sp + k)) dp n = va_cpy gr gr sp dp n := by
  funext k
  by_cases h : dp ≤ k ∧ k < dp + n
  · rw [fb_put_in h.1 h.2, pk_cpy_in h.1 h.2]
  · rw [fb_put_out (by omega), pk_cpy_out (by omega)]
theorem RS_cpy {by_ sz we : Nat → Int32} (h : RS by_ sz we) {sp dp n : Nat} (h1 : sp + n ≤ 64) : RS (va_cpy by_ by_ sp dp n) sz we := by
  refine ⟨h.1, h.2.1, fun k hk => ?_⟩
  by_cases e : dp ≤ k ∧ k < dp + n
  · rw [pk_cpy_in e.1 e.2]; exact h.2.2 _ (by omega)
  · rw [pk_cpy_out (by omega)]; exact h.2.2 k hk
theorem m_copy (N : Nat) (hN : 400 ≤ N) : op_copy N Rel := by
  intro s t hR a1 a2 a3 a4 a5
  obtain ⟨hF, hA, hU, hS, hL, hRr, hT, hC, hY⟩ := id hR
  obtain ⟨e1, e2, e3, q⟩ := id hS
  have same : ∃ (r : Int32) (lf : Int32) (fo by_ co : Nat → Int32), fX7_copy (pc7_lastFound s) (pc7_found s) (pc6_bytes s) (pc6_sizes s) a1 a2 a3 a4 a5 = some (r, lf, fo, by_) ∧ fX8_copy N (pc7_lastFound s) (pc7_found s) (pc6_sizes s) (pc6_bytes s) (pc8_copied t) a1 a2 a3 a4 a5 = some (r, lf, fo, by_, co) ∧ RS by_ (pc6_sizes s) (pc6_weights s) := by
    by_cases h : (0 : Int32) ≤ a1 ∧ a1 ≤ 3
    · by_cases h' : (0 : Int32) ≤ a3 ∧ a3 ≤ 3
      · obtain ⟨j, -, hj3, rfl⟩ := nI_rng 0 3 (by decide) (by decide) h.1 h.2
        obtain ⟨l, -, hl3, rfl⟩ := nI_rng 0 3 (by decide) (by decide) h'.1 h'.2
        have hj : j < 4 := by omega
        have hl : l < 4 := by omega
        have g : vp_in (nI j) 4 := vp_in_nI hj (by decide)
        have g' : vp_in (nI l) 4 := vp_in_nI hl (by decide)
        have qj := q.1 j hj
        have ql := q.1 l hl
        by_cases hz : pc6_sizes s j = -1 ∨ pc6_sizes s l = -1
        · refine ⟨-3, 1, upd (pc7_found s) 1 (pc7_found s 1 + 1), pc6_bytes s, pc8_copied t, ?_, ?_, q⟩
          · simp only [fX7_copy, isStuff7, ob, bz, fX6_isThere, og_pos g, og_pos g', oj, tn_nI (show j < 2 ^ 31 by omega), tn_nI (show l < 2 ^ 31 by omega), ob3, refuse7_1]
            rw [if_neg (not_not_intro h), if_neg (not_not_intro h')]
            by_cases hz1 : pc6_sizes s j = -1
            · simp [hz1]
            · have hz2 : pc6_sizes s l = -1 := hz.resolve_left hz1
              simp [hz1, hz2]
          · simp only [fX8_copy, isStuff8, ob, bz, og_pos g, og_pos g', oj, tn_nI (show j < 2 ^ 31 by omega), tn_nI (show l < 2 ^ 31 by omega), ob3, meets8_1]
            rw [if_neg (not_not_intro h), if_neg (not_not_intro h')]
            by_cases hz1 : pc6_sizes s j < 0
            · rw [if_pos hz1]
            · rw [if_neg hz1, if_neg]
              rcases hz with hz | hz
              · exact absurd (by rw [ltT, hz]; decide) hz1
              · rw [hz]; decide
        · have hz1 : ¬ pc6_sizes s j = -1 := fun c => hz (Or.inl c)
          have hz2 : ¬ pc6_sizes s l = -1 := fun c => hz (Or.inr c)
          have zj : ¬ pc6_sizes s j < 0 := by rw [eqT, t_m1] at hz1; rw [ltT, t_0]; omega
          have zl : (0 : Int32) ≤ pc6_sizes s l := by rw [eqT, t_m1] at hz2; rw [leT, t_0]; omega
          have r2 := fb_rng a2
          have r4 := fb_rng a4
          have r5 := fb_rng a5
          by_cases hb : (0 ≤ a2.toInt ∧ 0 ≤ a5.toInt ∧ a2.toInt + a5.toInt ≤ (pc6_sizes s j).toInt) ∧ (0 ≤ a4.toInt ∧ 0 ≤ a5.toInt ∧ a4.toInt + a5.toInt ≤ (pc6_sizes s l).toInt)
          · obtain ⟨i, hi, rfl⟩ := nI_of (x := a2) (by rw [ltT, t_0]; omega)
            obtain ⟨k, hk, rfl⟩ := nI_of (x := a4) (by rw [ltT, t_0]; omega)
            obtain ⟨z, hz, rfl⟩ := nI_of (x := a5) (by rw [ltT, t_0]; omega)
            have hb' := hb
            rw [nI_T hi, nI_T hz, nI_T hk] at hb'
            have iz : i + z ≤ 16 := by omega
            have kz : k + z ≤ 16 := by omega
            have p1 : ¬ nI (16 * j + i) < 0 := nI_pos (by omega)
            have p2 : ¬ nI (16 * l + k) < 0 := nI_pos (by omega)
            have p3 : ¬ nI z < 0 := nI_pos (by omega)
            have p4 : 16 * j + i + z ≤ 64 := by omega
            have p5 : 16 * l + k + z ≤ 64 := by omega
            have p6 : ∀ x, x < z → fits .byte (.int (pc6_bytes s (16 * j + i + x))) = true := fun x hx => by
              have := q.2.2 (16 * j + i + x) (by omega)
              exact fit_b this.1 this.2
            refine ⟨1, pc7_lastFound s, pc7_found s, va_cpy (pc6_bytes s) (pc6_bytes s) (16 * j + i) (16 * l + k) z, fb_put (pc8_copied t) (fun x => pc6_bytes s (16 * j + i + x)) 0 z, ?_, ?_, RS_cpy q p4⟩
            · simp only [fX7_copy, isStuff7, ob, bz, fX6_isThere, og_pos g, og_pos g', oj, tn_nI (show j < 2 ^ 31 by omega), tn_nI (show l < 2 ^ 31 by omega), ob3, hz1, hz2, if_false, hasB _ hj qj.1 qj.2, hasB _ hl ql.1 ql.2, fX6_transfer, idx7, og_pos p1, og_pos p2, og_pos p3, tn_nI (show 16 * j + i < 2 ^ 31 by omega), tn_nI (show 16 * l + k < 2 ^ 31 by omega), tn_nI hz, og_pos p4, og_pos p5, og_pos p6]
              rw [if_neg (not_not_intro h), if_neg (not_not_intro h'), if_neg (by decide), if_neg (by decide), if_neg (not_not_intro hb.1), if_neg (not_not_intro hb.2)]
            · have c1 : ¬ (0 < lg_cmp (Int32.toInt64 (nI i) + Int32.toInt64 (nI z)) (Int32.toInt64 (pc6_sizes s j))) := by
                rw [lg_cmp_gt, lt64, add64, i64T]; omega
              have c2 : lg_cmp (Int32.toInt64 (nI k) + Int32.toInt64 (nI z)) (Int32.toInt64 (pc6_sizes s l)) ≤ 0 := by
                rw [lg_cmp_le, le64, add64, i64T]; omega
              simp only [fX8_copy, isStuff8, ob, bz, og_pos g, og_pos g', oj, tn_nI (show j < 2 ^ 31 by omega), tn_nI (show l < 2 ^ 31 by omega)]
              rw [if_neg (not_not_intro h), if_neg (not_not_intro h'), if_neg zj, if_pos zl, if_neg (nI_pos hi), if_neg (nI_pos hk), if_neg p3, if_neg c1, if_pos c2]
              have f0 : pc8_copied t = fb_put (pc8_copied t) (fun x => pc6_bytes s (16 * j + i + x)) 0 0 := (fb_put_0 _ _ _).symm
              rw [show (0 : Int32) = nI 0 from rfl]
              conv => lhs; rw [f0]
              rw [cp_L98 hj iz _ q.2.2 _ _ z 0 N (by omega) (by omega)]
              have f1 : pc6_bytes s = fb_put (pc6_bytes s) (fun x => pc6_bytes s (16 * j + i + x)) (16 * l + k) 0 := (fb_put_0 _ _ _).symm
              have := cp_L135 hl kz (pc7_lastFound s) (pc7_found s) (pc6_bytes s) (fb_put (pc8_copied t) (fun x => pc6_bytes s (16 * j + i + x)) 0 z) (fun x => pc6_bytes s (16 * j + i + x)) (fun x hx => ⟨by rw [fb_put_in (by omega) (by omega)]; rfl, q.2.2 _ (by omega)⟩) z 0 N (by omega) (by omega)
              rw [fb_put_0, put_cpy] at this
              exact this
          · refine ⟨-3, 2, upd (pc7_found s) 2 (pc7_found s 2 + 1), pc6_bytes s, pc8_copied t, ?_, ?_, q⟩
            · simp only [fX7_copy, isStuff7, ob, bz, fX6_isThere, og_pos g, og_pos g', oj, tn_nI (show j < 2 ^ 31 by omega), tn_nI (show l < 2 ^ 31 by omega), ob3, hz1, hz2, if_false, hasB _ hj qj.1 qj.2, hasB _ hl ql.1 ql.2, refuse7_2]
              rw [if_neg (not_not_intro h), if_neg (not_not_intro h'), if_neg (by decide), if_neg (by decide)]
              by_cases hb1 : 0 ≤ a2.toInt ∧ 0 ≤ a5.toInt ∧ a2.toInt + a5.toInt ≤ (pc6_sizes s j).toInt
              · rw [if_neg (not_not_intro hb1), if_pos (fun c => hb ⟨hb1, c⟩)]
              · rw [if_pos hb1]
            · simp only [fX8_copy, isStuff8, ob, bz, og_pos g, og_pos g', oj, tn_nI (show j < 2 ^ 31 by omega), tn_nI (show l < 2 ^ 31 by omega), ob3, meets8_2]
              rw [if_neg (not_not_intro h), if_neg (not_not_intro h'), if_neg zj, if_pos zl]
              by_cases b1 : a2 < 0
              · rw [if_pos b1]
              · rw [if_neg b1]
                by_cases b2 : a4 < 0
                · rw [if_pos b2]
                · rw [if_neg b2]
                  by_cases b3 : a5 < 0
                  · rw [if_pos b3]
                  · rw [if_neg b3]
                    by_cases b4 : 0 < lg_cmp (Int32.toInt64 a2 + Int32.toInt64 a5) (Int32.toInt64 (pc6_sizes s j))
                    · rw [if_pos b4]
                    · rw [if_neg b4, if_neg]
                      intro b5
                      rw [lg_cmp_gt, lt64, add64, i64T] at b4
                      rw [lg_cmp_le, le64, add64, i64T] at b5
                      rw [ltT, t_0] at b1 b2 b3
                      omega
      · refine ⟨-1, pc7_lastFound s, pc7_found s, pc6_bytes s, pc8_copied t, ?_, ?_, q⟩
        · simp only [fX7_copy, isStuff7, ob, bz]; rw [if_neg (not_not_intro h), if_pos h']
        · simp only [fX8_copy, isStuff8, ob, bz]; rw [if_neg (not_not_intro h), if_pos h']
    · refine ⟨-1, pc7_lastFound s, pc7_found s, pc6_bytes s, pc8_copied t, ?_, ?_, q⟩
      · simp only [fX7_copy, isStuff7, ob, bz]; rw [if_pos h]
      · simp only [fX8_copy, isStuff8, ob, bz]; rw [if_pos h]
  obtain ⟨r, lf, fo, by_, co, g1, g2, g3⟩ := same
  exact ⟨r, lf, fo, by_, lf, fo, by_, co, g1, by rw [hF.1, hF.2, e1, e2]; exact g2, ⟨rfl, rfl⟩, hA, hU, ⟨rfl, e2, e3, g3⟩, hL, hRr, hT, hC, hY⟩
