/-! ===== loop ===== -/
theorem leg_in {n : Nat} {a : Int32} (hn : n ≤ 12) (h : (0 : Int32) ≤ a ∧ a ≤ nI n - 1) : ∃ i, i < n ∧ a = nI i := by
  obtain ⟨h1, h2⟩ := h
  by_cases c : n = 0
  · subst c
    have e : (nI 0 - 1 : Int32).toInt = -1 := by decide
    rw [leT, e] at h2
    rw [leT, t_0] at h1
    omega
  · rw [show (1 : Int32) = nI 1 from rfl, pk_sub (by omega)] at h2
    obtain ⟨i, -, hi, rfl⟩ := nI_rng 0 (n - 1) (by omega) (by decide) h1 h2
    exact ⟨i, by omega, rfl⟩
theorem m_loop (N : Nat) (hN : 400 ≤ N) : op_loop N Rel := by
  intro s t hR a1 a2 a3 a4
  obtain ⟨hF, hA, hU, hS, hL, hRr, hT, hC, hY⟩ := id hR
  obtain ⟨l1, l2, l3, l4, l5, n, q⟩ := id hL
  obtain ⟨s1, s2, s3, qs_⟩ := id hS
  have hn := q.1
  have n10 : ¬ (1 : Int32) = 0 := by decide
  by_cases h1 : (0 : Int32) ≤ a1 ∧ a1 ≤ pc5_legs s - 1
  · obtain ⟨i, hi, rfl⟩ := leg_in hn (by rw [← q.2.1]; exact h1)
    obtain ⟨⟨w, hw, ew⟩, ⟨u, hu1, hu2, eu⟩, -⟩ := q.2.2.2.1 i hi
    have gi : vp_in (nI i) 12 := vp_in_nI (by omega) (by decide)
    by_cases h2 : (0 : Int32) ≤ a2 ∧ a2 ≤ 5
    · obtain ⟨v, -, hv, rfl⟩ := nI_rng 0 5 (by decide) (by decide) h2.1 h2.2
      have c7 := ac7 (wy := pc5_ways s) (i := i) (w := w) (v := v) (by omega) hw ew (by omega)
      by_cases h5 : w / 2 = v / 2
      · have e8 : nI v / 2 = nI w / 2 := by rw [way_d hw, way_d (by omega), h5]
        refine ⟨-1, pc5_point s, ?_, ?_, hF, hA, hU, hS, hL, hRr, hT, hC, hY⟩
        · simp only [fX7_loop, fX5_legs, wi7, isWay7, isStep7, isThickness7, ob, bz, c7]
          rw [if_neg (not_not_intro h1), if_neg (not_not_intro h2)]
          by_cases h3 : (0 : Int32) ≤ a3 ∧ a3 ≤ 15
          · rw [if_neg (not_not_intro h3)]
            by_cases h4 : (1 : Int32) ≤ a4 ∧ a4 ≤ 100
            · rw [if_neg (not_not_intro h4), if_pos h5, if_pos rfl]
            · rw [if_pos h4]
          · rw [if_pos h3]
        · simp only [fX8_loop, wi8, isStep8, ob, bz, l1, l3, og_pos gi, tn_nI (show i < 2 ^ 31 by omega), ew]
          rw [if_neg (not_not_intro h1), if_neg (not_not_intro h2), if_pos e8]
      · have e8 : ¬ nI v / 2 = nI w / 2 := by
          rw [way_d hw, way_d (by omega)]
          exact fun z => h5 ((nI_eq (by omega) (by omega)).mp z).symm
        by_cases h3 : (0 : Int32) ≤ a3 ∧ a3 ≤ 15
        · by_cases h4 : (1 : Int32) ≤ a4 ∧ a4 ≤ 100
          · obtain ⟨st, -, hst, rfl⟩ := nI_rng 0 15 (by decide) (by decide) h3.1 h3.2
            obtain ⟨T, -, hT_, rfl⟩ := nI_rng 1 100 (by decide) (by decide) h4.1 h4.2
            by_cases h6 : 3 ≤ u
            · have g6 : nI 3 ≤ nI u := nI_le h6 (by omega)
              obtain ⟨F, eF, H⟩ := least_eq N hN q qs_ (show st < 16 by omega) hT_
              obtain ⟨r, z, -, E7, E8⟩ := H i w u v (pc5_point s) hi hw ew eu hu2 (by omega) h5 h6
              refine ⟨r, z, ?_, ?_, hF, hA, hU, hS, hL, hRr, hT, hC, hY⟩
              · simp only [fX7_loop, fX5_legs, wi7, isWay7, isStep7, isThickness7, ob, bz, c7, fX5_unitsOf, og_pos gi, tn_nI (show i < 2 ^ 31 by omega), eu]
                rw [if_neg (not_not_intro h1), if_neg (not_not_intro h2), if_neg (not_not_intro h3), if_neg (not_not_intro h4), if_neg h5, if_neg n10, if_pos (show (3 : Int32) ≤ nI u from g6), eF]
                simp only [E7, ob2, ob]
              · simp only [fX8_loop, wi8, isStep8, ob, bz, l1, l2, l3, l4, s1, s2, og_pos gi, tn_nI (show i < 2 ^ 31 by omega), ew, eu]
                rw [if_neg (not_not_intro h1), if_neg (not_not_intro h2), if_neg e8, if_neg (not_not_intro h3), if_neg (not_not_intro h4), if_pos (show (3 : Int32) ≤ nI u from g6), E8]
            · have g6 : ¬ nI 3 ≤ nI u := lit_le (by omega) (by omega)
              refine ⟨-4, pc5_point s, ?_, ?_, hF, hA, hU, hS, hL, hRr, hT, hC, hY⟩
              · simp only [fX7_loop, fX5_legs, wi7, isWay7, isStep7, isThickness7, ob, bz, c7, fX5_unitsOf, og_pos gi, tn_nI (show i < 2 ^ 31 by omega), eu]
                rw [if_neg (not_not_intro h1), if_neg (not_not_intro h2), if_neg (not_not_intro h3), if_neg (not_not_intro h4), if_neg h5, if_neg n10, if_neg (show ¬ (3 : Int32) ≤ nI u from g6)]
              · simp only [fX8_loop, wi8, isStep8, ob, bz, l1, l2, l3, l4, s1, s2, og_pos gi, tn_nI (show i < 2 ^ 31 by omega), ew, eu]
                rw [if_neg (not_not_intro h1), if_neg (not_not_intro h2), if_neg e8, if_neg (not_not_intro h3), if_neg (not_not_intro h4), if_neg (show ¬ (3 : Int32) ≤ nI u from g6)]
          · refine ⟨-1, pc5_point s, ?_, ?_, hF, hA, hU, hS, hL, hRr, hT, hC, hY⟩
            · simp only [fX7_loop, fX5_legs, wi7, isWay7, isStep7, isThickness7, ob, bz]
              rw [if_neg (not_not_intro h1), if_neg (not_not_intro h2), if_neg (not_not_intro h3), if_pos h4]
            · simp only [fX8_loop, wi8, isStep8, ob, bz, l1, l3, og_pos gi, tn_nI (show i < 2 ^ 31 by omega), ew]
              rw [if_neg (not_not_intro h1), if_neg (not_not_intro h2), if_neg e8, if_neg (not_not_intro h3), if_pos h4]
        · refine ⟨-1, pc5_point s, ?_, ?_, hF, hA, hU, hS, hL, hRr, hT, hC, hY⟩
          · simp only [fX7_loop, fX5_legs, wi7, isWay7, isStep7, ob, bz]
            rw [if_neg (not_not_intro h1), if_neg (not_not_intro h2), if_pos h3]
          · simp only [fX8_loop, wi8, isStep8, ob, bz, l1, l3, og_pos gi, tn_nI (show i < 2 ^ 31 by omega), ew]
            rw [if_neg (not_not_intro h1), if_neg (not_not_intro h2), if_neg e8, if_pos h3]
    · refine ⟨-1, pc5_point s, ?_, ?_, hF, hA, hU, hS, hL, hRr, hT, hC, hY⟩
      · simp only [fX7_loop, fX5_legs, wi7, isWay7, ob, bz]
        rw [if_neg (not_not_intro h1), if_pos h2]
      · simp only [fX8_loop, wi8, ob, bz, l1]
        rw [if_neg (not_not_intro h1), if_pos h2]
  · refine ⟨-1, pc5_point s, ?_, ?_, hF, hA, hU, hS, hL, hRr, hT, hC, hY⟩
    · simp only [fX7_loop, fX5_legs, wi7, ob, bz]
      rw [if_pos h1]
    · simp only [fX8_loop, wi8, ob, bz, l1]
      rw [if_pos h1]
/-! ===== bestLoop ===== -/
def BQ (a b c a' d' w' : Int32) : Prop := (a = -9 ∧ c = 21 ∧ a' = -9) ∨ (¬ a = -9 ∧ a' = a ∧ w' = b ∧ d' = c)
/-- what the reference asks of a leg and a way -/
noncomputable def b8 (N : Nat) (ln : Int32) (sz by_ wy un uw ut xs ys zs : Nat → Int32) (S T x19 x28 : Int32) : Option Int32 := oj (some (-9)) (fun (K87_43 : Option (Int32)) => (if (x28 / 2) = ((wy (Int32.toNatClampNeg x19)) / 2) then K87_43 else og (vp_in x19 12) ((if 3 ≤ (un (Int32.toNatClampNeg x19)) then ob (fX8_loopFor N ln sz by_ un uw ut xs ys zs x19 x28 S T) (fun (r47 : Int32) => some r47) else K87_43))))
theorem best_in (N : Nat) {le ln : Int32} {wy un uw ut xs ys zs by_ sz : Nat → Int32} {S T : Int32} {F i : Nat} (hi : i < 12) (H : ∀ (v : Nat) (pt : Nat → Int32), v < 6 → ∃ (r : Int32) (s' : Nat → Int32), RG r ∧ fX5_leastLoop N le wy un pt (nI i) (nI v) (nI F) = some (r, s') ∧ b8 N ln sz by_ wy un uw ut xs ys zs S T (nI i) (nI v) = some r) : ∀ (k v q q2 : Nat) (a b c a' d' w' : Int32) (s : Nat → Int32), v + k = 6 → k < q → k < q2 → BQ a b c a' d' w' → ∃ (a1 b1 c1 a2 d2 w2 : Int32) (s1 : Nat → Int32), BQ a1 b1 c1 a2 d2 w2 ∧ (∀ K, fX7_bestLoop_L68 N le wy un (nI F) (nI i) K q a b c (nI v) s = K a1 b1 c1 s1) ∧ ∀ K, fX8_bestLoop_L53 N ln sz by_ wy un uw ut xs ys zs S T (nI i) K q2 a' d' w' (nI v) = K a2 d2 w2 := by
  have gi : vp_in (nI i) 12 := vp_in_nI hi (by decide)
  intro k
  induction k with
  | zero =>
    intro v q q2 a b c a' d' w' s hv hq hq2 hB
    obtain ⟨q, rfl⟩ : ∃ z, q = z + 1 := ⟨q - 1, by omega⟩
    obtain ⟨q2, rfl⟩ : ∃ z, q2 = z + 1 := ⟨q2 - 1, by omega⟩
    have g : (6 : Int32) ≤ nI v := nI_le (a := 6) (by omega) (by omega)
    refine ⟨a, b, c, a', d', w', s, hB, fun K => ?_, fun K => ?_⟩
    · rw [fX7_bestLoop_L68, if_pos g]
    · rw [fX8_bestLoop_L53, if_pos g]
  | succ k ih =>
    intro v q q2 a b c a' d' w' s hv hq hq2 hB
    obtain ⟨q, rfl⟩ : ∃ z, q = z + 1 := ⟨q - 1, by omega⟩
    obtain ⟨q2, rfl⟩ : ∃ z, q2 = z + 1 := ⟨q2 - 1, by omega⟩
    have g : ¬ (6 : Int32) ≤ nI v := lit_le (n := 6) (by omega) (by omega)
    obtain ⟨r, s', hr, e7, e8⟩ := H v s (by omega)
    have key : ∃ a1 b1 c1 a2 d2 w2 : Int32, BQ a1 b1 c1 a2 d2 w2 ∧ (if r = (-9) then some (a, b, c) else (if c ≤ r then some (a, b, c) else some (nI i, nI v, r))) = some (a1, b1, c1) ∧ (if r = (-9) then some (a', d', w') else oj (some (nI i, r, nI v)) (fun (K : Option (Int32 × Int32 × Int32)) => (if a' = (-9) then K else (if d' ≤ r then some (a', d', w') else K)))) = some (a2, d2, w2) := by
      have m9 : ¬ nI i = -9 := m9r (by omega)
      by_cases c0 : r = -9
      · exact ⟨a, b, c, a', d', w', hB, by rw [if_pos c0], by rw [if_pos c0]⟩
      · obtain ⟨d, d1, d2, rfl⟩ := hr.resolve_left c0
        rcases hB with ⟨z1, z2, z3⟩ | ⟨z1, z2, z3, z4⟩
        · refine ⟨nI i, nI v, nI d, nI i, nI d, nI v, Or.inr ⟨m9, rfl, rfl, rfl⟩, ?_, ?_⟩
          · rw [if_neg c0, z2, if_neg (show ¬ (21 : Int32) ≤ nI d from lit_le (n := 21) (by omega) (by omega))]
          · rw [if_neg c0, oj, if_pos z3]
        · rw [z2, z3, z4]
          by_cases c1 : c ≤ nI d
          · exact ⟨a, b, c, a, c, b, Or.inr ⟨z1, rfl, rfl, rfl⟩, by rw [if_neg c0, if_pos c1], by rw [if_neg c0, oj, if_neg z1, if_pos c1]⟩
          · exact ⟨nI i, nI v, nI d, nI i, nI d, nI v, Or.inr ⟨m9, rfl, rfl, rfl⟩, by rw [if_neg c0, if_neg c1], by rw [if_neg c0, oj, if_neg z1, if_neg c1]⟩
    obtain ⟨a1, b1, c1, a2, d2, w2, hB1, k7, k8⟩ := key
    obtain ⟨a3, b3, c3, a4, d4, w4, s3, hB3, E7, E8⟩ := ih (v + 1) q q2 a1 b1 c1 a2 d2 w2 s' (by omega) (by omega) (by omega) hB1
    refine ⟨a3, b3, c3, a4, d4, w4, s3, hB3, fun K => ?_, fun K => ?_⟩
    · rw [fX7_bestLoop_L68, if_neg g, e7]
      simp only [ob2, ob]
      rw [k7]
      simp only [ob3, ob, nI_s]
      exact E7 K
    · rw [b8] at e8
      rw [fX8_bestLoop_L53, if_neg g, og_pos gi, e8]
      simp only [ob]
      rw [k8]
      simp only [ob3, ob, nI_s]
      exact E8 K
theorem best_out (N : Nat) (hN : 400 ≤ N) {ln : Int32} {wy un uw ut xs ys zs by_ sz : Nat → Int32} {S T : Int32} {F n : Nat} (hn : n ≤ 12) (H : ∀ (i v : Nat) (pt : Nat → Int32), i < n → v < 6 → ∃ (r : Int32) (s' : Nat → Int32), RG r ∧ fX5_leastLoop N (nI n) wy un pt (nI i) (nI v) (nI F) = some (r, s') ∧ b8 N ln sz by_ wy un uw ut xs ys zs S T (nI i) (nI v) = some r) : ∀ (k i q q2 : Nat) (a b c a' d' w' : Int32) (s : Nat → Int32), i + k = n → k < q → k < q2 → BQ a b c a' d' w' → ∃ (a1 b1 c1 a2 d2 w2 : Int32) (s1 : Nat → Int32), BQ a1 b1 c1 a2 d2 w2 ∧ (∀ K, fX7_bestLoop_L53 N (nI n) wy un (nI F) K q a b c (nI i) s = K a1 b1 c1 s1) ∧ ∀ K, fX8_bestLoop_L41 N (nI n) ln sz by_ wy un uw ut xs ys zs S T K q2 a' d' w' (nI i) = K a2 d2 w2 := by
  intro k
  induction k with
  | zero =>
    intro i q q2 a b c a' d' w' s hv hq hq2 hB
    obtain ⟨q, rfl⟩ : ∃ z, q = z + 1 := ⟨q - 1, by omega⟩
    obtain ⟨q2, rfl⟩ : ∃ z, q2 = z + 1 := ⟨q2 - 1, by omega⟩
    have g : nI n ≤ nI i := nI_le (by omega) (by omega)
    refine ⟨a, b, c, a', d', w', s, hB, fun K => ?_, fun K => ?_⟩
    · rw [fX7_bestLoop_L53, fX5_legs]; simp only [ob]; rw [if_pos g]
    · rw [fX8_bestLoop_L41, if_pos g]
  | succ k ih =>
    intro i q q2 a b c a' d' w' s hv hq hq2 hB
    obtain ⟨q, rfl⟩ : ∃ z, q = z + 1 := ⟨q - 1, by omega⟩
    obtain ⟨q2, rfl⟩ : ∃ z, q2 = z + 1 := ⟨q2 - 1, by omega⟩
    have g : ¬ nI n ≤ nI i := lit_le (by omega) (by omega)
    obtain ⟨a1, b1, c1, a2, d2, w2, s1, hB1, I7, I8⟩ := best_in N (i := i) (by omega) (fun v pt hv => H i v pt (by omega) hv) 6 0 N N a b c a' d' w' s (by omega) (by omega) (by omega) hB
    obtain ⟨a3, b3, c3, a4, d4, w4, s3, hB3, E7, E8⟩ := ih (i + 1) q q2 a1 b1 c1 a2 d2 w2 s1 (by omega) (by omega) (by omega) hB1
    refine ⟨a3, b3, c3, a4, d4, w4, s3, hB3, fun K => ?_, fun K => ?_⟩
    · rw [fX7_bestLoop_L53, fX5_legs]
      simp only [ob, oj]
      rw [if_neg g, show fX7_bestLoop_L68 N (nI n) wy un (nI F) (nI i) _ N a b c 0 s = _ from I7 _, nI_s]
      exact E7 K
    · rw [fX8_bestLoop_L41, if_neg g]
      simp only [oj]
      rw [show fX8_bestLoop_L53 N ln sz by_ wy un uw ut xs ys zs S T (nI i) _ N a' d' w' 0 = _ from I8 _, nI_s]
      exact E8 K
theorem m_bestLoop (N : Nat) (hN : 400 ≤ N) : op_bestLoop N Rel := by
  intro s t hR a1 a2
  obtain ⟨hF, hA, hU, hS, hL, hRr, hT, hC, hY⟩ := id hR
  obtain ⟨l1, l2, l3, l4, l5, n, q⟩ := id hL
  obtain ⟨s1, s2, s3, qs_⟩ := id hS
  have hA' : pc8_asked t = pc7_lastAsked s := hA
  have hn := q.1
  have n10 : ¬ (1 : Int32) = 0 := by decide
  by_cases h1 : (0 : Int32) ≤ a1 ∧ a1 ≤ 15
  · by_cases h2 : (1 : Int32) ≤ a2 ∧ a2 ≤ 100
    · by_cases h3 : pc5_legs s = 0
      · refine ⟨-4, pc7_lastAsked s, pc5_point s, pc7_lastAsked s, ?_, ?_, hF, rfl, hU, hS, hL, hRr, hT, hC, hY⟩
        · simp only [fX7_bestLoop, isStep7, isThickness7, ob, bz, fX5_legs]
          rw [if_neg (not_not_intro h1), if_neg (not_not_intro h2), if_pos h3]
        · simp only [fX8_bestLoop, isStep8, wi8, ob, bz, hA', l1]
          rw [if_neg (not_not_intro h1), if_neg (not_not_intro h2), if_pos h3]
      · obtain ⟨st, -, hst, rfl⟩ := nI_rng 0 15 (by decide) (by decide) h1.1 h1.2
        obtain ⟨T, -, hT_, rfl⟩ := nI_rng 1 100 (by decide) (by decide) h2.1 h2.2
        obtain ⟨F, eF, H⟩ := least_eq N hN q qs_ (show st < 16 by omega) hT_
        have el := q.2.1
        have H' : ∀ (i v : Nat) (pt : Nat → Int32), i < n → v < 6 → ∃ (r : Int32) (s' : Nat → Int32), RG r ∧ fX5_leastLoop N (nI n) (pc5_ways s) (pc5_units s) pt (nI i) (nI v) (nI F) = some (r, s') ∧ b8 N (pc5_length s) (pc6_sizes s) (pc6_bytes s) (pc5_ways s) (pc5_units s) (pc8_unitWay t) (pc8_unitStuff t) (pc8_xs t) (pc8_ys t) (pc8_zs t) (nI st) (nI T) (nI i) (nI v) = some r := by
          intro i v pt hi hv
          obtain ⟨⟨w, hw, ew⟩, ⟨u, hu1, hu2, eu⟩, -⟩ := q.2.2.2.1 i hi
          have gi : vp_in (nI i) 12 := vp_in_nI (by omega) (by decide)
          have c7 := ac7 (wy := pc5_ways s) (i := i) (w := w) (v := v) (by omega) hw ew hv
          by_cases h5 : w / 2 = v / 2
          · have e8 : nI v / 2 = nI w / 2 := by rw [way_d hw, way_d hv, h5]
            refine ⟨-9, pt, Or.inl rfl, ?_, ?_⟩
            · rw [fX5_leastLoop, og_pos gi, c7, if_pos h5]
              simp only [ob, if_true]
              by_cases z : pc5_units s (Int32.toNatClampNeg (nI i)) < 3
              · rw [if_pos z]
              · rw [if_neg z]
            · rw [b8, oj, tn_nI (by omega), ew, if_pos e8]
          · have e8 : ¬ nI v / 2 = nI w / 2 := by
              rw [way_d hw, way_d hv]
              exact fun z => h5 ((nI_eq (by omega) (by omega)).mp z).symm
            by_cases h6 : 3 ≤ u
            · obtain ⟨r, z, hr, E7, E8⟩ := H i w u v pt hi hw ew eu hu2 hv h5 h6
              refine ⟨r, z, hr, by rw [← el]; exact E7, ?_⟩
              rw [b8, oj, tn_nI (by omega), ew, eu, if_neg e8, og_pos gi, if_pos (show (3 : Int32) ≤ nI u from nI_le (a := 3) h6 (by omega)), E8]
              rfl
            · refine ⟨-9, pt, Or.inl rfl, ?_, ?_⟩
              · rw [fX5_leastLoop, og_pos gi, tn_nI (by omega), eu, if_pos (show nI u < (3 : Int32) from nI_lt (b := 3) (by omega) (by omega))]
              · rw [b8, oj, tn_nI (by omega), ew, eu, if_neg e8, og_pos gi, if_neg (show ¬ (3 : Int32) ≤ nI u from lit_le (n := 3) (by omega) (by omega))]
        obtain ⟨b1, b2, b3, b4, b5, b6, z, hB, E7, E8⟩ := best_out N hN hn H' n 0 N N (-9) 0 21 (-9) 0 0 (pc5_point s) (by omega) (by omega) (by omega) (Or.inl ⟨rfl, rfl, rfl⟩)
        have F7 : fX7_bestLoop N (pc7_lastAsked s) (pc5_legs s) (pc5_length s) (pc5_ways s) (pc5_units s) (pc5_stuffOf s) (pc5_point s) (pc6_bytes s) (pc6_sizes s) (nI st) (nI T) = (if b1 = (-9) then some (b1, pc7_lastAsked s, z) else some (b1, (b3 + (100 * b2)), z)) := by
          simp only [fX7_bestLoop, isStep7, isThickness7, ob, bz, fX5_legs]
          rw [if_neg (not_not_intro h1), if_neg (not_not_intro h2), if_neg h3, eF]
          simp only [oj, el]
          rw [show fX7_bestLoop_L53 N (nI n) (pc5_ways s) (pc5_units s) (nI F) _ N (-9) 0 21 0 (pc5_point s) = _ from E7 _]
        have F8 : fX8_bestLoop N (pc8_asked t) (pc8_legs t) (pc8_units t) (pc8_sizes t) (pc8_growths t) (pc8_legWay t) (pc8_legUnits t) (pc8_unitWay t) (pc8_unitStuff t) (pc8_xs t) (pc8_ys t) (pc8_zs t) (nI st) (nI T) = (if b4 = (-9) then some ((-9), pc7_lastAsked s) else some (b4, (b5 + (100 * b6)))) := by
          simp only [fX8_bestLoop, isStep8, wi8, ob, bz, hA', l1, l2, l3, l4, s1, s2]
          rw [if_neg (not_not_intro h1), if_neg (not_not_intro h2), if_neg h3]
          simp only [oj, el]
          rw [show fX8_bestLoop_L41 N (nI n) (pc5_length s) (pc6_sizes s) (pc6_bytes s) (pc5_ways s) (pc5_units s) (pc8_unitWay t) (pc8_unitStuff t) (pc8_xs t) (pc8_ys t) (pc8_zs t) (nI st) (nI T) _ N (-9) 0 0 0 = _ from E8 _]
          simp only [fX8_tells, ob2, ob]
        rcases hB with ⟨z1, z2, z3⟩ | ⟨z1, z2, z3, z4⟩
        · refine ⟨-9, pc7_lastAsked s, z, pc7_lastAsked s, ?_, ?_, hF, rfl, hU, hS, hL, hRr, hT, hC, hY⟩
          · rw [F7, if_pos z1, z1]
          · rw [F8, if_pos z3]
        · refine ⟨b1, b3 + 100 * b2, z, b3 + 100 * b2, ?_, ?_, hF, rfl, hU, hS, hL, hRr, hT, hC, hY⟩
          · rw [F7, if_neg z1]
          · rw [F8, z2, z3, z4, if_neg z1]
    · refine ⟨-1, pc7_lastAsked s, pc5_point s, pc7_lastAsked s, ?_, ?_, hF, rfl, hU, hS, hL, hRr, hT, hC, hY⟩
      · simp only [fX7_bestLoop, isStep7, isThickness7, ob, bz]; rw [if_neg (not_not_intro h1), if_pos h2]
      · simp only [fX8_bestLoop, isStep8, wi8, ob, bz, hA']; rw [if_neg (not_not_intro h1), if_pos h2]
  · refine ⟨-1, pc7_lastAsked s, pc5_point s, pc7_lastAsked s, ?_, ?_, hF, rfl, hU, hS, hL, hRr, hT, hC, hY⟩
    · simp only [fX7_bestLoop, isStep7, ob, bz]; rw [if_pos h1]
    · simp only [fX8_bestLoop, isStep8, ob, bz, hA']; rw [if_pos h1]
