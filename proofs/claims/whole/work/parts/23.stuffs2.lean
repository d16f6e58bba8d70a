/-! ===== stuffs: stuff, mean, copy (loops) ===== -/
theorem idx7 (j i : Nat) : nI j * 16 + nI i = nI (16 * j + i) := by rw [show (16 : Int32) = nI 16 from rfl, pk_mul, nI_add, Nat.mul_comm]
theorem idx8 (j i : Nat) : 16 * nI j + nI i = nI (16 * j + i) := by rw [show (16 : Int32) = nI 16 from rfl, pk_mul, nI_add]
theorem nI_s (i : Nat) : nI i + 1 = nI (i + 1) := nI_1 i
theorem lit_le {n i : Nat} (h : i < n) (hn : n < 2 ^ 31) : ¬ nI n ≤ nI i := nI_ge h hn
def clr (j i : Nat) (f : Nat → Int32) : Nat → Int32 := fun k => if 16 * j + i ≤ k ∧ k < 16 * j + 16 then 0 else f k
theorem clr_end (j : Nat) (f : Nat → Int32) : clr j 16 f = f := by
  funext k; simp only [clr]; rw [if_neg (by omega)]
theorem clr_step (j i : Nat) (hi : i < 16) (f : Nat → Int32) : clr j (i + 1) (upd f (16 * j + i) 0) = clr j i f := by
  funext k
  simp only [clr, upd_at]
  by_cases h : k = 16 * j + i
  · rw [if_neg (by omega), if_pos h, if_pos (by omega)]
  · by_cases h2 : 16 * j + i ≤ k ∧ k < 16 * j + 16
    · rw [if_pos (by omega), if_pos h2]
    · rw [if_neg (by omega), if_neg h, if_neg h2]
theorem nar0 : vp_nar .byte 0 = 0 := by decide
theorem begin_L {j : Nat} (hj : j < 4) (K : (Nat → Int32) → Option ((Nat → Int32) × (Nat → Int32))) : ∀ (m i : Nat) (f : Nat → Int32) (n : Nat), i + m = 16 → m < n → fX6_begin_L2 (nI j) K n (nI i) f = K (clr j i f) := by
  intro m
  induction m with
  | zero =>
    intro i f n hi hn
    obtain ⟨n, rfl⟩ : ∃ q, n = q + 1 := ⟨n - 1, by omega⟩
    have e : i = 16 := by omega
    subst e
    rw [fX6_begin_L2, if_pos (show (16 : Int32) ≤ nI 16 from by decide), clr_end]
  | succ m ih =>
    intro i f n hi hn
    obtain ⟨n, rfl⟩ : ∃ q, n = q + 1 := ⟨n - 1, by omega⟩
    have g : vp_in (nI (16 * j + i)) 64 := vp_in_nI (by omega) (by decide)
    rw [fX6_begin_L2, if_neg (show ¬ (16 : Int32) ≤ nI i from lit_le (n := 16) (by omega) (by decide)), idx7, og_pos g, nI_s, tn_nI (by omega), nar0, ih (i + 1) _ n (by omega) (by omega), clr_step j i (by omega)]
theorem stuff_L {j : Nat} (hj : j < 4) (la : Int32) (ca sz : Nat → Int32) (v : Int32) : ∀ (m i : Nat) (f : Nat → Int32) (n : Nat), i + m = 16 → m < n → fX8_stuff_L34 la ca sz (nI j) v n (nI i) f = some (v, la, ca, upd sz j v, clr j i f) := by
  intro m
  induction m with
  | zero =>
    intro i f n hi hn
    obtain ⟨n, rfl⟩ : ∃ q, n = q + 1 := ⟨n - 1, by omega⟩
    have e : i = 16 := by omega
    subst e
    rw [fX8_stuff_L34, if_pos (show (16 : Int32) ≤ nI 16 from by decide), clr_end, tn_nI (by omega)]
  | succ m ih =>
    intro i f n hi hn
    obtain ⟨n, rfl⟩ : ∃ q, n = q + 1 := ⟨n - 1, by omega⟩
    have g : vp_in (nI (16 * j + i)) 64 := vp_in_nI (by omega) (by decide)
    rw [fX8_stuff_L34, if_neg (show ¬ (16 : Int32) ≤ nI i from lit_le (n := 16) (by omega) (by decide)), idx8, og_pos g, nI_s, tn_nI (n := 16 * j + i) (by omega), nar0, ih (i + 1) _ n (by omega) (by omega), clr_step j i (by omega)]
theorem RS_clr {by_ sz we : Nat → Int32} (h : RS by_ sz we) (j i : Nat) : RS (clr j i by_) sz we := by
  refine ⟨h.1, h.2.1, fun k hk => ?_⟩
  simp only [clr]
  by_cases e : 16 * j + i ≤ k ∧ k < 16 * j + 16
  · rw [if_pos e]; decide
  · rw [if_neg e]; exact h.2.2 k hk
theorem m_stuff (N : Nat) (hN : 400 ≤ N) : op_stuff N Rel := by
  intro s t hR a1 a2
  obtain ⟨hF, hA, hU, hS, hL, hRr, hT, hC, hY⟩ := id hR
  obtain ⟨e1, e2, e3, q⟩ := id hS
  have same : ∃ (r : Int32) (z7_lastFound : Int32) (z7_found z6_bytes z6_sizes : Nat → Int32), fX7_stuff N (pc7_lastFound s) (pc7_found s) (pc6_bytes s) (pc6_sizes s) a1 a2 = some (r, z7_lastFound, z7_found, z6_bytes, z6_sizes) ∧ fX8_stuff N (pc7_lastFound s) (pc7_found s) (pc6_sizes s) (pc6_bytes s) a1 a2 = some (r, z7_lastFound, z7_found, z6_sizes, z6_bytes) ∧ RS z6_bytes z6_sizes (pc6_weights s) := by
    by_cases h : (0 : Int32) ≤ a1 ∧ a1 ≤ 3
    · obtain ⟨j, -, h2, rfl⟩ := nI_rng 0 3 (by decide) (by decide) h.1 h.2
      have hj : j < 4 := by omega
      have g : vp_in (nI j) 4 := vp_in_nI hj (by decide)
      by_cases h16 : a2 ≤ 16
      · by_cases h0 : (0 : Int32) ≤ a2
        · refine ⟨a2, pc7_lastFound s, pc7_found s, clr j 0 (pc6_bytes s), upd (pc6_sizes s) j a2, ?_, ?_, RS_clr (RS_sz q hj ?_ ?_) j 0⟩
          · simp only [fX7_stuff, isStuff7, ob, bz, fX6_begin, oj]
            rw [if_neg (not_not_intro h), if_pos h16, if_pos h0, show (0 : Int32) = nI 0 from rfl, begin_L hj _ 16 0 _ N (by omega) (by omega)]
            simp only [og_pos g, ob2, ob, tn_nI (show j < 2 ^ 31 by omega)]
          · simp only [fX8_stuff, isStuff8, ob, bz, og_pos g]
            rw [if_neg (not_not_intro h), if_pos h16, if_pos h0, show (0 : Int32) = nI 0 from rfl, stuff_L hj _ _ _ _ 16 0 _ N (by omega) (by omega)]
          · rw [leT, t_0] at h0; omega
          · rw [leT, t_16] at h16; omega
        · refine ⟨-3, 5, upd (pc7_found s) 5 (pc7_found s 5 + 1), pc6_bytes s, pc6_sizes s, ?_, ?_, q⟩
          · simp only [fX7_stuff, isStuff7, ob, bz]
            rw [if_neg (not_not_intro h), if_pos h16, if_neg h0]
            simp only [ob3, ob, refuse7_5]
          · simp only [fX8_stuff, isStuff8, ob, bz]
            rw [if_neg (not_not_intro h), if_pos h16, if_neg h0]
            simp only [ob3, ob, meets8_5]
      · refine ⟨-1, pc7_lastFound s, pc7_found s, pc6_bytes s, pc6_sizes s, ?_, ?_, q⟩
        · simp only [fX7_stuff, isStuff7, ob, bz]; rw [if_neg (not_not_intro h), if_neg h16]
        · simp only [fX8_stuff, isStuff8, ob, bz]; rw [if_neg (not_not_intro h), if_neg h16]
    · refine ⟨-1, pc7_lastFound s, pc7_found s, pc6_bytes s, pc6_sizes s, ?_, ?_, q⟩
      · simp only [fX7_stuff, isStuff7, ob, bz]; rw [if_pos h]
      · simp only [fX8_stuff, isStuff8, ob, bz]; rw [if_pos h]
  obtain ⟨r, lf, fo, by_, sz, g1, g2, g3⟩ := same
  exact ⟨r, lf, fo, by_, sz, lf, fo, sz, by_, g1, by rw [hF.1, hF.2, e1, e2]; exact g2, ⟨rfl, rfl⟩, hA, hU, ⟨rfl, rfl, e3, g3⟩, hL, hRr, hT, hC, hY⟩
/-! mean -/
def bs (f : Nat → Int32) (b : Nat) : Nat → Nat → Int32 → Int32
  | 0, _, a => a
  | m + 1, i, a => bs f b m (i + 1) (a + f (b + i))
theorem sumOf_L {j : Nat} (hj : j < 4) (f sz : Nat → Int32) {z : Nat} (hz : z ≤ 16) (e : sz j = nI z) : ∀ (m i : Nat) (a : Int32) (n : Nat), i + m = z → m < n → fX6_sumOf_L4 f sz (nI j) n a (nI i) = some (bs f (16 * j) m i a) := by
  have g4 : vp_in (nI j) 4 := vp_in_nI hj (by decide)
  intro m
  induction m with
  | zero =>
    intro i a n hi hn
    obtain ⟨n, rfl⟩ : ∃ q, n = q + 1 := ⟨n - 1, by omega⟩
    rw [fX6_sumOf_L4, og_pos g4, tn_nI (by omega), e, if_pos (nI_le (by omega) (by omega))]; rfl
  | succ m ih =>
    intro i a n hi hn
    obtain ⟨n, rfl⟩ : ∃ q, n = q + 1 := ⟨n - 1, by omega⟩
    have g : vp_in (nI (16 * j + i)) 64 := vp_in_nI (by omega) (by decide)
    rw [fX6_sumOf_L4, og_pos g4, tn_nI (n := j) (by omega), e, if_neg (lit_le (by omega) (by omega)), idx7, og_pos g, olet, nI_s, tn_nI (by omega), ih (i + 1) _ n (by omega) (by omega)]; rfl
theorem mean_L {j : Nat} (hj : j < 4) (f sz : Nat → Int32) {z : Nat} (hz : z ≤ 16) (e : sz j = nI z) (K : Int32 → Option (Int32 × Int32 × (Nat → Int32))) : ∀ (m i : Nat) (a : Int32) (n : Nat), i + m = z → m < n → fX8_mean_L43 sz f (nI j) K n a (nI i) = K (bs f (16 * j) m i a) := by
  have g4 : vp_in (nI j) 4 := vp_in_nI hj (by decide)
  intro m
  induction m with
  | zero =>
    intro i a n hi hn
    obtain ⟨n, rfl⟩ : ∃ q, n = q + 1 := ⟨n - 1, by omega⟩
    rw [fX8_mean_L43, og_pos g4, tn_nI (by omega), e, if_pos (nI_le (by omega) (by omega))]; rfl
  | succ m ih =>
    intro i a n hi hn
    obtain ⟨n, rfl⟩ : ∃ q, n = q + 1 := ⟨n - 1, by omega⟩
    have g : vp_in (nI (16 * j + i)) 64 := vp_in_nI (by omega) (by decide)
    rw [fX8_mean_L43, og_pos g4, tn_nI (n := j) (by omega), e, if_neg (lit_le (by omega) (by omega)), idx8, og_pos g, olet, nI_s, tn_nI (by omega), ih (i + 1) _ n (by omega) (by omega)]; rfl
theorem m_mean (N : Nat) (hN : 400 ≤ N) : op_mean N Rel := by
  intro s t hR a1
  obtain ⟨hF, hA, hU, hS, hL, hRr, hT, hC, hY⟩ := id hR
  obtain ⟨e1, e2, e3, q⟩ := id hS
  have same : ∃ (r : Int32) (z7_lastFound : Int32) (z7_found : Nat → Int32), fX7_mean N (pc7_lastFound s) (pc7_found s) (pc6_bytes s) (pc6_sizes s) a1 = some (r, z7_lastFound, z7_found) ∧ fX8_mean N (pc7_lastFound s) (pc7_found s) (pc6_sizes s) (pc6_bytes s) a1 = some (r, z7_lastFound, z7_found) := by
    by_cases h : (0 : Int32) ≤ a1 ∧ a1 ≤ 3
    · obtain ⟨j, -, h2, rfl⟩ := nI_rng 0 3 (by decide) (by decide) h.1 h.2
      have hj : j < 4 := by omega
      have g : vp_in (nI j) 4 := vp_in_nI hj (by decide)
      by_cases hz : pc6_sizes s j = -1
      · have hz' := (sz_neg (q.1 j hj).1).mp hz
        refine ⟨-3, 1, upd (pc7_found s) 1 (pc7_found s 1 + 1), ?_, ?_⟩
        · simp only [fX7_mean, refS7_gone _ _ _ hj hz, ob3, ob]; rfl
        · simp only [fX8_mean, isStuff8, ob, bz, og_pos g, tn_nI (show j < 2 ^ 31 by omega)]
          rw [if_neg (not_not_intro h), if_neg hz']
          simp only [ob3, ob, meets8_1]
      · have hz' : (0 : Int32) ≤ pc6_sizes s j := Classical.byContradiction fun c => hz ((sz_neg (q.1 j hj).1).mpr c)
        obtain ⟨z, -, hz16, ez⟩ := nI_rng (x := pc6_sizes s j) 0 16 (by decide) (by decide) hz' (by rw [leT, show (nI 16).toInt = 16 from by decide]; exact (q.1 j hj).2)
        by_cases h0 : z = 0
        · subst h0
          have ez0 : pc6_sizes s j = 0 := ez
          refine ⟨-3, 4, upd (pc7_found s) 4 (pc7_found s 4 + 1), ?_, ?_⟩
          · simp only [fX7_mean, refS7_ok _ _ _ hj hz, ob3, ob, fX6_sizeOf, og_pos g, tn_nI (show j < 2 ^ 31 by omega), ez0]
            rw [if_pos trivial, if_neg (by decide)]
            simp only [refuse7_4]
          · simp only [fX8_mean, isStuff8, ob, bz, og_pos g, tn_nI (show j < 2 ^ 31 by omega), ez0]
            rw [if_neg (not_not_intro h), if_pos (by decide), if_pos trivial]
            simp only [ob3, ob, meets8_4]
        · have hp : (0 : Int32) < nI z := nI_lt (a := 0) (by omega) (by omega)
          have hne : ¬ nI z = 0 := nI_ne0 (by omega) (by omega)
          refine ⟨bs (pc6_bytes s) (16 * j) z 0 0 / nI z, pc7_lastFound s, pc7_found s, ?_, ?_⟩
          · simp only [fX7_mean, refS7_ok _ _ _ hj hz, ob3, ob, fX6_sizeOf, og_pos g, tn_nI (show j < 2 ^ 31 by omega), ez, fX6_sumOf]
            rw [if_pos trivial, if_pos hp, show fX6_sumOf_L4 (pc6_bytes s) (pc6_sizes s) (nI j) N 0 0 = _ from sumOf_L hj _ _ hz16 ez z 0 0 N (by omega) (by omega)]
            simp only [og_pos hne]
          · simp only [fX8_mean, isStuff8, ob, bz, og_pos g, tn_nI (show j < 2 ^ 31 by omega), ez, oj]
            rw [if_neg (not_not_intro h), if_pos (show (0 : Int32) ≤ nI z from nI_le (a := 0) (by omega) (by omega)), if_neg hne, show fX8_mean_L43 (pc6_sizes s) (pc6_bytes s) (nI j) _ N 0 0 = _ from mean_L hj _ _ hz16 ez _ z 0 0 N (by omega) (by omega)]
            simp only [og_pos hne]
    · refine ⟨-1, pc7_lastFound s, pc7_found s, ?_, ?_⟩
      · simp only [fX7_mean, refS7_no _ _ _ _ h, ob3, ob]; rfl
      · simp only [fX8_mean, isStuff8, ob, bz]; rw [if_pos h]
  obtain ⟨r, lf, fo, g1, g2⟩ := same
  exact ⟨r, lf, fo, lf, fo, g1, by rw [hF.1, hF.2, e1, e2]; exact g2, ⟨rfl, rfl⟩, hA, hU, hS, hL, hRr, hT, hC, hY⟩
