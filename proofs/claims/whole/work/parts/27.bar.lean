/-! ===== bar ===== -/
def bon (a d : Nat) : Nat := if a.testBit d then a else a + 2 ^ d
def bof (a d : Nat) : Nat := if a.testBit d then a - 2 ^ d else a
theorem bt_and : ∀ a : Nat, a < 256 → ∀ d : Nat, d < 8 → ((nI a &&& (1 <<< (nI d &&& 31))) = 0 ↔ a.testBit d = false) := by decide +kernel
theorem bt_was : ∀ a : Nat, a < 256 → ∀ d : Nat, d < 8 → ((nI a >>> (nI d &&& 31)) &&& 1) = (if a.testBit d then 1 else 0) := by decide +kernel
theorem bt_or : ∀ a : Nat, a < 256 → ∀ d : Nat, d < 8 → (nI a ||| (1 <<< (nI d &&& 31))) = nI (bon a d) := by decide +kernel
theorem bt_clr : ∀ a : Nat, a < 256 → ∀ d : Nat, d < 8 → (nI a &&& ((1 <<< (nI d &&& 31)) ^^^ (-1))) = nI (bof a d) := by decide +kernel
theorem bt_xor : ∀ a : Nat, a < 256 → ∀ d : Nat, d < 8 → (nI a ^^^ (1 <<< (nI d &&& 31))) = nI (if a.testBit d then bof a d else bon a d) := by decide +kernel
theorem bon_lt : ∀ a : Nat, a < 256 → ∀ d : Nat, d < 8 → bon a d < 256 ∧ bof a d < 256 := by decide +kernel
theorem bon_bit : ∀ a : Nat, a < 256 → ∀ d : Nat, d < 8 → ∀ e : Nat, e < 8 → (bon a d).testBit e = (a.testBit e || decide (e = d)) ∧ (bof a d).testBit e = (a.testBit e && !decide (e = d)) := by decide +kernel
theorem bon_id {a d : Nat} (h : a.testBit d = true) : bon a d = a := by simp [bon, h]
theorem bof_id {a d : Nat} (h : a.testBit d = false) : bof a d = a := by simp [bof, h]
/-- barred with the bits set or cleared on both sides -/
theorem RC_bar {am lo hi ba : Nat → Int32} {f : Nat → Nat} (h1 : ∀ c, c < 8 → -10000 ≤ (am c).toInt ∧ (am c).toInt ≤ 10000 ∧ -9 ≤ (lo c).toInt ∧ (lo c).toInt ≤ 9 ∧ -9 ≤ (hi c).toInt ∧ (hi c).toInt ≤ 9) (hf : ∀ c, c < 8 → f c < 256 ∧ ba c = nI (f c)) (hs : ∀ c d, c < 8 → d < 8 → (f c).testBit d = (f d).testBit c) {c d : Nat} (hc : c < 8) (hd : d < 8) (hcd : c ≠ d) (on : Bool) : RC_ am lo hi (upd (upd ba c (nI (if on then bon (f c) d else bof (f c) d))) d (nI (if on then bon (f d) c else bof (f d) c))) := by
  refine ⟨h1, fun k => if k = d then (if on then bon (f d) c else bof (f d) c) else if k = c then (if on then bon (f c) d else bof (f c) d) else f k, fun k hk => ?_, fun k l hk hl => ?_⟩
  · simp only [upd_at]
    by_cases e1 : k = d
    · simp only [e1, if_true]
      refine ⟨?_, trivial⟩
      have := bon_lt (f d) (hf d hd).1 c hc
      cases on <;> simp [this]
    · by_cases e2 : k = c
      · simp only [e1, e2, if_false, if_true]
        simp only [if_neg hcd]
        refine ⟨?_, by first | trivial | rfl⟩
        have := bon_lt (f c) (hf c hc).1 d hd
        cases on <;> simp [this]
      · simp only [e1, e2, if_false]; exact hf k hk
  · have bc := bon_bit (f c) (hf c hc).1 d hd
    have bd := bon_bit (f d) (hf d hd).1 c hc
    have s0 := hs k l hk hl
    have scd := hs c d hc hd
    by_cases k1 : k = d
    · by_cases l1 : l = d
      · subst k1 l1; rfl
      · by_cases l2 : l = c
        · subst k1 l2
          simp only [if_true, if_neg hcd]
          cases on
          · simp [(bc k hd).2, (bd l hc).2]
          · simp [(bc k hd).1, (bd l hc).1]
        · subst k1
          simp only [if_true, if_neg l1, if_neg l2]
          cases on
          · simp [(bd l hl).2, l2, s0]
          · simp [(bd l hl).1, l2, s0]
    · by_cases k2 : k = c
      · by_cases l1 : l = d
        · subst k2 l1
          simp only [if_true, if_neg hcd]
          cases on
          · simp [(bc l hd).2, (bd k hc).2]
          · simp [(bc l hd).1, (bd k hc).1]
        · by_cases l2 : l = c
          · subst k2 l2; rfl
          · subst k2
            simp only [if_true, if_neg hcd, if_neg l1, if_neg l2]
            cases on
            · simp [(bc l hl).2, l1, s0]
            · simp [(bc l hl).1, l1, s0]
      · by_cases l1 : l = d
        · subst l1
          simp only [if_true, if_neg k1, if_neg k2]
          cases on
          · simp [(bd k hk).2, k2, s0]
          · simp [(bd k hk).1, k2, s0]
        · by_cases l2 : l = c
          · subst l2
            simp only [if_true, if_neg k1, if_neg k2, if_neg hcd]
            cases on
            · simp [(bc k hk).2, k1, s0]
            · simp [(bc k hk).1, k1, s0]
          · simp only [if_neg k1, if_neg k2, if_neg l1, if_neg l2]; exact s0
theorem og_t {β : Type} {k : Option β} : og True k = k := og_pos trivial
theorem upd_same {f : Nat → Int32} {k : Nat} {x : Int32} (h : f k = x) : upd f k x = f := by
  funext j; rw [upd_at]; by_cases e : j = k
  · rw [if_pos e, e, h]
  · rw [if_neg e]
theorem m_bar (N : Nat) : op_bar N Rel := by
  intro s t hR a1 a2 a3 h3
  obtain ⟨hF, hA, hU, hS, hL, hRr, hT, hC, hY⟩ := id hR
  obtain ⟨e1, e2, e3, e4, q⟩ := id hC
  have same : ∀ (am lo hi ba : Nat → Int32), RC_ am lo hi ba → ∃ (r : Int32) (ba' : Nat → Int32), fX7_bar ba a1 a2 a3 = some (r, ba') ∧ fX8_bar ba a1 a2 a3 = some (r, ba') ∧ RC_ am lo hi ba' := by
    intro am lo hi ba q
    by_cases h : (0 : Int32) ≤ a1 ∧ a1 ≤ 7
    · by_cases h2 : (0 : Int32) ≤ a2 ∧ a2 ≤ 7
      · by_cases h12 : a1 = a2
        · refine ⟨-1, ba, ?_, ?_, q⟩
          · simp only [fX7_bar, isCase7, ob, bz]; rw [if_neg (not_not_intro h), if_neg (not_not_intro h2), if_pos h12]
          · simp only [fX8_bar, isCase8, ob, bz]; rw [if_neg (not_not_intro h), if_neg (not_not_intro h2), if_pos h12]
        · obtain ⟨c, -, hc7, rfl⟩ := nI_rng 0 7 (by decide) (by decide) h.1 h.2
          obtain ⟨d, -, hd7, rfl⟩ := nI_rng 0 7 (by decide) (by decide) h2.1 h2.2
          have hc : c < 8 := by omega
          have hd : d < 8 := by omega
          have hcd : c ≠ d := fun e => h12 (by rw [e])
          have gc : vp_in (nI c) 8 := vp_in_nI hc (by decide)
          have gd : vp_in (nI d) 8 := vp_in_nI hd (by decide)
          obtain ⟨q1, f, hf, hs⟩ := id q
          obtain ⟨fc, ec⟩ := hf c hc
          obtain ⟨fd, ed⟩ := hf d hd
          have sy := hs c d hc hd
          have r8 : ∀ z : Int32, upd ba c z d = ba d := fun z => by rw [upd_at, if_neg (fun e => hcd e.symm)]
          have hxc := bt_xor (f c) fc d hd
          have hxd := bt_xor (f d) fd c hc
          have hoc := bt_or (f c) fc d hd
          have hod := bt_or (f d) fd c hc
          have hlc := bt_clr (f c) fc d hd
          have hld := bt_clr (f d) fd c hc
          have hwas := bt_was (f c) fc d hd
          have hand := bt_and (f c) fc d hd
          have g01 : ((0 : Int32) = 0 ∨ (0 : Int32) = 1) := Or.inl rfl
          have g11 : ((1 : Int32) = 0 ∨ (1 : Int32) = 1) := Or.inr rfl
          have n01 : ¬ (1 : Int32) = 0 := by decide
          have n10 : ¬ (0 : Int32) = 1 := by decide
          have R := fun on => RC_bar q1 hf hs hc hd hcd on
          cases hb : (f c).testBit d with
          | false =>
            have hbd : (f d).testBit c = false := by rw [← sy]; exact hb
            have ha := hand.mpr hb
            rw [hb] at hxc hwas
            rw [hbd] at hxd
            simp only [Bool.false_eq_true, if_false] at hxc hxd hwas
            rcases h3 with rfl | rfl
            · refine ⟨0, ba, ?_, ?_, q⟩
              · simp only [fX7_bar, isCase7, ob, bz, fX0_setBarred, og_pos gc, tn_nI (show c < 2 ^ 31 by omega), tn_nI (show d < 2 ^ 31 by omega), ec]
                rw [if_neg (not_not_intro h), if_neg (not_not_intro h2), if_neg h12, if_pos ha]
                simp only [ob, og_t, true_or, or_true, if_true, ob2]
              · simp only [fX8_bar, isCase8, ob, bz, og_pos gc, og_pos gd, tn_nI (show c < 2 ^ 31 by omega), tn_nI (show d < 2 ^ 31 by omega), ec, olet, hwas, if_true, hlc, r8, ed, hld, bof_id hb, bof_id hbd]
                rw [if_neg (not_not_intro h), if_neg (not_not_intro h2), if_neg h12, upd_same (f := ba) ec, upd_same (f := ba) ed]
            · refine ⟨0, _, ?_, ?_, R true⟩
              · simp only [fX7_bar, isCase7, ob, bz, fX0_setBarred, og_pos gc, og_pos gd, tn_nI (show c < 2 ^ 31 by omega), tn_nI (show d < 2 ^ 31 by omega), ec, hxc, r8, ed, hxd]
                rw [if_neg (not_not_intro h), if_neg (not_not_intro h2), if_neg h12, if_pos ha]
                simp only [ob, og_t, true_or, or_true, n10, if_false, if_true, ob2]
              · simp only [fX8_bar, isCase8, ob, bz, og_pos gc, og_pos gd, tn_nI (show c < 2 ^ 31 by omega), tn_nI (show d < 2 ^ 31 by omega), ec, olet, hwas, n01, if_false, hoc, r8, ed, hod]
                rw [if_neg (not_not_intro h), if_neg (not_not_intro h2), if_neg h12]
                rfl
          | true =>
            have hbd : (f d).testBit c = true := by rw [← sy]; exact hb
            have ha : ¬ (nI (f c) &&& (1 <<< (nI d &&& 31))) = 0 := fun c => by rw [hand.mp c] at hb; cases hb
            rw [hb] at hxc hwas
            rw [hbd] at hxd
            simp only [if_true] at hxc hxd hwas
            rcases h3 with rfl | rfl
            · refine ⟨1, _, ?_, ?_, R false⟩
              · simp only [fX7_bar, isCase7, ob, bz, fX0_setBarred, og_pos gc, og_pos gd, tn_nI (show c < 2 ^ 31 by omega), tn_nI (show d < 2 ^ 31 by omega), ec, hxc, r8, ed, hxd]
                rw [if_neg (not_not_intro h), if_neg (not_not_intro h2), if_neg h12, if_neg ha]
                simp only [ob, og_t, true_or, or_true, n01, if_false, ob2]
                rfl
              · simp only [fX8_bar, isCase8, ob, bz, og_pos gc, og_pos gd, tn_nI (show c < 2 ^ 31 by omega), tn_nI (show d < 2 ^ 31 by omega), ec, olet, hwas, if_true, hlc, r8, ed, hld]
                rw [if_neg (not_not_intro h), if_neg (not_not_intro h2), if_neg h12]
                rfl
            · refine ⟨1, ba, ?_, ?_, q⟩
              · simp only [fX7_bar, isCase7, ob, bz, fX0_setBarred, og_pos gc, tn_nI (show c < 2 ^ 31 by omega), tn_nI (show d < 2 ^ 31 by omega), ec]
                rw [if_neg (not_not_intro h), if_neg (not_not_intro h2), if_neg h12, if_neg ha]
                simp only [ob, og_t, true_or, or_true, n01, if_false, if_true, ob2]
              · simp only [fX8_bar, isCase8, ob, bz, og_pos gc, og_pos gd, tn_nI (show c < 2 ^ 31 by omega), tn_nI (show d < 2 ^ 31 by omega), ec, olet, hwas, n01, if_false, hoc, r8, ed, hod, bon_id hb, bon_id hbd]
                rw [if_neg (not_not_intro h), if_neg (not_not_intro h2), if_neg h12, upd_same (f := ba) ec, upd_same (f := ba) ed]
      · refine ⟨-1, ba, ?_, ?_, q⟩
        · simp only [fX7_bar, isCase7, ob, bz]; rw [if_neg (not_not_intro h), if_pos h2]
        · simp only [fX8_bar, isCase8, ob, bz]; rw [if_neg (not_not_intro h), if_pos h2]
    · refine ⟨-1, ba, ?_, ?_, q⟩
      · simp only [fX7_bar, isCase7, ob, bz]; rw [if_pos h]
      · simp only [fX8_bar, isCase8, ob, bz]; rw [if_pos h]
  obtain ⟨r, ba', g1, g2, g3⟩ := same _ _ _ _ q
  exact ⟨r, ba', ba', g1, by rw [e4]; exact g2, hF, hA, hU, hS, hL, hRr, hT, ⟨e1, e2, e3, rfl, g3⟩, hY⟩
