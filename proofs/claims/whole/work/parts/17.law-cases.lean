/-- the script, for the law -/
def SC (X : CX) (b L : Nat) (xs : Nat → Int32) : Prop := match X with
  | (p, l, e, R, s, m, args, below, meth, c, D, A, Q) => va_X b L xs s s.heap ∧ b < s.heap.size ∧ ¬ A b
section LWR
variable {X : CX} {l : Launch} {D : va_G} {cy : Nat → ClassId} {rm : Room} {cc : ByteArray} {nL k n : Nat} {Ts : List Cond} {own : String} {ws : va_W} {lv : List (Nat × Value)} {pc : Nat} {st : List Value} {b L : Nat} {xs : Nat → Int32}
theorem r_sld (hC : OK X l D cy rm cc nL Ts own) (hs : SC X b L xs) {i : Int32} (hin : vp_in i L) (d : decode cc pc = .ok (.iaload, 1)) (kk : GG X nL k n ws lv (pc + 1) (.int (xs i.toNatClampNeg) :: st)) : GG X nL k n ws lv pc (.int i :: .ref b :: st) := by
  obtain ⟨p, l, e, R, s, m, args, below, meth, c, D, A, Q⟩ := X
  obtain ⟨hx, hb, hml, hown, hts, hK, hA, rfl, rfl, rfl⟩ := hC
  obtain ⟨h1, h2, h3⟩ := hs
  exact fun H locs ls hP hD hS hl => va_sld hx hb h1 h2 h3 hS hin d (kk H locs ls hP hD hS hl)
theorem r_slen (hC : OK X l D cy rm cc nL Ts own) (hs : SC X b L xs) (d : decode cc pc = .ok (.arraylength, 1)) (kk : GG X nL k n ws lv (pc + 1) (.int (nI L) :: st)) : GG X nL k n ws lv pc (.ref b :: st) := by
  obtain ⟨p, l, e, R, s, m, args, below, meth, c, D, A, Q⟩ := X
  obtain ⟨hx, hb, hml, hown, hts, hK, hA, rfl, rfl, rfl⟩ := hC
  obtain ⟨h1, h2, h3⟩ := hs
  exact fun H locs ls hP hD hS hl => va_slen hx hb h1 h2 h3 hS d (kk H locs ls hP hD hS hl)
end LWR
/-- what the law may use of private fields of a nest mate -/
def ZL : State → Prop := fun U => Z7 U ∧ Z7_upper U ∧ Z7_lower U
/-- an index of the script -/
theorem ix_in {j L k : Nat} (h : j + k < L) (hL : L ≤ 3072) : vp_in (nI j + nI k) L := by
  rw [nI_add]; exact vp_in_nI h (by omega)
set_option maxHeartbeats 8000000 in
set_option maxRecDepth 100000 in
theorem law_stuff (X : CX) (l : Launch) (D : va_G) (cy : Nat → ClassId) (ad7 ad8 : Nat → Nat) (N : Nat) (Rel : S7 → S8 → Prop) (b L : Nat) (xs : Nat → Int32) (hC : OK X l D cy room_1 code 4 wsL_law RL) (hS : SC X b L xs) (hZ : ZL X.2.2.2.2.1) (j : Nat) (hj : j + 6 ≤ L) (hL : L ≤ 3072) (s : S7) (t : S8) (hR : Rel s t) (hop : op_stuff N Rel) (next : ∀ (s : S7) (t : S8), Rel s t → GG X 4 52 1789 (W7 cy ad7 s ++ W8 cy ad8 t) [(0, .ref b), (1, .ref (ad7 70)), (2, .ref (ad8 80)), (3, .int (nI j))] 1353 []) : GG X 4 52 1789 (W7 cy ad7 s ++ W8 cy ad8 t) [(0, .ref b), (1, .ref (ad7 70)), (2, .ref (ad8 80)), (3, .int (nI j))] 200 [] := by
  obtain ⟨r, z7_lastFound, z7_found, z6_bytes, z6_sizes, z8_latest, z8_came, z8_sizes, z8_growths, h7, h8, hR1⟩ := hop s t hR ((xs (nI j + 1).toNatClampNeg)) ((xs (nI j + 2).toNatClampNeg))
  refine r_aload_n hC dL_law_200 rfl 1 rfl ?_
  refine r_aload_n hC dL_law_201 rfl 0 rfl ?_
  refine r_iload_n hC dL_law_202 rfl 3 rfl ?_
  refine r_iconst hC dL_law_203 ic_1 ?_
  refine r_iadd hC dL_law_204 ?_
  refine r_sld hC hS (ix_in (k := 1) (by omega) hL) dL_law_205 ?_
  refine r_aload_n hC dL_law_206 rfl 0 rfl ?_
  refine r_iload_n hC dL_law_207 rfl 3 rfl ?_
  refine r_iconst hC dL_law_208 ic_2 ?_
  refine r_iadd hC dL_law_209 ?_
  refine r_sld hC hS (ix_in (k := 2) (by omega) hL) dL_law_210 ?_
  refine r_vi (st := []) hC (kX7_stuff l D cy ad7 (pc7_lastFound s) (pc7_lastAsked s) (pc7_found s) (pc4_made s) (pc4_kinds s) (pc4_places s) (pc4_rates s) (pc4_readings s) (pc4_bearing s) (pc5_legs s) (pc5_length s) (pc5_ways s) (pc5_units s) (pc5_stuffOf s) (pc5_point s) (pc6_bytes s) (pc6_sizes s) (pc6_weights s) (pc3_size s) (pc3_rates s) (pc0_amounts s) (pc0_lows s) (pc0_highs s) (pc0_barred s) (pc1_lines s) (pc1_parts s) (pc2_above s) (pc2_below s) ((xs (nI j + 1).toNatClampNeg)) ((xs (nI j + 2).toNatClampNeg)) N h7) gL_law_X7_stuff rfl ⟨rfl, rfl⟩ ydX7_stuff ⟨(Nat.le_of_ble_eq_true rfl), (Nat.le_of_ble_eq_true rfl)⟩ ⟨Nat.le_refl 52, Nat.le_refl 1789⟩ 0 rfl rfl [] (W8 cy ad8 t) rfl _ rfl (Nat.le_of_ble_eq_true rfl) dL_law_211 (W7 cy ad7 (mk7 z7_lastFound (pc7_lastAsked s) z7_found (pc4_made s) (pc4_kinds s) (pc4_places s) (pc4_rates s) (pc4_readings s) (pc4_bearing s) (pc5_legs s) (pc5_length s) (pc5_ways s) (pc5_units s) (pc5_stuffOf s) (pc5_point s) z6_bytes z6_sizes (pc6_weights s) (pc3_size s) (pc3_rates s) (pc0_amounts s) (pc0_lows s) (pc0_highs s) (pc0_barred s) (pc1_lines s) (pc1_parts s) (pc2_above s) (pc2_below s)) ++ W8 cy ad8 t) rfl ?_
  refine r_aload_n hC dL_law_214 rfl 2 rfl ?_
  refine r_aload_n hC dL_law_215 rfl 0 rfl ?_
  refine r_iload_n hC dL_law_216 rfl 3 rfl ?_
  refine r_iconst hC dL_law_217 ic_1 ?_
  refine r_iadd hC dL_law_218 ?_
  refine r_sld hC hS (ix_in (k := 1) (by omega) hL) dL_law_219 ?_
  refine r_aload_n hC dL_law_220 rfl 0 rfl ?_
  refine r_iload_n hC dL_law_221 rfl 3 rfl ?_
  refine r_iconst hC dL_law_222 ic_2 ?_
  refine r_iadd hC dL_law_223 ?_
  refine r_sld hC hS (ix_in (k := 2) (by omega) hL) dL_law_224 ?_
  refine r_vi (st := [.int r]) hC (kX8_stuff l D cy ad8 (pc8_latest t) (pc8_asked t) (pc8_upper t) (pc8_lower t) (pc8_legs t) (pc8_units t) (pc8_rests t) (pc8_rates t) (pc8_lines t) (pc8_came t) (pc8_sizes t) (pc8_weights t) (pc8_growths t) (pc8_copied t) (pc8_legWay t) (pc8_legUnits t) (pc8_legStuff t) (pc8_unitWay t) (pc8_unitStuff t) (pc8_xs t) (pc8_ys t) (pc8_zs t) (pc8_kindOf t) (pc8_placeOf t) (pc8_rateOf t) (pc8_readOf t) (pc8_isGone t) (pc8_theList t) (pc8_amounts t) (pc8_low t) (pc8_high t) (pc8_barred t) (pc8_times t) (pc8_ranges t) ((xs (nI j + 1).toNatClampNeg)) ((xs (nI j + 2).toNatClampNeg)) N h8) gL_law_X8_stuff rfl ⟨rfl, rfl⟩ ydX8_stuff ⟨(Nat.le_of_ble_eq_true rfl), (Nat.le_of_ble_eq_true rfl)⟩ ⟨Nat.le_refl 52, Nat.le_refl 1789⟩ 0 rfl rfl (W7 cy ad7 (mk7 z7_lastFound (pc7_lastAsked s) z7_found (pc4_made s) (pc4_kinds s) (pc4_places s) (pc4_rates s) (pc4_readings s) (pc4_bearing s) (pc5_legs s) (pc5_length s) (pc5_ways s) (pc5_units s) (pc5_stuffOf s) (pc5_point s) z6_bytes z6_sizes (pc6_weights s) (pc3_size s) (pc3_rates s) (pc0_amounts s) (pc0_lows s) (pc0_highs s) (pc0_barred s) (pc1_lines s) (pc1_parts s) (pc2_above s) (pc2_below s))) [] rfl _ rfl (Nat.le_of_ble_eq_true rfl) dL_law_225 (W7 cy ad7 (mk7 z7_lastFound (pc7_lastAsked s) z7_found (pc4_made s) (pc4_kinds s) (pc4_places s) (pc4_rates s) (pc4_readings s) (pc4_bearing s) (pc5_legs s) (pc5_length s) (pc5_ways s) (pc5_units s) (pc5_stuffOf s) (pc5_point s) z6_bytes z6_sizes (pc6_weights s) (pc3_size s) (pc3_rates s) (pc0_amounts s) (pc0_lows s) (pc0_highs s) (pc0_barred s) (pc1_lines s) (pc1_parts s) (pc2_above s) (pc2_below s)) ++ W8 cy ad8 (mk8 z8_latest (pc8_asked t) (pc8_upper t) (pc8_lower t) (pc8_legs t) (pc8_units t) (pc8_rests t) (pc8_rates t) (pc8_lines t) z8_came z8_sizes (pc8_weights t) z8_growths (pc8_copied t) (pc8_legWay t) (pc8_legUnits t) (pc8_legStuff t) (pc8_unitWay t) (pc8_unitStuff t) (pc8_xs t) (pc8_ys t) (pc8_zs t) (pc8_kindOf t) (pc8_placeOf t) (pc8_rateOf t) (pc8_readOf t) (pc8_isGone t) (pc8_theList t) (pc8_amounts t) (pc8_low t) (pc8_high t) (pc8_barred t) (pc8_times t) (pc8_ranges t))) rfl ?_
  refine r_icmp_eq (tgt := 1353) hC dL_law_228 (by decide) (fun _ => ?_) (fun c => absurd rfl c)
  exact next _ _ hR1
set_option maxHeartbeats 8000000 in
set_option maxRecDepth 100000 in
theorem law_lay (X : CX) (l : Launch) (D : va_G) (cy : Nat → ClassId) (ad7 ad8 : Nat → Nat) (N : Nat) (Rel : S7 → S8 → Prop) (b L : Nat) (xs : Nat → Int32) (hC : OK X l D cy room_1 code 4 wsL_law RL) (hS : SC X b L xs) (hZ : ZL X.2.2.2.2.1) (j : Nat) (hj : j + 6 ≤ L) (hL : L ≤ 3072) (s : S7) (t : S8) (hR : Rel s t) (hop : op_lay N Rel) (next : ∀ (s : S7) (t : S8), Rel s t → GG X 4 52 1789 (W7 cy ad7 s ++ W8 cy ad8 t) [(0, .ref b), (1, .ref (ad7 70)), (2, .ref (ad8 80)), (3, .int (nI j))] 1353 []) : GG X 4 52 1789 (W7 cy ad7 s ++ W8 cy ad8 t) [(0, .ref b), (1, .ref (ad7 70)), (2, .ref (ad8 80)), (3, .int (nI j))] 233 [] := by
  obtain ⟨r, z7_lastFound, z7_found, z6_bytes, z8_latest, z8_came, z8_growths, h7, h8, hR1⟩ := hop s t hR ((xs (nI j + 1).toNatClampNeg)) ((xs (nI j + 2).toNatClampNeg)) ((xs (nI j + 3).toNatClampNeg))
  refine r_aload_n hC dL_law_233 rfl 1 rfl ?_
  refine r_aload_n hC dL_law_234 rfl 0 rfl ?_
  refine r_iload_n hC dL_law_235 rfl 3 rfl ?_
  refine r_iconst hC dL_law_236 ic_1 ?_
  refine r_iadd hC dL_law_237 ?_
  refine r_sld hC hS (ix_in (k := 1) (by omega) hL) dL_law_238 ?_
  refine r_aload_n hC dL_law_239 rfl 0 rfl ?_
  refine r_iload_n hC dL_law_240 rfl 3 rfl ?_
  refine r_iconst hC dL_law_241 ic_2 ?_
  refine r_iadd hC dL_law_242 ?_
  refine r_sld hC hS (ix_in (k := 2) (by omega) hL) dL_law_243 ?_
  refine r_aload_n hC dL_law_244 rfl 0 rfl ?_
  refine r_iload_n hC dL_law_245 rfl 3 rfl ?_
  refine r_iconst hC dL_law_246 ic_3 ?_
  refine r_iadd hC dL_law_247 ?_
  refine r_sld hC hS (ix_in (k := 3) (by omega) hL) dL_law_248 ?_
  refine r_vi (st := []) hC (kX7_lay l D cy ad7 (pc7_lastFound s) (pc7_lastAsked s) (pc7_found s) (pc4_made s) (pc4_kinds s) (pc4_places s) (pc4_rates s) (pc4_readings s) (pc4_bearing s) (pc5_legs s) (pc5_length s) (pc5_ways s) (pc5_units s) (pc5_stuffOf s) (pc5_point s) (pc6_bytes s) (pc6_sizes s) (pc6_weights s) (pc3_size s) (pc3_rates s) (pc0_amounts s) (pc0_lows s) (pc0_highs s) (pc0_barred s) (pc1_lines s) (pc1_parts s) (pc2_above s) (pc2_below s) ((xs (nI j + 1).toNatClampNeg)) ((xs (nI j + 2).toNatClampNeg)) ((xs (nI j + 3).toNatClampNeg)) h7) gL_law_X7_lay rfl ⟨rfl, rfl⟩ ydX7_lay ⟨(Nat.le_of_ble_eq_true rfl), (Nat.le_of_ble_eq_true rfl)⟩ ⟨Nat.le_refl 52, Nat.le_refl 1789⟩ 0 rfl rfl [] (W8 cy ad8 t) rfl _ rfl (Nat.le_of_ble_eq_true rfl) dL_law_249 (W7 cy ad7 (mk7 z7_lastFound (pc7_lastAsked s) z7_found (pc4_made s) (pc4_kinds s) (pc4_places s) (pc4_rates s) (pc4_readings s) (pc4_bearing s) (pc5_legs s) (pc5_length s) (pc5_ways s) (pc5_units s) (pc5_stuffOf s) (pc5_point s) z6_bytes (pc6_sizes s) (pc6_weights s) (pc3_size s) (pc3_rates s) (pc0_amounts s) (pc0_lows s) (pc0_highs s) (pc0_barred s) (pc1_lines s) (pc1_parts s) (pc2_above s) (pc2_below s)) ++ W8 cy ad8 t) rfl ?_
  refine r_aload_n hC dL_law_252 rfl 2 rfl ?_
  refine r_aload_n hC dL_law_253 rfl 0 rfl ?_
  refine r_iload_n hC dL_law_254 rfl 3 rfl ?_
  refine r_iconst hC dL_law_255 ic_1 ?_
  refine r_iadd hC dL_law_256 ?_
  refine r_sld hC hS (ix_in (k := 1) (by omega) hL) dL_law_257 ?_
  refine r_aload_n hC dL_law_258 rfl 0 rfl ?_
  refine r_iload_n hC dL_law_259 rfl 3 rfl ?_
  refine r_iconst hC dL_law_260 ic_2 ?_
  refine r_iadd hC dL_law_261 ?_
  refine r_sld hC hS (ix_in (k := 2) (by omega) hL) dL_law_262 ?_
  refine r_aload_n hC dL_law_263 rfl 0 rfl ?_
  refine r_iload_n hC dL_law_264 rfl 3 rfl ?_
  refine r_iconst hC dL_law_265 ic_3 ?_
  refine r_iadd hC dL_law_266 ?_
  refine r_sld hC hS (ix_in (k := 3) (by omega) hL) dL_law_267 ?_
  refine r_vi (st := [.int r]) hC (kX8_lay l D cy ad8 (pc8_latest t) (pc8_asked t) (pc8_upper t) (pc8_lower t) (pc8_legs t) (pc8_units t) (pc8_rests t) (pc8_rates t) (pc8_lines t) (pc8_came t) (pc8_sizes t) (pc8_weights t) (pc8_growths t) (pc8_copied t) (pc8_legWay t) (pc8_legUnits t) (pc8_legStuff t) (pc8_unitWay t) (pc8_unitStuff t) (pc8_xs t) (pc8_ys t) (pc8_zs t) (pc8_kindOf t) (pc8_placeOf t) (pc8_rateOf t) (pc8_readOf t) (pc8_isGone t) (pc8_theList t) (pc8_amounts t) (pc8_low t) (pc8_high t) (pc8_barred t) (pc8_times t) (pc8_ranges t) ((xs (nI j + 1).toNatClampNeg)) ((xs (nI j + 2).toNatClampNeg)) ((xs (nI j + 3).toNatClampNeg)) h8) gL_law_X8_lay rfl ⟨rfl, rfl⟩ ydX8_lay ⟨(Nat.le_of_ble_eq_true rfl), (Nat.le_of_ble_eq_true rfl)⟩ ⟨Nat.le_refl 52, Nat.le_refl 1789⟩ 0 rfl rfl (W7 cy ad7 (mk7 z7_lastFound (pc7_lastAsked s) z7_found (pc4_made s) (pc4_kinds s) (pc4_places s) (pc4_rates s) (pc4_readings s) (pc4_bearing s) (pc5_legs s) (pc5_length s) (pc5_ways s) (pc5_units s) (pc5_stuffOf s) (pc5_point s) z6_bytes (pc6_sizes s) (pc6_weights s) (pc3_size s) (pc3_rates s) (pc0_amounts s) (pc0_lows s) (pc0_highs s) (pc0_barred s) (pc1_lines s) (pc1_parts s) (pc2_above s) (pc2_below s))) [] rfl _ rfl (Nat.le_of_ble_eq_true rfl) dL_law_268 (W7 cy ad7 (mk7 z7_lastFound (pc7_lastAsked s) z7_found (pc4_made s) (pc4_kinds s) (pc4_places s) (pc4_rates s) (pc4_readings s) (pc4_bearing s) (pc5_legs s) (pc5_length s) (pc5_ways s) (pc5_units s) (pc5_stuffOf s) (pc5_point s) z6_bytes (pc6_sizes s) (pc6_weights s) (pc3_size s) (pc3_rates s) (pc0_amounts s) (pc0_lows s) (pc0_highs s) (pc0_barred s) (pc1_lines s) (pc1_parts s) (pc2_above s) (pc2_below s)) ++ W8 cy ad8 (mk8 z8_latest (pc8_asked t) (pc8_upper t) (pc8_lower t) (pc8_legs t) (pc8_units t) (pc8_rests t) (pc8_rates t) (pc8_lines t) z8_came (pc8_sizes t) (pc8_weights t) z8_growths (pc8_copied t) (pc8_legWay t) (pc8_legUnits t) (pc8_legStuff t) (pc8_unitWay t) (pc8_unitStuff t) (pc8_xs t) (pc8_ys t) (pc8_zs t) (pc8_kindOf t) (pc8_placeOf t) (pc8_rateOf t) (pc8_readOf t) (pc8_isGone t) (pc8_theList t) (pc8_amounts t) (pc8_low t) (pc8_high t) (pc8_barred t) (pc8_times t) (pc8_ranges t))) rfl ?_
  refine r_icmp_eq (tgt := 1353) hC dL_law_271 (by decide) (fun _ => ?_) (fun c => absurd rfl c)
  exact next _ _ hR1
set_option maxHeartbeats 8000000 in
set_option maxRecDepth 100000 in
theorem law_tear (X : CX) (l : Launch) (D : va_G) (cy : Nat → ClassId) (ad7 ad8 : Nat → Nat) (N : Nat) (Rel : S7 → S8 → Prop) (b L : Nat) (xs : Nat → Int32) (hC : OK X l D cy room_1 code 4 wsL_law RL) (hS : SC X b L xs) (hZ : ZL X.2.2.2.2.1) (j : Nat) (hj : j + 6 ≤ L) (hL : L ≤ 3072) (s : S7) (t : S8) (hR : Rel s t) (hop : op_tear N Rel) (next : ∀ (s : S7) (t : S8), Rel s t → GG X 4 52 1789 (W7 cy ad7 s ++ W8 cy ad8 t) [(0, .ref b), (1, .ref (ad7 70)), (2, .ref (ad8 80)), (3, .int (nI j))] 1353 []) : GG X 4 52 1789 (W7 cy ad7 s ++ W8 cy ad8 t) [(0, .ref b), (1, .ref (ad7 70)), (2, .ref (ad8 80)), (3, .int (nI j))] 276 [] := by
  obtain ⟨r, z7_lastFound, z7_found, z6_sizes, z8_latest, z8_came, z8_sizes, h7, h8, hR1⟩ := hop s t hR ((xs (nI j + 1).toNatClampNeg))
  refine r_aload_n hC dL_law_276 rfl 1 rfl ?_
  refine r_aload_n hC dL_law_277 rfl 0 rfl ?_
  refine r_iload_n hC dL_law_278 rfl 3 rfl ?_
  refine r_iconst hC dL_law_279 ic_1 ?_
  refine r_iadd hC dL_law_280 ?_
  refine r_sld hC hS (ix_in (k := 1) (by omega) hL) dL_law_281 ?_
  refine r_vi (st := []) hC (kX7_tear l D cy ad7 (pc7_lastFound s) (pc7_lastAsked s) (pc7_found s) (pc4_made s) (pc4_kinds s) (pc4_places s) (pc4_rates s) (pc4_readings s) (pc4_bearing s) (pc5_legs s) (pc5_length s) (pc5_ways s) (pc5_units s) (pc5_stuffOf s) (pc5_point s) (pc6_bytes s) (pc6_sizes s) (pc6_weights s) (pc3_size s) (pc3_rates s) (pc0_amounts s) (pc0_lows s) (pc0_highs s) (pc0_barred s) (pc1_lines s) (pc1_parts s) (pc2_above s) (pc2_below s) ((xs (nI j + 1).toNatClampNeg)) h7) gL_law_X7_tear rfl ⟨rfl, rfl⟩ ydX7_tear ⟨(Nat.le_of_ble_eq_true rfl), (Nat.le_of_ble_eq_true rfl)⟩ ⟨Nat.le_refl 52, Nat.le_refl 1789⟩ 0 rfl rfl [] (W8 cy ad8 t) rfl _ rfl (Nat.le_of_ble_eq_true rfl) dL_law_282 (W7 cy ad7 (mk7 z7_lastFound (pc7_lastAsked s) z7_found (pc4_made s) (pc4_kinds s) (pc4_places s) (pc4_rates s) (pc4_readings s) (pc4_bearing s) (pc5_legs s) (pc5_length s) (pc5_ways s) (pc5_units s) (pc5_stuffOf s) (pc5_point s) (pc6_bytes s) z6_sizes (pc6_weights s) (pc3_size s) (pc3_rates s) (pc0_amounts s) (pc0_lows s) (pc0_highs s) (pc0_barred s) (pc1_lines s) (pc1_parts s) (pc2_above s) (pc2_below s)) ++ W8 cy ad8 t) rfl ?_
  refine r_aload_n hC dL_law_285 rfl 2 rfl ?_
  refine r_aload_n hC dL_law_286 rfl 0 rfl ?_
  refine r_iload_n hC dL_law_287 rfl 3 rfl ?_
  refine r_iconst hC dL_law_288 ic_1 ?_
  refine r_iadd hC dL_law_289 ?_
  refine r_sld hC hS (ix_in (k := 1) (by omega) hL) dL_law_290 ?_
  refine r_vi (st := [.int r]) hC (kX8_tear l D cy ad8 (pc8_latest t) (pc8_asked t) (pc8_upper t) (pc8_lower t) (pc8_legs t) (pc8_units t) (pc8_rests t) (pc8_rates t) (pc8_lines t) (pc8_came t) (pc8_sizes t) (pc8_weights t) (pc8_growths t) (pc8_copied t) (pc8_legWay t) (pc8_legUnits t) (pc8_legStuff t) (pc8_unitWay t) (pc8_unitStuff t) (pc8_xs t) (pc8_ys t) (pc8_zs t) (pc8_kindOf t) (pc8_placeOf t) (pc8_rateOf t) (pc8_readOf t) (pc8_isGone t) (pc8_theList t) (pc8_amounts t) (pc8_low t) (pc8_high t) (pc8_barred t) (pc8_times t) (pc8_ranges t) ((xs (nI j + 1).toNatClampNeg)) h8) gL_law_X8_tear rfl ⟨rfl, rfl⟩ ydX8_tear ⟨(Nat.le_of_ble_eq_true rfl), (Nat.le_of_ble_eq_true rfl)⟩ ⟨Nat.le_refl 52, Nat.le_refl 1789⟩ 0 rfl rfl (W7 cy ad7 (mk7 z7_lastFound (pc7_lastAsked s) z7_found (pc4_made s) (pc4_kinds s) (pc4_places s) (pc4_rates s) (pc4_readings s) (pc4_bearing s) (pc5_legs s) (pc5_length s) (pc5_ways s) (pc5_units s) (pc5_stuffOf s) (pc5_point s) (pc6_bytes s) z6_sizes (pc6_weights s) (pc3_size s) (pc3_rates s) (pc0_amounts s) (pc0_lows s) (pc0_highs s) (pc0_barred s) (pc1_lines s) (pc1_parts s) (pc2_above s) (pc2_below s))) [] rfl _ rfl (Nat.le_of_ble_eq_true rfl) dL_law_291 (W7 cy ad7 (mk7 z7_lastFound (pc7_lastAsked s) z7_found (pc4_made s) (pc4_kinds s) (pc4_places s) (pc4_rates s) (pc4_readings s) (pc4_bearing s) (pc5_legs s) (pc5_length s) (pc5_ways s) (pc5_units s) (pc5_stuffOf s) (pc5_point s) (pc6_bytes s) z6_sizes (pc6_weights s) (pc3_size s) (pc3_rates s) (pc0_amounts s) (pc0_lows s) (pc0_highs s) (pc0_barred s) (pc1_lines s) (pc1_parts s) (pc2_above s) (pc2_below s)) ++ W8 cy ad8 (mk8 z8_latest (pc8_asked t) (pc8_upper t) (pc8_lower t) (pc8_legs t) (pc8_units t) (pc8_rests t) (pc8_rates t) (pc8_lines t) z8_came z8_sizes (pc8_weights t) (pc8_growths t) (pc8_copied t) (pc8_legWay t) (pc8_legUnits t) (pc8_legStuff t) (pc8_unitWay t) (pc8_unitStuff t) (pc8_xs t) (pc8_ys t) (pc8_zs t) (pc8_kindOf t) (pc8_placeOf t) (pc8_rateOf t) (pc8_readOf t) (pc8_isGone t) (pc8_theList t) (pc8_amounts t) (pc8_low t) (pc8_high t) (pc8_barred t) (pc8_times t) (pc8_ranges t))) rfl ?_
  refine r_icmp_eq (tgt := 1353) hC dL_law_294 (by decide) (fun _ => ?_) (fun c => absurd rfl c)
  exact next _ _ hR1
set_option maxHeartbeats 8000000 in
set_option maxRecDepth 100000 in
theorem law_copy (X : CX) (l : Launch) (D : va_G) (cy : Nat → ClassId) (ad7 ad8 : Nat → Nat) (N : Nat) (Rel : S7 → S8 → Prop) (b L : Nat) (xs : Nat → Int32) (hC : OK X l D cy room_1 code 4 wsL_law RL) (hS : SC X b L xs) (hZ : ZL X.2.2.2.2.1) (j : Nat) (hj : j + 6 ≤ L) (hL : L ≤ 3072) (s : S7) (t : S8) (hR : Rel s t) (hop : op_copy N Rel) (next : ∀ (s : S7) (t : S8), Rel s t → GG X 4 52 1789 (W7 cy ad7 s ++ W8 cy ad8 t) [(0, .ref b), (1, .ref (ad7 70)), (2, .ref (ad8 80)), (3, .int (nI j))] 1353 []) : GG X 4 52 1789 (W7 cy ad7 s ++ W8 cy ad8 t) [(0, .ref b), (1, .ref (ad7 70)), (2, .ref (ad8 80)), (3, .int (nI j))] 299 [] := by
  obtain ⟨r, z7_lastFound, z7_found, z6_bytes, z8_latest, z8_came, z8_growths, z8_copied, h7, h8, hR1⟩ := hop s t hR ((xs (nI j + 1).toNatClampNeg)) ((xs (nI j + 2).toNatClampNeg)) ((xs (nI j + 3).toNatClampNeg)) ((xs (nI j + 4).toNatClampNeg)) ((xs (nI j + 5).toNatClampNeg))
  refine r_aload_n hC dL_law_299 rfl 1 rfl ?_
  refine r_aload_n hC dL_law_300 rfl 0 rfl ?_
  refine r_iload_n hC dL_law_301 rfl 3 rfl ?_
  refine r_iconst hC dL_law_302 ic_1 ?_
  refine r_iadd hC dL_law_303 ?_
  refine r_sld hC hS (ix_in (k := 1) (by omega) hL) dL_law_304 ?_
  refine r_aload_n hC dL_law_305 rfl 0 rfl ?_
  refine r_iload_n hC dL_law_306 rfl 3 rfl ?_
  refine r_iconst hC dL_law_307 ic_2 ?_
  refine r_iadd hC dL_law_308 ?_
  refine r_sld hC hS (ix_in (k := 2) (by omega) hL) dL_law_309 ?_
  refine r_aload_n hC dL_law_310 rfl 0 rfl ?_
  refine r_iload_n hC dL_law_311 rfl 3 rfl ?_
  refine r_iconst hC dL_law_312 ic_3 ?_
  refine r_iadd hC dL_law_313 ?_
  refine r_sld hC hS (ix_in (k := 3) (by omega) hL) dL_law_314 ?_
  refine r_aload_n hC dL_law_315 rfl 0 rfl ?_
  refine r_iload_n hC dL_law_316 rfl 3 rfl ?_
  refine r_iconst hC dL_law_317 ic_4 ?_
  refine r_iadd hC dL_law_318 ?_
  refine r_sld hC hS (ix_in (k := 4) (by omega) hL) dL_law_319 ?_
  refine r_aload_n hC dL_law_320 rfl 0 rfl ?_
  refine r_iload_n hC dL_law_321 rfl 3 rfl ?_
  refine r_iconst hC dL_law_322 ic_5 ?_
  refine r_iadd hC dL_law_323 ?_
  refine r_sld hC hS (ix_in (k := 5) (by omega) hL) dL_law_324 ?_
  refine r_vi (st := []) hC (kX7_copy l D cy ad7 (pc7_lastFound s) (pc7_lastAsked s) (pc7_found s) (pc4_made s) (pc4_kinds s) (pc4_places s) (pc4_rates s) (pc4_readings s) (pc4_bearing s) (pc5_legs s) (pc5_length s) (pc5_ways s) (pc5_units s) (pc5_stuffOf s) (pc5_point s) (pc6_bytes s) (pc6_sizes s) (pc6_weights s) (pc3_size s) (pc3_rates s) (pc0_amounts s) (pc0_lows s) (pc0_highs s) (pc0_barred s) (pc1_lines s) (pc1_parts s) (pc2_above s) (pc2_below s) ((xs (nI j + 1).toNatClampNeg)) ((xs (nI j + 2).toNatClampNeg)) ((xs (nI j + 3).toNatClampNeg)) ((xs (nI j + 4).toNatClampNeg)) ((xs (nI j + 5).toNatClampNeg)) h7) gL_law_X7_copy rfl ⟨rfl, rfl⟩ ydX7_copy ⟨(Nat.le_of_ble_eq_true rfl), (Nat.le_of_ble_eq_true rfl)⟩ ⟨Nat.le_refl 52, Nat.le_refl 1789⟩ 0 rfl rfl [] (W8 cy ad8 t) rfl _ rfl (Nat.le_of_ble_eq_true rfl) dL_law_325 (W7 cy ad7 (mk7 z7_lastFound (pc7_lastAsked s) z7_found (pc4_made s) (pc4_kinds s) (pc4_places s) (pc4_rates s) (pc4_readings s) (pc4_bearing s) (pc5_legs s) (pc5_length s) (pc5_ways s) (pc5_units s) (pc5_stuffOf s) (pc5_point s) z6_bytes (pc6_sizes s) (pc6_weights s) (pc3_size s) (pc3_rates s) (pc0_amounts s) (pc0_lows s) (pc0_highs s) (pc0_barred s) (pc1_lines s) (pc1_parts s) (pc2_above s) (pc2_below s)) ++ W8 cy ad8 t) rfl ?_
  refine r_aload_n hC dL_law_328 rfl 2 rfl ?_
  refine r_aload_n hC dL_law_329 rfl 0 rfl ?_
  refine r_iload_n hC dL_law_330 rfl 3 rfl ?_
  refine r_iconst hC dL_law_331 ic_1 ?_
  refine r_iadd hC dL_law_332 ?_
  refine r_sld hC hS (ix_in (k := 1) (by omega) hL) dL_law_333 ?_
  refine r_aload_n hC dL_law_334 rfl 0 rfl ?_
  refine r_iload_n hC dL_law_335 rfl 3 rfl ?_
  refine r_iconst hC dL_law_336 ic_2 ?_
  refine r_iadd hC dL_law_337 ?_
  refine r_sld hC hS (ix_in (k := 2) (by omega) hL) dL_law_338 ?_
  refine r_aload_n hC dL_law_339 rfl 0 rfl ?_
  refine r_iload_n hC dL_law_340 rfl 3 rfl ?_
  refine r_iconst hC dL_law_341 ic_3 ?_
  refine r_iadd hC dL_law_342 ?_
  refine r_sld hC hS (ix_in (k := 3) (by omega) hL) dL_law_343 ?_
  refine r_aload_n hC dL_law_344 rfl 0 rfl ?_
  refine r_iload_n hC dL_law_345 rfl 3 rfl ?_
  refine r_iconst hC dL_law_346 ic_4 ?_
  refine r_iadd hC dL_law_347 ?_
  refine r_sld hC hS (ix_in (k := 4) (by omega) hL) dL_law_348 ?_
  refine r_aload_n hC dL_law_349 rfl 0 rfl ?_
  refine r_iload_n hC dL_law_350 rfl 3 rfl ?_
  refine r_iconst hC dL_law_351 ic_5 ?_
  refine r_iadd hC dL_law_352 ?_
  refine r_sld hC hS (ix_in (k := 5) (by omega) hL) dL_law_353 ?_
  refine r_vi (st := [.int r]) hC (kX8_copy l D cy ad8 (pc8_latest t) (pc8_asked t) (pc8_upper t) (pc8_lower t) (pc8_legs t) (pc8_units t) (pc8_rests t) (pc8_rates t) (pc8_lines t) (pc8_came t) (pc8_sizes t) (pc8_weights t) (pc8_growths t) (pc8_copied t) (pc8_legWay t) (pc8_legUnits t) (pc8_legStuff t) (pc8_unitWay t) (pc8_unitStuff t) (pc8_xs t) (pc8_ys t) (pc8_zs t) (pc8_kindOf t) (pc8_placeOf t) (pc8_rateOf t) (pc8_readOf t) (pc8_isGone t) (pc8_theList t) (pc8_amounts t) (pc8_low t) (pc8_high t) (pc8_barred t) (pc8_times t) (pc8_ranges t) ((xs (nI j + 1).toNatClampNeg)) ((xs (nI j + 2).toNatClampNeg)) ((xs (nI j + 3).toNatClampNeg)) ((xs (nI j + 4).toNatClampNeg)) ((xs (nI j + 5).toNatClampNeg)) N h8) gL_law_X8_copy rfl ⟨rfl, rfl⟩ ydX8_copy ⟨(Nat.le_of_ble_eq_true rfl), (Nat.le_of_ble_eq_true rfl)⟩ ⟨Nat.le_refl 52, Nat.le_refl 1789⟩ 0 rfl rfl (W7 cy ad7 (mk7 z7_lastFound (pc7_lastAsked s) z7_found (pc4_made s) (pc4_kinds s) (pc4_places s) (pc4_rates s) (pc4_readings s) (pc4_bearing s) (pc5_legs s) (pc5_length s) (pc5_ways s) (pc5_units s) (pc5_stuffOf s) (pc5_point s) z6_bytes (pc6_sizes s) (pc6_weights s) (pc3_size s) (pc3_rates s) (pc0_amounts s) (pc0_lows s) (pc0_highs s) (pc0_barred s) (pc1_lines s) (pc1_parts s) (pc2_above s) (pc2_below s))) [] rfl _ rfl (Nat.le_of_ble_eq_true rfl) dL_law_354 (W7 cy ad7 (mk7 z7_lastFound (pc7_lastAsked s) z7_found (pc4_made s) (pc4_kinds s) (pc4_places s) (pc4_rates s) (pc4_readings s) (pc4_bearing s) (pc5_legs s) (pc5_length s) (pc5_ways s) (pc5_units s) (pc5_stuffOf s) (pc5_point s) z6_bytes (pc6_sizes s) (pc6_weights s) (pc3_size s) (pc3_rates s) (pc0_amounts s) (pc0_lows s) (pc0_highs s) (pc0_barred s) (pc1_lines s) (pc1_parts s) (pc2_above s) (pc2_below s)) ++ W8 cy ad8 (mk8 z8_latest (pc8_asked t) (pc8_upper t) (pc8_lower t) (pc8_legs t) (pc8_units t) (pc8_rests t) (pc8_rates t) (pc8_lines t) z8_came (pc8_sizes t) (pc8_weights t) z8_growths z8_copied (pc8_legWay t) (pc8_legUnits t) (pc8_legStuff t) (pc8_unitWay t) (pc8_unitStuff t) (pc8_xs t) (pc8_ys t) (pc8_zs t) (pc8_kindOf t) (pc8_placeOf t) (pc8_rateOf t) (pc8_readOf t) (pc8_isGone t) (pc8_theList t) (pc8_amounts t) (pc8_low t) (pc8_high t) (pc8_barred t) (pc8_times t) (pc8_ranges t))) rfl ?_
  refine r_icmp_eq (tgt := 1353) hC dL_law_357 (by decide) (fun _ => ?_) (fun c => absurd rfl c)
  exact next _ _ hR1
set_option maxHeartbeats 8000000 in
set_option maxRecDepth 100000 in
theorem law_weigh (X : CX) (l : Launch) (D : va_G) (cy : Nat → ClassId) (ad7 ad8 : Nat → Nat) (N : Nat) (Rel : S7 → S8 → Prop) (b L : Nat) (xs : Nat → Int32) (hC : OK X l D cy room_1 code 4 wsL_law RL) (hS : SC X b L xs) (hZ : ZL X.2.2.2.2.1) (j : Nat) (hj : j + 6 ≤ L) (hL : L ≤ 3072) (s : S7) (t : S8) (hR : Rel s t) (hop : op_weigh N Rel) (next : ∀ (s : S7) (t : S8), Rel s t → GG X 4 52 1789 (W7 cy ad7 s ++ W8 cy ad8 t) [(0, .ref b), (1, .ref (ad7 70)), (2, .ref (ad8 80)), (3, .int (nI j))] 1353 []) : GG X 4 52 1789 (W7 cy ad7 s ++ W8 cy ad8 t) [(0, .ref b), (1, .ref (ad7 70)), (2, .ref (ad8 80)), (3, .int (nI j))] 362 [] := by
  obtain ⟨r, z6_weights, z8_weights, h7, h8, hR1⟩ := hop s t hR ((xs (nI j + 1).toNatClampNeg)) ((xs (nI j + 2).toNatClampNeg))
  refine r_aload_n hC dL_law_362 rfl 1 rfl ?_
  refine r_aload_n hC dL_law_363 rfl 0 rfl ?_
  refine r_iload_n hC dL_law_364 rfl 3 rfl ?_
  refine r_iconst hC dL_law_365 ic_1 ?_
  refine r_iadd hC dL_law_366 ?_
  refine r_sld hC hS (ix_in (k := 1) (by omega) hL) dL_law_367 ?_
  refine r_aload_n hC dL_law_368 rfl 0 rfl ?_
  refine r_iload_n hC dL_law_369 rfl 3 rfl ?_
  refine r_iconst hC dL_law_370 ic_2 ?_
  refine r_iadd hC dL_law_371 ?_
  refine r_sld hC hS (ix_in (k := 2) (by omega) hL) dL_law_372 ?_
  refine r_vi (st := []) hC (kX7_weigh l D cy ad7 (pc7_lastFound s) (pc7_lastAsked s) (pc7_found s) (pc4_made s) (pc4_kinds s) (pc4_places s) (pc4_rates s) (pc4_readings s) (pc4_bearing s) (pc5_legs s) (pc5_length s) (pc5_ways s) (pc5_units s) (pc5_stuffOf s) (pc5_point s) (pc6_bytes s) (pc6_sizes s) (pc6_weights s) (pc3_size s) (pc3_rates s) (pc0_amounts s) (pc0_lows s) (pc0_highs s) (pc0_barred s) (pc1_lines s) (pc1_parts s) (pc2_above s) (pc2_below s) ((xs (nI j + 1).toNatClampNeg)) ((xs (nI j + 2).toNatClampNeg)) h7) gL_law_X7_weigh rfl ⟨rfl, rfl⟩ ydX7_weigh ⟨(Nat.le_of_ble_eq_true rfl), (Nat.le_of_ble_eq_true rfl)⟩ ⟨Nat.le_refl 52, Nat.le_refl 1789⟩ 0 rfl rfl [] (W8 cy ad8 t) rfl _ rfl (Nat.le_of_ble_eq_true rfl) dL_law_373 (W7 cy ad7 (mk7 (pc7_lastFound s) (pc7_lastAsked s) (pc7_found s) (pc4_made s) (pc4_kinds s) (pc4_places s) (pc4_rates s) (pc4_readings s) (pc4_bearing s) (pc5_legs s) (pc5_length s) (pc5_ways s) (pc5_units s) (pc5_stuffOf s) (pc5_point s) (pc6_bytes s) (pc6_sizes s) z6_weights (pc3_size s) (pc3_rates s) (pc0_amounts s) (pc0_lows s) (pc0_highs s) (pc0_barred s) (pc1_lines s) (pc1_parts s) (pc2_above s) (pc2_below s)) ++ W8 cy ad8 t) rfl ?_
  refine r_aload_n hC dL_law_376 rfl 2 rfl ?_
  refine r_aload_n hC dL_law_377 rfl 0 rfl ?_
  refine r_iload_n hC dL_law_378 rfl 3 rfl ?_
  refine r_iconst hC dL_law_379 ic_1 ?_
  refine r_iadd hC dL_law_380 ?_
  refine r_sld hC hS (ix_in (k := 1) (by omega) hL) dL_law_381 ?_
  refine r_aload_n hC dL_law_382 rfl 0 rfl ?_
  refine r_iload_n hC dL_law_383 rfl 3 rfl ?_
  refine r_iconst hC dL_law_384 ic_2 ?_
  refine r_iadd hC dL_law_385 ?_
  refine r_sld hC hS (ix_in (k := 2) (by omega) hL) dL_law_386 ?_
  refine r_vi (st := [.int r]) hC (kX8_weigh l D cy ad8 (pc8_latest t) (pc8_asked t) (pc8_upper t) (pc8_lower t) (pc8_legs t) (pc8_units t) (pc8_rests t) (pc8_rates t) (pc8_lines t) (pc8_came t) (pc8_sizes t) (pc8_weights t) (pc8_growths t) (pc8_copied t) (pc8_legWay t) (pc8_legUnits t) (pc8_legStuff t) (pc8_unitWay t) (pc8_unitStuff t) (pc8_xs t) (pc8_ys t) (pc8_zs t) (pc8_kindOf t) (pc8_placeOf t) (pc8_rateOf t) (pc8_readOf t) (pc8_isGone t) (pc8_theList t) (pc8_amounts t) (pc8_low t) (pc8_high t) (pc8_barred t) (pc8_times t) (pc8_ranges t) ((xs (nI j + 1).toNatClampNeg)) ((xs (nI j + 2).toNatClampNeg)) h8) gL_law_X8_weigh rfl ⟨rfl, rfl⟩ ydX8_weigh ⟨(Nat.le_of_ble_eq_true rfl), (Nat.le_of_ble_eq_true rfl)⟩ ⟨Nat.le_refl 52, Nat.le_refl 1789⟩ 0 rfl rfl (W7 cy ad7 (mk7 (pc7_lastFound s) (pc7_lastAsked s) (pc7_found s) (pc4_made s) (pc4_kinds s) (pc4_places s) (pc4_rates s) (pc4_readings s) (pc4_bearing s) (pc5_legs s) (pc5_length s) (pc5_ways s) (pc5_units s) (pc5_stuffOf s) (pc5_point s) (pc6_bytes s) (pc6_sizes s) z6_weights (pc3_size s) (pc3_rates s) (pc0_amounts s) (pc0_lows s) (pc0_highs s) (pc0_barred s) (pc1_lines s) (pc1_parts s) (pc2_above s) (pc2_below s))) [] rfl _ rfl (Nat.le_of_ble_eq_true rfl) dL_law_387 (W7 cy ad7 (mk7 (pc7_lastFound s) (pc7_lastAsked s) (pc7_found s) (pc4_made s) (pc4_kinds s) (pc4_places s) (pc4_rates s) (pc4_readings s) (pc4_bearing s) (pc5_legs s) (pc5_length s) (pc5_ways s) (pc5_units s) (pc5_stuffOf s) (pc5_point s) (pc6_bytes s) (pc6_sizes s) z6_weights (pc3_size s) (pc3_rates s) (pc0_amounts s) (pc0_lows s) (pc0_highs s) (pc0_barred s) (pc1_lines s) (pc1_parts s) (pc2_above s) (pc2_below s)) ++ W8 cy ad8 (mk8 (pc8_latest t) (pc8_asked t) (pc8_upper t) (pc8_lower t) (pc8_legs t) (pc8_units t) (pc8_rests t) (pc8_rates t) (pc8_lines t) (pc8_came t) (pc8_sizes t) z8_weights (pc8_growths t) (pc8_copied t) (pc8_legWay t) (pc8_legUnits t) (pc8_legStuff t) (pc8_unitWay t) (pc8_unitStuff t) (pc8_xs t) (pc8_ys t) (pc8_zs t) (pc8_kindOf t) (pc8_placeOf t) (pc8_rateOf t) (pc8_readOf t) (pc8_isGone t) (pc8_theList t) (pc8_amounts t) (pc8_low t) (pc8_high t) (pc8_barred t) (pc8_times t) (pc8_ranges t))) rfl ?_
  refine r_icmp_eq (tgt := 1353) hC dL_law_390 (by decide) (fun _ => ?_) (fun c => absurd rfl c)
  exact next _ _ hR1
set_option maxHeartbeats 8000000 in
set_option maxRecDepth 100000 in
theorem law_mean (X : CX) (l : Launch) (D : va_G) (cy : Nat → ClassId) (ad7 ad8 : Nat → Nat) (N : Nat) (Rel : S7 → S8 → Prop) (b L : Nat) (xs : Nat → Int32) (hC : OK X l D cy room_1 code 4 wsL_law RL) (hS : SC X b L xs) (hZ : ZL X.2.2.2.2.1) (j : Nat) (hj : j + 6 ≤ L) (hL : L ≤ 3072) (s : S7) (t : S8) (hR : Rel s t) (hop : op_mean N Rel) (next : ∀ (s : S7) (t : S8), Rel s t → GG X 4 52 1789 (W7 cy ad7 s ++ W8 cy ad8 t) [(0, .ref b), (1, .ref (ad7 70)), (2, .ref (ad8 80)), (3, .int (nI j))] 1353 []) : GG X 4 52 1789 (W7 cy ad7 s ++ W8 cy ad8 t) [(0, .ref b), (1, .ref (ad7 70)), (2, .ref (ad8 80)), (3, .int (nI j))] 395 [] := by
  obtain ⟨r, z7_lastFound, z7_found, z8_latest, z8_came, h7, h8, hR1⟩ := hop s t hR ((xs (nI j + 1).toNatClampNeg))
  refine r_aload_n hC dL_law_395 rfl 1 rfl ?_
  refine r_aload_n hC dL_law_396 rfl 0 rfl ?_
  refine r_iload_n hC dL_law_397 rfl 3 rfl ?_
  refine r_iconst hC dL_law_398 ic_1 ?_
  refine r_iadd hC dL_law_399 ?_
  refine r_sld hC hS (ix_in (k := 1) (by omega) hL) dL_law_400 ?_
  refine r_vi (st := []) hC (kX7_mean l D cy ad7 (pc7_lastFound s) (pc7_lastAsked s) (pc7_found s) (pc4_made s) (pc4_kinds s) (pc4_places s) (pc4_rates s) (pc4_readings s) (pc4_bearing s) (pc5_legs s) (pc5_length s) (pc5_ways s) (pc5_units s) (pc5_stuffOf s) (pc5_point s) (pc6_bytes s) (pc6_sizes s) (pc6_weights s) (pc3_size s) (pc3_rates s) (pc0_amounts s) (pc0_lows s) (pc0_highs s) (pc0_barred s) (pc1_lines s) (pc1_parts s) (pc2_above s) (pc2_below s) ((xs (nI j + 1).toNatClampNeg)) N h7) gL_law_X7_mean rfl ⟨rfl, rfl⟩ ydX7_mean ⟨(Nat.le_of_ble_eq_true rfl), (Nat.le_of_ble_eq_true rfl)⟩ ⟨Nat.le_refl 52, Nat.le_refl 1789⟩ 0 rfl rfl [] (W8 cy ad8 t) rfl _ rfl (Nat.le_of_ble_eq_true rfl) dL_law_401 (W7 cy ad7 (mk7 z7_lastFound (pc7_lastAsked s) z7_found (pc4_made s) (pc4_kinds s) (pc4_places s) (pc4_rates s) (pc4_readings s) (pc4_bearing s) (pc5_legs s) (pc5_length s) (pc5_ways s) (pc5_units s) (pc5_stuffOf s) (pc5_point s) (pc6_bytes s) (pc6_sizes s) (pc6_weights s) (pc3_size s) (pc3_rates s) (pc0_amounts s) (pc0_lows s) (pc0_highs s) (pc0_barred s) (pc1_lines s) (pc1_parts s) (pc2_above s) (pc2_below s)) ++ W8 cy ad8 t) rfl ?_
  refine r_aload_n hC dL_law_404 rfl 2 rfl ?_
  refine r_aload_n hC dL_law_405 rfl 0 rfl ?_
  refine r_iload_n hC dL_law_406 rfl 3 rfl ?_
  refine r_iconst hC dL_law_407 ic_1 ?_
  refine r_iadd hC dL_law_408 ?_
  refine r_sld hC hS (ix_in (k := 1) (by omega) hL) dL_law_409 ?_
  refine r_vi (st := [.int r]) hC (kX8_mean l D cy ad8 (pc8_latest t) (pc8_asked t) (pc8_upper t) (pc8_lower t) (pc8_legs t) (pc8_units t) (pc8_rests t) (pc8_rates t) (pc8_lines t) (pc8_came t) (pc8_sizes t) (pc8_weights t) (pc8_growths t) (pc8_copied t) (pc8_legWay t) (pc8_legUnits t) (pc8_legStuff t) (pc8_unitWay t) (pc8_unitStuff t) (pc8_xs t) (pc8_ys t) (pc8_zs t) (pc8_kindOf t) (pc8_placeOf t) (pc8_rateOf t) (pc8_readOf t) (pc8_isGone t) (pc8_theList t) (pc8_amounts t) (pc8_low t) (pc8_high t) (pc8_barred t) (pc8_times t) (pc8_ranges t) ((xs (nI j + 1).toNatClampNeg)) N h8) gL_law_X8_mean rfl ⟨rfl, rfl⟩ ydX8_mean ⟨(Nat.le_of_ble_eq_true rfl), (Nat.le_of_ble_eq_true rfl)⟩ ⟨Nat.le_refl 52, Nat.le_refl 1789⟩ 0 rfl rfl (W7 cy ad7 (mk7 z7_lastFound (pc7_lastAsked s) z7_found (pc4_made s) (pc4_kinds s) (pc4_places s) (pc4_rates s) (pc4_readings s) (pc4_bearing s) (pc5_legs s) (pc5_length s) (pc5_ways s) (pc5_units s) (pc5_stuffOf s) (pc5_point s) (pc6_bytes s) (pc6_sizes s) (pc6_weights s) (pc3_size s) (pc3_rates s) (pc0_amounts s) (pc0_lows s) (pc0_highs s) (pc0_barred s) (pc1_lines s) (pc1_parts s) (pc2_above s) (pc2_below s))) [] rfl _ rfl (Nat.le_of_ble_eq_true rfl) dL_law_410 (W7 cy ad7 (mk7 z7_lastFound (pc7_lastAsked s) z7_found (pc4_made s) (pc4_kinds s) (pc4_places s) (pc4_rates s) (pc4_readings s) (pc4_bearing s) (pc5_legs s) (pc5_length s) (pc5_ways s) (pc5_units s) (pc5_stuffOf s) (pc5_point s) (pc6_bytes s) (pc6_sizes s) (pc6_weights s) (pc3_size s) (pc3_rates s) (pc0_amounts s) (pc0_lows s) (pc0_highs s) (pc0_barred s) (pc1_lines s) (pc1_parts s) (pc2_above s) (pc2_below s)) ++ W8 cy ad8 (mk8 z8_latest (pc8_asked t) (pc8_upper t) (pc8_lower t) (pc8_legs t) (pc8_units t) (pc8_rests t) (pc8_rates t) (pc8_lines t) z8_came (pc8_sizes t) (pc8_weights t) (pc8_growths t) (pc8_copied t) (pc8_legWay t) (pc8_legUnits t) (pc8_legStuff t) (pc8_unitWay t) (pc8_unitStuff t) (pc8_xs t) (pc8_ys t) (pc8_zs t) (pc8_kindOf t) (pc8_placeOf t) (pc8_rateOf t) (pc8_readOf t) (pc8_isGone t) (pc8_theList t) (pc8_amounts t) (pc8_low t) (pc8_high t) (pc8_barred t) (pc8_times t) (pc8_ranges t))) rfl ?_
  refine r_icmp_eq (tgt := 1353) hC dL_law_413 (by decide) (fun _ => ?_) (fun c => absurd rfl c)
  exact next _ _ hR1
set_option maxHeartbeats 8000000 in
set_option maxRecDepth 100000 in
theorem law_leg (X : CX) (l : Launch) (D : va_G) (cy : Nat → ClassId) (ad7 ad8 : Nat → Nat) (N : Nat) (Rel : S7 → S8 → Prop) (b L : Nat) (xs : Nat → Int32) (hC : OK X l D cy room_1 code 4 wsL_law RL) (hS : SC X b L xs) (hZ : ZL X.2.2.2.2.1) (j : Nat) (hj : j + 6 ≤ L) (hL : L ≤ 3072) (s : S7) (t : S8) (hR : Rel s t) (hop : op_leg N Rel) (next : ∀ (s : S7) (t : S8), Rel s t → GG X 4 52 1789 (W7 cy ad7 s ++ W8 cy ad8 t) [(0, .ref b), (1, .ref (ad7 70)), (2, .ref (ad8 80)), (3, .int (nI j))] 1353 []) : GG X 4 52 1789 (W7 cy ad7 s ++ W8 cy ad8 t) [(0, .ref b), (1, .ref (ad7 70)), (2, .ref (ad8 80)), (3, .int (nI j))] 418 [] := by
  obtain ⟨r, z5_legs, z5_length, z5_ways, z5_units, z5_stuffOf, z8_legs, z8_units, z8_legWay, z8_legUnits, z8_legStuff, z8_unitWay, z8_unitStuff, z8_xs, z8_ys, z8_zs, h7, h8, hR1⟩ := hop s t hR ((xs (nI j + 1).toNatClampNeg)) ((xs (nI j + 2).toNatClampNeg)) ((xs (nI j + 3).toNatClampNeg))
  refine r_aload_n hC dL_law_418 rfl 1 rfl ?_
  refine r_aload_n hC dL_law_419 rfl 0 rfl ?_
  refine r_iload_n hC dL_law_420 rfl 3 rfl ?_
  refine r_iconst hC dL_law_421 ic_1 ?_
  refine r_iadd hC dL_law_422 ?_
  refine r_sld hC hS (ix_in (k := 1) (by omega) hL) dL_law_423 ?_
  refine r_aload_n hC dL_law_424 rfl 0 rfl ?_
  refine r_iload_n hC dL_law_425 rfl 3 rfl ?_
  refine r_iconst hC dL_law_426 ic_2 ?_
  refine r_iadd hC dL_law_427 ?_
  refine r_sld hC hS (ix_in (k := 2) (by omega) hL) dL_law_428 ?_
  refine r_aload_n hC dL_law_429 rfl 0 rfl ?_
  refine r_iload_n hC dL_law_430 rfl 3 rfl ?_
  refine r_iconst hC dL_law_431 ic_3 ?_
  refine r_iadd hC dL_law_432 ?_
  refine r_sld hC hS (ix_in (k := 3) (by omega) hL) dL_law_433 ?_
  refine r_vi (st := []) hC (kX7_leg l D cy ad7 (pc7_lastFound s) (pc7_lastAsked s) (pc7_found s) (pc4_made s) (pc4_kinds s) (pc4_places s) (pc4_rates s) (pc4_readings s) (pc4_bearing s) (pc5_legs s) (pc5_length s) (pc5_ways s) (pc5_units s) (pc5_stuffOf s) (pc5_point s) (pc6_bytes s) (pc6_sizes s) (pc6_weights s) (pc3_size s) (pc3_rates s) (pc0_amounts s) (pc0_lows s) (pc0_highs s) (pc0_barred s) (pc1_lines s) (pc1_parts s) (pc2_above s) (pc2_below s) ((xs (nI j + 1).toNatClampNeg)) ((xs (nI j + 2).toNatClampNeg)) ((xs (nI j + 3).toNatClampNeg)) h7) gL_law_X7_leg rfl ⟨rfl, rfl⟩ ydX7_leg ⟨(Nat.le_of_ble_eq_true rfl), (Nat.le_of_ble_eq_true rfl)⟩ ⟨Nat.le_refl 52, Nat.le_refl 1789⟩ 0 rfl rfl [] (W8 cy ad8 t) rfl _ rfl (Nat.le_of_ble_eq_true rfl) dL_law_434 (W7 cy ad7 (mk7 (pc7_lastFound s) (pc7_lastAsked s) (pc7_found s) (pc4_made s) (pc4_kinds s) (pc4_places s) (pc4_rates s) (pc4_readings s) (pc4_bearing s) z5_legs z5_length z5_ways z5_units z5_stuffOf (pc5_point s) (pc6_bytes s) (pc6_sizes s) (pc6_weights s) (pc3_size s) (pc3_rates s) (pc0_amounts s) (pc0_lows s) (pc0_highs s) (pc0_barred s) (pc1_lines s) (pc1_parts s) (pc2_above s) (pc2_below s)) ++ W8 cy ad8 t) rfl ?_
  refine r_aload_n hC dL_law_437 rfl 2 rfl ?_
  refine r_aload_n hC dL_law_438 rfl 0 rfl ?_
  refine r_iload_n hC dL_law_439 rfl 3 rfl ?_
  refine r_iconst hC dL_law_440 ic_1 ?_
  refine r_iadd hC dL_law_441 ?_
  refine r_sld hC hS (ix_in (k := 1) (by omega) hL) dL_law_442 ?_
  refine r_aload_n hC dL_law_443 rfl 0 rfl ?_
  refine r_iload_n hC dL_law_444 rfl 3 rfl ?_
  refine r_iconst hC dL_law_445 ic_2 ?_
  refine r_iadd hC dL_law_446 ?_
  refine r_sld hC hS (ix_in (k := 2) (by omega) hL) dL_law_447 ?_
  refine r_aload_n hC dL_law_448 rfl 0 rfl ?_
  refine r_iload_n hC dL_law_449 rfl 3 rfl ?_
  refine r_iconst hC dL_law_450 ic_3 ?_
  refine r_iadd hC dL_law_451 ?_
  refine r_sld hC hS (ix_in (k := 3) (by omega) hL) dL_law_452 ?_
  refine r_vi (st := [.int r]) hC (kX8_leg l D cy ad8 (pc8_latest t) (pc8_asked t) (pc8_upper t) (pc8_lower t) (pc8_legs t) (pc8_units t) (pc8_rests t) (pc8_rates t) (pc8_lines t) (pc8_came t) (pc8_sizes t) (pc8_weights t) (pc8_growths t) (pc8_copied t) (pc8_legWay t) (pc8_legUnits t) (pc8_legStuff t) (pc8_unitWay t) (pc8_unitStuff t) (pc8_xs t) (pc8_ys t) (pc8_zs t) (pc8_kindOf t) (pc8_placeOf t) (pc8_rateOf t) (pc8_readOf t) (pc8_isGone t) (pc8_theList t) (pc8_amounts t) (pc8_low t) (pc8_high t) (pc8_barred t) (pc8_times t) (pc8_ranges t) ((xs (nI j + 1).toNatClampNeg)) ((xs (nI j + 2).toNatClampNeg)) ((xs (nI j + 3).toNatClampNeg)) N h8) gL_law_X8_leg rfl ⟨rfl, rfl⟩ ydX8_leg ⟨(Nat.le_of_ble_eq_true rfl), (Nat.le_of_ble_eq_true rfl)⟩ ⟨Nat.le_refl 52, Nat.le_refl 1789⟩ 0 rfl rfl (W7 cy ad7 (mk7 (pc7_lastFound s) (pc7_lastAsked s) (pc7_found s) (pc4_made s) (pc4_kinds s) (pc4_places s) (pc4_rates s) (pc4_readings s) (pc4_bearing s) z5_legs z5_length z5_ways z5_units z5_stuffOf (pc5_point s) (pc6_bytes s) (pc6_sizes s) (pc6_weights s) (pc3_size s) (pc3_rates s) (pc0_amounts s) (pc0_lows s) (pc0_highs s) (pc0_barred s) (pc1_lines s) (pc1_parts s) (pc2_above s) (pc2_below s))) [] rfl _ rfl (Nat.le_of_ble_eq_true rfl) dL_law_453 (W7 cy ad7 (mk7 (pc7_lastFound s) (pc7_lastAsked s) (pc7_found s) (pc4_made s) (pc4_kinds s) (pc4_places s) (pc4_rates s) (pc4_readings s) (pc4_bearing s) z5_legs z5_length z5_ways z5_units z5_stuffOf (pc5_point s) (pc6_bytes s) (pc6_sizes s) (pc6_weights s) (pc3_size s) (pc3_rates s) (pc0_amounts s) (pc0_lows s) (pc0_highs s) (pc0_barred s) (pc1_lines s) (pc1_parts s) (pc2_above s) (pc2_below s)) ++ W8 cy ad8 (mk8 (pc8_latest t) (pc8_asked t) (pc8_upper t) (pc8_lower t) z8_legs z8_units (pc8_rests t) (pc8_rates t) (pc8_lines t) (pc8_came t) (pc8_sizes t) (pc8_weights t) (pc8_growths t) (pc8_copied t) z8_legWay z8_legUnits z8_legStuff z8_unitWay z8_unitStuff z8_xs z8_ys z8_zs (pc8_kindOf t) (pc8_placeOf t) (pc8_rateOf t) (pc8_readOf t) (pc8_isGone t) (pc8_theList t) (pc8_amounts t) (pc8_low t) (pc8_high t) (pc8_barred t) (pc8_times t) (pc8_ranges t))) rfl ?_
  refine r_icmp_eq (tgt := 1353) hC dL_law_456 (by decide) (fun _ => ?_) (fun c => absurd rfl c)
  exact next _ _ hR1
set_option maxHeartbeats 8000000 in
set_option maxRecDepth 100000 in
theorem law_cut (X : CX) (l : Launch) (D : va_G) (cy : Nat → ClassId) (ad7 ad8 : Nat → Nat) (N : Nat) (Rel : S7 → S8 → Prop) (b L : Nat) (xs : Nat → Int32) (hC : OK X l D cy room_1 code 4 wsL_law RL) (hS : SC X b L xs) (hZ : ZL X.2.2.2.2.1) (j : Nat) (hj : j + 6 ≤ L) (hL : L ≤ 3072) (s : S7) (t : S8) (hR : Rel s t) (hop : op_cut N Rel) (next : ∀ (s : S7) (t : S8), Rel s t → GG X 4 52 1789 (W7 cy ad7 s ++ W8 cy ad8 t) [(0, .ref b), (1, .ref (ad7 70)), (2, .ref (ad8 80)), (3, .int (nI j))] 1353 []) : GG X 4 52 1789 (W7 cy ad7 s ++ W8 cy ad8 t) [(0, .ref b), (1, .ref (ad7 70)), (2, .ref (ad8 80)), (3, .int (nI j))] 461 [] := by
  obtain ⟨r, z5_legs, z5_length, z8_legs, z8_units, z8_unitWay, z8_unitStuff, z8_xs, z8_ys, z8_zs, h7, h8, hR1⟩ := hop s t hR
  refine r_aload_n hC dL_law_461 rfl 1 rfl ?_
  refine r_vi (st := []) hC (kX7_cut l D cy ad7 (pc7_lastFound s) (pc7_lastAsked s) (pc7_found s) (pc4_made s) (pc4_kinds s) (pc4_places s) (pc4_rates s) (pc4_readings s) (pc4_bearing s) (pc5_legs s) (pc5_length s) (pc5_ways s) (pc5_units s) (pc5_stuffOf s) (pc5_point s) (pc6_bytes s) (pc6_sizes s) (pc6_weights s) (pc3_size s) (pc3_rates s) (pc0_amounts s) (pc0_lows s) (pc0_highs s) (pc0_barred s) (pc1_lines s) (pc1_parts s) (pc2_above s) (pc2_below s)  h7) gL_law_X7_cut rfl ⟨rfl, rfl⟩ ydX7_cut ⟨(Nat.le_of_ble_eq_true rfl), (Nat.le_of_ble_eq_true rfl)⟩ ⟨Nat.le_refl 52, Nat.le_refl 1789⟩ 0 rfl rfl [] (W8 cy ad8 t) rfl _ rfl (Nat.le_of_ble_eq_true rfl) dL_law_462 (W7 cy ad7 (mk7 (pc7_lastFound s) (pc7_lastAsked s) (pc7_found s) (pc4_made s) (pc4_kinds s) (pc4_places s) (pc4_rates s) (pc4_readings s) (pc4_bearing s) z5_legs z5_length (pc5_ways s) (pc5_units s) (pc5_stuffOf s) (pc5_point s) (pc6_bytes s) (pc6_sizes s) (pc6_weights s) (pc3_size s) (pc3_rates s) (pc0_amounts s) (pc0_lows s) (pc0_highs s) (pc0_barred s) (pc1_lines s) (pc1_parts s) (pc2_above s) (pc2_below s)) ++ W8 cy ad8 t) rfl ?_
  refine r_aload_n hC dL_law_465 rfl 2 rfl ?_
  refine r_vi (st := [.int r]) hC (kX8_cut l D cy ad8 (pc8_latest t) (pc8_asked t) (pc8_upper t) (pc8_lower t) (pc8_legs t) (pc8_units t) (pc8_rests t) (pc8_rates t) (pc8_lines t) (pc8_came t) (pc8_sizes t) (pc8_weights t) (pc8_growths t) (pc8_copied t) (pc8_legWay t) (pc8_legUnits t) (pc8_legStuff t) (pc8_unitWay t) (pc8_unitStuff t) (pc8_xs t) (pc8_ys t) (pc8_zs t) (pc8_kindOf t) (pc8_placeOf t) (pc8_rateOf t) (pc8_readOf t) (pc8_isGone t) (pc8_theList t) (pc8_amounts t) (pc8_low t) (pc8_high t) (pc8_barred t) (pc8_times t) (pc8_ranges t)  N h8) gL_law_X8_cut rfl ⟨rfl, rfl⟩ ydX8_cut ⟨(Nat.le_of_ble_eq_true rfl), (Nat.le_of_ble_eq_true rfl)⟩ ⟨Nat.le_refl 52, Nat.le_refl 1789⟩ 0 rfl rfl (W7 cy ad7 (mk7 (pc7_lastFound s) (pc7_lastAsked s) (pc7_found s) (pc4_made s) (pc4_kinds s) (pc4_places s) (pc4_rates s) (pc4_readings s) (pc4_bearing s) z5_legs z5_length (pc5_ways s) (pc5_units s) (pc5_stuffOf s) (pc5_point s) (pc6_bytes s) (pc6_sizes s) (pc6_weights s) (pc3_size s) (pc3_rates s) (pc0_amounts s) (pc0_lows s) (pc0_highs s) (pc0_barred s) (pc1_lines s) (pc1_parts s) (pc2_above s) (pc2_below s))) [] rfl _ rfl (Nat.le_of_ble_eq_true rfl) dL_law_466 (W7 cy ad7 (mk7 (pc7_lastFound s) (pc7_lastAsked s) (pc7_found s) (pc4_made s) (pc4_kinds s) (pc4_places s) (pc4_rates s) (pc4_readings s) (pc4_bearing s) z5_legs z5_length (pc5_ways s) (pc5_units s) (pc5_stuffOf s) (pc5_point s) (pc6_bytes s) (pc6_sizes s) (pc6_weights s) (pc3_size s) (pc3_rates s) (pc0_amounts s) (pc0_lows s) (pc0_highs s) (pc0_barred s) (pc1_lines s) (pc1_parts s) (pc2_above s) (pc2_below s)) ++ W8 cy ad8 (mk8 (pc8_latest t) (pc8_asked t) (pc8_upper t) (pc8_lower t) z8_legs z8_units (pc8_rests t) (pc8_rates t) (pc8_lines t) (pc8_came t) (pc8_sizes t) (pc8_weights t) (pc8_growths t) (pc8_copied t) (pc8_legWay t) (pc8_legUnits t) (pc8_legStuff t) z8_unitWay z8_unitStuff z8_xs z8_ys z8_zs (pc8_kindOf t) (pc8_placeOf t) (pc8_rateOf t) (pc8_readOf t) (pc8_isGone t) (pc8_theList t) (pc8_amounts t) (pc8_low t) (pc8_high t) (pc8_barred t) (pc8_times t) (pc8_ranges t))) rfl ?_
  refine r_icmp_eq (tgt := 1353) hC dL_law_469 (by decide) (fun _ => ?_) (fun c => absurd rfl c)
  exact next _ _ hR1
set_option maxHeartbeats 8000000 in
set_option maxRecDepth 100000 in
theorem law_where (X : CX) (l : Launch) (D : va_G) (cy : Nat → ClassId) (ad7 ad8 : Nat → Nat) (N : Nat) (Rel : S7 → S8 → Prop) (b L : Nat) (xs : Nat → Int32) (hC : OK X l D cy room_1 code 4 wsL_law RL) (hS : SC X b L xs) (hZ : ZL X.2.2.2.2.1) (j : Nat) (hj : j + 6 ≤ L) (hL : L ≤ 3072) (s : S7) (t : S8) (hR : Rel s t) (hop : op_where N Rel) (next : ∀ (s : S7) (t : S8), Rel s t → GG X 4 52 1789 (W7 cy ad7 s ++ W8 cy ad8 t) [(0, .ref b), (1, .ref (ad7 70)), (2, .ref (ad8 80)), (3, .int (nI j))] 1353 []) : GG X 4 52 1789 (W7 cy ad7 s ++ W8 cy ad8 t) [(0, .ref b), (1, .ref (ad7 70)), (2, .ref (ad8 80)), (3, .int (nI j))] 474 [] := by
  obtain ⟨r, z7_lastAsked, z8_asked, h7, h8, hR1⟩ := hop s t hR ((xs (nI j + 1).toNatClampNeg)) ((xs (nI j + 2).toNatClampNeg))
  refine r_aload_n hC dL_law_474 rfl 1 rfl ?_
  refine r_aload_n hC dL_law_475 rfl 0 rfl ?_
  refine r_iload_n hC dL_law_476 rfl 3 rfl ?_
  refine r_iconst hC dL_law_477 ic_1 ?_
  refine r_iadd hC dL_law_478 ?_
  refine r_sld hC hS (ix_in (k := 1) (by omega) hL) dL_law_479 ?_
  refine r_aload_n hC dL_law_480 rfl 0 rfl ?_
  refine r_iload_n hC dL_law_481 rfl 3 rfl ?_
  refine r_iconst hC dL_law_482 ic_2 ?_
  refine r_iadd hC dL_law_483 ?_
  refine r_sld hC hS (ix_in (k := 2) (by omega) hL) dL_law_484 ?_
  refine r_vi (st := []) hC (kX7_where l D cy ad7 (pc7_lastFound s) (pc7_lastAsked s) (pc7_found s) (pc4_made s) (pc4_kinds s) (pc4_places s) (pc4_rates s) (pc4_readings s) (pc4_bearing s) (pc5_legs s) (pc5_length s) (pc5_ways s) (pc5_units s) (pc5_stuffOf s) (pc5_point s) (pc6_bytes s) (pc6_sizes s) (pc6_weights s) (pc3_size s) (pc3_rates s) (pc0_amounts s) (pc0_lows s) (pc0_highs s) (pc0_barred s) (pc1_lines s) (pc1_parts s) (pc2_above s) (pc2_below s) ((xs (nI j + 1).toNatClampNeg)) ((xs (nI j + 2).toNatClampNeg)) N h7) gL_law_X7_where rfl ⟨rfl, rfl⟩ ydX7_where ⟨(Nat.le_of_ble_eq_true rfl), (Nat.le_of_ble_eq_true rfl)⟩ ⟨Nat.le_refl 52, Nat.le_refl 1789⟩ 0 rfl rfl [] (W8 cy ad8 t) rfl _ rfl (Nat.le_of_ble_eq_true rfl) dL_law_485 (W7 cy ad7 (mk7 (pc7_lastFound s) z7_lastAsked (pc7_found s) (pc4_made s) (pc4_kinds s) (pc4_places s) (pc4_rates s) (pc4_readings s) (pc4_bearing s) (pc5_legs s) (pc5_length s) (pc5_ways s) (pc5_units s) (pc5_stuffOf s) (pc5_point s) (pc6_bytes s) (pc6_sizes s) (pc6_weights s) (pc3_size s) (pc3_rates s) (pc0_amounts s) (pc0_lows s) (pc0_highs s) (pc0_barred s) (pc1_lines s) (pc1_parts s) (pc2_above s) (pc2_below s)) ++ W8 cy ad8 t) rfl ?_
  refine r_aload_n hC dL_law_488 rfl 2 rfl ?_
  refine r_aload_n hC dL_law_489 rfl 0 rfl ?_
  refine r_iload_n hC dL_law_490 rfl 3 rfl ?_
  refine r_iconst hC dL_law_491 ic_1 ?_
  refine r_iadd hC dL_law_492 ?_
  refine r_sld hC hS (ix_in (k := 1) (by omega) hL) dL_law_493 ?_
  refine r_aload_n hC dL_law_494 rfl 0 rfl ?_
  refine r_iload_n hC dL_law_495 rfl 3 rfl ?_
  refine r_iconst hC dL_law_496 ic_2 ?_
  refine r_iadd hC dL_law_497 ?_
  refine r_sld hC hS (ix_in (k := 2) (by omega) hL) dL_law_498 ?_
  refine r_vi (st := [.int r]) hC (kX8_where l D cy ad8 (pc8_latest t) (pc8_asked t) (pc8_upper t) (pc8_lower t) (pc8_legs t) (pc8_units t) (pc8_rests t) (pc8_rates t) (pc8_lines t) (pc8_came t) (pc8_sizes t) (pc8_weights t) (pc8_growths t) (pc8_copied t) (pc8_legWay t) (pc8_legUnits t) (pc8_legStuff t) (pc8_unitWay t) (pc8_unitStuff t) (pc8_xs t) (pc8_ys t) (pc8_zs t) (pc8_kindOf t) (pc8_placeOf t) (pc8_rateOf t) (pc8_readOf t) (pc8_isGone t) (pc8_theList t) (pc8_amounts t) (pc8_low t) (pc8_high t) (pc8_barred t) (pc8_times t) (pc8_ranges t) ((xs (nI j + 1).toNatClampNeg)) ((xs (nI j + 2).toNatClampNeg)) h8) gL_law_X8_where rfl ⟨rfl, rfl⟩ ydX8_where ⟨(Nat.le_of_ble_eq_true rfl), (Nat.le_of_ble_eq_true rfl)⟩ ⟨Nat.le_refl 52, Nat.le_refl 1789⟩ 0 rfl rfl (W7 cy ad7 (mk7 (pc7_lastFound s) z7_lastAsked (pc7_found s) (pc4_made s) (pc4_kinds s) (pc4_places s) (pc4_rates s) (pc4_readings s) (pc4_bearing s) (pc5_legs s) (pc5_length s) (pc5_ways s) (pc5_units s) (pc5_stuffOf s) (pc5_point s) (pc6_bytes s) (pc6_sizes s) (pc6_weights s) (pc3_size s) (pc3_rates s) (pc0_amounts s) (pc0_lows s) (pc0_highs s) (pc0_barred s) (pc1_lines s) (pc1_parts s) (pc2_above s) (pc2_below s))) [] rfl _ rfl (Nat.le_of_ble_eq_true rfl) dL_law_499 (W7 cy ad7 (mk7 (pc7_lastFound s) z7_lastAsked (pc7_found s) (pc4_made s) (pc4_kinds s) (pc4_places s) (pc4_rates s) (pc4_readings s) (pc4_bearing s) (pc5_legs s) (pc5_length s) (pc5_ways s) (pc5_units s) (pc5_stuffOf s) (pc5_point s) (pc6_bytes s) (pc6_sizes s) (pc6_weights s) (pc3_size s) (pc3_rates s) (pc0_amounts s) (pc0_lows s) (pc0_highs s) (pc0_barred s) (pc1_lines s) (pc1_parts s) (pc2_above s) (pc2_below s)) ++ W8 cy ad8 (mk8 (pc8_latest t) z8_asked (pc8_upper t) (pc8_lower t) (pc8_legs t) (pc8_units t) (pc8_rests t) (pc8_rates t) (pc8_lines t) (pc8_came t) (pc8_sizes t) (pc8_weights t) (pc8_growths t) (pc8_copied t) (pc8_legWay t) (pc8_legUnits t) (pc8_legStuff t) (pc8_unitWay t) (pc8_unitStuff t) (pc8_xs t) (pc8_ys t) (pc8_zs t) (pc8_kindOf t) (pc8_placeOf t) (pc8_rateOf t) (pc8_readOf t) (pc8_isGone t) (pc8_theList t) (pc8_amounts t) (pc8_low t) (pc8_high t) (pc8_barred t) (pc8_times t) (pc8_ranges t))) rfl ?_
  refine r_icmp_eq (tgt := 1353) hC dL_law_502 (by decide) (fun _ => ?_) (fun c => absurd rfl c)
  exact next _ _ hR1
set_option maxHeartbeats 8000000 in
set_option maxRecDepth 100000 in
theorem law_grown (X : CX) (l : Launch) (D : va_G) (cy : Nat → ClassId) (ad7 ad8 : Nat → Nat) (N : Nat) (Rel : S7 → S8 → Prop) (b L : Nat) (xs : Nat → Int32) (hC : OK X l D cy room_1 code 4 wsL_law RL) (hS : SC X b L xs) (hZ : ZL X.2.2.2.2.1) (j : Nat) (hj : j + 6 ≤ L) (hL : L ≤ 3072) (s : S7) (t : S8) (hR : Rel s t) (hop : op_grown N Rel) (next : ∀ (s : S7) (t : S8), Rel s t → GG X 4 52 1789 (W7 cy ad7 s ++ W8 cy ad8 t) [(0, .ref b), (1, .ref (ad7 70)), (2, .ref (ad8 80)), (3, .int (nI j))] 1353 []) : GG X 4 52 1789 (W7 cy ad7 s ++ W8 cy ad8 t) [(0, .ref b), (1, .ref (ad7 70)), (2, .ref (ad8 80)), (3, .int (nI j))] 507 [] := by
  obtain ⟨r, z7_lastAsked, z8_asked, h7, h8, hR1⟩ := hop s t hR ((xs (nI j + 1).toNatClampNeg)) ((xs (nI j + 2).toNatClampNeg))
  refine r_aload_n hC dL_law_507 rfl 1 rfl ?_
  refine r_aload_n hC dL_law_508 rfl 0 rfl ?_
  refine r_iload_n hC dL_law_509 rfl 3 rfl ?_
  refine r_iconst hC dL_law_510 ic_1 ?_
  refine r_iadd hC dL_law_511 ?_
  refine r_sld hC hS (ix_in (k := 1) (by omega) hL) dL_law_512 ?_
  refine r_aload_n hC dL_law_513 rfl 0 rfl ?_
  refine r_iload_n hC dL_law_514 rfl 3 rfl ?_
  refine r_iconst hC dL_law_515 ic_2 ?_
  refine r_iadd hC dL_law_516 ?_
  refine r_sld hC hS (ix_in (k := 2) (by omega) hL) dL_law_517 ?_
  refine r_vi (st := []) hC (kX7_grown l D cy ad7 (pc7_lastFound s) (pc7_lastAsked s) (pc7_found s) (pc4_made s) (pc4_kinds s) (pc4_places s) (pc4_rates s) (pc4_readings s) (pc4_bearing s) (pc5_legs s) (pc5_length s) (pc5_ways s) (pc5_units s) (pc5_stuffOf s) (pc5_point s) (pc6_bytes s) (pc6_sizes s) (pc6_weights s) (pc3_size s) (pc3_rates s) (pc0_amounts s) (pc0_lows s) (pc0_highs s) (pc0_barred s) (pc1_lines s) (pc1_parts s) (pc2_above s) (pc2_below s) ((xs (nI j + 1).toNatClampNeg)) ((xs (nI j + 2).toNatClampNeg)) N h7) gL_law_X7_grown rfl ⟨rfl, rfl⟩ ydX7_grown ⟨(Nat.le_of_ble_eq_true rfl), (Nat.le_of_ble_eq_true rfl)⟩ ⟨Nat.le_refl 52, Nat.le_refl 1789⟩ 0 rfl rfl [] (W8 cy ad8 t) rfl _ rfl (Nat.le_of_ble_eq_true rfl) dL_law_518 (W7 cy ad7 (mk7 (pc7_lastFound s) z7_lastAsked (pc7_found s) (pc4_made s) (pc4_kinds s) (pc4_places s) (pc4_rates s) (pc4_readings s) (pc4_bearing s) (pc5_legs s) (pc5_length s) (pc5_ways s) (pc5_units s) (pc5_stuffOf s) (pc5_point s) (pc6_bytes s) (pc6_sizes s) (pc6_weights s) (pc3_size s) (pc3_rates s) (pc0_amounts s) (pc0_lows s) (pc0_highs s) (pc0_barred s) (pc1_lines s) (pc1_parts s) (pc2_above s) (pc2_below s)) ++ W8 cy ad8 t) rfl ?_
  refine r_aload_n hC dL_law_521 rfl 2 rfl ?_
  refine r_aload_n hC dL_law_522 rfl 0 rfl ?_
  refine r_iload_n hC dL_law_523 rfl 3 rfl ?_
  refine r_iconst hC dL_law_524 ic_1 ?_
  refine r_iadd hC dL_law_525 ?_
  refine r_sld hC hS (ix_in (k := 1) (by omega) hL) dL_law_526 ?_
  refine r_aload_n hC dL_law_527 rfl 0 rfl ?_
  refine r_iload_n hC dL_law_528 rfl 3 rfl ?_
  refine r_iconst hC dL_law_529 ic_2 ?_
  refine r_iadd hC dL_law_530 ?_
  refine r_sld hC hS (ix_in (k := 2) (by omega) hL) dL_law_531 ?_
  refine r_vi (st := [.int r]) hC (kX8_grown l D cy ad8 (pc8_latest t) (pc8_asked t) (pc8_upper t) (pc8_lower t) (pc8_legs t) (pc8_units t) (pc8_rests t) (pc8_rates t) (pc8_lines t) (pc8_came t) (pc8_sizes t) (pc8_weights t) (pc8_growths t) (pc8_copied t) (pc8_legWay t) (pc8_legUnits t) (pc8_legStuff t) (pc8_unitWay t) (pc8_unitStuff t) (pc8_xs t) (pc8_ys t) (pc8_zs t) (pc8_kindOf t) (pc8_placeOf t) (pc8_rateOf t) (pc8_readOf t) (pc8_isGone t) (pc8_theList t) (pc8_amounts t) (pc8_low t) (pc8_high t) (pc8_barred t) (pc8_times t) (pc8_ranges t) ((xs (nI j + 1).toNatClampNeg)) ((xs (nI j + 2).toNatClampNeg)) N h8) gL_law_X8_grown rfl ⟨rfl, rfl⟩ ydX8_grown ⟨(Nat.le_of_ble_eq_true rfl), (Nat.le_of_ble_eq_true rfl)⟩ ⟨Nat.le_refl 52, Nat.le_refl 1789⟩ 0 rfl rfl (W7 cy ad7 (mk7 (pc7_lastFound s) z7_lastAsked (pc7_found s) (pc4_made s) (pc4_kinds s) (pc4_places s) (pc4_rates s) (pc4_readings s) (pc4_bearing s) (pc5_legs s) (pc5_length s) (pc5_ways s) (pc5_units s) (pc5_stuffOf s) (pc5_point s) (pc6_bytes s) (pc6_sizes s) (pc6_weights s) (pc3_size s) (pc3_rates s) (pc0_amounts s) (pc0_lows s) (pc0_highs s) (pc0_barred s) (pc1_lines s) (pc1_parts s) (pc2_above s) (pc2_below s))) [] rfl _ rfl (Nat.le_of_ble_eq_true rfl) dL_law_532 (W7 cy ad7 (mk7 (pc7_lastFound s) z7_lastAsked (pc7_found s) (pc4_made s) (pc4_kinds s) (pc4_places s) (pc4_rates s) (pc4_readings s) (pc4_bearing s) (pc5_legs s) (pc5_length s) (pc5_ways s) (pc5_units s) (pc5_stuffOf s) (pc5_point s) (pc6_bytes s) (pc6_sizes s) (pc6_weights s) (pc3_size s) (pc3_rates s) (pc0_amounts s) (pc0_lows s) (pc0_highs s) (pc0_barred s) (pc1_lines s) (pc1_parts s) (pc2_above s) (pc2_below s)) ++ W8 cy ad8 (mk8 (pc8_latest t) z8_asked (pc8_upper t) (pc8_lower t) (pc8_legs t) (pc8_units t) (pc8_rests t) (pc8_rates t) (pc8_lines t) (pc8_came t) (pc8_sizes t) (pc8_weights t) (pc8_growths t) (pc8_copied t) (pc8_legWay t) (pc8_legUnits t) (pc8_legStuff t) (pc8_unitWay t) (pc8_unitStuff t) (pc8_xs t) (pc8_ys t) (pc8_zs t) (pc8_kindOf t) (pc8_placeOf t) (pc8_rateOf t) (pc8_readOf t) (pc8_isGone t) (pc8_theList t) (pc8_amounts t) (pc8_low t) (pc8_high t) (pc8_barred t) (pc8_times t) (pc8_ranges t))) rfl ?_
  refine r_icmp_eq (tgt := 1353) hC dL_law_535 (by decide) (fun _ => ?_) (fun c => absurd rfl c)
  exact next _ _ hR1
set_option maxHeartbeats 8000000 in
set_option maxRecDepth 100000 in
theorem law_move (X : CX) (l : Launch) (D : va_G) (cy : Nat → ClassId) (ad7 ad8 : Nat → Nat) (N : Nat) (Rel : S7 → S8 → Prop) (b L : Nat) (xs : Nat → Int32) (hC : OK X l D cy room_1 code 4 wsL_law RL) (hS : SC X b L xs) (hZ : ZL X.2.2.2.2.1) (j : Nat) (hj : j + 6 ≤ L) (hL : L ≤ 3072) (s : S7) (t : S8) (hR : Rel s t) (hop : op_move N Rel) (next : ∀ (s : S7) (t : S8), Rel s t → GG X 4 52 1789 (W7 cy ad7 s ++ W8 cy ad8 t) [(0, .ref b), (1, .ref (ad7 70)), (2, .ref (ad8 80)), (3, .int (nI j))] 1353 []) : GG X 4 52 1789 (W7 cy ad7 s ++ W8 cy ad8 t) [(0, .ref b), (1, .ref (ad7 70)), (2, .ref (ad8 80)), (3, .int (nI j))] 540 [] := by
  obtain ⟨r, z7_lastAsked, z8_asked, h7, h8, hR1⟩ := hop s t hR ((xs (nI j + 1).toNatClampNeg)) ((xs (nI j + 2).toNatClampNeg))
  refine r_aload_n hC dL_law_540 rfl 1 rfl ?_
  refine r_aload_n hC dL_law_541 rfl 0 rfl ?_
  refine r_iload_n hC dL_law_542 rfl 3 rfl ?_
  refine r_iconst hC dL_law_543 ic_1 ?_
  refine r_iadd hC dL_law_544 ?_
  refine r_sld hC hS (ix_in (k := 1) (by omega) hL) dL_law_545 ?_
  refine r_aload_n hC dL_law_546 rfl 0 rfl ?_
  refine r_iload_n hC dL_law_547 rfl 3 rfl ?_
  refine r_iconst hC dL_law_548 ic_2 ?_
  refine r_iadd hC dL_law_549 ?_
  refine r_sld hC hS (ix_in (k := 2) (by omega) hL) dL_law_550 ?_
  refine r_vi (st := []) hC (kX7_move l D cy ad7 (pc7_lastFound s) (pc7_lastAsked s) (pc7_found s) (pc4_made s) (pc4_kinds s) (pc4_places s) (pc4_rates s) (pc4_readings s) (pc4_bearing s) (pc5_legs s) (pc5_length s) (pc5_ways s) (pc5_units s) (pc5_stuffOf s) (pc5_point s) (pc6_bytes s) (pc6_sizes s) (pc6_weights s) (pc3_size s) (pc3_rates s) (pc0_amounts s) (pc0_lows s) (pc0_highs s) (pc0_barred s) (pc1_lines s) (pc1_parts s) (pc2_above s) (pc2_below s) ((xs (nI j + 1).toNatClampNeg)) ((xs (nI j + 2).toNatClampNeg)) N h7) gL_law_X7_move rfl ⟨rfl, rfl⟩ ydX7_move ⟨(Nat.le_of_ble_eq_true rfl), (Nat.le_of_ble_eq_true rfl)⟩ ⟨Nat.le_refl 52, Nat.le_refl 1789⟩ 0 rfl rfl [] (W8 cy ad8 t) rfl _ rfl (Nat.le_of_ble_eq_true rfl) dL_law_551 (W7 cy ad7 (mk7 (pc7_lastFound s) z7_lastAsked (pc7_found s) (pc4_made s) (pc4_kinds s) (pc4_places s) (pc4_rates s) (pc4_readings s) (pc4_bearing s) (pc5_legs s) (pc5_length s) (pc5_ways s) (pc5_units s) (pc5_stuffOf s) (pc5_point s) (pc6_bytes s) (pc6_sizes s) (pc6_weights s) (pc3_size s) (pc3_rates s) (pc0_amounts s) (pc0_lows s) (pc0_highs s) (pc0_barred s) (pc1_lines s) (pc1_parts s) (pc2_above s) (pc2_below s)) ++ W8 cy ad8 t) rfl ?_
  refine r_aload_n hC dL_law_554 rfl 2 rfl ?_
  refine r_aload_n hC dL_law_555 rfl 0 rfl ?_
  refine r_iload_n hC dL_law_556 rfl 3 rfl ?_
  refine r_iconst hC dL_law_557 ic_1 ?_
  refine r_iadd hC dL_law_558 ?_
  refine r_sld hC hS (ix_in (k := 1) (by omega) hL) dL_law_559 ?_
  refine r_aload_n hC dL_law_560 rfl 0 rfl ?_
  refine r_iload_n hC dL_law_561 rfl 3 rfl ?_
  refine r_iconst hC dL_law_562 ic_2 ?_
  refine r_iadd hC dL_law_563 ?_
  refine r_sld hC hS (ix_in (k := 2) (by omega) hL) dL_law_564 ?_
  refine r_vi (st := [.int r]) hC (kX8_move l D cy ad8 (pc8_latest t) (pc8_asked t) (pc8_upper t) (pc8_lower t) (pc8_legs t) (pc8_units t) (pc8_rests t) (pc8_rates t) (pc8_lines t) (pc8_came t) (pc8_sizes t) (pc8_weights t) (pc8_growths t) (pc8_copied t) (pc8_legWay t) (pc8_legUnits t) (pc8_legStuff t) (pc8_unitWay t) (pc8_unitStuff t) (pc8_xs t) (pc8_ys t) (pc8_zs t) (pc8_kindOf t) (pc8_placeOf t) (pc8_rateOf t) (pc8_readOf t) (pc8_isGone t) (pc8_theList t) (pc8_amounts t) (pc8_low t) (pc8_high t) (pc8_barred t) (pc8_times t) (pc8_ranges t) ((xs (nI j + 1).toNatClampNeg)) ((xs (nI j + 2).toNatClampNeg)) N h8) gL_law_X8_move rfl ⟨rfl, rfl⟩ ydX8_move ⟨(Nat.le_of_ble_eq_true rfl), (Nat.le_of_ble_eq_true rfl)⟩ ⟨Nat.le_refl 52, Nat.le_refl 1789⟩ 0 rfl rfl (W7 cy ad7 (mk7 (pc7_lastFound s) z7_lastAsked (pc7_found s) (pc4_made s) (pc4_kinds s) (pc4_places s) (pc4_rates s) (pc4_readings s) (pc4_bearing s) (pc5_legs s) (pc5_length s) (pc5_ways s) (pc5_units s) (pc5_stuffOf s) (pc5_point s) (pc6_bytes s) (pc6_sizes s) (pc6_weights s) (pc3_size s) (pc3_rates s) (pc0_amounts s) (pc0_lows s) (pc0_highs s) (pc0_barred s) (pc1_lines s) (pc1_parts s) (pc2_above s) (pc2_below s))) [] rfl _ rfl (Nat.le_of_ble_eq_true rfl) dL_law_565 (W7 cy ad7 (mk7 (pc7_lastFound s) z7_lastAsked (pc7_found s) (pc4_made s) (pc4_kinds s) (pc4_places s) (pc4_rates s) (pc4_readings s) (pc4_bearing s) (pc5_legs s) (pc5_length s) (pc5_ways s) (pc5_units s) (pc5_stuffOf s) (pc5_point s) (pc6_bytes s) (pc6_sizes s) (pc6_weights s) (pc3_size s) (pc3_rates s) (pc0_amounts s) (pc0_lows s) (pc0_highs s) (pc0_barred s) (pc1_lines s) (pc1_parts s) (pc2_above s) (pc2_below s)) ++ W8 cy ad8 (mk8 (pc8_latest t) z8_asked (pc8_upper t) (pc8_lower t) (pc8_legs t) (pc8_units t) (pc8_rests t) (pc8_rates t) (pc8_lines t) (pc8_came t) (pc8_sizes t) (pc8_weights t) (pc8_growths t) (pc8_copied t) (pc8_legWay t) (pc8_legUnits t) (pc8_legStuff t) (pc8_unitWay t) (pc8_unitStuff t) (pc8_xs t) (pc8_ys t) (pc8_zs t) (pc8_kindOf t) (pc8_placeOf t) (pc8_rateOf t) (pc8_readOf t) (pc8_isGone t) (pc8_theList t) (pc8_amounts t) (pc8_low t) (pc8_high t) (pc8_barred t) (pc8_times t) (pc8_ranges t))) rfl ?_
  refine r_icmp_eq (tgt := 1353) hC dL_law_568 (by decide) (fun _ => ?_) (fun c => absurd rfl c)
  exact next _ _ hR1
set_option maxHeartbeats 8000000 in
set_option maxRecDepth 100000 in
theorem law_soft (X : CX) (l : Launch) (D : va_G) (cy : Nat → ClassId) (ad7 ad8 : Nat → Nat) (N : Nat) (Rel : S7 → S8 → Prop) (b L : Nat) (xs : Nat → Int32) (hC : OK X l D cy room_1 code 4 wsL_law RL) (hS : SC X b L xs) (hZ : ZL X.2.2.2.2.1) (j : Nat) (hj : j + 6 ≤ L) (hL : L ≤ 3072) (s : S7) (t : S8) (hR : Rel s t) (hop : op_soft N Rel) (next : ∀ (s : S7) (t : S8), Rel s t → GG X 4 52 1789 (W7 cy ad7 s ++ W8 cy ad8 t) [(0, .ref b), (1, .ref (ad7 70)), (2, .ref (ad8 80)), (3, .int (nI j))] 1353 []) : GG X 4 52 1789 (W7 cy ad7 s ++ W8 cy ad8 t) [(0, .ref b), (1, .ref (ad7 70)), (2, .ref (ad8 80)), (3, .int (nI j))] 573 [] := by
  obtain ⟨r, z7_lastAsked, z8_asked, h7, h8, hR1⟩ := hop s t hR ((xs (nI j + 1).toNatClampNeg)) ((xs (nI j + 2).toNatClampNeg))
  refine r_aload_n hC dL_law_573 rfl 1 rfl ?_
  refine r_aload_n hC dL_law_574 rfl 0 rfl ?_
  refine r_iload_n hC dL_law_575 rfl 3 rfl ?_
  refine r_iconst hC dL_law_576 ic_1 ?_
  refine r_iadd hC dL_law_577 ?_
  refine r_sld hC hS (ix_in (k := 1) (by omega) hL) dL_law_578 ?_
  refine r_aload_n hC dL_law_579 rfl 0 rfl ?_
  refine r_iload_n hC dL_law_580 rfl 3 rfl ?_
  refine r_iconst hC dL_law_581 ic_2 ?_
  refine r_iadd hC dL_law_582 ?_
  refine r_sld hC hS (ix_in (k := 2) (by omega) hL) dL_law_583 ?_
  refine r_vi (st := []) hC (kX7_soft l D cy ad7 (pc7_lastFound s) (pc7_lastAsked s) (pc7_found s) (pc4_made s) (pc4_kinds s) (pc4_places s) (pc4_rates s) (pc4_readings s) (pc4_bearing s) (pc5_legs s) (pc5_length s) (pc5_ways s) (pc5_units s) (pc5_stuffOf s) (pc5_point s) (pc6_bytes s) (pc6_sizes s) (pc6_weights s) (pc3_size s) (pc3_rates s) (pc0_amounts s) (pc0_lows s) (pc0_highs s) (pc0_barred s) (pc1_lines s) (pc1_parts s) (pc2_above s) (pc2_below s) ((xs (nI j + 1).toNatClampNeg)) ((xs (nI j + 2).toNatClampNeg)) N h7) gL_law_X7_soft rfl ⟨rfl, rfl⟩ ydX7_soft ⟨(Nat.le_of_ble_eq_true rfl), (Nat.le_of_ble_eq_true rfl)⟩ ⟨Nat.le_refl 52, Nat.le_refl 1789⟩ 0 rfl rfl [] (W8 cy ad8 t) rfl _ rfl (Nat.le_of_ble_eq_true rfl) dL_law_584 (W7 cy ad7 (mk7 (pc7_lastFound s) z7_lastAsked (pc7_found s) (pc4_made s) (pc4_kinds s) (pc4_places s) (pc4_rates s) (pc4_readings s) (pc4_bearing s) (pc5_legs s) (pc5_length s) (pc5_ways s) (pc5_units s) (pc5_stuffOf s) (pc5_point s) (pc6_bytes s) (pc6_sizes s) (pc6_weights s) (pc3_size s) (pc3_rates s) (pc0_amounts s) (pc0_lows s) (pc0_highs s) (pc0_barred s) (pc1_lines s) (pc1_parts s) (pc2_above s) (pc2_below s)) ++ W8 cy ad8 t) rfl ?_
  refine r_aload_n hC dL_law_587 rfl 2 rfl ?_
  refine r_aload_n hC dL_law_588 rfl 0 rfl ?_
  refine r_iload_n hC dL_law_589 rfl 3 rfl ?_
  refine r_iconst hC dL_law_590 ic_1 ?_
  refine r_iadd hC dL_law_591 ?_
  refine r_sld hC hS (ix_in (k := 1) (by omega) hL) dL_law_592 ?_
  refine r_aload_n hC dL_law_593 rfl 0 rfl ?_
  refine r_iload_n hC dL_law_594 rfl 3 rfl ?_
  refine r_iconst hC dL_law_595 ic_2 ?_
  refine r_iadd hC dL_law_596 ?_
  refine r_sld hC hS (ix_in (k := 2) (by omega) hL) dL_law_597 ?_
  refine r_vi (st := [.int r]) hC (kX8_soft l D cy ad8 (pc8_latest t) (pc8_asked t) (pc8_upper t) (pc8_lower t) (pc8_legs t) (pc8_units t) (pc8_rests t) (pc8_rates t) (pc8_lines t) (pc8_came t) (pc8_sizes t) (pc8_weights t) (pc8_growths t) (pc8_copied t) (pc8_legWay t) (pc8_legUnits t) (pc8_legStuff t) (pc8_unitWay t) (pc8_unitStuff t) (pc8_xs t) (pc8_ys t) (pc8_zs t) (pc8_kindOf t) (pc8_placeOf t) (pc8_rateOf t) (pc8_readOf t) (pc8_isGone t) (pc8_theList t) (pc8_amounts t) (pc8_low t) (pc8_high t) (pc8_barred t) (pc8_times t) (pc8_ranges t) ((xs (nI j + 1).toNatClampNeg)) ((xs (nI j + 2).toNatClampNeg)) N h8) gL_law_X8_soft rfl ⟨rfl, rfl⟩ ydX8_soft ⟨(Nat.le_of_ble_eq_true rfl), (Nat.le_of_ble_eq_true rfl)⟩ ⟨Nat.le_refl 52, Nat.le_refl 1789⟩ 0 rfl rfl (W7 cy ad7 (mk7 (pc7_lastFound s) z7_lastAsked (pc7_found s) (pc4_made s) (pc4_kinds s) (pc4_places s) (pc4_rates s) (pc4_readings s) (pc4_bearing s) (pc5_legs s) (pc5_length s) (pc5_ways s) (pc5_units s) (pc5_stuffOf s) (pc5_point s) (pc6_bytes s) (pc6_sizes s) (pc6_weights s) (pc3_size s) (pc3_rates s) (pc0_amounts s) (pc0_lows s) (pc0_highs s) (pc0_barred s) (pc1_lines s) (pc1_parts s) (pc2_above s) (pc2_below s))) [] rfl _ rfl (Nat.le_of_ble_eq_true rfl) dL_law_598 (W7 cy ad7 (mk7 (pc7_lastFound s) z7_lastAsked (pc7_found s) (pc4_made s) (pc4_kinds s) (pc4_places s) (pc4_rates s) (pc4_readings s) (pc4_bearing s) (pc5_legs s) (pc5_length s) (pc5_ways s) (pc5_units s) (pc5_stuffOf s) (pc5_point s) (pc6_bytes s) (pc6_sizes s) (pc6_weights s) (pc3_size s) (pc3_rates s) (pc0_amounts s) (pc0_lows s) (pc0_highs s) (pc0_barred s) (pc1_lines s) (pc1_parts s) (pc2_above s) (pc2_below s)) ++ W8 cy ad8 (mk8 (pc8_latest t) z8_asked (pc8_upper t) (pc8_lower t) (pc8_legs t) (pc8_units t) (pc8_rests t) (pc8_rates t) (pc8_lines t) (pc8_came t) (pc8_sizes t) (pc8_weights t) (pc8_growths t) (pc8_copied t) (pc8_legWay t) (pc8_legUnits t) (pc8_legStuff t) (pc8_unitWay t) (pc8_unitStuff t) (pc8_xs t) (pc8_ys t) (pc8_zs t) (pc8_kindOf t) (pc8_placeOf t) (pc8_rateOf t) (pc8_readOf t) (pc8_isGone t) (pc8_theList t) (pc8_amounts t) (pc8_low t) (pc8_high t) (pc8_barred t) (pc8_times t) (pc8_ranges t))) rfl ?_
  refine r_icmp_eq (tgt := 1353) hC dL_law_601 (by decide) (fun _ => ?_) (fun c => absurd rfl c)
  exact next _ _ hR1
set_option maxHeartbeats 8000000 in
set_option maxRecDepth 100000 in
theorem law_loop (X : CX) (l : Launch) (D : va_G) (cy : Nat → ClassId) (ad7 ad8 : Nat → Nat) (N : Nat) (Rel : S7 → S8 → Prop) (b L : Nat) (xs : Nat → Int32) (hC : OK X l D cy room_1 code 4 wsL_law RL) (hS : SC X b L xs) (hZ : ZL X.2.2.2.2.1) (j : Nat) (hj : j + 6 ≤ L) (hL : L ≤ 3072) (s : S7) (t : S8) (hR : Rel s t) (hop : op_loop N Rel) (next : ∀ (s : S7) (t : S8), Rel s t → GG X 4 52 1789 (W7 cy ad7 s ++ W8 cy ad8 t) [(0, .ref b), (1, .ref (ad7 70)), (2, .ref (ad8 80)), (3, .int (nI j))] 1353 []) : GG X 4 52 1789 (W7 cy ad7 s ++ W8 cy ad8 t) [(0, .ref b), (1, .ref (ad7 70)), (2, .ref (ad8 80)), (3, .int (nI j))] 606 [] := by
  obtain ⟨r, z5_point, h7, h8, hR1⟩ := hop s t hR ((xs (nI j + 1).toNatClampNeg)) ((xs (nI j + 2).toNatClampNeg)) ((xs (nI j + 3).toNatClampNeg)) ((xs (nI j + 4).toNatClampNeg))
  refine r_aload_n hC dL_law_606 rfl 1 rfl ?_
  refine r_aload_n hC dL_law_607 rfl 0 rfl ?_
  refine r_iload_n hC dL_law_608 rfl 3 rfl ?_
  refine r_iconst hC dL_law_609 ic_1 ?_
  refine r_iadd hC dL_law_610 ?_
  refine r_sld hC hS (ix_in (k := 1) (by omega) hL) dL_law_611 ?_
  refine r_aload_n hC dL_law_612 rfl 0 rfl ?_
  refine r_iload_n hC dL_law_613 rfl 3 rfl ?_
  refine r_iconst hC dL_law_614 ic_2 ?_
  refine r_iadd hC dL_law_615 ?_
  refine r_sld hC hS (ix_in (k := 2) (by omega) hL) dL_law_616 ?_
  refine r_aload_n hC dL_law_617 rfl 0 rfl ?_
  refine r_iload_n hC dL_law_618 rfl 3 rfl ?_
  refine r_iconst hC dL_law_619 ic_3 ?_
  refine r_iadd hC dL_law_620 ?_
  refine r_sld hC hS (ix_in (k := 3) (by omega) hL) dL_law_621 ?_
  refine r_aload_n hC dL_law_622 rfl 0 rfl ?_
  refine r_iload_n hC dL_law_623 rfl 3 rfl ?_
  refine r_iconst hC dL_law_624 ic_4 ?_
  refine r_iadd hC dL_law_625 ?_
  refine r_sld hC hS (ix_in (k := 4) (by omega) hL) dL_law_626 ?_
  refine r_vi (st := []) hC (kX7_loop l D cy ad7 (pc7_lastFound s) (pc7_lastAsked s) (pc7_found s) (pc4_made s) (pc4_kinds s) (pc4_places s) (pc4_rates s) (pc4_readings s) (pc4_bearing s) (pc5_legs s) (pc5_length s) (pc5_ways s) (pc5_units s) (pc5_stuffOf s) (pc5_point s) (pc6_bytes s) (pc6_sizes s) (pc6_weights s) (pc3_size s) (pc3_rates s) (pc0_amounts s) (pc0_lows s) (pc0_highs s) (pc0_barred s) (pc1_lines s) (pc1_parts s) (pc2_above s) (pc2_below s) ((xs (nI j + 1).toNatClampNeg)) ((xs (nI j + 2).toNatClampNeg)) ((xs (nI j + 3).toNatClampNeg)) ((xs (nI j + 4).toNatClampNeg)) N h7) gL_law_X7_loop rfl ⟨rfl, rfl⟩ ydX7_loop ⟨(Nat.le_of_ble_eq_true rfl), (Nat.le_of_ble_eq_true rfl)⟩ ⟨Nat.le_refl 52, Nat.le_refl 1789⟩ 0 rfl rfl [] (W8 cy ad8 t) rfl _ rfl (Nat.le_of_ble_eq_true rfl) dL_law_627 (W7 cy ad7 (mk7 (pc7_lastFound s) (pc7_lastAsked s) (pc7_found s) (pc4_made s) (pc4_kinds s) (pc4_places s) (pc4_rates s) (pc4_readings s) (pc4_bearing s) (pc5_legs s) (pc5_length s) (pc5_ways s) (pc5_units s) (pc5_stuffOf s) z5_point (pc6_bytes s) (pc6_sizes s) (pc6_weights s) (pc3_size s) (pc3_rates s) (pc0_amounts s) (pc0_lows s) (pc0_highs s) (pc0_barred s) (pc1_lines s) (pc1_parts s) (pc2_above s) (pc2_below s)) ++ W8 cy ad8 t) rfl ?_
  refine r_aload_n hC dL_law_630 rfl 2 rfl ?_
  refine r_aload_n hC dL_law_631 rfl 0 rfl ?_
  refine r_iload_n hC dL_law_632 rfl 3 rfl ?_
  refine r_iconst hC dL_law_633 ic_1 ?_
  refine r_iadd hC dL_law_634 ?_
  refine r_sld hC hS (ix_in (k := 1) (by omega) hL) dL_law_635 ?_
  refine r_aload_n hC dL_law_636 rfl 0 rfl ?_
  refine r_iload_n hC dL_law_637 rfl 3 rfl ?_
  refine r_iconst hC dL_law_638 ic_2 ?_
  refine r_iadd hC dL_law_639 ?_
  refine r_sld hC hS (ix_in (k := 2) (by omega) hL) dL_law_640 ?_
  refine r_aload_n hC dL_law_641 rfl 0 rfl ?_
  refine r_iload_n hC dL_law_642 rfl 3 rfl ?_
  refine r_iconst hC dL_law_643 ic_3 ?_
  refine r_iadd hC dL_law_644 ?_
  refine r_sld hC hS (ix_in (k := 3) (by omega) hL) dL_law_645 ?_
  refine r_aload_n hC dL_law_646 rfl 0 rfl ?_
  refine r_iload_n hC dL_law_647 rfl 3 rfl ?_
  refine r_iconst hC dL_law_648 ic_4 ?_
  refine r_iadd hC dL_law_649 ?_
  refine r_sld hC hS (ix_in (k := 4) (by omega) hL) dL_law_650 ?_
  refine r_vi (st := [.int r]) hC (kX8_loop l D cy ad8 (pc8_latest t) (pc8_asked t) (pc8_upper t) (pc8_lower t) (pc8_legs t) (pc8_units t) (pc8_rests t) (pc8_rates t) (pc8_lines t) (pc8_came t) (pc8_sizes t) (pc8_weights t) (pc8_growths t) (pc8_copied t) (pc8_legWay t) (pc8_legUnits t) (pc8_legStuff t) (pc8_unitWay t) (pc8_unitStuff t) (pc8_xs t) (pc8_ys t) (pc8_zs t) (pc8_kindOf t) (pc8_placeOf t) (pc8_rateOf t) (pc8_readOf t) (pc8_isGone t) (pc8_theList t) (pc8_amounts t) (pc8_low t) (pc8_high t) (pc8_barred t) (pc8_times t) (pc8_ranges t) ((xs (nI j + 1).toNatClampNeg)) ((xs (nI j + 2).toNatClampNeg)) ((xs (nI j + 3).toNatClampNeg)) ((xs (nI j + 4).toNatClampNeg)) N h8) gL_law_X8_loop rfl ⟨rfl, rfl⟩ ydX8_loop ⟨(Nat.le_of_ble_eq_true rfl), (Nat.le_of_ble_eq_true rfl)⟩ ⟨Nat.le_refl 52, Nat.le_refl 1789⟩ 0 rfl rfl (W7 cy ad7 (mk7 (pc7_lastFound s) (pc7_lastAsked s) (pc7_found s) (pc4_made s) (pc4_kinds s) (pc4_places s) (pc4_rates s) (pc4_readings s) (pc4_bearing s) (pc5_legs s) (pc5_length s) (pc5_ways s) (pc5_units s) (pc5_stuffOf s) z5_point (pc6_bytes s) (pc6_sizes s) (pc6_weights s) (pc3_size s) (pc3_rates s) (pc0_amounts s) (pc0_lows s) (pc0_highs s) (pc0_barred s) (pc1_lines s) (pc1_parts s) (pc2_above s) (pc2_below s))) [] rfl _ rfl (Nat.le_of_ble_eq_true rfl) dL_law_651 (W7 cy ad7 (mk7 (pc7_lastFound s) (pc7_lastAsked s) (pc7_found s) (pc4_made s) (pc4_kinds s) (pc4_places s) (pc4_rates s) (pc4_readings s) (pc4_bearing s) (pc5_legs s) (pc5_length s) (pc5_ways s) (pc5_units s) (pc5_stuffOf s) z5_point (pc6_bytes s) (pc6_sizes s) (pc6_weights s) (pc3_size s) (pc3_rates s) (pc0_amounts s) (pc0_lows s) (pc0_highs s) (pc0_barred s) (pc1_lines s) (pc1_parts s) (pc2_above s) (pc2_below s)) ++ W8 cy ad8 t) rfl ?_
  refine r_icmp_eq (tgt := 1353) hC dL_law_654 (by decide) (fun _ => ?_) (fun c => absurd rfl c)
  exact next _ _ hR1
set_option maxHeartbeats 8000000 in
set_option maxRecDepth 100000 in
theorem law_bestLoop (X : CX) (l : Launch) (D : va_G) (cy : Nat → ClassId) (ad7 ad8 : Nat → Nat) (N : Nat) (Rel : S7 → S8 → Prop) (b L : Nat) (xs : Nat → Int32) (hC : OK X l D cy room_1 code 4 wsL_law RL) (hS : SC X b L xs) (hZ : ZL X.2.2.2.2.1) (j : Nat) (hj : j + 6 ≤ L) (hL : L ≤ 3072) (s : S7) (t : S8) (hR : Rel s t) (hop : op_bestLoop N Rel) (next : ∀ (s : S7) (t : S8), Rel s t → GG X 4 52 1789 (W7 cy ad7 s ++ W8 cy ad8 t) [(0, .ref b), (1, .ref (ad7 70)), (2, .ref (ad8 80)), (3, .int (nI j))] 1353 []) : GG X 4 52 1789 (W7 cy ad7 s ++ W8 cy ad8 t) [(0, .ref b), (1, .ref (ad7 70)), (2, .ref (ad8 80)), (3, .int (nI j))] 659 [] := by
  obtain ⟨r, z7_lastAsked, z5_point, z8_asked, h7, h8, hR1⟩ := hop s t hR ((xs (nI j + 1).toNatClampNeg)) ((xs (nI j + 2).toNatClampNeg))
  refine r_aload_n hC dL_law_659 rfl 1 rfl ?_
  refine r_aload_n hC dL_law_660 rfl 0 rfl ?_
  refine r_iload_n hC dL_law_661 rfl 3 rfl ?_
  refine r_iconst hC dL_law_662 ic_1 ?_
  refine r_iadd hC dL_law_663 ?_
  refine r_sld hC hS (ix_in (k := 1) (by omega) hL) dL_law_664 ?_
  refine r_aload_n hC dL_law_665 rfl 0 rfl ?_
  refine r_iload_n hC dL_law_666 rfl 3 rfl ?_
  refine r_iconst hC dL_law_667 ic_2 ?_
  refine r_iadd hC dL_law_668 ?_
  refine r_sld hC hS (ix_in (k := 2) (by omega) hL) dL_law_669 ?_
  refine r_vi (st := []) hC (kX7_bestLoop l D cy ad7 (pc7_lastFound s) (pc7_lastAsked s) (pc7_found s) (pc4_made s) (pc4_kinds s) (pc4_places s) (pc4_rates s) (pc4_readings s) (pc4_bearing s) (pc5_legs s) (pc5_length s) (pc5_ways s) (pc5_units s) (pc5_stuffOf s) (pc5_point s) (pc6_bytes s) (pc6_sizes s) (pc6_weights s) (pc3_size s) (pc3_rates s) (pc0_amounts s) (pc0_lows s) (pc0_highs s) (pc0_barred s) (pc1_lines s) (pc1_parts s) (pc2_above s) (pc2_below s) ((xs (nI j + 1).toNatClampNeg)) ((xs (nI j + 2).toNatClampNeg)) N h7) gL_law_X7_bestLoop rfl ⟨rfl, rfl⟩ ydX7_bestLoop ⟨(Nat.le_of_ble_eq_true rfl), (Nat.le_of_ble_eq_true rfl)⟩ ⟨Nat.le_refl 52, Nat.le_refl 1789⟩ 0 rfl rfl [] (W8 cy ad8 t) rfl _ rfl (Nat.le_of_ble_eq_true rfl) dL_law_670 (W7 cy ad7 (mk7 (pc7_lastFound s) z7_lastAsked (pc7_found s) (pc4_made s) (pc4_kinds s) (pc4_places s) (pc4_rates s) (pc4_readings s) (pc4_bearing s) (pc5_legs s) (pc5_length s) (pc5_ways s) (pc5_units s) (pc5_stuffOf s) z5_point (pc6_bytes s) (pc6_sizes s) (pc6_weights s) (pc3_size s) (pc3_rates s) (pc0_amounts s) (pc0_lows s) (pc0_highs s) (pc0_barred s) (pc1_lines s) (pc1_parts s) (pc2_above s) (pc2_below s)) ++ W8 cy ad8 t) rfl ?_
  refine r_aload_n hC dL_law_673 rfl 2 rfl ?_
  refine r_aload_n hC dL_law_674 rfl 0 rfl ?_
  refine r_iload_n hC dL_law_675 rfl 3 rfl ?_
  refine r_iconst hC dL_law_676 ic_1 ?_
  refine r_iadd hC dL_law_677 ?_
  refine r_sld hC hS (ix_in (k := 1) (by omega) hL) dL_law_678 ?_
  refine r_aload_n hC dL_law_679 rfl 0 rfl ?_
  refine r_iload_n hC dL_law_680 rfl 3 rfl ?_
  refine r_iconst hC dL_law_681 ic_2 ?_
  refine r_iadd hC dL_law_682 ?_
  refine r_sld hC hS (ix_in (k := 2) (by omega) hL) dL_law_683 ?_
  refine r_vi (st := [.int r]) hC (kX8_bestLoop l D cy ad8 (pc8_latest t) (pc8_asked t) (pc8_upper t) (pc8_lower t) (pc8_legs t) (pc8_units t) (pc8_rests t) (pc8_rates t) (pc8_lines t) (pc8_came t) (pc8_sizes t) (pc8_weights t) (pc8_growths t) (pc8_copied t) (pc8_legWay t) (pc8_legUnits t) (pc8_legStuff t) (pc8_unitWay t) (pc8_unitStuff t) (pc8_xs t) (pc8_ys t) (pc8_zs t) (pc8_kindOf t) (pc8_placeOf t) (pc8_rateOf t) (pc8_readOf t) (pc8_isGone t) (pc8_theList t) (pc8_amounts t) (pc8_low t) (pc8_high t) (pc8_barred t) (pc8_times t) (pc8_ranges t) ((xs (nI j + 1).toNatClampNeg)) ((xs (nI j + 2).toNatClampNeg)) N h8) gL_law_X8_bestLoop rfl ⟨rfl, rfl⟩ ydX8_bestLoop ⟨(Nat.le_of_ble_eq_true rfl), (Nat.le_of_ble_eq_true rfl)⟩ ⟨Nat.le_refl 52, Nat.le_refl 1789⟩ 0 rfl rfl (W7 cy ad7 (mk7 (pc7_lastFound s) z7_lastAsked (pc7_found s) (pc4_made s) (pc4_kinds s) (pc4_places s) (pc4_rates s) (pc4_readings s) (pc4_bearing s) (pc5_legs s) (pc5_length s) (pc5_ways s) (pc5_units s) (pc5_stuffOf s) z5_point (pc6_bytes s) (pc6_sizes s) (pc6_weights s) (pc3_size s) (pc3_rates s) (pc0_amounts s) (pc0_lows s) (pc0_highs s) (pc0_barred s) (pc1_lines s) (pc1_parts s) (pc2_above s) (pc2_below s))) [] rfl _ rfl (Nat.le_of_ble_eq_true rfl) dL_law_684 (W7 cy ad7 (mk7 (pc7_lastFound s) z7_lastAsked (pc7_found s) (pc4_made s) (pc4_kinds s) (pc4_places s) (pc4_rates s) (pc4_readings s) (pc4_bearing s) (pc5_legs s) (pc5_length s) (pc5_ways s) (pc5_units s) (pc5_stuffOf s) z5_point (pc6_bytes s) (pc6_sizes s) (pc6_weights s) (pc3_size s) (pc3_rates s) (pc0_amounts s) (pc0_lows s) (pc0_highs s) (pc0_barred s) (pc1_lines s) (pc1_parts s) (pc2_above s) (pc2_below s)) ++ W8 cy ad8 (mk8 (pc8_latest t) z8_asked (pc8_upper t) (pc8_lower t) (pc8_legs t) (pc8_units t) (pc8_rests t) (pc8_rates t) (pc8_lines t) (pc8_came t) (pc8_sizes t) (pc8_weights t) (pc8_growths t) (pc8_copied t) (pc8_legWay t) (pc8_legUnits t) (pc8_legStuff t) (pc8_unitWay t) (pc8_unitStuff t) (pc8_xs t) (pc8_ys t) (pc8_zs t) (pc8_kindOf t) (pc8_placeOf t) (pc8_rateOf t) (pc8_readOf t) (pc8_isGone t) (pc8_theList t) (pc8_amounts t) (pc8_low t) (pc8_high t) (pc8_barred t) (pc8_times t) (pc8_ranges t))) rfl ?_
  refine r_icmp_eq (tgt := 1353) hC dL_law_687 (by decide) (fun _ => ?_) (fun c => absurd rfl c)
  exact next _ _ hR1
set_option maxHeartbeats 8000000 in
set_option maxRecDepth 100000 in
theorem law_rest (X : CX) (l : Launch) (D : va_G) (cy : Nat → ClassId) (ad7 ad8 : Nat → Nat) (N : Nat) (Rel : S7 → S8 → Prop) (b L : Nat) (xs : Nat → Int32) (hC : OK X l D cy room_1 code 4 wsL_law RL) (hS : SC X b L xs) (hZ : ZL X.2.2.2.2.1) (j : Nat) (hj : j + 6 ≤ L) (hL : L ≤ 3072) (s : S7) (t : S8) (hR : Rel s t) (hop : op_rest N Rel) (next : ∀ (s : S7) (t : S8), Rel s t → GG X 4 52 1789 (W7 cy ad7 s ++ W8 cy ad8 t) [(0, .ref b), (1, .ref (ad7 70)), (2, .ref (ad8 80)), (3, .int (nI j))] 1353 []) : GG X 4 52 1789 (W7 cy ad7 s ++ W8 cy ad8 t) [(0, .ref b), (1, .ref (ad7 70)), (2, .ref (ad8 80)), (3, .int (nI j))] 692 [] := by
  obtain ⟨r, z4_made, z4_kinds, z4_places, z4_rates, z4_readings, z8_rests, z8_kindOf, z8_placeOf, z8_rateOf, z8_readOf, z8_isGone, h7, h8, hR1⟩ := hop s t hR ((xs (nI j + 1).toNatClampNeg)) ((xs (nI j + 2).toNatClampNeg)) ((xs (nI j + 3).toNatClampNeg))
  refine r_aload_n hC dL_law_692 rfl 1 rfl ?_
  refine r_aload_n hC dL_law_693 rfl 0 rfl ?_
  refine r_iload_n hC dL_law_694 rfl 3 rfl ?_
  refine r_iconst hC dL_law_695 ic_1 ?_
  refine r_iadd hC dL_law_696 ?_
  refine r_sld hC hS (ix_in (k := 1) (by omega) hL) dL_law_697 ?_
  refine r_aload_n hC dL_law_698 rfl 0 rfl ?_
  refine r_iload_n hC dL_law_699 rfl 3 rfl ?_
  refine r_iconst hC dL_law_700 ic_2 ?_
  refine r_iadd hC dL_law_701 ?_
  refine r_sld hC hS (ix_in (k := 2) (by omega) hL) dL_law_702 ?_
  refine r_aload_n hC dL_law_703 rfl 0 rfl ?_
  refine r_iload_n hC dL_law_704 rfl 3 rfl ?_
  refine r_iconst hC dL_law_705 ic_3 ?_
  refine r_iadd hC dL_law_706 ?_
  refine r_sld hC hS (ix_in (k := 3) (by omega) hL) dL_law_707 ?_
  refine r_vi (st := []) hC (kX7_rest l D cy ad7 (pc7_lastFound s) (pc7_lastAsked s) (pc7_found s) (pc4_made s) (pc4_kinds s) (pc4_places s) (pc4_rates s) (pc4_readings s) (pc4_bearing s) (pc5_legs s) (pc5_length s) (pc5_ways s) (pc5_units s) (pc5_stuffOf s) (pc5_point s) (pc6_bytes s) (pc6_sizes s) (pc6_weights s) (pc3_size s) (pc3_rates s) (pc0_amounts s) (pc0_lows s) (pc0_highs s) (pc0_barred s) (pc1_lines s) (pc1_parts s) (pc2_above s) (pc2_below s) ((xs (nI j + 1).toNatClampNeg)) ((xs (nI j + 2).toNatClampNeg)) ((xs (nI j + 3).toNatClampNeg)) N h7) gL_law_X7_rest rfl ⟨rfl, rfl⟩ ydX7_rest ⟨(Nat.le_of_ble_eq_true rfl), (Nat.le_of_ble_eq_true rfl)⟩ ⟨Nat.le_refl 52, Nat.le_refl 1789⟩ 0 rfl rfl [] (W8 cy ad8 t) rfl _ rfl (Nat.le_of_ble_eq_true rfl) dL_law_708 (W7 cy ad7 (mk7 (pc7_lastFound s) (pc7_lastAsked s) (pc7_found s) z4_made z4_kinds z4_places z4_rates z4_readings (pc4_bearing s) (pc5_legs s) (pc5_length s) (pc5_ways s) (pc5_units s) (pc5_stuffOf s) (pc5_point s) (pc6_bytes s) (pc6_sizes s) (pc6_weights s) (pc3_size s) (pc3_rates s) (pc0_amounts s) (pc0_lows s) (pc0_highs s) (pc0_barred s) (pc1_lines s) (pc1_parts s) (pc2_above s) (pc2_below s)) ++ W8 cy ad8 t) rfl ?_
  refine r_aload_n hC dL_law_711 rfl 2 rfl ?_
  refine r_aload_n hC dL_law_712 rfl 0 rfl ?_
  refine r_iload_n hC dL_law_713 rfl 3 rfl ?_
  refine r_iconst hC dL_law_714 ic_1 ?_
  refine r_iadd hC dL_law_715 ?_
  refine r_sld hC hS (ix_in (k := 1) (by omega) hL) dL_law_716 ?_
  refine r_aload_n hC dL_law_717 rfl 0 rfl ?_
  refine r_iload_n hC dL_law_718 rfl 3 rfl ?_
  refine r_iconst hC dL_law_719 ic_2 ?_
  refine r_iadd hC dL_law_720 ?_
  refine r_sld hC hS (ix_in (k := 2) (by omega) hL) dL_law_721 ?_
  refine r_aload_n hC dL_law_722 rfl 0 rfl ?_
  refine r_iload_n hC dL_law_723 rfl 3 rfl ?_
  refine r_iconst hC dL_law_724 ic_3 ?_
  refine r_iadd hC dL_law_725 ?_
  refine r_sld hC hS (ix_in (k := 3) (by omega) hL) dL_law_726 ?_
  refine r_vi (st := [.int r]) hC (kX8_rest l D cy ad8 (pc8_latest t) (pc8_asked t) (pc8_upper t) (pc8_lower t) (pc8_legs t) (pc8_units t) (pc8_rests t) (pc8_rates t) (pc8_lines t) (pc8_came t) (pc8_sizes t) (pc8_weights t) (pc8_growths t) (pc8_copied t) (pc8_legWay t) (pc8_legUnits t) (pc8_legStuff t) (pc8_unitWay t) (pc8_unitStuff t) (pc8_xs t) (pc8_ys t) (pc8_zs t) (pc8_kindOf t) (pc8_placeOf t) (pc8_rateOf t) (pc8_readOf t) (pc8_isGone t) (pc8_theList t) (pc8_amounts t) (pc8_low t) (pc8_high t) (pc8_barred t) (pc8_times t) (pc8_ranges t) ((xs (nI j + 1).toNatClampNeg)) ((xs (nI j + 2).toNatClampNeg)) ((xs (nI j + 3).toNatClampNeg)) N h8) gL_law_X8_rest rfl ⟨rfl, rfl⟩ ydX8_rest ⟨(Nat.le_of_ble_eq_true rfl), (Nat.le_of_ble_eq_true rfl)⟩ ⟨Nat.le_refl 52, Nat.le_refl 1789⟩ 0 rfl rfl (W7 cy ad7 (mk7 (pc7_lastFound s) (pc7_lastAsked s) (pc7_found s) z4_made z4_kinds z4_places z4_rates z4_readings (pc4_bearing s) (pc5_legs s) (pc5_length s) (pc5_ways s) (pc5_units s) (pc5_stuffOf s) (pc5_point s) (pc6_bytes s) (pc6_sizes s) (pc6_weights s) (pc3_size s) (pc3_rates s) (pc0_amounts s) (pc0_lows s) (pc0_highs s) (pc0_barred s) (pc1_lines s) (pc1_parts s) (pc2_above s) (pc2_below s))) [] rfl _ rfl (Nat.le_of_ble_eq_true rfl) dL_law_727 (W7 cy ad7 (mk7 (pc7_lastFound s) (pc7_lastAsked s) (pc7_found s) z4_made z4_kinds z4_places z4_rates z4_readings (pc4_bearing s) (pc5_legs s) (pc5_length s) (pc5_ways s) (pc5_units s) (pc5_stuffOf s) (pc5_point s) (pc6_bytes s) (pc6_sizes s) (pc6_weights s) (pc3_size s) (pc3_rates s) (pc0_amounts s) (pc0_lows s) (pc0_highs s) (pc0_barred s) (pc1_lines s) (pc1_parts s) (pc2_above s) (pc2_below s)) ++ W8 cy ad8 (mk8 (pc8_latest t) (pc8_asked t) (pc8_upper t) (pc8_lower t) (pc8_legs t) (pc8_units t) z8_rests (pc8_rates t) (pc8_lines t) (pc8_came t) (pc8_sizes t) (pc8_weights t) (pc8_growths t) (pc8_copied t) (pc8_legWay t) (pc8_legUnits t) (pc8_legStuff t) (pc8_unitWay t) (pc8_unitStuff t) (pc8_xs t) (pc8_ys t) (pc8_zs t) z8_kindOf z8_placeOf z8_rateOf z8_readOf z8_isGone (pc8_theList t) (pc8_amounts t) (pc8_low t) (pc8_high t) (pc8_barred t) (pc8_times t) (pc8_ranges t))) rfl ?_
  refine r_icmp_eq (tgt := 1353) hC dL_law_730 (by decide) (fun _ => ?_) (fun c => absurd rfl c)
  exact next _ _ hR1
set_option maxHeartbeats 8000000 in
set_option maxRecDepth 100000 in
theorem law_drop (X : CX) (l : Launch) (D : va_G) (cy : Nat → ClassId) (ad7 ad8 : Nat → Nat) (N : Nat) (Rel : S7 → S8 → Prop) (b L : Nat) (xs : Nat → Int32) (hC : OK X l D cy room_1 code 4 wsL_law RL) (hS : SC X b L xs) (hZ : ZL X.2.2.2.2.1) (j : Nat) (hj : j + 6 ≤ L) (hL : L ≤ 3072) (s : S7) (t : S8) (hR : Rel s t) (hop : op_drop N Rel) (next : ∀ (s : S7) (t : S8), Rel s t → GG X 4 52 1789 (W7 cy ad7 s ++ W8 cy ad8 t) [(0, .ref b), (1, .ref (ad7 70)), (2, .ref (ad8 80)), (3, .int (nI j))] 1353 []) : GG X 4 52 1789 (W7 cy ad7 s ++ W8 cy ad8 t) [(0, .ref b), (1, .ref (ad7 70)), (2, .ref (ad8 80)), (3, .int (nI j))] 735 [] := by
  obtain ⟨r, z7_lastFound, z7_found, z4_kinds, z8_latest, z8_came, z8_isGone, h7, h8, hR1⟩ := hop s t hR ((xs (nI j + 1).toNatClampNeg))
  refine r_aload_n hC dL_law_735 rfl 1 rfl ?_
  refine r_aload_n hC dL_law_736 rfl 0 rfl ?_
  refine r_iload_n hC dL_law_737 rfl 3 rfl ?_
  refine r_iconst hC dL_law_738 ic_1 ?_
  refine r_iadd hC dL_law_739 ?_
  refine r_sld hC hS (ix_in (k := 1) (by omega) hL) dL_law_740 ?_
  refine r_vi (st := []) hC (kX7_drop l D cy ad7 (pc7_lastFound s) (pc7_lastAsked s) (pc7_found s) (pc4_made s) (pc4_kinds s) (pc4_places s) (pc4_rates s) (pc4_readings s) (pc4_bearing s) (pc5_legs s) (pc5_length s) (pc5_ways s) (pc5_units s) (pc5_stuffOf s) (pc5_point s) (pc6_bytes s) (pc6_sizes s) (pc6_weights s) (pc3_size s) (pc3_rates s) (pc0_amounts s) (pc0_lows s) (pc0_highs s) (pc0_barred s) (pc1_lines s) (pc1_parts s) (pc2_above s) (pc2_below s) ((xs (nI j + 1).toNatClampNeg)) h7) gL_law_X7_drop rfl ⟨rfl, rfl⟩ ydX7_drop ⟨(Nat.le_of_ble_eq_true rfl), (Nat.le_of_ble_eq_true rfl)⟩ ⟨Nat.le_refl 52, Nat.le_refl 1789⟩ 0 rfl rfl [] (W8 cy ad8 t) rfl _ rfl (Nat.le_of_ble_eq_true rfl) dL_law_741 (W7 cy ad7 (mk7 z7_lastFound (pc7_lastAsked s) z7_found (pc4_made s) z4_kinds (pc4_places s) (pc4_rates s) (pc4_readings s) (pc4_bearing s) (pc5_legs s) (pc5_length s) (pc5_ways s) (pc5_units s) (pc5_stuffOf s) (pc5_point s) (pc6_bytes s) (pc6_sizes s) (pc6_weights s) (pc3_size s) (pc3_rates s) (pc0_amounts s) (pc0_lows s) (pc0_highs s) (pc0_barred s) (pc1_lines s) (pc1_parts s) (pc2_above s) (pc2_below s)) ++ W8 cy ad8 t) rfl ?_
  refine r_aload_n hC dL_law_744 rfl 2 rfl ?_
  refine r_aload_n hC dL_law_745 rfl 0 rfl ?_
  refine r_iload_n hC dL_law_746 rfl 3 rfl ?_
  refine r_iconst hC dL_law_747 ic_1 ?_
  refine r_iadd hC dL_law_748 ?_
  refine r_sld hC hS (ix_in (k := 1) (by omega) hL) dL_law_749 ?_
  refine r_vi (st := [.int r]) hC (kX8_drop l D cy ad8 (pc8_latest t) (pc8_asked t) (pc8_upper t) (pc8_lower t) (pc8_legs t) (pc8_units t) (pc8_rests t) (pc8_rates t) (pc8_lines t) (pc8_came t) (pc8_sizes t) (pc8_weights t) (pc8_growths t) (pc8_copied t) (pc8_legWay t) (pc8_legUnits t) (pc8_legStuff t) (pc8_unitWay t) (pc8_unitStuff t) (pc8_xs t) (pc8_ys t) (pc8_zs t) (pc8_kindOf t) (pc8_placeOf t) (pc8_rateOf t) (pc8_readOf t) (pc8_isGone t) (pc8_theList t) (pc8_amounts t) (pc8_low t) (pc8_high t) (pc8_barred t) (pc8_times t) (pc8_ranges t) ((xs (nI j + 1).toNatClampNeg)) h8) gL_law_X8_drop rfl ⟨rfl, rfl⟩ ydX8_drop ⟨(Nat.le_of_ble_eq_true rfl), (Nat.le_of_ble_eq_true rfl)⟩ ⟨Nat.le_refl 52, Nat.le_refl 1789⟩ 0 rfl rfl (W7 cy ad7 (mk7 z7_lastFound (pc7_lastAsked s) z7_found (pc4_made s) z4_kinds (pc4_places s) (pc4_rates s) (pc4_readings s) (pc4_bearing s) (pc5_legs s) (pc5_length s) (pc5_ways s) (pc5_units s) (pc5_stuffOf s) (pc5_point s) (pc6_bytes s) (pc6_sizes s) (pc6_weights s) (pc3_size s) (pc3_rates s) (pc0_amounts s) (pc0_lows s) (pc0_highs s) (pc0_barred s) (pc1_lines s) (pc1_parts s) (pc2_above s) (pc2_below s))) [] rfl _ rfl (Nat.le_of_ble_eq_true rfl) dL_law_750 (W7 cy ad7 (mk7 z7_lastFound (pc7_lastAsked s) z7_found (pc4_made s) z4_kinds (pc4_places s) (pc4_rates s) (pc4_readings s) (pc4_bearing s) (pc5_legs s) (pc5_length s) (pc5_ways s) (pc5_units s) (pc5_stuffOf s) (pc5_point s) (pc6_bytes s) (pc6_sizes s) (pc6_weights s) (pc3_size s) (pc3_rates s) (pc0_amounts s) (pc0_lows s) (pc0_highs s) (pc0_barred s) (pc1_lines s) (pc1_parts s) (pc2_above s) (pc2_below s)) ++ W8 cy ad8 (mk8 z8_latest (pc8_asked t) (pc8_upper t) (pc8_lower t) (pc8_legs t) (pc8_units t) (pc8_rests t) (pc8_rates t) (pc8_lines t) z8_came (pc8_sizes t) (pc8_weights t) (pc8_growths t) (pc8_copied t) (pc8_legWay t) (pc8_legUnits t) (pc8_legStuff t) (pc8_unitWay t) (pc8_unitStuff t) (pc8_xs t) (pc8_ys t) (pc8_zs t) (pc8_kindOf t) (pc8_placeOf t) (pc8_rateOf t) (pc8_readOf t) z8_isGone (pc8_theList t) (pc8_amounts t) (pc8_low t) (pc8_high t) (pc8_barred t) (pc8_times t) (pc8_ranges t))) rfl ?_
  refine r_icmp_eq (tgt := 1353) hC dL_law_753 (by decide) (fun _ => ?_) (fun c => absurd rfl c)
  exact next _ _ hR1
set_option maxHeartbeats 8000000 in
set_option maxRecDepth 100000 in
theorem law_told (X : CX) (l : Launch) (D : va_G) (cy : Nat → ClassId) (ad7 ad8 : Nat → Nat) (N : Nat) (Rel : S7 → S8 → Prop) (b L : Nat) (xs : Nat → Int32) (hC : OK X l D cy room_1 code 4 wsL_law RL) (hS : SC X b L xs) (hZ : ZL X.2.2.2.2.1) (j : Nat) (hj : j + 6 ≤ L) (hL : L ≤ 3072) (s : S7) (t : S8) (hR : Rel s t) (hop : op_told N Rel) (next : ∀ (s : S7) (t : S8), Rel s t → GG X 4 52 1789 (W7 cy ad7 s ++ W8 cy ad8 t) [(0, .ref b), (1, .ref (ad7 70)), (2, .ref (ad8 80)), (3, .int (nI j))] 1353 []) : GG X 4 52 1789 (W7 cy ad7 s ++ W8 cy ad8 t) [(0, .ref b), (1, .ref (ad7 70)), (2, .ref (ad8 80)), (3, .int (nI j))] 758 [] := by
  obtain ⟨r, z7_lastFound, z7_found, z8_latest, z8_came, h7, h8, hR1⟩ := hop s t hR ((xs (nI j + 1).toNatClampNeg)) ((xs (nI j + 2).toNatClampNeg))
  refine r_aload_n hC dL_law_758 rfl 1 rfl ?_
  refine r_aload_n hC dL_law_759 rfl 0 rfl ?_
  refine r_iload_n hC dL_law_760 rfl 3 rfl ?_
  refine r_iconst hC dL_law_761 ic_1 ?_
  refine r_iadd hC dL_law_762 ?_
  refine r_sld hC hS (ix_in (k := 1) (by omega) hL) dL_law_763 ?_
  refine r_aload_n hC dL_law_764 rfl 0 rfl ?_
  refine r_iload_n hC dL_law_765 rfl 3 rfl ?_
  refine r_iconst hC dL_law_766 ic_2 ?_
  refine r_iadd hC dL_law_767 ?_
  refine r_sld hC hS (ix_in (k := 2) (by omega) hL) dL_law_768 ?_
  refine r_vi (st := []) hC (kX7_told l D cy ad7 (pc7_lastFound s) (pc7_lastAsked s) (pc7_found s) (pc4_made s) (pc4_kinds s) (pc4_places s) (pc4_rates s) (pc4_readings s) (pc4_bearing s) (pc5_legs s) (pc5_length s) (pc5_ways s) (pc5_units s) (pc5_stuffOf s) (pc5_point s) (pc6_bytes s) (pc6_sizes s) (pc6_weights s) (pc3_size s) (pc3_rates s) (pc0_amounts s) (pc0_lows s) (pc0_highs s) (pc0_barred s) (pc1_lines s) (pc1_parts s) (pc2_above s) (pc2_below s) ((xs (nI j + 1).toNatClampNeg)) ((xs (nI j + 2).toNatClampNeg)) h7) gL_law_X7_told rfl ⟨rfl, rfl⟩ ydX7_told ⟨(Nat.le_of_ble_eq_true rfl), (Nat.le_of_ble_eq_true rfl)⟩ ⟨Nat.le_refl 52, Nat.le_refl 1789⟩ 0 rfl rfl [] (W8 cy ad8 t) rfl _ rfl (Nat.le_of_ble_eq_true rfl) dL_law_769 (W7 cy ad7 (mk7 z7_lastFound (pc7_lastAsked s) z7_found (pc4_made s) (pc4_kinds s) (pc4_places s) (pc4_rates s) (pc4_readings s) (pc4_bearing s) (pc5_legs s) (pc5_length s) (pc5_ways s) (pc5_units s) (pc5_stuffOf s) (pc5_point s) (pc6_bytes s) (pc6_sizes s) (pc6_weights s) (pc3_size s) (pc3_rates s) (pc0_amounts s) (pc0_lows s) (pc0_highs s) (pc0_barred s) (pc1_lines s) (pc1_parts s) (pc2_above s) (pc2_below s)) ++ W8 cy ad8 t) rfl ?_
  refine r_aload_n hC dL_law_772 rfl 2 rfl ?_
  refine r_aload_n hC dL_law_773 rfl 0 rfl ?_
  refine r_iload_n hC dL_law_774 rfl 3 rfl ?_
  refine r_iconst hC dL_law_775 ic_1 ?_
  refine r_iadd hC dL_law_776 ?_
  refine r_sld hC hS (ix_in (k := 1) (by omega) hL) dL_law_777 ?_
  refine r_aload_n hC dL_law_778 rfl 0 rfl ?_
  refine r_iload_n hC dL_law_779 rfl 3 rfl ?_
  refine r_iconst hC dL_law_780 ic_2 ?_
  refine r_iadd hC dL_law_781 ?_
  refine r_sld hC hS (ix_in (k := 2) (by omega) hL) dL_law_782 ?_
  refine r_vi (st := [.int r]) hC (kX8_told l D cy ad8 (pc8_latest t) (pc8_asked t) (pc8_upper t) (pc8_lower t) (pc8_legs t) (pc8_units t) (pc8_rests t) (pc8_rates t) (pc8_lines t) (pc8_came t) (pc8_sizes t) (pc8_weights t) (pc8_growths t) (pc8_copied t) (pc8_legWay t) (pc8_legUnits t) (pc8_legStuff t) (pc8_unitWay t) (pc8_unitStuff t) (pc8_xs t) (pc8_ys t) (pc8_zs t) (pc8_kindOf t) (pc8_placeOf t) (pc8_rateOf t) (pc8_readOf t) (pc8_isGone t) (pc8_theList t) (pc8_amounts t) (pc8_low t) (pc8_high t) (pc8_barred t) (pc8_times t) (pc8_ranges t) ((xs (nI j + 1).toNatClampNeg)) ((xs (nI j + 2).toNatClampNeg)) h8) gL_law_X8_told rfl ⟨rfl, rfl⟩ ydX8_told ⟨(Nat.le_of_ble_eq_true rfl), (Nat.le_of_ble_eq_true rfl)⟩ ⟨Nat.le_refl 52, Nat.le_refl 1789⟩ 0 rfl rfl (W7 cy ad7 (mk7 z7_lastFound (pc7_lastAsked s) z7_found (pc4_made s) (pc4_kinds s) (pc4_places s) (pc4_rates s) (pc4_readings s) (pc4_bearing s) (pc5_legs s) (pc5_length s) (pc5_ways s) (pc5_units s) (pc5_stuffOf s) (pc5_point s) (pc6_bytes s) (pc6_sizes s) (pc6_weights s) (pc3_size s) (pc3_rates s) (pc0_amounts s) (pc0_lows s) (pc0_highs s) (pc0_barred s) (pc1_lines s) (pc1_parts s) (pc2_above s) (pc2_below s))) [] rfl _ rfl (Nat.le_of_ble_eq_true rfl) dL_law_783 (W7 cy ad7 (mk7 z7_lastFound (pc7_lastAsked s) z7_found (pc4_made s) (pc4_kinds s) (pc4_places s) (pc4_rates s) (pc4_readings s) (pc4_bearing s) (pc5_legs s) (pc5_length s) (pc5_ways s) (pc5_units s) (pc5_stuffOf s) (pc5_point s) (pc6_bytes s) (pc6_sizes s) (pc6_weights s) (pc3_size s) (pc3_rates s) (pc0_amounts s) (pc0_lows s) (pc0_highs s) (pc0_barred s) (pc1_lines s) (pc1_parts s) (pc2_above s) (pc2_below s)) ++ W8 cy ad8 (mk8 z8_latest (pc8_asked t) (pc8_upper t) (pc8_lower t) (pc8_legs t) (pc8_units t) (pc8_rests t) (pc8_rates t) (pc8_lines t) z8_came (pc8_sizes t) (pc8_weights t) (pc8_growths t) (pc8_copied t) (pc8_legWay t) (pc8_legUnits t) (pc8_legStuff t) (pc8_unitWay t) (pc8_unitStuff t) (pc8_xs t) (pc8_ys t) (pc8_zs t) (pc8_kindOf t) (pc8_placeOf t) (pc8_rateOf t) (pc8_readOf t) (pc8_isGone t) (pc8_theList t) (pc8_amounts t) (pc8_low t) (pc8_high t) (pc8_barred t) (pc8_times t) (pc8_ranges t))) rfl ?_
  refine r_icmp_eq (tgt := 1353) hC dL_law_786 (by decide) (fun _ => ?_) (fun c => absurd rfl c)
  exact next _ _ hR1
set_option maxHeartbeats 8000000 in
set_option maxRecDepth 100000 in
theorem law_is (X : CX) (l : Launch) (D : va_G) (cy : Nat → ClassId) (ad7 ad8 : Nat → Nat) (N : Nat) (Rel : S7 → S8 → Prop) (b L : Nat) (xs : Nat → Int32) (hC : OK X l D cy room_1 code 4 wsL_law RL) (hS : SC X b L xs) (hZ : ZL X.2.2.2.2.1) (j : Nat) (hj : j + 6 ≤ L) (hL : L ≤ 3072) (s : S7) (t : S8) (hR : Rel s t) (hop : op_is N Rel) (next : ∀ (s : S7) (t : S8), Rel s t → GG X 4 52 1789 (W7 cy ad7 s ++ W8 cy ad8 t) [(0, .ref b), (1, .ref (ad7 70)), (2, .ref (ad8 80)), (3, .int (nI j))] 1353 []) : GG X 4 52 1789 (W7 cy ad7 s ++ W8 cy ad8 t) [(0, .ref b), (1, .ref (ad7 70)), (2, .ref (ad8 80)), (3, .int (nI j))] 791 [] := by
  obtain ⟨r, z7_lastFound, z7_found, z8_latest, z8_came, h7, h8, hR1⟩ := hop s t hR ((xs (nI j + 1).toNatClampNeg)) ((xs (nI j + 2).toNatClampNeg))
  refine r_aload_n hC dL_law_791 rfl 1 rfl ?_
  refine r_aload_n hC dL_law_792 rfl 0 rfl ?_
  refine r_iload_n hC dL_law_793 rfl 3 rfl ?_
  refine r_iconst hC dL_law_794 ic_1 ?_
  refine r_iadd hC dL_law_795 ?_
  refine r_sld hC hS (ix_in (k := 1) (by omega) hL) dL_law_796 ?_
  refine r_aload_n hC dL_law_797 rfl 0 rfl ?_
  refine r_iload_n hC dL_law_798 rfl 3 rfl ?_
  refine r_iconst hC dL_law_799 ic_2 ?_
  refine r_iadd hC dL_law_800 ?_
  refine r_sld hC hS (ix_in (k := 2) (by omega) hL) dL_law_801 ?_
  refine r_vi (st := []) hC (kX7_is l D cy ad7 (pc7_lastFound s) (pc7_lastAsked s) (pc7_found s) (pc4_made s) (pc4_kinds s) (pc4_places s) (pc4_rates s) (pc4_readings s) (pc4_bearing s) (pc5_legs s) (pc5_length s) (pc5_ways s) (pc5_units s) (pc5_stuffOf s) (pc5_point s) (pc6_bytes s) (pc6_sizes s) (pc6_weights s) (pc3_size s) (pc3_rates s) (pc0_amounts s) (pc0_lows s) (pc0_highs s) (pc0_barred s) (pc1_lines s) (pc1_parts s) (pc2_above s) (pc2_below s) ((xs (nI j + 1).toNatClampNeg)) ((xs (nI j + 2).toNatClampNeg)) h7) gL_law_X7_is rfl ⟨rfl, rfl⟩ ydX7_is ⟨(Nat.le_of_ble_eq_true rfl), (Nat.le_of_ble_eq_true rfl)⟩ ⟨Nat.le_refl 52, Nat.le_refl 1789⟩ 0 rfl rfl [] (W8 cy ad8 t) rfl _ rfl (Nat.le_of_ble_eq_true rfl) dL_law_802 (W7 cy ad7 (mk7 z7_lastFound (pc7_lastAsked s) z7_found (pc4_made s) (pc4_kinds s) (pc4_places s) (pc4_rates s) (pc4_readings s) (pc4_bearing s) (pc5_legs s) (pc5_length s) (pc5_ways s) (pc5_units s) (pc5_stuffOf s) (pc5_point s) (pc6_bytes s) (pc6_sizes s) (pc6_weights s) (pc3_size s) (pc3_rates s) (pc0_amounts s) (pc0_lows s) (pc0_highs s) (pc0_barred s) (pc1_lines s) (pc1_parts s) (pc2_above s) (pc2_below s)) ++ W8 cy ad8 t) rfl ?_
  refine r_aload_n hC dL_law_805 rfl 2 rfl ?_
  refine r_aload_n hC dL_law_806 rfl 0 rfl ?_
  refine r_iload_n hC dL_law_807 rfl 3 rfl ?_
  refine r_iconst hC dL_law_808 ic_1 ?_
  refine r_iadd hC dL_law_809 ?_
  refine r_sld hC hS (ix_in (k := 1) (by omega) hL) dL_law_810 ?_
  refine r_aload_n hC dL_law_811 rfl 0 rfl ?_
  refine r_iload_n hC dL_law_812 rfl 3 rfl ?_
  refine r_iconst hC dL_law_813 ic_2 ?_
  refine r_iadd hC dL_law_814 ?_
  refine r_sld hC hS (ix_in (k := 2) (by omega) hL) dL_law_815 ?_
  refine r_vi (st := [.int r]) hC (kX8_is l D cy ad8 (pc8_latest t) (pc8_asked t) (pc8_upper t) (pc8_lower t) (pc8_legs t) (pc8_units t) (pc8_rests t) (pc8_rates t) (pc8_lines t) (pc8_came t) (pc8_sizes t) (pc8_weights t) (pc8_growths t) (pc8_copied t) (pc8_legWay t) (pc8_legUnits t) (pc8_legStuff t) (pc8_unitWay t) (pc8_unitStuff t) (pc8_xs t) (pc8_ys t) (pc8_zs t) (pc8_kindOf t) (pc8_placeOf t) (pc8_rateOf t) (pc8_readOf t) (pc8_isGone t) (pc8_theList t) (pc8_amounts t) (pc8_low t) (pc8_high t) (pc8_barred t) (pc8_times t) (pc8_ranges t) ((xs (nI j + 1).toNatClampNeg)) ((xs (nI j + 2).toNatClampNeg)) h8) gL_law_X8_is rfl ⟨rfl, rfl⟩ ydX8_is ⟨(Nat.le_of_ble_eq_true rfl), (Nat.le_of_ble_eq_true rfl)⟩ ⟨Nat.le_refl 52, Nat.le_refl 1789⟩ 0 rfl rfl (W7 cy ad7 (mk7 z7_lastFound (pc7_lastAsked s) z7_found (pc4_made s) (pc4_kinds s) (pc4_places s) (pc4_rates s) (pc4_readings s) (pc4_bearing s) (pc5_legs s) (pc5_length s) (pc5_ways s) (pc5_units s) (pc5_stuffOf s) (pc5_point s) (pc6_bytes s) (pc6_sizes s) (pc6_weights s) (pc3_size s) (pc3_rates s) (pc0_amounts s) (pc0_lows s) (pc0_highs s) (pc0_barred s) (pc1_lines s) (pc1_parts s) (pc2_above s) (pc2_below s))) [] rfl _ rfl (Nat.le_of_ble_eq_true rfl) dL_law_816 (W7 cy ad7 (mk7 z7_lastFound (pc7_lastAsked s) z7_found (pc4_made s) (pc4_kinds s) (pc4_places s) (pc4_rates s) (pc4_readings s) (pc4_bearing s) (pc5_legs s) (pc5_length s) (pc5_ways s) (pc5_units s) (pc5_stuffOf s) (pc5_point s) (pc6_bytes s) (pc6_sizes s) (pc6_weights s) (pc3_size s) (pc3_rates s) (pc0_amounts s) (pc0_lows s) (pc0_highs s) (pc0_barred s) (pc1_lines s) (pc1_parts s) (pc2_above s) (pc2_below s)) ++ W8 cy ad8 (mk8 z8_latest (pc8_asked t) (pc8_upper t) (pc8_lower t) (pc8_legs t) (pc8_units t) (pc8_rests t) (pc8_rates t) (pc8_lines t) z8_came (pc8_sizes t) (pc8_weights t) (pc8_growths t) (pc8_copied t) (pc8_legWay t) (pc8_legUnits t) (pc8_legStuff t) (pc8_unitWay t) (pc8_unitStuff t) (pc8_xs t) (pc8_ys t) (pc8_zs t) (pc8_kindOf t) (pc8_placeOf t) (pc8_rateOf t) (pc8_readOf t) (pc8_isGone t) (pc8_theList t) (pc8_amounts t) (pc8_low t) (pc8_high t) (pc8_barred t) (pc8_times t) (pc8_ranges t))) rfl ?_
  refine r_icmp_eq (tgt := 1353) hC dL_law_819 (by decide) (fun _ => ?_) (fun c => absurd rfl c)
  exact next _ _ hR1
set_option maxHeartbeats 8000000 in
set_option maxRecDepth 100000 in
theorem law_lifts (X : CX) (l : Launch) (D : va_G) (cy : Nat → ClassId) (ad7 ad8 : Nat → Nat) (N : Nat) (Rel : S7 → S8 → Prop) (b L : Nat) (xs : Nat → Int32) (hC : OK X l D cy room_1 code 4 wsL_law RL) (hS : SC X b L xs) (hZ : ZL X.2.2.2.2.1) (j : Nat) (hj : j + 6 ≤ L) (hL : L ≤ 3072) (s : S7) (t : S8) (hR : Rel s t) (hop : op_lifts N Rel) (next : ∀ (s : S7) (t : S8), Rel s t → GG X 4 52 1789 (W7 cy ad7 s ++ W8 cy ad8 t) [(0, .ref b), (1, .ref (ad7 70)), (2, .ref (ad8 80)), (3, .int (nI j))] 1353 []) : GG X 4 52 1789 (W7 cy ad7 s ++ W8 cy ad8 t) [(0, .ref b), (1, .ref (ad7 70)), (2, .ref (ad8 80)), (3, .int (nI j))] 824 [] := by
  obtain ⟨r, z7_lastFound, z7_found, z8_latest, z8_came, h7, h8, hR1⟩ := hop s t hR ((xs (nI j + 1).toNatClampNeg)) ((xs (nI j + 2).toNatClampNeg))
  refine r_aload_n hC dL_law_824 rfl 1 rfl ?_
  refine r_aload_n hC dL_law_825 rfl 0 rfl ?_
  refine r_iload_n hC dL_law_826 rfl 3 rfl ?_
  refine r_iconst hC dL_law_827 ic_1 ?_
  refine r_iadd hC dL_law_828 ?_
  refine r_sld hC hS (ix_in (k := 1) (by omega) hL) dL_law_829 ?_
  refine r_aload_n hC dL_law_830 rfl 0 rfl ?_
  refine r_iload_n hC dL_law_831 rfl 3 rfl ?_
  refine r_iconst hC dL_law_832 ic_2 ?_
  refine r_iadd hC dL_law_833 ?_
  refine r_sld hC hS (ix_in (k := 2) (by omega) hL) dL_law_834 ?_
  refine r_vi (st := []) hC (kX7_lifts l D cy ad7 (pc7_lastFound s) (pc7_lastAsked s) (pc7_found s) (pc4_made s) (pc4_kinds s) (pc4_places s) (pc4_rates s) (pc4_readings s) (pc4_bearing s) (pc5_legs s) (pc5_length s) (pc5_ways s) (pc5_units s) (pc5_stuffOf s) (pc5_point s) (pc6_bytes s) (pc6_sizes s) (pc6_weights s) (pc3_size s) (pc3_rates s) (pc0_amounts s) (pc0_lows s) (pc0_highs s) (pc0_barred s) (pc1_lines s) (pc1_parts s) (pc2_above s) (pc2_below s) ((xs (nI j + 1).toNatClampNeg)) ((xs (nI j + 2).toNatClampNeg)) N h7) gL_law_X7_lifts rfl ⟨rfl, rfl⟩ ydX7_lifts ⟨(Nat.le_of_ble_eq_true rfl), (Nat.le_of_ble_eq_true rfl)⟩ ⟨Nat.le_refl 52, Nat.le_refl 1789⟩ 0 rfl rfl [] (W8 cy ad8 t) rfl _ rfl (Nat.le_of_ble_eq_true rfl) dL_law_835 (W7 cy ad7 (mk7 z7_lastFound (pc7_lastAsked s) z7_found (pc4_made s) (pc4_kinds s) (pc4_places s) (pc4_rates s) (pc4_readings s) (pc4_bearing s) (pc5_legs s) (pc5_length s) (pc5_ways s) (pc5_units s) (pc5_stuffOf s) (pc5_point s) (pc6_bytes s) (pc6_sizes s) (pc6_weights s) (pc3_size s) (pc3_rates s) (pc0_amounts s) (pc0_lows s) (pc0_highs s) (pc0_barred s) (pc1_lines s) (pc1_parts s) (pc2_above s) (pc2_below s)) ++ W8 cy ad8 t) rfl ?_
  refine r_aload_n hC dL_law_838 rfl 2 rfl ?_
  refine r_aload_n hC dL_law_839 rfl 0 rfl ?_
  refine r_iload_n hC dL_law_840 rfl 3 rfl ?_
  refine r_iconst hC dL_law_841 ic_1 ?_
  refine r_iadd hC dL_law_842 ?_
  refine r_sld hC hS (ix_in (k := 1) (by omega) hL) dL_law_843 ?_
  refine r_aload_n hC dL_law_844 rfl 0 rfl ?_
  refine r_iload_n hC dL_law_845 rfl 3 rfl ?_
  refine r_iconst hC dL_law_846 ic_2 ?_
  refine r_iadd hC dL_law_847 ?_
  refine r_sld hC hS (ix_in (k := 2) (by omega) hL) dL_law_848 ?_
  refine r_vi (st := [.int r]) hC (kX8_lifts l D cy ad8 (pc8_latest t) (pc8_asked t) (pc8_upper t) (pc8_lower t) (pc8_legs t) (pc8_units t) (pc8_rests t) (pc8_rates t) (pc8_lines t) (pc8_came t) (pc8_sizes t) (pc8_weights t) (pc8_growths t) (pc8_copied t) (pc8_legWay t) (pc8_legUnits t) (pc8_legStuff t) (pc8_unitWay t) (pc8_unitStuff t) (pc8_xs t) (pc8_ys t) (pc8_zs t) (pc8_kindOf t) (pc8_placeOf t) (pc8_rateOf t) (pc8_readOf t) (pc8_isGone t) (pc8_theList t) (pc8_amounts t) (pc8_low t) (pc8_high t) (pc8_barred t) (pc8_times t) (pc8_ranges t) ((xs (nI j + 1).toNatClampNeg)) ((xs (nI j + 2).toNatClampNeg)) N h8) gL_law_X8_lifts rfl ⟨rfl, rfl⟩ ydX8_lifts ⟨(Nat.le_of_ble_eq_true rfl), (Nat.le_of_ble_eq_true rfl)⟩ ⟨Nat.le_refl 52, Nat.le_refl 1789⟩ 0 rfl rfl (W7 cy ad7 (mk7 z7_lastFound (pc7_lastAsked s) z7_found (pc4_made s) (pc4_kinds s) (pc4_places s) (pc4_rates s) (pc4_readings s) (pc4_bearing s) (pc5_legs s) (pc5_length s) (pc5_ways s) (pc5_units s) (pc5_stuffOf s) (pc5_point s) (pc6_bytes s) (pc6_sizes s) (pc6_weights s) (pc3_size s) (pc3_rates s) (pc0_amounts s) (pc0_lows s) (pc0_highs s) (pc0_barred s) (pc1_lines s) (pc1_parts s) (pc2_above s) (pc2_below s))) [] rfl _ rfl (Nat.le_of_ble_eq_true rfl) dL_law_849 (W7 cy ad7 (mk7 z7_lastFound (pc7_lastAsked s) z7_found (pc4_made s) (pc4_kinds s) (pc4_places s) (pc4_rates s) (pc4_readings s) (pc4_bearing s) (pc5_legs s) (pc5_length s) (pc5_ways s) (pc5_units s) (pc5_stuffOf s) (pc5_point s) (pc6_bytes s) (pc6_sizes s) (pc6_weights s) (pc3_size s) (pc3_rates s) (pc0_amounts s) (pc0_lows s) (pc0_highs s) (pc0_barred s) (pc1_lines s) (pc1_parts s) (pc2_above s) (pc2_below s)) ++ W8 cy ad8 (mk8 z8_latest (pc8_asked t) (pc8_upper t) (pc8_lower t) (pc8_legs t) (pc8_units t) (pc8_rests t) (pc8_rates t) (pc8_lines t) z8_came (pc8_sizes t) (pc8_weights t) (pc8_growths t) (pc8_copied t) (pc8_legWay t) (pc8_legUnits t) (pc8_legStuff t) (pc8_unitWay t) (pc8_unitStuff t) (pc8_xs t) (pc8_ys t) (pc8_zs t) (pc8_kindOf t) (pc8_placeOf t) (pc8_rateOf t) (pc8_readOf t) (pc8_isGone t) (pc8_theList t) (pc8_amounts t) (pc8_low t) (pc8_high t) (pc8_barred t) (pc8_times t) (pc8_ranges t))) rfl ?_
  refine r_icmp_eq (tgt := 1353) hC dL_law_852 (by decide) (fun _ => ?_) (fun c => absurd rfl c)
  exact next _ _ hR1
set_option maxHeartbeats 8000000 in
set_option maxRecDepth 100000 in
theorem law_load (X : CX) (l : Launch) (D : va_G) (cy : Nat → ClassId) (ad7 ad8 : Nat → Nat) (N : Nat) (Rel : S7 → S8 → Prop) (b L : Nat) (xs : Nat → Int32) (hC : OK X l D cy room_1 code 4 wsL_law RL) (hS : SC X b L xs) (hZ : ZL X.2.2.2.2.1) (j : Nat) (hj : j + 6 ≤ L) (hL : L ≤ 3072) (s : S7) (t : S8) (hR : Rel s t) (hop : op_load N Rel) (next : ∀ (s : S7) (t : S8), Rel s t → GG X 4 52 1789 (W7 cy ad7 s ++ W8 cy ad8 t) [(0, .ref b), (1, .ref (ad7 70)), (2, .ref (ad8 80)), (3, .int (nI j))] 1353 []) : GG X 4 52 1789 (W7 cy ad7 s ++ W8 cy ad8 t) [(0, .ref b), (1, .ref (ad7 70)), (2, .ref (ad8 80)), (3, .int (nI j))] 857 [] := by
  obtain ⟨r, z7_lastFound, z7_found, z4_bearing, z2_above, z2_below, z8_latest, z8_upper, z8_lower, z8_came, h7, h8, hR1⟩ := hop s t hR ((xs (nI j + 1).toNatClampNeg)) ((xs (nI j + 2).toNatClampNeg))
  refine r_aload_n hC dL_law_857 rfl 1 rfl ?_
  refine r_aload_n hC dL_law_858 rfl 0 rfl ?_
  refine r_iload_n hC dL_law_859 rfl 3 rfl ?_
  refine r_iconst hC dL_law_860 ic_1 ?_
  refine r_iadd hC dL_law_861 ?_
  refine r_sld hC hS (ix_in (k := 1) (by omega) hL) dL_law_862 ?_
  refine r_aload_n hC dL_law_863 rfl 0 rfl ?_
  refine r_iload_n hC dL_law_864 rfl 3 rfl ?_
  refine r_iconst hC dL_law_865 ic_2 ?_
  refine r_iadd hC dL_law_866 ?_
  refine r_sld hC hS (ix_in (k := 2) (by omega) hL) dL_law_867 ?_
  refine r_vi (st := []) hC (kX7_load l D cy ad7 (pc7_lastFound s) (pc7_lastAsked s) (pc7_found s) (pc4_made s) (pc4_kinds s) (pc4_places s) (pc4_rates s) (pc4_readings s) (pc4_bearing s) (pc5_legs s) (pc5_length s) (pc5_ways s) (pc5_units s) (pc5_stuffOf s) (pc5_point s) (pc6_bytes s) (pc6_sizes s) (pc6_weights s) (pc3_size s) (pc3_rates s) (pc0_amounts s) (pc0_lows s) (pc0_highs s) (pc0_barred s) (pc1_lines s) (pc1_parts s) (pc2_above s) (pc2_below s) ((xs (nI j + 1).toNatClampNeg)) ((xs (nI j + 2).toNatClampNeg)) N h7) gL_law_X7_load rfl ⟨rfl, rfl⟩ ydX7_load ⟨(Nat.le_of_ble_eq_true rfl), (Nat.le_of_ble_eq_true rfl)⟩ ⟨Nat.le_refl 52, Nat.le_refl 1789⟩ 0 rfl rfl [] (W8 cy ad8 t) rfl _ rfl (Nat.le_of_ble_eq_true rfl) dL_law_868 (W7 cy ad7 (mk7 z7_lastFound (pc7_lastAsked s) z7_found (pc4_made s) (pc4_kinds s) (pc4_places s) (pc4_rates s) (pc4_readings s) z4_bearing (pc5_legs s) (pc5_length s) (pc5_ways s) (pc5_units s) (pc5_stuffOf s) (pc5_point s) (pc6_bytes s) (pc6_sizes s) (pc6_weights s) (pc3_size s) (pc3_rates s) (pc0_amounts s) (pc0_lows s) (pc0_highs s) (pc0_barred s) (pc1_lines s) (pc1_parts s) z2_above z2_below) ++ W8 cy ad8 t) rfl ?_
  refine r_aload_n hC dL_law_871 rfl 2 rfl ?_
  refine r_aload_n hC dL_law_872 rfl 0 rfl ?_
  refine r_iload_n hC dL_law_873 rfl 3 rfl ?_
  refine r_iconst hC dL_law_874 ic_1 ?_
  refine r_iadd hC dL_law_875 ?_
  refine r_sld hC hS (ix_in (k := 1) (by omega) hL) dL_law_876 ?_
  refine r_aload_n hC dL_law_877 rfl 0 rfl ?_
  refine r_iload_n hC dL_law_878 rfl 3 rfl ?_
  refine r_iconst hC dL_law_879 ic_2 ?_
  refine r_iadd hC dL_law_880 ?_
  refine r_sld hC hS (ix_in (k := 2) (by omega) hL) dL_law_881 ?_
  refine r_vi (st := [.int r]) hC (kX8_load l D cy ad8 (pc8_latest t) (pc8_asked t) (pc8_upper t) (pc8_lower t) (pc8_legs t) (pc8_units t) (pc8_rests t) (pc8_rates t) (pc8_lines t) (pc8_came t) (pc8_sizes t) (pc8_weights t) (pc8_growths t) (pc8_copied t) (pc8_legWay t) (pc8_legUnits t) (pc8_legStuff t) (pc8_unitWay t) (pc8_unitStuff t) (pc8_xs t) (pc8_ys t) (pc8_zs t) (pc8_kindOf t) (pc8_placeOf t) (pc8_rateOf t) (pc8_readOf t) (pc8_isGone t) (pc8_theList t) (pc8_amounts t) (pc8_low t) (pc8_high t) (pc8_barred t) (pc8_times t) (pc8_ranges t) ((xs (nI j + 1).toNatClampNeg)) ((xs (nI j + 2).toNatClampNeg)) N h8) gL_law_X8_load rfl ⟨rfl, rfl⟩ ydX8_load ⟨(Nat.le_of_ble_eq_true rfl), (Nat.le_of_ble_eq_true rfl)⟩ ⟨Nat.le_refl 52, Nat.le_refl 1789⟩ 0 rfl rfl (W7 cy ad7 (mk7 z7_lastFound (pc7_lastAsked s) z7_found (pc4_made s) (pc4_kinds s) (pc4_places s) (pc4_rates s) (pc4_readings s) z4_bearing (pc5_legs s) (pc5_length s) (pc5_ways s) (pc5_units s) (pc5_stuffOf s) (pc5_point s) (pc6_bytes s) (pc6_sizes s) (pc6_weights s) (pc3_size s) (pc3_rates s) (pc0_amounts s) (pc0_lows s) (pc0_highs s) (pc0_barred s) (pc1_lines s) (pc1_parts s) z2_above z2_below)) [] rfl _ rfl (Nat.le_of_ble_eq_true rfl) dL_law_882 (W7 cy ad7 (mk7 z7_lastFound (pc7_lastAsked s) z7_found (pc4_made s) (pc4_kinds s) (pc4_places s) (pc4_rates s) (pc4_readings s) z4_bearing (pc5_legs s) (pc5_length s) (pc5_ways s) (pc5_units s) (pc5_stuffOf s) (pc5_point s) (pc6_bytes s) (pc6_sizes s) (pc6_weights s) (pc3_size s) (pc3_rates s) (pc0_amounts s) (pc0_lows s) (pc0_highs s) (pc0_barred s) (pc1_lines s) (pc1_parts s) z2_above z2_below) ++ W8 cy ad8 (mk8 z8_latest (pc8_asked t) z8_upper z8_lower (pc8_legs t) (pc8_units t) (pc8_rests t) (pc8_rates t) (pc8_lines t) z8_came (pc8_sizes t) (pc8_weights t) (pc8_growths t) (pc8_copied t) (pc8_legWay t) (pc8_legUnits t) (pc8_legStuff t) (pc8_unitWay t) (pc8_unitStuff t) (pc8_xs t) (pc8_ys t) (pc8_zs t) (pc8_kindOf t) (pc8_placeOf t) (pc8_rateOf t) (pc8_readOf t) (pc8_isGone t) (pc8_theList t) (pc8_amounts t) (pc8_low t) (pc8_high t) (pc8_barred t) (pc8_times t) (pc8_ranges t))) rfl ?_
  refine r_icmp_eq (tgt := 1353) hC dL_law_885 (by decide) (fun _ => ?_) (fun c => absurd rfl c)
  exact next _ _ hR1
set_option maxHeartbeats 8000000 in
set_option maxRecDepth 100000 in
theorem law_change (X : CX) (l : Launch) (D : va_G) (cy : Nat → ClassId) (ad7 ad8 : Nat → Nat) (N : Nat) (Rel : S7 → S8 → Prop) (b L : Nat) (xs : Nat → Int32) (hC : OK X l D cy room_1 code 4 wsL_law RL) (hS : SC X b L xs) (hZ : ZL X.2.2.2.2.1) (j : Nat) (hj : j + 6 ≤ L) (hL : L ≤ 3072) (s : S7) (t : S8) (hR : Rel s t) (hop : op_change N Rel) (next : ∀ (s : S7) (t : S8), Rel s t → GG X 4 52 1789 (W7 cy ad7 s ++ W8 cy ad8 t) [(0, .ref b), (1, .ref (ad7 70)), (2, .ref (ad8 80)), (3, .int (nI j))] 1353 []) : GG X 4 52 1789 (W7 cy ad7 s ++ W8 cy ad8 t) [(0, .ref b), (1, .ref (ad7 70)), (2, .ref (ad8 80)), (3, .int (nI j))] 890 [] := by
  obtain ⟨r, z7_lastFound, z7_found, z2_above, z2_below, z8_latest, z8_upper, z8_lower, z8_came, h7, h8, hR1⟩ := hop s t hR ((xs (nI j + 1).toNatClampNeg)) ((xs (nI j + 2).toNatClampNeg))
  refine r_aload_n hC dL_law_890 rfl 1 rfl ?_
  refine r_aload_n hC dL_law_891 rfl 0 rfl ?_
  refine r_iload_n hC dL_law_892 rfl 3 rfl ?_
  refine r_iconst hC dL_law_893 ic_1 ?_
  refine r_iadd hC dL_law_894 ?_
  refine r_sld hC hS (ix_in (k := 1) (by omega) hL) dL_law_895 ?_
  refine r_aload_n hC dL_law_896 rfl 0 rfl ?_
  refine r_iload_n hC dL_law_897 rfl 3 rfl ?_
  refine r_iconst hC dL_law_898 ic_2 ?_
  refine r_iadd hC dL_law_899 ?_
  refine r_sld hC hS (ix_in (k := 2) (by omega) hL) dL_law_900 ?_
  refine r_vi (st := []) hC (kX7_change l D cy ad7 (pc7_lastFound s) (pc7_lastAsked s) (pc7_found s) (pc4_made s) (pc4_kinds s) (pc4_places s) (pc4_rates s) (pc4_readings s) (pc4_bearing s) (pc5_legs s) (pc5_length s) (pc5_ways s) (pc5_units s) (pc5_stuffOf s) (pc5_point s) (pc6_bytes s) (pc6_sizes s) (pc6_weights s) (pc3_size s) (pc3_rates s) (pc0_amounts s) (pc0_lows s) (pc0_highs s) (pc0_barred s) (pc1_lines s) (pc1_parts s) (pc2_above s) (pc2_below s) ((xs (nI j + 1).toNatClampNeg)) ((xs (nI j + 2).toNatClampNeg)) N h7) gL_law_X7_change rfl ⟨rfl, rfl⟩ ydX7_change ⟨(Nat.le_of_ble_eq_true rfl), (Nat.le_of_ble_eq_true rfl)⟩ ⟨Nat.le_refl 52, Nat.le_refl 1789⟩ 0 rfl rfl [] (W8 cy ad8 t) rfl _ rfl (Nat.le_of_ble_eq_true rfl) dL_law_901 (W7 cy ad7 (mk7 z7_lastFound (pc7_lastAsked s) z7_found (pc4_made s) (pc4_kinds s) (pc4_places s) (pc4_rates s) (pc4_readings s) (pc4_bearing s) (pc5_legs s) (pc5_length s) (pc5_ways s) (pc5_units s) (pc5_stuffOf s) (pc5_point s) (pc6_bytes s) (pc6_sizes s) (pc6_weights s) (pc3_size s) (pc3_rates s) (pc0_amounts s) (pc0_lows s) (pc0_highs s) (pc0_barred s) (pc1_lines s) (pc1_parts s) z2_above z2_below) ++ W8 cy ad8 t) rfl ?_
  refine r_aload_n hC dL_law_904 rfl 2 rfl ?_
  refine r_aload_n hC dL_law_905 rfl 0 rfl ?_
  refine r_iload_n hC dL_law_906 rfl 3 rfl ?_
  refine r_iconst hC dL_law_907 ic_1 ?_
  refine r_iadd hC dL_law_908 ?_
  refine r_sld hC hS (ix_in (k := 1) (by omega) hL) dL_law_909 ?_
  refine r_aload_n hC dL_law_910 rfl 0 rfl ?_
  refine r_iload_n hC dL_law_911 rfl 3 rfl ?_
  refine r_iconst hC dL_law_912 ic_2 ?_
  refine r_iadd hC dL_law_913 ?_
  refine r_sld hC hS (ix_in (k := 2) (by omega) hL) dL_law_914 ?_
  refine r_vi (st := [.int r]) hC (kX8_change l D cy ad8 (pc8_latest t) (pc8_asked t) (pc8_upper t) (pc8_lower t) (pc8_legs t) (pc8_units t) (pc8_rests t) (pc8_rates t) (pc8_lines t) (pc8_came t) (pc8_sizes t) (pc8_weights t) (pc8_growths t) (pc8_copied t) (pc8_legWay t) (pc8_legUnits t) (pc8_legStuff t) (pc8_unitWay t) (pc8_unitStuff t) (pc8_xs t) (pc8_ys t) (pc8_zs t) (pc8_kindOf t) (pc8_placeOf t) (pc8_rateOf t) (pc8_readOf t) (pc8_isGone t) (pc8_theList t) (pc8_amounts t) (pc8_low t) (pc8_high t) (pc8_barred t) (pc8_times t) (pc8_ranges t) ((xs (nI j + 1).toNatClampNeg)) ((xs (nI j + 2).toNatClampNeg)) N h8) gL_law_X8_change rfl ⟨rfl, rfl⟩ ydX8_change ⟨(Nat.le_of_ble_eq_true rfl), (Nat.le_of_ble_eq_true rfl)⟩ ⟨Nat.le_refl 52, Nat.le_refl 1789⟩ 0 rfl rfl (W7 cy ad7 (mk7 z7_lastFound (pc7_lastAsked s) z7_found (pc4_made s) (pc4_kinds s) (pc4_places s) (pc4_rates s) (pc4_readings s) (pc4_bearing s) (pc5_legs s) (pc5_length s) (pc5_ways s) (pc5_units s) (pc5_stuffOf s) (pc5_point s) (pc6_bytes s) (pc6_sizes s) (pc6_weights s) (pc3_size s) (pc3_rates s) (pc0_amounts s) (pc0_lows s) (pc0_highs s) (pc0_barred s) (pc1_lines s) (pc1_parts s) z2_above z2_below)) [] rfl _ rfl (Nat.le_of_ble_eq_true rfl) dL_law_915 (W7 cy ad7 (mk7 z7_lastFound (pc7_lastAsked s) z7_found (pc4_made s) (pc4_kinds s) (pc4_places s) (pc4_rates s) (pc4_readings s) (pc4_bearing s) (pc5_legs s) (pc5_length s) (pc5_ways s) (pc5_units s) (pc5_stuffOf s) (pc5_point s) (pc6_bytes s) (pc6_sizes s) (pc6_weights s) (pc3_size s) (pc3_rates s) (pc0_amounts s) (pc0_lows s) (pc0_highs s) (pc0_barred s) (pc1_lines s) (pc1_parts s) z2_above z2_below) ++ W8 cy ad8 (mk8 z8_latest (pc8_asked t) z8_upper z8_lower (pc8_legs t) (pc8_units t) (pc8_rests t) (pc8_rates t) (pc8_lines t) z8_came (pc8_sizes t) (pc8_weights t) (pc8_growths t) (pc8_copied t) (pc8_legWay t) (pc8_legUnits t) (pc8_legStuff t) (pc8_unitWay t) (pc8_unitStuff t) (pc8_xs t) (pc8_ys t) (pc8_zs t) (pc8_kindOf t) (pc8_placeOf t) (pc8_rateOf t) (pc8_readOf t) (pc8_isGone t) (pc8_theList t) (pc8_amounts t) (pc8_low t) (pc8_high t) (pc8_barred t) (pc8_times t) (pc8_ranges t))) rfl ?_
  refine r_icmp_eq (tgt := 1353) hC dL_law_918 (by decide) (fun _ => ?_) (fun c => absurd rfl c)
  exact next _ _ hR1
set_option maxHeartbeats 8000000 in
set_option maxRecDepth 100000 in
theorem law_firm (X : CX) (l : Launch) (D : va_G) (cy : Nat → ClassId) (ad7 ad8 : Nat → Nat) (N : Nat) (Rel : S7 → S8 → Prop) (b L : Nat) (xs : Nat → Int32) (hC : OK X l D cy room_1 code 4 wsL_law RL) (hS : SC X b L xs) (hZ : ZL X.2.2.2.2.1) (j : Nat) (hj : j + 6 ≤ L) (hL : L ≤ 3072) (s : S7) (t : S8) (hR : Rel s t) (hop : op_firm N Rel) (next : ∀ (s : S7) (t : S8), Rel s t → GG X 4 52 1789 (W7 cy ad7 s ++ W8 cy ad8 t) [(0, .ref b), (1, .ref (ad7 70)), (2, .ref (ad8 80)), (3, .int (nI j))] 1353 []) : GG X 4 52 1789 (W7 cy ad7 s ++ W8 cy ad8 t) [(0, .ref b), (1, .ref (ad7 70)), (2, .ref (ad8 80)), (3, .int (nI j))] 923 [] := by
  obtain ⟨r, z7_lastFound, z7_found, z4_bearing, z2_above, z2_below, z8_latest, z8_upper, z8_lower, z8_came, h7, h8, hR1⟩ := hop s t hR ((xs (nI j + 1).toNatClampNeg)) ((xs (nI j + 2).toNatClampNeg))
  refine r_aload_n hC dL_law_923 rfl 1 rfl ?_
  refine r_aload_n hC dL_law_924 rfl 0 rfl ?_
  refine r_iload_n hC dL_law_925 rfl 3 rfl ?_
  refine r_iconst hC dL_law_926 ic_1 ?_
  refine r_iadd hC dL_law_927 ?_
  refine r_sld hC hS (ix_in (k := 1) (by omega) hL) dL_law_928 ?_
  refine r_aload_n hC dL_law_929 rfl 0 rfl ?_
  refine r_iload_n hC dL_law_930 rfl 3 rfl ?_
  refine r_iconst hC dL_law_931 ic_2 ?_
  refine r_iadd hC dL_law_932 ?_
  refine r_sld hC hS (ix_in (k := 2) (by omega) hL) dL_law_933 ?_
  refine r_vi (st := []) hC (kX7_firm l D cy ad7 (pc7_lastFound s) (pc7_lastAsked s) (pc7_found s) (pc4_made s) (pc4_kinds s) (pc4_places s) (pc4_rates s) (pc4_readings s) (pc4_bearing s) (pc5_legs s) (pc5_length s) (pc5_ways s) (pc5_units s) (pc5_stuffOf s) (pc5_point s) (pc6_bytes s) (pc6_sizes s) (pc6_weights s) (pc3_size s) (pc3_rates s) (pc0_amounts s) (pc0_lows s) (pc0_highs s) (pc0_barred s) (pc1_lines s) (pc1_parts s) (pc2_above s) (pc2_below s) ((xs (nI j + 1).toNatClampNeg)) ((xs (nI j + 2).toNatClampNeg)) N h7) gL_law_X7_firm rfl ⟨rfl, rfl⟩ ydX7_firm ⟨(Nat.le_of_ble_eq_true rfl), (Nat.le_of_ble_eq_true rfl)⟩ ⟨Nat.le_refl 52, Nat.le_refl 1789⟩ 0 rfl rfl [] (W8 cy ad8 t) rfl _ rfl (Nat.le_of_ble_eq_true rfl) dL_law_934 (W7 cy ad7 (mk7 z7_lastFound (pc7_lastAsked s) z7_found (pc4_made s) (pc4_kinds s) (pc4_places s) (pc4_rates s) (pc4_readings s) z4_bearing (pc5_legs s) (pc5_length s) (pc5_ways s) (pc5_units s) (pc5_stuffOf s) (pc5_point s) (pc6_bytes s) (pc6_sizes s) (pc6_weights s) (pc3_size s) (pc3_rates s) (pc0_amounts s) (pc0_lows s) (pc0_highs s) (pc0_barred s) (pc1_lines s) (pc1_parts s) z2_above z2_below) ++ W8 cy ad8 t) rfl ?_
  refine r_aload_n hC dL_law_937 rfl 2 rfl ?_
  refine r_aload_n hC dL_law_938 rfl 0 rfl ?_
  refine r_iload_n hC dL_law_939 rfl 3 rfl ?_
  refine r_iconst hC dL_law_940 ic_1 ?_
  refine r_iadd hC dL_law_941 ?_
  refine r_sld hC hS (ix_in (k := 1) (by omega) hL) dL_law_942 ?_
  refine r_aload_n hC dL_law_943 rfl 0 rfl ?_
  refine r_iload_n hC dL_law_944 rfl 3 rfl ?_
  refine r_iconst hC dL_law_945 ic_2 ?_
  refine r_iadd hC dL_law_946 ?_
  refine r_sld hC hS (ix_in (k := 2) (by omega) hL) dL_law_947 ?_
  refine r_vi (st := [.int r]) hC (kX8_firm l D cy ad8 (pc8_latest t) (pc8_asked t) (pc8_upper t) (pc8_lower t) (pc8_legs t) (pc8_units t) (pc8_rests t) (pc8_rates t) (pc8_lines t) (pc8_came t) (pc8_sizes t) (pc8_weights t) (pc8_growths t) (pc8_copied t) (pc8_legWay t) (pc8_legUnits t) (pc8_legStuff t) (pc8_unitWay t) (pc8_unitStuff t) (pc8_xs t) (pc8_ys t) (pc8_zs t) (pc8_kindOf t) (pc8_placeOf t) (pc8_rateOf t) (pc8_readOf t) (pc8_isGone t) (pc8_theList t) (pc8_amounts t) (pc8_low t) (pc8_high t) (pc8_barred t) (pc8_times t) (pc8_ranges t) ((xs (nI j + 1).toNatClampNeg)) ((xs (nI j + 2).toNatClampNeg)) N h8) gL_law_X8_firm rfl ⟨rfl, rfl⟩ ydX8_firm ⟨(Nat.le_of_ble_eq_true rfl), (Nat.le_of_ble_eq_true rfl)⟩ ⟨Nat.le_refl 52, Nat.le_refl 1789⟩ 0 rfl rfl (W7 cy ad7 (mk7 z7_lastFound (pc7_lastAsked s) z7_found (pc4_made s) (pc4_kinds s) (pc4_places s) (pc4_rates s) (pc4_readings s) z4_bearing (pc5_legs s) (pc5_length s) (pc5_ways s) (pc5_units s) (pc5_stuffOf s) (pc5_point s) (pc6_bytes s) (pc6_sizes s) (pc6_weights s) (pc3_size s) (pc3_rates s) (pc0_amounts s) (pc0_lows s) (pc0_highs s) (pc0_barred s) (pc1_lines s) (pc1_parts s) z2_above z2_below)) [] rfl _ rfl (Nat.le_of_ble_eq_true rfl) dL_law_948 (W7 cy ad7 (mk7 z7_lastFound (pc7_lastAsked s) z7_found (pc4_made s) (pc4_kinds s) (pc4_places s) (pc4_rates s) (pc4_readings s) z4_bearing (pc5_legs s) (pc5_length s) (pc5_ways s) (pc5_units s) (pc5_stuffOf s) (pc5_point s) (pc6_bytes s) (pc6_sizes s) (pc6_weights s) (pc3_size s) (pc3_rates s) (pc0_amounts s) (pc0_lows s) (pc0_highs s) (pc0_barred s) (pc1_lines s) (pc1_parts s) z2_above z2_below) ++ W8 cy ad8 (mk8 z8_latest (pc8_asked t) z8_upper z8_lower (pc8_legs t) (pc8_units t) (pc8_rests t) (pc8_rates t) (pc8_lines t) z8_came (pc8_sizes t) (pc8_weights t) (pc8_growths t) (pc8_copied t) (pc8_legWay t) (pc8_legUnits t) (pc8_legStuff t) (pc8_unitWay t) (pc8_unitStuff t) (pc8_xs t) (pc8_ys t) (pc8_zs t) (pc8_kindOf t) (pc8_placeOf t) (pc8_rateOf t) (pc8_readOf t) (pc8_isGone t) (pc8_theList t) (pc8_amounts t) (pc8_low t) (pc8_high t) (pc8_barred t) (pc8_times t) (pc8_ranges t))) rfl ?_
  refine r_icmp_eq (tgt := 1353) hC dL_law_951 (by decide) (fun _ => ?_) (fun c => absurd rfl c)
  exact next _ _ hR1
set_option maxHeartbeats 8000000 in
set_option maxRecDepth 100000 in
theorem law_list (X : CX) (l : Launch) (D : va_G) (cy : Nat → ClassId) (ad7 ad8 : Nat → Nat) (N : Nat) (Rel : S7 → S8 → Prop) (b L : Nat) (xs : Nat → Int32) (hC : OK X l D cy room_1 code 4 wsL_law RL) (hS : SC X b L xs) (hZ : ZL X.2.2.2.2.1) (j : Nat) (hj : j + 6 ≤ L) (hL : L ≤ 3072) (s : S7) (t : S8) (hR : Rel s t) (hop : op_list N Rel) (next : ∀ (s : S7) (t : S8), Rel s t → GG X 4 52 1789 (W7 cy ad7 s ++ W8 cy ad8 t) [(0, .ref b), (1, .ref (ad7 70)), (2, .ref (ad8 80)), (3, .int (nI j))] 1353 []) : GG X 4 52 1789 (W7 cy ad7 s ++ W8 cy ad8 t) [(0, .ref b), (1, .ref (ad7 70)), (2, .ref (ad8 80)), (3, .int (nI j))] 956 [] := by
  obtain ⟨r, z3_size, z3_rates, z8_rates, z8_theList, h7, h8, hR1⟩ := hop s t hR ((xs (nI j + 1).toNatClampNeg))
  refine r_aload_n hC dL_law_956 rfl 1 rfl ?_
  refine r_aload_n hC dL_law_957 rfl 0 rfl ?_
  refine r_iload_n hC dL_law_958 rfl 3 rfl ?_
  refine r_iconst hC dL_law_959 ic_1 ?_
  refine r_iadd hC dL_law_960 ?_
  refine r_sld hC hS (ix_in (k := 1) (by omega) hL) dL_law_961 ?_
  refine r_vi (st := []) hC (kX7_list l D cy ad7 (pc7_lastFound s) (pc7_lastAsked s) (pc7_found s) (pc4_made s) (pc4_kinds s) (pc4_places s) (pc4_rates s) (pc4_readings s) (pc4_bearing s) (pc5_legs s) (pc5_length s) (pc5_ways s) (pc5_units s) (pc5_stuffOf s) (pc5_point s) (pc6_bytes s) (pc6_sizes s) (pc6_weights s) (pc3_size s) (pc3_rates s) (pc0_amounts s) (pc0_lows s) (pc0_highs s) (pc0_barred s) (pc1_lines s) (pc1_parts s) (pc2_above s) (pc2_below s) ((xs (nI j + 1).toNatClampNeg)) h7) gL_law_X7_list rfl ⟨rfl, rfl⟩ ydX7_list ⟨(Nat.le_of_ble_eq_true rfl), (Nat.le_of_ble_eq_true rfl)⟩ ⟨Nat.le_refl 52, Nat.le_refl 1789⟩ 0 rfl rfl [] (W8 cy ad8 t) rfl _ rfl (Nat.le_of_ble_eq_true rfl) dL_law_962 (W7 cy ad7 (mk7 (pc7_lastFound s) (pc7_lastAsked s) (pc7_found s) (pc4_made s) (pc4_kinds s) (pc4_places s) (pc4_rates s) (pc4_readings s) (pc4_bearing s) (pc5_legs s) (pc5_length s) (pc5_ways s) (pc5_units s) (pc5_stuffOf s) (pc5_point s) (pc6_bytes s) (pc6_sizes s) (pc6_weights s) z3_size z3_rates (pc0_amounts s) (pc0_lows s) (pc0_highs s) (pc0_barred s) (pc1_lines s) (pc1_parts s) (pc2_above s) (pc2_below s)) ++ W8 cy ad8 t) rfl ?_
  refine r_aload_n hC dL_law_965 rfl 2 rfl ?_
  refine r_aload_n hC dL_law_966 rfl 0 rfl ?_
  refine r_iload_n hC dL_law_967 rfl 3 rfl ?_
  refine r_iconst hC dL_law_968 ic_1 ?_
  refine r_iadd hC dL_law_969 ?_
  refine r_sld hC hS (ix_in (k := 1) (by omega) hL) dL_law_970 ?_
  refine r_vi (st := [.int r]) hC (kX8_list l D cy ad8 (pc8_latest t) (pc8_asked t) (pc8_upper t) (pc8_lower t) (pc8_legs t) (pc8_units t) (pc8_rests t) (pc8_rates t) (pc8_lines t) (pc8_came t) (pc8_sizes t) (pc8_weights t) (pc8_growths t) (pc8_copied t) (pc8_legWay t) (pc8_legUnits t) (pc8_legStuff t) (pc8_unitWay t) (pc8_unitStuff t) (pc8_xs t) (pc8_ys t) (pc8_zs t) (pc8_kindOf t) (pc8_placeOf t) (pc8_rateOf t) (pc8_readOf t) (pc8_isGone t) (pc8_theList t) (pc8_amounts t) (pc8_low t) (pc8_high t) (pc8_barred t) (pc8_times t) (pc8_ranges t) ((xs (nI j + 1).toNatClampNeg)) h8) gL_law_X8_list rfl ⟨rfl, rfl⟩ ydX8_list ⟨(Nat.le_of_ble_eq_true rfl), (Nat.le_of_ble_eq_true rfl)⟩ ⟨Nat.le_refl 52, Nat.le_refl 1789⟩ 0 rfl rfl (W7 cy ad7 (mk7 (pc7_lastFound s) (pc7_lastAsked s) (pc7_found s) (pc4_made s) (pc4_kinds s) (pc4_places s) (pc4_rates s) (pc4_readings s) (pc4_bearing s) (pc5_legs s) (pc5_length s) (pc5_ways s) (pc5_units s) (pc5_stuffOf s) (pc5_point s) (pc6_bytes s) (pc6_sizes s) (pc6_weights s) z3_size z3_rates (pc0_amounts s) (pc0_lows s) (pc0_highs s) (pc0_barred s) (pc1_lines s) (pc1_parts s) (pc2_above s) (pc2_below s))) [] rfl _ rfl (Nat.le_of_ble_eq_true rfl) dL_law_971 (W7 cy ad7 (mk7 (pc7_lastFound s) (pc7_lastAsked s) (pc7_found s) (pc4_made s) (pc4_kinds s) (pc4_places s) (pc4_rates s) (pc4_readings s) (pc4_bearing s) (pc5_legs s) (pc5_length s) (pc5_ways s) (pc5_units s) (pc5_stuffOf s) (pc5_point s) (pc6_bytes s) (pc6_sizes s) (pc6_weights s) z3_size z3_rates (pc0_amounts s) (pc0_lows s) (pc0_highs s) (pc0_barred s) (pc1_lines s) (pc1_parts s) (pc2_above s) (pc2_below s)) ++ W8 cy ad8 (mk8 (pc8_latest t) (pc8_asked t) (pc8_upper t) (pc8_lower t) (pc8_legs t) (pc8_units t) (pc8_rests t) z8_rates (pc8_lines t) (pc8_came t) (pc8_sizes t) (pc8_weights t) (pc8_growths t) (pc8_copied t) (pc8_legWay t) (pc8_legUnits t) (pc8_legStuff t) (pc8_unitWay t) (pc8_unitStuff t) (pc8_xs t) (pc8_ys t) (pc8_zs t) (pc8_kindOf t) (pc8_placeOf t) (pc8_rateOf t) (pc8_readOf t) (pc8_isGone t) z8_theList (pc8_amounts t) (pc8_low t) (pc8_high t) (pc8_barred t) (pc8_times t) (pc8_ranges t))) rfl ?_
  refine r_icmp_eq (tgt := 1353) hC dL_law_974 (by decide) (fun _ => ?_) (fun c => absurd rfl c)
  exact next _ _ hR1
set_option maxHeartbeats 8000000 in
set_option maxRecDepth 100000 in
theorem law_choose (X : CX) (l : Launch) (D : va_G) (cy : Nat → ClassId) (ad7 ad8 : Nat → Nat) (N : Nat) (Rel : S7 → S8 → Prop) (b L : Nat) (xs : Nat → Int32) (hC : OK X l D cy room_1 code 4 wsL_law RL) (hS : SC X b L xs) (hZ : ZL X.2.2.2.2.1) (j : Nat) (hj : j + 6 ≤ L) (hL : L ≤ 3072) (s : S7) (t : S8) (hR : Rel s t) (hop : op_choose N Rel) (next : ∀ (s : S7) (t : S8), Rel s t → GG X 4 52 1789 (W7 cy ad7 s ++ W8 cy ad8 t) [(0, .ref b), (1, .ref (ad7 70)), (2, .ref (ad8 80)), (3, .int (nI j))] 1353 []) : GG X 4 52 1789 (W7 cy ad7 s ++ W8 cy ad8 t) [(0, .ref b), (1, .ref (ad7 70)), (2, .ref (ad8 80)), (3, .int (nI j))] 979 [] := by
  obtain ⟨r, z7_lastFound, z7_found, z4_rates, z4_bearing, z8_latest, z8_came, z8_rateOf, h7, h8, hR1⟩ := hop s t hR ((xs (nI j + 1).toNatClampNeg)) ((xs (nI j + 2).toNatClampNeg))
  refine r_aload_n hC dL_law_979 rfl 1 rfl ?_
  refine r_aload_n hC dL_law_980 rfl 0 rfl ?_
  refine r_iload_n hC dL_law_981 rfl 3 rfl ?_
  refine r_iconst hC dL_law_982 ic_1 ?_
  refine r_iadd hC dL_law_983 ?_
  refine r_sld hC hS (ix_in (k := 1) (by omega) hL) dL_law_984 ?_
  refine r_aload_n hC dL_law_985 rfl 0 rfl ?_
  refine r_iload_n hC dL_law_986 rfl 3 rfl ?_
  refine r_iconst hC dL_law_987 ic_2 ?_
  refine r_iadd hC dL_law_988 ?_
  refine r_sld hC hS (ix_in (k := 2) (by omega) hL) dL_law_989 ?_
  refine r_vi (st := []) hC (kX7_choose l D cy ad7 (pc7_lastFound s) (pc7_lastAsked s) (pc7_found s) (pc4_made s) (pc4_kinds s) (pc4_places s) (pc4_rates s) (pc4_readings s) (pc4_bearing s) (pc5_legs s) (pc5_length s) (pc5_ways s) (pc5_units s) (pc5_stuffOf s) (pc5_point s) (pc6_bytes s) (pc6_sizes s) (pc6_weights s) (pc3_size s) (pc3_rates s) (pc0_amounts s) (pc0_lows s) (pc0_highs s) (pc0_barred s) (pc1_lines s) (pc1_parts s) (pc2_above s) (pc2_below s) ((xs (nI j + 1).toNatClampNeg)) ((xs (nI j + 2).toNatClampNeg)) N h7) gL_law_X7_choose rfl ⟨rfl, rfl⟩ ydX7_choose ⟨(Nat.le_of_ble_eq_true rfl), (Nat.le_of_ble_eq_true rfl)⟩ ⟨Nat.le_refl 52, Nat.le_refl 1789⟩ 0 rfl rfl [] (W8 cy ad8 t) rfl _ rfl (Nat.le_of_ble_eq_true rfl) dL_law_990 (W7 cy ad7 (mk7 z7_lastFound (pc7_lastAsked s) z7_found (pc4_made s) (pc4_kinds s) (pc4_places s) z4_rates (pc4_readings s) z4_bearing (pc5_legs s) (pc5_length s) (pc5_ways s) (pc5_units s) (pc5_stuffOf s) (pc5_point s) (pc6_bytes s) (pc6_sizes s) (pc6_weights s) (pc3_size s) (pc3_rates s) (pc0_amounts s) (pc0_lows s) (pc0_highs s) (pc0_barred s) (pc1_lines s) (pc1_parts s) (pc2_above s) (pc2_below s)) ++ W8 cy ad8 t) rfl ?_
  refine r_aload_n hC dL_law_993 rfl 2 rfl ?_
  refine r_aload_n hC dL_law_994 rfl 0 rfl ?_
  refine r_iload_n hC dL_law_995 rfl 3 rfl ?_
  refine r_iconst hC dL_law_996 ic_1 ?_
  refine r_iadd hC dL_law_997 ?_
  refine r_sld hC hS (ix_in (k := 1) (by omega) hL) dL_law_998 ?_
  refine r_aload_n hC dL_law_999 rfl 0 rfl ?_
  refine r_iload_n hC dL_law_1000 rfl 3 rfl ?_
  refine r_iconst hC dL_law_1001 ic_2 ?_
  refine r_iadd hC dL_law_1002 ?_
  refine r_sld hC hS (ix_in (k := 2) (by omega) hL) dL_law_1003 ?_
  refine r_vi (st := [.int r]) hC (kX8_choose l D cy ad8 (pc8_latest t) (pc8_asked t) (pc8_upper t) (pc8_lower t) (pc8_legs t) (pc8_units t) (pc8_rests t) (pc8_rates t) (pc8_lines t) (pc8_came t) (pc8_sizes t) (pc8_weights t) (pc8_growths t) (pc8_copied t) (pc8_legWay t) (pc8_legUnits t) (pc8_legStuff t) (pc8_unitWay t) (pc8_unitStuff t) (pc8_xs t) (pc8_ys t) (pc8_zs t) (pc8_kindOf t) (pc8_placeOf t) (pc8_rateOf t) (pc8_readOf t) (pc8_isGone t) (pc8_theList t) (pc8_amounts t) (pc8_low t) (pc8_high t) (pc8_barred t) (pc8_times t) (pc8_ranges t) ((xs (nI j + 1).toNatClampNeg)) ((xs (nI j + 2).toNatClampNeg)) N h8) gL_law_X8_choose rfl ⟨rfl, rfl⟩ ydX8_choose ⟨(Nat.le_of_ble_eq_true rfl), (Nat.le_of_ble_eq_true rfl)⟩ ⟨Nat.le_refl 52, Nat.le_refl 1789⟩ 0 rfl rfl (W7 cy ad7 (mk7 z7_lastFound (pc7_lastAsked s) z7_found (pc4_made s) (pc4_kinds s) (pc4_places s) z4_rates (pc4_readings s) z4_bearing (pc5_legs s) (pc5_length s) (pc5_ways s) (pc5_units s) (pc5_stuffOf s) (pc5_point s) (pc6_bytes s) (pc6_sizes s) (pc6_weights s) (pc3_size s) (pc3_rates s) (pc0_amounts s) (pc0_lows s) (pc0_highs s) (pc0_barred s) (pc1_lines s) (pc1_parts s) (pc2_above s) (pc2_below s))) [] rfl _ rfl (Nat.le_of_ble_eq_true rfl) dL_law_1004 (W7 cy ad7 (mk7 z7_lastFound (pc7_lastAsked s) z7_found (pc4_made s) (pc4_kinds s) (pc4_places s) z4_rates (pc4_readings s) z4_bearing (pc5_legs s) (pc5_length s) (pc5_ways s) (pc5_units s) (pc5_stuffOf s) (pc5_point s) (pc6_bytes s) (pc6_sizes s) (pc6_weights s) (pc3_size s) (pc3_rates s) (pc0_amounts s) (pc0_lows s) (pc0_highs s) (pc0_barred s) (pc1_lines s) (pc1_parts s) (pc2_above s) (pc2_below s)) ++ W8 cy ad8 (mk8 z8_latest (pc8_asked t) (pc8_upper t) (pc8_lower t) (pc8_legs t) (pc8_units t) (pc8_rests t) (pc8_rates t) (pc8_lines t) z8_came (pc8_sizes t) (pc8_weights t) (pc8_growths t) (pc8_copied t) (pc8_legWay t) (pc8_legUnits t) (pc8_legStuff t) (pc8_unitWay t) (pc8_unitStuff t) (pc8_xs t) (pc8_ys t) (pc8_zs t) (pc8_kindOf t) (pc8_placeOf t) z8_rateOf (pc8_readOf t) (pc8_isGone t) (pc8_theList t) (pc8_amounts t) (pc8_low t) (pc8_high t) (pc8_barred t) (pc8_times t) (pc8_ranges t))) rfl ?_
  refine r_icmp_eq (tgt := 1353) hC dL_law_1007 (by decide) (fun _ => ?_) (fun c => absurd rfl c)
  exact next _ _ hR1
set_option maxHeartbeats 8000000 in
set_option maxRecDepth 100000 in
theorem law_amount (X : CX) (l : Launch) (D : va_G) (cy : Nat → ClassId) (ad7 ad8 : Nat → Nat) (N : Nat) (Rel : S7 → S8 → Prop) (b L : Nat) (xs : Nat → Int32) (hC : OK X l D cy room_1 code 4 wsL_law RL) (hS : SC X b L xs) (hZ : ZL X.2.2.2.2.1) (j : Nat) (hj : j + 6 ≤ L) (hL : L ≤ 3072) (s : S7) (t : S8) (hR : Rel s t) (hop : op_amount N Rel) (next : ∀ (s : S7) (t : S8), Rel s t → GG X 4 52 1789 (W7 cy ad7 s ++ W8 cy ad8 t) [(0, .ref b), (1, .ref (ad7 70)), (2, .ref (ad8 80)), (3, .int (nI j))] 1353 []) : GG X 4 52 1789 (W7 cy ad7 s ++ W8 cy ad8 t) [(0, .ref b), (1, .ref (ad7 70)), (2, .ref (ad8 80)), (3, .int (nI j))] 1012 [] := by
  obtain ⟨r, z0_amounts, z0_lows, z0_highs, z8_amounts, z8_low, z8_high, h7, h8, hR1⟩ := hop s t hR ((xs (nI j + 1).toNatClampNeg)) ((xs (nI j + 2).toNatClampNeg)) ((xs (nI j + 3).toNatClampNeg)) ((xs (nI j + 4).toNatClampNeg))
  refine r_aload_n hC dL_law_1012 rfl 1 rfl ?_
  refine r_aload_n hC dL_law_1013 rfl 0 rfl ?_
  refine r_iload_n hC dL_law_1014 rfl 3 rfl ?_
  refine r_iconst hC dL_law_1015 ic_1 ?_
  refine r_iadd hC dL_law_1016 ?_
  refine r_sld hC hS (ix_in (k := 1) (by omega) hL) dL_law_1017 ?_
  refine r_aload_n hC dL_law_1018 rfl 0 rfl ?_
  refine r_iload_n hC dL_law_1019 rfl 3 rfl ?_
  refine r_iconst hC dL_law_1020 ic_2 ?_
  refine r_iadd hC dL_law_1021 ?_
  refine r_sld hC hS (ix_in (k := 2) (by omega) hL) dL_law_1022 ?_
  refine r_aload_n hC dL_law_1023 rfl 0 rfl ?_
  refine r_iload_n hC dL_law_1024 rfl 3 rfl ?_
  refine r_iconst hC dL_law_1025 ic_3 ?_
  refine r_iadd hC dL_law_1026 ?_
  refine r_sld hC hS (ix_in (k := 3) (by omega) hL) dL_law_1027 ?_
  refine r_aload_n hC dL_law_1028 rfl 0 rfl ?_
  refine r_iload_n hC dL_law_1029 rfl 3 rfl ?_
  refine r_iconst hC dL_law_1030 ic_4 ?_
  refine r_iadd hC dL_law_1031 ?_
  refine r_sld hC hS (ix_in (k := 4) (by omega) hL) dL_law_1032 ?_
  refine r_vi (st := []) hC (kX7_amount l D cy ad7 (pc7_lastFound s) (pc7_lastAsked s) (pc7_found s) (pc4_made s) (pc4_kinds s) (pc4_places s) (pc4_rates s) (pc4_readings s) (pc4_bearing s) (pc5_legs s) (pc5_length s) (pc5_ways s) (pc5_units s) (pc5_stuffOf s) (pc5_point s) (pc6_bytes s) (pc6_sizes s) (pc6_weights s) (pc3_size s) (pc3_rates s) (pc0_amounts s) (pc0_lows s) (pc0_highs s) (pc0_barred s) (pc1_lines s) (pc1_parts s) (pc2_above s) (pc2_below s) ((xs (nI j + 1).toNatClampNeg)) ((xs (nI j + 2).toNatClampNeg)) ((xs (nI j + 3).toNatClampNeg)) ((xs (nI j + 4).toNatClampNeg)) h7) gL_law_X7_amount rfl ⟨rfl, rfl⟩ ydX7_amount ⟨(Nat.le_of_ble_eq_true rfl), (Nat.le_of_ble_eq_true rfl)⟩ ⟨Nat.le_refl 52, Nat.le_refl 1789⟩ 0 rfl rfl [] (W8 cy ad8 t) rfl _ rfl (Nat.le_of_ble_eq_true rfl) dL_law_1033 (W7 cy ad7 (mk7 (pc7_lastFound s) (pc7_lastAsked s) (pc7_found s) (pc4_made s) (pc4_kinds s) (pc4_places s) (pc4_rates s) (pc4_readings s) (pc4_bearing s) (pc5_legs s) (pc5_length s) (pc5_ways s) (pc5_units s) (pc5_stuffOf s) (pc5_point s) (pc6_bytes s) (pc6_sizes s) (pc6_weights s) (pc3_size s) (pc3_rates s) z0_amounts z0_lows z0_highs (pc0_barred s) (pc1_lines s) (pc1_parts s) (pc2_above s) (pc2_below s)) ++ W8 cy ad8 t) rfl ?_
  refine r_aload_n hC dL_law_1036 rfl 2 rfl ?_
  refine r_aload_n hC dL_law_1037 rfl 0 rfl ?_
  refine r_iload_n hC dL_law_1038 rfl 3 rfl ?_
  refine r_iconst hC dL_law_1039 ic_1 ?_
  refine r_iadd hC dL_law_1040 ?_
  refine r_sld hC hS (ix_in (k := 1) (by omega) hL) dL_law_1041 ?_
  refine r_aload_n hC dL_law_1042 rfl 0 rfl ?_
  refine r_iload_n hC dL_law_1043 rfl 3 rfl ?_
  refine r_iconst hC dL_law_1044 ic_2 ?_
  refine r_iadd hC dL_law_1045 ?_
  refine r_sld hC hS (ix_in (k := 2) (by omega) hL) dL_law_1046 ?_
  refine r_aload_n hC dL_law_1047 rfl 0 rfl ?_
  refine r_iload_n hC dL_law_1048 rfl 3 rfl ?_
  refine r_iconst hC dL_law_1049 ic_3 ?_
  refine r_iadd hC dL_law_1050 ?_
  refine r_sld hC hS (ix_in (k := 3) (by omega) hL) dL_law_1051 ?_
  refine r_aload_n hC dL_law_1052 rfl 0 rfl ?_
  refine r_iload_n hC dL_law_1053 rfl 3 rfl ?_
  refine r_iconst hC dL_law_1054 ic_4 ?_
  refine r_iadd hC dL_law_1055 ?_
  refine r_sld hC hS (ix_in (k := 4) (by omega) hL) dL_law_1056 ?_
  refine r_vi (st := [.int r]) hC (kX8_amount l D cy ad8 (pc8_latest t) (pc8_asked t) (pc8_upper t) (pc8_lower t) (pc8_legs t) (pc8_units t) (pc8_rests t) (pc8_rates t) (pc8_lines t) (pc8_came t) (pc8_sizes t) (pc8_weights t) (pc8_growths t) (pc8_copied t) (pc8_legWay t) (pc8_legUnits t) (pc8_legStuff t) (pc8_unitWay t) (pc8_unitStuff t) (pc8_xs t) (pc8_ys t) (pc8_zs t) (pc8_kindOf t) (pc8_placeOf t) (pc8_rateOf t) (pc8_readOf t) (pc8_isGone t) (pc8_theList t) (pc8_amounts t) (pc8_low t) (pc8_high t) (pc8_barred t) (pc8_times t) (pc8_ranges t) ((xs (nI j + 1).toNatClampNeg)) ((xs (nI j + 2).toNatClampNeg)) ((xs (nI j + 3).toNatClampNeg)) ((xs (nI j + 4).toNatClampNeg)) h8) gL_law_X8_amount rfl ⟨rfl, rfl⟩ ydX8_amount ⟨(Nat.le_of_ble_eq_true rfl), (Nat.le_of_ble_eq_true rfl)⟩ ⟨Nat.le_refl 52, Nat.le_refl 1789⟩ 0 rfl rfl (W7 cy ad7 (mk7 (pc7_lastFound s) (pc7_lastAsked s) (pc7_found s) (pc4_made s) (pc4_kinds s) (pc4_places s) (pc4_rates s) (pc4_readings s) (pc4_bearing s) (pc5_legs s) (pc5_length s) (pc5_ways s) (pc5_units s) (pc5_stuffOf s) (pc5_point s) (pc6_bytes s) (pc6_sizes s) (pc6_weights s) (pc3_size s) (pc3_rates s) z0_amounts z0_lows z0_highs (pc0_barred s) (pc1_lines s) (pc1_parts s) (pc2_above s) (pc2_below s))) [] rfl _ rfl (Nat.le_of_ble_eq_true rfl) dL_law_1057 (W7 cy ad7 (mk7 (pc7_lastFound s) (pc7_lastAsked s) (pc7_found s) (pc4_made s) (pc4_kinds s) (pc4_places s) (pc4_rates s) (pc4_readings s) (pc4_bearing s) (pc5_legs s) (pc5_length s) (pc5_ways s) (pc5_units s) (pc5_stuffOf s) (pc5_point s) (pc6_bytes s) (pc6_sizes s) (pc6_weights s) (pc3_size s) (pc3_rates s) z0_amounts z0_lows z0_highs (pc0_barred s) (pc1_lines s) (pc1_parts s) (pc2_above s) (pc2_below s)) ++ W8 cy ad8 (mk8 (pc8_latest t) (pc8_asked t) (pc8_upper t) (pc8_lower t) (pc8_legs t) (pc8_units t) (pc8_rests t) (pc8_rates t) (pc8_lines t) (pc8_came t) (pc8_sizes t) (pc8_weights t) (pc8_growths t) (pc8_copied t) (pc8_legWay t) (pc8_legUnits t) (pc8_legStuff t) (pc8_unitWay t) (pc8_unitStuff t) (pc8_xs t) (pc8_ys t) (pc8_zs t) (pc8_kindOf t) (pc8_placeOf t) (pc8_rateOf t) (pc8_readOf t) (pc8_isGone t) (pc8_theList t) z8_amounts z8_low z8_high (pc8_barred t) (pc8_times t) (pc8_ranges t))) rfl ?_
  refine r_icmp_eq (tgt := 1353) hC dL_law_1060 (by decide) (fun _ => ?_) (fun c => absurd rfl c)
  exact next _ _ hR1
set_option maxHeartbeats 8000000 in
set_option maxRecDepth 100000 in
theorem law_bar (X : CX) (l : Launch) (D : va_G) (cy : Nat → ClassId) (ad7 ad8 : Nat → Nat) (N : Nat) (Rel : S7 → S8 → Prop) (b L : Nat) (xs : Nat → Int32) (hC : OK X l D cy room_1 code 4 wsL_law RL) (hS : SC X b L xs) (hZ : ZL X.2.2.2.2.1) (j : Nat) (hj : j + 6 ≤ L) (hL : L ≤ 3072) (s : S7) (t : S8) (hR : Rel s t) (hop : op_bar N Rel) (next : ∀ (s : S7) (t : S8), Rel s t → GG X 4 52 1789 (W7 cy ad7 s ++ W8 cy ad8 t) [(0, .ref b), (1, .ref (ad7 70)), (2, .ref (ad8 80)), (3, .int (nI j))] 1353 []) : GG X 4 52 1789 (W7 cy ad7 s ++ W8 cy ad8 t) [(0, .ref b), (1, .ref (ad7 70)), (2, .ref (ad8 80)), (3, .int (nI j))] 1065 [] := by
  by_cases hc : xs (nI j + 3).toNatClampNeg = 0
  · obtain ⟨r, z0_barred, z8_barred, h7, h8, hR1⟩ := hop s t hR (xs (nI j + 1).toNatClampNeg) (xs (nI j + 2).toNatClampNeg) 0 (Or.inl rfl)
    refine r_aload_n hC dL_law_1065 rfl 1 rfl ?_
    refine r_aload_n hC dL_law_1066 rfl 0 rfl ?_
    refine r_iload_n hC dL_law_1067 rfl 3 rfl ?_
    refine r_iconst hC dL_law_1068 ic_1 ?_
    refine r_iadd hC dL_law_1069 ?_
    refine r_sld hC hS (ix_in (k := 1) (by omega) hL) dL_law_1070 ?_
    refine r_aload_n hC dL_law_1071 rfl 0 rfl ?_
    refine r_iload_n hC dL_law_1072 rfl 3 rfl ?_
    refine r_iconst hC dL_law_1073 ic_2 ?_
    refine r_iadd hC dL_law_1074 ?_
    refine r_sld hC hS (ix_in (k := 2) (by omega) hL) dL_law_1075 ?_
    refine r_aload_n hC dL_law_1076 rfl 0 rfl ?_
    refine r_iload_n hC dL_law_1077 rfl 3 rfl ?_
    refine r_iconst hC dL_law_1078 ic_3 ?_
    refine r_iadd hC dL_law_1079 ?_
    refine r_sld hC hS (ix_in (k := 3) (by omega) hL) dL_law_1080 ?_
    refine r_if_eq (tgt := 1088) hC dL_law_1081 (by decide) (fun c2 => ?_) (fun c2 => absurd hc c2)
    refine r_iconst hC dL_law_1088 ic_0 ?_
    refine r_vi (st := []) hC (kX7_bar l D cy ad7 (pc7_lastFound s) (pc7_lastAsked s) (pc7_found s) (pc4_made s) (pc4_kinds s) (pc4_places s) (pc4_rates s) (pc4_readings s) (pc4_bearing s) (pc5_legs s) (pc5_length s) (pc5_ways s) (pc5_units s) (pc5_stuffOf s) (pc5_point s) (pc6_bytes s) (pc6_sizes s) (pc6_weights s) (pc3_size s) (pc3_rates s) (pc0_amounts s) (pc0_lows s) (pc0_highs s) (pc0_barred s) (pc1_lines s) (pc1_parts s) (pc2_above s) (pc2_below s) (xs (nI j + 1).toNatClampNeg) (xs (nI j + 2).toNatClampNeg) 0 h7) gL_law_X7_bar rfl ⟨rfl, rfl⟩ ydX7_bar ⟨(Nat.le_of_ble_eq_true rfl), (Nat.le_of_ble_eq_true rfl)⟩ ⟨Nat.le_refl 52, Nat.le_refl 1789⟩ 0 rfl rfl [] (W8 cy ad8 t) rfl _ rfl (Nat.le_of_ble_eq_true rfl) dL_law_1089 (W7 cy ad7 (mk7 (pc7_lastFound s) (pc7_lastAsked s) (pc7_found s) (pc4_made s) (pc4_kinds s) (pc4_places s) (pc4_rates s) (pc4_readings s) (pc4_bearing s) (pc5_legs s) (pc5_length s) (pc5_ways s) (pc5_units s) (pc5_stuffOf s) (pc5_point s) (pc6_bytes s) (pc6_sizes s) (pc6_weights s) (pc3_size s) (pc3_rates s) (pc0_amounts s) (pc0_lows s) (pc0_highs s) z0_barred (pc1_lines s) (pc1_parts s) (pc2_above s) (pc2_below s)) ++ W8 cy ad8 t) rfl ?_
    refine r_aload_n hC dL_law_1092 rfl 2 rfl ?_
    refine r_aload_n hC dL_law_1093 rfl 0 rfl ?_
    refine r_iload_n hC dL_law_1094 rfl 3 rfl ?_
    refine r_iconst hC dL_law_1095 ic_1 ?_
    refine r_iadd hC dL_law_1096 ?_
    refine r_sld hC hS (ix_in (k := 1) (by omega) hL) dL_law_1097 ?_
    refine r_aload_n hC dL_law_1098 rfl 0 rfl ?_
    refine r_iload_n hC dL_law_1099 rfl 3 rfl ?_
    refine r_iconst hC dL_law_1100 ic_2 ?_
    refine r_iadd hC dL_law_1101 ?_
    refine r_sld hC hS (ix_in (k := 2) (by omega) hL) dL_law_1102 ?_
    refine r_aload_n hC dL_law_1103 rfl 0 rfl ?_
    refine r_iload_n hC dL_law_1104 rfl 3 rfl ?_
    refine r_iconst hC dL_law_1105 ic_3 ?_
    refine r_iadd hC dL_law_1106 ?_
    refine r_sld hC hS (ix_in (k := 3) (by omega) hL) dL_law_1107 ?_
    refine r_if_eq (tgt := 1115) hC dL_law_1108 (by decide) (fun c2 => ?_) (fun c2 => absurd hc c2)
    refine r_iconst hC dL_law_1115 ic_0 ?_
    refine r_vi (st := [.int r]) hC (kX8_bar l D cy ad8 (pc8_latest t) (pc8_asked t) (pc8_upper t) (pc8_lower t) (pc8_legs t) (pc8_units t) (pc8_rests t) (pc8_rates t) (pc8_lines t) (pc8_came t) (pc8_sizes t) (pc8_weights t) (pc8_growths t) (pc8_copied t) (pc8_legWay t) (pc8_legUnits t) (pc8_legStuff t) (pc8_unitWay t) (pc8_unitStuff t) (pc8_xs t) (pc8_ys t) (pc8_zs t) (pc8_kindOf t) (pc8_placeOf t) (pc8_rateOf t) (pc8_readOf t) (pc8_isGone t) (pc8_theList t) (pc8_amounts t) (pc8_low t) (pc8_high t) (pc8_barred t) (pc8_times t) (pc8_ranges t) (xs (nI j + 1).toNatClampNeg) (xs (nI j + 2).toNatClampNeg) 0 h8) gL_law_X8_bar rfl ⟨rfl, rfl⟩ ydX8_bar ⟨(Nat.le_of_ble_eq_true rfl), (Nat.le_of_ble_eq_true rfl)⟩ ⟨Nat.le_refl 52, Nat.le_refl 1789⟩ 0 rfl rfl (W7 cy ad7 (mk7 (pc7_lastFound s) (pc7_lastAsked s) (pc7_found s) (pc4_made s) (pc4_kinds s) (pc4_places s) (pc4_rates s) (pc4_readings s) (pc4_bearing s) (pc5_legs s) (pc5_length s) (pc5_ways s) (pc5_units s) (pc5_stuffOf s) (pc5_point s) (pc6_bytes s) (pc6_sizes s) (pc6_weights s) (pc3_size s) (pc3_rates s) (pc0_amounts s) (pc0_lows s) (pc0_highs s) z0_barred (pc1_lines s) (pc1_parts s) (pc2_above s) (pc2_below s))) [] rfl _ rfl (Nat.le_of_ble_eq_true rfl) dL_law_1116 (W7 cy ad7 (mk7 (pc7_lastFound s) (pc7_lastAsked s) (pc7_found s) (pc4_made s) (pc4_kinds s) (pc4_places s) (pc4_rates s) (pc4_readings s) (pc4_bearing s) (pc5_legs s) (pc5_length s) (pc5_ways s) (pc5_units s) (pc5_stuffOf s) (pc5_point s) (pc6_bytes s) (pc6_sizes s) (pc6_weights s) (pc3_size s) (pc3_rates s) (pc0_amounts s) (pc0_lows s) (pc0_highs s) z0_barred (pc1_lines s) (pc1_parts s) (pc2_above s) (pc2_below s)) ++ W8 cy ad8 (mk8 (pc8_latest t) (pc8_asked t) (pc8_upper t) (pc8_lower t) (pc8_legs t) (pc8_units t) (pc8_rests t) (pc8_rates t) (pc8_lines t) (pc8_came t) (pc8_sizes t) (pc8_weights t) (pc8_growths t) (pc8_copied t) (pc8_legWay t) (pc8_legUnits t) (pc8_legStuff t) (pc8_unitWay t) (pc8_unitStuff t) (pc8_xs t) (pc8_ys t) (pc8_zs t) (pc8_kindOf t) (pc8_placeOf t) (pc8_rateOf t) (pc8_readOf t) (pc8_isGone t) (pc8_theList t) (pc8_amounts t) (pc8_low t) (pc8_high t) z8_barred (pc8_times t) (pc8_ranges t))) rfl ?_
    refine r_icmp_eq (tgt := 1353) hC dL_law_1119 (by decide) (fun _ => ?_) (fun c => absurd rfl c)
    exact next _ _ hR1
  · obtain ⟨r, z0_barred, z8_barred, h7, h8, hR1⟩ := hop s t hR (xs (nI j + 1).toNatClampNeg) (xs (nI j + 2).toNatClampNeg) 1 (Or.inr rfl)
    refine r_aload_n hC dL_law_1065 rfl 1 rfl ?_
    refine r_aload_n hC dL_law_1066 rfl 0 rfl ?_
    refine r_iload_n hC dL_law_1067 rfl 3 rfl ?_
    refine r_iconst hC dL_law_1068 ic_1 ?_
    refine r_iadd hC dL_law_1069 ?_
    refine r_sld hC hS (ix_in (k := 1) (by omega) hL) dL_law_1070 ?_
    refine r_aload_n hC dL_law_1071 rfl 0 rfl ?_
    refine r_iload_n hC dL_law_1072 rfl 3 rfl ?_
    refine r_iconst hC dL_law_1073 ic_2 ?_
    refine r_iadd hC dL_law_1074 ?_
    refine r_sld hC hS (ix_in (k := 2) (by omega) hL) dL_law_1075 ?_
    refine r_aload_n hC dL_law_1076 rfl 0 rfl ?_
    refine r_iload_n hC dL_law_1077 rfl 3 rfl ?_
    refine r_iconst hC dL_law_1078 ic_3 ?_
    refine r_iadd hC dL_law_1079 ?_
    refine r_sld hC hS (ix_in (k := 3) (by omega) hL) dL_law_1080 ?_
    refine r_if_eq (tgt := 1088) hC dL_law_1081 (by decide) (fun c2 => absurd c2 hc) (fun c2 => ?_)
    refine r_iconst hC dL_law_1084 ic_1 ?_
    refine r_goto (tgt := 1089) hC dL_law_1085 (by decide) ?_
    refine r_vi (st := []) hC (kX7_bar l D cy ad7 (pc7_lastFound s) (pc7_lastAsked s) (pc7_found s) (pc4_made s) (pc4_kinds s) (pc4_places s) (pc4_rates s) (pc4_readings s) (pc4_bearing s) (pc5_legs s) (pc5_length s) (pc5_ways s) (pc5_units s) (pc5_stuffOf s) (pc5_point s) (pc6_bytes s) (pc6_sizes s) (pc6_weights s) (pc3_size s) (pc3_rates s) (pc0_amounts s) (pc0_lows s) (pc0_highs s) (pc0_barred s) (pc1_lines s) (pc1_parts s) (pc2_above s) (pc2_below s) (xs (nI j + 1).toNatClampNeg) (xs (nI j + 2).toNatClampNeg) 1 h7) gL_law_X7_bar rfl ⟨rfl, rfl⟩ ydX7_bar ⟨(Nat.le_of_ble_eq_true rfl), (Nat.le_of_ble_eq_true rfl)⟩ ⟨Nat.le_refl 52, Nat.le_refl 1789⟩ 0 rfl rfl [] (W8 cy ad8 t) rfl _ rfl (Nat.le_of_ble_eq_true rfl) dL_law_1089 (W7 cy ad7 (mk7 (pc7_lastFound s) (pc7_lastAsked s) (pc7_found s) (pc4_made s) (pc4_kinds s) (pc4_places s) (pc4_rates s) (pc4_readings s) (pc4_bearing s) (pc5_legs s) (pc5_length s) (pc5_ways s) (pc5_units s) (pc5_stuffOf s) (pc5_point s) (pc6_bytes s) (pc6_sizes s) (pc6_weights s) (pc3_size s) (pc3_rates s) (pc0_amounts s) (pc0_lows s) (pc0_highs s) z0_barred (pc1_lines s) (pc1_parts s) (pc2_above s) (pc2_below s)) ++ W8 cy ad8 t) rfl ?_
    refine r_aload_n hC dL_law_1092 rfl 2 rfl ?_
    refine r_aload_n hC dL_law_1093 rfl 0 rfl ?_
    refine r_iload_n hC dL_law_1094 rfl 3 rfl ?_
    refine r_iconst hC dL_law_1095 ic_1 ?_
    refine r_iadd hC dL_law_1096 ?_
    refine r_sld hC hS (ix_in (k := 1) (by omega) hL) dL_law_1097 ?_
    refine r_aload_n hC dL_law_1098 rfl 0 rfl ?_
    refine r_iload_n hC dL_law_1099 rfl 3 rfl ?_
    refine r_iconst hC dL_law_1100 ic_2 ?_
    refine r_iadd hC dL_law_1101 ?_
    refine r_sld hC hS (ix_in (k := 2) (by omega) hL) dL_law_1102 ?_
    refine r_aload_n hC dL_law_1103 rfl 0 rfl ?_
    refine r_iload_n hC dL_law_1104 rfl 3 rfl ?_
    refine r_iconst hC dL_law_1105 ic_3 ?_
    refine r_iadd hC dL_law_1106 ?_
    refine r_sld hC hS (ix_in (k := 3) (by omega) hL) dL_law_1107 ?_
    refine r_if_eq (tgt := 1115) hC dL_law_1108 (by decide) (fun c2 => absurd c2 hc) (fun c2 => ?_)
    refine r_iconst hC dL_law_1111 ic_1 ?_
    refine r_goto (tgt := 1116) hC dL_law_1112 (by decide) ?_
    refine r_vi (st := [.int r]) hC (kX8_bar l D cy ad8 (pc8_latest t) (pc8_asked t) (pc8_upper t) (pc8_lower t) (pc8_legs t) (pc8_units t) (pc8_rests t) (pc8_rates t) (pc8_lines t) (pc8_came t) (pc8_sizes t) (pc8_weights t) (pc8_growths t) (pc8_copied t) (pc8_legWay t) (pc8_legUnits t) (pc8_legStuff t) (pc8_unitWay t) (pc8_unitStuff t) (pc8_xs t) (pc8_ys t) (pc8_zs t) (pc8_kindOf t) (pc8_placeOf t) (pc8_rateOf t) (pc8_readOf t) (pc8_isGone t) (pc8_theList t) (pc8_amounts t) (pc8_low t) (pc8_high t) (pc8_barred t) (pc8_times t) (pc8_ranges t) (xs (nI j + 1).toNatClampNeg) (xs (nI j + 2).toNatClampNeg) 1 h8) gL_law_X8_bar rfl ⟨rfl, rfl⟩ ydX8_bar ⟨(Nat.le_of_ble_eq_true rfl), (Nat.le_of_ble_eq_true rfl)⟩ ⟨Nat.le_refl 52, Nat.le_refl 1789⟩ 0 rfl rfl (W7 cy ad7 (mk7 (pc7_lastFound s) (pc7_lastAsked s) (pc7_found s) (pc4_made s) (pc4_kinds s) (pc4_places s) (pc4_rates s) (pc4_readings s) (pc4_bearing s) (pc5_legs s) (pc5_length s) (pc5_ways s) (pc5_units s) (pc5_stuffOf s) (pc5_point s) (pc6_bytes s) (pc6_sizes s) (pc6_weights s) (pc3_size s) (pc3_rates s) (pc0_amounts s) (pc0_lows s) (pc0_highs s) z0_barred (pc1_lines s) (pc1_parts s) (pc2_above s) (pc2_below s))) [] rfl _ rfl (Nat.le_of_ble_eq_true rfl) dL_law_1116 (W7 cy ad7 (mk7 (pc7_lastFound s) (pc7_lastAsked s) (pc7_found s) (pc4_made s) (pc4_kinds s) (pc4_places s) (pc4_rates s) (pc4_readings s) (pc4_bearing s) (pc5_legs s) (pc5_length s) (pc5_ways s) (pc5_units s) (pc5_stuffOf s) (pc5_point s) (pc6_bytes s) (pc6_sizes s) (pc6_weights s) (pc3_size s) (pc3_rates s) (pc0_amounts s) (pc0_lows s) (pc0_highs s) z0_barred (pc1_lines s) (pc1_parts s) (pc2_above s) (pc2_below s)) ++ W8 cy ad8 (mk8 (pc8_latest t) (pc8_asked t) (pc8_upper t) (pc8_lower t) (pc8_legs t) (pc8_units t) (pc8_rests t) (pc8_rates t) (pc8_lines t) (pc8_came t) (pc8_sizes t) (pc8_weights t) (pc8_growths t) (pc8_copied t) (pc8_legWay t) (pc8_legUnits t) (pc8_legStuff t) (pc8_unitWay t) (pc8_unitStuff t) (pc8_xs t) (pc8_ys t) (pc8_zs t) (pc8_kindOf t) (pc8_placeOf t) (pc8_rateOf t) (pc8_readOf t) (pc8_isGone t) (pc8_theList t) (pc8_amounts t) (pc8_low t) (pc8_high t) z8_barred (pc8_times t) (pc8_ranges t))) rfl ?_
    refine r_icmp_eq (tgt := 1353) hC dL_law_1119 (by decide) (fun _ => ?_) (fun c => absurd rfl c)
    exact next _ _ hR1
set_option maxHeartbeats 8000000 in
set_option maxRecDepth 100000 in
theorem law_worst (X : CX) (l : Launch) (D : va_G) (cy : Nat → ClassId) (ad7 ad8 : Nat → Nat) (N : Nat) (Rel : S7 → S8 → Prop) (b L : Nat) (xs : Nat → Int32) (hC : OK X l D cy room_1 code 4 wsL_law RL) (hS : SC X b L xs) (hZ : ZL X.2.2.2.2.1) (j : Nat) (hj : j + 6 ≤ L) (hL : L ≤ 3072) (s : S7) (t : S8) (hR : Rel s t) (hop : op_worst N Rel) (next : ∀ (s : S7) (t : S8), Rel s t → GG X 4 52 1789 (W7 cy ad7 s ++ W8 cy ad8 t) [(0, .ref b), (1, .ref (ad7 70)), (2, .ref (ad8 80)), (3, .int (nI j))] 1353 []) : GG X 4 52 1789 (W7 cy ad7 s ++ W8 cy ad8 t) [(0, .ref b), (1, .ref (ad7 70)), (2, .ref (ad8 80)), (3, .int (nI j))] 1124 [] := by
  obtain ⟨r, z7_lastAsked, z8_asked, h7, h8, hR1⟩ := hop s t hR
  refine r_aload_n hC dL_law_1124 rfl 1 rfl ?_
  refine r_vi (st := []) hC (kX7_worst l D cy ad7 (pc7_lastFound s) (pc7_lastAsked s) (pc7_found s) (pc4_made s) (pc4_kinds s) (pc4_places s) (pc4_rates s) (pc4_readings s) (pc4_bearing s) (pc5_legs s) (pc5_length s) (pc5_ways s) (pc5_units s) (pc5_stuffOf s) (pc5_point s) (pc6_bytes s) (pc6_sizes s) (pc6_weights s) (pc3_size s) (pc3_rates s) (pc0_amounts s) (pc0_lows s) (pc0_highs s) (pc0_barred s) (pc1_lines s) (pc1_parts s) (pc2_above s) (pc2_below s)  N h7) gL_law_X7_worst rfl ⟨rfl, rfl⟩ ydX7_worst ⟨(Nat.le_of_ble_eq_true rfl), (Nat.le_of_ble_eq_true rfl)⟩ ⟨Nat.le_refl 52, Nat.le_refl 1789⟩ 0 rfl rfl [] (W8 cy ad8 t) rfl _ rfl (Nat.le_of_ble_eq_true rfl) dL_law_1125 (W7 cy ad7 (mk7 (pc7_lastFound s) z7_lastAsked (pc7_found s) (pc4_made s) (pc4_kinds s) (pc4_places s) (pc4_rates s) (pc4_readings s) (pc4_bearing s) (pc5_legs s) (pc5_length s) (pc5_ways s) (pc5_units s) (pc5_stuffOf s) (pc5_point s) (pc6_bytes s) (pc6_sizes s) (pc6_weights s) (pc3_size s) (pc3_rates s) (pc0_amounts s) (pc0_lows s) (pc0_highs s) (pc0_barred s) (pc1_lines s) (pc1_parts s) (pc2_above s) (pc2_below s)) ++ W8 cy ad8 t) rfl ?_
  refine r_aload_n hC dL_law_1128 rfl 2 rfl ?_
  refine r_vi (st := [.int r]) hC (kX8_worst l D cy ad8 (pc8_latest t) (pc8_asked t) (pc8_upper t) (pc8_lower t) (pc8_legs t) (pc8_units t) (pc8_rests t) (pc8_rates t) (pc8_lines t) (pc8_came t) (pc8_sizes t) (pc8_weights t) (pc8_growths t) (pc8_copied t) (pc8_legWay t) (pc8_legUnits t) (pc8_legStuff t) (pc8_unitWay t) (pc8_unitStuff t) (pc8_xs t) (pc8_ys t) (pc8_zs t) (pc8_kindOf t) (pc8_placeOf t) (pc8_rateOf t) (pc8_readOf t) (pc8_isGone t) (pc8_theList t) (pc8_amounts t) (pc8_low t) (pc8_high t) (pc8_barred t) (pc8_times t) (pc8_ranges t)  N h8) gL_law_X8_worst rfl ⟨rfl, rfl⟩ ydX8_worst ⟨(Nat.le_of_ble_eq_true rfl), (Nat.le_of_ble_eq_true rfl)⟩ ⟨Nat.le_refl 52, Nat.le_refl 1789⟩ 0 rfl rfl (W7 cy ad7 (mk7 (pc7_lastFound s) z7_lastAsked (pc7_found s) (pc4_made s) (pc4_kinds s) (pc4_places s) (pc4_rates s) (pc4_readings s) (pc4_bearing s) (pc5_legs s) (pc5_length s) (pc5_ways s) (pc5_units s) (pc5_stuffOf s) (pc5_point s) (pc6_bytes s) (pc6_sizes s) (pc6_weights s) (pc3_size s) (pc3_rates s) (pc0_amounts s) (pc0_lows s) (pc0_highs s) (pc0_barred s) (pc1_lines s) (pc1_parts s) (pc2_above s) (pc2_below s))) [] rfl _ rfl (Nat.le_of_ble_eq_true rfl) dL_law_1129 (W7 cy ad7 (mk7 (pc7_lastFound s) z7_lastAsked (pc7_found s) (pc4_made s) (pc4_kinds s) (pc4_places s) (pc4_rates s) (pc4_readings s) (pc4_bearing s) (pc5_legs s) (pc5_length s) (pc5_ways s) (pc5_units s) (pc5_stuffOf s) (pc5_point s) (pc6_bytes s) (pc6_sizes s) (pc6_weights s) (pc3_size s) (pc3_rates s) (pc0_amounts s) (pc0_lows s) (pc0_highs s) (pc0_barred s) (pc1_lines s) (pc1_parts s) (pc2_above s) (pc2_below s)) ++ W8 cy ad8 (mk8 (pc8_latest t) z8_asked (pc8_upper t) (pc8_lower t) (pc8_legs t) (pc8_units t) (pc8_rests t) (pc8_rates t) (pc8_lines t) (pc8_came t) (pc8_sizes t) (pc8_weights t) (pc8_growths t) (pc8_copied t) (pc8_legWay t) (pc8_legUnits t) (pc8_legStuff t) (pc8_unitWay t) (pc8_unitStuff t) (pc8_xs t) (pc8_ys t) (pc8_zs t) (pc8_kindOf t) (pc8_placeOf t) (pc8_rateOf t) (pc8_readOf t) (pc8_isGone t) (pc8_theList t) (pc8_amounts t) (pc8_low t) (pc8_high t) (pc8_barred t) (pc8_times t) (pc8_ranges t))) rfl ?_
  refine r_icmp_eq (tgt := 1353) hC dL_law_1132 (by decide) (fun _ => ?_) (fun c => absurd rfl c)
  exact next _ _ hR1
set_option maxHeartbeats 8000000 in
set_option maxRecDepth 100000 in
theorem law_cycle (X : CX) (l : Launch) (D : va_G) (cy : Nat → ClassId) (ad7 ad8 : Nat → Nat) (N : Nat) (Rel : S7 → S8 → Prop) (b L : Nat) (xs : Nat → Int32) (hC : OK X l D cy room_1 code 4 wsL_law RL) (hS : SC X b L xs) (hZ : ZL X.2.2.2.2.1) (j : Nat) (hj : j + 6 ≤ L) (hL : L ≤ 3072) (s : S7) (t : S8) (hR : Rel s t) (hop : op_cycle N Rel) (next : ∀ (s : S7) (t : S8), Rel s t → GG X 4 52 1789 (W7 cy ad7 s ++ W8 cy ad8 t) [(0, .ref b), (1, .ref (ad7 70)), (2, .ref (ad8 80)), (3, .int (nI j))] 1353 []) : GG X 4 52 1789 (W7 cy ad7 s ++ W8 cy ad8 t) [(0, .ref b), (1, .ref (ad7 70)), (2, .ref (ad8 80)), (3, .int (nI j))] 1137 [] := by
  obtain ⟨r, z1_lines, z1_parts, z8_lines, z8_times, z8_ranges, h7, h8, hR1⟩ := hop s t hR ((xs (nI j + 1).toNatClampNeg)) ((xs (nI j + 2).toNatClampNeg))
  refine r_aload_n hC dL_law_1137 rfl 1 rfl ?_
  refine r_aload_n hC dL_law_1138 rfl 0 rfl ?_
  refine r_iload_n hC dL_law_1139 rfl 3 rfl ?_
  refine r_iconst hC dL_law_1140 ic_1 ?_
  refine r_iadd hC dL_law_1141 ?_
  refine r_sld hC hS (ix_in (k := 1) (by omega) hL) dL_law_1142 ?_
  refine r_aload_n hC dL_law_1143 rfl 0 rfl ?_
  refine r_iload_n hC dL_law_1144 rfl 3 rfl ?_
  refine r_iconst hC dL_law_1145 ic_2 ?_
  refine r_iadd hC dL_law_1146 ?_
  refine r_sld hC hS (ix_in (k := 2) (by omega) hL) dL_law_1147 ?_
  refine r_vi (st := []) hC (kX7_cycle l D cy ad7 (pc7_lastFound s) (pc7_lastAsked s) (pc7_found s) (pc4_made s) (pc4_kinds s) (pc4_places s) (pc4_rates s) (pc4_readings s) (pc4_bearing s) (pc5_legs s) (pc5_length s) (pc5_ways s) (pc5_units s) (pc5_stuffOf s) (pc5_point s) (pc6_bytes s) (pc6_sizes s) (pc6_weights s) (pc3_size s) (pc3_rates s) (pc0_amounts s) (pc0_lows s) (pc0_highs s) (pc0_barred s) (pc1_lines s) (pc1_parts s) (pc2_above s) (pc2_below s) ((xs (nI j + 1).toNatClampNeg)) ((xs (nI j + 2).toNatClampNeg)) h7) gL_law_X7_cycle rfl ⟨rfl, rfl⟩ ydX7_cycle ⟨(Nat.le_of_ble_eq_true rfl), (Nat.le_of_ble_eq_true rfl)⟩ ⟨Nat.le_refl 52, Nat.le_refl 1789⟩ 0 rfl rfl [] (W8 cy ad8 t) rfl _ rfl (Nat.le_of_ble_eq_true rfl) dL_law_1148 (W7 cy ad7 (mk7 (pc7_lastFound s) (pc7_lastAsked s) (pc7_found s) (pc4_made s) (pc4_kinds s) (pc4_places s) (pc4_rates s) (pc4_readings s) (pc4_bearing s) (pc5_legs s) (pc5_length s) (pc5_ways s) (pc5_units s) (pc5_stuffOf s) (pc5_point s) (pc6_bytes s) (pc6_sizes s) (pc6_weights s) (pc3_size s) (pc3_rates s) (pc0_amounts s) (pc0_lows s) (pc0_highs s) (pc0_barred s) z1_lines z1_parts (pc2_above s) (pc2_below s)) ++ W8 cy ad8 t) rfl ?_
  refine r_aload_n hC dL_law_1151 rfl 2 rfl ?_
  refine r_aload_n hC dL_law_1152 rfl 0 rfl ?_
  refine r_iload_n hC dL_law_1153 rfl 3 rfl ?_
  refine r_iconst hC dL_law_1154 ic_1 ?_
  refine r_iadd hC dL_law_1155 ?_
  refine r_sld hC hS (ix_in (k := 1) (by omega) hL) dL_law_1156 ?_
  refine r_aload_n hC dL_law_1157 rfl 0 rfl ?_
  refine r_iload_n hC dL_law_1158 rfl 3 rfl ?_
  refine r_iconst hC dL_law_1159 ic_2 ?_
  refine r_iadd hC dL_law_1160 ?_
  refine r_sld hC hS (ix_in (k := 2) (by omega) hL) dL_law_1161 ?_
  refine r_vi (st := [.int r]) hC (kX8_cycle l D cy ad8 (pc8_latest t) (pc8_asked t) (pc8_upper t) (pc8_lower t) (pc8_legs t) (pc8_units t) (pc8_rests t) (pc8_rates t) (pc8_lines t) (pc8_came t) (pc8_sizes t) (pc8_weights t) (pc8_growths t) (pc8_copied t) (pc8_legWay t) (pc8_legUnits t) (pc8_legStuff t) (pc8_unitWay t) (pc8_unitStuff t) (pc8_xs t) (pc8_ys t) (pc8_zs t) (pc8_kindOf t) (pc8_placeOf t) (pc8_rateOf t) (pc8_readOf t) (pc8_isGone t) (pc8_theList t) (pc8_amounts t) (pc8_low t) (pc8_high t) (pc8_barred t) (pc8_times t) (pc8_ranges t) ((xs (nI j + 1).toNatClampNeg)) ((xs (nI j + 2).toNatClampNeg)) h8) gL_law_X8_cycle rfl ⟨rfl, rfl⟩ ydX8_cycle ⟨(Nat.le_of_ble_eq_true rfl), (Nat.le_of_ble_eq_true rfl)⟩ ⟨Nat.le_refl 52, Nat.le_refl 1789⟩ 0 rfl rfl (W7 cy ad7 (mk7 (pc7_lastFound s) (pc7_lastAsked s) (pc7_found s) (pc4_made s) (pc4_kinds s) (pc4_places s) (pc4_rates s) (pc4_readings s) (pc4_bearing s) (pc5_legs s) (pc5_length s) (pc5_ways s) (pc5_units s) (pc5_stuffOf s) (pc5_point s) (pc6_bytes s) (pc6_sizes s) (pc6_weights s) (pc3_size s) (pc3_rates s) (pc0_amounts s) (pc0_lows s) (pc0_highs s) (pc0_barred s) z1_lines z1_parts (pc2_above s) (pc2_below s))) [] rfl _ rfl (Nat.le_of_ble_eq_true rfl) dL_law_1162 (W7 cy ad7 (mk7 (pc7_lastFound s) (pc7_lastAsked s) (pc7_found s) (pc4_made s) (pc4_kinds s) (pc4_places s) (pc4_rates s) (pc4_readings s) (pc4_bearing s) (pc5_legs s) (pc5_length s) (pc5_ways s) (pc5_units s) (pc5_stuffOf s) (pc5_point s) (pc6_bytes s) (pc6_sizes s) (pc6_weights s) (pc3_size s) (pc3_rates s) (pc0_amounts s) (pc0_lows s) (pc0_highs s) (pc0_barred s) z1_lines z1_parts (pc2_above s) (pc2_below s)) ++ W8 cy ad8 (mk8 (pc8_latest t) (pc8_asked t) (pc8_upper t) (pc8_lower t) (pc8_legs t) (pc8_units t) (pc8_rests t) (pc8_rates t) z8_lines (pc8_came t) (pc8_sizes t) (pc8_weights t) (pc8_growths t) (pc8_copied t) (pc8_legWay t) (pc8_legUnits t) (pc8_legStuff t) (pc8_unitWay t) (pc8_unitStuff t) (pc8_xs t) (pc8_ys t) (pc8_zs t) (pc8_kindOf t) (pc8_placeOf t) (pc8_rateOf t) (pc8_readOf t) (pc8_isGone t) (pc8_theList t) (pc8_amounts t) (pc8_low t) (pc8_high t) (pc8_barred t) z8_times z8_ranges)) rfl ?_
  refine r_icmp_eq (tgt := 1353) hC dL_law_1165 (by decide) (fun _ => ?_) (fun c => absurd rfl c)
  exact next _ _ hR1
set_option maxHeartbeats 8000000 in
set_option maxRecDepth 100000 in
theorem law_used (X : CX) (l : Launch) (D : va_G) (cy : Nat → ClassId) (ad7 ad8 : Nat → Nat) (N : Nat) (Rel : S7 → S8 → Prop) (b L : Nat) (xs : Nat → Int32) (hC : OK X l D cy room_1 code 4 wsL_law RL) (hS : SC X b L xs) (hZ : ZL X.2.2.2.2.1) (j : Nat) (hj : j + 6 ≤ L) (hL : L ≤ 3072) (s : S7) (t : S8) (hR : Rel s t) (hop : op_used N Rel) (next : ∀ (s : S7) (t : S8), Rel s t → GG X 4 52 1789 (W7 cy ad7 s ++ W8 cy ad8 t) [(0, .ref b), (1, .ref (ad7 70)), (2, .ref (ad8 80)), (3, .int (nI j))] 1353 []) : GG X 4 52 1789 (W7 cy ad7 s ++ W8 cy ad8 t) [(0, .ref b), (1, .ref (ad7 70)), (2, .ref (ad8 80)), (3, .int (nI j))] 1170 [] := by
  obtain ⟨r, z2_above, z2_below, z8_upper, z8_lower, h7, h8, hR1⟩ := hop s t hR
  refine r_aload_n hC dL_law_1170 rfl 1 rfl ?_
  refine r_vi (st := []) hC (kX7_used l D cy ad7 (pc7_lastFound s) (pc7_lastAsked s) (pc7_found s) (pc4_made s) (pc4_kinds s) (pc4_places s) (pc4_rates s) (pc4_readings s) (pc4_bearing s) (pc5_legs s) (pc5_length s) (pc5_ways s) (pc5_units s) (pc5_stuffOf s) (pc5_point s) (pc6_bytes s) (pc6_sizes s) (pc6_weights s) (pc3_size s) (pc3_rates s) (pc0_amounts s) (pc0_lows s) (pc0_highs s) (pc0_barred s) (pc1_lines s) (pc1_parts s) (pc2_above s) (pc2_below s)  N h7) gL_law_X7_used rfl ⟨rfl, rfl⟩ ydX7_used ⟨(Nat.le_of_ble_eq_true rfl), (Nat.le_of_ble_eq_true rfl)⟩ ⟨Nat.le_refl 52, Nat.le_refl 1789⟩ 0 rfl rfl [] (W8 cy ad8 t) rfl _ rfl (Nat.le_of_ble_eq_true rfl) dL_law_1171 (W7 cy ad7 (mk7 (pc7_lastFound s) (pc7_lastAsked s) (pc7_found s) (pc4_made s) (pc4_kinds s) (pc4_places s) (pc4_rates s) (pc4_readings s) (pc4_bearing s) (pc5_legs s) (pc5_length s) (pc5_ways s) (pc5_units s) (pc5_stuffOf s) (pc5_point s) (pc6_bytes s) (pc6_sizes s) (pc6_weights s) (pc3_size s) (pc3_rates s) (pc0_amounts s) (pc0_lows s) (pc0_highs s) (pc0_barred s) (pc1_lines s) (pc1_parts s) z2_above z2_below) ++ W8 cy ad8 t) rfl ?_
  refine r_aload_n hC dL_law_1174 rfl 2 rfl ?_
  refine r_vi (st := [.int r]) hC (kX8_used l D cy ad8 (pc8_latest t) (pc8_asked t) (pc8_upper t) (pc8_lower t) (pc8_legs t) (pc8_units t) (pc8_rests t) (pc8_rates t) (pc8_lines t) (pc8_came t) (pc8_sizes t) (pc8_weights t) (pc8_growths t) (pc8_copied t) (pc8_legWay t) (pc8_legUnits t) (pc8_legStuff t) (pc8_unitWay t) (pc8_unitStuff t) (pc8_xs t) (pc8_ys t) (pc8_zs t) (pc8_kindOf t) (pc8_placeOf t) (pc8_rateOf t) (pc8_readOf t) (pc8_isGone t) (pc8_theList t) (pc8_amounts t) (pc8_low t) (pc8_high t) (pc8_barred t) (pc8_times t) (pc8_ranges t)  N h8) gL_law_X8_used rfl ⟨rfl, rfl⟩ ydX8_used ⟨(Nat.le_of_ble_eq_true rfl), (Nat.le_of_ble_eq_true rfl)⟩ ⟨Nat.le_refl 52, Nat.le_refl 1789⟩ 0 rfl rfl (W7 cy ad7 (mk7 (pc7_lastFound s) (pc7_lastAsked s) (pc7_found s) (pc4_made s) (pc4_kinds s) (pc4_places s) (pc4_rates s) (pc4_readings s) (pc4_bearing s) (pc5_legs s) (pc5_length s) (pc5_ways s) (pc5_units s) (pc5_stuffOf s) (pc5_point s) (pc6_bytes s) (pc6_sizes s) (pc6_weights s) (pc3_size s) (pc3_rates s) (pc0_amounts s) (pc0_lows s) (pc0_highs s) (pc0_barred s) (pc1_lines s) (pc1_parts s) z2_above z2_below)) [] rfl _ rfl (Nat.le_of_ble_eq_true rfl) dL_law_1175 (W7 cy ad7 (mk7 (pc7_lastFound s) (pc7_lastAsked s) (pc7_found s) (pc4_made s) (pc4_kinds s) (pc4_places s) (pc4_rates s) (pc4_readings s) (pc4_bearing s) (pc5_legs s) (pc5_length s) (pc5_ways s) (pc5_units s) (pc5_stuffOf s) (pc5_point s) (pc6_bytes s) (pc6_sizes s) (pc6_weights s) (pc3_size s) (pc3_rates s) (pc0_amounts s) (pc0_lows s) (pc0_highs s) (pc0_barred s) (pc1_lines s) (pc1_parts s) z2_above z2_below) ++ W8 cy ad8 (mk8 (pc8_latest t) (pc8_asked t) z8_upper z8_lower (pc8_legs t) (pc8_units t) (pc8_rests t) (pc8_rates t) (pc8_lines t) (pc8_came t) (pc8_sizes t) (pc8_weights t) (pc8_growths t) (pc8_copied t) (pc8_legWay t) (pc8_legUnits t) (pc8_legStuff t) (pc8_unitWay t) (pc8_unitStuff t) (pc8_xs t) (pc8_ys t) (pc8_zs t) (pc8_kindOf t) (pc8_placeOf t) (pc8_rateOf t) (pc8_readOf t) (pc8_isGone t) (pc8_theList t) (pc8_amounts t) (pc8_low t) (pc8_high t) (pc8_barred t) (pc8_times t) (pc8_ranges t))) rfl ?_
  refine r_icmp_eq (tgt := 1353) hC dL_law_1178 (by decide) (fun _ => ?_) (fun c => absurd rfl c)
  exact next _ _ hR1
set_option maxHeartbeats 8000000 in
set_option maxRecDepth 100000 in
theorem law_read (X : CX) (l : Launch) (D : va_G) (cy : Nat → ClassId) (ad7 ad8 : Nat → Nat) (N : Nat) (Rel : S7 → S8 → Prop) (b L : Nat) (xs : Nat → Int32) (hC : OK X l D cy room_1 code 4 wsL_law RL) (hS : SC X b L xs) (hZ : ZL X.2.2.2.2.1) (j : Nat) (hj : j + 6 ≤ L) (hL : L ≤ 3072) (s : S7) (t : S8) (hR : Rel s t) (hop : op_read N Rel) (next : ∀ (s : S7) (t : S8), Rel s t → GG X 4 52 1789 (W7 cy ad7 s ++ W8 cy ad8 t) [(0, .ref b), (1, .ref (ad7 70)), (2, .ref (ad8 80)), (3, .int (nI j))] 1353 []) : GG X 4 52 1789 (W7 cy ad7 s ++ W8 cy ad8 t) [(0, .ref b), (1, .ref (ad7 70)), (2, .ref (ad8 80)), (3, .int (nI j))] 1183 [] := by
  obtain ⟨r, z7_lastFound, z7_found, z4_readings, z8_latest, z8_came, z8_readOf, h7, h8, hR1⟩ := hop s t hR ((xs (nI j + 1).toNatClampNeg)) ((xs (nI j + 2).toNatClampNeg))
  refine r_aload_n hC dL_law_1183 rfl 1 rfl ?_
  refine r_aload_n hC dL_law_1184 rfl 0 rfl ?_
  refine r_iload_n hC dL_law_1185 rfl 3 rfl ?_
  refine r_iconst hC dL_law_1186 ic_1 ?_
  refine r_iadd hC dL_law_1187 ?_
  refine r_sld hC hS (ix_in (k := 1) (by omega) hL) dL_law_1188 ?_
  refine r_aload_n hC dL_law_1189 rfl 0 rfl ?_
  refine r_iload_n hC dL_law_1190 rfl 3 rfl ?_
  refine r_iconst hC dL_law_1191 ic_2 ?_
  refine r_iadd hC dL_law_1192 ?_
  refine r_sld hC hS (ix_in (k := 2) (by omega) hL) dL_law_1193 ?_
  refine r_vi (st := []) hC (kX7_read l D cy ad7 (pc7_lastFound s) (pc7_lastAsked s) (pc7_found s) (pc4_made s) (pc4_kinds s) (pc4_places s) (pc4_rates s) (pc4_readings s) (pc4_bearing s) (pc5_legs s) (pc5_length s) (pc5_ways s) (pc5_units s) (pc5_stuffOf s) (pc5_point s) (pc6_bytes s) (pc6_sizes s) (pc6_weights s) (pc3_size s) (pc3_rates s) (pc0_amounts s) (pc0_lows s) (pc0_highs s) (pc0_barred s) (pc1_lines s) (pc1_parts s) (pc2_above s) (pc2_below s) ((xs (nI j + 1).toNatClampNeg)) ((xs (nI j + 2).toNatClampNeg)) h7) gL_law_X7_read rfl ⟨rfl, rfl⟩ ydX7_read ⟨(Nat.le_of_ble_eq_true rfl), (Nat.le_of_ble_eq_true rfl)⟩ ⟨Nat.le_refl 52, Nat.le_refl 1789⟩ 0 rfl rfl [] (W8 cy ad8 t) rfl _ rfl (Nat.le_of_ble_eq_true rfl) dL_law_1194 (W7 cy ad7 (mk7 z7_lastFound (pc7_lastAsked s) z7_found (pc4_made s) (pc4_kinds s) (pc4_places s) (pc4_rates s) z4_readings (pc4_bearing s) (pc5_legs s) (pc5_length s) (pc5_ways s) (pc5_units s) (pc5_stuffOf s) (pc5_point s) (pc6_bytes s) (pc6_sizes s) (pc6_weights s) (pc3_size s) (pc3_rates s) (pc0_amounts s) (pc0_lows s) (pc0_highs s) (pc0_barred s) (pc1_lines s) (pc1_parts s) (pc2_above s) (pc2_below s)) ++ W8 cy ad8 t) rfl ?_
  refine r_aload_n hC dL_law_1197 rfl 2 rfl ?_
  refine r_aload_n hC dL_law_1198 rfl 0 rfl ?_
  refine r_iload_n hC dL_law_1199 rfl 3 rfl ?_
  refine r_iconst hC dL_law_1200 ic_1 ?_
  refine r_iadd hC dL_law_1201 ?_
  refine r_sld hC hS (ix_in (k := 1) (by omega) hL) dL_law_1202 ?_
  refine r_aload_n hC dL_law_1203 rfl 0 rfl ?_
  refine r_iload_n hC dL_law_1204 rfl 3 rfl ?_
  refine r_iconst hC dL_law_1205 ic_2 ?_
  refine r_iadd hC dL_law_1206 ?_
  refine r_sld hC hS (ix_in (k := 2) (by omega) hL) dL_law_1207 ?_
  refine r_vi (st := [.int r]) hC (kX8_read l D cy ad8 (pc8_latest t) (pc8_asked t) (pc8_upper t) (pc8_lower t) (pc8_legs t) (pc8_units t) (pc8_rests t) (pc8_rates t) (pc8_lines t) (pc8_came t) (pc8_sizes t) (pc8_weights t) (pc8_growths t) (pc8_copied t) (pc8_legWay t) (pc8_legUnits t) (pc8_legStuff t) (pc8_unitWay t) (pc8_unitStuff t) (pc8_xs t) (pc8_ys t) (pc8_zs t) (pc8_kindOf t) (pc8_placeOf t) (pc8_rateOf t) (pc8_readOf t) (pc8_isGone t) (pc8_theList t) (pc8_amounts t) (pc8_low t) (pc8_high t) (pc8_barred t) (pc8_times t) (pc8_ranges t) ((xs (nI j + 1).toNatClampNeg)) ((xs (nI j + 2).toNatClampNeg)) h8) gL_law_X8_read rfl ⟨rfl, rfl⟩ ydX8_read ⟨(Nat.le_of_ble_eq_true rfl), (Nat.le_of_ble_eq_true rfl)⟩ ⟨Nat.le_refl 52, Nat.le_refl 1789⟩ 0 rfl rfl (W7 cy ad7 (mk7 z7_lastFound (pc7_lastAsked s) z7_found (pc4_made s) (pc4_kinds s) (pc4_places s) (pc4_rates s) z4_readings (pc4_bearing s) (pc5_legs s) (pc5_length s) (pc5_ways s) (pc5_units s) (pc5_stuffOf s) (pc5_point s) (pc6_bytes s) (pc6_sizes s) (pc6_weights s) (pc3_size s) (pc3_rates s) (pc0_amounts s) (pc0_lows s) (pc0_highs s) (pc0_barred s) (pc1_lines s) (pc1_parts s) (pc2_above s) (pc2_below s))) [] rfl _ rfl (Nat.le_of_ble_eq_true rfl) dL_law_1208 (W7 cy ad7 (mk7 z7_lastFound (pc7_lastAsked s) z7_found (pc4_made s) (pc4_kinds s) (pc4_places s) (pc4_rates s) z4_readings (pc4_bearing s) (pc5_legs s) (pc5_length s) (pc5_ways s) (pc5_units s) (pc5_stuffOf s) (pc5_point s) (pc6_bytes s) (pc6_sizes s) (pc6_weights s) (pc3_size s) (pc3_rates s) (pc0_amounts s) (pc0_lows s) (pc0_highs s) (pc0_barred s) (pc1_lines s) (pc1_parts s) (pc2_above s) (pc2_below s)) ++ W8 cy ad8 (mk8 z8_latest (pc8_asked t) (pc8_upper t) (pc8_lower t) (pc8_legs t) (pc8_units t) (pc8_rests t) (pc8_rates t) (pc8_lines t) z8_came (pc8_sizes t) (pc8_weights t) (pc8_growths t) (pc8_copied t) (pc8_legWay t) (pc8_legUnits t) (pc8_legStuff t) (pc8_unitWay t) (pc8_unitStuff t) (pc8_xs t) (pc8_ys t) (pc8_zs t) (pc8_kindOf t) (pc8_placeOf t) (pc8_rateOf t) z8_readOf (pc8_isGone t) (pc8_theList t) (pc8_amounts t) (pc8_low t) (pc8_high t) (pc8_barred t) (pc8_times t) (pc8_ranges t))) rfl ?_
  refine r_icmp_eq (tgt := 1353) hC dL_law_1211 (by decide) (fun _ => ?_) (fun c => absurd rfl c)
  exact next _ _ hR1
set_option maxHeartbeats 8000000 in
set_option maxRecDepth 100000 in
theorem law_missing (X : CX) (l : Launch) (D : va_G) (cy : Nat → ClassId) (ad7 ad8 : Nat → Nat) (N : Nat) (Rel : S7 → S8 → Prop) (b L : Nat) (xs : Nat → Int32) (hC : OK X l D cy room_1 code 4 wsL_law RL) (hS : SC X b L xs) (hZ : ZL X.2.2.2.2.1) (j : Nat) (hj : j + 6 ≤ L) (hL : L ≤ 3072) (s : S7) (t : S8) (hR : Rel s t) (hop : op_missing N Rel) (next : ∀ (s : S7) (t : S8), Rel s t → GG X 4 52 1789 (W7 cy ad7 s ++ W8 cy ad8 t) [(0, .ref b), (1, .ref (ad7 70)), (2, .ref (ad8 80)), (3, .int (nI j))] 1353 []) : GG X 4 52 1789 (W7 cy ad7 s ++ W8 cy ad8 t) [(0, .ref b), (1, .ref (ad7 70)), (2, .ref (ad8 80)), (3, .int (nI j))] 1216 [] := by
  obtain ⟨r, z7_lastAsked, z4_bearing, z8_asked, h7, h8, hR1⟩ := hop s t hR ((xs (nI j + 1).toNatClampNeg))
  refine r_aload_n hC dL_law_1216 rfl 1 rfl ?_
  refine r_aload_n hC dL_law_1217 rfl 0 rfl ?_
  refine r_iload_n hC dL_law_1218 rfl 3 rfl ?_
  refine r_iconst hC dL_law_1219 ic_1 ?_
  refine r_iadd hC dL_law_1220 ?_
  refine r_sld hC hS (ix_in (k := 1) (by omega) hL) dL_law_1221 ?_
  refine r_vi (st := []) hC (kX7_missing l D cy ad7 (pc7_lastFound s) (pc7_lastAsked s) (pc7_found s) (pc4_made s) (pc4_kinds s) (pc4_places s) (pc4_rates s) (pc4_readings s) (pc4_bearing s) (pc5_legs s) (pc5_length s) (pc5_ways s) (pc5_units s) (pc5_stuffOf s) (pc5_point s) (pc6_bytes s) (pc6_sizes s) (pc6_weights s) (pc3_size s) (pc3_rates s) (pc0_amounts s) (pc0_lows s) (pc0_highs s) (pc0_barred s) (pc1_lines s) (pc1_parts s) (pc2_above s) (pc2_below s) ((xs (nI j + 1).toNatClampNeg)) N h7) gL_law_X7_missing rfl ⟨rfl, rfl⟩ ydX7_missing ⟨(Nat.le_of_ble_eq_true rfl), (Nat.le_of_ble_eq_true rfl)⟩ ⟨Nat.le_refl 52, Nat.le_refl 1789⟩ 0 rfl rfl [] (W8 cy ad8 t) rfl _ rfl (Nat.le_of_ble_eq_true rfl) dL_law_1222 (W7 cy ad7 (mk7 (pc7_lastFound s) z7_lastAsked (pc7_found s) (pc4_made s) (pc4_kinds s) (pc4_places s) (pc4_rates s) (pc4_readings s) z4_bearing (pc5_legs s) (pc5_length s) (pc5_ways s) (pc5_units s) (pc5_stuffOf s) (pc5_point s) (pc6_bytes s) (pc6_sizes s) (pc6_weights s) (pc3_size s) (pc3_rates s) (pc0_amounts s) (pc0_lows s) (pc0_highs s) (pc0_barred s) (pc1_lines s) (pc1_parts s) (pc2_above s) (pc2_below s)) ++ W8 cy ad8 t) rfl ?_
  refine r_aload_n hC dL_law_1225 rfl 2 rfl ?_
  refine r_aload_n hC dL_law_1226 rfl 0 rfl ?_
  refine r_iload_n hC dL_law_1227 rfl 3 rfl ?_
  refine r_iconst hC dL_law_1228 ic_1 ?_
  refine r_iadd hC dL_law_1229 ?_
  refine r_sld hC hS (ix_in (k := 1) (by omega) hL) dL_law_1230 ?_
  refine r_vi (st := [.int r]) hC (kX8_missing l D cy ad8 (pc8_latest t) (pc8_asked t) (pc8_upper t) (pc8_lower t) (pc8_legs t) (pc8_units t) (pc8_rests t) (pc8_rates t) (pc8_lines t) (pc8_came t) (pc8_sizes t) (pc8_weights t) (pc8_growths t) (pc8_copied t) (pc8_legWay t) (pc8_legUnits t) (pc8_legStuff t) (pc8_unitWay t) (pc8_unitStuff t) (pc8_xs t) (pc8_ys t) (pc8_zs t) (pc8_kindOf t) (pc8_placeOf t) (pc8_rateOf t) (pc8_readOf t) (pc8_isGone t) (pc8_theList t) (pc8_amounts t) (pc8_low t) (pc8_high t) (pc8_barred t) (pc8_times t) (pc8_ranges t) ((xs (nI j + 1).toNatClampNeg)) N h8) gL_law_X8_missing rfl ⟨rfl, rfl⟩ ydX8_missing ⟨(Nat.le_of_ble_eq_true rfl), (Nat.le_of_ble_eq_true rfl)⟩ ⟨Nat.le_refl 52, Nat.le_refl 1789⟩ 0 rfl rfl (W7 cy ad7 (mk7 (pc7_lastFound s) z7_lastAsked (pc7_found s) (pc4_made s) (pc4_kinds s) (pc4_places s) (pc4_rates s) (pc4_readings s) z4_bearing (pc5_legs s) (pc5_length s) (pc5_ways s) (pc5_units s) (pc5_stuffOf s) (pc5_point s) (pc6_bytes s) (pc6_sizes s) (pc6_weights s) (pc3_size s) (pc3_rates s) (pc0_amounts s) (pc0_lows s) (pc0_highs s) (pc0_barred s) (pc1_lines s) (pc1_parts s) (pc2_above s) (pc2_below s))) [] rfl _ rfl (Nat.le_of_ble_eq_true rfl) dL_law_1231 (W7 cy ad7 (mk7 (pc7_lastFound s) z7_lastAsked (pc7_found s) (pc4_made s) (pc4_kinds s) (pc4_places s) (pc4_rates s) (pc4_readings s) z4_bearing (pc5_legs s) (pc5_length s) (pc5_ways s) (pc5_units s) (pc5_stuffOf s) (pc5_point s) (pc6_bytes s) (pc6_sizes s) (pc6_weights s) (pc3_size s) (pc3_rates s) (pc0_amounts s) (pc0_lows s) (pc0_highs s) (pc0_barred s) (pc1_lines s) (pc1_parts s) (pc2_above s) (pc2_below s)) ++ W8 cy ad8 (mk8 (pc8_latest t) z8_asked (pc8_upper t) (pc8_lower t) (pc8_legs t) (pc8_units t) (pc8_rests t) (pc8_rates t) (pc8_lines t) (pc8_came t) (pc8_sizes t) (pc8_weights t) (pc8_growths t) (pc8_copied t) (pc8_legWay t) (pc8_legUnits t) (pc8_legStuff t) (pc8_unitWay t) (pc8_unitStuff t) (pc8_xs t) (pc8_ys t) (pc8_zs t) (pc8_kindOf t) (pc8_placeOf t) (pc8_rateOf t) (pc8_readOf t) (pc8_isGone t) (pc8_theList t) (pc8_amounts t) (pc8_low t) (pc8_high t) (pc8_barred t) (pc8_times t) (pc8_ranges t))) rfl ?_
  refine r_icmp_eq (tgt := 1353) hC dL_law_1234 (by decide) (fun _ => ?_) (fun c => absurd rfl c)
  exact next _ _ hR1
set_option maxHeartbeats 8000000 in
set_option maxRecDepth 100000 in
theorem law_asked (X : CX) (l : Launch) (D : va_G) (cy : Nat → ClassId) (ad7 ad8 : Nat → Nat) (N : Nat) (Rel : S7 → S8 → Prop) (b L : Nat) (xs : Nat → Int32) (hC : OK X l D cy room_1 code 4 wsL_law RL) (hS : SC X b L xs) (hZ : ZL X.2.2.2.2.1) (j : Nat) (hj : j + 6 ≤ L) (hL : L ≤ 3072) (s : S7) (t : S8) (hR : Rel s t) (hop : op_asked N Rel) (next : ∀ (s : S7) (t : S8), Rel s t → GG X 4 52 1789 (W7 cy ad7 s ++ W8 cy ad8 t) [(0, .ref b), (1, .ref (ad7 70)), (2, .ref (ad8 80)), (3, .int (nI j))] 1353 []) : GG X 4 52 1789 (W7 cy ad7 s ++ W8 cy ad8 t) [(0, .ref b), (1, .ref (ad7 70)), (2, .ref (ad8 80)), (3, .int (nI j))] 1239 [] := by
  obtain ⟨r, h7, h8, hR1⟩ := hop s t hR
  refine r_aload_n hC dL_law_1239 rfl 1 rfl ?_
  refine r_vi (st := []) hC (kX7_asked l D cy ad7 (pc7_lastFound s) (pc7_lastAsked s) (pc7_found s) (pc4_made s) (pc4_kinds s) (pc4_places s) (pc4_rates s) (pc4_readings s) (pc4_bearing s) (pc5_legs s) (pc5_length s) (pc5_ways s) (pc5_units s) (pc5_stuffOf s) (pc5_point s) (pc6_bytes s) (pc6_sizes s) (pc6_weights s) (pc3_size s) (pc3_rates s) (pc0_amounts s) (pc0_lows s) (pc0_highs s) (pc0_barred s) (pc1_lines s) (pc1_parts s) (pc2_above s) (pc2_below s)  h7) gL_law_X7_asked rfl ⟨rfl, rfl⟩ ydX7_asked ⟨(Nat.le_of_ble_eq_true rfl), (Nat.le_of_ble_eq_true rfl)⟩ ⟨Nat.le_refl 52, Nat.le_refl 1789⟩ 0 rfl rfl [] (W8 cy ad8 t) rfl _ rfl (Nat.le_of_ble_eq_true rfl) dL_law_1240 (W7 cy ad7 s ++ W8 cy ad8 t) rfl ?_
  refine r_aload_n hC dL_law_1243 rfl 2 rfl ?_
  refine r_vi (st := [.int r]) hC (kX8_asked l D cy ad8 (pc8_latest t) (pc8_asked t) (pc8_upper t) (pc8_lower t) (pc8_legs t) (pc8_units t) (pc8_rests t) (pc8_rates t) (pc8_lines t) (pc8_came t) (pc8_sizes t) (pc8_weights t) (pc8_growths t) (pc8_copied t) (pc8_legWay t) (pc8_legUnits t) (pc8_legStuff t) (pc8_unitWay t) (pc8_unitStuff t) (pc8_xs t) (pc8_ys t) (pc8_zs t) (pc8_kindOf t) (pc8_placeOf t) (pc8_rateOf t) (pc8_readOf t) (pc8_isGone t) (pc8_theList t) (pc8_amounts t) (pc8_low t) (pc8_high t) (pc8_barred t) (pc8_times t) (pc8_ranges t)  h8) gL_law_X8_asked rfl ⟨rfl, rfl⟩ ydX8_asked ⟨(Nat.le_of_ble_eq_true rfl), (Nat.le_of_ble_eq_true rfl)⟩ ⟨Nat.le_refl 52, Nat.le_refl 1789⟩ 0 rfl rfl (W7 cy ad7 s) [] rfl _ rfl (Nat.le_of_ble_eq_true rfl) dL_law_1244 (W7 cy ad7 s ++ W8 cy ad8 t) rfl ?_
  refine r_icmp_eq (tgt := 1353) hC dL_law_1247 (by decide) (fun _ => ?_) (fun c => absurd rfl c)
  exact next _ _ hR1
set_option maxHeartbeats 8000000 in
set_option maxRecDepth 100000 in
theorem law_upper (X : CX) (l : Launch) (D : va_G) (cy : Nat → ClassId) (ad7 ad8 : Nat → Nat) (N : Nat) (Rel : S7 → S8 → Prop) (b L : Nat) (xs : Nat → Int32) (hC : OK X l D cy room_1 code 4 wsL_law RL) (hS : SC X b L xs) (hZ : ZL X.2.2.2.2.1) (j : Nat) (hj : j + 6 ≤ L) (hL : L ≤ 3072) (s : S7) (t : S8) (hR : Rel s t) (hop : op_upper N Rel) (next : ∀ (s : S7) (t : S8), Rel s t → GG X 4 52 1789 (W7 cy ad7 s ++ W8 cy ad8 t) [(0, .ref b), (1, .ref (ad7 70)), (2, .ref (ad8 80)), (3, .int (nI j))] 1353 []) : GG X 4 52 1789 (W7 cy ad7 s ++ W8 cy ad8 t) [(0, .ref b), (1, .ref (ad7 70)), (2, .ref (ad8 80)), (3, .int (nI j))] 1252 [] := by
  have h8 := hop s t hR
  refine r_aload_n hC dL_law_1252 rfl 1 rfl ?_
  refine r_vz (st := []) hC Z7_upper_ok hZ.2.1 (kX7_upper l D cy ad7 (pc7_lastFound s) (pc7_lastAsked s) (pc7_found s) (pc4_made s) (pc4_kinds s) (pc4_places s) (pc4_rates s) (pc4_readings s) (pc4_bearing s) (pc5_legs s) (pc5_length s) (pc5_ways s) (pc5_units s) (pc5_stuffOf s) (pc5_point s) (pc6_bytes s) (pc6_sizes s) (pc6_weights s) (pc3_size s) (pc3_rates s) (pc0_amounts s) (pc0_lows s) (pc0_highs s) (pc0_barred s) (pc1_lines s) (pc1_parts s) (pc2_above s) (pc2_below s)) gL_law_X7_upper rfl ⟨rfl, rfl⟩ ydX7_upper ⟨(Nat.le_of_ble_eq_true rfl), (Nat.le_of_ble_eq_true rfl)⟩ ⟨Nat.le_refl 52, Nat.le_refl 1789⟩ 0 rfl rfl [] (W8 cy ad8 t) rfl _ rfl (Nat.le_of_ble_eq_true rfl) dL_law_1253 (W7 cy ad7 s ++ W8 cy ad8 t) rfl ?_
  refine r_aload_n hC dL_law_1256 rfl 2 rfl ?_
  refine r_vl (st := [.long (pc2_above s)]) hC (kX8_upper l D cy ad8 (pc8_latest t) (pc8_asked t) (pc8_upper t) (pc8_lower t) (pc8_legs t) (pc8_units t) (pc8_rests t) (pc8_rates t) (pc8_lines t) (pc8_came t) (pc8_sizes t) (pc8_weights t) (pc8_growths t) (pc8_copied t) (pc8_legWay t) (pc8_legUnits t) (pc8_legStuff t) (pc8_unitWay t) (pc8_unitStuff t) (pc8_xs t) (pc8_ys t) (pc8_zs t) (pc8_kindOf t) (pc8_placeOf t) (pc8_rateOf t) (pc8_readOf t) (pc8_isGone t) (pc8_theList t) (pc8_amounts t) (pc8_low t) (pc8_high t) (pc8_barred t) (pc8_times t) (pc8_ranges t)  h8) gL_law_X8_upper rfl ⟨rfl, rfl⟩ ydX8_upper ⟨(Nat.le_of_ble_eq_true rfl), (Nat.le_of_ble_eq_true rfl)⟩ ⟨Nat.le_refl 52, Nat.le_refl 1789⟩ 0 rfl rfl (W7 cy ad7 s) [] rfl _ rfl (Nat.le_of_ble_eq_true rfl) dL_law_1257 (W7 cy ad7 s ++ W8 cy ad8 t) rfl ?_
  refine r_lcmp hC dL_law_1260 ?_
  refine r_if_eq (tgt := 1353) hC dL_law_1261 (by decide) (fun _ => ?_) (fun c => absurd ((lg_cmp_eq _ _).mpr rfl) c)
  exact next _ _ hR
set_option maxHeartbeats 8000000 in
set_option maxRecDepth 100000 in
theorem law_lower (X : CX) (l : Launch) (D : va_G) (cy : Nat → ClassId) (ad7 ad8 : Nat → Nat) (N : Nat) (Rel : S7 → S8 → Prop) (b L : Nat) (xs : Nat → Int32) (hC : OK X l D cy room_1 code 4 wsL_law RL) (hS : SC X b L xs) (hZ : ZL X.2.2.2.2.1) (j : Nat) (hj : j + 6 ≤ L) (hL : L ≤ 3072) (s : S7) (t : S8) (hR : Rel s t) (hop : op_lower N Rel) (next : ∀ (s : S7) (t : S8), Rel s t → GG X 4 52 1789 (W7 cy ad7 s ++ W8 cy ad8 t) [(0, .ref b), (1, .ref (ad7 70)), (2, .ref (ad8 80)), (3, .int (nI j))] 1353 []) : GG X 4 52 1789 (W7 cy ad7 s ++ W8 cy ad8 t) [(0, .ref b), (1, .ref (ad7 70)), (2, .ref (ad8 80)), (3, .int (nI j))] 1266 [] := by
  have h8 := hop s t hR
  refine r_aload_n hC dL_law_1266 rfl 1 rfl ?_
  refine r_vz (st := []) hC Z7_lower_ok hZ.2.2 (kX7_lower l D cy ad7 (pc7_lastFound s) (pc7_lastAsked s) (pc7_found s) (pc4_made s) (pc4_kinds s) (pc4_places s) (pc4_rates s) (pc4_readings s) (pc4_bearing s) (pc5_legs s) (pc5_length s) (pc5_ways s) (pc5_units s) (pc5_stuffOf s) (pc5_point s) (pc6_bytes s) (pc6_sizes s) (pc6_weights s) (pc3_size s) (pc3_rates s) (pc0_amounts s) (pc0_lows s) (pc0_highs s) (pc0_barred s) (pc1_lines s) (pc1_parts s) (pc2_above s) (pc2_below s)) gL_law_X7_lower rfl ⟨rfl, rfl⟩ ydX7_lower ⟨(Nat.le_of_ble_eq_true rfl), (Nat.le_of_ble_eq_true rfl)⟩ ⟨Nat.le_refl 52, Nat.le_refl 1789⟩ 0 rfl rfl [] (W8 cy ad8 t) rfl _ rfl (Nat.le_of_ble_eq_true rfl) dL_law_1267 (W7 cy ad7 s ++ W8 cy ad8 t) rfl ?_
  refine r_aload_n hC dL_law_1270 rfl 2 rfl ?_
  refine r_vl (st := [.long (pc2_below s)]) hC (kX8_lower l D cy ad8 (pc8_latest t) (pc8_asked t) (pc8_upper t) (pc8_lower t) (pc8_legs t) (pc8_units t) (pc8_rests t) (pc8_rates t) (pc8_lines t) (pc8_came t) (pc8_sizes t) (pc8_weights t) (pc8_growths t) (pc8_copied t) (pc8_legWay t) (pc8_legUnits t) (pc8_legStuff t) (pc8_unitWay t) (pc8_unitStuff t) (pc8_xs t) (pc8_ys t) (pc8_zs t) (pc8_kindOf t) (pc8_placeOf t) (pc8_rateOf t) (pc8_readOf t) (pc8_isGone t) (pc8_theList t) (pc8_amounts t) (pc8_low t) (pc8_high t) (pc8_barred t) (pc8_times t) (pc8_ranges t)  h8) gL_law_X8_lower rfl ⟨rfl, rfl⟩ ydX8_lower ⟨(Nat.le_of_ble_eq_true rfl), (Nat.le_of_ble_eq_true rfl)⟩ ⟨Nat.le_refl 52, Nat.le_refl 1789⟩ 0 rfl rfl (W7 cy ad7 s) [] rfl _ rfl (Nat.le_of_ble_eq_true rfl) dL_law_1271 (W7 cy ad7 s ++ W8 cy ad8 t) rfl ?_
  refine r_lcmp hC dL_law_1274 ?_
  refine r_if_eq (tgt := 1353) hC dL_law_1275 (by decide) (fun _ => ?_) (fun c => absurd ((lg_cmp_eq _ _).mpr rfl) c)
  exact next _ _ hR
set_option maxHeartbeats 8000000 in
set_option maxRecDepth 100000 in
theorem law_count (X : CX) (l : Launch) (D : va_G) (cy : Nat → ClassId) (ad7 ad8 : Nat → Nat) (N : Nat) (Rel : S7 → S8 → Prop) (b L : Nat) (xs : Nat → Int32) (hC : OK X l D cy room_1 code 4 wsL_law RL) (hS : SC X b L xs) (hZ : ZL X.2.2.2.2.1) (j : Nat) (hj : j + 6 ≤ L) (hL : L ≤ 3072) (s : S7) (t : S8) (hR : Rel s t) (hop : op_count N Rel) (next : ∀ (s : S7) (t : S8), Rel s t → GG X 4 52 1789 (W7 cy ad7 s ++ W8 cy ad8 t) [(0, .ref b), (1, .ref (ad7 70)), (2, .ref (ad8 80)), (3, .int (nI j))] 1353 []) : GG X 4 52 1789 (W7 cy ad7 s ++ W8 cy ad8 t) [(0, .ref b), (1, .ref (ad7 70)), (2, .ref (ad8 80)), (3, .int (nI j))] 1280 [] := by
  obtain ⟨r, h7, h8, hR1⟩ := hop s t hR ((xs (nI j + 1).toNatClampNeg))
  refine r_aload_n hC dL_law_1280 rfl 1 rfl ?_
  refine r_aload_n hC dL_law_1281 rfl 0 rfl ?_
  refine r_iload_n hC dL_law_1282 rfl 3 rfl ?_
  refine r_iconst hC dL_law_1283 ic_1 ?_
  refine r_iadd hC dL_law_1284 ?_
  refine r_sld hC hS (ix_in (k := 1) (by omega) hL) dL_law_1285 ?_
  refine r_vi (st := []) hC (kX7_count l D cy ad7 (pc7_lastFound s) (pc7_lastAsked s) (pc7_found s) (pc4_made s) (pc4_kinds s) (pc4_places s) (pc4_rates s) (pc4_readings s) (pc4_bearing s) (pc5_legs s) (pc5_length s) (pc5_ways s) (pc5_units s) (pc5_stuffOf s) (pc5_point s) (pc6_bytes s) (pc6_sizes s) (pc6_weights s) (pc3_size s) (pc3_rates s) (pc0_amounts s) (pc0_lows s) (pc0_highs s) (pc0_barred s) (pc1_lines s) (pc1_parts s) (pc2_above s) (pc2_below s) ((xs (nI j + 1).toNatClampNeg)) N h7) gL_law_X7_count rfl ⟨rfl, rfl⟩ ydX7_count ⟨(Nat.le_of_ble_eq_true rfl), (Nat.le_of_ble_eq_true rfl)⟩ ⟨Nat.le_refl 52, Nat.le_refl 1789⟩ 0 rfl rfl [] (W8 cy ad8 t) rfl _ rfl (Nat.le_of_ble_eq_true rfl) dL_law_1286 (W7 cy ad7 s ++ W8 cy ad8 t) rfl ?_
  refine r_aload_n hC dL_law_1289 rfl 2 rfl ?_
  refine r_aload_n hC dL_law_1290 rfl 0 rfl ?_
  refine r_iload_n hC dL_law_1291 rfl 3 rfl ?_
  refine r_iconst hC dL_law_1292 ic_1 ?_
  refine r_iadd hC dL_law_1293 ?_
  refine r_sld hC hS (ix_in (k := 1) (by omega) hL) dL_law_1294 ?_
  refine r_vi (st := [.int r]) hC (kX8_count l D cy ad8 (pc8_latest t) (pc8_asked t) (pc8_upper t) (pc8_lower t) (pc8_legs t) (pc8_units t) (pc8_rests t) (pc8_rates t) (pc8_lines t) (pc8_came t) (pc8_sizes t) (pc8_weights t) (pc8_growths t) (pc8_copied t) (pc8_legWay t) (pc8_legUnits t) (pc8_legStuff t) (pc8_unitWay t) (pc8_unitStuff t) (pc8_xs t) (pc8_ys t) (pc8_zs t) (pc8_kindOf t) (pc8_placeOf t) (pc8_rateOf t) (pc8_readOf t) (pc8_isGone t) (pc8_theList t) (pc8_amounts t) (pc8_low t) (pc8_high t) (pc8_barred t) (pc8_times t) (pc8_ranges t) ((xs (nI j + 1).toNatClampNeg)) N h8) gL_law_X8_count rfl ⟨rfl, rfl⟩ ydX8_count ⟨(Nat.le_of_ble_eq_true rfl), (Nat.le_of_ble_eq_true rfl)⟩ ⟨Nat.le_refl 52, Nat.le_refl 1789⟩ 0 rfl rfl (W7 cy ad7 s) [] rfl _ rfl (Nat.le_of_ble_eq_true rfl) dL_law_1295 (W7 cy ad7 s ++ W8 cy ad8 t) rfl ?_
  refine r_icmp_eq (tgt := 1353) hC dL_law_1298 (by decide) (fun _ => ?_) (fun c => absurd rfl c)
  exact next _ _ hR1
set_option maxHeartbeats 8000000 in
set_option maxRecDepth 100000 in
theorem law_finding (X : CX) (l : Launch) (D : va_G) (cy : Nat → ClassId) (ad7 ad8 : Nat → Nat) (N : Nat) (Rel : S7 → S8 → Prop) (b L : Nat) (xs : Nat → Int32) (hC : OK X l D cy room_1 code 4 wsL_law RL) (hS : SC X b L xs) (hZ : ZL X.2.2.2.2.1) (j : Nat) (hj : j + 6 ≤ L) (hL : L ≤ 3072) (s : S7) (t : S8) (hR : Rel s t) (hop : op_finding N Rel) (next : ∀ (s : S7) (t : S8), Rel s t → GG X 4 52 1789 (W7 cy ad7 s ++ W8 cy ad8 t) [(0, .ref b), (1, .ref (ad7 70)), (2, .ref (ad8 80)), (3, .int (nI j))] 1353 []) : GG X 4 52 1789 (W7 cy ad7 s ++ W8 cy ad8 t) [(0, .ref b), (1, .ref (ad7 70)), (2, .ref (ad8 80)), (3, .int (nI j))] 1303 [] := by
  obtain ⟨r, h7, h8, hR1⟩ := hop s t hR
  refine r_aload_n hC dL_law_1303 rfl 1 rfl ?_
  refine r_vi (st := []) hC (kX7_finding l D cy ad7 (pc7_lastFound s) (pc7_lastAsked s) (pc7_found s) (pc4_made s) (pc4_kinds s) (pc4_places s) (pc4_rates s) (pc4_readings s) (pc4_bearing s) (pc5_legs s) (pc5_length s) (pc5_ways s) (pc5_units s) (pc5_stuffOf s) (pc5_point s) (pc6_bytes s) (pc6_sizes s) (pc6_weights s) (pc3_size s) (pc3_rates s) (pc0_amounts s) (pc0_lows s) (pc0_highs s) (pc0_barred s) (pc1_lines s) (pc1_parts s) (pc2_above s) (pc2_below s)  h7) gL_law_X7_finding rfl ⟨rfl, rfl⟩ ydX7_finding ⟨(Nat.le_of_ble_eq_true rfl), (Nat.le_of_ble_eq_true rfl)⟩ ⟨Nat.le_refl 52, Nat.le_refl 1789⟩ 0 rfl rfl [] (W8 cy ad8 t) rfl _ rfl (Nat.le_of_ble_eq_true rfl) dL_law_1304 (W7 cy ad7 s ++ W8 cy ad8 t) rfl ?_
  refine r_aload_n hC dL_law_1307 rfl 2 rfl ?_
  refine r_vi (st := [.int r]) hC (kX8_finding l D cy ad8 (pc8_latest t) (pc8_asked t) (pc8_upper t) (pc8_lower t) (pc8_legs t) (pc8_units t) (pc8_rests t) (pc8_rates t) (pc8_lines t) (pc8_came t) (pc8_sizes t) (pc8_weights t) (pc8_growths t) (pc8_copied t) (pc8_legWay t) (pc8_legUnits t) (pc8_legStuff t) (pc8_unitWay t) (pc8_unitStuff t) (pc8_xs t) (pc8_ys t) (pc8_zs t) (pc8_kindOf t) (pc8_placeOf t) (pc8_rateOf t) (pc8_readOf t) (pc8_isGone t) (pc8_theList t) (pc8_amounts t) (pc8_low t) (pc8_high t) (pc8_barred t) (pc8_times t) (pc8_ranges t)  h8) gL_law_X8_finding rfl ⟨rfl, rfl⟩ ydX8_finding ⟨(Nat.le_of_ble_eq_true rfl), (Nat.le_of_ble_eq_true rfl)⟩ ⟨Nat.le_refl 52, Nat.le_refl 1789⟩ 0 rfl rfl (W7 cy ad7 s) [] rfl _ rfl (Nat.le_of_ble_eq_true rfl) dL_law_1308 (W7 cy ad7 s ++ W8 cy ad8 t) rfl ?_
  refine r_icmp_eq (tgt := 1353) hC dL_law_1311 (by decide) (fun _ => ?_) (fun c => absurd rfl c)
  exact next _ _ hR1
set_option maxHeartbeats 8000000 in
set_option maxRecDepth 100000 in
theorem law_findings (X : CX) (l : Launch) (D : va_G) (cy : Nat → ClassId) (ad7 ad8 : Nat → Nat) (N : Nat) (Rel : S7 → S8 → Prop) (b L : Nat) (xs : Nat → Int32) (hC : OK X l D cy room_1 code 4 wsL_law RL) (hS : SC X b L xs) (hZ : ZL X.2.2.2.2.1) (j : Nat) (hj : j + 6 ≤ L) (hL : L ≤ 3072) (s : S7) (t : S8) (hR : Rel s t) (hop : op_findings N Rel) (next : ∀ (s : S7) (t : S8), Rel s t → GG X 4 52 1789 (W7 cy ad7 s ++ W8 cy ad8 t) [(0, .ref b), (1, .ref (ad7 70)), (2, .ref (ad8 80)), (3, .int (nI j))] 1353 []) : GG X 4 52 1789 (W7 cy ad7 s ++ W8 cy ad8 t) [(0, .ref b), (1, .ref (ad7 70)), (2, .ref (ad8 80)), (3, .int (nI j))] 1316 [] := by
  obtain ⟨r, h7, h8, hR1⟩ := hop s t hR ((xs (nI j + 1).toNatClampNeg))
  refine r_aload_n hC dL_law_1316 rfl 1 rfl ?_
  refine r_aload_n hC dL_law_1317 rfl 0 rfl ?_
  refine r_iload_n hC dL_law_1318 rfl 3 rfl ?_
  refine r_iconst hC dL_law_1319 ic_1 ?_
  refine r_iadd hC dL_law_1320 ?_
  refine r_sld hC hS (ix_in (k := 1) (by omega) hL) dL_law_1321 ?_
  refine r_vi (st := []) hC (kX7_findings l D cy ad7 (pc7_lastFound s) (pc7_lastAsked s) (pc7_found s) (pc4_made s) (pc4_kinds s) (pc4_places s) (pc4_rates s) (pc4_readings s) (pc4_bearing s) (pc5_legs s) (pc5_length s) (pc5_ways s) (pc5_units s) (pc5_stuffOf s) (pc5_point s) (pc6_bytes s) (pc6_sizes s) (pc6_weights s) (pc3_size s) (pc3_rates s) (pc0_amounts s) (pc0_lows s) (pc0_highs s) (pc0_barred s) (pc1_lines s) (pc1_parts s) (pc2_above s) (pc2_below s) ((xs (nI j + 1).toNatClampNeg)) h7) gL_law_X7_findings rfl ⟨rfl, rfl⟩ ydX7_findings ⟨(Nat.le_of_ble_eq_true rfl), (Nat.le_of_ble_eq_true rfl)⟩ ⟨Nat.le_refl 52, Nat.le_refl 1789⟩ 0 rfl rfl [] (W8 cy ad8 t) rfl _ rfl (Nat.le_of_ble_eq_true rfl) dL_law_1322 (W7 cy ad7 s ++ W8 cy ad8 t) rfl ?_
  refine r_aload_n hC dL_law_1325 rfl 2 rfl ?_
  refine r_aload_n hC dL_law_1326 rfl 0 rfl ?_
  refine r_iload_n hC dL_law_1327 rfl 3 rfl ?_
  refine r_iconst hC dL_law_1328 ic_1 ?_
  refine r_iadd hC dL_law_1329 ?_
  refine r_sld hC hS (ix_in (k := 1) (by omega) hL) dL_law_1330 ?_
  refine r_vi (st := [.int r]) hC (kX8_findings l D cy ad8 (pc8_latest t) (pc8_asked t) (pc8_upper t) (pc8_lower t) (pc8_legs t) (pc8_units t) (pc8_rests t) (pc8_rates t) (pc8_lines t) (pc8_came t) (pc8_sizes t) (pc8_weights t) (pc8_growths t) (pc8_copied t) (pc8_legWay t) (pc8_legUnits t) (pc8_legStuff t) (pc8_unitWay t) (pc8_unitStuff t) (pc8_xs t) (pc8_ys t) (pc8_zs t) (pc8_kindOf t) (pc8_placeOf t) (pc8_rateOf t) (pc8_readOf t) (pc8_isGone t) (pc8_theList t) (pc8_amounts t) (pc8_low t) (pc8_high t) (pc8_barred t) (pc8_times t) (pc8_ranges t) ((xs (nI j + 1).toNatClampNeg)) h8) gL_law_X8_findings rfl ⟨rfl, rfl⟩ ydX8_findings ⟨(Nat.le_of_ble_eq_true rfl), (Nat.le_of_ble_eq_true rfl)⟩ ⟨Nat.le_refl 52, Nat.le_refl 1789⟩ 0 rfl rfl (W7 cy ad7 s) [] rfl _ rfl (Nat.le_of_ble_eq_true rfl) dL_law_1331 (W7 cy ad7 s ++ W8 cy ad8 t) rfl ?_
  refine r_icmp_eq (tgt := 1353) hC dL_law_1334 (by decide) (fun _ => ?_) (fun c => absurd rfl c)
  exact next _ _ hR1
set_option maxHeartbeats 8000000 in
set_option maxRecDepth 100000 in
theorem law_digest (X : CX) (l : Launch) (D : va_G) (cy : Nat → ClassId) (ad7 ad8 : Nat → Nat) (N : Nat) (Rel : S7 → S8 → Prop) (b L : Nat) (xs : Nat → Int32) (hC : OK X l D cy room_1 code 4 wsL_law RL) (hS : SC X b L xs) (hZ : ZL X.2.2.2.2.1) (j : Nat) (hj : j + 6 ≤ L) (hL : L ≤ 3072) (s : S7) (t : S8) (hR : Rel s t) (hop : op_digest N Rel) (next : ∀ (s : S7) (t : S8), Rel s t → GG X 4 52 1789 (W7 cy ad7 s ++ W8 cy ad8 t) [(0, .ref b), (1, .ref (ad7 70)), (2, .ref (ad8 80)), (3, .int (nI j))] 1353 []) : GG X 4 52 1789 (W7 cy ad7 s ++ W8 cy ad8 t) [(0, .ref b), (1, .ref (ad7 70)), (2, .ref (ad8 80)), (3, .int (nI j))] 1339 [] := by
  obtain ⟨r, h7, h8, hR1⟩ := hop s t hR
  refine r_aload_n hC dL_law_1339 rfl 1 rfl ?_
  refine r_vl (st := []) hC (kX7_digest l D cy ad7 (pc7_lastFound s) (pc7_lastAsked s) (pc7_found s) (pc4_made s) (pc4_kinds s) (pc4_places s) (pc4_rates s) (pc4_readings s) (pc4_bearing s) (pc5_legs s) (pc5_length s) (pc5_ways s) (pc5_units s) (pc5_stuffOf s) (pc5_point s) (pc6_bytes s) (pc6_sizes s) (pc6_weights s) (pc3_size s) (pc3_rates s) (pc0_amounts s) (pc0_lows s) (pc0_highs s) (pc0_barred s) (pc1_lines s) (pc1_parts s) (pc2_above s) (pc2_below s)  N h7) gL_law_X7_digest rfl ⟨rfl, rfl⟩ ydX7_digest ⟨(Nat.le_of_ble_eq_true rfl), (Nat.le_of_ble_eq_true rfl)⟩ ⟨Nat.le_refl 52, Nat.le_refl 1789⟩ 0 rfl rfl [] (W8 cy ad8 t) rfl _ rfl (Nat.le_of_ble_eq_true rfl) dL_law_1340 (W7 cy ad7 s ++ W8 cy ad8 t) rfl ?_
  refine r_aload_n hC dL_law_1343 rfl 2 rfl ?_
  refine r_vl (st := [.long r]) hC (kX8_digest l D cy ad8 (pc8_latest t) (pc8_asked t) (pc8_upper t) (pc8_lower t) (pc8_legs t) (pc8_units t) (pc8_rests t) (pc8_rates t) (pc8_lines t) (pc8_came t) (pc8_sizes t) (pc8_weights t) (pc8_growths t) (pc8_copied t) (pc8_legWay t) (pc8_legUnits t) (pc8_legStuff t) (pc8_unitWay t) (pc8_unitStuff t) (pc8_xs t) (pc8_ys t) (pc8_zs t) (pc8_kindOf t) (pc8_placeOf t) (pc8_rateOf t) (pc8_readOf t) (pc8_isGone t) (pc8_theList t) (pc8_amounts t) (pc8_low t) (pc8_high t) (pc8_barred t) (pc8_times t) (pc8_ranges t)  N h8) gL_law_X8_digest rfl ⟨rfl, rfl⟩ ydX8_digest ⟨(Nat.le_of_ble_eq_true rfl), (Nat.le_of_ble_eq_true rfl)⟩ ⟨Nat.le_refl 52, Nat.le_refl 1789⟩ 0 rfl rfl (W7 cy ad7 s) [] rfl _ rfl (Nat.le_of_ble_eq_true rfl) dL_law_1344 (W7 cy ad7 s ++ W8 cy ad8 t) rfl ?_
  refine r_lcmp hC dL_law_1347 ?_
  refine r_if_eq (tgt := 1353) hC dL_law_1348 (by decide) (fun _ => ?_) (fun c => absurd ((lg_cmp_eq r r).mpr rfl) c)
  exact next _ _ hR1
