/-! ===== rows of constructors ===== -/
def adl : List (Nat × Nat) → Nat → Nat
  | [], _ => 0
  | (a, b) :: t, k => if k = a then b else adl t k
section GGN
variable {X : CX} {l : Launch} {D : va_G} {cy : Nat → ClassId} {rm : Room} {cc : ByteArray} {nL k n : Nat} {Ts : List Cond} {own : String} {ws : va_W} {lv : List (Nat × Value)} {pc : Nat} {st : List Value}
theorem r_ws (ws' : va_W) (h : ws = ws') (kk : GG X nL k n ws' lv pc st) : GG X nL k n ws lv pc st := h ▸ kk
theorem r_perm (ws' : va_W) (is : List Nat) (h1 : is.filterMap (fun i => ws[i]?) = ws') (hn : va_nd is = true) (h2 : is.map (fun i => ws[i]?) = ws'.map some) (kk : GG X nL k n ws' lv pc st) : GG X nL k n ws lv pc st := by
  obtain ⟨p, l, e, R, s, m, args, below, meth, c, D, A, Q⟩ := X
  exact fun H locs ls hP hD hS hl => kk H locs ls (hP.sub is h1) (hD.sub is hn h2) hS hl
theorem r_widen (k' n' : Nat) (h1 : k ≤ k') (h2 : n ≤ n') (kk : GG X nL k' n' ws lv pc st) : GG X nL k n ws lv pc st := by
  obtain ⟨p, l, e, R, s, m, args, below, meth, c, D, A, Q⟩ := X
  exact fun H locs ls hP hD hS hl => W.widen h1 h2 (kk H locs ls hP hD hS hl)
theorem r_objInit (hC : OK X l D cy rm cc nL Ts own) {index a : Nat} (h1 : Cond.methodLink own index objectInit ∈ Ts) (h2 : Cond.instanceMethod objectInit ∈ Ts) (h3 : Cond.code objectInit ⟨#[0xb1]⟩ 1 none ∈ Ts) (hf : 1 ≤ rm.frames) (hlo : (st.map fun v => v.category).sum + 12 ≤ rm.locals) (d : decode cc pc = .ok (.invokespecial index, 3)) (kk : GG X nL k n ws lv (pc + 3) st) : GG X nL k n ws lv pc (.ref a :: st) := by
  obtain ⟨p, l, e, R, s, m, args, below, meth, c, D, A, Q⟩ := X
  obtain ⟨hx, hb, hml, hown, hts, hK, hA, rfl, rfl, rfl⟩ := hC
  exact fun H locs ls hP hD hS hl => W.objInit hx hb hown (hts _ h1) (hts _ h2) (hts _ h3) rfl (by rw [hml]; exact hl.1) rfl d hf (by show 2 * 0 + _ + 12 ≤ _; omega) (kk H locs ls hP hD hS hl)
theorem cy_same {D : va_G} {cl : List vw_C} {t1 : List (ClassId × FieldType)} {c2 : ClassId} {ty : FieldType} {s : State} (j : Nat) {c1 : ClassId} (hj : t1[j]? = some (c1, ty)) (hp : ∀ C, ty ≠ .object C) (h : va_K D cl (t1 ++ [(c2, ty)]) s) : c2 = c1 := by
  have h1 := (h.2 j (c1, ty) (by rw [List.getElem?_append_left (List.getElem?_eq_some_iff.mp hj).1]; exact hj)).2
  have h2 := (h.2 t1.length (c2, ty) (by simp)).2
  cases ty with
  | object C => exact absurd rfl (hp C)
  | _ => exact Option.some.inj (h2.symm.trans h1)
theorem r_newI (hC : OK X l D cy rm cc nL Ts own) {z : Int32} {N : Nat} (harr : Cond.arrayClass .int ∈ Ts) (hn : ¬ z < 0) (hN : z.toNatClampNeg = N) (hby : N * componentBytes .int ≤ 536870912) (hc : k + 1 ≤ rm.cells) (hs : n + N ≤ rm.slots) (d : decode cc pc = .ok (.newarray .int, 2)) (kk : ∀ q : Nat, GG X nL (k + 1) (n + N) (ws ++ [(q, .inl (cy 1, N, .inl (fun _ => 0)))]) lv (pc + 2) (.ref q :: st)) : GG X nL k n ws lv pc (.int z :: st) := by
  obtain ⟨p, l, e, R, s, m, args, below, meth, c, D, A, Q⟩ := X
  obtain ⟨hx, hb, hml, hown, hts, hK, hA, rfl, rfl, rfl⟩ := hC
  intro H locs ls hP hD hS hl
  refine va_newa (atype := .int) (ty := .int) (a0 := (N, .inl (fun _ => 0))) hx hb (hts _ harr) rfl hK hP hD hS hA (fun _ => rfl) hn hN hby hc hs d (fun q cA H1 hK1 hP1 hD1 hS1 => ?_)
  have e := cy_same 1 (c1 := cy 1) rfl (fun C h => by cases h) hK1
  subst e
  exact kk q H1 locs ls hP1 hD1 hS1 hl
theorem r_newB (hC : OK X l D cy rm cc nL Ts own) {z : Int32} {N : Nat} (harr : Cond.arrayClass .byte ∈ Ts) (hn : ¬ z < 0) (hN : z.toNatClampNeg = N) (hby : N * componentBytes .byte ≤ 536870912) (hc : k + 1 ≤ rm.cells) (hs : n + N ≤ rm.slots) (d : decode cc pc = .ok (.newarray .byte, 2)) (kk : ∀ q : Nat, GG X nL (k + 1) (n + N) (ws ++ [(q, .inl (cy 0, N, .inl (fun _ => 0)))]) lv (pc + 2) (.ref q :: st)) : GG X nL k n ws lv pc (.int z :: st) := by
  obtain ⟨p, l, e, R, s, m, args, below, meth, c, D, A, Q⟩ := X
  obtain ⟨hx, hb, hml, hown, hts, hK, hA, rfl, rfl, rfl⟩ := hC
  intro H locs ls hP hD hS hl
  refine va_newa (atype := .byte) (ty := .byte) (a0 := (N, .inl (fun _ => 0))) hx hb (hts _ harr) rfl hK hP hD hS hA (fun _ => rfl) hn hN hby hc hs d (fun q cA H1 hK1 hP1 hD1 hS1 => ?_)
  have e := cy_same 0 (c1 := cy 0) rfl (fun C h => by cases h) hK1
  subst e
  exact kk q H1 locs ls hP1 hD1 hS1 hl
theorem r_newZ (hC : OK X l D cy rm cc nL Ts own) {z : Int32} {N : Nat} (harr : Cond.arrayClass .boolean ∈ Ts) (hn : ¬ z < 0) (hN : z.toNatClampNeg = N) (hby : N * componentBytes .boolean ≤ 536870912) (hc : k + 1 ≤ rm.cells) (hs : n + N ≤ rm.slots) (d : decode cc pc = .ok (.newarray .boolean, 2)) (kk : ∀ q : Nat, GG X nL (k + 1) (n + N) (ws ++ [(q, .inl (cy 2, N, .inl (fun _ => 0)))]) lv (pc + 2) (.ref q :: st)) : GG X nL k n ws lv pc (.int z :: st) := by
  obtain ⟨p, l, e, R, s, m, args, below, meth, c, D, A, Q⟩ := X
  obtain ⟨hx, hb, hml, hown, hts, hK, hA, rfl, rfl, rfl⟩ := hC
  intro H locs ls hP hD hS hl
  refine va_newa (atype := .boolean) (ty := .boolean) (a0 := (N, .inl (fun _ => 0))) hx hb (hts _ harr) rfl hK hP hD hS hA (fun _ => rfl) hn hN hby hc hs d (fun q cA H1 hK1 hP1 hD1 hS1 => ?_)
  have e := cy_same 2 (c1 := cy 2) rfl (fun C h => by cases h) hK1
  subst e
  exact kk q H1 locs ls hP1 hD1 hS1 hl
theorem r_new (hC : OK X l D cy rm cc nL Ts own) {C : String} {T : u_T} {N ci index : Nat} (hin : ∀ w ∈ u_ws C T N, w ∈ Ts) {ty : Nat → FieldType} (hty : ∀ k, k < N → parseFieldDescriptor (T k).2.2.1 = some (ty k)) (hcl : Cond.classLink own index C ∈ Ts) (hi : Cond.instantiable C N ∈ Ts) (hini : Cond.initialized C ∈ Ts) (hc : vwCl[ci]? = some (C, T, N)) (fs : List Value) (hfs : ∀ j, j < N → defaultValue (ty j) = vp_V fs j) (hk : k + 1 ≤ rm.cells) (hs : n + N ≤ rm.slots) (d : decode cc pc = .ok (.new index, 3)) (kk : ∀ q : Nat, GG X nL (k + 1) (n + N) (ws ++ [(q, .inr (ci, fs))]) lv (pc + 3) (.ref q :: st)) : GG X nL k n ws lv pc st := by
  obtain ⟨p, l, e, R, s, m, args, below, meth, c, D, A, Q⟩ := X
  obtain ⟨hx, hb, hml, hown, hts, hK, hA, rfl, rfl, rfl⟩ := hC
  exact fun H locs ls hP hD hS hl => va_new hx hb hts hin ty hty hown (hts _ hcl) (hts _ hi) (hts _ hini) hK hP hD hS hA hc hfs hk hs d (fun q H1 hP1 hD1 hS1 => kk q H1 locs ls hP1 hD1 hS1 hl)
theorem r_alen (hC : OK X l D cy rm cc nL Ts own) {a : Nat} (q0 : Nat) {N : Nat} {f : Nat → Int32} (ha : ws[q0]? = some (a, .inl (cy 1, N, .inl f))) (d : decode cc pc = .ok (.arraylength, 1)) (kk : GG X nL k n ws lv (pc + 1) (.int (nI N) :: st)) : GG X nL k n ws lv pc (.ref a :: st) := by
  obtain ⟨p, l, e, R, s, m, args, below, meth, c, D, A, Q⟩ := X
  obtain ⟨hx, hb, hml, hown, hts, hK, hA, rfl, rfl, rfl⟩ := hC
  exact fun H locs ls hP hD hS hl => va_alen hx hb hK hP q0 1 ha rfl rfl d (kk H locs ls hP hD hS hl)
def CN (l : Launch) (D : va_G) (cy : Nat → ClassId) (Z : State → Prop) (y : MethodName) (ws : List Cond) (rm : Room) (av : List Value) (w : va_W) (mc ms : Nat) (P : (Nat → Nat) → va_W) : Prop := ∀ sz, Met l y ws rm (va_Pc av (fun U => PW D cy w sz U ∧ Z U)) (va_Qv (fun (_ : Nat → Nat) => True) (fun ad t => va_P D vwCl (P ad) t.heap ∧ va_K D vwCl (ty3 cy) t ∧ va_D (va_A w sz) (P ad)) (va_A w sz)) mc ms (va_A w sz)
/-- what a method may know of the tables beside its words -/
def Zok (Z : State → Prop) : Prop := (∀ (s U : State), s.WarmedH U.vm → Z s → Z U) ∧ ∀ (a : Array Value) (U : State) (g : JFrame) (mk : MethodId), Z U → Z (U.calling g mk a)
def Ztrue : State → Prop := fun _ => True
theorem Ztrue_ok : Zok Ztrue := ⟨fun _ _ _ _ => trivial, fun _ _ _ _ _ => trivial⟩
def RN (X : CX) (cc : ByteArray) (mc ms : Nat) (P : (Nat → Nat) → va_W) : Prop := ∀ nL lv pc ad, decode cc pc = .ok (.return_, 1) → GG X nL mc ms (P ad) lv pc []
theorem cn_blind {D : va_G} {cy : Nat → ClassId} {Z : State → Prop} (hZ : Zok Z) {w : va_W} {sz : Nat} {av : List Value} : FrameBlind (va_Pc av (fun U => PW D cy w sz U ∧ Z U)) := fun a U g mk q => by
  obtain ⟨q0, ⟨q1, qP, qK, qD⟩, qZ⟩ := q
  exact ⟨q0, ⟨q1, qP, va_K.moved (u := U) (U := U.calling g mk a) (Vm.Alike.refl U.vm) qK, qD⟩, hZ.2 a U g mk qZ⟩
theorem cn_of {Z : State → Prop} {y : MethodName} {ws1 ws' : List Cond} {maxL mc ms : Nat} {av : List Value} {w : va_W} {P : (Nat → Nat) → va_W} (hy : plainName y.cls = true) (hw : ws1 = Cond.code y cc maxL none :: ws') (ho : y.cls = own) (hyn : y.name = "<init>") (hlen : (lg_sl av).length ≤ maxL) (h : ∀ X : CX, OK X l D cy rm cc maxL ws1 own → Z X.2.2.2.2.1 → X.2.2.2.2.2.2.2.2.1.name = "<init>" → RN X cc mc ms P → GG X maxL 0 0 w (lv_args 0 av) 0 []) : CN l D cy Z y ws1 rm av w mc ms P := by
  intro sz
  subst ho
  refine Met.ofW (cc := cc) (maxL := maxL) (ret := none) hy hw ?_
  intro p e s m args below meth c s₁ B hml hv
  obtain ⟨rfl, ⟨hsz, hP0, hK0, hD0⟩, hZ⟩ := hv
  have hx := B.exec
  have hb := B.bytes
  have hr := B.returns
  have hts := atoms_spec (ws := ws1) B.pre
  have hown : s.vm.findClass y.cls = some m.cls := findClass_of_methodNamed B.named
  have hlocks := B.notSynchronized
  have hin : meth.name = "<init>" := (name_of_methodNamed B.named B.method).1.trans hyn
  subst hsz
  have hDs := hD0.self (sz := s.heap.size)
  have hl := lv_entry av (n := maxL) hlen
  rw [lg_entry_eq]
  refine h (p, l, e, rm, s, m, av.toArray, below, meth, c, D, va_A w s.heap.size, _) ⟨hx, hb, hml, hown, hts, hK0, fun q hq => Or.inr hq, rfl, rfl, rfl⟩ hZ hin (fun nL2 lv pc ad d => ?_) s.heap [] _ hP0 hDs va_S.rf hl
  intro H locs ls hP hD hS hl2
  exact W.vret hx hb hr (fun t ht hW => ⟨⟨ad, rfl, trivial, by rw [ht]; exact hP, va_K.moved hW.alike hK0, hD⟩, hS.F ht⟩) hS.2.2 d
theorem r_nv (hC : OK X l D cy rm cc nL Ts own) {Z : State → Prop} (hZo : Zok Z) (hZ : Z X.2.2.2.2.1) {y : MethodName} {ws1 ws2 : List Cond} {rm1 : Room} {b : Nat} {As : List Value} {wc : va_W} {P : (Nat → Nat) → va_W} {bytes : ByteArray} {maxL index mc ms : Nat} (hM : CN l D cy Z y ws1 rm1 (.ref b :: As) wc mc ms P) (hG : GoodIn Ts ws1) (hw : ws1 = Cond.code y bytes maxL none :: ws2) (hz : rm1.cells = mc ∧ rm1.slots = ms) (hi1 : Cond.initialized y.cls ∈ Ts) (hi2 : Cond.methodLink own index y ∈ Ts) (hi3 : Cond.instanceMethod y ∈ Ts) (hyn : y.name = "<init>") (hd : y.cls ≠ "java/lang/invoke/MethodHandle" ∧ y.cls ≠ "java/lang/invoke/VarHandle" ∧ (parseMethodDescriptor y.desc).map (fun d => d.parameters.length) = some As.length) (hR : rm1.frames + 1 ≤ rm.frames ∧ 8 + (maxL + 11) + rm1.locals ≤ rm.locals) (hk : k + mc ≤ rm.cells ∧ n + ms ≤ rm.slots) (pre : va_W) (hws : ws = pre ++ (wc ++ [])) (stk : List Value) (hst : stk = As.reverse ++ .ref b :: st) (hroom : (st.map fun v => v.category).sum ≤ 8) (d : decode cc pc = .ok (.invokespecial index, 3)) (kk : ∀ ad : Nat → Nat, GG X nL (k + mc) (n + ms) (pre ++ (P ad ++ [])) lv (pc + 3) st) : GG X nL k n ws lv pc stk := by
  obtain ⟨p, l, e, R, s, m, args, below, meth, c, D, A, Q⟩ := X
  obtain ⟨hx, hb, hml, hown, hts, hK, hA, rfl, rfl, rfl⟩ := hC
  subst hws
  intro H locs ls hP hD hS hl
  have hPc := seg_mid hP
  have hDc := seg_midD hD
  have hFc := seg_free hD hS hA
  refine va_callv (va_runI (As := As) (rest := st) ⟨hx, hb, hml, hown, hts⟩ (hM H.size) (cwI As.length hts hG hw hz.1 hz.2 (hts _ hi1) (hts _ hi2) (hts _ hi3) hyn hd hR) ⟨cn_blind hZo, fun U hU hW => ⟨rfl, ⟨by rw [hU], by rw [hU]; exact hPc, va_K.moved hW.alike hK, hDc⟩, hZo.1 s U hW hZ⟩⟩ rfl rfl hl.1 hst (lv_room (m := m) (pc := pc) (ls := ls) (rest := stk) hroom) d hk) hS (fun q _ h => hFc q h) hFc (fun u t H1 locs1 ht hvm hw hB hz1 hk1 hS1 => ?_)
  obtain ⟨hP1, hK1, hD1⟩ := hB
  rw [ht] at hP1
  obtain ⟨hP2, hD2⟩ := seg_join hP hD hk1 hFc hP1 hD1
  exact kk u H1 locs1 ls hP2 hD2 hS1 hl
theorem r_nN (hC : OK X l D cy rm cc nL Ts own) {Z : State → Prop} (hZo : Zok Z) (hZ : Z X.2.2.2.2.1) {y : MethodName} {ws1 ws2 : List Cond} {rm1 : Room} {b : Nat} {As : List Value} {wc : va_W} {P : (Nat → Nat) → va_W} {bytes : ByteArray} {maxL index mc ms : Nat} {host : String} (hM : CN l D cy Z y ws1 rm1 (.ref b :: As) wc mc ms P) (hG : GoodIn Ts ws1) (hw : ws1 = Cond.code y bytes maxL none :: ws2) (hz : rm1.cells = mc ∧ rm1.slots = ms) (hi1 : Cond.initialized y.cls ∈ Ts) (hi2 : va_Nw (.methodLinkNest own index y host) X.2.2.2.2.1) (hi3 : Cond.instanceMethod y ∈ Ts) (hyn : y.name = "<init>") (hd : y.cls ≠ "java/lang/invoke/MethodHandle" ∧ y.cls ≠ "java/lang/invoke/VarHandle" ∧ (parseMethodDescriptor y.desc).map (fun d => d.parameters.length) = some As.length) (hR : rm1.frames + 1 ≤ rm.frames ∧ 8 + (maxL + 11) + rm1.locals ≤ rm.locals) (hk : k + mc ≤ rm.cells ∧ n + ms ≤ rm.slots) (pre : va_W) (hws : ws = pre ++ (wc ++ [])) (stk : List Value) (hst : stk = As.reverse ++ .ref b :: st) (hroom : (st.map fun v => v.category).sum ≤ 8) (d : decode cc pc = .ok (.invokespecial index, 3)) (kk : ∀ ad : Nat → Nat, GG X nL (k + mc) (n + ms) (pre ++ (P ad ++ [])) lv (pc + 3) st) : GG X nL k n ws lv pc stk := by
  obtain ⟨p, l, e, R, s, m, args, below, meth, c, D, A, Q⟩ := X
  obtain ⟨hx, hb, hml, hown, hts, hK, hA, rfl, rfl, rfl⟩ := hC
  subst hws
  intro H locs ls hP hD hS hl
  have hPc := seg_mid hP
  have hDc := seg_midD hD
  have hFc := seg_free hD hS hA
  refine va_callv (va_runIN (As := As) (rest := st) ⟨hx, hb, hml, hown, hts⟩ (hM H.size) ⟨va_cnB As.length hts hG hw hz.1 hz.2 hi2 (hts _ hi1) hd hR, hyn, hts _ hi3⟩ ⟨cn_blind hZo, fun U hU hW => ⟨rfl, ⟨by rw [hU], by rw [hU]; exact hPc, va_K.moved hW.alike hK, hDc⟩, hZo.1 s U hW hZ⟩⟩ rfl rfl hl.1 hst (lv_room (m := m) (pc := pc) (ls := ls) (rest := stk) hroom) d hk) hS (fun q _ h => hFc q h) hFc (fun u t H1 locs1 ht hvm hw hB hz1 hk1 hS1 => ?_)
  obtain ⟨hP1, hK1, hD1⟩ := hB
  rw [ht] at hP1
  obtain ⟨hP2, hD2⟩ := seg_join hP hD hk1 hFc hP1 hD1
  exact kk u H1 locs1 ls hP2 hD2 hS1 hl
/-- a static call with a world of its own -/
theorem r_sw (hC : OK X l D cy rm cc nL Ts own) {y : MethodName} {ws1 ws2 : List Cond} {rm1 : Room} {As : List Value} {wc w1 : va_W} {bytes : ByteArray} {maxL index : Nat} (hM : CV l D cy y ws1 rm1 As wc w1) (hG : GoodIn Ts (va_wsS own index y ws1)) (hw : ws1 = Cond.code y bytes maxL none :: ws2) (hz : rm1.cells = 0 ∧ rm1.slots = 0) (hd : y.cls ≠ "java/lang/invoke/MethodHandle" ∧ y.cls ≠ "java/lang/invoke/VarHandle" ∧ (parseMethodDescriptor y.desc).map (fun d => d.parameters.length) = some As.length) (hR : rm1.frames + 1 ≤ rm.frames ∧ 8 + (maxL + 11) + rm1.locals ≤ rm.locals) (hk : k ≤ rm.cells ∧ n ≤ rm.slots) (pre post : va_W) (hws : ws = pre ++ (wc ++ post)) (stk : List Value) (hst : stk = As.reverse ++ st) (hroom : (st.map fun v => v.category).sum ≤ 8) (d : decode cc pc = .ok (.invokestatic index, 3)) (ws' : va_W) (hws' : pre ++ (w1 ++ post) = ws') (kk : GG X nL k n ws' lv (pc + 3) st) : GG X nL k n ws lv pc stk := by
  obtain ⟨p, l, e, R, s, m, args, below, meth, c, D, A, Q⟩ := X
  obtain ⟨hx, hb, hml, hown, hts, hK, hA, rfl, rfl, rfl⟩ := hC
  subst hws hws'
  intro H locs ls hP hD hS hl
  have hPc := seg_mid hP
  have hDc := seg_midD hD
  have hFc := seg_free hD hS hA
  refine va_callv (va_runS (As := As) (rest := st) ⟨hx, hb, hml, hown, hts⟩ (hM H.size) (va_cwS As.length hts hG hw hz.1 hz.2 hd hR) ⟨PW_blind, fun U hU hW => ⟨rfl, by rw [hU], by rw [hU]; exact hPc, va_K.moved hW.alike hK, hDc⟩⟩ rfl rfl hl.1 hst (lv_room (m := m) (pc := pc) (ls := ls) (rest := stk) hroom) d hk) hS (fun q _ h => hFc q h) hFc (fun u t H1 locs1 ht hvm hw hB hz1 hk1 hS1 => ?_)
  obtain ⟨hP1, hK1, hD1⟩ := hB
  rw [ht] at hP1
  obtain ⟨hP2, hD2⟩ := seg_join hP hD hk1 hFc hP1 hD1
  exact kk H1 locs1 ls hP2 hD2 hS1 hl
theorem r_getN (hC : OK X l D cy rm cc nL Ts own) {a : Nat} {ref C host : String} {T : u_T} {N ci index : Nat} (hin : ∀ w ∈ u_ws C T N, w ∈ Ts) (q0 : Nat) {fs : List Value} (he : ws[q0]? = some (a, .inr (ci, fs))) (hc : vwCl[ci]? = some (C, T, N)) (j : Nat) (hj : j < N) (href : (T j).1 = ref) (hlink : va_Nw (.fieldLinkNest own index ref (T j).2.1 (T j).2.2.1 host) X.2.2.2.2.1) {v : Value} (hv : fs[j]? = some v) (d : decode cc pc = .ok (.getfield index, 3)) (kk : GG X nL k n ws lv (pc + 3) (v :: st)) : GG X nL k n ws lv pc (.ref a :: st) := by
  obtain ⟨p, l, e, R, s, m, args, below, meth, c, D, A, Q⟩ := X
  obtain ⟨hx, hb, hml, hown, hts, hK, hA, rfl, rfl, rfl⟩ := hC
  subst href
  exact fun H locs ls hP hD hS hl => va_getN hx hb hts hin hown hK hP q0 he hc j hj (va_Nw.use rfl hlink) (fun _ h => h) hv d (kk H locs ls hP hD hS hl)
end GGN
def CLz (l : Launch) (D : va_G) (cy : Nat → ClassId) (Z : State → Prop) (y : MethodName) (ws : List Cond) (rm : Room) (av : List Value) (w : va_W) (r : Int64) (w1 : va_W) : Prop := ∀ sz, Met l y ws rm (va_Pc av (fun U => PW D cy w sz U ∧ Z U)) (va_Ql (fun r2 (_ : Unit) => r2 = r) (QW D cy w w1 sz) (va_A w sz)) 0 0 (va_A w sz)
theorem cz_of {l : Launch} {D : va_G} {cy : Nat → ClassId} {Z : State → Prop} {y : MethodName} {ws ws' : List Cond} {rm : Room} {cc : ByteArray} {maxL : Nat} {r : Int64} {av : List Value} {w w1 : va_W} {own : String} (hy : plainName y.cls = true) (hw : ws = Cond.code y cc maxL (some .long) :: ws') (ho : y.cls = own) (hlen : (lg_sl av).length ≤ maxL) (h : ∀ X : CX, OK X l D cy rm cc maxL ws own → Z X.2.2.2.2.1 → RL' X cc r w1 → GG X maxL 0 0 w (lv_args 0 av) 0 []) : CLz l D cy Z y ws rm av w r w1 := by
  intro sz
  subst ho
  refine Met.ofW (cc := cc) (maxL := maxL) (ret := (some .long)) hy hw ?_
  intro p e s m args below meth c s₁ B hml hv
  obtain ⟨rfl, ⟨hsz, hP0, hK0, hD0⟩, hZ⟩ := hv
  have hx := B.exec
  have hb := B.bytes
  have hr := B.returns
  have hts := atoms_spec (ws := ws) B.pre
  have hown : s.vm.findClass y.cls = some m.cls := findClass_of_methodNamed B.named
  have hlocks := B.notSynchronized
  subst hsz
  have hDs := hD0.self (sz := s.heap.size)
  have hl := lv_entry av (n := maxL) hlen
  rw [lg_entry_eq]
  refine h (p, l, e, rm, s, m, av.toArray, below, meth, c, D, va_A w s.heap.size, _) ⟨hx, hb, hml, hown, hts, hK0, fun q hq => Or.inr hq, rfl, rfl, rfl⟩ hZ (fun nL2 lv pc d => ?_) s.heap [] _ hP0 hDs va_S.rf hl
  intro H locs ls hP hD hS hl2
  exact W.lret hx hb hr (fun t ht hW => ⟨⟨r, (), rfl, rfl, by rw [ht]; exact hP, va_K.moved hW.alike hK0, hD⟩, hS.F ht⟩) hS.2.2 d
theorem r_vz {X : CX} {l : Launch} {D : va_G} {cy : Nat → ClassId} {rm : Room} {cc : ByteArray} {nL k n : Nat} {Ts : List Cond} {own : String} {ws : va_W} {lv : List (Nat × Value)} {pc : Nat} {st : List Value} (hC : OK X l D cy rm cc nL Ts own) {Z : State → Prop} (hZo : Zok Z) (hZ : Z X.2.2.2.2.1) {y : MethodName} {ws1 ws2 : List Cond} {rm1 : Room} {b : Nat} {As : List Value} {wc w1 : va_W} {r : Int64} {bytes : ByteArray} {maxL index : Nat} {ret : Option FieldType} {C : String} {T : u_T} {N ci : Nat} {fs : List Value} (hM : CLz l D cy Z y ws1 rm1 (.ref b :: As) wc r w1) (hG : GoodIn Ts (wsV own index C y ws1)) (hw : ws1 = Cond.code y bytes maxL ret :: ws2) (hz : rm1.cells = 0 ∧ rm1.slots = 0) (hd : y.cls = C ∧ y.cls ≠ "java/lang/invoke/MethodHandle" ∧ y.cls ≠ "java/lang/invoke/VarHandle" ∧ (parseMethodDescriptor y.desc).map (fun d => d.parameters.length) = some As.length) (hR : rm1.frames + 1 ≤ rm.frames ∧ 8 + (maxL + 11) + rm1.locals ≤ rm.locals) (hk : k ≤ rm.cells ∧ n ≤ rm.slots) (q0 : Nat) (hrc : wc[q0]? = some (b, .inr (ci, fs))) (hcl : vwCl[ci]? = some (C, T, N)) (pre post : va_W) (hws : ws = pre ++ (wc ++ post)) (stk : List Value) (hst : stk = As.reverse ++ .ref b :: st) (hroom : (st.map fun v => v.category).sum ≤ 8) (d : decode cc pc = .ok (.invokevirtual index, 3)) (ws' : va_W) (hws' : pre ++ (w1 ++ post) = ws') (kk : GG X nL k n ws' lv (pc + 3) (.long r :: st)) : GG X nL k n ws lv pc stk := by
  obtain ⟨p, l, e, R, s, m, args, below, meth, c, D, A, Q⟩ := X
  obtain ⟨hx, hb, hml, hown, hts, hK, hA, rfl, rfl, rfl⟩ := hC
  subst hws hws'
  intro H locs ls hP hD hS hl
  have hPc := seg_mid hP
  have hDc := seg_midD hD
  have hFc := seg_free hD hS hA
  refine va_calll (va_runV (As := As) (rest := st) ⟨hx, hb, hml, hown, hts⟩ (hM H.size) (cwV As.length hts hG hw hz.1 hz.2 hd hR) ⟨cn_blind hZo, va_recv hK hPc hcl hrc, fun U hU hW => ⟨rfl, ⟨by rw [hU], by rw [hU]; exact hPc, va_K.moved hW.alike hK, hDc⟩, hZo.1 s U hW hZ⟩⟩ rfl rfl hl.1 hst (lv_room (m := m) (pc := pc) (ls := ls) (rest := stk) hroom) d hk) hS (fun q _ h => hFc q h) hFc (fun r1 u t H1 locs1 ht hvm hw hB hz1 hk1 hS1 => ?_)
  obtain ⟨hP1, hK1, hD1⟩ := hB
  rw [ht] at hP1
  subst hw
  obtain ⟨hP2, hD2⟩ := seg_join hP hD hk1 hFc hP1 hD1
  exact kk H1 locs1 ls hP2 hD2 hS1 hl
/-! Arrays.fill of ints -/
set_option maxHeartbeats 8000000 in
set_option maxRecDepth 100000 in
theorem kJ7_fill (l : Launch) (D : va_G) (cy : Nat → ClassId) (a N : Nat) (f : Nat → Int32) (v : Int32) (hN : N < 2 ^ 31) : CV l D cy yJ7_fill_53178 wsJ7_fill_53178 ({ frames := 0, cells := 0, slots := 0, locals := 0 } : Room) [.ref a, .int v] [(a, .inl (cy 1, N, .inl f))] [(a, .inl (cy 1, N, .inl (fun j => if j < N then v else f j)))] := by
  refine c_of_v (own := RJ7) (by decide) rfl rfl (Nat.le_of_ble_eq_true rfl) (fun X hC hRet => ?_)
  refine r_sub [(0, .ref a), (1, .int v)] [0, 1] rfl ?_
  refine r_iconst hC dJ7_fill_53178_0 ic_0 ?_
  refine r_istore_n hC [(2, .int 0), (0, .ref a), (1, .int v)] dJ7_fill_53178_1 rfl (by decide) rfl ?_
  refine r_aload_n hC dJ7_fill_53178_2 rfl 1 rfl ?_
  refine r_alen hC 0 rfl dJ7_fill_53178_3 ?_
  refine r_istore_n hC [(3, .int (nI N)), (2, .int 0), (0, .ref a), (1, .int v)] dJ7_fill_53178_4 rfl (by decide) rfl ?_
  have L : ∀ (n j : Nat) (g : Nat → Int32), j + n = N → g = (fun i => if i < j then v else f i) → GG X 4 0 0 [(a, .inl (cy 1, N, .inl g))] [(0, .ref a), (1, .int v), (2, .int (nI j)), (3, .int (nI N))] 5 [] := by
    intro n
    induction n with
    | zero =>
      intro j g hj hg
      refine r_iload_n hC dJ7_fill_53178_5 rfl 2 rfl ?_
      refine r_iload_n hC dJ7_fill_53178_6 rfl 3 rfl ?_
      refine r_icmp_ge (tgt := 20) hC dJ7_fill_53178_7 (by decide) (fun c => ?_) (fun c => ?_)
      · have e : j = N := by omega
        subst e
        subst hg
        exact hRet _ _ _ dJ7_fill_53178_20
      · exact absurd (nI_le (by omega) (by omega)) c
    | succ n ih =>
      intro j g hj hg
      refine r_iload_n hC dJ7_fill_53178_5 rfl 2 rfl ?_
      refine r_iload_n hC dJ7_fill_53178_6 rfl 3 rfl ?_
      refine r_icmp_ge (tgt := 20) hC dJ7_fill_53178_7 (by decide) (fun c => ?_) (fun c => ?_)
      · exact absurd c (nI_ge (by omega) hN)
      · refine r_aload_n hC dJ7_fill_53178_10 rfl 0 rfl ?_
        refine r_iload_n hC dJ7_fill_53178_11 rfl 2 rfl ?_
        refine r_iload_n hC dJ7_fill_53178_12 rfl 1 rfl ?_
        refine r_iast hC 0 rfl (vp_in_nI (by omega) hN) dJ7_fill_53178_13 _ rfl ?_
        refine r_iinc hC [(2, .int (nI (j + 1))), (0, .ref a), (1, .int v), (3, .int (nI N))] (nI (j + 1)) dJ7_fill_53178_14 2 rfl (by rw [ii_1, nI_1]) (by decide) rfl ?_
        refine r_goto (tgt := 5) hC dJ7_fill_53178_17 (by decide) ?_
        refine r_sub [(0, .ref a), (1, .int v), (2, .int (nI (j + 1))), (3, .int (nI N))] [1, 2, 0, 3] rfl ?_
        refine ih (j + 1) _ (by omega) ?_
        rw [nI_clamp (by omega)]
        subst hg
        funext i
        simp only [upd]
        by_cases h1 : i = j
        · subst h1; simp
        · simp only [h1, if_false]
          by_cases h2 : i < j
          · simp [h2, Nat.lt_succ_of_lt h2]
          · have : ¬ i < j + 1 := by omega
            simp [h2, this]
  refine r_sub [(0, .ref a), (1, .int v), (2, .int (nI 0)), (3, .int (nI N))] [2, 3, 1, 0] rfl ?_
  exact L N 0 f (by omega) (by funext i; simp)
