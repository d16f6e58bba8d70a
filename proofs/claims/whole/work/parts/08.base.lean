/-! ===== pure programs: an answer or none ===== -/
def olet {α β : Type} (x : α) (k : α → Option β) : Option β := k x
noncomputable def og {β : Type} (c : Prop) (k : Option β) : Option β := @ite (Option β) c (Classical.propDecidable c) k none
def ob {α β : Type} (m : Option α) (k : α → Option β) : Option β := match m with
  | none => none
  | some a => k a
def oj {κ γ : Type} (k : κ) (f : κ → Option γ) : Option γ := f k
def olp {σ ρ : Type} (body : σ → Option (σ ⊕ ρ)) : Nat → σ → Option ρ
  | 0, _ => none
  | n + 1, s => match body s with
    | none => none
    | some (.inl s1) => olp body n s1
    | some (.inr r) => some r
theorem og_pos {β : Type} {c : Prop} {k : Option β} (h : c) : og c k = k := if_pos h
theorem og_some {β : Type} {c : Prop} {k : Option β} {r : β} (h : og c k = some r) : c ∧ k = some r := by
  by_cases hc : c
  · exact ⟨hc, by rw [← h, og_pos hc]⟩
  · rw [og, if_neg hc] at h
    cases h
theorem o_pos {β : Type} {c : Prop} [i : Decidable c] {a b r : Option β} (h : (if c then a else b) = r) (hc : c) : a = r := by rw [if_pos hc] at h; exact h
theorem o_neg {β : Type} {c : Prop} [i : Decidable c] {a b r : Option β} (h : (if c then a else b) = r) (hc : ¬ c) : b = r := by rw [if_neg hc] at h; exact h
theorem ob_some {α β : Type} {m : Option α} {k : α → Option β} {r : β} (h : ob m k = some r) : ∃ a, m = some a ∧ k a = some r := by
  cases m with
  | none => cases h
  | some a => exact ⟨a, rfl, h⟩
theorem olet_some {α β : Type} {x y : α} {k : α → Option β} {r : Option β} (h : olet x k = r) (e : y = x) : k y = r := by rw [e]; exact h
theorem oj_some {κ γ : Type} {k : κ} {f : κ → Option γ} {r : Option γ} (h : oj k f = r) : ∃ K, K = k ∧ f K = r := ⟨k, rfl, h⟩
theorem olp_ind {σ ρ : Type} {body : σ → Option (σ ⊕ ρ)} {r : ρ} (P : σ → Prop) (hs : ∀ (s : σ) (t : σ ⊕ ρ), body s = some t → (∀ s1, t = .inl s1 → P s1) → (∀ r1, t = .inr r1 → r1 = r) → P s) : ∀ (n : Nat) (s : σ), olp body n s = some r → P s := by
  intro n
  induction n with
  | zero => intro s h; cases h
  | succ n ih =>
    intro s h
    rw [olp] at h
    cases hb : body s with
    | none => rw [hb] at h; cases h
    | some t =>
      rw [hb] at h
      refine hs s t hb (fun s1 e => ?_) (fun r1 e => ?_)
      · subst e; exact ih s1 h
      · subst e; exact Option.some.inj h
theorem so_1 {α : Type} {a b : α} (h : some a = some b) : a = b := Option.some.inj h
theorem so_2 {α β : Type} {a b : α} {c d : β} (h : some (a, c) = some (b, d)) : a = b ∧ c = d := by cases h; exact ⟨rfl, rfl⟩
theorem so_l {α β : Type} {a : α} {t : α ⊕ β} (h : some (Sum.inl a) = some t) : t = .inl a := (Option.some.inj h).symm
theorem so_r {α β : Type} {b : β} {t : α ⊕ β} (h : some (Sum.inr b) = some t) : t = .inr b := (Option.some.inj h).symm
/-! ===== a method's walk: the context X, and the goal GG at a pc ===== -/
abbrev CX : Type := Program × Launch × Env × Room × State × MethodId × Array Value × List Frame × Method × Code × va_G × (Nat → Prop) × (State → Prop)
abbrev ty3 (cy : Nat → ClassId) : List (ClassId × FieldType) := [(cy 0, .byte), (cy 1, .int), (cy 2, .boolean)]
def GG (X : CX) (nL k n : Nat) (ws : va_W) (lv : List (Nat × Value)) (pc : Nat) (st : List Value) : Prop := match X with
  | (p, l, e, R, s, m, args, below, meth, c, D, A, Q) => ∀ (H : Heap) (locs : List Loc) (ls : Array Slot), va_P D vwCl ws H → va_D A ws → va_S A s.heap H locs → lv_has ls nL lv → W p l e R s m args below meth c H locs k n Q (F0 m pc ls st)
def OK (X : CX) (l0 : Launch) (D0 : va_G) (cy : Nat → ClassId) (rm : Room) (cc : ByteArray) (nL : Nat) (Ts : List Cond) (own : String) : Prop := match X with
  | (p, l, e, R, s, m, args, below, meth, c, D, A, Q) => p.tables.exec = Jvm.exec ∧ c.code = cc ∧ c.maxLocals = nL ∧ s.vm.findClass own = some m.cls ∧ (∀ w ∈ Ts, w.before args s = true) ∧ va_K D0 vwCl (ty3 cy) s ∧ (∀ q, s.heap.size ≤ q → A q) ∧ R = rm ∧ D = D0 ∧ l = l0
section GGR
variable {X : CX} {l : Launch} {D : va_G} {cy : Nat → ClassId} {rm : Room} {cc : ByteArray} {nL k n : Nat} {Ts : List Cond} {own : String} {ws : va_W} {lv : List (Nat × Value)} {pc : Nat} {st : List Value}
theorem r_iconst (hC : OK X l D cy rm cc nL Ts own) {z : Int} {v : Int32} (d : decode cc pc = .ok (.iconst z, 1)) (hv : Int32.ofInt z = v) (kk : GG X nL k n ws lv (pc + 1) (.int v :: st)) : GG X nL k n ws lv pc st := by
  obtain ⟨p, l, e, R, s, m, args, below, meth, c, D, A, Q⟩ := X
  obtain ⟨hx, hb, -⟩ := hC
  exact fun H locs ls hP hD hS hl => lv_iconst hx hb d hv (kk H locs ls hP hD hS hl)
theorem r_bipush (hC : OK X l D cy rm cc nL Ts own) {z : Int} {v : Int32} (d : decode cc pc = .ok (.bipush z, 2)) (hv : (Int8.ofInt z).toInt32 = v) (kk : GG X nL k n ws lv (pc + 2) (.int v :: st)) : GG X nL k n ws lv pc st := by
  obtain ⟨p, l, e, R, s, m, args, below, meth, c, D, A, Q⟩ := X
  obtain ⟨hx, hb, -⟩ := hC
  exact fun H locs ls hP hD hS hl => lv_bipush hx hb d hv (kk H locs ls hP hD hS hl)
theorem r_sipush (hC : OK X l D cy rm cc nL Ts own) {z : Int} {v : Int32} (d : decode cc pc = .ok (.sipush z, 3)) (hv : (Int16.ofInt z).toInt32 = v) (kk : GG X nL k n ws lv (pc + 3) (.int v :: st)) : GG X nL k n ws lv pc st := by
  obtain ⟨p, l, e, R, s, m, args, below, meth, c, D, A, Q⟩ := X
  obtain ⟨hx, hb, -⟩ := hC
  exact fun H locs ls hP hD hS hl => lv_sipush hx hb d hv (kk H locs ls hP hD hS hl)
theorem r_lconst (hC : OK X l D cy rm cc nL Ts own) {z : Fin 2} {v : Int64} (d : decode cc pc = .ok (.lconst z, 1)) (hv : Int64.ofNat (z : Nat) = v) (kk : GG X nL k n ws lv (pc + 1) (.long v :: st)) : GG X nL k n ws lv pc st := by
  obtain ⟨p, l, e, R, s, m, args, below, meth, c, D, A, Q⟩ := X
  obtain ⟨hx, hb, -⟩ := hC
  exact fun H locs ls hP hD hS hl => lv_lconst hx hb d hv (kk H locs ls hP hD hS hl)
theorem r_ldc (hC : OK X l D cy rm cc nL Ts own) {index : Nat} {v : Int32} (hm : Cond.constant own index v ∈ Ts) (d : decode cc pc = .ok (.ldc index, 2)) (kk : GG X nL k n ws lv (pc + 2) (.int v :: st)) : GG X nL k n ws lv pc st := by
  obtain ⟨p, l, e, R, s, m, args, below, meth, c, D, A, Q⟩ := X
  obtain ⟨hx, hb, -, hown, hts, -⟩ := hC
  exact fun H locs ls hP hD hS hl => lv_ldc hx hb hown (hts _ hm) d (kk H locs ls hP hD hS hl)
theorem r_ldc2 (hC : OK X l D cy rm cc nL Ts own) {index : Nat} {v : Int64} (hm : Cond.constantLong own index v ∈ Ts) (d : decode cc pc = .ok (.ldc2_w index, 3)) (kk : GG X nL k n ws lv (pc + 3) (.long v :: st)) : GG X nL k n ws lv pc st := by
  obtain ⟨p, l, e, R, s, m, args, below, meth, c, D, A, Q⟩ := X
  obtain ⟨hx, hb, -, hown, hts, -⟩ := hC
  exact fun H locs ls hP hD hS hl => lv_ldc2 hx hb hown (hts _ hm) d (kk H locs ls hP hD hS hl)
theorem r_iload_n (hC : OK X l D cy rm cc nL Ts own) {j : Fin 4} {i : Nat} {x : Int32} (d : decode cc pc = .ok (.iload_n j, 1)) (hi : (j : Nat) = i) (a : Nat) (ha : lv[a]? = some (i, .int x)) (kk : GG X nL k n ws lv (pc + 1) (.int x :: st)) : GG X nL k n ws lv pc st := by
  obtain ⟨p, l, e, R, s, m, args, below, meth, c, D, A, Q⟩ := X
  obtain ⟨hx, hb, -⟩ := hC
  exact fun H locs ls hP hD hS hl => lv_iload_n hx hb d hi (lv_at hl a ha) (kk H locs ls hP hD hS hl)
theorem r_iload (hC : OK X l D cy rm cc nL Ts own) {i : Nat} {x : Int32} (d : decode cc pc = .ok (.iload i, 2)) (a : Nat) (ha : lv[a]? = some (i, .int x)) (kk : GG X nL k n ws lv (pc + 2) (.int x :: st)) : GG X nL k n ws lv pc st := by
  obtain ⟨p, l, e, R, s, m, args, below, meth, c, D, A, Q⟩ := X
  obtain ⟨hx, hb, -⟩ := hC
  exact fun H locs ls hP hD hS hl => lv_iload hx hb d (lv_at hl a ha) (kk H locs ls hP hD hS hl)
theorem r_lload_n (hC : OK X l D cy rm cc nL Ts own) {j : Fin 4} {i : Nat} {x : Int64} (d : decode cc pc = .ok (.lload_n j, 1)) (hi : (j : Nat) = i) (a : Nat) (ha : lv[a]? = some (i, .long x)) (kk : GG X nL k n ws lv (pc + 1) (.long x :: st)) : GG X nL k n ws lv pc st := by
  obtain ⟨p, l, e, R, s, m, args, below, meth, c, D, A, Q⟩ := X
  obtain ⟨hx, hb, -⟩ := hC
  exact fun H locs ls hP hD hS hl => lv_lload_n hx hb d hi (lv_at hl a ha) (kk H locs ls hP hD hS hl)
theorem r_lload (hC : OK X l D cy rm cc nL Ts own) {i : Nat} {x : Int64} (d : decode cc pc = .ok (.lload i, 2)) (a : Nat) (ha : lv[a]? = some (i, .long x)) (kk : GG X nL k n ws lv (pc + 2) (.long x :: st)) : GG X nL k n ws lv pc st := by
  obtain ⟨p, l, e, R, s, m, args, below, meth, c, D, A, Q⟩ := X
  obtain ⟨hx, hb, -⟩ := hC
  exact fun H locs ls hP hD hS hl => lv_lload hx hb d (lv_at hl a ha) (kk H locs ls hP hD hS hl)
theorem r_aload_n (hC : OK X l D cy rm cc nL Ts own) {j : Fin 4} {i : Nat} {x : Nat} (d : decode cc pc = .ok (.aload_n j, 1)) (hi : (j : Nat) = i) (a : Nat) (ha : lv[a]? = some (i, .ref x)) (kk : GG X nL k n ws lv (pc + 1) (.ref x :: st)) : GG X nL k n ws lv pc st := by
  obtain ⟨p, l, e, R, s, m, args, below, meth, c, D, A, Q⟩ := X
  obtain ⟨hx, hb, -⟩ := hC
  exact fun H locs ls hP hD hS hl => lv_aload_n hx hb d hi (lv_at hl a ha) (kk H locs ls hP hD hS hl)
theorem r_istore_n (hC : OK X l D cy rm cc nL Ts own) {j : Fin 4} {i : Nat} {x : Int32} (lv' : List (Nat × Value)) (d : decode cc pc = .ok (.istore_n j, 1)) (hi : (j : Nat) = i) (hn : i < nL) (hl : (i, Value.int x) :: lv.filter (fun q => !(q.1 == i) && !(q.1 + 1 == i && q.2.category == 2)) = lv') (kk : GG X nL k n ws lv' (pc + 1) st) : GG X nL k n ws lv pc (.int x :: st) := by
  obtain ⟨p, l, e, R, s, m, args, below, meth, c, D, A, Q⟩ := X
  obtain ⟨hx, hb, -⟩ := hC
  exact fun H locs ls hP hD hS h => lv_istore_n hx hb d hi h hn hl (fun ls' h' => kk H locs ls' hP hD hS h')
theorem r_istore (hC : OK X l D cy rm cc nL Ts own) {i : Nat} {x : Int32} (lv' : List (Nat × Value)) (d : decode cc pc = .ok (.istore i, 2)) (hn : i < nL) (hl : (i, Value.int x) :: lv.filter (fun q => !(q.1 == i) && !(q.1 + 1 == i && q.2.category == 2)) = lv') (kk : GG X nL k n ws lv' (pc + 2) st) : GG X nL k n ws lv pc (.int x :: st) := by
  obtain ⟨p, l, e, R, s, m, args, below, meth, c, D, A, Q⟩ := X
  obtain ⟨hx, hb, -⟩ := hC
  exact fun H locs ls hP hD hS h => lv_istore hx hb d h hn hl (fun ls' h' => kk H locs ls' hP hD hS h')
theorem r_lstore_n (hC : OK X l D cy rm cc nL Ts own) {j : Fin 4} {i : Nat} {x : Int64} (lv' : List (Nat × Value)) (d : decode cc pc = .ok (.lstore_n j, 1)) (hi : (j : Nat) = i) (hn : i + 1 < nL) (hl : (i, Value.long x) :: lv.filter (fun q => !(q.1 == i) && (!(q.1 == i + 1) && !(q.1 + 1 == i && q.2.category == 2))) = lv') (kk : GG X nL k n ws lv' (pc + 1) st) : GG X nL k n ws lv pc (.long x :: st) := by
  obtain ⟨p, l, e, R, s, m, args, below, meth, c, D, A, Q⟩ := X
  obtain ⟨hx, hb, -⟩ := hC
  exact fun H locs ls hP hD hS h => lv_lstore_n hx hb d hi h hn hl (fun ls' h' => kk H locs ls' hP hD hS h')
theorem r_lstore (hC : OK X l D cy rm cc nL Ts own) {i : Nat} {x : Int64} (lv' : List (Nat × Value)) (d : decode cc pc = .ok (.lstore i, 2)) (hn : i + 1 < nL) (hl : (i, Value.long x) :: lv.filter (fun q => !(q.1 == i) && (!(q.1 == i + 1) && !(q.1 + 1 == i && q.2.category == 2))) = lv') (kk : GG X nL k n ws lv' (pc + 2) st) : GG X nL k n ws lv pc (.long x :: st) := by
  obtain ⟨p, l, e, R, s, m, args, below, meth, c, D, A, Q⟩ := X
  obtain ⟨hx, hb, -⟩ := hC
  exact fun H locs ls hP hD hS h => lv_lstore hx hb d h hn hl (fun ls' h' => kk H locs ls' hP hD hS h')
theorem r_astore_n (hC : OK X l D cy rm cc nL Ts own) {j : Fin 4} {i : Nat} {x : Nat} (lv' : List (Nat × Value)) (d : decode cc pc = .ok (.astore_n j, 1)) (hi : (j : Nat) = i) (hn : i < nL) (hl : (i, Value.ref x) :: lv.filter (fun q => !(q.1 == i) && !(q.1 + 1 == i && q.2.category == 2)) = lv') (kk : GG X nL k n ws lv' (pc + 1) st) : GG X nL k n ws lv pc (.ref x :: st) := by
  obtain ⟨p, l, e, R, s, m, args, below, meth, c, D, A, Q⟩ := X
  obtain ⟨hx, hb, -⟩ := hC
  exact fun H locs ls hP hD hS h => lv_astore_n hx hb d hi h hn hl (fun ls' h' => kk H locs ls' hP hD hS h')
theorem r_iinc (hC : OK X l D cy rm cc nL Ts own) {i : Nat} {z : Int} {x : Int32} (lv' : List (Nat × Value)) (v : Int32) (d : decode cc pc = .ok (.iinc i z, 3)) (a : Nat) (ha : lv[a]? = some (i, .int x)) (hv : x + Int32.ofInt z = v) (hn : i < nL) (hl : (i, Value.int v) :: lv.filter (fun q => !(q.1 == i) && !(q.1 + 1 == i && q.2.category == 2)) = lv') (kk : GG X nL k n ws lv' (pc + 3) st) : GG X nL k n ws lv pc st := by
  obtain ⟨p, l, e, R, s, m, args, below, meth, c, D, A, Q⟩ := X
  obtain ⟨hx, hb, -⟩ := hC
  exact fun H locs ls hP hD hS h => lv_iinc hx hb d h ha hv hn hl (fun ls' h' => kk H locs ls' hP hD hS h')
theorem r_sub (lv' : List (Nat × Value)) (ks : List Nat) (hk : lv_pick lv ks = lv') (kk : GG X nL k n ws lv' pc st) : GG X nL k n ws lv pc st := by
  obtain ⟨p, l, e, R, s, m, args, below, meth, c, D, A, Q⟩ := X
  exact fun H locs ls hP hD hS h => kk H locs ls hP hD hS (lv_sub h ks hk)
theorem r_topi {x : Int32} (kk : ∀ y : Int32, y = x → GG X nL k n ws lv pc (.int y :: st)) : GG X nL k n ws lv pc (.int x :: st) := kk x rfl
theorem r_topl {x : Int64} (kk : ∀ y : Int64, y = x → GG X nL k n ws lv pc (.long y :: st)) : GG X nL k n ws lv pc (.long x :: st) := kk x rfl
theorem r_iadd (hC : OK X l D cy rm cc nL Ts own) {x y : Int32} (d : decode cc pc = .ok (.iadd, 1)) (kk : GG X nL k n ws lv (pc + 1) (.int (x + y) :: st)) : GG X nL k n ws lv pc (.int y :: .int x :: st) := by
  obtain ⟨p, l, e, R, s, m, args, below, meth, c, D, A, Q⟩ := X
  obtain ⟨hx, hb, -⟩ := hC
  exact fun H locs ls hP hD hS hl => lv_iadd hx hb d (kk H locs ls hP hD hS hl)
theorem r_isub (hC : OK X l D cy rm cc nL Ts own) {x y : Int32} (d : decode cc pc = .ok (.isub, 1)) (kk : GG X nL k n ws lv (pc + 1) (.int (x - y) :: st)) : GG X nL k n ws lv pc (.int y :: .int x :: st) := by
  obtain ⟨p, l, e, R, s, m, args, below, meth, c, D, A, Q⟩ := X
  obtain ⟨hx, hb, -⟩ := hC
  exact fun H locs ls hP hD hS hl => lv_isub hx hb d (kk H locs ls hP hD hS hl)
theorem r_imul (hC : OK X l D cy rm cc nL Ts own) {x y : Int32} (d : decode cc pc = .ok (.imul, 1)) (kk : GG X nL k n ws lv (pc + 1) (.int (x * y) :: st)) : GG X nL k n ws lv pc (.int y :: .int x :: st) := by
  obtain ⟨p, l, e, R, s, m, args, below, meth, c, D, A, Q⟩ := X
  obtain ⟨hx, hb, -⟩ := hC
  exact fun H locs ls hP hD hS hl => lv_imul hx hb d (kk H locs ls hP hD hS hl)
theorem r_iand (hC : OK X l D cy rm cc nL Ts own) {x y : Int32} (d : decode cc pc = .ok (.iand, 1)) (kk : GG X nL k n ws lv (pc + 1) (.int (x &&& y) :: st)) : GG X nL k n ws lv pc (.int y :: .int x :: st) := by
  obtain ⟨p, l, e, R, s, m, args, below, meth, c, D, A, Q⟩ := X
  obtain ⟨hx, hb, -⟩ := hC
  exact fun H locs ls hP hD hS hl => lv_iand hx hb d (kk H locs ls hP hD hS hl)
theorem r_ior (hC : OK X l D cy rm cc nL Ts own) {x y : Int32} (d : decode cc pc = .ok (.ior, 1)) (kk : GG X nL k n ws lv (pc + 1) (.int (x ||| y) :: st)) : GG X nL k n ws lv pc (.int y :: .int x :: st) := by
  obtain ⟨p, l, e, R, s, m, args, below, meth, c, D, A, Q⟩ := X
  obtain ⟨hx, hb, -⟩ := hC
  exact fun H locs ls hP hD hS hl => lv_ior hx hb d (kk H locs ls hP hD hS hl)
theorem r_ixor (hC : OK X l D cy rm cc nL Ts own) {x y : Int32} (d : decode cc pc = .ok (.ixor, 1)) (kk : GG X nL k n ws lv (pc + 1) (.int (x ^^^ y) :: st)) : GG X nL k n ws lv pc (.int y :: .int x :: st) := by
  obtain ⟨p, l, e, R, s, m, args, below, meth, c, D, A, Q⟩ := X
  obtain ⟨hx, hb, -⟩ := hC
  exact fun H locs ls hP hD hS hl => lv_ixor hx hb d (kk H locs ls hP hD hS hl)
theorem r_ishl (hC : OK X l D cy rm cc nL Ts own) {x y : Int32} (d : decode cc pc = .ok (.ishl, 1)) (kk : GG X nL k n ws lv (pc + 1) (.int (x <<< (y &&& 31)) :: st)) : GG X nL k n ws lv pc (.int y :: .int x :: st) := by
  obtain ⟨p, l, e, R, s, m, args, below, meth, c, D, A, Q⟩ := X
  obtain ⟨hx, hb, -⟩ := hC
  exact fun H locs ls hP hD hS hl => lv_ishl hx hb d (kk H locs ls hP hD hS hl)
theorem r_ishr (hC : OK X l D cy rm cc nL Ts own) {x y : Int32} (d : decode cc pc = .ok (.ishr, 1)) (kk : GG X nL k n ws lv (pc + 1) (.int (x >>> (y &&& 31)) :: st)) : GG X nL k n ws lv pc (.int y :: .int x :: st) := by
  obtain ⟨p, l, e, R, s, m, args, below, meth, c, D, A, Q⟩ := X
  obtain ⟨hx, hb, -⟩ := hC
  exact fun H locs ls hP hD hS hl => lv_ishr hx hb d (kk H locs ls hP hD hS hl)
theorem r_ladd (hC : OK X l D cy rm cc nL Ts own) {x y : Int64} (d : decode cc pc = .ok (.ladd, 1)) (kk : GG X nL k n ws lv (pc + 1) (.long (x + y) :: st)) : GG X nL k n ws lv pc (.long y :: .long x :: st) := by
  obtain ⟨p, l, e, R, s, m, args, below, meth, c, D, A, Q⟩ := X
  obtain ⟨hx, hb, -⟩ := hC
  exact fun H locs ls hP hD hS hl => lv_ladd hx hb d (kk H locs ls hP hD hS hl)
theorem r_lsub (hC : OK X l D cy rm cc nL Ts own) {x y : Int64} (d : decode cc pc = .ok (.lsub, 1)) (kk : GG X nL k n ws lv (pc + 1) (.long (x - y) :: st)) : GG X nL k n ws lv pc (.long y :: .long x :: st) := by
  obtain ⟨p, l, e, R, s, m, args, below, meth, c, D, A, Q⟩ := X
  obtain ⟨hx, hb, -⟩ := hC
  exact fun H locs ls hP hD hS hl => lv_lsub hx hb d (kk H locs ls hP hD hS hl)
theorem r_lmul (hC : OK X l D cy rm cc nL Ts own) {x y : Int64} (d : decode cc pc = .ok (.lmul, 1)) (kk : GG X nL k n ws lv (pc + 1) (.long (x * y) :: st)) : GG X nL k n ws lv pc (.long y :: .long x :: st) := by
  obtain ⟨p, l, e, R, s, m, args, below, meth, c, D, A, Q⟩ := X
  obtain ⟨hx, hb, -⟩ := hC
  exact fun H locs ls hP hD hS hl => lv_lmul hx hb d (kk H locs ls hP hD hS hl)
theorem r_idiv (hC : OK X l D cy rm cc nL Ts own) {x y : Int32} (d : decode cc pc = .ok (.idiv, 1)) (hne : ¬ y = 0) (kk : GG X nL k n ws lv (pc + 1) (.int (x / y) :: st)) : GG X nL k n ws lv pc (.int y :: .int x :: st) := by
  obtain ⟨p, l, e, R, s, m, args, below, meth, c, D, A, Q⟩ := X
  obtain ⟨hx, hb, -⟩ := hC
  exact fun H locs ls hP hD hS hl => lv_idiv hx hb d hne (kk H locs ls hP hD hS hl)
theorem r_irem (hC : OK X l D cy rm cc nL Ts own) {x y : Int32} (d : decode cc pc = .ok (.irem, 1)) (hne : ¬ y = 0) (kk : GG X nL k n ws lv (pc + 1) (.int (x - x / y * y) :: st)) : GG X nL k n ws lv pc (.int y :: .int x :: st) := by
  obtain ⟨p, l, e, R, s, m, args, below, meth, c, D, A, Q⟩ := X
  obtain ⟨hx, hb, -⟩ := hC
  exact fun H locs ls hP hD hS hl => lv_irem hx hb d hne (kk H locs ls hP hD hS hl)
theorem r_ldiv (hC : OK X l D cy rm cc nL Ts own) {x y : Int64} (d : decode cc pc = .ok (.ldiv, 1)) (hne : ¬ y = 0) (kk : GG X nL k n ws lv (pc + 1) (.long (x / y) :: st)) : GG X nL k n ws lv pc (.long y :: .long x :: st) := by
  obtain ⟨p, l, e, R, s, m, args, below, meth, c, D, A, Q⟩ := X
  obtain ⟨hx, hb, -⟩ := hC
  exact fun H locs ls hP hD hS hl => lv_ldiv hx hb d hne (kk H locs ls hP hD hS hl)
theorem r_lrem (hC : OK X l D cy rm cc nL Ts own) {x y : Int64} (d : decode cc pc = .ok (.lrem, 1)) (hne : ¬ y = 0) (kk : GG X nL k n ws lv (pc + 1) (.long (x - x / y * y) :: st)) : GG X nL k n ws lv pc (.long y :: .long x :: st) := by
  obtain ⟨p, l, e, R, s, m, args, below, meth, c, D, A, Q⟩ := X
  obtain ⟨hx, hb, -⟩ := hC
  exact fun H locs ls hP hD hS hl => lv_lrem hx hb d hne (kk H locs ls hP hD hS hl)
theorem r_ineg (hC : OK X l D cy rm cc nL Ts own) {x : Int32} (d : decode cc pc = .ok (.ineg, 1)) (kk : GG X nL k n ws lv (pc + 1) (.int (-x) :: st)) : GG X nL k n ws lv pc (.int x :: st) := by
  obtain ⟨p, l, e, R, s, m, args, below, meth, c, D, A, Q⟩ := X
  obtain ⟨hx, hb, -⟩ := hC
  exact fun H locs ls hP hD hS hl => lv_ineg hx hb d (kk H locs ls hP hD hS hl)
theorem r_i2l (hC : OK X l D cy rm cc nL Ts own) {x : Int32} (d : decode cc pc = .ok (.i2l, 1)) (kk : GG X nL k n ws lv (pc + 1) (.long (x.toInt64) :: st)) : GG X nL k n ws lv pc (.int x :: st) := by
  obtain ⟨p, l, e, R, s, m, args, below, meth, c, D, A, Q⟩ := X
  obtain ⟨hx, hb, -⟩ := hC
  exact fun H locs ls hP hD hS hl => lv_i2l hx hb d rfl (kk H locs ls hP hD hS hl)
theorem r_l2i (hC : OK X l D cy rm cc nL Ts own) {x : Int64} (d : decode cc pc = .ok (.l2i, 1)) (kk : GG X nL k n ws lv (pc + 1) (.int (x.toInt32) :: st)) : GG X nL k n ws lv pc (.long x :: st) := by
  obtain ⟨p, l, e, R, s, m, args, below, meth, c, D, A, Q⟩ := X
  obtain ⟨hx, hb, -⟩ := hC
  exact fun H locs ls hP hD hS hl => lv_l2i hx hb d rfl (kk H locs ls hP hD hS hl)
theorem r_i2b (hC : OK X l D cy rm cc nL Ts own) {x : Int32} (d : decode cc pc = .ok (.i2b, 1)) (kk : GG X nL k n ws lv (pc + 1) (.int (x.toInt8.toInt32) :: st)) : GG X nL k n ws lv pc (.int x :: st) := by
  obtain ⟨p, l, e, R, s, m, args, below, meth, c, D, A, Q⟩ := X
  obtain ⟨hx, hb, -⟩ := hC
  exact fun H locs ls hP hD hS hl => lv_i2b hx hb d rfl (kk H locs ls hP hD hS hl)
theorem r_lshl (hC : OK X l D cy rm cc nL Ts own) {x : Int64} {y : Int32} (d : decode cc pc = .ok (.lshl, 1)) (kk : GG X nL k n ws lv (pc + 1) (.long (x <<< (y.toInt64 &&& 63)) :: st)) : GG X nL k n ws lv pc (.int y :: .long x :: st) := by
  obtain ⟨p, l, e, R, s, m, args, below, meth, c, D, A, Q⟩ := X
  obtain ⟨hx, hb, -⟩ := hC
  exact fun H locs ls hP hD hS hl => lv_lshl hx hb d rfl (kk H locs ls hP hD hS hl)
theorem r_lcmp (hC : OK X l D cy rm cc nL Ts own) {x y : Int64} (d : decode cc pc = .ok (.lcmp, 1)) (kk : GG X nL k n ws lv (pc + 1) (.int (lg_cmp x y) :: st)) : GG X nL k n ws lv pc (.long y :: .long x :: st) := by
  obtain ⟨p, l, e, R, s, m, args, below, meth, c, D, A, Q⟩ := X
  obtain ⟨hx, hb, -⟩ := hC
  exact fun H locs ls hP hD hS hl => W.lcmp hx hb d (kk H locs ls hP hD hS hl)
theorem r_dup (hC : OK X l D cy rm cc nL Ts own) {v : Value} (d : decode cc pc = .ok (.dup, 1)) (hv : v.category = 1) (kk : GG X nL k n ws lv (pc + 1) (v :: v :: st)) : GG X nL k n ws lv pc (v :: st) := by
  obtain ⟨p, l, e, R, s, m, args, below, meth, c, D, A, Q⟩ := X
  obtain ⟨hx, hb, -⟩ := hC
  exact fun H locs ls hP hD hS hl => lv_dup hx hb d hv (kk H locs ls hP hD hS hl)
theorem r_dup2 (hC : OK X l D cy rm cc nL Ts own) {v w : Value} (d : decode cc pc = .ok (.dup2, 1)) (hv : v.category = 1) (hw : w.category = 1) (kk : GG X nL k n ws lv (pc + 1) (v :: w :: v :: w :: st)) : GG X nL k n ws lv pc (v :: w :: st) := by
  obtain ⟨p, l, e, R, s, m, args, below, meth, c, D, A, Q⟩ := X
  obtain ⟨hx, hb, -⟩ := hC
  exact fun H locs ls hP hD hS hl => lv_dup2_11 hx hb d hv hw (kk H locs ls hP hD hS hl)
theorem r_if_eq (hC : OK X l D cy rm cc nL Ts own) {x : Int32} {off : Int} {tgt : Nat} (d : decode cc pc = .ok (.ifCond .eq off, 3)) (ht : (pc : Int) + off = (tgt : Int)) (kt : x = 0 → GG X nL k n ws lv tgt st) (kf : ¬ x = 0 → GG X nL k n ws lv (pc + 3) st) : GG X nL k n ws lv pc (.int x :: st) := by
  obtain ⟨p, l, e, R, s, m, args, below, meth, c, D, A, Q⟩ := X
  obtain ⟨hx, hb, -⟩ := hC
  exact fun H locs ls hP hD hS hl => lv_if_eq hx hb d ht (fun c => kt c H locs ls hP hD hS hl) (fun c => kf c H locs ls hP hD hS hl)
theorem r_icmp_eq (hC : OK X l D cy rm cc nL Ts own) {x y : Int32} {off : Int} {tgt : Nat} (d : decode cc pc = .ok (.if_icmp .eq off, 3)) (ht : (pc : Int) + off = (tgt : Int)) (kt : x = y → GG X nL k n ws lv tgt st) (kf : ¬ x = y → GG X nL k n ws lv (pc + 3) st) : GG X nL k n ws lv pc (.int y :: .int x :: st) := by
  obtain ⟨p, l, e, R, s, m, args, below, meth, c, D, A, Q⟩ := X
  obtain ⟨hx, hb, -⟩ := hC
  exact fun H locs ls hP hD hS hl => lv_icmp_eq hx hb d ht (fun c => kt c H locs ls hP hD hS hl) (fun c => kf c H locs ls hP hD hS hl)
theorem r_if_ne (hC : OK X l D cy rm cc nL Ts own) {x : Int32} {off : Int} {tgt : Nat} (d : decode cc pc = .ok (.ifCond .ne off, 3)) (ht : (pc : Int) + off = (tgt : Int)) (kt : ¬ x = 0 → GG X nL k n ws lv tgt st) (kf : x = 0 → GG X nL k n ws lv (pc + 3) st) : GG X nL k n ws lv pc (.int x :: st) := by
  obtain ⟨p, l, e, R, s, m, args, below, meth, c, D, A, Q⟩ := X
  obtain ⟨hx, hb, -⟩ := hC
  exact fun H locs ls hP hD hS hl => lv_if_ne hx hb d ht (fun c => kt c H locs ls hP hD hS hl) (fun c => kf c H locs ls hP hD hS hl)
theorem r_icmp_ne (hC : OK X l D cy rm cc nL Ts own) {x y : Int32} {off : Int} {tgt : Nat} (d : decode cc pc = .ok (.if_icmp .ne off, 3)) (ht : (pc : Int) + off = (tgt : Int)) (kt : ¬ x = y → GG X nL k n ws lv tgt st) (kf : x = y → GG X nL k n ws lv (pc + 3) st) : GG X nL k n ws lv pc (.int y :: .int x :: st) := by
  obtain ⟨p, l, e, R, s, m, args, below, meth, c, D, A, Q⟩ := X
  obtain ⟨hx, hb, -⟩ := hC
  exact fun H locs ls hP hD hS hl => lv_icmp_ne hx hb d ht (fun c => kt c H locs ls hP hD hS hl) (fun c => kf c H locs ls hP hD hS hl)
theorem r_if_lt (hC : OK X l D cy rm cc nL Ts own) {x : Int32} {off : Int} {tgt : Nat} (d : decode cc pc = .ok (.ifCond .lt off, 3)) (ht : (pc : Int) + off = (tgt : Int)) (kt : x < 0 → GG X nL k n ws lv tgt st) (kf : ¬ x < 0 → GG X nL k n ws lv (pc + 3) st) : GG X nL k n ws lv pc (.int x :: st) := by
  obtain ⟨p, l, e, R, s, m, args, below, meth, c, D, A, Q⟩ := X
  obtain ⟨hx, hb, -⟩ := hC
  exact fun H locs ls hP hD hS hl => lv_if_lt hx hb d ht (fun c => kt c H locs ls hP hD hS hl) (fun c => kf c H locs ls hP hD hS hl)
theorem r_icmp_lt (hC : OK X l D cy rm cc nL Ts own) {x y : Int32} {off : Int} {tgt : Nat} (d : decode cc pc = .ok (.if_icmp .lt off, 3)) (ht : (pc : Int) + off = (tgt : Int)) (kt : x < y → GG X nL k n ws lv tgt st) (kf : ¬ x < y → GG X nL k n ws lv (pc + 3) st) : GG X nL k n ws lv pc (.int y :: .int x :: st) := by
  obtain ⟨p, l, e, R, s, m, args, below, meth, c, D, A, Q⟩ := X
  obtain ⟨hx, hb, -⟩ := hC
  exact fun H locs ls hP hD hS hl => lv_icmp_lt hx hb d ht (fun c => kt c H locs ls hP hD hS hl) (fun c => kf c H locs ls hP hD hS hl)
theorem r_if_ge (hC : OK X l D cy rm cc nL Ts own) {x : Int32} {off : Int} {tgt : Nat} (d : decode cc pc = .ok (.ifCond .ge off, 3)) (ht : (pc : Int) + off = (tgt : Int)) (kt : 0 ≤ x → GG X nL k n ws lv tgt st) (kf : ¬ 0 ≤ x → GG X nL k n ws lv (pc + 3) st) : GG X nL k n ws lv pc (.int x :: st) := by
  obtain ⟨p, l, e, R, s, m, args, below, meth, c, D, A, Q⟩ := X
  obtain ⟨hx, hb, -⟩ := hC
  exact fun H locs ls hP hD hS hl => lv_if_ge hx hb d ht (fun c => kt c H locs ls hP hD hS hl) (fun c => kf c H locs ls hP hD hS hl)
theorem r_icmp_ge (hC : OK X l D cy rm cc nL Ts own) {x y : Int32} {off : Int} {tgt : Nat} (d : decode cc pc = .ok (.if_icmp .ge off, 3)) (ht : (pc : Int) + off = (tgt : Int)) (kt : y ≤ x → GG X nL k n ws lv tgt st) (kf : ¬ y ≤ x → GG X nL k n ws lv (pc + 3) st) : GG X nL k n ws lv pc (.int y :: .int x :: st) := by
  obtain ⟨p, l, e, R, s, m, args, below, meth, c, D, A, Q⟩ := X
  obtain ⟨hx, hb, -⟩ := hC
  exact fun H locs ls hP hD hS hl => lv_icmp_ge hx hb d ht (fun c => kt c H locs ls hP hD hS hl) (fun c => kf c H locs ls hP hD hS hl)
theorem r_if_gt (hC : OK X l D cy rm cc nL Ts own) {x : Int32} {off : Int} {tgt : Nat} (d : decode cc pc = .ok (.ifCond .gt off, 3)) (ht : (pc : Int) + off = (tgt : Int)) (kt : 0 < x → GG X nL k n ws lv tgt st) (kf : ¬ 0 < x → GG X nL k n ws lv (pc + 3) st) : GG X nL k n ws lv pc (.int x :: st) := by
  obtain ⟨p, l, e, R, s, m, args, below, meth, c, D, A, Q⟩ := X
  obtain ⟨hx, hb, -⟩ := hC
  exact fun H locs ls hP hD hS hl => lv_if_gt hx hb d ht (fun c => kt c H locs ls hP hD hS hl) (fun c => kf c H locs ls hP hD hS hl)
theorem r_icmp_gt (hC : OK X l D cy rm cc nL Ts own) {x y : Int32} {off : Int} {tgt : Nat} (d : decode cc pc = .ok (.if_icmp .gt off, 3)) (ht : (pc : Int) + off = (tgt : Int)) (kt : y < x → GG X nL k n ws lv tgt st) (kf : ¬ y < x → GG X nL k n ws lv (pc + 3) st) : GG X nL k n ws lv pc (.int y :: .int x :: st) := by
  obtain ⟨p, l, e, R, s, m, args, below, meth, c, D, A, Q⟩ := X
  obtain ⟨hx, hb, -⟩ := hC
  exact fun H locs ls hP hD hS hl => lv_icmp_gt hx hb d ht (fun c => kt c H locs ls hP hD hS hl) (fun c => kf c H locs ls hP hD hS hl)
theorem r_if_le (hC : OK X l D cy rm cc nL Ts own) {x : Int32} {off : Int} {tgt : Nat} (d : decode cc pc = .ok (.ifCond .le off, 3)) (ht : (pc : Int) + off = (tgt : Int)) (kt : x ≤ 0 → GG X nL k n ws lv tgt st) (kf : ¬ x ≤ 0 → GG X nL k n ws lv (pc + 3) st) : GG X nL k n ws lv pc (.int x :: st) := by
  obtain ⟨p, l, e, R, s, m, args, below, meth, c, D, A, Q⟩ := X
  obtain ⟨hx, hb, -⟩ := hC
  exact fun H locs ls hP hD hS hl => lv_if_le hx hb d ht (fun c => kt c H locs ls hP hD hS hl) (fun c => kf c H locs ls hP hD hS hl)
theorem r_icmp_le (hC : OK X l D cy rm cc nL Ts own) {x y : Int32} {off : Int} {tgt : Nat} (d : decode cc pc = .ok (.if_icmp .le off, 3)) (ht : (pc : Int) + off = (tgt : Int)) (kt : x ≤ y → GG X nL k n ws lv tgt st) (kf : ¬ x ≤ y → GG X nL k n ws lv (pc + 3) st) : GG X nL k n ws lv pc (.int y :: .int x :: st) := by
  obtain ⟨p, l, e, R, s, m, args, below, meth, c, D, A, Q⟩ := X
  obtain ⟨hx, hb, -⟩ := hC
  exact fun H locs ls hP hD hS hl => lv_icmp_le hx hb d ht (fun c => kt c H locs ls hP hD hS hl) (fun c => kf c H locs ls hP hD hS hl)
theorem r_goto (hC : OK X l D cy rm cc nL Ts own) {off : Int} {tgt : Nat} (d : decode cc pc = .ok (.goto off, 3)) (ht : (pc : Int) + off = (tgt : Int)) (kk : GG X nL k n ws lv tgt st) : GG X nL k n ws lv pc st := by
  obtain ⟨p, l, e, R, s, m, args, below, meth, c, D, A, Q⟩ := X
  obtain ⟨hx, hb, -⟩ := hC
  exact fun H locs ls hP hD hS hl => lv_goto hx hb d ht (kk H locs ls hP hD hS hl)
theorem r_tableOut (hC : OK X l D cy rm cc nL Ts own) {dflt lo hi : Int} {offs : Array Int} {len : Nat} {x : Int32} {tgt : Nat} (d : decode cc pc = .ok (.tableswitch dflt lo hi offs, len)) (h : x.toInt < lo ∨ hi < x.toInt) (ht : (pc : Int) + dflt = (tgt : Int)) (kk : GG X nL k n ws lv tgt st) : GG X nL k n ws lv pc (.int x :: st) := by
  obtain ⟨p, l, e, R, s, m, args, below, meth, c, D, A, Q⟩ := X
  obtain ⟨hx, hb, -⟩ := hC
  exact fun H locs ls hP hD hS hl => lv_tableOut hx hb d h ht (kk H locs ls hP hD hS hl)
theorem r_tableIn (hC : OK X l D cy rm cc nL Ts own) {dflt lo hi : Int} {offs : Array Int} {len : Nat} {x : Int32} {off : Int} {tgt : Nat} (d : decode cc pc = .ok (.tableswitch dflt lo hi offs, len)) (h1 : ¬ x.toInt < lo) (h2 : ¬ hi < x.toInt) (ho : offs[(x.toInt - lo).toNat]? = some off) (ht : (pc : Int) + off = (tgt : Int)) (kk : GG X nL k n ws lv tgt st) : GG X nL k n ws lv pc (.int x :: st) := by
  obtain ⟨p, l, e, R, s, m, args, below, meth, c, D, A, Q⟩ := X
  obtain ⟨hx, hb, -⟩ := hC
  exact fun H locs ls hP hD hS hl => lv_tableIn hx hb d h1 h2 ho ht (kk H locs ls hP hD hS hl)
theorem r_get (hC : OK X l D cy rm cc nL Ts own) {a : Nat} {ref C : String} {T : u_T} {N ci index : Nat} (hin : ∀ w ∈ u_ws C T N, w ∈ Ts) (q0 : Nat) {fs : List Value} (he : ws[q0]? = some (a, .inr (ci, fs))) (hc : vwCl[ci]? = some (C, T, N)) (j : Nat) (hj : j < N) (href : (T j).1 = ref) (hlink : Cond.fieldLink own index ref (T j).2.1 (T j).2.2.1 ∈ Ts) {v : Value} (hv : fs[j]? = some v) (d : decode cc pc = .ok (.getfield index, 3)) (kk : GG X nL k n ws lv (pc + 3) (v :: st)) : GG X nL k n ws lv pc (.ref a :: st) := by
  obtain ⟨p, l, e, R, s, m, args, below, meth, c, D, A, Q⟩ := X
  obtain ⟨hx, hb, hml, hown, hts, hK, hA, rfl, rfl, rfl⟩ := hC
  subst href
  exact fun H locs ls hP hD hS hl => va_get hx hb hts hin hown hK hP q0 he hc j hj (hts _ hlink) (fun _ h => h) hv d (kk H locs ls hP hD hS hl)
theorem r_put (hC : OK X l D cy rm cc nL Ts own) {a : Nat} {ref C : String} {T : u_T} {N ci index : Nat} (hin : ∀ w ∈ u_ws C T N, w ∈ Ts) {ty0 : Nat → FieldType} (hty : ∀ k, k < N → parseFieldDescriptor (T k).2.2.1 = some (ty0 k)) (hnm : ∀ a, a < N → ∀ b, b < N → a ≠ b → (T a).2.1 ≠ (T b).2.1) (q0 : Nat) {fs : List Value} (he : ws[q0]? = some (a, .inr (ci, fs))) (hc : vwCl[ci]? = some (C, T, N)) (j : Nat) (hj : j < N) (href : (T j).1 = ref) (hlink : Cond.fieldLink own index ref (T j).2.1 (T j).2.2.1 ∈ Ts) (hfin : (T j).2.2.2 = false) {ty : FieldType} {v : Value} (hd : parseFieldDescriptor (T j).2.2.1 = some ty) (hn : narrow ty v = v) (hfit : fits ty v = true) (hl0 : j < fs.length) (d : decode cc pc = .ok (.putfield index, 3)) (ws' : va_W) (hws : ws.set q0 (a, .inr (ci, fs.set j v)) = ws') (kk : GG X nL k n ws' lv (pc + 3) st) : GG X nL k n ws lv pc (v :: .ref a :: st) := by
  obtain ⟨p, l, e, R, s, m, args, below, meth, c, D, A, Q⟩ := X
  obtain ⟨hx, hb, hml, hown, hts, hK, hA, rfl, rfl, rfl⟩ := hC
  subst href hws
  exact fun H locs ls hP hD hS hl => va_put hx hb hts hin ty0 hty hnm hown hK hP hD hS q0 he hc j hj (hts _ hlink) (fun _ h => h) hfin hd hn hfit hl0 d (fun H1 locs1 hP hD hS => kk H1 locs1 ls hP hD hS hl)
theorem r_putF (hC : OK X l D cy rm cc nL Ts own) {a : Nat} {ref C : String} {T : u_T} {N ci index : Nat} (hin : ∀ w ∈ u_ws C T N, w ∈ Ts) {ty0 : Nat → FieldType} (hty : ∀ k, k < N → parseFieldDescriptor (T k).2.2.1 = some (ty0 k)) (hnm : ∀ a, a < N → ∀ b, b < N → a ≠ b → (T a).2.1 ≠ (T b).2.1) (hini : X.2.2.2.2.2.2.2.2.1.name = "<init>") (q0 : Nat) {fs : List Value} (he : ws[q0]? = some (a, .inr (ci, fs))) (hc : vwCl[ci]? = some (C, T, N)) (j : Nat) (hj : j < N) (href : (T j).1 = ref) (hdecl : (T j).1 = own) (hlink : Cond.fieldLink own index ref (T j).2.1 (T j).2.2.1 ∈ Ts) (hfin : (T j).2.2.2 = true) {ty : FieldType} {v : Value} (hd : parseFieldDescriptor (T j).2.2.1 = some ty) (hn : narrow ty v = v) (hfit : fits ty v = true) (hl0 : j < fs.length) (d : decode cc pc = .ok (.putfield index, 3)) (ws' : va_W) (hws : ws.set q0 (a, .inr (ci, fs.set j v)) = ws') (kk : GG X nL k n ws' lv (pc + 3) st) : GG X nL k n ws lv pc (v :: .ref a :: st) := by
  obtain ⟨p, l, e, R, s, m, args, below, meth, c, D, A, Q⟩ := X
  obtain ⟨hx, hb, hml, hown, hts, hK, hA, rfl, rfl, rfl⟩ := hC
  subst href hws
  exact fun H locs ls hP hD hS hl => va_putF hx hb hts hin ty0 hty hnm hown hK hP hD hS q0 he hc j hj (hts _ hlink) (fun _ h => h) hfin hini hdecl hd hn hfit hl0 d (fun H1 locs1 hP hD hS => kk H1 locs1 ls hP hD hS hl)
theorem r_iald (hC : OK X l D cy rm cc nL Ts own) {a : Nat} (q0 : Nat) {N : Nat} {f : Nat → Int32} (ha : ws[q0]? = some (a, .inl (cy 1, N, .inl f))) {i : Int32} (hin : vp_in i N) (d : decode cc pc = .ok (.iaload, 1)) (kk : GG X nL k n ws lv (pc + 1) (.int (f i.toNatClampNeg) :: st)) : GG X nL k n ws lv pc (.int i :: .ref a :: st) := by
  obtain ⟨p, l, e, R, s, m, args, below, meth, c, D, A, Q⟩ := X
  obtain ⟨hx, hb, hml, hown, hts, hK, hA, rfl, rfl, rfl⟩ := hC
  exact fun H locs ls hP hD hS hl => va_iald hx hb hK hP q0 1 ha rfl hin d (kk H locs ls hP hD hS hl)
theorem r_bald (hC : OK X l D cy rm cc nL Ts own) {a : Nat} (q0 : Nat) {N : Nat} {f : Nat → Int32} (ha : ws[q0]? = some (a, .inl (cy 0, N, .inl f))) {i : Int32} (hin : vp_in i N) (d : decode cc pc = .ok (.baload, 1)) (kk : GG X nL k n ws lv (pc + 1) (.int (f i.toNatClampNeg) :: st)) : GG X nL k n ws lv pc (.int i :: .ref a :: st) := by
  obtain ⟨p, l, e, R, s, m, args, below, meth, c, D, A, Q⟩ := X
  obtain ⟨hx, hb, hml, hown, hts, hK, hA, rfl, rfl, rfl⟩ := hC
  exact fun H locs ls hP hD hS hl => va_bald hx hb hK hP q0 0 ha rfl hin d (kk H locs ls hP hD hS hl)
theorem r_zald (hC : OK X l D cy rm cc nL Ts own) {a : Nat} (q0 : Nat) {N : Nat} {f : Nat → Int32} (ha : ws[q0]? = some (a, .inl (cy 2, N, .inl f))) {i : Int32} (hin : vp_in i N) (d : decode cc pc = .ok (.baload, 1)) (kk : GG X nL k n ws lv (pc + 1) (.int (f i.toNatClampNeg) :: st)) : GG X nL k n ws lv pc (.int i :: .ref a :: st) := by
  obtain ⟨p, l, e, R, s, m, args, below, meth, c, D, A, Q⟩ := X
  obtain ⟨hx, hb, hml, hown, hts, hK, hA, rfl, rfl, rfl⟩ := hC
  exact fun H locs ls hP hD hS hl => va_zald hx hb hK hP q0 2 ha rfl hin d (kk H locs ls hP hD hS hl)
theorem r_iast (hC : OK X l D cy rm cc nL Ts own) {a : Nat} (q0 : Nat) {N : Nat} {f : Nat → Int32} (ha : ws[q0]? = some (a, .inl (cy 1, N, .inl f))) {i x : Int32} (hin : vp_in i N) (d : decode cc pc = .ok (.iastore, 1)) (ws' : va_W) (hws : ws.set q0 (a, .inl (cy 1, N, .inl (upd f i.toNatClampNeg x))) = ws') (kk : GG X nL k n ws' lv (pc + 1) st) : GG X nL k n ws lv pc (.int x :: .int i :: .ref a :: st) := by
  obtain ⟨p, l, e, R, s, m, args, below, meth, c, D, A, Q⟩ := X
  obtain ⟨hx, hb, hml, hown, hts, hK, hA, rfl, rfl, rfl⟩ := hC
  subst hws
  exact fun H locs ls hP hD hS hl => va_iast hx hb hK hP hD hS q0 1 ha rfl hin d (fun H1 locs1 hP hD hS => kk H1 locs1 ls hP hD hS hl)
theorem r_bast (hC : OK X l D cy rm cc nL Ts own) {a : Nat} (q0 : Nat) {N : Nat} {f : Nat → Int32} (ha : ws[q0]? = some (a, .inl (cy 0, N, .inl f))) {i x : Int32} (hin : vp_in i N) (d : decode cc pc = .ok (.bastore, 1)) (ws' : va_W) (hws : ws.set q0 (a, .inl (cy 0, N, .inl (upd f i.toNatClampNeg (vp_nar .byte x)))) = ws') (kk : GG X nL k n ws' lv (pc + 1) st) : GG X nL k n ws lv pc (.int x :: .int i :: .ref a :: st) := by
  obtain ⟨p, l, e, R, s, m, args, below, meth, c, D, A, Q⟩ := X
  obtain ⟨hx, hb, hml, hown, hts, hK, hA, rfl, rfl, rfl⟩ := hC
  subst hws
  exact fun H locs ls hP hD hS hl => va_bast hx hb hK hP hD hS q0 0 ha rfl hin d (fun H1 locs1 hP hD hS => kk H1 locs1 ls hP hD hS hl)
theorem r_zast (hC : OK X l D cy rm cc nL Ts own) {a : Nat} (q0 : Nat) {N : Nat} {f : Nat → Int32} (ha : ws[q0]? = some (a, .inl (cy 2, N, .inl f))) {i x : Int32} (hin : vp_in i N) (d : decode cc pc = .ok (.bastore, 1)) (ws' : va_W) (hws : ws.set q0 (a, .inl (cy 2, N, .inl (upd f i.toNatClampNeg (vp_nar .boolean x)))) = ws') (kk : GG X nL k n ws' lv (pc + 1) st) : GG X nL k n ws lv pc (.int x :: .int i :: .ref a :: st) := by
  obtain ⟨p, l, e, R, s, m, args, below, meth, c, D, A, Q⟩ := X
  obtain ⟨hx, hb, hml, hown, hts, hK, hA, rfl, rfl, rfl⟩ := hC
  subst hws
  exact fun H locs ls hP hD hS hl => va_zast hx hb hK hP hD hS q0 2 ha rfl hin d (fun H1 locs1 hP hD hS => kk H1 locs1 ls hP hD hS hl)
theorem r_mmax (hC : OK X l D cy rm cc nL Ts own) {index : Nat} (h1 : Cond.methodLink own index Lib.Math.max.name ∈ Ts) (h2 : Cond.static Lib.Math.max.name ∈ Ts) (h3 : Cond.initialized "java/lang/Math" ∈ Ts) (h4 : Cond.code Lib.Math.max.name Lib.Math.max.code 2 (some .int) ∈ Ts) (hf : 1 ≤ rm.frames) (hlo : (st.map fun v => v.category).sum + 13 ≤ rm.locals) (hk : k ≤ rm.cells) (hs : n ≤ rm.slots) {x y : Int32} (d : decode cc pc = .ok (.invokestatic index, 3)) (kk : GG X nL k n ws lv (pc + 3) (.int (if x < y then y else x) :: st)) : GG X nL k n ws lv pc (.int y :: .int x :: st) := by
  obtain ⟨p, l, e, R, s, m, args, below, meth, c, D, A, Q⟩ := X
  obtain ⟨hx, hb, hml, hown, hts, hK, hA, rfl, rfl, rfl⟩ := hC
  exact fun H locs ls hP hD hS hl => va_mmax hx hb (by rw [hml]; exact hl.1.symm) hown (hts _ h1) (hts _ h2) (hts _ h3) (hts _ h4) hf hlo hk hs d (kk H locs ls hP hD hS hl)
theorem r_mmin (hC : OK X l D cy rm cc nL Ts own) {index : Nat} (h1 : Cond.methodLink own index Lib.Math.min.name ∈ Ts) (h2 : Cond.static Lib.Math.min.name ∈ Ts) (h3 : Cond.initialized "java/lang/Math" ∈ Ts) (h4 : Cond.code Lib.Math.min.name Lib.Math.min.code 2 (some .int) ∈ Ts) (hf : 1 ≤ rm.frames) (hlo : (st.map fun v => v.category).sum + 13 ≤ rm.locals) (hk : k ≤ rm.cells) (hs : n ≤ rm.slots) {x y : Int32} (d : decode cc pc = .ok (.invokestatic index, 3)) (kk : GG X nL k n ws lv (pc + 3) (.int (if y < x then y else x) :: st)) : GG X nL k n ws lv pc (.int y :: .int x :: st) := by
  obtain ⟨p, l, e, R, s, m, args, below, meth, c, D, A, Q⟩ := X
  obtain ⟨hx, hb, hml, hown, hts, hK, hA, rfl, rfl, rfl⟩ := hC
  exact fun H locs ls hP hD hS hl => va_mmin hx hb (by rw [hml]; exact hl.1.symm) hown (hts _ h1) (hts _ h2) (hts _ h3) (hts _ h4) hf hlo hk hs d (kk H locs ls hP hD hS hl)
theorem r_mabs (hC : OK X l D cy rm cc nL Ts own) {index : Nat} (h1 : Cond.methodLink own index Lib.Math.abs.name ∈ Ts) (h2 : Cond.static Lib.Math.abs.name ∈ Ts) (h3 : Cond.initialized "java/lang/Math" ∈ Ts) (h4 : Cond.code Lib.Math.abs.name Lib.Math.abs.code 1 (some .int) ∈ Ts) (hf : 1 ≤ rm.frames) (hlo : (st.map fun v => v.category).sum + 13 ≤ rm.locals) (hk : k ≤ rm.cells) (hs : n ≤ rm.slots) {x : Int32} (d : decode cc pc = .ok (.invokestatic index, 3)) (kk : GG X nL k n ws lv (pc + 3) (.int (if 0 ≤ x then x else 0 - x) :: st)) : GG X nL k n ws lv pc (.int x :: st) := by
  obtain ⟨p, l, e, R, s, m, args, below, meth, c, D, A, Q⟩ := X
  obtain ⟨hx, hb, hml, hown, hts, hK, hA, rfl, rfl, rfl⟩ := hC
  exact fun H locs ls hP hD hS hl => va_mabs hx hb (by rw [hml]; exact hl.1.symm) hown (hts _ h1) (hts _ h2) (hts _ h3) (hts _ h4) hf hlo hk hs d (kk H locs ls hP hD hS hl)
/-- a part in the middle of a world, changed by a callee -/
theorem seg_join {A0 : Nat → Prop} {D : va_G} {cl : List vw_C} {pre wc post w1 : va_W} {H H1 : Heap} (hP : va_P D cl (pre ++ (wc ++ post)) H) (hD : va_D A0 (pre ++ (wc ++ post))) (hk : ∀ q : Nat, q < H.size → ¬ va_A wc H.size q → H1[q]? = H[q]?) (hF : ∀ q, va_A wc H.size q → A0 q) (hP1 : va_P D cl w1 H1) (hD1 : va_D (va_A wc H.size) w1) : va_P D cl (pre ++ (w1 ++ post)) H1 ∧ va_D A0 (pre ++ (w1 ++ post)) := by
  have ipre : ∀ (k : Nat) (q : Nat × va_E), pre[k]? = some q → (pre ++ (wc ++ post))[k]? = some q := fun k q h => by
    rw [List.getElem?_append_left (List.getElem?_eq_some_iff.mp h).1]; exact h
  have iwc : ∀ (k : Nat) (q : Nat × va_E), wc[k]? = some q → (pre ++ (wc ++ post))[pre.length + k]? = some q := fun k q h => by
    rw [List.getElem?_append_right (by omega), show pre.length + k - pre.length = k by omega, List.getElem?_append_left (List.getElem?_eq_some_iff.mp h).1]; exact h
  have ipost : ∀ (k : Nat) (q : Nat × va_E), post[k]? = some q → (pre ++ (wc ++ post))[pre.length + (wc.length + k)]? = some q := fun k q h => by
    rw [List.getElem?_append_right (by omega), show pre.length + (wc.length + k) - pre.length = wc.length + k by omega, List.getElem?_append_right (by omega), show wc.length + k - wc.length = k by omega]; exact h
  have ap : ∀ (i : Nat) (q : Nat × va_E), (pre ++ (wc ++ post))[i]? = some q → (i < pre.length ∨ pre.length + wc.length ≤ i) → q.1 < H.size ∧ ¬ va_A wc H.size q.1 := by
    intro i q h hi
    have hl := (hP i q h).lt
    refine ⟨hl, fun hh => ?_⟩
    rcases hh with ⟨k2, e, h2⟩ | h2
    · have h3 := hD.1 _ _ _ _ h (iwc k2 _ h2) rfl
      have h4 := (List.getElem?_eq_some_iff.mp h2).1
      omega
    · omega
  have lt : ∀ {w : va_W} {k : Nat} {q : Nat × va_E}, w[k]? = some q → k < w.length := fun h => (List.getElem?_eq_some_iff.mp h).1
  have Ppre : va_P D cl pre H1 := fun k q h => (hP k q (ipre k q h)).kept (by
    obtain ⟨a, b⟩ := ap k q (ipre k q h) (Or.inl (lt h)); exact hk q.1 a b)
  have Ppost : va_P D cl post H1 := fun k q h => (hP _ q (ipost k q h)).kept (by
    obtain ⟨a, b⟩ := ap _ q (ipost k q h) (Or.inr (by omega)); exact hk q.1 a b)
  have Dpre : va_D A0 pre := ⟨fun i j x y hx hy e => hD.1 i j x y (ipre i x hx) (ipre j y hy) e, fun k q h => hD.2 k q (ipre k q h)⟩
  have Dpost : va_D A0 post := ⟨fun i j x y hx hy e => by have := hD.1 _ _ x y (ipost i x hx) (ipost j y hy) e; omega, fun k q h => hD.2 _ q (ipost k q h)⟩
  have D1 : va_D A0 w1 := hD1.weaken (fun k q _ h => hF q.1 h)
  refine ⟨va_P.app Ppre (va_P.app hP1 Ppost), va_D.app Dpre (va_D.app D1 Dpost (fun i j x y hx hy e => ?_)) (fun i j x y hx hy e => ?_)⟩
  · exact (ap _ y (ipost j y hy) (Or.inr (by omega))).2 (by rw [← e]; exact hD1.2 i x hx)
  · rcases Nat.lt_or_ge j w1.length with hj | hj
    · rw [List.getElem?_append_left hj] at hy
      exact (ap _ x (ipre i x hx) (Or.inl (lt hx))).2 (by rw [e]; exact hD1.2 j y hy)
    · rw [List.getElem?_append_right hj] at hy
      have h3 := hD.1 _ _ x y (ipre i x hx) (ipost _ y hy) e
      have := lt hx
      omega
theorem seg_free {A0 : Nat → Prop} {pre wc post : va_W} {H0 H : Heap} {locs : List Loc} (hD : va_D A0 (pre ++ (wc ++ post))) (hS : va_S A0 H0 H locs) (hA : ∀ q, H0.size ≤ q → A0 q) : ∀ q, va_A wc H.size q → A0 q := by
  intro q h
  rcases h with ⟨k, e, h⟩ | h
  · exact hD.2 (pre.length + k) (q, e) (by
      rw [List.getElem?_append_right (by omega), show pre.length + k - pre.length = k by omega, List.getElem?_append_left (List.getElem?_eq_some_iff.mp h).1]; exact h)
  · exact hA q (Nat.le_trans hS.1 h)
theorem seg_mid {D : va_G} {cl : List vw_C} {pre wc post : va_W} {H : Heap} (hP : va_P D cl (pre ++ (wc ++ post)) H) : va_P D cl wc H := fun k q h => hP (pre.length + k) q (by
  rw [List.getElem?_append_right (by omega), show pre.length + k - pre.length = k by omega, List.getElem?_append_left (List.getElem?_eq_some_iff.mp h).1]; exact h)
theorem seg_midD {A : Nat → Prop} {pre wc post : va_W} (hD : va_D A (pre ++ (wc ++ post))) : va_D (fun _ => True) wc := by
  have iwc : ∀ (k : Nat) (q : Nat × va_E), wc[k]? = some q → (pre ++ (wc ++ post))[pre.length + k]? = some q := fun k q h => by
    rw [List.getElem?_append_right (by omega), show pre.length + k - pre.length = k by omega, List.getElem?_append_left (List.getElem?_eq_some_iff.mp h).1]; exact h
  exact ⟨fun i j x y hx hy e => by have := hD.1 _ _ x y (iwc i x hx) (iwc j y hy) e; omega, fun _ _ _ => trivial⟩
/-! ===== contracts ===== -/
def PW (D : va_G) (cy : Nat → ClassId) (w : va_W) (sz : Nat) (U : State) : Prop := U.heap.size = sz ∧ va_P D vwCl w U.heap ∧ va_K D vwCl (ty3 cy) U ∧ va_D (fun _ => True) w
def QW (D : va_G) (cy : Nat → ClassId) (w w1 : va_W) (sz : Nat) (_ : Unit) (t : State) : Prop := va_P D vwCl w1 t.heap ∧ va_K D vwCl (ty3 cy) t ∧ va_D (va_A w sz) w1
def CI (l : Launch) (D : va_G) (cy : Nat → ClassId) (y : MethodName) (ws : List Cond) (rm : Room) (av : List Value) (w : va_W) (r : Int32) (w1 : va_W) : Prop := ∀ sz, Met l y ws rm (va_Pc av (PW D cy w sz)) (va_Qi (fun r2 (_ : Unit) => r2 = r) (QW D cy w w1 sz) (va_A w sz)) 0 0 (va_A w sz)
def CL (l : Launch) (D : va_G) (cy : Nat → ClassId) (y : MethodName) (ws : List Cond) (rm : Room) (av : List Value) (w : va_W) (r : Int64) (w1 : va_W) : Prop := ∀ sz, Met l y ws rm (va_Pc av (PW D cy w sz)) (va_Ql (fun r2 (_ : Unit) => r2 = r) (QW D cy w w1 sz) (va_A w sz)) 0 0 (va_A w sz)
def CV (l : Launch) (D : va_G) (cy : Nat → ClassId) (y : MethodName) (ws : List Cond) (rm : Room) (av : List Value) (w w1 : va_W) : Prop := ∀ sz, Met l y ws rm (va_Pc av (PW D cy w sz)) (va_Qv (fun (_ : Unit) => True) (QW D cy w w1 sz) (va_A w sz)) 0 0 (va_A w sz)
theorem PW_blind {D : va_G} {cy : Nat → ClassId} {w : va_W} {sz : Nat} {av : List Value} : FrameBlind (va_Pc av (PW D cy w sz)) := fun a U g mk q => by
  obtain ⟨q0, q1, qP, qK, qD⟩ := q
  exact ⟨q0, q1, qP, va_K.moved (u := U) (U := U.calling g mk a) (Vm.Alike.refl U.vm) qK, qD⟩
theorem r_vi (hC : OK X l D cy rm cc nL Ts own) {y : MethodName} {ws1 ws2 : List Cond} {rm1 : Room} {b : Nat} {As : List Value} {wc w1 : va_W} {r : Int32} {bytes : ByteArray} {maxL index : Nat} {ret : Option FieldType} {C : String} {T : u_T} {N ci : Nat} {fs : List Value} (hM : CI l D cy y ws1 rm1 (.ref b :: As) wc r w1) (hG : GoodIn Ts (wsV own index C y ws1)) (hw : ws1 = Cond.code y bytes maxL ret :: ws2) (hz : rm1.cells = 0 ∧ rm1.slots = 0) (hd : y.cls = C ∧ y.cls ≠ "java/lang/invoke/MethodHandle" ∧ y.cls ≠ "java/lang/invoke/VarHandle" ∧ (parseMethodDescriptor y.desc).map (fun d => d.parameters.length) = some As.length) (hR : rm1.frames + 1 ≤ rm.frames ∧ 8 + (maxL + 11) + rm1.locals ≤ rm.locals) (hk : k ≤ rm.cells ∧ n ≤ rm.slots) (q0 : Nat) (hrc : wc[q0]? = some (b, .inr (ci, fs))) (hcl : vwCl[ci]? = some (C, T, N)) (pre post : va_W) (hws : ws = pre ++ (wc ++ post)) (stk : List Value) (hst : stk = As.reverse ++ .ref b :: st) (hroom : (st.map fun v => v.category).sum ≤ 8) (d : decode cc pc = .ok (.invokevirtual index, 3)) (ws' : va_W) (hws' : pre ++ (w1 ++ post) = ws') (kk : GG X nL k n ws' lv (pc + 3) (.int r :: st)) : GG X nL k n ws lv pc stk := by
  obtain ⟨p, l, e, R, s, m, args, below, meth, c, D, A, Q⟩ := X
  obtain ⟨hx, hb, hml, hown, hts, hK, hA, rfl, rfl, rfl⟩ := hC
  subst hws hws'
  intro H locs ls hP hD hS hl
  have hPc := seg_mid hP
  have hDc := seg_midD hD
  have hFc := seg_free hD hS hA
  refine va_calli (va_runV (As := As) (rest := st) ⟨hx, hb, hml, hown, hts⟩ (hM H.size) (cwV As.length hts hG hw hz.1 hz.2 hd hR) ⟨PW_blind, va_recv hK hPc hcl hrc, fun U hU hW => ⟨rfl, by rw [hU], by rw [hU]; exact hPc, va_K.moved hW.alike hK, hDc⟩⟩ rfl rfl hl.1 hst (lv_room (m := m) (pc := pc) (ls := ls) (rest := stk) hroom) d hk) hS (fun q _ h => hFc q h) hFc (fun r1 u t H1 locs1 ht hvm hw hB hz1 hk1 hS1 => ?_)
  obtain ⟨hP1, hK1, hD1⟩ := hB
  rw [ht] at hP1
  subst hw
  obtain ⟨hP2, hD2⟩ := seg_join hP hD hk1 hFc hP1 hD1
  exact kk H1 locs1 ls hP2 hD2 hS1 hl
theorem r_si (hC : OK X l D cy rm cc nL Ts own) {y : MethodName} {ws1 ws2 : List Cond} {rm1 : Room} {As : List Value} {r : Int32} {bytes : ByteArray} {maxL index : Nat} {ret : Option FieldType} (hM : CI l D cy y ws1 rm1 As [] r []) (hG : GoodIn Ts (va_wsS own index y ws1)) (hw : ws1 = Cond.code y bytes maxL ret :: ws2) (hz : rm1.cells = 0 ∧ rm1.slots = 0) (hd : y.cls ≠ "java/lang/invoke/MethodHandle" ∧ y.cls ≠ "java/lang/invoke/VarHandle" ∧ (parseMethodDescriptor y.desc).map (fun d => d.parameters.length) = some As.length) (hR : rm1.frames + 1 ≤ rm.frames ∧ 8 + (maxL + 11) + rm1.locals ≤ rm.locals) (hk : k ≤ rm.cells ∧ n ≤ rm.slots) (stk : List Value) (hst : stk = As.reverse ++ st) (hroom : (st.map fun v => v.category).sum ≤ 8) (d : decode cc pc = .ok (.invokestatic index, 3)) (kk : GG X nL k n ws lv (pc + 3) (.int r :: st)) : GG X nL k n ws lv pc stk := by
  obtain ⟨p, l, e, R, s, m, args, below, meth, c, D, A, Q⟩ := X
  obtain ⟨hx, hb, hml, hown, hts, hK, hA, rfl, rfl, rfl⟩ := hC
  intro H locs ls hP hD hS hl
  have hFc : ∀ q, va_A [] H.size q → A q := fun q h => by
    rcases h with ⟨k, e, h⟩ | h
    · simp at h
    · exact hA q (Nat.le_trans hS.1 h)
  refine va_calli (va_runS (As := As) (rest := st) ⟨hx, hb, hml, hown, hts⟩ (hM H.size) (va_cwS As.length hts hG hw hz.1 hz.2 hd hR) ⟨PW_blind, fun U hU hW => ⟨rfl, by rw [hU], fun k q h => by simp at h, va_K.moved hW.alike hK, ⟨fun i j p q h => by simp at h, fun k q h => by simp at h⟩⟩⟩ rfl rfl hl.1 hst (lv_room (m := m) (pc := pc) (ls := ls) (rest := stk) hroom) d hk) hS (fun q _ h => hFc q h) hFc (fun r1 u t H1 locs1 ht hvm hw hB hz1 hk1 hS1 => ?_)
  subst hw
  refine kk H1 locs1 ls (hP.kept (fun k q h => hk1 q.1 (hP k q h).lt (fun hh => ?_))) hD hS1 hl
  rcases hh with ⟨k2, e, h2⟩ | h2
  · simp at h2
  · exact absurd (hP k q h).lt (Nat.not_lt.mpr h2)
theorem r_vl (hC : OK X l D cy rm cc nL Ts own) {y : MethodName} {ws1 ws2 : List Cond} {rm1 : Room} {b : Nat} {As : List Value} {wc w1 : va_W} {r : Int64} {bytes : ByteArray} {maxL index : Nat} {ret : Option FieldType} {C : String} {T : u_T} {N ci : Nat} {fs : List Value} (hM : CL l D cy y ws1 rm1 (.ref b :: As) wc r w1) (hG : GoodIn Ts (wsV own index C y ws1)) (hw : ws1 = Cond.code y bytes maxL ret :: ws2) (hz : rm1.cells = 0 ∧ rm1.slots = 0) (hd : y.cls = C ∧ y.cls ≠ "java/lang/invoke/MethodHandle" ∧ y.cls ≠ "java/lang/invoke/VarHandle" ∧ (parseMethodDescriptor y.desc).map (fun d => d.parameters.length) = some As.length) (hR : rm1.frames + 1 ≤ rm.frames ∧ 8 + (maxL + 11) + rm1.locals ≤ rm.locals) (hk : k ≤ rm.cells ∧ n ≤ rm.slots) (q0 : Nat) (hrc : wc[q0]? = some (b, .inr (ci, fs))) (hcl : vwCl[ci]? = some (C, T, N)) (pre post : va_W) (hws : ws = pre ++ (wc ++ post)) (stk : List Value) (hst : stk = As.reverse ++ .ref b :: st) (hroom : (st.map fun v => v.category).sum ≤ 8) (d : decode cc pc = .ok (.invokevirtual index, 3)) (ws' : va_W) (hws' : pre ++ (w1 ++ post) = ws') (kk : GG X nL k n ws' lv (pc + 3) (.long r :: st)) : GG X nL k n ws lv pc stk := by
  obtain ⟨p, l, e, R, s, m, args, below, meth, c, D, A, Q⟩ := X
  obtain ⟨hx, hb, hml, hown, hts, hK, hA, rfl, rfl, rfl⟩ := hC
  subst hws hws'
  intro H locs ls hP hD hS hl
  have hPc := seg_mid hP
  have hDc := seg_midD hD
  have hFc := seg_free hD hS hA
  refine va_calll (va_runV (As := As) (rest := st) ⟨hx, hb, hml, hown, hts⟩ (hM H.size) (cwV As.length hts hG hw hz.1 hz.2 hd hR) ⟨PW_blind, va_recv hK hPc hcl hrc, fun U hU hW => ⟨rfl, by rw [hU], by rw [hU]; exact hPc, va_K.moved hW.alike hK, hDc⟩⟩ rfl rfl hl.1 hst (lv_room (m := m) (pc := pc) (ls := ls) (rest := stk) hroom) d hk) hS (fun q _ h => hFc q h) hFc (fun r1 u t H1 locs1 ht hvm hw hB hz1 hk1 hS1 => ?_)
  obtain ⟨hP1, hK1, hD1⟩ := hB
  rw [ht] at hP1
  subst hw
  obtain ⟨hP2, hD2⟩ := seg_join hP hD hk1 hFc hP1 hD1
  exact kk H1 locs1 ls hP2 hD2 hS1 hl
theorem r_sl (hC : OK X l D cy rm cc nL Ts own) {y : MethodName} {ws1 ws2 : List Cond} {rm1 : Room} {As : List Value} {r : Int64} {bytes : ByteArray} {maxL index : Nat} {ret : Option FieldType} (hM : CL l D cy y ws1 rm1 As [] r []) (hG : GoodIn Ts (va_wsS own index y ws1)) (hw : ws1 = Cond.code y bytes maxL ret :: ws2) (hz : rm1.cells = 0 ∧ rm1.slots = 0) (hd : y.cls ≠ "java/lang/invoke/MethodHandle" ∧ y.cls ≠ "java/lang/invoke/VarHandle" ∧ (parseMethodDescriptor y.desc).map (fun d => d.parameters.length) = some As.length) (hR : rm1.frames + 1 ≤ rm.frames ∧ 8 + (maxL + 11) + rm1.locals ≤ rm.locals) (hk : k ≤ rm.cells ∧ n ≤ rm.slots) (stk : List Value) (hst : stk = As.reverse ++ st) (hroom : (st.map fun v => v.category).sum ≤ 8) (d : decode cc pc = .ok (.invokestatic index, 3)) (kk : GG X nL k n ws lv (pc + 3) (.long r :: st)) : GG X nL k n ws lv pc stk := by
  obtain ⟨p, l, e, R, s, m, args, below, meth, c, D, A, Q⟩ := X
  obtain ⟨hx, hb, hml, hown, hts, hK, hA, rfl, rfl, rfl⟩ := hC
  intro H locs ls hP hD hS hl
  have hFc : ∀ q, va_A [] H.size q → A q := fun q h => by
    rcases h with ⟨k, e, h⟩ | h
    · simp at h
    · exact hA q (Nat.le_trans hS.1 h)
  refine va_calll (va_runS (As := As) (rest := st) ⟨hx, hb, hml, hown, hts⟩ (hM H.size) (va_cwS As.length hts hG hw hz.1 hz.2 hd hR) ⟨PW_blind, fun U hU hW => ⟨rfl, by rw [hU], fun k q h => by simp at h, va_K.moved hW.alike hK, ⟨fun i j p q h => by simp at h, fun k q h => by simp at h⟩⟩⟩ rfl rfl hl.1 hst (lv_room (m := m) (pc := pc) (ls := ls) (rest := stk) hroom) d hk) hS (fun q _ h => hFc q h) hFc (fun r1 u t H1 locs1 ht hvm hw hB hz1 hk1 hS1 => ?_)
  subst hw
  refine kk H1 locs1 ls (hP.kept (fun k q h => hk1 q.1 (hP k q h).lt (fun hh => ?_))) hD hS1 hl
  rcases hh with ⟨k2, e, h2⟩ | h2
  · simp at h2
  · exact absurd (hP k q h).lt (Nat.not_lt.mpr h2)
theorem r_vv (hC : OK X l D cy rm cc nL Ts own) {y : MethodName} {ws1 ws2 : List Cond} {rm1 : Room} {b : Nat} {As : List Value} {wc w1 : va_W} {bytes : ByteArray} {maxL index : Nat} {ret : Option FieldType} {C : String} {T : u_T} {N ci : Nat} {fs : List Value} (hM : CV l D cy y ws1 rm1 (.ref b :: As) wc w1) (hG : GoodIn Ts (wsV own index C y ws1)) (hw : ws1 = Cond.code y bytes maxL ret :: ws2) (hz : rm1.cells = 0 ∧ rm1.slots = 0) (hd : y.cls = C ∧ y.cls ≠ "java/lang/invoke/MethodHandle" ∧ y.cls ≠ "java/lang/invoke/VarHandle" ∧ (parseMethodDescriptor y.desc).map (fun d => d.parameters.length) = some As.length) (hR : rm1.frames + 1 ≤ rm.frames ∧ 8 + (maxL + 11) + rm1.locals ≤ rm.locals) (hk : k ≤ rm.cells ∧ n ≤ rm.slots) (q0 : Nat) (hrc : wc[q0]? = some (b, .inr (ci, fs))) (hcl : vwCl[ci]? = some (C, T, N)) (pre post : va_W) (hws : ws = pre ++ (wc ++ post)) (stk : List Value) (hst : stk = As.reverse ++ .ref b :: st) (hroom : (st.map fun v => v.category).sum ≤ 8) (d : decode cc pc = .ok (.invokevirtual index, 3)) (ws' : va_W) (hws' : pre ++ (w1 ++ post) = ws') (kk : GG X nL k n ws' lv (pc + 3) (st)) : GG X nL k n ws lv pc stk := by
  obtain ⟨p, l, e, R, s, m, args, below, meth, c, D, A, Q⟩ := X
  obtain ⟨hx, hb, hml, hown, hts, hK, hA, rfl, rfl, rfl⟩ := hC
  subst hws hws'
  intro H locs ls hP hD hS hl
  have hPc := seg_mid hP
  have hDc := seg_midD hD
  have hFc := seg_free hD hS hA
  refine va_callv (va_runV (As := As) (rest := st) ⟨hx, hb, hml, hown, hts⟩ (hM H.size) (cwV As.length hts hG hw hz.1 hz.2 hd hR) ⟨PW_blind, va_recv hK hPc hcl hrc, fun U hU hW => ⟨rfl, by rw [hU], by rw [hU]; exact hPc, va_K.moved hW.alike hK, hDc⟩⟩ rfl rfl hl.1 hst (lv_room (m := m) (pc := pc) (ls := ls) (rest := stk) hroom) d hk) hS (fun q _ h => hFc q h) hFc (fun u t H1 locs1 ht hvm hw hB hz1 hk1 hS1 => ?_)
  obtain ⟨hP1, hK1, hD1⟩ := hB
  rw [ht] at hP1
  obtain ⟨hP2, hD2⟩ := seg_join hP hD hk1 hFc hP1 hD1
  exact kk H1 locs1 ls hP2 hD2 hS1 hl
/-- a context with this: at a return with the answer and the world that the contract names, all is done -/
def RI (X : CX) (cc : ByteArray) (ty : FieldType) (r : Int32) (w1 : va_W) : Prop := ∀ nL lv pc, decode cc pc = .ok (.ireturn, 1) → narrow ty (.int r) = .int r → GG X nL 0 0 w1 lv pc [.int r]
def RL' (X : CX) (cc : ByteArray) (r : Int64) (w1 : va_W) : Prop := ∀ nL lv pc, decode cc pc = .ok (.lreturn, 1) → GG X nL 0 0 w1 lv pc [.long r]
def RV (X : CX) (cc : ByteArray) (w1 : va_W) : Prop := ∀ nL lv pc, decode cc pc = .ok (.return_, 1) → GG X nL 0 0 w1 lv pc []
theorem nb_0 : narrow .boolean (.int 0) = .int 0 := rfl
theorem nb_1 : narrow .boolean (.int 1) = .int 1 := rfl
theorem nb_of {v : Int32} (h : v = 0 ∨ v = 1) : narrow .boolean (.int v) = .int v := by
  rcases h with rfl | rfl
  · exact nb_0
  · exact nb_1
end GGR
theorem c_of_i {l : Launch} {D : va_G} {cy : Nat → ClassId} {y : MethodName} {ws ws' : List Cond} {rm : Room} {cc : ByteArray} {maxL : Nat} {ty : FieldType} {r : Int32} {av : List Value} {w w1 : va_W} {own : String} (hy : plainName y.cls = true) (hw : ws = Cond.code y cc maxL (some ty) :: ws') (ho : y.cls = own) (hlen : (lg_sl av).length ≤ maxL) (h : ∀ X, OK X l D cy rm cc maxL ws own → RI X cc ty r w1 → GG X maxL 0 0 w (lv_args 0 av) 0 []) : CI l D cy y ws rm av w r w1 := by
  intro sz
  subst ho
  refine Met.ofW (cc := cc) (maxL := maxL) (ret := (some ty)) hy hw ?_
  intro p e s m args below meth c s₁ B hml hv
  obtain ⟨rfl, hsz, hP0, hK0, hD0⟩ := hv
  have hx := B.exec
  have hb := B.bytes
  have hr := B.returns
  have hts := atoms_spec (ws := ws) B.pre
  have hown : s.vm.findClass y.cls = some m.cls := findClass_of_methodNamed B.named
  have hlocks := B.notSynchronized
  subst hsz
  have hDs := hD0.self (sz := s.heap.size)
  have hl := lv_entry av (n := maxL) hlen
  rw [lg_entry_eq]
  refine h (p, l, e, rm, s, m, av.toArray, below, meth, c, D, va_A w s.heap.size, _) ⟨hx, hb, hml, hown, hts, hK0, fun q hq => Or.inr hq, rfl, rfl, rfl⟩ (fun nL2 lv pc d hnar => ?_) s.heap [] _ hP0 hDs va_S.rf hl
  intro H locs ls hP hD hS hl2
  exact W.zret hx hb hr hnar (fun t ht hW => ⟨⟨r, (), rfl, rfl, by rw [ht]; exact hP, va_K.moved hW.alike hK0, hD⟩, hS.F ht⟩) hS.2.2 d
theorem c_of_l {l : Launch} {D : va_G} {cy : Nat → ClassId} {y : MethodName} {ws ws' : List Cond} {rm : Room} {cc : ByteArray} {maxL : Nat} {r : Int64} {av : List Value} {w w1 : va_W} {own : String} (hy : plainName y.cls = true) (hw : ws = Cond.code y cc maxL (some .long) :: ws') (ho : y.cls = own) (hlen : (lg_sl av).length ≤ maxL) (h : ∀ X, OK X l D cy rm cc maxL ws own → RL' X cc r w1 → GG X maxL 0 0 w (lv_args 0 av) 0 []) : CL l D cy y ws rm av w r w1 := by
  intro sz
  subst ho
  refine Met.ofW (cc := cc) (maxL := maxL) (ret := (some .long)) hy hw ?_
  intro p e s m args below meth c s₁ B hml hv
  obtain ⟨rfl, hsz, hP0, hK0, hD0⟩ := hv
  have hx := B.exec
  have hb := B.bytes
  have hr := B.returns
  have hts := atoms_spec (ws := ws) B.pre
  have hown : s.vm.findClass y.cls = some m.cls := findClass_of_methodNamed B.named
  have hlocks := B.notSynchronized
  subst hsz
  have hDs := hD0.self (sz := s.heap.size)
  have hl := lv_entry av (n := maxL) hlen
  rw [lg_entry_eq]
  refine h (p, l, e, rm, s, m, av.toArray, below, meth, c, D, va_A w s.heap.size, _) ⟨hx, hb, hml, hown, hts, hK0, fun q hq => Or.inr hq, rfl, rfl, rfl⟩ (fun nL2 lv pc d => ?_) s.heap [] _ hP0 hDs va_S.rf hl
  intro H locs ls hP hD hS hl2
  exact W.lret hx hb hr (fun t ht hW => ⟨⟨r, (), rfl, rfl, by rw [ht]; exact hP, va_K.moved hW.alike hK0, hD⟩, hS.F ht⟩) hS.2.2 d
theorem c_of_v {l : Launch} {D : va_G} {cy : Nat → ClassId} {y : MethodName} {ws ws' : List Cond} {rm : Room} {cc : ByteArray} {maxL : Nat} {av : List Value} {w w1 : va_W} {own : String} (hy : plainName y.cls = true) (hw : ws = Cond.code y cc maxL none :: ws') (ho : y.cls = own) (hlen : (lg_sl av).length ≤ maxL) (h : ∀ X, OK X l D cy rm cc maxL ws own → RV X cc w1 → GG X maxL 0 0 w (lv_args 0 av) 0 []) : CV l D cy y ws rm av w w1 := by
  intro sz
  subst ho
  refine Met.ofW (cc := cc) (maxL := maxL) (ret := none) hy hw ?_
  intro p e s m args below meth c s₁ B hml hv
  obtain ⟨rfl, hsz, hP0, hK0, hD0⟩ := hv
  have hx := B.exec
  have hb := B.bytes
  have hr := B.returns
  have hts := atoms_spec (ws := ws) B.pre
  have hown : s.vm.findClass y.cls = some m.cls := findClass_of_methodNamed B.named
  have hlocks := B.notSynchronized
  subst hsz
  have hDs := hD0.self (sz := s.heap.size)
  have hl := lv_entry av (n := maxL) hlen
  rw [lg_entry_eq]
  refine h (p, l, e, rm, s, m, av.toArray, below, meth, c, D, va_A w s.heap.size, _) ⟨hx, hb, hml, hown, hts, hK0, fun q hq => Or.inr hq, rfl, rfl, rfl⟩ (fun nL2 lv pc d => ?_) s.heap [] _ hP0 hDs va_S.rf hl
  intro H locs ls hP hD hS hl2
  exact W.vret hx hb hr (fun t ht hW => ⟨⟨(), rfl, trivial, by rw [ht]; exact hP, va_K.moved hW.alike hK0, hD⟩, hS.F ht⟩) hS.2.2 d
theorem oa0 {R : Type} {K k : R} {r : R} (e : K = k) (h : K = r) : k = r := by rw [← e]; exact h
theorem oa1 {A1 R : Type} {K k : A1 → R} {a1 : A1} {r : R} (e : K = k) (h : K a1 = r) : k a1 = r := by rw [← e]; exact h
theorem oa2 {A1 A2 R : Type} {K k : A1 → A2 → R} {a1 : A1} {a2 : A2} {r : R} (e : K = k) (h : K a1 a2 = r) : k a1 a2 = r := by rw [← e]; exact h
theorem oa3 {A1 A2 A3 R : Type} {K k : A1 → A2 → A3 → R} {a1 : A1} {a2 : A2} {a3 : A3} {r : R} (e : K = k) (h : K a1 a2 a3 = r) : k a1 a2 a3 = r := by rw [← e]; exact h
theorem oa4 {A1 A2 A3 A4 R : Type} {K k : A1 → A2 → A3 → A4 → R} {a1 : A1} {a2 : A2} {a3 : A3} {a4 : A4} {r : R} (e : K = k) (h : K a1 a2 a3 a4 = r) : k a1 a2 a3 a4 = r := by rw [← e]; exact h
theorem oa5 {A1 A2 A3 A4 A5 R : Type} {K k : A1 → A2 → A3 → A4 → A5 → R} {a1 : A1} {a2 : A2} {a3 : A3} {a4 : A4} {a5 : A5} {r : R} (e : K = k) (h : K a1 a2 a3 a4 a5 = r) : k a1 a2 a3 a4 a5 = r := by rw [← e]; exact h
theorem oa6 {A1 A2 A3 A4 A5 A6 R : Type} {K k : A1 → A2 → A3 → A4 → A5 → A6 → R} {a1 : A1} {a2 : A2} {a3 : A3} {a4 : A4} {a5 : A5} {a6 : A6} {r : R} (e : K = k) (h : K a1 a2 a3 a4 a5 a6 = r) : k a1 a2 a3 a4 a5 a6 = r := by rw [← e]; exact h
theorem oa7 {A1 A2 A3 A4 A5 A6 A7 R : Type} {K k : A1 → A2 → A3 → A4 → A5 → A6 → A7 → R} {a1 : A1} {a2 : A2} {a3 : A3} {a4 : A4} {a5 : A5} {a6 : A6} {a7 : A7} {r : R} (e : K = k) (h : K a1 a2 a3 a4 a5 a6 a7 = r) : k a1 a2 a3 a4 a5 a6 a7 = r := by rw [← e]; exact h
theorem oa8 {A1 A2 A3 A4 A5 A6 A7 A8 R : Type} {K k : A1 → A2 → A3 → A4 → A5 → A6 → A7 → A8 → R} {a1 : A1} {a2 : A2} {a3 : A3} {a4 : A4} {a5 : A5} {a6 : A6} {a7 : A7} {a8 : A8} {r : R} (e : K = k) (h : K a1 a2 a3 a4 a5 a6 a7 a8 = r) : k a1 a2 a3 a4 a5 a6 a7 a8 = r := by rw [← e]; exact h
theorem oa9 {A1 A2 A3 A4 A5 A6 A7 A8 A9 R : Type} {K k : A1 → A2 → A3 → A4 → A5 → A6 → A7 → A8 → A9 → R} {a1 : A1} {a2 : A2} {a3 : A3} {a4 : A4} {a5 : A5} {a6 : A6} {a7 : A7} {a8 : A8} {a9 : A9} {r : R} (e : K = k) (h : K a1 a2 a3 a4 a5 a6 a7 a8 a9 = r) : k a1 a2 a3 a4 a5 a6 a7 a8 a9 = r := by rw [← e]; exact h
theorem oa10 {A1 A2 A3 A4 A5 A6 A7 A8 A9 A10 R : Type} {K k : A1 → A2 → A3 → A4 → A5 → A6 → A7 → A8 → A9 → A10 → R} {a1 : A1} {a2 : A2} {a3 : A3} {a4 : A4} {a5 : A5} {a6 : A6} {a7 : A7} {a8 : A8} {a9 : A9} {a10 : A10} {r : R} (e : K = k) (h : K a1 a2 a3 a4 a5 a6 a7 a8 a9 a10 = r) : k a1 a2 a3 a4 a5 a6 a7 a8 a9 a10 = r := by rw [← e]; exact h
theorem oa11 {A1 A2 A3 A4 A5 A6 A7 A8 A9 A10 A11 R : Type} {K k : A1 → A2 → A3 → A4 → A5 → A6 → A7 → A8 → A9 → A10 → A11 → R} {a1 : A1} {a2 : A2} {a3 : A3} {a4 : A4} {a5 : A5} {a6 : A6} {a7 : A7} {a8 : A8} {a9 : A9} {a10 : A10} {a11 : A11} {r : R} (e : K = k) (h : K a1 a2 a3 a4 a5 a6 a7 a8 a9 a10 a11 = r) : k a1 a2 a3 a4 a5 a6 a7 a8 a9 a10 a11 = r := by rw [← e]; exact h
theorem oa12 {A1 A2 A3 A4 A5 A6 A7 A8 A9 A10 A11 A12 R : Type} {K k : A1 → A2 → A3 → A4 → A5 → A6 → A7 → A8 → A9 → A10 → A11 → A12 → R} {a1 : A1} {a2 : A2} {a3 : A3} {a4 : A4} {a5 : A5} {a6 : A6} {a7 : A7} {a8 : A8} {a9 : A9} {a10 : A10} {a11 : A11} {a12 : A12} {r : R} (e : K = k) (h : K a1 a2 a3 a4 a5 a6 a7 a8 a9 a10 a11 a12 = r) : k a1 a2 a3 a4 a5 a6 a7 a8 a9 a10 a11 a12 = r := by rw [← e]; exact h
theorem oa13 {A1 A2 A3 A4 A5 A6 A7 A8 A9 A10 A11 A12 A13 R : Type} {K k : A1 → A2 → A3 → A4 → A5 → A6 → A7 → A8 → A9 → A10 → A11 → A12 → A13 → R} {a1 : A1} {a2 : A2} {a3 : A3} {a4 : A4} {a5 : A5} {a6 : A6} {a7 : A7} {a8 : A8} {a9 : A9} {a10 : A10} {a11 : A11} {a12 : A12} {a13 : A13} {r : R} (e : K = k) (h : K a1 a2 a3 a4 a5 a6 a7 a8 a9 a10 a11 a12 a13 = r) : k a1 a2 a3 a4 a5 a6 a7 a8 a9 a10 a11 a12 a13 = r := by rw [← e]; exact h
theorem oa14 {A1 A2 A3 A4 A5 A6 A7 A8 A9 A10 A11 A12 A13 A14 R : Type} {K k : A1 → A2 → A3 → A4 → A5 → A6 → A7 → A8 → A9 → A10 → A11 → A12 → A13 → A14 → R} {a1 : A1} {a2 : A2} {a3 : A3} {a4 : A4} {a5 : A5} {a6 : A6} {a7 : A7} {a8 : A8} {a9 : A9} {a10 : A10} {a11 : A11} {a12 : A12} {a13 : A13} {a14 : A14} {r : R} (e : K = k) (h : K a1 a2 a3 a4 a5 a6 a7 a8 a9 a10 a11 a12 a13 a14 = r) : k a1 a2 a3 a4 a5 a6 a7 a8 a9 a10 a11 a12 a13 a14 = r := by rw [← e]; exact h
theorem oa15 {A1 A2 A3 A4 A5 A6 A7 A8 A9 A10 A11 A12 A13 A14 A15 R : Type} {K k : A1 → A2 → A3 → A4 → A5 → A6 → A7 → A8 → A9 → A10 → A11 → A12 → A13 → A14 → A15 → R} {a1 : A1} {a2 : A2} {a3 : A3} {a4 : A4} {a5 : A5} {a6 : A6} {a7 : A7} {a8 : A8} {a9 : A9} {a10 : A10} {a11 : A11} {a12 : A12} {a13 : A13} {a14 : A14} {a15 : A15} {r : R} (e : K = k) (h : K a1 a2 a3 a4 a5 a6 a7 a8 a9 a10 a11 a12 a13 a14 a15 = r) : k a1 a2 a3 a4 a5 a6 a7 a8 a9 a10 a11 a12 a13 a14 a15 = r := by rw [← e]; exact h
theorem oa16 {A1 A2 A3 A4 A5 A6 A7 A8 A9 A10 A11 A12 A13 A14 A15 A16 R : Type} {K k : A1 → A2 → A3 → A4 → A5 → A6 → A7 → A8 → A9 → A10 → A11 → A12 → A13 → A14 → A15 → A16 → R} {a1 : A1} {a2 : A2} {a3 : A3} {a4 : A4} {a5 : A5} {a6 : A6} {a7 : A7} {a8 : A8} {a9 : A9} {a10 : A10} {a11 : A11} {a12 : A12} {a13 : A13} {a14 : A14} {a15 : A15} {a16 : A16} {r : R} (e : K = k) (h : K a1 a2 a3 a4 a5 a6 a7 a8 a9 a10 a11 a12 a13 a14 a15 a16 = r) : k a1 a2 a3 a4 a5 a6 a7 a8 a9 a10 a11 a12 a13 a14 a15 a16 = r := by rw [← e]; exact h
def ob2 {A1 A2 R : Type} (m : Option (A1 × A2)) (k : A1 → A2 → Option R) : Option R := ob m (fun q => k q.1 q.2)
theorem ob2_some {A1 A2 R : Type} {m : Option (A1 × A2)} {k : A1 → A2 → Option R} {r : R} (h : ob2 m k = some r) : ∃ a1 a2, m = some (a1, a2) ∧ k a1 a2 = some r := by
  obtain ⟨q, h1, h2⟩ := ob_some h
  exact ⟨q.1, q.2, h1, h2⟩
def ob3 {A1 A2 A3 R : Type} (m : Option (A1 × A2 × A3)) (k : A1 → A2 → A3 → Option R) : Option R := ob m (fun q => k q.1 q.2.1 q.2.2)
theorem ob3_some {A1 A2 A3 R : Type} {m : Option (A1 × A2 × A3)} {k : A1 → A2 → A3 → Option R} {r : R} (h : ob3 m k = some r) : ∃ a1 a2 a3, m = some (a1, a2, a3) ∧ k a1 a2 a3 = some r := by
  obtain ⟨q, h1, h2⟩ := ob_some h
  exact ⟨q.1, q.2.1, q.2.2, h1, h2⟩
theorem so_3 {A1 A2 A3 : Type} {a1 b1 : A1} {a2 b2 : A2} {a3 b3 : A3} (h : some (a1, a2, a3) = some (b1, b2, b3)) : a1 = b1 ∧ a2 = b2 ∧ a3 = b3 := by cases h; exact ⟨rfl, rfl, rfl⟩
def ob4 {A1 A2 A3 A4 R : Type} (m : Option (A1 × A2 × A3 × A4)) (k : A1 → A2 → A3 → A4 → Option R) : Option R := ob m (fun q => k q.1 q.2.1 q.2.2.1 q.2.2.2)
theorem ob4_some {A1 A2 A3 A4 R : Type} {m : Option (A1 × A2 × A3 × A4)} {k : A1 → A2 → A3 → A4 → Option R} {r : R} (h : ob4 m k = some r) : ∃ a1 a2 a3 a4, m = some (a1, a2, a3, a4) ∧ k a1 a2 a3 a4 = some r := by
  obtain ⟨q, h1, h2⟩ := ob_some h
  exact ⟨q.1, q.2.1, q.2.2.1, q.2.2.2, h1, h2⟩
theorem so_4 {A1 A2 A3 A4 : Type} {a1 b1 : A1} {a2 b2 : A2} {a3 b3 : A3} {a4 b4 : A4} (h : some (a1, a2, a3, a4) = some (b1, b2, b3, b4)) : a1 = b1 ∧ a2 = b2 ∧ a3 = b3 ∧ a4 = b4 := by cases h; exact ⟨rfl, rfl, rfl, rfl⟩
def ob5 {A1 A2 A3 A4 A5 R : Type} (m : Option (A1 × A2 × A3 × A4 × A5)) (k : A1 → A2 → A3 → A4 → A5 → Option R) : Option R := ob m (fun q => k q.1 q.2.1 q.2.2.1 q.2.2.2.1 q.2.2.2.2)
theorem ob5_some {A1 A2 A3 A4 A5 R : Type} {m : Option (A1 × A2 × A3 × A4 × A5)} {k : A1 → A2 → A3 → A4 → A5 → Option R} {r : R} (h : ob5 m k = some r) : ∃ a1 a2 a3 a4 a5, m = some (a1, a2, a3, a4, a5) ∧ k a1 a2 a3 a4 a5 = some r := by
  obtain ⟨q, h1, h2⟩ := ob_some h
  exact ⟨q.1, q.2.1, q.2.2.1, q.2.2.2.1, q.2.2.2.2, h1, h2⟩
theorem so_5 {A1 A2 A3 A4 A5 : Type} {a1 b1 : A1} {a2 b2 : A2} {a3 b3 : A3} {a4 b4 : A4} {a5 b5 : A5} (h : some (a1, a2, a3, a4, a5) = some (b1, b2, b3, b4, b5)) : a1 = b1 ∧ a2 = b2 ∧ a3 = b3 ∧ a4 = b4 ∧ a5 = b5 := by cases h; exact ⟨rfl, rfl, rfl, rfl, rfl⟩
def ob6 {A1 A2 A3 A4 A5 A6 R : Type} (m : Option (A1 × A2 × A3 × A4 × A5 × A6)) (k : A1 → A2 → A3 → A4 → A5 → A6 → Option R) : Option R := ob m (fun q => k q.1 q.2.1 q.2.2.1 q.2.2.2.1 q.2.2.2.2.1 q.2.2.2.2.2)
theorem ob6_some {A1 A2 A3 A4 A5 A6 R : Type} {m : Option (A1 × A2 × A3 × A4 × A5 × A6)} {k : A1 → A2 → A3 → A4 → A5 → A6 → Option R} {r : R} (h : ob6 m k = some r) : ∃ a1 a2 a3 a4 a5 a6, m = some (a1, a2, a3, a4, a5, a6) ∧ k a1 a2 a3 a4 a5 a6 = some r := by
  obtain ⟨q, h1, h2⟩ := ob_some h
  exact ⟨q.1, q.2.1, q.2.2.1, q.2.2.2.1, q.2.2.2.2.1, q.2.2.2.2.2, h1, h2⟩
theorem so_6 {A1 A2 A3 A4 A5 A6 : Type} {a1 b1 : A1} {a2 b2 : A2} {a3 b3 : A3} {a4 b4 : A4} {a5 b5 : A5} {a6 b6 : A6} (h : some (a1, a2, a3, a4, a5, a6) = some (b1, b2, b3, b4, b5, b6)) : a1 = b1 ∧ a2 = b2 ∧ a3 = b3 ∧ a4 = b4 ∧ a5 = b5 ∧ a6 = b6 := by cases h; exact ⟨rfl, rfl, rfl, rfl, rfl, rfl⟩
def ob7 {A1 A2 A3 A4 A5 A6 A7 R : Type} (m : Option (A1 × A2 × A3 × A4 × A5 × A6 × A7)) (k : A1 → A2 → A3 → A4 → A5 → A6 → A7 → Option R) : Option R := ob m (fun q => k q.1 q.2.1 q.2.2.1 q.2.2.2.1 q.2.2.2.2.1 q.2.2.2.2.2.1 q.2.2.2.2.2.2)
theorem ob7_some {A1 A2 A3 A4 A5 A6 A7 R : Type} {m : Option (A1 × A2 × A3 × A4 × A5 × A6 × A7)} {k : A1 → A2 → A3 → A4 → A5 → A6 → A7 → Option R} {r : R} (h : ob7 m k = some r) : ∃ a1 a2 a3 a4 a5 a6 a7, m = some (a1, a2, a3, a4, a5, a6, a7) ∧ k a1 a2 a3 a4 a5 a6 a7 = some r := by
  obtain ⟨q, h1, h2⟩ := ob_some h
  exact ⟨q.1, q.2.1, q.2.2.1, q.2.2.2.1, q.2.2.2.2.1, q.2.2.2.2.2.1, q.2.2.2.2.2.2, h1, h2⟩
theorem so_7 {A1 A2 A3 A4 A5 A6 A7 : Type} {a1 b1 : A1} {a2 b2 : A2} {a3 b3 : A3} {a4 b4 : A4} {a5 b5 : A5} {a6 b6 : A6} {a7 b7 : A7} (h : some (a1, a2, a3, a4, a5, a6, a7) = some (b1, b2, b3, b4, b5, b6, b7)) : a1 = b1 ∧ a2 = b2 ∧ a3 = b3 ∧ a4 = b4 ∧ a5 = b5 ∧ a6 = b6 ∧ a7 = b7 := by cases h; exact ⟨rfl, rfl, rfl, rfl, rfl, rfl, rfl⟩
def ob8 {A1 A2 A3 A4 A5 A6 A7 A8 R : Type} (m : Option (A1 × A2 × A3 × A4 × A5 × A6 × A7 × A8)) (k : A1 → A2 → A3 → A4 → A5 → A6 → A7 → A8 → Option R) : Option R := ob m (fun q => k q.1 q.2.1 q.2.2.1 q.2.2.2.1 q.2.2.2.2.1 q.2.2.2.2.2.1 q.2.2.2.2.2.2.1 q.2.2.2.2.2.2.2)
theorem ob8_some {A1 A2 A3 A4 A5 A6 A7 A8 R : Type} {m : Option (A1 × A2 × A3 × A4 × A5 × A6 × A7 × A8)} {k : A1 → A2 → A3 → A4 → A5 → A6 → A7 → A8 → Option R} {r : R} (h : ob8 m k = some r) : ∃ a1 a2 a3 a4 a5 a6 a7 a8, m = some (a1, a2, a3, a4, a5, a6, a7, a8) ∧ k a1 a2 a3 a4 a5 a6 a7 a8 = some r := by
  obtain ⟨q, h1, h2⟩ := ob_some h
  exact ⟨q.1, q.2.1, q.2.2.1, q.2.2.2.1, q.2.2.2.2.1, q.2.2.2.2.2.1, q.2.2.2.2.2.2.1, q.2.2.2.2.2.2.2, h1, h2⟩
theorem so_8 {A1 A2 A3 A4 A5 A6 A7 A8 : Type} {a1 b1 : A1} {a2 b2 : A2} {a3 b3 : A3} {a4 b4 : A4} {a5 b5 : A5} {a6 b6 : A6} {a7 b7 : A7} {a8 b8 : A8} (h : some (a1, a2, a3, a4, a5, a6, a7, a8) = some (b1, b2, b3, b4, b5, b6, b7, b8)) : a1 = b1 ∧ a2 = b2 ∧ a3 = b3 ∧ a4 = b4 ∧ a5 = b5 ∧ a6 = b6 ∧ a7 = b7 ∧ a8 = b8 := by cases h; exact ⟨rfl, rfl, rfl, rfl, rfl, rfl, rfl, rfl⟩
def ob9 {A1 A2 A3 A4 A5 A6 A7 A8 A9 R : Type} (m : Option (A1 × A2 × A3 × A4 × A5 × A6 × A7 × A8 × A9)) (k : A1 → A2 → A3 → A4 → A5 → A6 → A7 → A8 → A9 → Option R) : Option R := ob m (fun q => k q.1 q.2.1 q.2.2.1 q.2.2.2.1 q.2.2.2.2.1 q.2.2.2.2.2.1 q.2.2.2.2.2.2.1 q.2.2.2.2.2.2.2.1 q.2.2.2.2.2.2.2.2)
theorem ob9_some {A1 A2 A3 A4 A5 A6 A7 A8 A9 R : Type} {m : Option (A1 × A2 × A3 × A4 × A5 × A6 × A7 × A8 × A9)} {k : A1 → A2 → A3 → A4 → A5 → A6 → A7 → A8 → A9 → Option R} {r : R} (h : ob9 m k = some r) : ∃ a1 a2 a3 a4 a5 a6 a7 a8 a9, m = some (a1, a2, a3, a4, a5, a6, a7, a8, a9) ∧ k a1 a2 a3 a4 a5 a6 a7 a8 a9 = some r := by
  obtain ⟨q, h1, h2⟩ := ob_some h
  exact ⟨q.1, q.2.1, q.2.2.1, q.2.2.2.1, q.2.2.2.2.1, q.2.2.2.2.2.1, q.2.2.2.2.2.2.1, q.2.2.2.2.2.2.2.1, q.2.2.2.2.2.2.2.2, h1, h2⟩
theorem so_9 {A1 A2 A3 A4 A5 A6 A7 A8 A9 : Type} {a1 b1 : A1} {a2 b2 : A2} {a3 b3 : A3} {a4 b4 : A4} {a5 b5 : A5} {a6 b6 : A6} {a7 b7 : A7} {a8 b8 : A8} {a9 b9 : A9} (h : some (a1, a2, a3, a4, a5, a6, a7, a8, a9) = some (b1, b2, b3, b4, b5, b6, b7, b8, b9)) : a1 = b1 ∧ a2 = b2 ∧ a3 = b3 ∧ a4 = b4 ∧ a5 = b5 ∧ a6 = b6 ∧ a7 = b7 ∧ a8 = b8 ∧ a9 = b9 := by cases h; exact ⟨rfl, rfl, rfl, rfl, rfl, rfl, rfl, rfl, rfl⟩
def ob10 {A1 A2 A3 A4 A5 A6 A7 A8 A9 A10 R : Type} (m : Option (A1 × A2 × A3 × A4 × A5 × A6 × A7 × A8 × A9 × A10)) (k : A1 → A2 → A3 → A4 → A5 → A6 → A7 → A8 → A9 → A10 → Option R) : Option R := ob m (fun q => k q.1 q.2.1 q.2.2.1 q.2.2.2.1 q.2.2.2.2.1 q.2.2.2.2.2.1 q.2.2.2.2.2.2.1 q.2.2.2.2.2.2.2.1 q.2.2.2.2.2.2.2.2.1 q.2.2.2.2.2.2.2.2.2)
theorem ob10_some {A1 A2 A3 A4 A5 A6 A7 A8 A9 A10 R : Type} {m : Option (A1 × A2 × A3 × A4 × A5 × A6 × A7 × A8 × A9 × A10)} {k : A1 → A2 → A3 → A4 → A5 → A6 → A7 → A8 → A9 → A10 → Option R} {r : R} (h : ob10 m k = some r) : ∃ a1 a2 a3 a4 a5 a6 a7 a8 a9 a10, m = some (a1, a2, a3, a4, a5, a6, a7, a8, a9, a10) ∧ k a1 a2 a3 a4 a5 a6 a7 a8 a9 a10 = some r := by
  obtain ⟨q, h1, h2⟩ := ob_some h
  exact ⟨q.1, q.2.1, q.2.2.1, q.2.2.2.1, q.2.2.2.2.1, q.2.2.2.2.2.1, q.2.2.2.2.2.2.1, q.2.2.2.2.2.2.2.1, q.2.2.2.2.2.2.2.2.1, q.2.2.2.2.2.2.2.2.2, h1, h2⟩
theorem so_10 {A1 A2 A3 A4 A5 A6 A7 A8 A9 A10 : Type} {a1 b1 : A1} {a2 b2 : A2} {a3 b3 : A3} {a4 b4 : A4} {a5 b5 : A5} {a6 b6 : A6} {a7 b7 : A7} {a8 b8 : A8} {a9 b9 : A9} {a10 b10 : A10} (h : some (a1, a2, a3, a4, a5, a6, a7, a8, a9, a10) = some (b1, b2, b3, b4, b5, b6, b7, b8, b9, b10)) : a1 = b1 ∧ a2 = b2 ∧ a3 = b3 ∧ a4 = b4 ∧ a5 = b5 ∧ a6 = b6 ∧ a7 = b7 ∧ a8 = b8 ∧ a9 = b9 ∧ a10 = b10 := by cases h; exact ⟨rfl, rfl, rfl, rfl, rfl, rfl, rfl, rfl, rfl, rfl⟩
def ob11 {A1 A2 A3 A4 A5 A6 A7 A8 A9 A10 A11 R : Type} (m : Option (A1 × A2 × A3 × A4 × A5 × A6 × A7 × A8 × A9 × A10 × A11)) (k : A1 → A2 → A3 → A4 → A5 → A6 → A7 → A8 → A9 → A10 → A11 → Option R) : Option R := ob m (fun q => k q.1 q.2.1 q.2.2.1 q.2.2.2.1 q.2.2.2.2.1 q.2.2.2.2.2.1 q.2.2.2.2.2.2.1 q.2.2.2.2.2.2.2.1 q.2.2.2.2.2.2.2.2.1 q.2.2.2.2.2.2.2.2.2.1 q.2.2.2.2.2.2.2.2.2.2)
theorem ob11_some {A1 A2 A3 A4 A5 A6 A7 A8 A9 A10 A11 R : Type} {m : Option (A1 × A2 × A3 × A4 × A5 × A6 × A7 × A8 × A9 × A10 × A11)} {k : A1 → A2 → A3 → A4 → A5 → A6 → A7 → A8 → A9 → A10 → A11 → Option R} {r : R} (h : ob11 m k = some r) : ∃ a1 a2 a3 a4 a5 a6 a7 a8 a9 a10 a11, m = some (a1, a2, a3, a4, a5, a6, a7, a8, a9, a10, a11) ∧ k a1 a2 a3 a4 a5 a6 a7 a8 a9 a10 a11 = some r := by
  obtain ⟨q, h1, h2⟩ := ob_some h
  exact ⟨q.1, q.2.1, q.2.2.1, q.2.2.2.1, q.2.2.2.2.1, q.2.2.2.2.2.1, q.2.2.2.2.2.2.1, q.2.2.2.2.2.2.2.1, q.2.2.2.2.2.2.2.2.1, q.2.2.2.2.2.2.2.2.2.1, q.2.2.2.2.2.2.2.2.2.2, h1, h2⟩
theorem so_11 {A1 A2 A3 A4 A5 A6 A7 A8 A9 A10 A11 : Type} {a1 b1 : A1} {a2 b2 : A2} {a3 b3 : A3} {a4 b4 : A4} {a5 b5 : A5} {a6 b6 : A6} {a7 b7 : A7} {a8 b8 : A8} {a9 b9 : A9} {a10 b10 : A10} {a11 b11 : A11} (h : some (a1, a2, a3, a4, a5, a6, a7, a8, a9, a10, a11) = some (b1, b2, b3, b4, b5, b6, b7, b8, b9, b10, b11)) : a1 = b1 ∧ a2 = b2 ∧ a3 = b3 ∧ a4 = b4 ∧ a5 = b5 ∧ a6 = b6 ∧ a7 = b7 ∧ a8 = b8 ∧ a9 = b9 ∧ a10 = b10 ∧ a11 = b11 := by cases h; exact ⟨rfl, rfl, rfl, rfl, rfl, rfl, rfl, rfl, rfl, rfl, rfl⟩
def ob12 {A1 A2 A3 A4 A5 A6 A7 A8 A9 A10 A11 A12 R : Type} (m : Option (A1 × A2 × A3 × A4 × A5 × A6 × A7 × A8 × A9 × A10 × A11 × A12)) (k : A1 → A2 → A3 → A4 → A5 → A6 → A7 → A8 → A9 → A10 → A11 → A12 → Option R) : Option R := ob m (fun q => k q.1 q.2.1 q.2.2.1 q.2.2.2.1 q.2.2.2.2.1 q.2.2.2.2.2.1 q.2.2.2.2.2.2.1 q.2.2.2.2.2.2.2.1 q.2.2.2.2.2.2.2.2.1 q.2.2.2.2.2.2.2.2.2.1 q.2.2.2.2.2.2.2.2.2.2.1 q.2.2.2.2.2.2.2.2.2.2.2)
theorem ob12_some {A1 A2 A3 A4 A5 A6 A7 A8 A9 A10 A11 A12 R : Type} {m : Option (A1 × A2 × A3 × A4 × A5 × A6 × A7 × A8 × A9 × A10 × A11 × A12)} {k : A1 → A2 → A3 → A4 → A5 → A6 → A7 → A8 → A9 → A10 → A11 → A12 → Option R} {r : R} (h : ob12 m k = some r) : ∃ a1 a2 a3 a4 a5 a6 a7 a8 a9 a10 a11 a12, m = some (a1, a2, a3, a4, a5, a6, a7, a8, a9, a10, a11, a12) ∧ k a1 a2 a3 a4 a5 a6 a7 a8 a9 a10 a11 a12 = some r := by
  obtain ⟨q, h1, h2⟩ := ob_some h
  exact ⟨q.1, q.2.1, q.2.2.1, q.2.2.2.1, q.2.2.2.2.1, q.2.2.2.2.2.1, q.2.2.2.2.2.2.1, q.2.2.2.2.2.2.2.1, q.2.2.2.2.2.2.2.2.1, q.2.2.2.2.2.2.2.2.2.1, q.2.2.2.2.2.2.2.2.2.2.1, q.2.2.2.2.2.2.2.2.2.2.2, h1, h2⟩
theorem so_12 {A1 A2 A3 A4 A5 A6 A7 A8 A9 A10 A11 A12 : Type} {a1 b1 : A1} {a2 b2 : A2} {a3 b3 : A3} {a4 b4 : A4} {a5 b5 : A5} {a6 b6 : A6} {a7 b7 : A7} {a8 b8 : A8} {a9 b9 : A9} {a10 b10 : A10} {a11 b11 : A11} {a12 b12 : A12} (h : some (a1, a2, a3, a4, a5, a6, a7, a8, a9, a10, a11, a12) = some (b1, b2, b3, b4, b5, b6, b7, b8, b9, b10, b11, b12)) : a1 = b1 ∧ a2 = b2 ∧ a3 = b3 ∧ a4 = b4 ∧ a5 = b5 ∧ a6 = b6 ∧ a7 = b7 ∧ a8 = b8 ∧ a9 = b9 ∧ a10 = b10 ∧ a11 = b11 ∧ a12 = b12 := by cases h; exact ⟨rfl, rfl, rfl, rfl, rfl, rfl, rfl, rfl, rfl, rfl, rfl, rfl⟩
def ob13 {A1 A2 A3 A4 A5 A6 A7 A8 A9 A10 A11 A12 A13 R : Type} (m : Option (A1 × A2 × A3 × A4 × A5 × A6 × A7 × A8 × A9 × A10 × A11 × A12 × A13)) (k : A1 → A2 → A3 → A4 → A5 → A6 → A7 → A8 → A9 → A10 → A11 → A12 → A13 → Option R) : Option R := ob m (fun q => k q.1 q.2.1 q.2.2.1 q.2.2.2.1 q.2.2.2.2.1 q.2.2.2.2.2.1 q.2.2.2.2.2.2.1 q.2.2.2.2.2.2.2.1 q.2.2.2.2.2.2.2.2.1 q.2.2.2.2.2.2.2.2.2.1 q.2.2.2.2.2.2.2.2.2.2.1 q.2.2.2.2.2.2.2.2.2.2.2.1 q.2.2.2.2.2.2.2.2.2.2.2.2)
theorem ob13_some {A1 A2 A3 A4 A5 A6 A7 A8 A9 A10 A11 A12 A13 R : Type} {m : Option (A1 × A2 × A3 × A4 × A5 × A6 × A7 × A8 × A9 × A10 × A11 × A12 × A13)} {k : A1 → A2 → A3 → A4 → A5 → A6 → A7 → A8 → A9 → A10 → A11 → A12 → A13 → Option R} {r : R} (h : ob13 m k = some r) : ∃ a1 a2 a3 a4 a5 a6 a7 a8 a9 a10 a11 a12 a13, m = some (a1, a2, a3, a4, a5, a6, a7, a8, a9, a10, a11, a12, a13) ∧ k a1 a2 a3 a4 a5 a6 a7 a8 a9 a10 a11 a12 a13 = some r := by
  obtain ⟨q, h1, h2⟩ := ob_some h
  exact ⟨q.1, q.2.1, q.2.2.1, q.2.2.2.1, q.2.2.2.2.1, q.2.2.2.2.2.1, q.2.2.2.2.2.2.1, q.2.2.2.2.2.2.2.1, q.2.2.2.2.2.2.2.2.1, q.2.2.2.2.2.2.2.2.2.1, q.2.2.2.2.2.2.2.2.2.2.1, q.2.2.2.2.2.2.2.2.2.2.2.1, q.2.2.2.2.2.2.2.2.2.2.2.2, h1, h2⟩
theorem so_13 {A1 A2 A3 A4 A5 A6 A7 A8 A9 A10 A11 A12 A13 : Type} {a1 b1 : A1} {a2 b2 : A2} {a3 b3 : A3} {a4 b4 : A4} {a5 b5 : A5} {a6 b6 : A6} {a7 b7 : A7} {a8 b8 : A8} {a9 b9 : A9} {a10 b10 : A10} {a11 b11 : A11} {a12 b12 : A12} {a13 b13 : A13} (h : some (a1, a2, a3, a4, a5, a6, a7, a8, a9, a10, a11, a12, a13) = some (b1, b2, b3, b4, b5, b6, b7, b8, b9, b10, b11, b12, b13)) : a1 = b1 ∧ a2 = b2 ∧ a3 = b3 ∧ a4 = b4 ∧ a5 = b5 ∧ a6 = b6 ∧ a7 = b7 ∧ a8 = b8 ∧ a9 = b9 ∧ a10 = b10 ∧ a11 = b11 ∧ a12 = b12 ∧ a13 = b13 := by cases h; exact ⟨rfl, rfl, rfl, rfl, rfl, rfl, rfl, rfl, rfl, rfl, rfl, rfl, rfl⟩
def ob14 {A1 A2 A3 A4 A5 A6 A7 A8 A9 A10 A11 A12 A13 A14 R : Type} (m : Option (A1 × A2 × A3 × A4 × A5 × A6 × A7 × A8 × A9 × A10 × A11 × A12 × A13 × A14)) (k : A1 → A2 → A3 → A4 → A5 → A6 → A7 → A8 → A9 → A10 → A11 → A12 → A13 → A14 → Option R) : Option R := ob m (fun q => k q.1 q.2.1 q.2.2.1 q.2.2.2.1 q.2.2.2.2.1 q.2.2.2.2.2.1 q.2.2.2.2.2.2.1 q.2.2.2.2.2.2.2.1 q.2.2.2.2.2.2.2.2.1 q.2.2.2.2.2.2.2.2.2.1 q.2.2.2.2.2.2.2.2.2.2.1 q.2.2.2.2.2.2.2.2.2.2.2.1 q.2.2.2.2.2.2.2.2.2.2.2.2.1 q.2.2.2.2.2.2.2.2.2.2.2.2.2)
theorem ob14_some {A1 A2 A3 A4 A5 A6 A7 A8 A9 A10 A11 A12 A13 A14 R : Type} {m : Option (A1 × A2 × A3 × A4 × A5 × A6 × A7 × A8 × A9 × A10 × A11 × A12 × A13 × A14)} {k : A1 → A2 → A3 → A4 → A5 → A6 → A7 → A8 → A9 → A10 → A11 → A12 → A13 → A14 → Option R} {r : R} (h : ob14 m k = some r) : ∃ a1 a2 a3 a4 a5 a6 a7 a8 a9 a10 a11 a12 a13 a14, m = some (a1, a2, a3, a4, a5, a6, a7, a8, a9, a10, a11, a12, a13, a14) ∧ k a1 a2 a3 a4 a5 a6 a7 a8 a9 a10 a11 a12 a13 a14 = some r := by
  obtain ⟨q, h1, h2⟩ := ob_some h
  exact ⟨q.1, q.2.1, q.2.2.1, q.2.2.2.1, q.2.2.2.2.1, q.2.2.2.2.2.1, q.2.2.2.2.2.2.1, q.2.2.2.2.2.2.2.1, q.2.2.2.2.2.2.2.2.1, q.2.2.2.2.2.2.2.2.2.1, q.2.2.2.2.2.2.2.2.2.2.1, q.2.2.2.2.2.2.2.2.2.2.2.1, q.2.2.2.2.2.2.2.2.2.2.2.2.1, q.2.2.2.2.2.2.2.2.2.2.2.2.2, h1, h2⟩
theorem so_14 {A1 A2 A3 A4 A5 A6 A7 A8 A9 A10 A11 A12 A13 A14 : Type} {a1 b1 : A1} {a2 b2 : A2} {a3 b3 : A3} {a4 b4 : A4} {a5 b5 : A5} {a6 b6 : A6} {a7 b7 : A7} {a8 b8 : A8} {a9 b9 : A9} {a10 b10 : A10} {a11 b11 : A11} {a12 b12 : A12} {a13 b13 : A13} {a14 b14 : A14} (h : some (a1, a2, a3, a4, a5, a6, a7, a8, a9, a10, a11, a12, a13, a14) = some (b1, b2, b3, b4, b5, b6, b7, b8, b9, b10, b11, b12, b13, b14)) : a1 = b1 ∧ a2 = b2 ∧ a3 = b3 ∧ a4 = b4 ∧ a5 = b5 ∧ a6 = b6 ∧ a7 = b7 ∧ a8 = b8 ∧ a9 = b9 ∧ a10 = b10 ∧ a11 = b11 ∧ a12 = b12 ∧ a13 = b13 ∧ a14 = b14 := by cases h; exact ⟨rfl, rfl, rfl, rfl, rfl, rfl, rfl, rfl, rfl, rfl, rfl, rfl, rfl, rfl⟩
def ob15 {A1 A2 A3 A4 A5 A6 A7 A8 A9 A10 A11 A12 A13 A14 A15 R : Type} (m : Option (A1 × A2 × A3 × A4 × A5 × A6 × A7 × A8 × A9 × A10 × A11 × A12 × A13 × A14 × A15)) (k : A1 → A2 → A3 → A4 → A5 → A6 → A7 → A8 → A9 → A10 → A11 → A12 → A13 → A14 → A15 → Option R) : Option R := ob m (fun q => k q.1 q.2.1 q.2.2.1 q.2.2.2.1 q.2.2.2.2.1 q.2.2.2.2.2.1 q.2.2.2.2.2.2.1 q.2.2.2.2.2.2.2.1 q.2.2.2.2.2.2.2.2.1 q.2.2.2.2.2.2.2.2.2.1 q.2.2.2.2.2.2.2.2.2.2.1 q.2.2.2.2.2.2.2.2.2.2.2.1 q.2.2.2.2.2.2.2.2.2.2.2.2.1 q.2.2.2.2.2.2.2.2.2.2.2.2.2.1 q.2.2.2.2.2.2.2.2.2.2.2.2.2.2)
theorem ob15_some {A1 A2 A3 A4 A5 A6 A7 A8 A9 A10 A11 A12 A13 A14 A15 R : Type} {m : Option (A1 × A2 × A3 × A4 × A5 × A6 × A7 × A8 × A9 × A10 × A11 × A12 × A13 × A14 × A15)} {k : A1 → A2 → A3 → A4 → A5 → A6 → A7 → A8 → A9 → A10 → A11 → A12 → A13 → A14 → A15 → Option R} {r : R} (h : ob15 m k = some r) : ∃ a1 a2 a3 a4 a5 a6 a7 a8 a9 a10 a11 a12 a13 a14 a15, m = some (a1, a2, a3, a4, a5, a6, a7, a8, a9, a10, a11, a12, a13, a14, a15) ∧ k a1 a2 a3 a4 a5 a6 a7 a8 a9 a10 a11 a12 a13 a14 a15 = some r := by
  obtain ⟨q, h1, h2⟩ := ob_some h
  exact ⟨q.1, q.2.1, q.2.2.1, q.2.2.2.1, q.2.2.2.2.1, q.2.2.2.2.2.1, q.2.2.2.2.2.2.1, q.2.2.2.2.2.2.2.1, q.2.2.2.2.2.2.2.2.1, q.2.2.2.2.2.2.2.2.2.1, q.2.2.2.2.2.2.2.2.2.2.1, q.2.2.2.2.2.2.2.2.2.2.2.1, q.2.2.2.2.2.2.2.2.2.2.2.2.1, q.2.2.2.2.2.2.2.2.2.2.2.2.2.1, q.2.2.2.2.2.2.2.2.2.2.2.2.2.2, h1, h2⟩
theorem so_15 {A1 A2 A3 A4 A5 A6 A7 A8 A9 A10 A11 A12 A13 A14 A15 : Type} {a1 b1 : A1} {a2 b2 : A2} {a3 b3 : A3} {a4 b4 : A4} {a5 b5 : A5} {a6 b6 : A6} {a7 b7 : A7} {a8 b8 : A8} {a9 b9 : A9} {a10 b10 : A10} {a11 b11 : A11} {a12 b12 : A12} {a13 b13 : A13} {a14 b14 : A14} {a15 b15 : A15} (h : some (a1, a2, a3, a4, a5, a6, a7, a8, a9, a10, a11, a12, a13, a14, a15) = some (b1, b2, b3, b4, b5, b6, b7, b8, b9, b10, b11, b12, b13, b14, b15)) : a1 = b1 ∧ a2 = b2 ∧ a3 = b3 ∧ a4 = b4 ∧ a5 = b5 ∧ a6 = b6 ∧ a7 = b7 ∧ a8 = b8 ∧ a9 = b9 ∧ a10 = b10 ∧ a11 = b11 ∧ a12 = b12 ∧ a13 = b13 ∧ a14 = b14 ∧ a15 = b15 := by cases h; exact ⟨rfl, rfl, rfl, rfl, rfl, rfl, rfl, rfl, rfl, rfl, rfl, rfl, rfl, rfl, rfl⟩
def ob16 {A1 A2 A3 A4 A5 A6 A7 A8 A9 A10 A11 A12 A13 A14 A15 A16 R : Type} (m : Option (A1 × A2 × A3 × A4 × A5 × A6 × A7 × A8 × A9 × A10 × A11 × A12 × A13 × A14 × A15 × A16)) (k : A1 → A2 → A3 → A4 → A5 → A6 → A7 → A8 → A9 → A10 → A11 → A12 → A13 → A14 → A15 → A16 → Option R) : Option R := ob m (fun q => k q.1 q.2.1 q.2.2.1 q.2.2.2.1 q.2.2.2.2.1 q.2.2.2.2.2.1 q.2.2.2.2.2.2.1 q.2.2.2.2.2.2.2.1 q.2.2.2.2.2.2.2.2.1 q.2.2.2.2.2.2.2.2.2.1 q.2.2.2.2.2.2.2.2.2.2.1 q.2.2.2.2.2.2.2.2.2.2.2.1 q.2.2.2.2.2.2.2.2.2.2.2.2.1 q.2.2.2.2.2.2.2.2.2.2.2.2.2.1 q.2.2.2.2.2.2.2.2.2.2.2.2.2.2.1 q.2.2.2.2.2.2.2.2.2.2.2.2.2.2.2)
theorem ob16_some {A1 A2 A3 A4 A5 A6 A7 A8 A9 A10 A11 A12 A13 A14 A15 A16 R : Type} {m : Option (A1 × A2 × A3 × A4 × A5 × A6 × A7 × A8 × A9 × A10 × A11 × A12 × A13 × A14 × A15 × A16)} {k : A1 → A2 → A3 → A4 → A5 → A6 → A7 → A8 → A9 → A10 → A11 → A12 → A13 → A14 → A15 → A16 → Option R} {r : R} (h : ob16 m k = some r) : ∃ a1 a2 a3 a4 a5 a6 a7 a8 a9 a10 a11 a12 a13 a14 a15 a16, m = some (a1, a2, a3, a4, a5, a6, a7, a8, a9, a10, a11, a12, a13, a14, a15, a16) ∧ k a1 a2 a3 a4 a5 a6 a7 a8 a9 a10 a11 a12 a13 a14 a15 a16 = some r := by
  obtain ⟨q, h1, h2⟩ := ob_some h
  exact ⟨q.1, q.2.1, q.2.2.1, q.2.2.2.1, q.2.2.2.2.1, q.2.2.2.2.2.1, q.2.2.2.2.2.2.1, q.2.2.2.2.2.2.2.1, q.2.2.2.2.2.2.2.2.1, q.2.2.2.2.2.2.2.2.2.1, q.2.2.2.2.2.2.2.2.2.2.1, q.2.2.2.2.2.2.2.2.2.2.2.1, q.2.2.2.2.2.2.2.2.2.2.2.2.1, q.2.2.2.2.2.2.2.2.2.2.2.2.2.1, q.2.2.2.2.2.2.2.2.2.2.2.2.2.2.1, q.2.2.2.2.2.2.2.2.2.2.2.2.2.2.2, h1, h2⟩
theorem so_16 {A1 A2 A3 A4 A5 A6 A7 A8 A9 A10 A11 A12 A13 A14 A15 A16 : Type} {a1 b1 : A1} {a2 b2 : A2} {a3 b3 : A3} {a4 b4 : A4} {a5 b5 : A5} {a6 b6 : A6} {a7 b7 : A7} {a8 b8 : A8} {a9 b9 : A9} {a10 b10 : A10} {a11 b11 : A11} {a12 b12 : A12} {a13 b13 : A13} {a14 b14 : A14} {a15 b15 : A15} {a16 b16 : A16} (h : some (a1, a2, a3, a4, a5, a6, a7, a8, a9, a10, a11, a12, a13, a14, a15, a16) = some (b1, b2, b3, b4, b5, b6, b7, b8, b9, b10, b11, b12, b13, b14, b15, b16)) : a1 = b1 ∧ a2 = b2 ∧ a3 = b3 ∧ a4 = b4 ∧ a5 = b5 ∧ a6 = b6 ∧ a7 = b7 ∧ a8 = b8 ∧ a9 = b9 ∧ a10 = b10 ∧ a11 = b11 ∧ a12 = b12 ∧ a13 = b13 ∧ a14 = b14 ∧ a15 = b15 ∧ a16 = b16 := by cases h; exact ⟨rfl, rfl, rfl, rfl, rfl, rfl, rfl, rfl, rfl, rfl, rfl, rfl, rfl, rfl, rfl, rfl⟩
theorem ic_m1 : Int32.ofInt (-1) = (-1) := by decide
theorem ic_0 : Int32.ofInt 0 = 0 := by decide
theorem ic_1 : Int32.ofInt 1 = 1 := by decide
theorem ic_2 : Int32.ofInt 2 = 2 := by decide
theorem ic_3 : Int32.ofInt 3 = 3 := by decide
theorem ic_4 : Int32.ofInt 4 = 4 := by decide
theorem ic_5 : Int32.ofInt 5 = 5 := by decide
theorem bp_m9 : (Int8.ofInt (-9)).toInt32 = (-9) := by decide
theorem bp_m4 : (Int8.ofInt (-4)).toInt32 = (-4) := by decide
theorem bp_m3 : (Int8.ofInt (-3)).toInt32 = (-3) := by decide
theorem bp_m2 : (Int8.ofInt (-2)).toInt32 = (-2) := by decide
theorem bp_6 : (Int8.ofInt 6).toInt32 = 6 := by decide
theorem bp_7 : (Int8.ofInt 7).toInt32 = 7 := by decide
theorem bp_8 : (Int8.ofInt 8).toInt32 = 8 := by decide
theorem bp_9 : (Int8.ofInt 9).toInt32 = 9 := by decide
theorem bp_12 : (Int8.ofInt 12).toInt32 = 12 := by decide
theorem bp_15 : (Int8.ofInt 15).toInt32 = 15 := by decide
theorem bp_16 : (Int8.ofInt 16).toInt32 = 16 := by decide
theorem bp_20 : (Int8.ofInt 20).toInt32 = 20 := by decide
theorem bp_21 : (Int8.ofInt 21).toInt32 = 21 := by decide
theorem bp_30 : (Int8.ofInt 30).toInt32 = 30 := by decide
theorem bp_50 : (Int8.ofInt 50).toInt32 = 50 := by decide
theorem bp_60 : (Int8.ofInt 60).toInt32 = 60 := by decide
theorem bp_100 : (Int8.ofInt 100).toInt32 = 100 := by decide
theorem sp_m10000 : (Int16.ofInt (-10000)).toInt32 = (-10000) := by decide
theorem sp_200 : (Int16.ofInt 200).toInt32 = 200 := by decide
theorem sp_256 : (Int16.ofInt 256).toInt32 = 256 := by decide
theorem sp_500 : (Int16.ofInt 500).toInt32 = 500 := by decide
theorem sp_1000 : (Int16.ofInt 1000).toInt32 = 1000 := by decide
theorem sp_10000 : (Int16.ofInt 10000).toInt32 = 10000 := by decide
theorem ii_m1 (x : Int32) : x + Int32.ofInt (-1) = x + (-1) := rfl
theorem ii_1 (x : Int32) : x + Int32.ofInt 1 = x + 1 := rfl
theorem lc_0 : Int64.ofNat ((0 : Fin 2) : Nat) = 0 := by decide
theorem lc_1 : Int64.ofNat ((1 : Fin 2) : Nat) = 1 := by decide
theorem tb_2 {x : Int32} (h0 : ¬ x = 0) (h1 : ¬ x = 1) (h2 : ¬ x = 2) : x.toInt < 0 ∨ 2 < x.toInt := by
  have q : ∀ j : Int32, ¬ x = j → x.toInt ≠ j.toInt := fun j h e => h (Int32.toInt_inj.mp e)
  have q0 : x.toInt ≠ 0 := q 0 h0
  have q1 : x.toInt ≠ 1 := q 1 h1
  have q2 : x.toInt ≠ 2 := q 2 h2
  omega
theorem tb_5 {x : Int32} (h0 : ¬ x = 0) (h1 : ¬ x = 1) (h2 : ¬ x = 2) (h3 : ¬ x = 3) (h4 : ¬ x = 4) (h5 : ¬ x = 5) : x.toInt < 0 ∨ 5 < x.toInt := by
  have q : ∀ j : Int32, ¬ x = j → x.toInt ≠ j.toInt := fun j h e => h (Int32.toInt_inj.mp e)
  have q0 : x.toInt ≠ 0 := q 0 h0
  have q1 : x.toInt ≠ 1 := q 1 h1
  have q2 : x.toInt ≠ 2 := q 2 h2
  have q3 : x.toInt ≠ 3 := q 3 h3
  have q4 : x.toInt ≠ 4 := q 4 h4
  have q5 : x.toInt ≠ 5 := q 5 h5
  omega
abbrev v6 (cy : Nat → ClassId) (ad : Nat → Nat) (c6_bytes : Nat → Int32) (c6_sizes : Nat → Int32) (c6_weights : Nat → Int32) : va_W := [((ad 60), .inr (6, [.ref (ad 1601), .ref (ad 1602), .ref (ad 1603)])), ((ad 1601), .inl (cy 0, 64, .inl c6_bytes)), ((ad 1602), .inl (cy 1, 4, .inl c6_sizes)), ((ad 1603), .inl (cy 1, 4, .inl c6_weights))]
abbrev w6 (cy : Nat → ClassId) (ad : Nat → Nat) (c6_bytes : Nat → Int32) (c6_sizes : Nat → Int32) (c6_weights : Nat → Int32) : va_W := v6 cy ad c6_bytes c6_sizes c6_weights
abbrev v5 (cy : Nat → ClassId) (ad : Nat → Nat) (c5_legs : Int32) (c5_length : Int32) (c5_ways : Nat → Int32) (c5_units : Nat → Int32) (c5_stuffOf : Nat → Int32) (c5_point : Nat → Int32) : va_W := [((ad 50), .inr (5, [.ref (ad 60), .ref (ad 1502), .ref (ad 1503), .ref (ad 1504), .ref (ad 1505), .int c5_legs, .int c5_length])), ((ad 1502), .inl (cy 1, 12, .inl c5_ways)), ((ad 1503), .inl (cy 1, 12, .inl c5_units)), ((ad 1504), .inl (cy 1, 12, .inl c5_stuffOf)), ((ad 1505), .inl (cy 1, 3, .inl c5_point))]
abbrev w5 (cy : Nat → ClassId) (ad : Nat → Nat) (c5_legs : Int32) (c5_length : Int32) (c5_ways : Nat → Int32) (c5_units : Nat → Int32) (c5_stuffOf : Nat → Int32) (c5_point : Nat → Int32) (c6_bytes : Nat → Int32) (c6_sizes : Nat → Int32) (c6_weights : Nat → Int32) : va_W := v5 cy ad c5_legs c5_length c5_ways c5_units c5_stuffOf c5_point ++ (w6 cy ad c6_bytes c6_sizes c6_weights)
abbrev v4 (cy : Nat → ClassId) (ad : Nat → Nat) (c4_made : Int32) (c4_kinds : Nat → Int32) (c4_places : Nat → Int32) (c4_rates : Nat → Int32) (c4_readings : Nat → Int32) (c4_bearing : Nat → Int32) : va_W := [((ad 40), .inr (4, [.ref (ad 50), .ref (ad 1402), .ref (ad 1403), .ref (ad 1404), .ref (ad 1405), .ref (ad 1406), .int c4_made])), ((ad 1402), .inl (cy 1, 12, .inl c4_kinds)), ((ad 1403), .inl (cy 1, 12, .inl c4_places)), ((ad 1404), .inl (cy 1, 12, .inl c4_rates)), ((ad 1405), .inl (cy 1, 12, .inl c4_readings)), ((ad 1406), .inl (cy 2, 12, .inl c4_bearing))]
abbrev w4 (cy : Nat → ClassId) (ad : Nat → Nat) (c4_made : Int32) (c4_kinds : Nat → Int32) (c4_places : Nat → Int32) (c4_rates : Nat → Int32) (c4_readings : Nat → Int32) (c4_bearing : Nat → Int32) (c5_legs : Int32) (c5_length : Int32) (c5_ways : Nat → Int32) (c5_units : Nat → Int32) (c5_stuffOf : Nat → Int32) (c5_point : Nat → Int32) (c6_bytes : Nat → Int32) (c6_sizes : Nat → Int32) (c6_weights : Nat → Int32) : va_W := v4 cy ad c4_made c4_kinds c4_places c4_rates c4_readings c4_bearing ++ (w5 cy ad c5_legs c5_length c5_ways c5_units c5_stuffOf c5_point c6_bytes c6_sizes c6_weights)
abbrev v3 (cy : Nat → ClassId) (ad : Nat → Nat) (c3_size : Int32) (c3_rates : Nat → Int32) : va_W := [((ad 30), .inr (3, [.ref (ad 1301), .int c3_size])), ((ad 1301), .inl (cy 1, 12, .inl c3_rates))]
abbrev w3 (cy : Nat → ClassId) (ad : Nat → Nat) (c3_size : Int32) (c3_rates : Nat → Int32) : va_W := v3 cy ad c3_size c3_rates
abbrev v0 (cy : Nat → ClassId) (ad : Nat → Nat) (c0_amounts : Nat → Int32) (c0_lows : Nat → Int32) (c0_highs : Nat → Int32) (c0_barred : Nat → Int32) : va_W := [((ad 900), .inr (0, [.ref (ad 1001), .ref (ad 1002), .ref (ad 1003), .ref (ad 1004)])), ((ad 1001), .inl (cy 1, 8, .inl c0_amounts)), ((ad 1002), .inl (cy 1, 8, .inl c0_lows)), ((ad 1003), .inl (cy 1, 8, .inl c0_highs)), ((ad 1004), .inl (cy 1, 8, .inl c0_barred))]
abbrev w0 (cy : Nat → ClassId) (ad : Nat → Nat) (c0_amounts : Nat → Int32) (c0_lows : Nat → Int32) (c0_highs : Nat → Int32) (c0_barred : Nat → Int32) : va_W := v0 cy ad c0_amounts c0_lows c0_highs c0_barred
abbrev v1 (cy : Nat → ClassId) (ad : Nat → Nat) (c1_lines : Int32) (c1_parts : Int64) : va_W := [((ad 10), .inr (1, [.int c1_lines, .long c1_parts]))]
abbrev w1 (cy : Nat → ClassId) (ad : Nat → Nat) (c1_lines : Int32) (c1_parts : Int64) : va_W := v1 cy ad c1_lines c1_parts
abbrev v2 (cy : Nat → ClassId) (ad : Nat → Nat) (c2_above : Int64) (c2_below : Int64) : va_W := [((ad 20), .inr (2, [.long c2_above, .long c2_below]))]
abbrev w2 (cy : Nat → ClassId) (ad : Nat → Nat) (c2_above : Int64) (c2_below : Int64) : va_W := v2 cy ad c2_above c2_below
abbrev v7 (cy : Nat → ClassId) (ad : Nat → Nat) (c7_lastFound : Int32) (c7_lastAsked : Int32) (c7_found : Nat → Int32) : va_W := [((ad 70), .inr (7, [.ref (ad 60), .ref (ad 50), .ref (ad 40), .ref (ad 30), .ref (ad 900), .ref (ad 10), .ref (ad 20), .ref (ad 1708), .int c7_lastFound, .int c7_lastAsked])), ((ad 1708), .inl (cy 1, 6, .inl c7_found))]
abbrev w7 (cy : Nat → ClassId) (ad : Nat → Nat) (c7_lastFound : Int32) (c7_lastAsked : Int32) (c7_found : Nat → Int32) (c4_made : Int32) (c4_kinds : Nat → Int32) (c4_places : Nat → Int32) (c4_rates : Nat → Int32) (c4_readings : Nat → Int32) (c4_bearing : Nat → Int32) (c5_legs : Int32) (c5_length : Int32) (c5_ways : Nat → Int32) (c5_units : Nat → Int32) (c5_stuffOf : Nat → Int32) (c5_point : Nat → Int32) (c6_bytes : Nat → Int32) (c6_sizes : Nat → Int32) (c6_weights : Nat → Int32) (c3_size : Int32) (c3_rates : Nat → Int32) (c0_amounts : Nat → Int32) (c0_lows : Nat → Int32) (c0_highs : Nat → Int32) (c0_barred : Nat → Int32) (c1_lines : Int32) (c1_parts : Int64) (c2_above : Int64) (c2_below : Int64) : va_W := v7 cy ad c7_lastFound c7_lastAsked c7_found ++ (w4 cy ad c4_made c4_kinds c4_places c4_rates c4_readings c4_bearing c5_legs c5_length c5_ways c5_units c5_stuffOf c5_point c6_bytes c6_sizes c6_weights ++ (w3 cy ad c3_size c3_rates ++ (w0 cy ad c0_amounts c0_lows c0_highs c0_barred ++ (w1 cy ad c1_lines c1_parts ++ (w2 cy ad c2_above c2_below)))))
abbrev v8 (cy : Nat → ClassId) (ad : Nat → Nat) (c8_latest : Int32) (c8_asked : Int32) (c8_upper : Int64) (c8_lower : Int64) (c8_legs : Int32) (c8_units : Int32) (c8_rests : Int32) (c8_rates : Int32) (c8_lines : Int32) (c8_came : Nat → Int32) (c8_sizes : Nat → Int32) (c8_weights : Nat → Int32) (c8_growths : Nat → Int32) (c8_copied : Nat → Int32) (c8_legWay : Nat → Int32) (c8_legUnits : Nat → Int32) (c8_legStuff : Nat → Int32) (c8_unitWay : Nat → Int32) (c8_unitStuff : Nat → Int32) (c8_xs : Nat → Int32) (c8_ys : Nat → Int32) (c8_zs : Nat → Int32) (c8_kindOf : Nat → Int32) (c8_placeOf : Nat → Int32) (c8_rateOf : Nat → Int32) (c8_readOf : Nat → Int32) (c8_isGone : Nat → Int32) (c8_theList : Nat → Int32) (c8_amounts : Nat → Int32) (c8_low : Nat → Int32) (c8_high : Nat → Int32) (c8_barred : Nat → Int32) (c8_times : Nat → Int32) (c8_ranges : Nat → Int32) : va_W := [((ad 80), .inr (8, [.int c8_latest, .ref (ad 1802), .int c8_asked, .long c8_upper, .long c8_lower, .ref (ad 1806), .ref (ad 1807), .ref (ad 1808), .ref (ad 1809), .int c8_legs, .ref (ad 1811), .ref (ad 1812), .ref (ad 1813), .int c8_units, .ref (ad 1815), .ref (ad 1816), .ref (ad 1817), .ref (ad 1818), .ref (ad 1819), .int c8_rests, .ref (ad 1821), .ref (ad 1822), .ref (ad 1823), .ref (ad 1824), .ref (ad 1825), .int c8_rates, .ref (ad 1827), .ref (ad 1828), .ref (ad 1829), .ref (ad 1830), .ref (ad 1831), .int c8_lines, .ref (ad 1833), .ref (ad 1834)])), ((ad 1802), .inl (cy 1, 6, .inl c8_came)), ((ad 1806), .inl (cy 1, 4, .inl c8_sizes)), ((ad 1807), .inl (cy 1, 4, .inl c8_weights)), ((ad 1808), .inl (cy 0, 64, .inl c8_growths)), ((ad 1809), .inl (cy 0, 16, .inl c8_copied)), ((ad 1811), .inl (cy 1, 12, .inl c8_legWay)), ((ad 1812), .inl (cy 1, 12, .inl c8_legUnits)), ((ad 1813), .inl (cy 1, 12, .inl c8_legStuff)), ((ad 1815), .inl (cy 1, 240, .inl c8_unitWay)), ((ad 1816), .inl (cy 1, 240, .inl c8_unitStuff)), ((ad 1817), .inl (cy 1, 241, .inl c8_xs)), ((ad 1818), .inl (cy 1, 241, .inl c8_ys)), ((ad 1819), .inl (cy 1, 241, .inl c8_zs)), ((ad 1821), .inl (cy 1, 12, .inl c8_kindOf)), ((ad 1822), .inl (cy 1, 12, .inl c8_placeOf)), ((ad 1823), .inl (cy 1, 12, .inl c8_rateOf)), ((ad 1824), .inl (cy 1, 12, .inl c8_readOf)), ((ad 1825), .inl (cy 2, 12, .inl c8_isGone)), ((ad 1827), .inl (cy 1, 12, .inl c8_theList)), ((ad 1828), .inl (cy 1, 8, .inl c8_amounts)), ((ad 1829), .inl (cy 1, 8, .inl c8_low)), ((ad 1830), .inl (cy 1, 8, .inl c8_high)), ((ad 1831), .inl (cy 1, 8, .inl c8_barred)), ((ad 1833), .inl (cy 1, 30, .inl c8_times)), ((ad 1834), .inl (cy 1, 30, .inl c8_ranges))]
abbrev w8 (cy : Nat → ClassId) (ad : Nat → Nat) (c8_latest : Int32) (c8_asked : Int32) (c8_upper : Int64) (c8_lower : Int64) (c8_legs : Int32) (c8_units : Int32) (c8_rests : Int32) (c8_rates : Int32) (c8_lines : Int32) (c8_came : Nat → Int32) (c8_sizes : Nat → Int32) (c8_weights : Nat → Int32) (c8_growths : Nat → Int32) (c8_copied : Nat → Int32) (c8_legWay : Nat → Int32) (c8_legUnits : Nat → Int32) (c8_legStuff : Nat → Int32) (c8_unitWay : Nat → Int32) (c8_unitStuff : Nat → Int32) (c8_xs : Nat → Int32) (c8_ys : Nat → Int32) (c8_zs : Nat → Int32) (c8_kindOf : Nat → Int32) (c8_placeOf : Nat → Int32) (c8_rateOf : Nat → Int32) (c8_readOf : Nat → Int32) (c8_isGone : Nat → Int32) (c8_theList : Nat → Int32) (c8_amounts : Nat → Int32) (c8_low : Nat → Int32) (c8_high : Nat → Int32) (c8_barred : Nat → Int32) (c8_times : Nat → Int32) (c8_ranges : Nat → Int32) : va_W := v8 cy ad c8_latest c8_asked c8_upper c8_lower c8_legs c8_units c8_rests c8_rates c8_lines c8_came c8_sizes c8_weights c8_growths c8_copied c8_legWay c8_legUnits c8_legStuff c8_unitWay c8_unitStuff c8_xs c8_ys c8_zs c8_kindOf c8_placeOf c8_rateOf c8_readOf c8_isGone c8_theList c8_amounts c8_low c8_high c8_barred c8_times c8_ranges
