section
-- ===== PART A: goes FIRST, ahead of the names: the tables' words, and 'selects' of the private methods out of them =====
/-- a private method of a class that the tables say can be made, by its rows of tables_1 -/
def lw_okq (q : MethodName × Nat) : Prop := (q.1.cls ≠ "java/lang/invoke/MethodHandle" ∧ q.1.cls ≠ "java/lang/invoke/VarHandle") ∧ Cond.instantiable q.1.cls q.2 ∈ tables_1 ∧ Cond.privateMethod q.1 ∈ tables_1 ∧ Cond.instanceMethod q.1 ∈ tables_1
theorem lw_p0 : lw_okq (⟨"HotPipes", "refuse", "(I)I"⟩, 10) := ⟨⟨by decide +kernel, by decide +kernel⟩, List.mem_of_getElem? (i := 14) (by decide +kernel), List.mem_of_getElem? (i := 202) (by decide +kernel), List.mem_of_getElem? (i := 203) (by decide +kernel)⟩
theorem lw_p1 : lw_okq (⟨"HotPipes", "refusalOfStuff", "(I)I"⟩, 10) := ⟨⟨by decide +kernel, by decide +kernel⟩, List.mem_of_getElem? (i := 14) (by decide +kernel), List.mem_of_getElem? (i := 214) (by decide +kernel), List.mem_of_getElem? (i := 215) (by decide +kernel)⟩
theorem lw_p2 : lw_okq (⟨"HotPipes$Run", "unitsBetween", "(IIII)I"⟩, 7) := ⟨⟨by decide +kernel, by decide +kernel⟩, List.mem_of_getElem? (i := 43) (by decide +kernel), List.mem_of_getElem? (i := 313) (by decide +kernel), List.mem_of_getElem? (i := 314) (by decide +kernel)⟩
theorem lw_p3 : lw_okq (⟨"HotPipes$Run", "loopsThatMeet", "(II)I"⟩, 7) := ⟨⟨by decide +kernel, by decide +kernel⟩, List.mem_of_getElem? (i := 43) (by decide +kernel), List.mem_of_getElem? (i := 380) (by decide +kernel), List.mem_of_getElem? (i := 381) (by decide +kernel)⟩
theorem lw_p4 : lw_okq (⟨"HotPipes$Run", "startAtFoot", "(I)V"⟩, 7) := ⟨⟨by decide +kernel, by decide +kernel⟩, List.mem_of_getElem? (i := 43) (by decide +kernel), List.mem_of_getElem? (i := 384) (by decide +kernel), List.mem_of_getElem? (i := 385) (by decide +kernel)⟩
theorem lw_p5 : lw_okq (⟨"HotPipes$Run", "loopsThatMeetPoint", "(II)I"⟩, 7) := ⟨⟨by decide +kernel, by decide +kernel⟩, List.mem_of_getElem? (i := 43) (by decide +kernel), List.mem_of_getElem? (i := 388) (by decide +kernel), List.mem_of_getElem? (i := 389) (by decide +kernel)⟩
theorem lw_p6 : lw_okq (⟨"HotPipes", "refusalOfRest", "(IZ)I"⟩, 10) := ⟨⟨by decide +kernel, by decide +kernel⟩, List.mem_of_getElem? (i := 14) (by decide +kernel), List.mem_of_getElem? (i := 426) (by decide +kernel), List.mem_of_getElem? (i := 427) (by decide +kernel)⟩
theorem lw_p7 : lw_okq (⟨"HotPipes$Rests", "isPresent", "(I)Z"⟩, 7) := ⟨⟨by decide +kernel, by decide +kernel⟩, List.mem_of_getElem? (i := 71) (by decide +kernel), List.mem_of_getElem? (i := 443) (by decide +kernel), List.mem_of_getElem? (i := 444) (by decide +kernel)⟩
theorem lw_p8 : lw_okq (⟨"HotPipes", "refusalOfSpring", "(II)I"⟩, 10) := ⟨⟨by decide +kernel, by decide +kernel⟩, List.mem_of_getElem? (i := 14) (by decide +kernel), List.mem_of_getElem? (i := 500) (by decide +kernel), List.mem_of_getElem? (i := 501) (by decide +kernel)⟩
theorem lw_p9 : lw_okq (⟨"HotPipes$Cases", "goesTogether", "(I)Z"⟩, 4) := ⟨⟨by decide +kernel, by decide +kernel⟩, List.mem_of_getElem? (i := 113) (by decide +kernel), List.mem_of_getElem? (i := 573) (by decide +kernel), List.mem_of_getElem? (i := 574) (by decide +kernel)⟩
theorem lw_p10 : lw_okq (⟨"HotPipes$Rests", "isRead", "(I)Z"⟩, 7) := ⟨⟨by decide +kernel, by decide +kernel⟩, List.mem_of_getElem? (i := 71) (by decide +kernel), List.mem_of_getElem? (i := 621) (by decide +kernel), List.mem_of_getElem? (i := 622) (by decide +kernel)⟩
theorem lw_p11 : lw_okq (⟨"HotPipesModel", "meets", "(I)I"⟩, 34) := ⟨⟨by decide +kernel, by decide +kernel⟩, List.mem_of_getElem? (i := 690) (by decide +kernel), List.mem_of_getElem? (i := 829) (by decide +kernel), List.mem_of_getElem? (i := 830) (by decide +kernel)⟩
theorem lw_p12 : lw_okq (⟨"HotPipesModel", "layRun", "()V"⟩, 34) := ⟨⟨by decide +kernel, by decide +kernel⟩, List.mem_of_getElem? (i := 690) (by decide +kernel), List.mem_of_getElem? (i := 857) (by decide +kernel), List.mem_of_getElem? (i := 858) (by decide +kernel)⟩
theorem lw_p13 : lw_okq (⟨"HotPipesModel", "tells", "(II)I"⟩, 34) := ⟨⟨by decide +kernel, by decide +kernel⟩, List.mem_of_getElem? (i := 690) (by decide +kernel), List.mem_of_getElem? (i := 872) (by decide +kernel), List.mem_of_getElem? (i := 873) (by decide +kernel)⟩
theorem lw_p14 : lw_okq (⟨"HotPipesModel", "grownTo", "(III)I"⟩, 34) := ⟨⟨by decide +kernel, by decide +kernel⟩, List.mem_of_getElem? (i := 690) (by decide +kernel), List.mem_of_getElem? (i := 883) (by decide +kernel), List.mem_of_getElem? (i := 884) (by decide +kernel)⟩
theorem lw_p15 : lw_okq (⟨"HotPipesModel", "growth", "(II)I"⟩, 34) := ⟨⟨by decide +kernel, by decide +kernel⟩, List.mem_of_getElem? (i := 690) (by decide +kernel), List.mem_of_getElem? (i := 887) (by decide +kernel), List.mem_of_getElem? (i := 888) (by decide +kernel)⟩
def lw_privs_1 : List (MethodName × Nat) := [(⟨"HotPipes", "refuse", "(I)I"⟩, 10), (⟨"HotPipes", "refusalOfStuff", "(I)I"⟩, 10), (⟨"HotPipes$Run", "unitsBetween", "(IIII)I"⟩, 7), (⟨"HotPipes$Run", "loopsThatMeet", "(II)I"⟩, 7), (⟨"HotPipes$Run", "startAtFoot", "(I)V"⟩, 7), (⟨"HotPipes$Run", "loopsThatMeetPoint", "(II)I"⟩, 7), (⟨"HotPipes", "refusalOfRest", "(IZ)I"⟩, 10), (⟨"HotPipes$Rests", "isPresent", "(I)Z"⟩, 7), (⟨"HotPipes", "refusalOfSpring", "(II)I"⟩, 10), (⟨"HotPipes$Cases", "goesTogether", "(I)Z"⟩, 4), (⟨"HotPipes$Rests", "isRead", "(I)Z"⟩, 7), (⟨"HotPipesModel", "meets", "(I)I"⟩, 34), (⟨"HotPipesModel", "layRun", "()V"⟩, 34), (⟨"HotPipesModel", "tells", "(II)I"⟩, 34), (⟨"HotPipesModel", "grownTo", "(III)I"⟩, 34), (⟨"HotPipesModel", "growth", "(II)I"⟩, 34)]
theorem lw_r1 : ∀ q ∈ lw_privs_1, lw_okq q := List.forall_mem_cons.mpr ⟨lw_p0, List.forall_mem_cons.mpr ⟨lw_p1, List.forall_mem_cons.mpr ⟨lw_p2, List.forall_mem_cons.mpr ⟨lw_p3, List.forall_mem_cons.mpr ⟨lw_p4, List.forall_mem_cons.mpr ⟨lw_p5, List.forall_mem_cons.mpr ⟨lw_p6, List.forall_mem_cons.mpr ⟨lw_p7, List.forall_mem_cons.mpr ⟨lw_p8, List.forall_mem_cons.mpr ⟨lw_p9, List.forall_mem_cons.mpr ⟨lw_p10, List.forall_mem_cons.mpr ⟨lw_p11, List.forall_mem_cons.mpr ⟨lw_p12, List.forall_mem_cons.mpr ⟨lw_p13, List.forall_mem_cons.mpr ⟨lw_p14, List.forall_mem_cons.mpr ⟨lw_p15, fun _ h => absurd h List.not_mem_nil⟩⟩⟩⟩⟩⟩⟩⟩⟩⟩⟩⟩⟩⟩⟩⟩
theorem lw_p16 : lw_okq (⟨"HotPipesModel", "room", "(III)I"⟩, 34) := ⟨⟨by decide +kernel, by decide +kernel⟩, List.mem_of_getElem? (i := 690) (by decide +kernel), List.mem_of_getElem? (i := 899) (by decide +kernel), List.mem_of_getElem? (i := 900) (by decide +kernel)⟩
theorem lw_p17 : lw_okq (⟨"HotPipesModel", "loopFor", "(IIII)I"⟩, 34) := ⟨⟨by decide +kernel, by decide +kernel⟩, List.mem_of_getElem? (i := 690) (by decide +kernel), List.mem_of_getElem? (i := 914) (by decide +kernel), List.mem_of_getElem? (i := 915) (by decide +kernel)⟩
theorem lw_p18 : lw_okq (⟨"HotPipesModel", "isFree", "(III)Z"⟩, 34) := ⟨⟨by decide +kernel, by decide +kernel⟩, List.mem_of_getElem? (i := 690) (by decide +kernel), List.mem_of_getElem? (i := 918) (by decide +kernel), List.mem_of_getElem? (i := 919) (by decide +kernel)⟩
theorem lw_p19 : lw_okq (⟨"HotPipesModel", "isTaken", "(III)Z"⟩, 34) := ⟨⟨by decide +kernel, by decide +kernel⟩, List.mem_of_getElem? (i := 690) (by decide +kernel), List.mem_of_getElem? (i := 922) (by decide +kernel), List.mem_of_getElem? (i := 923) (by decide +kernel)⟩
theorem lw_p20 : lw_okq (⟨"HotPipesModel", "isOnRun", "(III)Z"⟩, 34) := ⟨⟨by decide +kernel, by decide +kernel⟩, List.mem_of_getElem? (i := 690) (by decide +kernel), List.mem_of_getElem? (i := 926) (by decide +kernel), List.mem_of_getElem? (i := 927) (by decide +kernel)⟩
theorem lw_p21 : lw_okq (⟨"HotPipesModel", "need", "(ZI)I"⟩, 34) := ⟨⟨by decide +kernel, by decide +kernel⟩, List.mem_of_getElem? (i := 690) (by decide +kernel), List.mem_of_getElem? (i := 942) (by decide +kernel), List.mem_of_getElem? (i := 943) (by decide +kernel)⟩
theorem lw_p22 : lw_okq (⟨"HotPipesModel", "toldOf", "(II)I"⟩, 34) := ⟨⟨by decide +kernel, by decide +kernel⟩, List.mem_of_getElem? (i := 690) (by decide +kernel), List.mem_of_getElem? (i := 950) (by decide +kernel), List.mem_of_getElem? (i := 951) (by decide +kernel)⟩
theorem lw_p23 : lw_okq (⟨"HotPipesModel", "isThere", "(I)Z"⟩, 34) := ⟨⟨by decide +kernel, by decide +kernel⟩, List.mem_of_getElem? (i := 690) (by decide +kernel), List.mem_of_getElem? (i := 954) (by decide +kernel), List.mem_of_getElem? (i := 955) (by decide +kernel)⟩
theorem lw_p24 : lw_okq (⟨"HotPipesModel", "isLifted", "(II)Z"⟩, 34) := ⟨⟨by decide +kernel, by decide +kernel⟩, List.mem_of_getElem? (i := 690) (by decide +kernel), List.mem_of_getElem? (i := 966) (by decide +kernel), List.mem_of_getElem? (i := 967) (by decide +kernel)⟩
theorem lw_p25 : lw_okq (⟨"HotPipesModel", "twice", "(III)I"⟩, 34) := ⟨⟨by decide +kernel, by decide +kernel⟩, List.mem_of_getElem? (i := 690) (by decide +kernel), List.mem_of_getElem? (i := 974) (by decide +kernel), List.mem_of_getElem? (i := 975) (by decide +kernel)⟩
theorem lw_p26 : lw_okq (⟨"HotPipesModel", "isBearing", "(II)Z"⟩, 34) := ⟨⟨by decide +kernel, by decide +kernel⟩, List.mem_of_getElem? (i := 690) (by decide +kernel), List.mem_of_getElem? (i := 978) (by decide +kernel), List.mem_of_getElem? (i := 979) (by decide +kernel)⟩
theorem lw_p27 : lw_okq (⟨"HotPipesModel", "fraction", "(JJI)I"⟩, 34) := ⟨⟨by decide +kernel, by decide +kernel⟩, List.mem_of_getElem? (i := 690) (by decide +kernel), List.mem_of_getElem? (i := 983) (by decide +kernel), List.mem_of_getElem? (i := 984) (by decide +kernel)⟩
theorem lw_p28 : lw_okq (⟨"HotPipesModel", "needSpring", "(II)I"⟩, 34) := ⟨⟨by decide +kernel, by decide +kernel⟩, List.mem_of_getElem? (i := 690) (by decide +kernel), List.mem_of_getElem? (i := 991) (by decide +kernel), List.mem_of_getElem? (i := 992) (by decide +kernel)⟩
theorem lw_p29 : lw_okq (⟨"HotPipesModel", "movedOf", "(II)J"⟩, 34) := ⟨⟨by decide +kernel, by decide +kernel⟩, List.mem_of_getElem? (i := 690) (by decide +kernel), List.mem_of_getElem? (i := 995) (by decide +kernel), List.mem_of_getElem? (i := 996) (by decide +kernel)⟩
theorem lw_p30 : lw_okq (⟨"HotPipesModel", "mayJoin", "(I)Z"⟩, 34) := ⟨⟨by decide +kernel, by decide +kernel⟩, List.mem_of_getElem? (i := 690) (by decide +kernel), List.mem_of_getElem? (i := 1028) (by decide +kernel), List.mem_of_getElem? (i := 1029) (by decide +kernel)⟩
theorem lw_p31 : lw_okq (⟨"HotPipesModel", "joined", "(I)I"⟩, 34) := ⟨⟨by decide +kernel, by decide +kernel⟩, List.mem_of_getElem? (i := 690) (by decide +kernel), List.mem_of_getElem? (i := 1032) (by decide +kernel), List.mem_of_getElem? (i := 1033) (by decide +kernel)⟩
def lw_privs_2 : List (MethodName × Nat) := [(⟨"HotPipesModel", "room", "(III)I"⟩, 34), (⟨"HotPipesModel", "loopFor", "(IIII)I"⟩, 34), (⟨"HotPipesModel", "isFree", "(III)Z"⟩, 34), (⟨"HotPipesModel", "isTaken", "(III)Z"⟩, 34), (⟨"HotPipesModel", "isOnRun", "(III)Z"⟩, 34), (⟨"HotPipesModel", "need", "(ZI)I"⟩, 34), (⟨"HotPipesModel", "toldOf", "(II)I"⟩, 34), (⟨"HotPipesModel", "isThere", "(I)Z"⟩, 34), (⟨"HotPipesModel", "isLifted", "(II)Z"⟩, 34), (⟨"HotPipesModel", "twice", "(III)I"⟩, 34), (⟨"HotPipesModel", "isBearing", "(II)Z"⟩, 34), (⟨"HotPipesModel", "fraction", "(JJI)I"⟩, 34), (⟨"HotPipesModel", "needSpring", "(II)I"⟩, 34), (⟨"HotPipesModel", "movedOf", "(II)J"⟩, 34), (⟨"HotPipesModel", "mayJoin", "(I)Z"⟩, 34), (⟨"HotPipesModel", "joined", "(I)I"⟩, 34)]
theorem lw_r2 : ∀ q ∈ lw_privs_2, lw_okq q := List.forall_mem_cons.mpr ⟨lw_p16, List.forall_mem_cons.mpr ⟨lw_p17, List.forall_mem_cons.mpr ⟨lw_p18, List.forall_mem_cons.mpr ⟨lw_p19, List.forall_mem_cons.mpr ⟨lw_p20, List.forall_mem_cons.mpr ⟨lw_p21, List.forall_mem_cons.mpr ⟨lw_p22, List.forall_mem_cons.mpr ⟨lw_p23, List.forall_mem_cons.mpr ⟨lw_p24, List.forall_mem_cons.mpr ⟨lw_p25, List.forall_mem_cons.mpr ⟨lw_p26, List.forall_mem_cons.mpr ⟨lw_p27, List.forall_mem_cons.mpr ⟨lw_p28, List.forall_mem_cons.mpr ⟨lw_p29, List.forall_mem_cons.mpr ⟨lw_p30, List.forall_mem_cons.mpr ⟨lw_p31, fun _ h => absurd h List.not_mem_nil⟩⟩⟩⟩⟩⟩⟩⟩⟩⟩⟩⟩⟩⟩⟩⟩
theorem lw_p32 : lw_okq (⟨"HotPipesModel", "differs", "(II)I"⟩, 34) := ⟨⟨by decide +kernel, by decide +kernel⟩, List.mem_of_getElem? (i := 690) (by decide +kernel), List.mem_of_getElem? (i := 1054) (by decide +kernel), List.mem_of_getElem? (i := 1055) (by decide +kernel)⟩
def lw_privs_3 : List (MethodName × Nat) := [(⟨"HotPipesModel", "differs", "(II)I"⟩, 34)]
theorem lw_r3 : ∀ q ∈ lw_privs_3, lw_okq q := List.forall_mem_cons.mpr ⟨lw_p32, fun _ h => absurd h List.not_mem_nil⟩
def lw_privs : List (MethodName × Nat) := lw_privs_1 ++ (lw_privs_2 ++ (lw_privs_3))
def lw_tbl : List Cond := k2_sels lw_privs ++ tables_1
theorem lw_privs_ok : ∀ q ∈ lw_privs, lw_okq q := by
  show ∀ q ∈ lw_privs_1 ++ (lw_privs_2 ++ (lw_privs_3)), lw_okq q
  exact List.forall_mem_append.mpr ⟨lw_r1, List.forall_mem_append.mpr ⟨lw_r2, lw_r3⟩⟩
end
section
/-! ===== BEGIN words of one list among another's, by their places ===== -/
theorem goodIn_r {big : List Cond} (ws : List Cond) (ps : List Nat) (hp : ws = ps.filterMap (fun i => big[i]?)) (h : ws.all goodWord = true) : GoodIn big ws := by
  intro w hw
  have h1 := List.all_eq_true.mp h w hw
  rw [hp] at hw
  obtain ⟨i, -, hi⟩ := List.mem_filterMap.mp hw
  have hm : w ∈ big := by first | exact List.mem_of_getElem? hi | exact List.getElem?_mem hi
  exact ⟨hm, good_of_word h1⟩
theorem goodIn_app {big a b : List Cond} (ha : GoodIn big a) (hb : GoodIn big b) : GoodIn big (a ++ b) := fun w h => (List.mem_append.mp h).elim (ha w) (hb w)
theorem goodIn_ca {big a b : List Cond} {c : Cond} (ha : GoodIn big (c :: a)) (hb : GoodIn big b) : GoodIn big (c :: (a ++ b)) := fun w h => (List.mem_cons.mp h).elim (fun e => ha w (List.mem_cons.mpr (Or.inl e))) (fun h => (List.mem_append.mp h).elim (fun h => ha w (List.mem_cons.mpr (Or.inr h))) (hb w))
theorem goodIn_sub {big ws : List Cond} (hm : ∀ w ∈ ws, w ∈ big) (h : ws.all goodWord = true) : GoodIn big ws := fun w hw => ⟨hm w hw, good_of_word (List.all_eq_true.mp h w hw)⟩
/-! ===== END ===== -/

/-! ===== BEGIN printed: names, fields, word lists, decode rows ===== -/
def RX0 : String := "HotPipes$Cases"
def TX0 : u_T := fun k => match k with
  | 0 => ("HotPipes$Cases", "amounts", "[I", true)
  | 1 => ("HotPipes$Cases", "lows", "[I", true)
  | 2 => ("HotPipes$Cases", "highs", "[I", true)
  | _ => ("HotPipes$Cases", "barred", "[I", true)
def tyX0 : Nat → FieldType := fun k => match k with
  | 0 => .array .int
  | 1 => .array .int
  | 2 => .array .int
  | _ => .array .int
abbrev wsX00 : List Cond := u_ws RX0 TX0 4
theorem nmX0 : ∀ a, a < 4 → ∀ b, b < 4 → a ≠ b → (TX0 a).2.1 ≠ (TX0 b).2.1 := by decide +kernel
theorem tyX0_ok : ∀ k, k < 4 → parseFieldDescriptor (TX0 k).2.2.1 = some (tyX0 k) := by decide +kernel
abbrev cX0_init : ByteArray := prog_2_method_1_code
def yX0_init : MethodName := ⟨RX0, "<init>", "()V"⟩
abbrev cX0_put : ByteArray := prog_2_method_2_code
def yX0_put : MethodName := ⟨RX0, "put", "(IIII)V"⟩
abbrev cX0_setBarred : ByteArray := prog_2_method_3_code
def yX0_setBarred : MethodName := ⟨RX0, "setBarred", "(IIZ)Z"⟩
abbrev cX0_worstSet : ByteArray := prog_2_method_4_code
def yX0_worstSet : MethodName := ⟨RX0, "worstSet", "()I"⟩
abbrev cX0_goesTogether : ByteArray := prog_2_method_5_code
def yX0_goesTogether : MethodName := ⟨RX0, "goesTogether", "(I)Z"⟩
abbrev cX0_joined : ByteArray := prog_2_method_6_code
def yX0_joined : MethodName := ⟨RX0, "joined", "(I)I"⟩
abbrev cX0_mixInto : ByteArray := prog_2_method_7_code
def yX0_mixInto : MethodName := ⟨RX0, "mixInto", "(J)J"⟩
def RX1 : String := "HotPipes$Cycles"
def TX1 : u_T := fun k => match k with
  | 0 => ("HotPipes$Cycles", "lines", "I", false)
  | _ => ("HotPipes$Cycles", "parts", "J", false)
def tyX1 : Nat → FieldType := fun k => match k with
  | 0 => .int
  | _ => .long
abbrev wsX10 : List Cond := u_ws RX1 TX1 2
theorem nmX1 : ∀ a, a < 2 → ∀ b, b < 2 → a ≠ b → (TX1 a).2.1 ≠ (TX1 b).2.1 := by decide +kernel
theorem tyX1_ok : ∀ k, k < 2 → parseFieldDescriptor (TX1 k).2.2.1 = some (tyX1 k) := by decide +kernel
abbrev cX1_init : ByteArray := prog_3_method_1_code
def yX1_init : MethodName := ⟨RX1, "<init>", "()V"⟩
abbrev cX1_lines : ByteArray := prog_3_method_2_code
def yX1_lines : MethodName := ⟨RX1, "lines", "()I"⟩
abbrev cX1_partsUsed : ByteArray := prog_3_method_3_code
def yX1_partsUsed : MethodName := ⟨RX1, "partsUsed", "()J"⟩
abbrev cX1_append : ByteArray := prog_3_method_4_code
def yX1_append : MethodName := ⟨RX1, "append", "(II)V"⟩
def RX2 : String := "HotPipes$Fraction"
def TX2 : u_T := fun k => match k with
  | 0 => ("HotPipes$Fraction", "above", "J", false)
  | _ => ("HotPipes$Fraction", "below", "J", false)
def tyX2 : Nat → FieldType := fun k => match k with
  | 0 => .long
  | _ => .long
abbrev wsX20 : List Cond := u_ws RX2 TX2 2
theorem nmX2 : ∀ a, a < 2 → ∀ b, b < 2 → a ≠ b → (TX2 a).2.1 ≠ (TX2 b).2.1 := by decide +kernel
theorem tyX2_ok : ∀ k, k < 2 → parseFieldDescriptor (TX2 k).2.2.1 = some (tyX2 k) := by decide +kernel
abbrev cX2_init : ByteArray := prog_4_method_1_code
def yX2_init : MethodName := ⟨RX2, "<init>", "()V"⟩
abbrev cX2_put : ByteArray := prog_4_method_2_code
def yX2_put : MethodName := ⟨RX2, "put", "(JJ)V"⟩
abbrev cX2_greatestShared : ByteArray := prog_4_method_3_code
def yX2_greatestShared : MethodName := ⟨RX2, "greatestShared", "(JJ)J"⟩
def RX3 : String := "HotPipes$Rates"
def TX3 : u_T := fun k => match k with
  | 0 => ("HotPipes$Rates", "rates", "[I", true)
  | _ => ("HotPipes$Rates", "size", "I", false)
def tyX3 : Nat → FieldType := fun k => match k with
  | 0 => .array .int
  | _ => .int
abbrev wsX30 : List Cond := u_ws RX3 TX3 2
theorem nmX3 : ∀ a, a < 2 → ∀ b, b < 2 → a ≠ b → (TX3 a).2.1 ≠ (TX3 b).2.1 := by decide +kernel
theorem tyX3_ok : ∀ k, k < 2 → parseFieldDescriptor (TX3 k).2.2.1 = some (tyX3 k) := by decide +kernel
abbrev cX3_init : ByteArray := prog_5_method_1_code
def yX3_init : MethodName := ⟨RX3, "<init>", "()V"⟩
abbrev cX3_size : ByteArray := prog_5_method_2_code
def yX3_size : MethodName := ⟨RX3, "size", "()I"⟩
abbrev cX3_append : ByteArray := prog_5_method_3_code
def yX3_append : MethodName := ⟨RX3, "append", "(I)V"⟩
abbrev cX3_greatestFirmEnough : ByteArray := prog_5_method_4_code
def yX3_greatestFirmEnough : MethodName := ⟨RX3, "greatestFirmEnough", "(II)I"⟩
def RX4 : String := "HotPipes$Rests"
def TX4 : u_T := fun k => match k with
  | 0 => ("HotPipes$Rests", "run", "LHotPipes$Run;", true)
  | 1 => ("HotPipes$Rests", "kinds", "[I", true)
  | 2 => ("HotPipes$Rests", "places", "[I", true)
  | 3 => ("HotPipes$Rests", "rates", "[I", true)
  | 4 => ("HotPipes$Rests", "readings", "[I", true)
  | 5 => ("HotPipes$Rests", "bearing", "[Z", true)
  | _ => ("HotPipes$Rests", "made", "I", false)
def tyX4 : Nat → FieldType := fun k => match k with
  | 0 => .object "HotPipes$Run"
  | 1 => .array .int
  | 2 => .array .int
  | 3 => .array .int
  | 4 => .array .int
  | 5 => .array .boolean
  | _ => .int
abbrev wsX40 : List Cond := u_ws RX4 TX4 7
theorem nmX4 : ∀ a, a < 7 → ∀ b, b < 7 → a ≠ b → (TX4 a).2.1 ≠ (TX4 b).2.1 := by decide +kernel
theorem tyX4_ok : ∀ k, k < 7 → parseFieldDescriptor (TX4 k).2.2.1 = some (tyX4 k) := by decide +kernel
abbrev cX4_init : ByteArray := prog_6_method_1_code
def yX4_init : MethodName := ⟨RX4, "<init>", "(LHotPipes$Run;)V"⟩
abbrev cX4_made : ByteArray := prog_6_method_2_code
def yX4_made : MethodName := ⟨RX4, "made", "()I"⟩
abbrev cX4_kept : ByteArray := prog_6_method_3_code
def yX4_kept : MethodName := ⟨RX4, "kept", "()I"⟩
abbrev cX4_isGone : ByteArray := prog_6_method_4_code
def yX4_isGone : MethodName := ⟨RX4, "isGone", "(I)Z"⟩
abbrev cX4_isTaken : ByteArray := prog_6_method_5_code
def yX4_isTaken : MethodName := ⟨RX4, "isTaken", "(I)Z"⟩
abbrev cX4_put : ByteArray := prog_6_method_6_code
def yX4_put : MethodName := ⟨RX4, "put", "(III)I"⟩
abbrev cX4_remove : ByteArray := prog_6_method_7_code
def yX4_remove : MethodName := ⟨RX4, "remove", "(I)V"⟩
abbrev cX4_tell : ByteArray := prog_6_method_8_code
def yX4_tell : MethodName := ⟨RX4, "tell", "(II)I"⟩
abbrev cX4_isPresent : ByteArray := prog_6_method_9_code
def yX4_isPresent : MethodName := ⟨RX4, "isPresent", "(I)Z"⟩
abbrev cX4_isOfKind : ByteArray := prog_6_method_10_code
def yX4_isOfKind : MethodName := ⟨RX4, "isOfKind", "(II)Z"⟩
abbrev cX4_isLifted : ByteArray := prog_6_method_11_code
def yX4_isLifted : MethodName := ⟨RX4, "isLifted", "(II)Z"⟩
abbrev cX4_rateOf : ByteArray := prog_6_method_12_code
def yX4_rateOf : MethodName := ⟨RX4, "rateOf", "(I)I"⟩
abbrev cX4_setRate : ByteArray := prog_6_method_13_code
def yX4_setRate : MethodName := ⟨RX4, "setRate", "(II)V"⟩
abbrev cX4_travel : ByteArray := prog_6_method_14_code
def yX4_travel : MethodName := ⟨RX4, "travel", "(II)I"⟩
abbrev cX4_noteBearing : ByteArray := prog_6_method_15_code
def yX4_noteBearing : MethodName := ⟨RX4, "noteBearing", "(I)V"⟩
abbrev cX4_isBearing : ByteArray := prog_6_method_16_code
def yX4_isBearing : MethodName := ⟨RX4, "isBearing", "(I)Z"⟩
abbrev cX4_twiceLoad : ByteArray := prog_6_method_17_code
def yX4_twiceLoad : MethodName := ⟨RX4, "twiceLoad", "(II)I"⟩
abbrev cX4_replaceReading : ByteArray := prog_6_method_18_code
def yX4_replaceReading : MethodName := ⟨RX4, "replaceReading", "(II)I"⟩
abbrev cX4_isRead : ByteArray := prog_6_method_19_code
def yX4_isRead : MethodName := ⟨RX4, "isRead", "(I)Z"⟩
abbrev cX4_hasReading : ByteArray := prog_6_method_20_code
def yX4_hasReading : MethodName := ⟨RX4, "hasReading", "()Z"⟩
abbrev cX4_differenceWithout : ByteArray := prog_6_method_21_code
def yX4_differenceWithout : MethodName := ⟨RX4, "differenceWithout", "(I)I"⟩
abbrev cX4_mixInto : ByteArray := prog_6_method_22_code
def yX4_mixInto : MethodName := ⟨RX4, "mixInto", "(J)J"⟩
def RX5 : String := "HotPipes$Run"
def TX5 : u_T := fun k => match k with
  | 0 => ("HotPipes$Run", "stuffs", "LHotPipes$Stuffs;", true)
  | 1 => ("HotPipes$Run", "ways", "[I", true)
  | 2 => ("HotPipes$Run", "units", "[I", true)
  | 3 => ("HotPipes$Run", "stuffOf", "[I", true)
  | 4 => ("HotPipes$Run", "point", "[I", true)
  | 5 => ("HotPipes$Run", "legs", "I", false)
  | _ => ("HotPipes$Run", "length", "I", false)
def tyX5 : Nat → FieldType := fun k => match k with
  | 0 => .object "HotPipes$Stuffs"
  | 1 => .array .int
  | 2 => .array .int
  | 3 => .array .int
  | 4 => .array .int
  | 5 => .int
  | _ => .int
abbrev wsX50 : List Cond := u_ws RX5 TX5 7
theorem nmX5 : ∀ a, a < 7 → ∀ b, b < 7 → a ≠ b → (TX5 a).2.1 ≠ (TX5 b).2.1 := by decide +kernel
theorem tyX5_ok : ∀ k, k < 7 → parseFieldDescriptor (TX5 k).2.2.1 = some (tyX5 k) := by decide +kernel
abbrev cX5_init : ByteArray := prog_7_method_1_code
def yX5_init : MethodName := ⟨RX5, "<init>", "(LHotPipes$Stuffs;)V"⟩
abbrev cX5_legs : ByteArray := prog_7_method_2_code
def yX5_legs : MethodName := ⟨RX5, "legs", "()I"⟩
abbrev cX5_length : ByteArray := prog_7_method_3_code
def yX5_length : MethodName := ⟨RX5, "length", "()I"⟩
abbrev cX5_unitsOf : ByteArray := prog_7_method_4_code
def yX5_unitsOf : MethodName := ⟨RX5, "unitsOf", "(I)I"⟩
abbrev cX5_isAcross : ByteArray := prog_7_method_5_code
def yX5_isAcross : MethodName := ⟨RX5, "isAcross", "(II)Z"⟩
abbrev cX5_append : ByteArray := prog_7_method_6_code
def yX5_append : MethodName := ⟨RX5, "append", "(III)V"⟩
abbrev cX5_removeLast : ByteArray := prog_7_method_7_code
def yX5_removeLast : MethodName := ⟨RX5, "removeLast", "()V"⟩
abbrev cX5_position : ByteArray := prog_7_method_8_code
def yX5_position : MethodName := ⟨RX5, "position", "(II)I"⟩
abbrev cX5_growth : ByteArray := prog_7_method_9_code
def yX5_growth : MethodName := ⟨RX5, "growth", "(III)I"⟩
abbrev cX5_weight : ByteArray := prog_7_method_10_code
def yX5_weight : MethodName := ⟨RX5, "weight", "(II)I"⟩
abbrev cX5_unitsBetween : ByteArray := prog_7_method_11_code
def yX5_unitsBetween : MethodName := ⟨RX5, "unitsBetween", "(IIII)I"⟩
abbrev cX5_spare : ByteArray := prog_7_method_12_code
def yX5_spare : MethodName := ⟨RX5, "spare", "(III)I"⟩
abbrev cX5_firstSoft : ByteArray := prog_7_method_13_code
def yX5_firstSoft : MethodName := ⟨RX5, "firstSoft", "(II)I"⟩
abbrev cX5_leastLoop : ByteArray := prog_7_method_14_code
def yX5_leastLoop : MethodName := ⟨RX5, "leastLoop", "(III)I"⟩
abbrev cX5_loopsThatMeet : ByteArray := prog_7_method_15_code
def yX5_loopsThatMeet : MethodName := ⟨RX5, "loopsThatMeet", "(II)I"⟩
abbrev cX5_startAtFoot : ByteArray := prog_7_method_16_code
def yX5_startAtFoot : MethodName := ⟨RX5, "startAtFoot", "(I)V"⟩
abbrev cX5_loopsThatMeetPoint : ByteArray := prog_7_method_17_code
def yX5_loopsThatMeetPoint : MethodName := ⟨RX5, "loopsThatMeetPoint", "(II)I"⟩
abbrev cX5_mixInto : ByteArray := prog_7_method_18_code
def yX5_mixInto : MethodName := ⟨RX5, "mixInto", "(J)J"⟩
abbrev cX5_axisOf : ByteArray := prog_7_method_19_code
def yX5_axisOf : MethodName := ⟨RX5, "axisOf", "(I)I"⟩
abbrev cX5_signOf : ByteArray := prog_7_method_20_code
def yX5_signOf : MethodName := ⟨RX5, "signOf", "(I)I"⟩
abbrev cX5_root : ByteArray := prog_7_method_21_code
def yX5_root : MethodName := ⟨RX5, "root", "(J)I"⟩
def RX6 : String := "HotPipes$Stuffs"
def TX6 : u_T := fun k => match k with
  | 0 => ("HotPipes$Stuffs", "bytes", "[B", true)
  | 1 => ("HotPipes$Stuffs", "sizes", "[I", true)
  | _ => ("HotPipes$Stuffs", "weights", "[I", true)
def tyX6 : Nat → FieldType := fun k => match k with
  | 0 => .array .byte
  | 1 => .array .int
  | _ => .array .int
abbrev wsX60 : List Cond := u_ws RX6 TX6 3
theorem nmX6 : ∀ a, a < 3 → ∀ b, b < 3 → a ≠ b → (TX6 a).2.1 ≠ (TX6 b).2.1 := by decide +kernel
theorem tyX6_ok : ∀ k, k < 3 → parseFieldDescriptor (TX6 k).2.2.1 = some (tyX6 k) := by decide +kernel
abbrev cX6_init : ByteArray := prog_8_method_1_code
def yX6_init : MethodName := ⟨RX6, "<init>", "()V"⟩
abbrev cX6_isThere : ByteArray := prog_8_method_2_code
def yX6_isThere : MethodName := ⟨RX6, "isThere", "(I)Z"⟩
abbrev cX6_hasBytes : ByteArray := prog_8_method_3_code
def yX6_hasBytes : MethodName := ⟨RX6, "hasBytes", "(III)Z"⟩
abbrev cX6_sizeOf : ByteArray := prog_8_method_4_code
def yX6_sizeOf : MethodName := ⟨RX6, "sizeOf", "(I)I"⟩
abbrev cX6_weightOf : ByteArray := prog_8_method_5_code
def yX6_weightOf : MethodName := ⟨RX6, "weightOf", "(I)I"⟩
abbrev cX6_growthAt : ByteArray := prog_8_method_6_code
def yX6_growthAt : MethodName := ⟨RX6, "growthAt", "(II)I"⟩
abbrev cX6_begin : ByteArray := prog_8_method_7_code
def yX6_begin : MethodName := ⟨RX6, "begin", "(II)V"⟩
abbrev cX6_end : ByteArray := prog_8_method_8_code
def yX6_end : MethodName := ⟨RX6, "end", "(I)V"⟩
abbrev cX6_replace : ByteArray := prog_8_method_9_code
def yX6_replace : MethodName := ⟨RX6, "replace", "(IIB)I"⟩
abbrev cX6_transfer : ByteArray := prog_8_method_10_code
def yX6_transfer : MethodName := ⟨RX6, "transfer", "(IIIII)V"⟩
abbrev cX6_reweigh : ByteArray := prog_8_method_11_code
def yX6_reweigh : MethodName := ⟨RX6, "reweigh", "(II)I"⟩
abbrev cX6_sumOf : ByteArray := prog_8_method_12_code
def yX6_sumOf : MethodName := ⟨RX6, "sumOf", "(I)I"⟩
abbrev cX6_mixInto : ByteArray := prog_8_method_13_code
def yX6_mixInto : MethodName := ⟨RX6, "mixInto", "(J)J"⟩
def RX7 : String := "HotPipes"
def TX7 : u_T := fun k => match k with
  | 0 => ("HotPipes", "stuffs", "LHotPipes$Stuffs;", true)
  | 1 => ("HotPipes", "run", "LHotPipes$Run;", true)
  | 2 => ("HotPipes", "rests", "LHotPipes$Rests;", true)
  | 3 => ("HotPipes", "rates", "LHotPipes$Rates;", true)
  | 4 => ("HotPipes", "cases", "LHotPipes$Cases;", true)
  | 5 => ("HotPipes", "cycles", "LHotPipes$Cycles;", true)
  | 6 => ("HotPipes", "fraction", "LHotPipes$Fraction;", true)
  | 7 => ("HotPipes", "found", "[I", true)
  | 8 => ("HotPipes", "lastFound", "I", false)
  | _ => ("HotPipes", "lastAsked", "I", false)
def tyX7 : Nat → FieldType := fun k => match k with
  | 0 => .object "HotPipes$Stuffs"
  | 1 => .object "HotPipes$Run"
  | 2 => .object "HotPipes$Rests"
  | 3 => .object "HotPipes$Rates"
  | 4 => .object "HotPipes$Cases"
  | 5 => .object "HotPipes$Cycles"
  | 6 => .object "HotPipes$Fraction"
  | 7 => .array .int
  | 8 => .int
  | _ => .int
abbrev wsX70 : List Cond := u_ws RX7 TX7 10
theorem nmX7 : ∀ a, a < 10 → ∀ b, b < 10 → a ≠ b → (TX7 a).2.1 ≠ (TX7 b).2.1 := by decide +kernel
theorem tyX7_ok : ∀ k, k < 10 → parseFieldDescriptor (TX7 k).2.2.1 = some (tyX7 k) := by decide +kernel
abbrev cX7_init : ByteArray := prog_1_method_1_code
def yX7_init : MethodName := ⟨RX7, "<init>", "()V"⟩
abbrev cX7_stuff : ByteArray := prog_1_method_2_code
def yX7_stuff : MethodName := ⟨RX7, "stuff", "(II)I"⟩
abbrev cX7_lay : ByteArray := prog_1_method_3_code
def yX7_lay : MethodName := ⟨RX7, "lay", "(III)I"⟩
abbrev cX7_tear : ByteArray := prog_1_method_4_code
def yX7_tear : MethodName := ⟨RX7, "tear", "(I)I"⟩
abbrev cX7_copy : ByteArray := prog_1_method_5_code
def yX7_copy : MethodName := ⟨RX7, "copy", "(IIIII)I"⟩
abbrev cX7_weigh : ByteArray := prog_1_method_6_code
def yX7_weigh : MethodName := ⟨RX7, "weigh", "(II)I"⟩
abbrev cX7_mean : ByteArray := prog_1_method_7_code
def yX7_mean : MethodName := ⟨RX7, "mean", "(I)I"⟩
abbrev cX7_leg : ByteArray := prog_1_method_8_code
def yX7_leg : MethodName := ⟨RX7, "leg", "(III)I"⟩
abbrev cX7_cut : ByteArray := prog_1_method_9_code
def yX7_cut : MethodName := ⟨RX7, "cut", "()I"⟩
abbrev cX7_where : ByteArray := prog_1_method_10_code
def yX7_where : MethodName := ⟨RX7, "where", "(II)I"⟩
abbrev cX7_grown : ByteArray := prog_1_method_11_code
def yX7_grown : MethodName := ⟨RX7, "grown", "(II)I"⟩
abbrev cX7_move : ByteArray := prog_1_method_12_code
def yX7_move : MethodName := ⟨RX7, "move", "(II)I"⟩
abbrev cX7_soft : ByteArray := prog_1_method_13_code
def yX7_soft : MethodName := ⟨RX7, "soft", "(II)I"⟩
abbrev cX7_loop : ByteArray := prog_1_method_14_code
def yX7_loop : MethodName := ⟨RX7, "loop", "(IIII)I"⟩
abbrev cX7_bestLoop : ByteArray := prog_1_method_15_code
def yX7_bestLoop : MethodName := ⟨RX7, "bestLoop", "(II)I"⟩
abbrev cX7_rest : ByteArray := prog_1_method_16_code
def yX7_rest : MethodName := ⟨RX7, "rest", "(III)I"⟩
abbrev cX7_drop : ByteArray := prog_1_method_17_code
def yX7_drop : MethodName := ⟨RX7, "drop", "(I)I"⟩
abbrev cX7_told : ByteArray := prog_1_method_18_code
def yX7_told : MethodName := ⟨RX7, "told", "(II)I"⟩
abbrev cX7_is : ByteArray := prog_1_method_19_code
def yX7_is : MethodName := ⟨RX7, "is", "(II)I"⟩
abbrev cX7_lifts : ByteArray := prog_1_method_20_code
def yX7_lifts : MethodName := ⟨RX7, "lifts", "(II)I"⟩
abbrev cX7_load : ByteArray := prog_1_method_21_code
def yX7_load : MethodName := ⟨RX7, "load", "(II)I"⟩
abbrev cX7_change : ByteArray := prog_1_method_22_code
def yX7_change : MethodName := ⟨RX7, "change", "(II)I"⟩
abbrev cX7_firm : ByteArray := prog_1_method_23_code
def yX7_firm : MethodName := ⟨RX7, "firm", "(II)I"⟩
abbrev cX7_list : ByteArray := prog_1_method_24_code
def yX7_list : MethodName := ⟨RX7, "list", "(I)I"⟩
abbrev cX7_choose : ByteArray := prog_1_method_25_code
def yX7_choose : MethodName := ⟨RX7, "choose", "(II)I"⟩
abbrev cX7_amount : ByteArray := prog_1_method_26_code
def yX7_amount : MethodName := ⟨RX7, "amount", "(IIII)I"⟩
abbrev cX7_bar : ByteArray := prog_1_method_27_code
def yX7_bar : MethodName := ⟨RX7, "bar", "(IIZ)I"⟩
abbrev cX7_worst : ByteArray := prog_1_method_28_code
def yX7_worst : MethodName := ⟨RX7, "worst", "()I"⟩
abbrev cX7_cycle : ByteArray := prog_1_method_29_code
def yX7_cycle : MethodName := ⟨RX7, "cycle", "(II)I"⟩
abbrev cX7_used : ByteArray := prog_1_method_30_code
def yX7_used : MethodName := ⟨RX7, "used", "()I"⟩
abbrev cX7_read : ByteArray := prog_1_method_31_code
def yX7_read : MethodName := ⟨RX7, "read", "(II)I"⟩
abbrev cX7_missing : ByteArray := prog_1_method_32_code
def yX7_missing : MethodName := ⟨RX7, "missing", "(I)I"⟩
abbrev cX7_asked : ByteArray := prog_1_method_33_code
def yX7_asked : MethodName := ⟨RX7, "asked", "()I"⟩
abbrev cX7_upper : ByteArray := prog_1_method_34_code
def yX7_upper : MethodName := ⟨RX7, "upper", "()J"⟩
abbrev cX7_lower : ByteArray := prog_1_method_35_code
def yX7_lower : MethodName := ⟨RX7, "lower", "()J"⟩
abbrev cX7_count : ByteArray := prog_1_method_36_code
def yX7_count : MethodName := ⟨RX7, "count", "(I)I"⟩
abbrev cX7_finding : ByteArray := prog_1_method_37_code
def yX7_finding : MethodName := ⟨RX7, "finding", "()I"⟩
abbrev cX7_findings : ByteArray := prog_1_method_38_code
def yX7_findings : MethodName := ⟨RX7, "findings", "(I)I"⟩
abbrev cX7_digest : ByteArray := prog_1_method_39_code
def yX7_digest : MethodName := ⟨RX7, "digest", "()J"⟩
abbrev cX7_refuse : ByteArray := prog_1_method_40_code
def yX7_refuse : MethodName := ⟨RX7, "refuse", "(I)I"⟩
abbrev cX7_refusalOfStuff : ByteArray := prog_1_method_41_code
def yX7_refusalOfStuff : MethodName := ⟨RX7, "refusalOfStuff", "(I)I"⟩
abbrev cX7_refusalOfRest : ByteArray := prog_1_method_42_code
def yX7_refusalOfRest : MethodName := ⟨RX7, "refusalOfRest", "(IZ)I"⟩
abbrev cX7_refusalOfSpring : ByteArray := prog_1_method_43_code
def yX7_refusalOfSpring : MethodName := ⟨RX7, "refusalOfSpring", "(II)I"⟩
abbrev cX7_isWithin : ByteArray := prog_1_method_44_code
def yX7_isWithin : MethodName := ⟨RX7, "isWithin", "(III)Z"⟩
abbrev cX7_isStuff : ByteArray := prog_1_method_45_code
def yX7_isStuff : MethodName := ⟨RX7, "isStuff", "(I)Z"⟩
abbrev cX7_isStep : ByteArray := prog_1_method_46_code
def yX7_isStep : MethodName := ⟨RX7, "isStep", "(I)Z"⟩
abbrev cX7_isWay : ByteArray := prog_1_method_47_code
def yX7_isWay : MethodName := ⟨RX7, "isWay", "(I)Z"⟩
abbrev cX7_isAxis : ByteArray := prog_1_method_48_code
def yX7_isAxis : MethodName := ⟨RX7, "isAxis", "(I)Z"⟩
abbrev cX7_isThickness : ByteArray := prog_1_method_49_code
def yX7_isThickness : MethodName := ⟨RX7, "isThickness", "(I)Z"⟩
abbrev cX7_isKind : ByteArray := prog_1_method_50_code
def yX7_isKind : MethodName := ⟨RX7, "isKind", "(I)Z"⟩
abbrev cX7_isRate : ByteArray := prog_1_method_51_code
def yX7_isRate : MethodName := ⟨RX7, "isRate", "(I)Z"⟩
abbrev cX7_isCase : ByteArray := prog_1_method_52_code
def yX7_isCase : MethodName := ⟨RX7, "isCase", "(I)Z"⟩
def RX8 : String := "HotPipesModel"
def TX8 : u_T := fun k => match k with
  | 0 => ("HotPipesModel", "latest", "I", false)
  | 1 => ("HotPipesModel", "came", "[I", true)
  | 2 => ("HotPipesModel", "asked", "I", false)
  | 3 => ("HotPipesModel", "upper", "J", false)
  | 4 => ("HotPipesModel", "lower", "J", false)
  | 5 => ("HotPipesModel", "sizes", "[I", true)
  | 6 => ("HotPipesModel", "weights", "[I", true)
  | 7 => ("HotPipesModel", "growths", "[B", true)
  | 8 => ("HotPipesModel", "copied", "[B", true)
  | 9 => ("HotPipesModel", "legs", "I", false)
  | 10 => ("HotPipesModel", "legWay", "[I", true)
  | 11 => ("HotPipesModel", "legUnits", "[I", true)
  | 12 => ("HotPipesModel", "legStuff", "[I", true)
  | 13 => ("HotPipesModel", "units", "I", false)
  | 14 => ("HotPipesModel", "unitWay", "[I", true)
  | 15 => ("HotPipesModel", "unitStuff", "[I", true)
  | 16 => ("HotPipesModel", "xs", "[I", true)
  | 17 => ("HotPipesModel", "ys", "[I", true)
  | 18 => ("HotPipesModel", "zs", "[I", true)
  | 19 => ("HotPipesModel", "rests", "I", false)
  | 20 => ("HotPipesModel", "kindOf", "[I", true)
  | 21 => ("HotPipesModel", "placeOf", "[I", true)
  | 22 => ("HotPipesModel", "rateOf", "[I", true)
  | 23 => ("HotPipesModel", "readOf", "[I", true)
  | 24 => ("HotPipesModel", "isGone", "[Z", true)
  | 25 => ("HotPipesModel", "rates", "I", false)
  | 26 => ("HotPipesModel", "theList", "[I", true)
  | 27 => ("HotPipesModel", "amounts", "[I", true)
  | 28 => ("HotPipesModel", "low", "[I", true)
  | 29 => ("HotPipesModel", "high", "[I", true)
  | 30 => ("HotPipesModel", "barred", "[I", true)
  | 31 => ("HotPipesModel", "lines", "I", false)
  | 32 => ("HotPipesModel", "times", "[I", true)
  | _ => ("HotPipesModel", "ranges", "[I", true)
def tyX8 : Nat → FieldType := fun k => match k with
  | 0 => .int
  | 1 => .array .int
  | 2 => .int
  | 3 => .long
  | 4 => .long
  | 5 => .array .int
  | 6 => .array .int
  | 7 => .array .byte
  | 8 => .array .byte
  | 9 => .int
  | 10 => .array .int
  | 11 => .array .int
  | 12 => .array .int
  | 13 => .int
  | 14 => .array .int
  | 15 => .array .int
  | 16 => .array .int
  | 17 => .array .int
  | 18 => .array .int
  | 19 => .int
  | 20 => .array .int
  | 21 => .array .int
  | 22 => .array .int
  | 23 => .array .int
  | 24 => .array .boolean
  | 25 => .int
  | 26 => .array .int
  | 27 => .array .int
  | 28 => .array .int
  | 29 => .array .int
  | 30 => .array .int
  | 31 => .int
  | 32 => .array .int
  | _ => .array .int
abbrev wsX80 : List Cond := u_ws RX8 TX8 34
theorem nmX8 : ∀ a, a < 34 → ∀ b, b < 34 → a ≠ b → (TX8 a).2.1 ≠ (TX8 b).2.1 := by decide +kernel
theorem tyX8_ok : ∀ k, k < 34 → parseFieldDescriptor (TX8 k).2.2.1 = some (tyX8 k) := by decide +kernel
abbrev cX8_init : ByteArray := prog_10_method_1_code
def yX8_init : MethodName := ⟨RX8, "<init>", "()V"⟩
abbrev cX8_in : ByteArray := prog_10_method_2_code
def yX8_in : MethodName := ⟨RX8, "in", "(III)Z"⟩
abbrev cX8_meets : ByteArray := prog_10_method_3_code
def yX8_meets : MethodName := ⟨RX8, "meets", "(I)I"⟩
abbrev cX8_finding : ByteArray := prog_10_method_4_code
def yX8_finding : MethodName := ⟨RX8, "finding", "()I"⟩
abbrev cX8_findings : ByteArray := prog_10_method_5_code
def yX8_findings : MethodName := ⟨RX8, "findings", "(I)I"⟩
abbrev cX8_tells : ByteArray := prog_10_method_6_code
def yX8_tells : MethodName := ⟨RX8, "tells", "(II)I"⟩
abbrev cX8_asked : ByteArray := prog_10_method_7_code
def yX8_asked : MethodName := ⟨RX8, "asked", "()I"⟩
abbrev cX8_fraction : ByteArray := prog_10_method_8_code
def yX8_fraction : MethodName := ⟨RX8, "fraction", "(JJI)I"⟩
abbrev cX8_upper : ByteArray := prog_10_method_9_code
def yX8_upper : MethodName := ⟨RX8, "upper", "()J"⟩
abbrev cX8_lower : ByteArray := prog_10_method_10_code
def yX8_lower : MethodName := ⟨RX8, "lower", "()J"⟩
abbrev cX8_isStuff : ByteArray := prog_10_method_11_code
def yX8_isStuff : MethodName := ⟨RX8, "isStuff", "(I)Z"⟩
abbrev cX8_stuff : ByteArray := prog_10_method_12_code
def yX8_stuff : MethodName := ⟨RX8, "stuff", "(II)I"⟩
abbrev cX8_lay : ByteArray := prog_10_method_13_code
def yX8_lay : MethodName := ⟨RX8, "lay", "(III)I"⟩
abbrev cX8_tear : ByteArray := prog_10_method_14_code
def yX8_tear : MethodName := ⟨RX8, "tear", "(I)I"⟩
abbrev cX8_copy : ByteArray := prog_10_method_15_code
def yX8_copy : MethodName := ⟨RX8, "copy", "(IIIII)I"⟩
abbrev cX8_weigh : ByteArray := prog_10_method_16_code
def yX8_weigh : MethodName := ⟨RX8, "weigh", "(II)I"⟩
abbrev cX8_mean : ByteArray := prog_10_method_17_code
def yX8_mean : MethodName := ⟨RX8, "mean", "(I)I"⟩
abbrev cX8_growth : ByteArray := prog_10_method_18_code
def yX8_growth : MethodName := ⟨RX8, "growth", "(II)I"⟩
abbrev cX8_signOf : ByteArray := prog_10_method_19_code
def yX8_signOf : MethodName := ⟨RX8, "signOf", "(I)I"⟩
abbrev cX8_layRun : ByteArray := prog_10_method_20_code
def yX8_layRun : MethodName := ⟨RX8, "layRun", "()V"⟩
abbrev cX8_leg : ByteArray := prog_10_method_21_code
def yX8_leg : MethodName := ⟨RX8, "leg", "(III)I"⟩
abbrev cX8_cut : ByteArray := prog_10_method_22_code
def yX8_cut : MethodName := ⟨RX8, "cut", "()I"⟩
abbrev cX8_where : ByteArray := prog_10_method_23_code
def yX8_where : MethodName := ⟨RX8, "where", "(II)I"⟩
abbrev cX8_isStep : ByteArray := prog_10_method_24_code
def yX8_isStep : MethodName := ⟨RX8, "isStep", "(I)Z"⟩
abbrev cX8_grownTo : ByteArray := prog_10_method_25_code
def yX8_grownTo : MethodName := ⟨RX8, "grownTo", "(III)I"⟩
abbrev cX8_grown : ByteArray := prog_10_method_26_code
def yX8_grown : MethodName := ⟨RX8, "grown", "(II)I"⟩
abbrev cX8_move : ByteArray := prog_10_method_27_code
def yX8_move : MethodName := ⟨RX8, "move", "(II)I"⟩
abbrev cX8_root : ByteArray := prog_10_method_28_code
def yX8_root : MethodName := ⟨RX8, "root", "(J)I"⟩
abbrev cX8_squares : ByteArray := prog_10_method_29_code
def yX8_squares : MethodName := ⟨RX8, "squares", "(JJJ)J"⟩
abbrev cX8_room : ByteArray := prog_10_method_30_code
def yX8_room : MethodName := ⟨RX8, "room", "(III)I"⟩
abbrev cX8_soft : ByteArray := prog_10_method_31_code
def yX8_soft : MethodName := ⟨RX8, "soft", "(II)I"⟩
abbrev cX8_isOnRun : ByteArray := prog_10_method_32_code
def yX8_isOnRun : MethodName := ⟨RX8, "isOnRun", "(III)Z"⟩
abbrev cX8_isTaken : ByteArray := prog_10_method_33_code
def yX8_isTaken : MethodName := ⟨RX8, "isTaken", "(III)Z"⟩
abbrev cX8_isFree : ByteArray := prog_10_method_34_code
def yX8_isFree : MethodName := ⟨RX8, "isFree", "(III)Z"⟩
abbrev cX8_loopFor : ByteArray := prog_10_method_35_code
def yX8_loopFor : MethodName := ⟨RX8, "loopFor", "(IIII)I"⟩
abbrev cX8_loop : ByteArray := prog_10_method_36_code
def yX8_loop : MethodName := ⟨RX8, "loop", "(IIII)I"⟩
abbrev cX8_bestLoop : ByteArray := prog_10_method_37_code
def yX8_bestLoop : MethodName := ⟨RX8, "bestLoop", "(II)I"⟩
abbrev cX8_rest : ByteArray := prog_10_method_38_code
def yX8_rest : MethodName := ⟨RX8, "rest", "(III)I"⟩
abbrev cX8_need : ByteArray := prog_10_method_39_code
def yX8_need : MethodName := ⟨RX8, "need", "(ZI)I"⟩
abbrev cX8_drop : ByteArray := prog_10_method_40_code
def yX8_drop : MethodName := ⟨RX8, "drop", "(I)I"⟩
abbrev cX8_isThere : ByteArray := prog_10_method_41_code
def yX8_isThere : MethodName := ⟨RX8, "isThere", "(I)Z"⟩
abbrev cX8_toldOf : ByteArray := prog_10_method_42_code
def yX8_toldOf : MethodName := ⟨RX8, "toldOf", "(II)I"⟩
abbrev cX8_told : ByteArray := prog_10_method_43_code
def yX8_told : MethodName := ⟨RX8, "told", "(II)I"⟩
abbrev cX8_is : ByteArray := prog_10_method_44_code
def yX8_is : MethodName := ⟨RX8, "is", "(II)I"⟩
abbrev cX8_isLifted : ByteArray := prog_10_method_45_code
def yX8_isLifted : MethodName := ⟨RX8, "isLifted", "(II)Z"⟩
abbrev cX8_lifts : ByteArray := prog_10_method_46_code
def yX8_lifts : MethodName := ⟨RX8, "lifts", "(II)I"⟩
abbrev cX8_isBearing : ByteArray := prog_10_method_47_code
def yX8_isBearing : MethodName := ⟨RX8, "isBearing", "(II)Z"⟩
abbrev cX8_twice : ByteArray := prog_10_method_48_code
def yX8_twice : MethodName := ⟨RX8, "twice", "(III)I"⟩
abbrev cX8_load : ByteArray := prog_10_method_49_code
def yX8_load : MethodName := ⟨RX8, "load", "(II)I"⟩
abbrev cX8_needSpring : ByteArray := prog_10_method_50_code
def yX8_needSpring : MethodName := ⟨RX8, "needSpring", "(II)I"⟩
abbrev cX8_movedOf : ByteArray := prog_10_method_51_code
def yX8_movedOf : MethodName := ⟨RX8, "movedOf", "(II)J"⟩
abbrev cX8_change : ByteArray := prog_10_method_52_code
def yX8_change : MethodName := ⟨RX8, "change", "(II)I"⟩
abbrev cX8_firm : ByteArray := prog_10_method_53_code
def yX8_firm : MethodName := ⟨RX8, "firm", "(II)I"⟩
abbrev cX8_list : ByteArray := prog_10_method_54_code
def yX8_list : MethodName := ⟨RX8, "list", "(I)I"⟩
abbrev cX8_choose : ByteArray := prog_10_method_55_code
def yX8_choose : MethodName := ⟨RX8, "choose", "(II)I"⟩
abbrev cX8_isCase : ByteArray := prog_10_method_56_code
def yX8_isCase : MethodName := ⟨RX8, "isCase", "(I)Z"⟩
abbrev cX8_amount : ByteArray := prog_10_method_57_code
def yX8_amount : MethodName := ⟨RX8, "amount", "(IIII)I"⟩
abbrev cX8_bar : ByteArray := prog_10_method_58_code
def yX8_bar : MethodName := ⟨RX8, "bar", "(IIZ)I"⟩
abbrev cX8_mayJoin : ByteArray := prog_10_method_59_code
def yX8_mayJoin : MethodName := ⟨RX8, "mayJoin", "(I)Z"⟩
abbrev cX8_joined : ByteArray := prog_10_method_60_code
def yX8_joined : MethodName := ⟨RX8, "joined", "(I)I"⟩
abbrev cX8_worst : ByteArray := prog_10_method_61_code
def yX8_worst : MethodName := ⟨RX8, "worst", "()I"⟩
abbrev cX8_cycle : ByteArray := prog_10_method_62_code
def yX8_cycle : MethodName := ⟨RX8, "cycle", "(II)I"⟩
abbrev cX8_used : ByteArray := prog_10_method_63_code
def yX8_used : MethodName := ⟨RX8, "used", "()I"⟩
abbrev cX8_read : ByteArray := prog_10_method_64_code
def yX8_read : MethodName := ⟨RX8, "read", "(II)I"⟩
abbrev cX8_differs : ByteArray := prog_10_method_65_code
def yX8_differs : MethodName := ⟨RX8, "differs", "(II)I"⟩
abbrev cX8_missing : ByteArray := prog_10_method_66_code
def yX8_missing : MethodName := ⟨RX8, "missing", "(I)I"⟩
abbrev cX8_count : ByteArray := prog_10_method_67_code
def yX8_count : MethodName := ⟨RX8, "count", "(I)I"⟩
abbrev cX8_digest : ByteArray := prog_10_method_68_code
def yX8_digest : MethodName := ⟨RX8, "digest", "()J"⟩
def RJ9 : String := "java/lang/Math"
def TJ9 : u_T := fun k => match k with
  | _ => ("", "", "", false)
def tyJ9 : Nat → FieldType := fun k => match k with
  | _ => .int
abbrev wsJ90 : List Cond := u_ws RJ9 TJ9 0
theorem nmJ9 : ∀ a, a < 0 → ∀ b, b < 0 → a ≠ b → (TJ9 a).2.1 ≠ (TJ9 b).2.1 := by decide +kernel
theorem tyJ9_ok : ∀ k, k < 0 → parseFieldDescriptor (TJ9 k).2.2.1 = some (tyJ9 k) := by decide +kernel
abbrev cJ9_abs_0f7a4 : ByteArray := prog_11_method_59_code
def yJ9_abs_0f7a4 : MethodName := ⟨RJ9, "abs", "(I)I"⟩
abbrev cJ9_max_7cf53 : ByteArray := prog_11_method_65_code
def yJ9_max_7cf53 : MethodName := ⟨RJ9, "max", "(II)I"⟩
abbrev cJ9_min_7cf53 : ByteArray := prog_11_method_69_code
def yJ9_min_7cf53 : MethodName := ⟨RJ9, "min", "(II)I"⟩
def RJ10 : String := "java/lang/System"
def TJ10 : u_T := fun k => match k with
  | _ => ("", "", "", false)
def tyJ10 : Nat → FieldType := fun k => match k with
  | _ => .int
abbrev wsJ100 : List Cond := u_ws RJ10 TJ10 0
theorem nmJ10 : ∀ a, a < 0 → ∀ b, b < 0 → a ≠ b → (TJ10 a).2.1 ≠ (TJ10 b).2.1 := by decide +kernel
theorem tyJ10_ok : ∀ k, k < 0 → parseFieldDescriptor (TJ10 k).2.2.1 = some (tyJ10 k) := by decide +kernel
def RJ7 : String := "java/util/Arrays"
def TJ7 : u_T := fun k => match k with
  | _ => ("", "", "", false)
def tyJ7 : Nat → FieldType := fun k => match k with
  | _ => .int
abbrev wsJ70 : List Cond := u_ws RJ7 TJ7 0
theorem nmJ7 : ∀ a, a < 0 → ∀ b, b < 0 → a ≠ b → (TJ7 a).2.1 ≠ (TJ7 b).2.1 := by decide +kernel
theorem tyJ7_ok : ∀ k, k < 0 → parseFieldDescriptor (TJ7 k).2.2.1 = some (tyJ7 k) := by decide +kernel
abbrev cJ7_fill_53178 : ByteArray := prog_13_method_103_code
def yJ7_fill_53178 : MethodName := ⟨RJ7, "fill", "([II)V"⟩
def RL : String := "HotPipesLaw"
abbrev cL_law : ByteArray := code
def yL_law : MethodName := ⟨RL, "law", "([I)Z"⟩
def wsJ7_fill_53178 : List Cond := .code yJ7_fill_53178 cJ7_fill_53178 4 none :: ([])
def wsX0_init : List Cond := .code yX0_init cX0_init 1 none :: ([.methodLink RX0 3 objectInit, .instanceMethod objectInit, .code objectInit ⟨#[0xb1]⟩ 1 none, .arrayClass .int, .fieldLink RX0 9 "HotPipes$Cases" "amounts" "[I", .fieldLink RX0 15 "HotPipes$Cases" "lows" "[I", .fieldLink RX0 18 "HotPipes$Cases" "highs" "[I", .fieldLink RX0 21 "HotPipes$Cases" "barred" "[I", .methodLink RX0 24 yJ7_fill_53178, .static yJ7_fill_53178, .initialized RJ7, .code yJ7_fill_53178 cJ7_fill_53178 4 none] ++ wsX00)
def wsX0_put : List Cond := .code yX0_put cX0_put 5 none :: ([.fieldLink RX0 9 "HotPipes$Cases" "amounts" "[I", .fieldLink RX0 15 "HotPipes$Cases" "lows" "[I", .fieldLink RX0 18 "HotPipes$Cases" "highs" "[I"] ++ wsX00)
def wsX0_setBarred : List Cond := .code yX0_setBarred cX0_setBarred 5 (some .boolean) :: ([.fieldLink RX0 21 "HotPipes$Cases" "barred" "[I"] ++ wsX00)
def wsX0_goesTogether : List Cond := .code yX0_goesTogether cX0_goesTogether 3 (some .boolean) :: ([.fieldLink RX0 21 "HotPipes$Cases" "barred" "[I"] ++ wsX00)
def wsX0_joined : List Cond := .code yX0_joined cX0_joined 4 (some .int) :: ([.fieldLink RX0 9 "HotPipes$Cases" "amounts" "[I", .fieldLink RX0 15 "HotPipes$Cases" "lows" "[I", .fieldLink RX0 18 "HotPipes$Cases" "highs" "[I", .methodLink RX0 38 Lib.Math.max.name, .static Lib.Math.max.name, .initialized "java/lang/Math", .code Lib.Math.max.name Lib.Math.max.code 2 (some .int)] ++ wsX00)
def wsX0_worstSet : List Cond := .code yX0_worstSet cX0_worstSet 5 (some .int) :: ([.methodLink RX0 30 yX0_goesTogether, .instanceMethod yX0_goesTogether, .selects RX0 yX0_goesTogether yX0_goesTogether, .initialized RX0, .code yX0_goesTogether cX0_goesTogether 3 (some .boolean), .fieldLink RX0 21 "HotPipes$Cases" "barred" "[I", .methodLink RX0 34 yX0_joined, .instanceMethod yX0_joined, .selects RX0 yX0_joined yX0_joined, .code yX0_joined cX0_joined 4 (some .int), .fieldLink RX0 9 "HotPipes$Cases" "amounts" "[I", .fieldLink RX0 15 "HotPipes$Cases" "lows" "[I", .fieldLink RX0 18 "HotPipes$Cases" "highs" "[I", .methodLink RX0 38 Lib.Math.max.name, .static Lib.Math.max.name, .initialized "java/lang/Math", .code Lib.Math.max.name Lib.Math.max.code 2 (some .int)] ++ wsX00)
def wsX0_mixInto : List Cond := .code yX0_mixInto cX0_mixInto 4 (some .long) :: ([.constantLong RX0 44 (31), .fieldLink RX0 9 "HotPipes$Cases" "amounts" "[I", .fieldLink RX0 15 "HotPipes$Cases" "lows" "[I", .fieldLink RX0 18 "HotPipes$Cases" "highs" "[I"] ++ wsX00)
def wsX1_init : List Cond := .code yX1_init cX1_init 1 none :: ([.methodLink RX1 1 objectInit, .instanceMethod objectInit, .code objectInit ⟨#[0xb1]⟩ 1 none, .fieldLink RX1 7 "HotPipes$Cycles" "lines" "I", .fieldLink RX1 13 "HotPipes$Cycles" "parts" "J"] ++ wsX10)
def wsX1_lines : List Cond := .code yX1_lines cX1_lines 1 (some .int) :: ([.fieldLink RX1 7 "HotPipes$Cycles" "lines" "I"] ++ wsX10)
def wsX1_partsUsed : List Cond := .code yX1_partsUsed cX1_partsUsed 1 (some .long) :: ([.fieldLink RX1 13 "HotPipes$Cycles" "parts" "J"] ++ wsX10)
def wsX1_append : List Cond := .code yX1_append cX1_append 3 none :: ([.fieldLink RX1 7 "HotPipes$Cycles" "lines" "I", .fieldLink RX1 13 "HotPipes$Cycles" "parts" "J"] ++ wsX10)
def wsX2_init : List Cond := .code yX2_init cX2_init 1 none :: ([.methodLink RX2 1 objectInit, .instanceMethod objectInit, .code objectInit ⟨#[0xb1]⟩ 1 none, .fieldLink RX2 7 "HotPipes$Fraction" "above" "J", .fieldLink RX2 13 "HotPipes$Fraction" "below" "J"] ++ wsX20)
def wsX2_greatestShared : List Cond := .code yX2_greatestShared cX2_greatestShared 7 (some .long) :: ([])
def wsX2_put : List Cond := .code yX2_put cX2_put 7 none :: ([.fieldLink RX2 7 "HotPipes$Fraction" "above" "J", .fieldLink RX2 13 "HotPipes$Fraction" "below" "J", .methodLink RX2 16 yX2_greatestShared, .static yX2_greatestShared, .initialized RX2, .code yX2_greatestShared cX2_greatestShared 7 (some .long)] ++ wsX20)
def wsX3_init : List Cond := .code yX3_init cX3_init 1 none :: ([.methodLink RX3 3 objectInit, .instanceMethod objectInit, .code objectInit ⟨#[0xb1]⟩ 1 none, .arrayClass .int, .fieldLink RX3 9 "HotPipes$Rates" "rates" "[I", .fieldLink RX3 15 "HotPipes$Rates" "size" "I"] ++ wsX30)
def wsX3_size : List Cond := .code yX3_size cX3_size 1 (some .int) :: ([.fieldLink RX3 15 "HotPipes$Rates" "size" "I"] ++ wsX30)
def wsX3_append : List Cond := .code yX3_append cX3_append 2 none :: ([.fieldLink RX3 9 "HotPipes$Rates" "rates" "[I", .fieldLink RX3 15 "HotPipes$Rates" "size" "I"] ++ wsX30)
def wsX3_greatestFirmEnough : List Cond := .code yX3_greatestFirmEnough cX3_greatestFirmEnough 6 (some .int) :: ([.fieldLink RX3 15 "HotPipes$Rates" "size" "I", .constantLong RX3 19 (8), .fieldLink RX3 9 "HotPipes$Rates" "rates" "[I", .constantLong RX3 21 (1000)] ++ wsX30)
def wsX4_init : List Cond := .code yX4_init cX4_init 2 none :: ([.methodLink RX4 3 objectInit, .instanceMethod objectInit, .code objectInit ⟨#[0xb1]⟩ 1 none, .arrayClass .int, .fieldLink RX4 9 "HotPipes$Rests" "kinds" "[I", .fieldLink RX4 15 "HotPipes$Rests" "places" "[I", .fieldLink RX4 18 "HotPipes$Rests" "rates" "[I", .fieldLink RX4 21 "HotPipes$Rests" "readings" "[I", .arrayClass .boolean, .fieldLink RX4 24 "HotPipes$Rests" "bearing" "[Z", .fieldLink RX4 28 "HotPipes$Rests" "made" "I", .fieldLink RX4 32 "HotPipes$Rests" "run" "LHotPipes$Run;"] ++ wsX40)
def wsX4_made : List Cond := .code yX4_made cX4_made 1 (some .int) :: ([.fieldLink RX4 28 "HotPipes$Rests" "made" "I"] ++ wsX40)
def wsX4_isGone : List Cond := .code yX4_isGone cX4_isGone 2 (some .boolean) :: ([.fieldLink RX4 9 "HotPipes$Rests" "kinds" "[I"] ++ wsX40)
def wsX4_kept : List Cond := .code yX4_kept cX4_kept 3 (some .int) :: ([.fieldLink RX4 28 "HotPipes$Rests" "made" "I", .methodLink RX4 36 yX4_isGone, .instanceMethod yX4_isGone, .selects RX4 yX4_isGone yX4_isGone, .initialized RX4, .code yX4_isGone cX4_isGone 2 (some .boolean), .fieldLink RX4 9 "HotPipes$Rests" "kinds" "[I"] ++ wsX40)
def wsX4_isTaken : List Cond := .code yX4_isTaken cX4_isTaken 3 (some .boolean) :: ([.fieldLink RX4 28 "HotPipes$Rests" "made" "I", .fieldLink RX4 15 "HotPipes$Rests" "places" "[I", .methodLink RX4 36 yX4_isGone, .instanceMethod yX4_isGone, .selects RX4 yX4_isGone yX4_isGone, .initialized RX4, .code yX4_isGone cX4_isGone 2 (some .boolean), .fieldLink RX4 9 "HotPipes$Rests" "kinds" "[I"] ++ wsX40)
def wsX4_put : List Cond := .code yX4_put cX4_put 4 (some .int) :: ([.fieldLink RX4 9 "HotPipes$Rests" "kinds" "[I", .fieldLink RX4 28 "HotPipes$Rests" "made" "I", .fieldLink RX4 15 "HotPipes$Rests" "places" "[I", .fieldLink RX4 18 "HotPipes$Rests" "rates" "[I", .fieldLink RX4 21 "HotPipes$Rests" "readings" "[I"] ++ wsX40)
def wsX4_remove : List Cond := .code yX4_remove cX4_remove 2 none :: ([.fieldLink RX4 9 "HotPipes$Rests" "kinds" "[I"] ++ wsX40)
def wsX5_length : List Cond := .code yX5_length cX5_length 1 (some .int) :: ([.fieldLink RX5 28 "HotPipes$Run" "length" "I"] ++ wsX50)
def wsX4_isPresent : List Cond := .code yX4_isPresent cX4_isPresent 2 (some .boolean) :: ([.fieldLink RX4 15 "HotPipes$Rests" "places" "[I", .fieldLink RX4 32 "HotPipes$Rests" "run" "LHotPipes$Run;", .methodLink RX4 36 yX4_isGone, .instanceMethod yX4_isGone, .selects RX4 yX4_isGone yX4_isGone, .initialized RX4, .code yX4_isGone cX4_isGone 2 (some .boolean), .fieldLink RX4 9 "HotPipes$Rests" "kinds" "[I", .methodLink RX4 43 yX5_length, .instanceMethod yX5_length, .selects RX5 yX5_length yX5_length, .initialized RX5, .code yX5_length cX5_length 1 (some .int), .fieldLink RX5 28 "HotPipes$Run" "length" "I"] ++ wsX40 ++ wsX50)
def wsX4_tell : List Cond := .code yX4_tell cX4_tell 3 (some .int) :: ([.fieldLink RX4 9 "HotPipes$Rests" "kinds" "[I", .fieldLink RX4 15 "HotPipes$Rests" "places" "[I", .fieldLink RX4 18 "HotPipes$Rests" "rates" "[I", .methodLink RX4 40 yX4_isPresent, .instanceMethod yX4_isPresent, .selects RX4 yX4_isPresent yX4_isPresent, .initialized RX4, .code yX4_isPresent cX4_isPresent 2 (some .boolean), .fieldLink RX4 32 "HotPipes$Rests" "run" "LHotPipes$Run;", .methodLink RX4 36 yX4_isGone, .instanceMethod yX4_isGone, .selects RX4 yX4_isGone yX4_isGone, .code yX4_isGone cX4_isGone 2 (some .boolean), .methodLink RX4 43 yX5_length, .instanceMethod yX5_length, .selects RX5 yX5_length yX5_length, .initialized RX5, .code yX5_length cX5_length 1 (some .int), .fieldLink RX5 28 "HotPipes$Run" "length" "I"] ++ wsX40 ++ wsX50)
def wsX4_isOfKind : List Cond := .code yX4_isOfKind cX4_isOfKind 4 (some .boolean) :: ([.fieldLink RX4 9 "HotPipes$Rests" "kinds" "[I"] ++ wsX40)
def wsX5_axisOf : List Cond := .code yX5_axisOf cX5_axisOf 1 (some .int) :: ([])
def wsX5_signOf : List Cond := .code yX5_signOf cX5_signOf 1 (some .int) :: ([])
def wsX6_growthAt : List Cond := .code yX6_growthAt cX6_growthAt 3 (some .int) :: ([.fieldLink RX6 15 "HotPipes$Stuffs" "sizes" "[I", .fieldLink RX6 9 "HotPipes$Stuffs" "bytes" "[B"] ++ wsX60)
def wsX5_unitsBetween : List Cond := .code yX5_unitsBetween cX5_unitsBetween 5 (some .int) :: ([.fieldLink RX5 15 "HotPipes$Run" "units" "[I", .methodLink RX5 55 Lib.Math.min.name, .static Lib.Math.min.name, .initialized "java/lang/Math", .code Lib.Math.min.name Lib.Math.min.code 2 (some .int), .methodLink RX5 60 Lib.Math.max.name, .static Lib.Math.max.name, .code Lib.Math.max.name Lib.Math.max.code 2 (some .int)] ++ wsX50)
def wsX5_growth_r1 : List Cond := [Cond.fieldLink RX5 24 "HotPipes$Run" "legs" "I", Cond.fieldLink RX5 9 "HotPipes$Run" "ways" "[I", Cond.fieldLink RX5 31 "HotPipes$Run" "stuffs" "LHotPipes$Stuffs;", Cond.fieldLink RX5 18 "HotPipes$Run" "stuffOf" "[I", Cond.fieldLink RX5 15 "HotPipes$Run" "units" "[I", Cond.methodLink RX5 35 yX5_axisOf, Cond.static yX5_axisOf, Cond.initialized RX5, Cond.code yX5_axisOf cX5_axisOf 1 (some .int), Cond.methodLink RX5 39 yX5_signOf, Cond.static yX5_signOf, Cond.code yX5_signOf cX5_signOf 1 (some .int), Cond.methodLink RX5 46 yX6_growthAt, Cond.instanceMethod yX6_growthAt, Cond.selects RX6 yX6_growthAt yX6_growthAt, Cond.initialized RX6, Cond.code yX6_growthAt cX6_growthAt 3 (some .int), Cond.fieldLink RX6 15 "HotPipes$Stuffs" "sizes" "[I", Cond.fieldLink RX6 9 "HotPipes$Stuffs" "bytes" "[B", Cond.methodLink RX5 42 yX5_unitsBetween, Cond.instanceMethod yX5_unitsBetween, Cond.selects RX5 yX5_unitsBetween yX5_unitsBetween, Cond.code yX5_unitsBetween cX5_unitsBetween 5 (some .int), Cond.methodLink RX5 55 Lib.Math.min.name]
def wsX5_growth_r2 : List Cond := [Cond.static Lib.Math.min.name, Cond.initialized "java/lang/Math", Cond.code Lib.Math.min.name Lib.Math.min.code 2 (some .int), Cond.methodLink RX5 60 Lib.Math.max.name, Cond.static Lib.Math.max.name, Cond.code Lib.Math.max.name Lib.Math.max.code 2 (some .int)]
def wsX5_growth : List Cond := .code yX5_growth cX5_growth 8 (some .int) :: ((wsX5_growth_r1 ++ wsX5_growth_r2) ++ wsX50 ++ wsX60)
def wsX4_isLifted_r1 : List Cond := [Cond.fieldLink RX4 9 "HotPipes$Rests" "kinds" "[I", Cond.fieldLink RX4 32 "HotPipes$Rests" "run" "LHotPipes$Run;", Cond.fieldLink RX4 15 "HotPipes$Rests" "places" "[I", Cond.methodLink RX4 40 yX4_isPresent, Cond.instanceMethod yX4_isPresent, Cond.selects RX4 yX4_isPresent yX4_isPresent, Cond.initialized RX4, Cond.code yX4_isPresent cX4_isPresent 2 (some .boolean), Cond.methodLink RX4 36 yX4_isGone, Cond.instanceMethod yX4_isGone, Cond.selects RX4 yX4_isGone yX4_isGone, Cond.code yX4_isGone cX4_isGone 2 (some .boolean), Cond.methodLink RX4 43 yX5_length, Cond.instanceMethod yX5_length, Cond.selects RX5 yX5_length yX5_length, Cond.initialized RX5, Cond.code yX5_length cX5_length 1 (some .int), Cond.fieldLink RX5 28 "HotPipes$Run" "length" "I", Cond.methodLink RX4 49 yX5_growth, Cond.instanceMethod yX5_growth, Cond.selects RX5 yX5_growth yX5_growth, Cond.code yX5_growth cX5_growth 8 (some .int), Cond.fieldLink RX5 24 "HotPipes$Run" "legs" "I", Cond.fieldLink RX5 9 "HotPipes$Run" "ways" "[I"]
def wsX4_isLifted_r2 : List Cond := [Cond.fieldLink RX5 31 "HotPipes$Run" "stuffs" "LHotPipes$Stuffs;", Cond.fieldLink RX5 18 "HotPipes$Run" "stuffOf" "[I", Cond.fieldLink RX5 15 "HotPipes$Run" "units" "[I", Cond.methodLink RX5 35 yX5_axisOf, Cond.static yX5_axisOf, Cond.code yX5_axisOf cX5_axisOf 1 (some .int), Cond.methodLink RX5 39 yX5_signOf, Cond.static yX5_signOf, Cond.code yX5_signOf cX5_signOf 1 (some .int), Cond.methodLink RX5 46 yX6_growthAt, Cond.instanceMethod yX6_growthAt, Cond.selects RX6 yX6_growthAt yX6_growthAt, Cond.initialized RX6, Cond.code yX6_growthAt cX6_growthAt 3 (some .int), Cond.fieldLink RX6 15 "HotPipes$Stuffs" "sizes" "[I", Cond.fieldLink RX6 9 "HotPipes$Stuffs" "bytes" "[B", Cond.methodLink RX5 42 yX5_unitsBetween, Cond.instanceMethod yX5_unitsBetween, Cond.selects RX5 yX5_unitsBetween yX5_unitsBetween, Cond.code yX5_unitsBetween cX5_unitsBetween 5 (some .int), Cond.methodLink RX5 55 Lib.Math.min.name, Cond.static Lib.Math.min.name, Cond.initialized "java/lang/Math", Cond.code Lib.Math.min.name Lib.Math.min.code 2 (some .int)]
def wsX4_isLifted_r3 : List Cond := [Cond.methodLink RX5 60 Lib.Math.max.name, Cond.static Lib.Math.max.name, Cond.code Lib.Math.max.name Lib.Math.max.code 2 (some .int)]
def wsX4_isLifted : List Cond := .code yX4_isLifted cX4_isLifted 4 (some .boolean) :: ((wsX4_isLifted_r1 ++ (wsX4_isLifted_r2 ++ wsX4_isLifted_r3)) ++ wsX40 ++ wsX50 ++ wsX60)
def wsX4_rateOf : List Cond := .code yX4_rateOf cX4_rateOf 2 (some .int) :: ([.fieldLink RX4 18 "HotPipes$Rests" "rates" "[I"] ++ wsX40)
def wsX4_setRate : List Cond := .code yX4_setRate cX4_setRate 3 none :: ([.fieldLink RX4 18 "HotPipes$Rests" "rates" "[I"] ++ wsX40)
def wsX4_travel_r1 : List Cond := [Cond.fieldLink RX4 32 "HotPipes$Rests" "run" "LHotPipes$Run;", Cond.fieldLink RX4 15 "HotPipes$Rests" "places" "[I", Cond.methodLink RX4 53 Lib.Math.abs.name, Cond.static Lib.Math.abs.name, Cond.initialized "java/lang/Math", Cond.code Lib.Math.abs.name Lib.Math.abs.code 1 (some .int), Cond.methodLink RX4 49 yX5_growth, Cond.instanceMethod yX5_growth, Cond.selects RX5 yX5_growth yX5_growth, Cond.initialized RX5, Cond.code yX5_growth cX5_growth 8 (some .int), Cond.fieldLink RX5 24 "HotPipes$Run" "legs" "I", Cond.fieldLink RX5 9 "HotPipes$Run" "ways" "[I", Cond.fieldLink RX5 31 "HotPipes$Run" "stuffs" "LHotPipes$Stuffs;", Cond.fieldLink RX5 18 "HotPipes$Run" "stuffOf" "[I", Cond.fieldLink RX5 15 "HotPipes$Run" "units" "[I", Cond.methodLink RX5 35 yX5_axisOf, Cond.static yX5_axisOf, Cond.code yX5_axisOf cX5_axisOf 1 (some .int), Cond.methodLink RX5 39 yX5_signOf, Cond.static yX5_signOf, Cond.code yX5_signOf cX5_signOf 1 (some .int), Cond.methodLink RX5 46 yX6_growthAt, Cond.instanceMethod yX6_growthAt]
def wsX4_travel_r2 : List Cond := [Cond.selects RX6 yX6_growthAt yX6_growthAt, Cond.initialized RX6, Cond.code yX6_growthAt cX6_growthAt 3 (some .int), Cond.fieldLink RX6 15 "HotPipes$Stuffs" "sizes" "[I", Cond.fieldLink RX6 9 "HotPipes$Stuffs" "bytes" "[B", Cond.methodLink RX5 42 yX5_unitsBetween, Cond.instanceMethod yX5_unitsBetween, Cond.selects RX5 yX5_unitsBetween yX5_unitsBetween, Cond.code yX5_unitsBetween cX5_unitsBetween 5 (some .int), Cond.methodLink RX5 55 Lib.Math.min.name, Cond.static Lib.Math.min.name, Cond.code Lib.Math.min.name Lib.Math.min.code 2 (some .int), Cond.methodLink RX5 60 Lib.Math.max.name, Cond.static Lib.Math.max.name, Cond.code Lib.Math.max.name Lib.Math.max.code 2 (some .int)]
def wsX4_travel : List Cond := .code yX4_travel cX4_travel 3 (some .int) :: ((wsX4_travel_r1 ++ wsX4_travel_r2) ++ wsX40 ++ wsX50 ++ wsX60)
def wsX4_noteBearing_r1 : List Cond := [Cond.fieldLink RX4 28 "HotPipes$Rests" "made" "I", Cond.fieldLink RX4 24 "HotPipes$Rests" "bearing" "[Z", Cond.fieldLink RX4 9 "HotPipes$Rests" "kinds" "[I", Cond.methodLink RX4 40 yX4_isPresent, Cond.instanceMethod yX4_isPresent, Cond.selects RX4 yX4_isPresent yX4_isPresent, Cond.initialized RX4, Cond.code yX4_isPresent cX4_isPresent 2 (some .boolean), Cond.fieldLink RX4 15 "HotPipes$Rests" "places" "[I", Cond.fieldLink RX4 32 "HotPipes$Rests" "run" "LHotPipes$Run;", Cond.methodLink RX4 36 yX4_isGone, Cond.instanceMethod yX4_isGone, Cond.selects RX4 yX4_isGone yX4_isGone, Cond.code yX4_isGone cX4_isGone 2 (some .boolean), Cond.methodLink RX4 43 yX5_length, Cond.instanceMethod yX5_length, Cond.selects RX5 yX5_length yX5_length, Cond.initialized RX5, Cond.code yX5_length cX5_length 1 (some .int), Cond.fieldLink RX5 28 "HotPipes$Run" "length" "I", Cond.methodLink RX4 59 yX4_isLifted, Cond.instanceMethod yX4_isLifted, Cond.selects RX4 yX4_isLifted yX4_isLifted, Cond.code yX4_isLifted cX4_isLifted 4 (some .boolean)]
def wsX4_noteBearing_r2 : List Cond := [Cond.methodLink RX4 49 yX5_growth, Cond.instanceMethod yX5_growth, Cond.selects RX5 yX5_growth yX5_growth, Cond.code yX5_growth cX5_growth 8 (some .int), Cond.fieldLink RX5 24 "HotPipes$Run" "legs" "I", Cond.fieldLink RX5 9 "HotPipes$Run" "ways" "[I", Cond.fieldLink RX5 31 "HotPipes$Run" "stuffs" "LHotPipes$Stuffs;", Cond.fieldLink RX5 18 "HotPipes$Run" "stuffOf" "[I", Cond.fieldLink RX5 15 "HotPipes$Run" "units" "[I", Cond.methodLink RX5 35 yX5_axisOf, Cond.static yX5_axisOf, Cond.code yX5_axisOf cX5_axisOf 1 (some .int), Cond.methodLink RX5 39 yX5_signOf, Cond.static yX5_signOf, Cond.code yX5_signOf cX5_signOf 1 (some .int), Cond.methodLink RX5 46 yX6_growthAt, Cond.instanceMethod yX6_growthAt, Cond.selects RX6 yX6_growthAt yX6_growthAt, Cond.initialized RX6, Cond.code yX6_growthAt cX6_growthAt 3 (some .int), Cond.fieldLink RX6 15 "HotPipes$Stuffs" "sizes" "[I", Cond.fieldLink RX6 9 "HotPipes$Stuffs" "bytes" "[B", Cond.methodLink RX5 42 yX5_unitsBetween, Cond.instanceMethod yX5_unitsBetween]
def wsX4_noteBearing_r3 : List Cond := [Cond.selects RX5 yX5_unitsBetween yX5_unitsBetween, Cond.code yX5_unitsBetween cX5_unitsBetween 5 (some .int), Cond.methodLink RX5 55 Lib.Math.min.name, Cond.static Lib.Math.min.name, Cond.initialized "java/lang/Math", Cond.code Lib.Math.min.name Lib.Math.min.code 2 (some .int), Cond.methodLink RX5 60 Lib.Math.max.name, Cond.static Lib.Math.max.name, Cond.code Lib.Math.max.name Lib.Math.max.code 2 (some .int)]
def wsX4_noteBearing : List Cond := .code yX4_noteBearing cX4_noteBearing 3 none :: ((wsX4_noteBearing_r1 ++ (wsX4_noteBearing_r2 ++ wsX4_noteBearing_r3)) ++ wsX40 ++ wsX50 ++ wsX60)
def wsX4_isBearing : List Cond := .code yX4_isBearing cX4_isBearing 2 (some .boolean) :: ([.fieldLink RX4 24 "HotPipes$Rests" "bearing" "[Z"] ++ wsX40)
def wsX6_weightOf : List Cond := .code yX6_weightOf cX6_weightOf 2 (some .int) :: ([.fieldLink RX6 19 "HotPipes$Stuffs" "weights" "[I"] ++ wsX60)
def wsX5_weight : List Cond := .code yX5_weight cX5_weight 6 (some .int) :: ([.fieldLink RX5 24 "HotPipes$Run" "legs" "I", .fieldLink RX5 31 "HotPipes$Run" "stuffs" "LHotPipes$Stuffs;", .fieldLink RX5 18 "HotPipes$Run" "stuffOf" "[I", .fieldLink RX5 15 "HotPipes$Run" "units" "[I", .methodLink RX5 52 yX6_weightOf, .instanceMethod yX6_weightOf, .selects RX6 yX6_weightOf yX6_weightOf, .initialized RX6, .code yX6_weightOf cX6_weightOf 2 (some .int), .fieldLink RX6 19 "HotPipes$Stuffs" "weights" "[I", .methodLink RX5 42 yX5_unitsBetween, .instanceMethod yX5_unitsBetween, .selects RX5 yX5_unitsBetween yX5_unitsBetween, .initialized RX5, .code yX5_unitsBetween cX5_unitsBetween 5 (some .int), .methodLink RX5 55 Lib.Math.min.name, .static Lib.Math.min.name, .initialized "java/lang/Math", .code Lib.Math.min.name Lib.Math.min.code 2 (some .int), .methodLink RX5 60 Lib.Math.max.name, .static Lib.Math.max.name, .code Lib.Math.max.name Lib.Math.max.code 2 (some .int)] ++ wsX50 ++ wsX60)
def wsX4_twiceLoad_r1 : List Cond := [Cond.fieldLink RX4 24 "HotPipes$Rests" "bearing" "[Z", Cond.fieldLink RX4 32 "HotPipes$Rests" "run" "LHotPipes$Run;", Cond.fieldLink RX4 28 "HotPipes$Rests" "made" "I", Cond.fieldLink RX4 15 "HotPipes$Rests" "places" "[I", Cond.methodLink RX4 63 Lib.Math.max.name, Cond.static Lib.Math.max.name, Cond.initialized "java/lang/Math", Cond.code Lib.Math.max.name Lib.Math.max.code 2 (some .int), Cond.methodLink RX4 67 Lib.Math.min.name, Cond.static Lib.Math.min.name, Cond.code Lib.Math.min.name Lib.Math.min.code 2 (some .int), Cond.methodLink RX4 43 yX5_length, Cond.instanceMethod yX5_length, Cond.selects RX5 yX5_length yX5_length, Cond.initialized RX5, Cond.code yX5_length cX5_length 1 (some .int), Cond.fieldLink RX5 28 "HotPipes$Run" "length" "I", Cond.methodLink RX4 70 yX5_weight, Cond.instanceMethod yX5_weight, Cond.selects RX5 yX5_weight yX5_weight, Cond.code yX5_weight cX5_weight 6 (some .int), Cond.fieldLink RX5 24 "HotPipes$Run" "legs" "I", Cond.fieldLink RX5 31 "HotPipes$Run" "stuffs" "LHotPipes$Stuffs;", Cond.fieldLink RX5 18 "HotPipes$Run" "stuffOf" "[I"]
def wsX4_twiceLoad_r2 : List Cond := [Cond.fieldLink RX5 15 "HotPipes$Run" "units" "[I", Cond.methodLink RX5 52 yX6_weightOf, Cond.instanceMethod yX6_weightOf, Cond.selects RX6 yX6_weightOf yX6_weightOf, Cond.initialized RX6, Cond.code yX6_weightOf cX6_weightOf 2 (some .int), Cond.fieldLink RX6 19 "HotPipes$Stuffs" "weights" "[I", Cond.methodLink RX5 42 yX5_unitsBetween, Cond.instanceMethod yX5_unitsBetween, Cond.selects RX5 yX5_unitsBetween yX5_unitsBetween, Cond.code yX5_unitsBetween cX5_unitsBetween 5 (some .int), Cond.methodLink RX5 55 Lib.Math.min.name, Cond.methodLink RX5 60 Lib.Math.max.name]
def wsX4_twiceLoad : List Cond := .code yX4_twiceLoad cX4_twiceLoad 6 (some .int) :: ((wsX4_twiceLoad_r1 ++ wsX4_twiceLoad_r2) ++ wsX40 ++ wsX50 ++ wsX60)
def wsX4_replaceReading : List Cond := .code yX4_replaceReading cX4_replaceReading 4 (some .int) :: ([.fieldLink RX4 21 "HotPipes$Rests" "readings" "[I"] ++ wsX40)
def wsX4_isRead : List Cond := .code yX4_isRead cX4_isRead 2 (some .boolean) :: ([.fieldLink RX4 21 "HotPipes$Rests" "readings" "[I", .methodLink RX4 36 yX4_isGone, .instanceMethod yX4_isGone, .selects RX4 yX4_isGone yX4_isGone, .initialized RX4, .code yX4_isGone cX4_isGone 2 (some .boolean), .fieldLink RX4 9 "HotPipes$Rests" "kinds" "[I"] ++ wsX40)
def wsX4_hasReading : List Cond := .code yX4_hasReading cX4_hasReading 2 (some .boolean) :: ([.fieldLink RX4 28 "HotPipes$Rests" "made" "I", .methodLink RX4 73 yX4_isRead, .instanceMethod yX4_isRead, .selects RX4 yX4_isRead yX4_isRead, .initialized RX4, .code yX4_isRead cX4_isRead 2 (some .boolean), .fieldLink RX4 21 "HotPipes$Rests" "readings" "[I", .methodLink RX4 36 yX4_isGone, .instanceMethod yX4_isGone, .selects RX4 yX4_isGone yX4_isGone, .code yX4_isGone cX4_isGone 2 (some .boolean), .fieldLink RX4 9 "HotPipes$Rests" "kinds" "[I"] ++ wsX40)
def wsX4_differenceWithout_r1 : List Cond := [Cond.fieldLink RX4 28 "HotPipes$Rests" "made" "I", Cond.fieldLink RX4 21 "HotPipes$Rests" "readings" "[I", Cond.methodLink RX4 53 Lib.Math.abs.name, Cond.static Lib.Math.abs.name, Cond.initialized "java/lang/Math", Cond.code Lib.Math.abs.name Lib.Math.abs.code 1 (some .int), Cond.methodLink RX4 73 yX4_isRead, Cond.instanceMethod yX4_isRead, Cond.selects RX4 yX4_isRead yX4_isRead, Cond.initialized RX4, Cond.code yX4_isRead cX4_isRead 2 (some .boolean), Cond.methodLink RX4 36 yX4_isGone, Cond.instanceMethod yX4_isGone, Cond.selects RX4 yX4_isGone yX4_isGone, Cond.code yX4_isGone cX4_isGone 2 (some .boolean), Cond.fieldLink RX4 9 "HotPipes$Rests" "kinds" "[I", Cond.methodLink RX4 76 yX4_twiceLoad, Cond.instanceMethod yX4_twiceLoad, Cond.selects RX4 yX4_twiceLoad yX4_twiceLoad, Cond.code yX4_twiceLoad cX4_twiceLoad 6 (some .int), Cond.fieldLink RX4 24 "HotPipes$Rests" "bearing" "[Z", Cond.fieldLink RX4 32 "HotPipes$Rests" "run" "LHotPipes$Run;", Cond.fieldLink RX4 15 "HotPipes$Rests" "places" "[I", Cond.methodLink RX4 63 Lib.Math.max.name]
def wsX4_differenceWithout_r2 : List Cond := [Cond.static Lib.Math.max.name, Cond.code Lib.Math.max.name Lib.Math.max.code 2 (some .int), Cond.methodLink RX4 67 Lib.Math.min.name, Cond.static Lib.Math.min.name, Cond.code Lib.Math.min.name Lib.Math.min.code 2 (some .int), Cond.methodLink RX4 43 yX5_length, Cond.instanceMethod yX5_length, Cond.selects RX5 yX5_length yX5_length, Cond.initialized RX5, Cond.code yX5_length cX5_length 1 (some .int), Cond.fieldLink RX5 28 "HotPipes$Run" "length" "I", Cond.methodLink RX4 70 yX5_weight, Cond.instanceMethod yX5_weight, Cond.selects RX5 yX5_weight yX5_weight, Cond.code yX5_weight cX5_weight 6 (some .int), Cond.fieldLink RX5 24 "HotPipes$Run" "legs" "I", Cond.fieldLink RX5 31 "HotPipes$Run" "stuffs" "LHotPipes$Stuffs;", Cond.fieldLink RX5 18 "HotPipes$Run" "stuffOf" "[I", Cond.fieldLink RX5 15 "HotPipes$Run" "units" "[I", Cond.methodLink RX5 52 yX6_weightOf, Cond.instanceMethod yX6_weightOf, Cond.selects RX6 yX6_weightOf yX6_weightOf, Cond.initialized RX6, Cond.code yX6_weightOf cX6_weightOf 2 (some .int)]
def wsX4_differenceWithout_r3 : List Cond := [Cond.fieldLink RX6 19 "HotPipes$Stuffs" "weights" "[I", Cond.methodLink RX5 42 yX5_unitsBetween, Cond.instanceMethod yX5_unitsBetween, Cond.selects RX5 yX5_unitsBetween yX5_unitsBetween, Cond.code yX5_unitsBetween cX5_unitsBetween 5 (some .int), Cond.methodLink RX5 55 Lib.Math.min.name, Cond.methodLink RX5 60 Lib.Math.max.name]
def wsX4_differenceWithout : List Cond := .code yX4_differenceWithout cX4_differenceWithout 4 (some .int) :: ((wsX4_differenceWithout_r1 ++ (wsX4_differenceWithout_r2 ++ wsX4_differenceWithout_r3)) ++ wsX40 ++ wsX50 ++ wsX60)
def wsX4_mixInto_r1 : List Cond := [Cond.fieldLink RX4 28 "HotPipes$Rests" "made" "I", Cond.constantLong RX4 79 (31), Cond.fieldLink RX4 21 "HotPipes$Rests" "readings" "[I", Cond.methodLink RX4 36 yX4_isGone, Cond.instanceMethod yX4_isGone, Cond.selects RX4 yX4_isGone yX4_isGone, Cond.initialized RX4, Cond.code yX4_isGone cX4_isGone 2 (some .boolean), Cond.fieldLink RX4 9 "HotPipes$Rests" "kinds" "[I", Cond.methodLink RX4 81 yX4_tell, Cond.instanceMethod yX4_tell, Cond.selects RX4 yX4_tell yX4_tell, Cond.code yX4_tell cX4_tell 3 (some .int), Cond.fieldLink RX4 15 "HotPipes$Rests" "places" "[I", Cond.fieldLink RX4 18 "HotPipes$Rests" "rates" "[I", Cond.methodLink RX4 40 yX4_isPresent, Cond.instanceMethod yX4_isPresent, Cond.selects RX4 yX4_isPresent yX4_isPresent, Cond.code yX4_isPresent cX4_isPresent 2 (some .boolean), Cond.fieldLink RX4 32 "HotPipes$Rests" "run" "LHotPipes$Run;", Cond.methodLink RX4 43 yX5_length, Cond.instanceMethod yX5_length, Cond.selects RX5 yX5_length yX5_length, Cond.initialized RX5]
def wsX4_mixInto_r2 : List Cond := [Cond.code yX5_length cX5_length 1 (some .int), Cond.fieldLink RX5 28 "HotPipes$Run" "length" "I"]
def wsX4_mixInto : List Cond := .code yX4_mixInto cX4_mixInto 5 (some .long) :: ((wsX4_mixInto_r1 ++ wsX4_mixInto_r2) ++ wsX40 ++ wsX50)
def wsX5_init : List Cond := .code yX5_init cX5_init 2 none :: ([.methodLink RX5 3 objectInit, .instanceMethod objectInit, .code objectInit ⟨#[0xb1]⟩ 1 none, .arrayClass .int, .fieldLink RX5 9 "HotPipes$Run" "ways" "[I", .fieldLink RX5 15 "HotPipes$Run" "units" "[I", .fieldLink RX5 18 "HotPipes$Run" "stuffOf" "[I", .fieldLink RX5 21 "HotPipes$Run" "point" "[I", .fieldLink RX5 24 "HotPipes$Run" "legs" "I", .fieldLink RX5 28 "HotPipes$Run" "length" "I", .fieldLink RX5 31 "HotPipes$Run" "stuffs" "LHotPipes$Stuffs;"] ++ wsX50)
def wsX5_legs : List Cond := .code yX5_legs cX5_legs 1 (some .int) :: ([.fieldLink RX5 24 "HotPipes$Run" "legs" "I"] ++ wsX50)
def wsX5_unitsOf : List Cond := .code yX5_unitsOf cX5_unitsOf 2 (some .int) :: ([.fieldLink RX5 15 "HotPipes$Run" "units" "[I"] ++ wsX50)
def wsX5_isAcross : List Cond := .code yX5_isAcross cX5_isAcross 3 (some .boolean) :: ([.fieldLink RX5 9 "HotPipes$Run" "ways" "[I", .methodLink RX5 35 yX5_axisOf, .static yX5_axisOf, .initialized RX5, .code yX5_axisOf cX5_axisOf 1 (some .int)] ++ wsX50)
def wsX5_append : List Cond := .code yX5_append cX5_append 4 none :: ([.fieldLink RX5 9 "HotPipes$Run" "ways" "[I", .fieldLink RX5 24 "HotPipes$Run" "legs" "I", .fieldLink RX5 15 "HotPipes$Run" "units" "[I", .fieldLink RX5 18 "HotPipes$Run" "stuffOf" "[I", .fieldLink RX5 28 "HotPipes$Run" "length" "I"] ++ wsX50)
def wsX5_removeLast : List Cond := .code yX5_removeLast cX5_removeLast 1 none :: ([.fieldLink RX5 24 "HotPipes$Run" "legs" "I", .fieldLink RX5 28 "HotPipes$Run" "length" "I", .fieldLink RX5 15 "HotPipes$Run" "units" "[I"] ++ wsX50)
def wsX5_position : List Cond := .code yX5_position cX5_position 6 (some .int) :: ([.fieldLink RX5 24 "HotPipes$Run" "legs" "I", .fieldLink RX5 9 "HotPipes$Run" "ways" "[I", .fieldLink RX5 15 "HotPipes$Run" "units" "[I", .methodLink RX5 35 yX5_axisOf, .static yX5_axisOf, .initialized RX5, .code yX5_axisOf cX5_axisOf 1 (some .int), .methodLink RX5 39 yX5_signOf, .static yX5_signOf, .code yX5_signOf cX5_signOf 1 (some .int), .methodLink RX5 42 yX5_unitsBetween, .instanceMethod yX5_unitsBetween, .selects RX5 yX5_unitsBetween yX5_unitsBetween, .code yX5_unitsBetween cX5_unitsBetween 5 (some .int), .methodLink RX5 55 Lib.Math.min.name, .static Lib.Math.min.name, .initialized "java/lang/Math", .code Lib.Math.min.name Lib.Math.min.code 2 (some .int), .methodLink RX5 60 Lib.Math.max.name, .static Lib.Math.max.name, .code Lib.Math.max.name Lib.Math.max.code 2 (some .int)] ++ wsX50)
def wsX5_root : List Cond := .code yX5_root cX5_root 7 (some .int) :: ([])
def wsX5_spare_r1 : List Cond := [Cond.fieldLink RX5 28 "HotPipes$Run" "length" "I", Cond.methodLink RX5 63 yX5_growth, Cond.instanceMethod yX5_growth, Cond.selects RX5 yX5_growth yX5_growth, Cond.initialized RX5, Cond.code yX5_growth cX5_growth 8 (some .int), Cond.fieldLink RX5 24 "HotPipes$Run" "legs" "I", Cond.fieldLink RX5 9 "HotPipes$Run" "ways" "[I", Cond.fieldLink RX5 31 "HotPipes$Run" "stuffs" "LHotPipes$Stuffs;", Cond.fieldLink RX5 18 "HotPipes$Run" "stuffOf" "[I", Cond.fieldLink RX5 15 "HotPipes$Run" "units" "[I", Cond.methodLink RX5 35 yX5_axisOf, Cond.static yX5_axisOf, Cond.code yX5_axisOf cX5_axisOf 1 (some .int), Cond.methodLink RX5 39 yX5_signOf, Cond.static yX5_signOf, Cond.code yX5_signOf cX5_signOf 1 (some .int), Cond.methodLink RX5 46 yX6_growthAt, Cond.instanceMethod yX6_growthAt, Cond.selects RX6 yX6_growthAt yX6_growthAt, Cond.initialized RX6, Cond.code yX6_growthAt cX6_growthAt 3 (some .int), Cond.fieldLink RX6 15 "HotPipes$Stuffs" "sizes" "[I", Cond.fieldLink RX6 9 "HotPipes$Stuffs" "bytes" "[B"]
def wsX5_spare_r2 : List Cond := [Cond.methodLink RX5 42 yX5_unitsBetween, Cond.instanceMethod yX5_unitsBetween, Cond.selects RX5 yX5_unitsBetween yX5_unitsBetween, Cond.code yX5_unitsBetween cX5_unitsBetween 5 (some .int), Cond.methodLink RX5 55 Lib.Math.min.name, Cond.static Lib.Math.min.name, Cond.initialized "java/lang/Math", Cond.code Lib.Math.min.name Lib.Math.min.code 2 (some .int), Cond.methodLink RX5 60 Lib.Math.max.name, Cond.static Lib.Math.max.name, Cond.code Lib.Math.max.name Lib.Math.max.code 2 (some .int), Cond.methodLink RX5 67 yX5_position, Cond.instanceMethod yX5_position, Cond.selects RX5 yX5_position yX5_position, Cond.code yX5_position cX5_position 6 (some .int), Cond.methodLink RX5 70 yX5_root, Cond.static yX5_root, Cond.code yX5_root cX5_root 7 (some .int)]
def wsX5_spare : List Cond := .code yX5_spare cX5_spare 13 (some .int) :: ((wsX5_spare_r1 ++ wsX5_spare_r2) ++ wsX50 ++ wsX60)
def wsX5_firstSoft_r1 : List Cond := [Cond.methodLink RX5 74 yX5_spare, Cond.instanceMethod yX5_spare, Cond.selects RX5 yX5_spare yX5_spare, Cond.initialized RX5, Cond.code yX5_spare cX5_spare 13 (some .int), Cond.fieldLink RX5 28 "HotPipes$Run" "length" "I", Cond.methodLink RX5 63 yX5_growth, Cond.instanceMethod yX5_growth, Cond.selects RX5 yX5_growth yX5_growth, Cond.code yX5_growth cX5_growth 8 (some .int), Cond.fieldLink RX5 24 "HotPipes$Run" "legs" "I", Cond.fieldLink RX5 9 "HotPipes$Run" "ways" "[I", Cond.fieldLink RX5 31 "HotPipes$Run" "stuffs" "LHotPipes$Stuffs;", Cond.fieldLink RX5 18 "HotPipes$Run" "stuffOf" "[I", Cond.fieldLink RX5 15 "HotPipes$Run" "units" "[I", Cond.methodLink RX5 35 yX5_axisOf, Cond.static yX5_axisOf, Cond.code yX5_axisOf cX5_axisOf 1 (some .int), Cond.methodLink RX5 39 yX5_signOf, Cond.static yX5_signOf, Cond.code yX5_signOf cX5_signOf 1 (some .int), Cond.methodLink RX5 46 yX6_growthAt, Cond.instanceMethod yX6_growthAt, Cond.selects RX6 yX6_growthAt yX6_growthAt]
def wsX5_firstSoft_r2 : List Cond := [Cond.initialized RX6, Cond.code yX6_growthAt cX6_growthAt 3 (some .int), Cond.fieldLink RX6 15 "HotPipes$Stuffs" "sizes" "[I", Cond.fieldLink RX6 9 "HotPipes$Stuffs" "bytes" "[B", Cond.methodLink RX5 42 yX5_unitsBetween, Cond.instanceMethod yX5_unitsBetween, Cond.selects RX5 yX5_unitsBetween yX5_unitsBetween, Cond.code yX5_unitsBetween cX5_unitsBetween 5 (some .int), Cond.methodLink RX5 55 Lib.Math.min.name, Cond.static Lib.Math.min.name, Cond.initialized "java/lang/Math", Cond.code Lib.Math.min.name Lib.Math.min.code 2 (some .int), Cond.methodLink RX5 60 Lib.Math.max.name, Cond.static Lib.Math.max.name, Cond.code Lib.Math.max.name Lib.Math.max.code 2 (some .int), Cond.methodLink RX5 67 yX5_position, Cond.instanceMethod yX5_position, Cond.selects RX5 yX5_position yX5_position, Cond.code yX5_position cX5_position 6 (some .int), Cond.methodLink RX5 70 yX5_root, Cond.static yX5_root, Cond.code yX5_root cX5_root 7 (some .int)]
def wsX5_firstSoft : List Cond := .code yX5_firstSoft cX5_firstSoft 4 (some .int) :: ((wsX5_firstSoft_r1 ++ wsX5_firstSoft_r2) ++ wsX50 ++ wsX60)
def wsX5_startAtFoot_r1 : List Cond := [Cond.fieldLink RX5 15 "HotPipes$Run" "units" "[I", Cond.fieldLink RX5 21 "HotPipes$Run" "point" "[I", Cond.methodLink RX5 67 yX5_position, Cond.instanceMethod yX5_position, Cond.selects RX5 yX5_position yX5_position, Cond.initialized RX5, Cond.code yX5_position cX5_position 6 (some .int), Cond.fieldLink RX5 24 "HotPipes$Run" "legs" "I", Cond.fieldLink RX5 9 "HotPipes$Run" "ways" "[I", Cond.methodLink RX5 35 yX5_axisOf, Cond.static yX5_axisOf, Cond.code yX5_axisOf cX5_axisOf 1 (some .int), Cond.methodLink RX5 39 yX5_signOf, Cond.static yX5_signOf, Cond.code yX5_signOf cX5_signOf 1 (some .int), Cond.methodLink RX5 42 yX5_unitsBetween, Cond.instanceMethod yX5_unitsBetween, Cond.selects RX5 yX5_unitsBetween yX5_unitsBetween, Cond.code yX5_unitsBetween cX5_unitsBetween 5 (some .int), Cond.methodLink RX5 55 Lib.Math.min.name, Cond.static Lib.Math.min.name, Cond.initialized "java/lang/Math", Cond.code Lib.Math.min.name Lib.Math.min.code 2 (some .int), Cond.methodLink RX5 60 Lib.Math.max.name]
def wsX5_startAtFoot_r2 : List Cond := [Cond.static Lib.Math.max.name, Cond.code Lib.Math.max.name Lib.Math.max.code 2 (some .int)]
def wsX5_startAtFoot : List Cond := .code yX5_startAtFoot cX5_startAtFoot 4 none :: ((wsX5_startAtFoot_r1 ++ wsX5_startAtFoot_r2) ++ wsX50)
def wsX5_loopsThatMeetPoint : List Cond := .code yX5_loopsThatMeetPoint cX5_loopsThatMeetPoint 9 (some .int) :: ([.fieldLink RX5 9 "HotPipes$Run" "ways" "[I", .fieldLink RX5 15 "HotPipes$Run" "units" "[I", .fieldLink RX5 21 "HotPipes$Run" "point" "[I", .methodLink RX5 35 yX5_axisOf, .static yX5_axisOf, .initialized RX5, .code yX5_axisOf cX5_axisOf 1 (some .int), .methodLink RX5 39 yX5_signOf, .static yX5_signOf, .code yX5_signOf cX5_signOf 1 (some .int)] ++ wsX50)
def wsX5_loopsThatMeet_r1 : List Cond := [Cond.fieldLink RX5 24 "HotPipes$Run" "legs" "I", Cond.fieldLink RX5 9 "HotPipes$Run" "ways" "[I", Cond.fieldLink RX5 15 "HotPipes$Run" "units" "[I", Cond.fieldLink RX5 21 "HotPipes$Run" "point" "[I", Cond.methodLink RX5 84 yX5_startAtFoot, Cond.instanceMethod yX5_startAtFoot, Cond.selects RX5 yX5_startAtFoot yX5_startAtFoot, Cond.initialized RX5, Cond.code yX5_startAtFoot cX5_startAtFoot 4 none, Cond.methodLink RX5 67 yX5_position, Cond.instanceMethod yX5_position, Cond.selects RX5 yX5_position yX5_position, Cond.code yX5_position cX5_position 6 (some .int), Cond.methodLink RX5 35 yX5_axisOf, Cond.static yX5_axisOf, Cond.code yX5_axisOf cX5_axisOf 1 (some .int), Cond.methodLink RX5 39 yX5_signOf, Cond.static yX5_signOf, Cond.code yX5_signOf cX5_signOf 1 (some .int), Cond.methodLink RX5 42 yX5_unitsBetween, Cond.instanceMethod yX5_unitsBetween, Cond.selects RX5 yX5_unitsBetween yX5_unitsBetween, Cond.code yX5_unitsBetween cX5_unitsBetween 5 (some .int), Cond.methodLink RX5 55 Lib.Math.min.name]
def wsX5_loopsThatMeet_r2 : List Cond := [Cond.static Lib.Math.min.name, Cond.initialized "java/lang/Math", Cond.code Lib.Math.min.name Lib.Math.min.code 2 (some .int), Cond.methodLink RX5 60 Lib.Math.max.name, Cond.static Lib.Math.max.name, Cond.code Lib.Math.max.name Lib.Math.max.code 2 (some .int), Cond.methodLink RX5 88 yX5_loopsThatMeetPoint, Cond.instanceMethod yX5_loopsThatMeetPoint, Cond.selects RX5 yX5_loopsThatMeetPoint yX5_loopsThatMeetPoint, Cond.code yX5_loopsThatMeetPoint cX5_loopsThatMeetPoint 9 (some .int)]
def wsX5_loopsThatMeet : List Cond := .code yX5_loopsThatMeet cX5_loopsThatMeet 7 (some .int) :: ((wsX5_loopsThatMeet_r1 ++ wsX5_loopsThatMeet_r2) ++ wsX50)
def wsX5_leastLoop_r1 : List Cond := [Cond.fieldLink RX5 15 "HotPipes$Run" "units" "[I", Cond.methodLink RX5 77 yX5_isAcross, Cond.instanceMethod yX5_isAcross, Cond.selects RX5 yX5_isAcross yX5_isAcross, Cond.initialized RX5, Cond.code yX5_isAcross cX5_isAcross 3 (some .boolean), Cond.fieldLink RX5 9 "HotPipes$Run" "ways" "[I", Cond.methodLink RX5 35 yX5_axisOf, Cond.static yX5_axisOf, Cond.code yX5_axisOf cX5_axisOf 1 (some .int), Cond.methodLink RX5 81 yX5_loopsThatMeet, Cond.instanceMethod yX5_loopsThatMeet, Cond.selects RX5 yX5_loopsThatMeet yX5_loopsThatMeet, Cond.code yX5_loopsThatMeet cX5_loopsThatMeet 7 (some .int), Cond.fieldLink RX5 24 "HotPipes$Run" "legs" "I", Cond.fieldLink RX5 21 "HotPipes$Run" "point" "[I", Cond.methodLink RX5 84 yX5_startAtFoot, Cond.instanceMethod yX5_startAtFoot, Cond.selects RX5 yX5_startAtFoot yX5_startAtFoot, Cond.code yX5_startAtFoot cX5_startAtFoot 4 none, Cond.methodLink RX5 67 yX5_position, Cond.instanceMethod yX5_position, Cond.selects RX5 yX5_position yX5_position, Cond.code yX5_position cX5_position 6 (some .int)]
def wsX5_leastLoop_r2 : List Cond := [Cond.methodLink RX5 39 yX5_signOf, Cond.static yX5_signOf, Cond.code yX5_signOf cX5_signOf 1 (some .int), Cond.methodLink RX5 42 yX5_unitsBetween, Cond.instanceMethod yX5_unitsBetween, Cond.selects RX5 yX5_unitsBetween yX5_unitsBetween, Cond.code yX5_unitsBetween cX5_unitsBetween 5 (some .int), Cond.methodLink RX5 55 Lib.Math.min.name, Cond.static Lib.Math.min.name, Cond.initialized "java/lang/Math", Cond.code Lib.Math.min.name Lib.Math.min.code 2 (some .int), Cond.methodLink RX5 60 Lib.Math.max.name, Cond.static Lib.Math.max.name, Cond.code Lib.Math.max.name Lib.Math.max.code 2 (some .int), Cond.methodLink RX5 88 yX5_loopsThatMeetPoint, Cond.instanceMethod yX5_loopsThatMeetPoint, Cond.selects RX5 yX5_loopsThatMeetPoint yX5_loopsThatMeetPoint, Cond.code yX5_loopsThatMeetPoint cX5_loopsThatMeetPoint 9 (some .int)]
def wsX5_leastLoop : List Cond := .code yX5_leastLoop cX5_leastLoop 6 (some .int) :: ((wsX5_leastLoop_r1 ++ wsX5_leastLoop_r2) ++ wsX50)
def wsX5_mixInto : List Cond := .code yX5_mixInto cX5_mixInto 4 (some .long) :: ([.fieldLink RX5 24 "HotPipes$Run" "legs" "I", .constantLong RX5 91 (31), .fieldLink RX5 9 "HotPipes$Run" "ways" "[I", .fieldLink RX5 15 "HotPipes$Run" "units" "[I", .fieldLink RX5 18 "HotPipes$Run" "stuffOf" "[I"] ++ wsX50)
def wsX6_init : List Cond := .code yX6_init cX6_init 1 none :: ([.methodLink RX6 3 objectInit, .instanceMethod objectInit, .code objectInit ⟨#[0xb1]⟩ 1 none, .arrayClass .byte, .fieldLink RX6 9 "HotPipes$Stuffs" "bytes" "[B", .arrayClass .int, .fieldLink RX6 15 "HotPipes$Stuffs" "sizes" "[I", .fieldLink RX6 19 "HotPipes$Stuffs" "weights" "[I", .methodLink RX6 22 yJ7_fill_53178, .static yJ7_fill_53178, .initialized RJ7, .code yJ7_fill_53178 cJ7_fill_53178 4 none] ++ wsX60)
def wsX6_isThere : List Cond := .code yX6_isThere cX6_isThere 2 (some .boolean) :: ([.fieldLink RX6 15 "HotPipes$Stuffs" "sizes" "[I"] ++ wsX60)
def wsX6_hasBytes : List Cond := .code yX6_hasBytes cX6_hasBytes 4 (some .boolean) :: ([.fieldLink RX6 15 "HotPipes$Stuffs" "sizes" "[I"] ++ wsX60)
def wsX6_sizeOf : List Cond := .code yX6_sizeOf cX6_sizeOf 2 (some .int) :: ([.fieldLink RX6 15 "HotPipes$Stuffs" "sizes" "[I"] ++ wsX60)
def wsX6_begin : List Cond := .code yX6_begin cX6_begin 4 none :: ([.fieldLink RX6 9 "HotPipes$Stuffs" "bytes" "[B", .fieldLink RX6 15 "HotPipes$Stuffs" "sizes" "[I"] ++ wsX60)
def wsX6_end : List Cond := .code yX6_end cX6_end 2 none :: ([.fieldLink RX6 15 "HotPipes$Stuffs" "sizes" "[I"] ++ wsX60)
def wsX6_replace : List Cond := .code yX6_replace cX6_replace 5 (some .int) :: ([.fieldLink RX6 9 "HotPipes$Stuffs" "bytes" "[B"] ++ wsX60)
def wsX6_transfer : List Cond := .code yX6_transfer cX6_transfer 6 none :: ([.fieldLink RX6 9 "HotPipes$Stuffs" "bytes" "[B", .methodLink RX6 28 arraycopyName, .native arraycopyName, .static arraycopyName, .initialized "java/lang/System"] ++ wsX60)
def wsX6_reweigh : List Cond := .code yX6_reweigh cX6_reweigh 4 (some .int) :: ([.fieldLink RX6 19 "HotPipes$Stuffs" "weights" "[I"] ++ wsX60)
def wsX6_sumOf : List Cond := .code yX6_sumOf cX6_sumOf 4 (some .int) :: ([.fieldLink RX6 15 "HotPipes$Stuffs" "sizes" "[I", .fieldLink RX6 9 "HotPipes$Stuffs" "bytes" "[B"] ++ wsX60)
def wsX6_mixInto : List Cond := .code yX6_mixInto cX6_mixInto 5 (some .long) :: ([.constantLong RX6 34 (31), .fieldLink RX6 19 "HotPipes$Stuffs" "weights" "[I", .fieldLink RX6 15 "HotPipes$Stuffs" "sizes" "[I", .fieldLink RX6 9 "HotPipes$Stuffs" "bytes" "[B"] ++ wsX60)
def wsX7_init_r1 : List Cond := [Cond.methodLink RX7 1 objectInit, Cond.instanceMethod objectInit, Cond.code objectInit ⟨#[0xb1]⟩ 1 none, Cond.classLink RX7 7 RX6, Cond.instantiable RX6 3, Cond.initialized RX6, Cond.fieldLink RX7 10 "HotPipes" "stuffs" "LHotPipes$Stuffs;", Cond.classLink RX7 16 RX5, Cond.instantiable RX5 7, Cond.initialized RX5, Cond.fieldLink RX7 21 "HotPipes" "run" "LHotPipes$Run;", Cond.classLink RX7 25 RX4, Cond.instantiable RX4 7, Cond.initialized RX4, Cond.fieldLink RX7 30 "HotPipes" "rests" "LHotPipes$Rests;", Cond.classLink RX7 34 RX3, Cond.instantiable RX3 2, Cond.initialized RX3, Cond.fieldLink RX7 37 "HotPipes" "rates" "LHotPipes$Rates;", Cond.classLink RX7 41 RX0, Cond.instantiable RX0 4, Cond.initialized RX0, Cond.fieldLink RX7 44 "HotPipes" "cases" "LHotPipes$Cases;", Cond.classLink RX7 48 RX1]
def wsX7_init_r2 : List Cond := [Cond.instantiable RX1 2, Cond.initialized RX1, Cond.fieldLink RX7 51 "HotPipes" "cycles" "LHotPipes$Cycles;", Cond.classLink RX7 55 RX2, Cond.instantiable RX2 2, Cond.initialized RX2, Cond.fieldLink RX7 58 "HotPipes" "fraction" "LHotPipes$Fraction;", Cond.arrayClass .int, Cond.fieldLink RX7 62 "HotPipes" "found" "[I", Cond.fieldLink RX7 66 "HotPipes" "lastFound" "I", Cond.fieldLink RX7 70 "HotPipes" "lastAsked" "I", Cond.methodLink RX7 9 yX6_init, Cond.instanceMethod yX6_init, Cond.code yX6_init cX6_init 1 none, Cond.methodLink RX6 3 objectInit, Cond.arrayClass .byte, Cond.fieldLink RX6 9 "HotPipes$Stuffs" "bytes" "[B", Cond.fieldLink RX6 15 "HotPipes$Stuffs" "sizes" "[I", Cond.fieldLink RX6 19 "HotPipes$Stuffs" "weights" "[I", Cond.methodLink RX6 22 yJ7_fill_53178, Cond.static yJ7_fill_53178, Cond.initialized RJ7, Cond.code yJ7_fill_53178 cJ7_fill_53178 4 none, Cond.methodLink RX7 18 yX5_init]
def wsX7_init_r3 : List Cond := [Cond.instanceMethod yX5_init, Cond.code yX5_init cX5_init 2 none, Cond.methodLink RX5 3 objectInit, Cond.fieldLink RX5 9 "HotPipes$Run" "ways" "[I", Cond.fieldLink RX5 15 "HotPipes$Run" "units" "[I", Cond.fieldLink RX5 18 "HotPipes$Run" "stuffOf" "[I", Cond.fieldLink RX5 21 "HotPipes$Run" "point" "[I", Cond.fieldLink RX5 24 "HotPipes$Run" "legs" "I", Cond.fieldLink RX5 28 "HotPipes$Run" "length" "I", Cond.fieldLink RX5 31 "HotPipes$Run" "stuffs" "LHotPipes$Stuffs;", Cond.methodLink RX7 27 yX4_init, Cond.instanceMethod yX4_init, Cond.code yX4_init cX4_init 2 none, Cond.methodLink RX4 3 objectInit, Cond.fieldLink RX4 9 "HotPipes$Rests" "kinds" "[I", Cond.fieldLink RX4 15 "HotPipes$Rests" "places" "[I", Cond.fieldLink RX4 18 "HotPipes$Rests" "rates" "[I", Cond.fieldLink RX4 21 "HotPipes$Rests" "readings" "[I", Cond.arrayClass .boolean, Cond.fieldLink RX4 24 "HotPipes$Rests" "bearing" "[Z", Cond.fieldLink RX4 28 "HotPipes$Rests" "made" "I", Cond.fieldLink RX4 32 "HotPipes$Rests" "run" "LHotPipes$Run;", Cond.instanceMethod yX3_init, Cond.code yX3_init cX3_init 1 none]
def wsX7_init_r4 : List Cond := [Cond.methodLink RX3 3 objectInit, Cond.fieldLink RX3 9 "HotPipes$Rates" "rates" "[I", Cond.fieldLink RX3 15 "HotPipes$Rates" "size" "I", Cond.methodLink RX7 43 yX0_init, Cond.instanceMethod yX0_init, Cond.code yX0_init cX0_init 1 none, Cond.methodLink RX0 3 objectInit, Cond.fieldLink RX0 9 "HotPipes$Cases" "amounts" "[I", Cond.fieldLink RX0 15 "HotPipes$Cases" "lows" "[I", Cond.fieldLink RX0 18 "HotPipes$Cases" "highs" "[I", Cond.fieldLink RX0 21 "HotPipes$Cases" "barred" "[I", Cond.methodLink RX0 24 yJ7_fill_53178, Cond.instanceMethod yX1_init, Cond.code yX1_init cX1_init 1 none, Cond.methodLink RX1 1 objectInit, Cond.fieldLink RX1 7 "HotPipes$Cycles" "lines" "I", Cond.fieldLink RX1 13 "HotPipes$Cycles" "parts" "J", Cond.instanceMethod yX2_init, Cond.code yX2_init cX2_init 1 none, Cond.methodLink RX2 1 objectInit, Cond.fieldLink RX2 7 "HotPipes$Fraction" "above" "J", Cond.fieldLink RX2 13 "HotPipes$Fraction" "below" "J"]
def wsX7_init : List Cond := .code yX7_init cX7_init 1 none :: ((wsX7_init_r1 ++ (wsX7_init_r2 ++ (wsX7_init_r3 ++ wsX7_init_r4))) ++ wsX60 ++ wsX70 ++ wsX50 ++ wsX40 ++ wsX30 ++ wsX00 ++ wsX10 ++ wsX20)
def wsX7_isWithin : List Cond := .code yX7_isWithin cX7_isWithin 3 (some .boolean) :: ([])
def wsX7_isStuff : List Cond := .code yX7_isStuff cX7_isStuff 1 (some .boolean) :: ([.methodLink RX7 107 yX7_isWithin, .static yX7_isWithin, .initialized RX7, .code yX7_isWithin cX7_isWithin 3 (some .boolean)])
def wsX7_refuse : List Cond := .code yX7_refuse cX7_refuse 2 (some .int) :: ([.fieldLink RX7 62 "HotPipes" "found" "[I", .fieldLink RX7 66 "HotPipes" "lastFound" "I", .methodLink RX7 107 yX7_isWithin, .static yX7_isWithin, .initialized RX7, .code yX7_isWithin cX7_isWithin 3 (some .boolean)] ++ wsX70)
def wsX7_stuff : List Cond := .code yX7_stuff cX7_stuff 3 (some .int) :: ([.fieldLink RX7 10 "HotPipes" "stuffs" "LHotPipes$Stuffs;", .methodLink RX7 73 yX7_isStuff, .static yX7_isStuff, .initialized RX7, .code yX7_isStuff cX7_isStuff 1 (some .boolean), .methodLink RX7 107 yX7_isWithin, .static yX7_isWithin, .code yX7_isWithin cX7_isWithin 3 (some .boolean), .methodLink RX7 77 yX7_refuse, .instanceMethod yX7_refuse, .selects RX7 yX7_refuse yX7_refuse, .code yX7_refuse cX7_refuse 2 (some .int), .fieldLink RX7 62 "HotPipes" "found" "[I", .fieldLink RX7 66 "HotPipes" "lastFound" "I", .methodLink RX7 81 yX6_begin, .instanceMethod yX6_begin, .selects RX6 yX6_begin yX6_begin, .initialized RX6, .code yX6_begin cX6_begin 4 none, .fieldLink RX6 9 "HotPipes$Stuffs" "bytes" "[B", .fieldLink RX6 15 "HotPipes$Stuffs" "sizes" "[I"] ++ wsX70 ++ wsX60)
def wsX7_refusalOfStuff : List Cond := .code yX7_refusalOfStuff cX7_refusalOfStuff 2 (some .int) :: ([.fieldLink RX7 10 "HotPipes" "stuffs" "LHotPipes$Stuffs;", .methodLink RX7 73 yX7_isStuff, .static yX7_isStuff, .initialized RX7, .code yX7_isStuff cX7_isStuff 1 (some .boolean), .methodLink RX7 107 yX7_isWithin, .static yX7_isWithin, .code yX7_isWithin cX7_isWithin 3 (some .boolean), .methodLink RX7 100 yX6_isThere, .instanceMethod yX6_isThere, .selects RX6 yX6_isThere yX6_isThere, .initialized RX6, .code yX6_isThere cX6_isThere 2 (some .boolean), .fieldLink RX6 15 "HotPipes$Stuffs" "sizes" "[I", .methodLink RX7 77 yX7_refuse, .instanceMethod yX7_refuse, .selects RX7 yX7_refuse yX7_refuse, .code yX7_refuse cX7_refuse 2 (some .int), .fieldLink RX7 62 "HotPipes" "found" "[I", .fieldLink RX7 66 "HotPipes" "lastFound" "I"] ++ wsX70 ++ wsX60)
def wsX7_lay_r1 : List Cond := [Cond.fieldLink RX7 10 "HotPipes" "stuffs" "LHotPipes$Stuffs;", Cond.methodLink RX7 85 yX7_refusalOfStuff, Cond.instanceMethod yX7_refusalOfStuff, Cond.selects RX7 yX7_refusalOfStuff yX7_refusalOfStuff, Cond.initialized RX7, Cond.code yX7_refusalOfStuff cX7_refusalOfStuff 2 (some .int), Cond.methodLink RX7 73 yX7_isStuff, Cond.static yX7_isStuff, Cond.code yX7_isStuff cX7_isStuff 1 (some .boolean), Cond.methodLink RX7 107 yX7_isWithin, Cond.static yX7_isWithin, Cond.code yX7_isWithin cX7_isWithin 3 (some .boolean), Cond.methodLink RX7 100 yX6_isThere, Cond.instanceMethod yX6_isThere, Cond.selects RX6 yX6_isThere yX6_isThere, Cond.initialized RX6, Cond.code yX6_isThere cX6_isThere 2 (some .boolean), Cond.fieldLink RX6 15 "HotPipes$Stuffs" "sizes" "[I", Cond.methodLink RX7 77 yX7_refuse, Cond.instanceMethod yX7_refuse, Cond.selects RX7 yX7_refuse yX7_refuse, Cond.code yX7_refuse cX7_refuse 2 (some .int), Cond.fieldLink RX7 62 "HotPipes" "found" "[I", Cond.fieldLink RX7 66 "HotPipes" "lastFound" "I"]
def wsX7_lay_r2 : List Cond := [Cond.methodLink RX7 88 yX6_hasBytes, Cond.instanceMethod yX6_hasBytes, Cond.selects RX6 yX6_hasBytes yX6_hasBytes, Cond.code yX6_hasBytes cX6_hasBytes 4 (some .boolean), Cond.methodLink RX7 92 yX6_replace, Cond.instanceMethod yX6_replace, Cond.selects RX6 yX6_replace yX6_replace, Cond.code yX6_replace cX6_replace 5 (some .int), Cond.fieldLink RX6 9 "HotPipes$Stuffs" "bytes" "[B"]
def wsX7_lay : List Cond := .code yX7_lay cX7_lay 5 (some .int) :: ((wsX7_lay_r1 ++ wsX7_lay_r2) ++ wsX70 ++ wsX60)
def wsX7_tear_r1 : List Cond := [Cond.fieldLink RX7 10 "HotPipes" "stuffs" "LHotPipes$Stuffs;", Cond.methodLink RX7 85 yX7_refusalOfStuff, Cond.instanceMethod yX7_refusalOfStuff, Cond.selects RX7 yX7_refusalOfStuff yX7_refusalOfStuff, Cond.initialized RX7, Cond.code yX7_refusalOfStuff cX7_refusalOfStuff 2 (some .int), Cond.methodLink RX7 73 yX7_isStuff, Cond.static yX7_isStuff, Cond.code yX7_isStuff cX7_isStuff 1 (some .boolean), Cond.methodLink RX7 107 yX7_isWithin, Cond.static yX7_isWithin, Cond.code yX7_isWithin cX7_isWithin 3 (some .boolean), Cond.methodLink RX7 100 yX6_isThere, Cond.instanceMethod yX6_isThere, Cond.selects RX6 yX6_isThere yX6_isThere, Cond.initialized RX6, Cond.code yX6_isThere cX6_isThere 2 (some .boolean), Cond.fieldLink RX6 15 "HotPipes$Stuffs" "sizes" "[I", Cond.methodLink RX7 77 yX7_refuse, Cond.instanceMethod yX7_refuse, Cond.selects RX7 yX7_refuse yX7_refuse, Cond.code yX7_refuse cX7_refuse 2 (some .int), Cond.fieldLink RX7 62 "HotPipes" "found" "[I", Cond.fieldLink RX7 66 "HotPipes" "lastFound" "I"]
def wsX7_tear_r2 : List Cond := [Cond.methodLink RX7 96 yX6_end, Cond.instanceMethod yX6_end, Cond.selects RX6 yX6_end yX6_end, Cond.code yX6_end cX6_end 2 none]
def wsX7_tear : List Cond := .code yX7_tear cX7_tear 3 (some .int) :: ((wsX7_tear_r1 ++ wsX7_tear_r2) ++ wsX70 ++ wsX60)
def wsX7_copy_r1 : List Cond := [Cond.fieldLink RX7 10 "HotPipes" "stuffs" "LHotPipes$Stuffs;", Cond.methodLink RX7 73 yX7_isStuff, Cond.static yX7_isStuff, Cond.initialized RX7, Cond.code yX7_isStuff cX7_isStuff 1 (some .boolean), Cond.methodLink RX7 107 yX7_isWithin, Cond.static yX7_isWithin, Cond.code yX7_isWithin cX7_isWithin 3 (some .boolean), Cond.methodLink RX7 100 yX6_isThere, Cond.instanceMethod yX6_isThere, Cond.selects RX6 yX6_isThere yX6_isThere, Cond.initialized RX6, Cond.code yX6_isThere cX6_isThere 2 (some .boolean), Cond.fieldLink RX6 15 "HotPipes$Stuffs" "sizes" "[I", Cond.methodLink RX7 77 yX7_refuse, Cond.instanceMethod yX7_refuse, Cond.selects RX7 yX7_refuse yX7_refuse, Cond.code yX7_refuse cX7_refuse 2 (some .int), Cond.fieldLink RX7 62 "HotPipes" "found" "[I", Cond.fieldLink RX7 66 "HotPipes" "lastFound" "I", Cond.methodLink RX7 88 yX6_hasBytes, Cond.instanceMethod yX6_hasBytes, Cond.selects RX6 yX6_hasBytes yX6_hasBytes, Cond.code yX6_hasBytes cX6_hasBytes 4 (some .boolean)]
def wsX7_copy_r2 : List Cond := [Cond.methodLink RX7 103 yX6_transfer, Cond.instanceMethod yX6_transfer, Cond.selects RX6 yX6_transfer yX6_transfer, Cond.code yX6_transfer cX6_transfer 6 none, Cond.fieldLink RX6 9 "HotPipes$Stuffs" "bytes" "[B", Cond.methodLink RX6 28 arraycopyName, Cond.native arraycopyName, Cond.static arraycopyName, Cond.initialized "java/lang/System"]
def wsX7_copy : List Cond := .code yX7_copy cX7_copy 6 (some .int) :: ((wsX7_copy_r1 ++ wsX7_copy_r2) ++ wsX70 ++ wsX60)
def wsX7_weigh : List Cond := .code yX7_weigh cX7_weigh 3 (some .int) :: ([.fieldLink RX7 10 "HotPipes" "stuffs" "LHotPipes$Stuffs;", .methodLink RX7 73 yX7_isStuff, .static yX7_isStuff, .initialized RX7, .code yX7_isStuff cX7_isStuff 1 (some .boolean), .methodLink RX7 107 yX7_isWithin, .static yX7_isWithin, .code yX7_isWithin cX7_isWithin 3 (some .boolean), .methodLink RX7 110 yX6_reweigh, .instanceMethod yX6_reweigh, .selects RX6 yX6_reweigh yX6_reweigh, .initialized RX6, .code yX6_reweigh cX6_reweigh 4 (some .int), .fieldLink RX6 19 "HotPipes$Stuffs" "weights" "[I"] ++ wsX70 ++ wsX60)
def wsX7_mean_r1 : List Cond := [Cond.fieldLink RX7 10 "HotPipes" "stuffs" "LHotPipes$Stuffs;", Cond.methodLink RX7 85 yX7_refusalOfStuff, Cond.instanceMethod yX7_refusalOfStuff, Cond.selects RX7 yX7_refusalOfStuff yX7_refusalOfStuff, Cond.initialized RX7, Cond.code yX7_refusalOfStuff cX7_refusalOfStuff 2 (some .int), Cond.methodLink RX7 73 yX7_isStuff, Cond.static yX7_isStuff, Cond.code yX7_isStuff cX7_isStuff 1 (some .boolean), Cond.methodLink RX7 107 yX7_isWithin, Cond.static yX7_isWithin, Cond.code yX7_isWithin cX7_isWithin 3 (some .boolean), Cond.methodLink RX7 100 yX6_isThere, Cond.instanceMethod yX6_isThere, Cond.selects RX6 yX6_isThere yX6_isThere, Cond.initialized RX6, Cond.code yX6_isThere cX6_isThere 2 (some .boolean), Cond.fieldLink RX6 15 "HotPipes$Stuffs" "sizes" "[I", Cond.methodLink RX7 77 yX7_refuse, Cond.instanceMethod yX7_refuse, Cond.selects RX7 yX7_refuse yX7_refuse, Cond.code yX7_refuse cX7_refuse 2 (some .int), Cond.fieldLink RX7 62 "HotPipes" "found" "[I", Cond.fieldLink RX7 66 "HotPipes" "lastFound" "I"]
def wsX7_mean_r2 : List Cond := [Cond.methodLink RX7 114 yX6_sizeOf, Cond.instanceMethod yX6_sizeOf, Cond.selects RX6 yX6_sizeOf yX6_sizeOf, Cond.code yX6_sizeOf cX6_sizeOf 2 (some .int), Cond.methodLink RX7 117 yX6_sumOf, Cond.instanceMethod yX6_sumOf, Cond.selects RX6 yX6_sumOf yX6_sumOf, Cond.code yX6_sumOf cX6_sumOf 4 (some .int), Cond.fieldLink RX6 9 "HotPipes$Stuffs" "bytes" "[B"]
def wsX7_mean : List Cond := .code yX7_mean cX7_mean 4 (some .int) :: ((wsX7_mean_r1 ++ wsX7_mean_r2) ++ wsX70 ++ wsX60)
def wsX7_isWay : List Cond := .code yX7_isWay cX7_isWay 1 (some .boolean) :: ([.methodLink RX7 107 yX7_isWithin, .static yX7_isWithin, .initialized RX7, .code yX7_isWithin cX7_isWithin 3 (some .boolean)])
def wsX7_leg_r1 : List Cond := [Cond.fieldLink RX7 21 "HotPipes" "run" "LHotPipes$Run;", Cond.methodLink RX7 120 yX7_isWay, Cond.static yX7_isWay, Cond.initialized RX7, Cond.code yX7_isWay cX7_isWay 1 (some .boolean), Cond.methodLink RX7 107 yX7_isWithin, Cond.static yX7_isWithin, Cond.code yX7_isWithin cX7_isWithin 3 (some .boolean), Cond.methodLink RX7 73 yX7_isStuff, Cond.static yX7_isStuff, Cond.code yX7_isStuff cX7_isStuff 1 (some .boolean), Cond.methodLink RX7 123 yX5_legs, Cond.instanceMethod yX5_legs, Cond.selects RX5 yX5_legs yX5_legs, Cond.initialized RX5, Cond.code yX5_legs cX5_legs 1 (some .int), Cond.fieldLink RX5 24 "HotPipes$Run" "legs" "I", Cond.methodLink RX7 127 yX5_append, Cond.instanceMethod yX5_append, Cond.selects RX5 yX5_append yX5_append, Cond.code yX5_append cX5_append 4 none, Cond.fieldLink RX5 9 "HotPipes$Run" "ways" "[I", Cond.fieldLink RX5 15 "HotPipes$Run" "units" "[I", Cond.fieldLink RX5 18 "HotPipes$Run" "stuffOf" "[I"]
def wsX7_leg_r2 : List Cond := [Cond.fieldLink RX5 28 "HotPipes$Run" "length" "I"]
def wsX7_leg : List Cond := .code yX7_leg cX7_leg 4 (some .int) :: ((wsX7_leg_r1 ++ wsX7_leg_r2) ++ wsX70 ++ wsX50)
def wsX7_cut : List Cond := .code yX7_cut cX7_cut 1 (some .int) :: ([.fieldLink RX7 21 "HotPipes" "run" "LHotPipes$Run;", .methodLink RX7 123 yX5_legs, .instanceMethod yX5_legs, .selects RX5 yX5_legs yX5_legs, .initialized RX5, .code yX5_legs cX5_legs 1 (some .int), .fieldLink RX5 24 "HotPipes$Run" "legs" "I", .methodLink RX7 131 yX5_removeLast, .instanceMethod yX5_removeLast, .selects RX5 yX5_removeLast yX5_removeLast, .code yX5_removeLast cX5_removeLast 1 none, .fieldLink RX5 28 "HotPipes$Run" "length" "I", .fieldLink RX5 15 "HotPipes$Run" "units" "[I"] ++ wsX70 ++ wsX50)
def wsX7_isAxis : List Cond := .code yX7_isAxis cX7_isAxis 1 (some .boolean) :: ([.methodLink RX7 107 yX7_isWithin, .static yX7_isWithin, .initialized RX7, .code yX7_isWithin cX7_isWithin 3 (some .boolean)])
def wsX7_where_r1 : List Cond := [Cond.fieldLink RX7 21 "HotPipes" "run" "LHotPipes$Run;", Cond.fieldLink RX7 70 "HotPipes" "lastAsked" "I", Cond.methodLink RX7 134 yX5_length, Cond.instanceMethod yX5_length, Cond.selects RX5 yX5_length yX5_length, Cond.initialized RX5, Cond.code yX5_length cX5_length 1 (some .int), Cond.fieldLink RX5 28 "HotPipes$Run" "length" "I", Cond.methodLink RX7 107 yX7_isWithin, Cond.static yX7_isWithin, Cond.initialized RX7, Cond.code yX7_isWithin cX7_isWithin 3 (some .boolean), Cond.methodLink RX7 137 yX7_isAxis, Cond.static yX7_isAxis, Cond.code yX7_isAxis cX7_isAxis 1 (some .boolean), Cond.methodLink RX7 140 yX5_position, Cond.instanceMethod yX5_position, Cond.selects RX5 yX5_position yX5_position, Cond.code yX5_position cX5_position 6 (some .int), Cond.fieldLink RX5 24 "HotPipes$Run" "legs" "I", Cond.fieldLink RX5 9 "HotPipes$Run" "ways" "[I", Cond.fieldLink RX5 15 "HotPipes$Run" "units" "[I", Cond.methodLink RX5 35 yX5_axisOf, Cond.static yX5_axisOf]
def wsX7_where_r2 : List Cond := [Cond.code yX5_axisOf cX5_axisOf 1 (some .int), Cond.methodLink RX5 39 yX5_signOf, Cond.static yX5_signOf, Cond.code yX5_signOf cX5_signOf 1 (some .int), Cond.methodLink RX5 42 yX5_unitsBetween, Cond.instanceMethod yX5_unitsBetween, Cond.selects RX5 yX5_unitsBetween yX5_unitsBetween, Cond.code yX5_unitsBetween cX5_unitsBetween 5 (some .int), Cond.methodLink RX5 55 Lib.Math.min.name, Cond.static Lib.Math.min.name, Cond.initialized "java/lang/Math", Cond.code Lib.Math.min.name Lib.Math.min.code 2 (some .int), Cond.methodLink RX5 60 Lib.Math.max.name, Cond.static Lib.Math.max.name, Cond.code Lib.Math.max.name Lib.Math.max.code 2 (some .int)]
def wsX7_where : List Cond := .code yX7_where cX7_where 3 (some .int) :: ((wsX7_where_r1 ++ wsX7_where_r2) ++ wsX70 ++ wsX50)
def wsX7_isStep : List Cond := .code yX7_isStep cX7_isStep 1 (some .boolean) :: ([.methodLink RX7 107 yX7_isWithin, .static yX7_isWithin, .initialized RX7, .code yX7_isWithin cX7_isWithin 3 (some .boolean)])
def wsX7_grown_r1 : List Cond := [Cond.fieldLink RX7 21 "HotPipes" "run" "LHotPipes$Run;", Cond.fieldLink RX7 70 "HotPipes" "lastAsked" "I", Cond.methodLink RX7 143 yX7_isStep, Cond.static yX7_isStep, Cond.initialized RX7, Cond.code yX7_isStep cX7_isStep 1 (some .boolean), Cond.methodLink RX7 107 yX7_isWithin, Cond.static yX7_isWithin, Cond.code yX7_isWithin cX7_isWithin 3 (some .boolean), Cond.methodLink RX7 137 yX7_isAxis, Cond.static yX7_isAxis, Cond.code yX7_isAxis cX7_isAxis 1 (some .boolean), Cond.methodLink RX7 134 yX5_length, Cond.instanceMethod yX5_length, Cond.selects RX5 yX5_length yX5_length, Cond.initialized RX5, Cond.code yX5_length cX5_length 1 (some .int), Cond.fieldLink RX5 28 "HotPipes$Run" "length" "I", Cond.methodLink RX7 146 yX5_growth, Cond.instanceMethod yX5_growth, Cond.selects RX5 yX5_growth yX5_growth, Cond.code yX5_growth cX5_growth 8 (some .int), Cond.fieldLink RX5 24 "HotPipes$Run" "legs" "I", Cond.fieldLink RX5 9 "HotPipes$Run" "ways" "[I"]
def wsX7_grown_r2 : List Cond := [Cond.fieldLink RX5 31 "HotPipes$Run" "stuffs" "LHotPipes$Stuffs;", Cond.fieldLink RX5 18 "HotPipes$Run" "stuffOf" "[I", Cond.fieldLink RX5 15 "HotPipes$Run" "units" "[I", Cond.methodLink RX5 35 yX5_axisOf, Cond.static yX5_axisOf, Cond.code yX5_axisOf cX5_axisOf 1 (some .int), Cond.methodLink RX5 39 yX5_signOf, Cond.static yX5_signOf, Cond.code yX5_signOf cX5_signOf 1 (some .int), Cond.methodLink RX5 46 yX6_growthAt, Cond.instanceMethod yX6_growthAt, Cond.selects RX6 yX6_growthAt yX6_growthAt, Cond.initialized RX6, Cond.code yX6_growthAt cX6_growthAt 3 (some .int), Cond.fieldLink RX6 15 "HotPipes$Stuffs" "sizes" "[I", Cond.fieldLink RX6 9 "HotPipes$Stuffs" "bytes" "[B", Cond.methodLink RX5 42 yX5_unitsBetween, Cond.instanceMethod yX5_unitsBetween, Cond.selects RX5 yX5_unitsBetween yX5_unitsBetween, Cond.code yX5_unitsBetween cX5_unitsBetween 5 (some .int), Cond.methodLink RX5 55 Lib.Math.min.name, Cond.static Lib.Math.min.name, Cond.initialized "java/lang/Math", Cond.code Lib.Math.min.name Lib.Math.min.code 2 (some .int)]
def wsX7_grown_r3 : List Cond := [Cond.methodLink RX5 60 Lib.Math.max.name, Cond.static Lib.Math.max.name, Cond.code Lib.Math.max.name Lib.Math.max.code 2 (some .int)]
def wsX7_grown : List Cond := .code yX7_grown cX7_grown 3 (some .int) :: ((wsX7_grown_r1 ++ (wsX7_grown_r2 ++ wsX7_grown_r3)) ++ wsX70 ++ wsX50 ++ wsX60)
def wsX7_move_r1 : List Cond := [Cond.fieldLink RX7 21 "HotPipes" "run" "LHotPipes$Run;", Cond.fieldLink RX7 70 "HotPipes" "lastAsked" "I", Cond.methodLink RX7 134 yX5_length, Cond.instanceMethod yX5_length, Cond.selects RX5 yX5_length yX5_length, Cond.initialized RX5, Cond.code yX5_length cX5_length 1 (some .int), Cond.fieldLink RX5 28 "HotPipes$Run" "length" "I", Cond.methodLink RX7 107 yX7_isWithin, Cond.static yX7_isWithin, Cond.initialized RX7, Cond.code yX7_isWithin cX7_isWithin 3 (some .boolean), Cond.methodLink RX7 143 yX7_isStep, Cond.static yX7_isStep, Cond.code yX7_isStep cX7_isStep 1 (some .boolean), Cond.methodLink RX7 146 yX5_growth, Cond.instanceMethod yX5_growth, Cond.selects RX5 yX5_growth yX5_growth, Cond.code yX5_growth cX5_growth 8 (some .int), Cond.fieldLink RX5 24 "HotPipes$Run" "legs" "I", Cond.fieldLink RX5 9 "HotPipes$Run" "ways" "[I", Cond.fieldLink RX5 31 "HotPipes$Run" "stuffs" "LHotPipes$Stuffs;", Cond.fieldLink RX5 18 "HotPipes$Run" "stuffOf" "[I", Cond.fieldLink RX5 15 "HotPipes$Run" "units" "[I"]
def wsX7_move_r2 : List Cond := [Cond.methodLink RX5 35 yX5_axisOf, Cond.static yX5_axisOf, Cond.code yX5_axisOf cX5_axisOf 1 (some .int), Cond.methodLink RX5 39 yX5_signOf, Cond.static yX5_signOf, Cond.code yX5_signOf cX5_signOf 1 (some .int), Cond.methodLink RX5 46 yX6_growthAt, Cond.instanceMethod yX6_growthAt, Cond.selects RX6 yX6_growthAt yX6_growthAt, Cond.initialized RX6, Cond.code yX6_growthAt cX6_growthAt 3 (some .int), Cond.fieldLink RX6 15 "HotPipes$Stuffs" "sizes" "[I", Cond.fieldLink RX6 9 "HotPipes$Stuffs" "bytes" "[B", Cond.methodLink RX5 42 yX5_unitsBetween, Cond.instanceMethod yX5_unitsBetween, Cond.selects RX5 yX5_unitsBetween yX5_unitsBetween, Cond.code yX5_unitsBetween cX5_unitsBetween 5 (some .int), Cond.methodLink RX5 55 Lib.Math.min.name, Cond.static Lib.Math.min.name, Cond.initialized "java/lang/Math", Cond.code Lib.Math.min.name Lib.Math.min.code 2 (some .int), Cond.methodLink RX5 60 Lib.Math.max.name, Cond.static Lib.Math.max.name, Cond.code Lib.Math.max.name Lib.Math.max.code 2 (some .int)]
def wsX7_move : List Cond := .code yX7_move cX7_move 3 (some .int) :: ((wsX7_move_r1 ++ wsX7_move_r2) ++ wsX70 ++ wsX50 ++ wsX60)
def wsX7_isThickness : List Cond := .code yX7_isThickness cX7_isThickness 1 (some .boolean) :: ([.methodLink RX7 107 yX7_isWithin, .static yX7_isWithin, .initialized RX7, .code yX7_isWithin cX7_isWithin 3 (some .boolean)])
def wsX7_soft_r1 : List Cond := [Cond.fieldLink RX7 21 "HotPipes" "run" "LHotPipes$Run;", Cond.fieldLink RX7 70 "HotPipes" "lastAsked" "I", Cond.methodLink RX7 143 yX7_isStep, Cond.static yX7_isStep, Cond.initialized RX7, Cond.code yX7_isStep cX7_isStep 1 (some .boolean), Cond.methodLink RX7 107 yX7_isWithin, Cond.static yX7_isWithin, Cond.code yX7_isWithin cX7_isWithin 3 (some .boolean), Cond.methodLink RX7 150 yX7_isThickness, Cond.static yX7_isThickness, Cond.code yX7_isThickness cX7_isThickness 1 (some .boolean), Cond.methodLink RX7 123 yX5_legs, Cond.instanceMethod yX5_legs, Cond.selects RX5 yX5_legs yX5_legs, Cond.initialized RX5, Cond.code yX5_legs cX5_legs 1 (some .int), Cond.fieldLink RX5 24 "HotPipes$Run" "legs" "I", Cond.methodLink RX7 153 yX5_spare, Cond.instanceMethod yX5_spare, Cond.selects RX5 yX5_spare yX5_spare, Cond.code yX5_spare cX5_spare 13 (some .int), Cond.fieldLink RX5 28 "HotPipes$Run" "length" "I", Cond.methodLink RX5 63 yX5_growth]
def wsX7_soft_r2 : List Cond := [Cond.instanceMethod yX5_growth, Cond.selects RX5 yX5_growth yX5_growth, Cond.code yX5_growth cX5_growth 8 (some .int), Cond.fieldLink RX5 9 "HotPipes$Run" "ways" "[I", Cond.fieldLink RX5 31 "HotPipes$Run" "stuffs" "LHotPipes$Stuffs;", Cond.fieldLink RX5 18 "HotPipes$Run" "stuffOf" "[I", Cond.fieldLink RX5 15 "HotPipes$Run" "units" "[I", Cond.methodLink RX5 35 yX5_axisOf, Cond.static yX5_axisOf, Cond.code yX5_axisOf cX5_axisOf 1 (some .int), Cond.methodLink RX5 39 yX5_signOf, Cond.static yX5_signOf, Cond.code yX5_signOf cX5_signOf 1 (some .int), Cond.methodLink RX5 46 yX6_growthAt, Cond.instanceMethod yX6_growthAt, Cond.selects RX6 yX6_growthAt yX6_growthAt, Cond.initialized RX6, Cond.code yX6_growthAt cX6_growthAt 3 (some .int), Cond.fieldLink RX6 15 "HotPipes$Stuffs" "sizes" "[I", Cond.fieldLink RX6 9 "HotPipes$Stuffs" "bytes" "[B", Cond.methodLink RX5 42 yX5_unitsBetween, Cond.instanceMethod yX5_unitsBetween, Cond.selects RX5 yX5_unitsBetween yX5_unitsBetween, Cond.code yX5_unitsBetween cX5_unitsBetween 5 (some .int)]
def wsX7_soft_r3 : List Cond := [Cond.methodLink RX5 55 Lib.Math.min.name, Cond.static Lib.Math.min.name, Cond.initialized "java/lang/Math", Cond.code Lib.Math.min.name Lib.Math.min.code 2 (some .int), Cond.methodLink RX5 60 Lib.Math.max.name, Cond.static Lib.Math.max.name, Cond.code Lib.Math.max.name Lib.Math.max.code 2 (some .int), Cond.methodLink RX5 67 yX5_position, Cond.instanceMethod yX5_position, Cond.selects RX5 yX5_position yX5_position, Cond.code yX5_position cX5_position 6 (some .int), Cond.methodLink RX5 70 yX5_root, Cond.static yX5_root, Cond.code yX5_root cX5_root 7 (some .int)]
def wsX7_soft : List Cond := .code yX7_soft cX7_soft 3 (some .int) :: ((wsX7_soft_r1 ++ (wsX7_soft_r2 ++ wsX7_soft_r3)) ++ wsX70 ++ wsX50 ++ wsX60)
def wsX7_loop_r1 : List Cond := [Cond.fieldLink RX7 21 "HotPipes" "run" "LHotPipes$Run;", Cond.methodLink RX7 123 yX5_legs, Cond.instanceMethod yX5_legs, Cond.selects RX5 yX5_legs yX5_legs, Cond.initialized RX5, Cond.code yX5_legs cX5_legs 1 (some .int), Cond.fieldLink RX5 24 "HotPipes$Run" "legs" "I", Cond.methodLink RX7 107 yX7_isWithin, Cond.static yX7_isWithin, Cond.initialized RX7, Cond.code yX7_isWithin cX7_isWithin 3 (some .boolean), Cond.methodLink RX7 120 yX7_isWay, Cond.static yX7_isWay, Cond.code yX7_isWay cX7_isWay 1 (some .boolean), Cond.methodLink RX7 143 yX7_isStep, Cond.static yX7_isStep, Cond.code yX7_isStep cX7_isStep 1 (some .boolean), Cond.methodLink RX7 150 yX7_isThickness, Cond.static yX7_isThickness, Cond.code yX7_isThickness cX7_isThickness 1 (some .boolean), Cond.methodLink RX7 156 yX5_isAcross, Cond.instanceMethod yX5_isAcross, Cond.selects RX5 yX5_isAcross yX5_isAcross, Cond.code yX5_isAcross cX5_isAcross 3 (some .boolean)]
def wsX7_loop_r2 : List Cond := [Cond.fieldLink RX5 9 "HotPipes$Run" "ways" "[I", Cond.methodLink RX5 35 yX5_axisOf, Cond.static yX5_axisOf, Cond.code yX5_axisOf cX5_axisOf 1 (some .int), Cond.methodLink RX7 160 yX5_unitsOf, Cond.instanceMethod yX5_unitsOf, Cond.selects RX5 yX5_unitsOf yX5_unitsOf, Cond.code yX5_unitsOf cX5_unitsOf 2 (some .int), Cond.fieldLink RX5 15 "HotPipes$Run" "units" "[I", Cond.methodLink RX7 163 yX5_firstSoft, Cond.instanceMethod yX5_firstSoft, Cond.selects RX5 yX5_firstSoft yX5_firstSoft, Cond.code yX5_firstSoft cX5_firstSoft 4 (some .int), Cond.methodLink RX5 74 yX5_spare, Cond.instanceMethod yX5_spare, Cond.selects RX5 yX5_spare yX5_spare, Cond.code yX5_spare cX5_spare 13 (some .int), Cond.fieldLink RX5 28 "HotPipes$Run" "length" "I", Cond.methodLink RX5 63 yX5_growth, Cond.instanceMethod yX5_growth, Cond.selects RX5 yX5_growth yX5_growth, Cond.code yX5_growth cX5_growth 8 (some .int), Cond.fieldLink RX5 31 "HotPipes$Run" "stuffs" "LHotPipes$Stuffs;", Cond.fieldLink RX5 18 "HotPipes$Run" "stuffOf" "[I"]
def wsX7_loop_r3 : List Cond := [Cond.methodLink RX5 39 yX5_signOf, Cond.static yX5_signOf, Cond.code yX5_signOf cX5_signOf 1 (some .int), Cond.methodLink RX5 46 yX6_growthAt, Cond.instanceMethod yX6_growthAt, Cond.selects RX6 yX6_growthAt yX6_growthAt, Cond.initialized RX6, Cond.code yX6_growthAt cX6_growthAt 3 (some .int), Cond.fieldLink RX6 15 "HotPipes$Stuffs" "sizes" "[I", Cond.fieldLink RX6 9 "HotPipes$Stuffs" "bytes" "[B", Cond.methodLink RX5 42 yX5_unitsBetween, Cond.instanceMethod yX5_unitsBetween, Cond.selects RX5 yX5_unitsBetween yX5_unitsBetween, Cond.code yX5_unitsBetween cX5_unitsBetween 5 (some .int), Cond.methodLink RX5 55 Lib.Math.min.name, Cond.static Lib.Math.min.name, Cond.initialized "java/lang/Math", Cond.code Lib.Math.min.name Lib.Math.min.code 2 (some .int), Cond.methodLink RX5 60 Lib.Math.max.name, Cond.static Lib.Math.max.name, Cond.code Lib.Math.max.name Lib.Math.max.code 2 (some .int), Cond.methodLink RX5 67 yX5_position, Cond.instanceMethod yX5_position, Cond.selects RX5 yX5_position yX5_position]
def wsX7_loop_r4 : List Cond := [Cond.code yX5_position cX5_position 6 (some .int), Cond.methodLink RX5 70 yX5_root, Cond.static yX5_root, Cond.code yX5_root cX5_root 7 (some .int), Cond.methodLink RX7 166 yX5_leastLoop, Cond.instanceMethod yX5_leastLoop, Cond.selects RX5 yX5_leastLoop yX5_leastLoop, Cond.code yX5_leastLoop cX5_leastLoop 6 (some .int), Cond.methodLink RX5 77 yX5_isAcross, Cond.methodLink RX5 81 yX5_loopsThatMeet, Cond.instanceMethod yX5_loopsThatMeet, Cond.selects RX5 yX5_loopsThatMeet yX5_loopsThatMeet, Cond.code yX5_loopsThatMeet cX5_loopsThatMeet 7 (some .int), Cond.fieldLink RX5 21 "HotPipes$Run" "point" "[I", Cond.methodLink RX5 84 yX5_startAtFoot, Cond.instanceMethod yX5_startAtFoot, Cond.selects RX5 yX5_startAtFoot yX5_startAtFoot, Cond.code yX5_startAtFoot cX5_startAtFoot 4 none, Cond.methodLink RX5 88 yX5_loopsThatMeetPoint, Cond.instanceMethod yX5_loopsThatMeetPoint, Cond.selects RX5 yX5_loopsThatMeetPoint yX5_loopsThatMeetPoint, Cond.code yX5_loopsThatMeetPoint cX5_loopsThatMeetPoint 9 (some .int)]
def wsX7_loop : List Cond := .code yX7_loop cX7_loop 5 (some .int) :: ((wsX7_loop_r1 ++ (wsX7_loop_r2 ++ (wsX7_loop_r3 ++ wsX7_loop_r4))) ++ wsX70 ++ wsX50 ++ wsX60)
def wsX7_bestLoop_r1 : List Cond := [Cond.fieldLink RX7 21 "HotPipes" "run" "LHotPipes$Run;", Cond.fieldLink RX7 70 "HotPipes" "lastAsked" "I", Cond.methodLink RX7 143 yX7_isStep, Cond.static yX7_isStep, Cond.initialized RX7, Cond.code yX7_isStep cX7_isStep 1 (some .boolean), Cond.methodLink RX7 107 yX7_isWithin, Cond.static yX7_isWithin, Cond.code yX7_isWithin cX7_isWithin 3 (some .boolean), Cond.methodLink RX7 150 yX7_isThickness, Cond.static yX7_isThickness, Cond.code yX7_isThickness cX7_isThickness 1 (some .boolean), Cond.methodLink RX7 123 yX5_legs, Cond.instanceMethod yX5_legs, Cond.selects RX5 yX5_legs yX5_legs, Cond.initialized RX5, Cond.code yX5_legs cX5_legs 1 (some .int), Cond.fieldLink RX5 24 "HotPipes$Run" "legs" "I", Cond.methodLink RX7 163 yX5_firstSoft, Cond.instanceMethod yX5_firstSoft, Cond.selects RX5 yX5_firstSoft yX5_firstSoft, Cond.code yX5_firstSoft cX5_firstSoft 4 (some .int), Cond.methodLink RX5 74 yX5_spare, Cond.instanceMethod yX5_spare]
def wsX7_bestLoop_r2 : List Cond := [Cond.selects RX5 yX5_spare yX5_spare, Cond.code yX5_spare cX5_spare 13 (some .int), Cond.fieldLink RX5 28 "HotPipes$Run" "length" "I", Cond.methodLink RX5 63 yX5_growth, Cond.instanceMethod yX5_growth, Cond.selects RX5 yX5_growth yX5_growth, Cond.code yX5_growth cX5_growth 8 (some .int), Cond.fieldLink RX5 9 "HotPipes$Run" "ways" "[I", Cond.fieldLink RX5 31 "HotPipes$Run" "stuffs" "LHotPipes$Stuffs;", Cond.fieldLink RX5 18 "HotPipes$Run" "stuffOf" "[I", Cond.fieldLink RX5 15 "HotPipes$Run" "units" "[I", Cond.methodLink RX5 35 yX5_axisOf, Cond.static yX5_axisOf, Cond.code yX5_axisOf cX5_axisOf 1 (some .int), Cond.methodLink RX5 39 yX5_signOf, Cond.static yX5_signOf, Cond.code yX5_signOf cX5_signOf 1 (some .int), Cond.methodLink RX5 46 yX6_growthAt, Cond.instanceMethod yX6_growthAt, Cond.selects RX6 yX6_growthAt yX6_growthAt, Cond.initialized RX6, Cond.code yX6_growthAt cX6_growthAt 3 (some .int), Cond.fieldLink RX6 15 "HotPipes$Stuffs" "sizes" "[I", Cond.fieldLink RX6 9 "HotPipes$Stuffs" "bytes" "[B"]
def wsX7_bestLoop_r3 : List Cond := [Cond.methodLink RX5 42 yX5_unitsBetween, Cond.instanceMethod yX5_unitsBetween, Cond.selects RX5 yX5_unitsBetween yX5_unitsBetween, Cond.code yX5_unitsBetween cX5_unitsBetween 5 (some .int), Cond.methodLink RX5 55 Lib.Math.min.name, Cond.static Lib.Math.min.name, Cond.initialized "java/lang/Math", Cond.code Lib.Math.min.name Lib.Math.min.code 2 (some .int), Cond.methodLink RX5 60 Lib.Math.max.name, Cond.static Lib.Math.max.name, Cond.code Lib.Math.max.name Lib.Math.max.code 2 (some .int), Cond.methodLink RX5 67 yX5_position, Cond.instanceMethod yX5_position, Cond.selects RX5 yX5_position yX5_position, Cond.code yX5_position cX5_position 6 (some .int), Cond.methodLink RX5 70 yX5_root, Cond.static yX5_root, Cond.code yX5_root cX5_root 7 (some .int), Cond.methodLink RX7 166 yX5_leastLoop, Cond.instanceMethod yX5_leastLoop, Cond.selects RX5 yX5_leastLoop yX5_leastLoop, Cond.code yX5_leastLoop cX5_leastLoop 6 (some .int), Cond.methodLink RX5 77 yX5_isAcross, Cond.instanceMethod yX5_isAcross]
def wsX7_bestLoop_r4 : List Cond := [Cond.selects RX5 yX5_isAcross yX5_isAcross, Cond.code yX5_isAcross cX5_isAcross 3 (some .boolean), Cond.methodLink RX5 81 yX5_loopsThatMeet, Cond.instanceMethod yX5_loopsThatMeet, Cond.selects RX5 yX5_loopsThatMeet yX5_loopsThatMeet, Cond.code yX5_loopsThatMeet cX5_loopsThatMeet 7 (some .int), Cond.fieldLink RX5 21 "HotPipes$Run" "point" "[I", Cond.methodLink RX5 84 yX5_startAtFoot, Cond.instanceMethod yX5_startAtFoot, Cond.selects RX5 yX5_startAtFoot yX5_startAtFoot, Cond.code yX5_startAtFoot cX5_startAtFoot 4 none, Cond.methodLink RX5 88 yX5_loopsThatMeetPoint, Cond.instanceMethod yX5_loopsThatMeetPoint, Cond.selects RX5 yX5_loopsThatMeetPoint yX5_loopsThatMeetPoint, Cond.code yX5_loopsThatMeetPoint cX5_loopsThatMeetPoint 9 (some .int)]
def wsX7_bestLoop : List Cond := .code yX7_bestLoop cX7_bestLoop 10 (some .int) :: ((wsX7_bestLoop_r1 ++ (wsX7_bestLoop_r2 ++ (wsX7_bestLoop_r3 ++ wsX7_bestLoop_r4))) ++ wsX70 ++ wsX50 ++ wsX60)
def wsX7_isKind : List Cond := .code yX7_isKind cX7_isKind 1 (some .boolean) :: ([.methodLink RX7 107 yX7_isWithin, .static yX7_isWithin, .initialized RX7, .code yX7_isWithin cX7_isWithin 3 (some .boolean)])
def wsX7_isRate : List Cond := .code yX7_isRate cX7_isRate 1 (some .boolean) :: ([.methodLink RX7 107 yX7_isWithin, .static yX7_isWithin, .initialized RX7, .code yX7_isWithin cX7_isWithin 3 (some .boolean)])
def wsX7_rest_r1 : List Cond := [Cond.fieldLink RX7 21 "HotPipes" "run" "LHotPipes$Run;", Cond.fieldLink RX7 30 "HotPipes" "rests" "LHotPipes$Rests;", Cond.methodLink RX7 169 yX7_isKind, Cond.static yX7_isKind, Cond.initialized RX7, Cond.code yX7_isKind cX7_isKind 1 (some .boolean), Cond.methodLink RX7 107 yX7_isWithin, Cond.static yX7_isWithin, Cond.code yX7_isWithin cX7_isWithin 3 (some .boolean), Cond.methodLink RX7 134 yX5_length, Cond.instanceMethod yX5_length, Cond.selects RX5 yX5_length yX5_length, Cond.initialized RX5, Cond.code yX5_length cX5_length 1 (some .int), Cond.fieldLink RX5 28 "HotPipes$Run" "length" "I", Cond.methodLink RX7 172 yX4_isTaken, Cond.instanceMethod yX4_isTaken, Cond.selects RX4 yX4_isTaken yX4_isTaken, Cond.initialized RX4, Cond.code yX4_isTaken cX4_isTaken 3 (some .boolean), Cond.fieldLink RX4 28 "HotPipes$Rests" "made" "I", Cond.fieldLink RX4 15 "HotPipes$Rests" "places" "[I", Cond.methodLink RX4 36 yX4_isGone, Cond.instanceMethod yX4_isGone]
def wsX7_rest_r2 : List Cond := [Cond.selects RX4 yX4_isGone yX4_isGone, Cond.code yX4_isGone cX4_isGone 2 (some .boolean), Cond.fieldLink RX4 9 "HotPipes$Rests" "kinds" "[I", Cond.methodLink RX7 175 yX7_isRate, Cond.static yX7_isRate, Cond.code yX7_isRate cX7_isRate 1 (some .boolean), Cond.methodLink RX7 178 yX4_made, Cond.instanceMethod yX4_made, Cond.selects RX4 yX4_made yX4_made, Cond.code yX4_made cX4_made 1 (some .int), Cond.methodLink RX7 181 yX4_put, Cond.instanceMethod yX4_put, Cond.selects RX4 yX4_put yX4_put, Cond.code yX4_put cX4_put 4 (some .int), Cond.fieldLink RX4 18 "HotPipes$Rests" "rates" "[I", Cond.fieldLink RX4 21 "HotPipes$Rests" "readings" "[I"]
def wsX7_rest : List Cond := .code yX7_rest cX7_rest 4 (some .int) :: ((wsX7_rest_r1 ++ wsX7_rest_r2) ++ wsX70 ++ wsX50 ++ wsX40)
def wsX7_refusalOfRest : List Cond := .code yX7_refusalOfRest cX7_refusalOfRest 3 (some .int) :: ([.fieldLink RX7 30 "HotPipes" "rests" "LHotPipes$Rests;", .methodLink RX7 178 yX4_made, .instanceMethod yX4_made, .selects RX4 yX4_made yX4_made, .initialized RX4, .code yX4_made cX4_made 1 (some .int), .fieldLink RX4 28 "HotPipes$Rests" "made" "I", .methodLink RX7 107 yX7_isWithin, .static yX7_isWithin, .initialized RX7, .code yX7_isWithin cX7_isWithin 3 (some .boolean), .methodLink RX7 298 yX4_isGone, .instanceMethod yX4_isGone, .selects RX4 yX4_isGone yX4_isGone, .code yX4_isGone cX4_isGone 2 (some .boolean), .fieldLink RX4 9 "HotPipes$Rests" "kinds" "[I", .methodLink RX7 77 yX7_refuse, .instanceMethod yX7_refuse, .selects RX7 yX7_refuse yX7_refuse, .code yX7_refuse cX7_refuse 2 (some .int), .fieldLink RX7 62 "HotPipes" "found" "[I", .fieldLink RX7 66 "HotPipes" "lastFound" "I"] ++ wsX70 ++ wsX40)
def wsX7_drop_r1 : List Cond := [Cond.fieldLink RX7 30 "HotPipes" "rests" "LHotPipes$Rests;", Cond.methodLink RX7 184 yX7_refusalOfRest, Cond.instanceMethod yX7_refusalOfRest, Cond.selects RX7 yX7_refusalOfRest yX7_refusalOfRest, Cond.initialized RX7, Cond.code yX7_refusalOfRest cX7_refusalOfRest 3 (some .int), Cond.methodLink RX7 178 yX4_made, Cond.instanceMethod yX4_made, Cond.selects RX4 yX4_made yX4_made, Cond.initialized RX4, Cond.code yX4_made cX4_made 1 (some .int), Cond.fieldLink RX4 28 "HotPipes$Rests" "made" "I", Cond.methodLink RX7 107 yX7_isWithin, Cond.static yX7_isWithin, Cond.code yX7_isWithin cX7_isWithin 3 (some .boolean), Cond.methodLink RX7 298 yX4_isGone, Cond.instanceMethod yX4_isGone, Cond.selects RX4 yX4_isGone yX4_isGone, Cond.code yX4_isGone cX4_isGone 2 (some .boolean), Cond.fieldLink RX4 9 "HotPipes$Rests" "kinds" "[I", Cond.methodLink RX7 77 yX7_refuse, Cond.instanceMethod yX7_refuse, Cond.selects RX7 yX7_refuse yX7_refuse, Cond.code yX7_refuse cX7_refuse 2 (some .int)]
def wsX7_drop_r2 : List Cond := [Cond.fieldLink RX7 62 "HotPipes" "found" "[I", Cond.fieldLink RX7 66 "HotPipes" "lastFound" "I", Cond.methodLink RX7 188 yX4_remove, Cond.instanceMethod yX4_remove, Cond.selects RX4 yX4_remove yX4_remove, Cond.code yX4_remove cX4_remove 2 none]
def wsX7_drop : List Cond := .code yX7_drop cX7_drop 3 (some .int) :: ((wsX7_drop_r1 ++ wsX7_drop_r2) ++ wsX70 ++ wsX40)
def wsX7_told_r1 : List Cond := [Cond.fieldLink RX7 30 "HotPipes" "rests" "LHotPipes$Rests;", Cond.methodLink RX7 107 yX7_isWithin, Cond.static yX7_isWithin, Cond.initialized RX7, Cond.code yX7_isWithin cX7_isWithin 3 (some .boolean), Cond.methodLink RX7 184 yX7_refusalOfRest, Cond.instanceMethod yX7_refusalOfRest, Cond.selects RX7 yX7_refusalOfRest yX7_refusalOfRest, Cond.code yX7_refusalOfRest cX7_refusalOfRest 3 (some .int), Cond.methodLink RX7 178 yX4_made, Cond.instanceMethod yX4_made, Cond.selects RX4 yX4_made yX4_made, Cond.initialized RX4, Cond.code yX4_made cX4_made 1 (some .int), Cond.fieldLink RX4 28 "HotPipes$Rests" "made" "I", Cond.methodLink RX7 298 yX4_isGone, Cond.instanceMethod yX4_isGone, Cond.selects RX4 yX4_isGone yX4_isGone, Cond.code yX4_isGone cX4_isGone 2 (some .boolean), Cond.fieldLink RX4 9 "HotPipes$Rests" "kinds" "[I", Cond.methodLink RX7 77 yX7_refuse, Cond.instanceMethod yX7_refuse, Cond.selects RX7 yX7_refuse yX7_refuse, Cond.code yX7_refuse cX7_refuse 2 (some .int)]
def wsX7_told_r2 : List Cond := [Cond.fieldLink RX7 62 "HotPipes" "found" "[I", Cond.fieldLink RX7 66 "HotPipes" "lastFound" "I", Cond.methodLink RX7 191 yX4_tell, Cond.instanceMethod yX4_tell, Cond.selects RX4 yX4_tell yX4_tell, Cond.code yX4_tell cX4_tell 3 (some .int), Cond.fieldLink RX4 15 "HotPipes$Rests" "places" "[I", Cond.fieldLink RX4 18 "HotPipes$Rests" "rates" "[I", Cond.methodLink RX4 40 yX4_isPresent, Cond.instanceMethod yX4_isPresent, Cond.selects RX4 yX4_isPresent yX4_isPresent, Cond.code yX4_isPresent cX4_isPresent 2 (some .boolean), Cond.fieldLink RX4 32 "HotPipes$Rests" "run" "LHotPipes$Run;", Cond.methodLink RX4 36 yX4_isGone, Cond.methodLink RX4 43 yX5_length, Cond.instanceMethod yX5_length, Cond.selects RX5 yX5_length yX5_length, Cond.initialized RX5, Cond.code yX5_length cX5_length 1 (some .int), Cond.fieldLink RX5 28 "HotPipes$Run" "length" "I"]
def wsX7_told : List Cond := .code yX7_told cX7_told 4 (some .int) :: ((wsX7_told_r1 ++ wsX7_told_r2) ++ wsX70 ++ wsX40 ++ wsX50)
def wsX7_is_r1 : List Cond := [Cond.fieldLink RX7 30 "HotPipes" "rests" "LHotPipes$Rests;", Cond.methodLink RX7 169 yX7_isKind, Cond.static yX7_isKind, Cond.initialized RX7, Cond.code yX7_isKind cX7_isKind 1 (some .boolean), Cond.methodLink RX7 107 yX7_isWithin, Cond.static yX7_isWithin, Cond.code yX7_isWithin cX7_isWithin 3 (some .boolean), Cond.methodLink RX7 184 yX7_refusalOfRest, Cond.instanceMethod yX7_refusalOfRest, Cond.selects RX7 yX7_refusalOfRest yX7_refusalOfRest, Cond.code yX7_refusalOfRest cX7_refusalOfRest 3 (some .int), Cond.methodLink RX7 178 yX4_made, Cond.instanceMethod yX4_made, Cond.selects RX4 yX4_made yX4_made, Cond.initialized RX4, Cond.code yX4_made cX4_made 1 (some .int), Cond.fieldLink RX4 28 "HotPipes$Rests" "made" "I", Cond.methodLink RX7 298 yX4_isGone, Cond.instanceMethod yX4_isGone, Cond.selects RX4 yX4_isGone yX4_isGone, Cond.code yX4_isGone cX4_isGone 2 (some .boolean), Cond.fieldLink RX4 9 "HotPipes$Rests" "kinds" "[I", Cond.methodLink RX7 77 yX7_refuse]
def wsX7_is_r2 : List Cond := [Cond.instanceMethod yX7_refuse, Cond.selects RX7 yX7_refuse yX7_refuse, Cond.code yX7_refuse cX7_refuse 2 (some .int), Cond.fieldLink RX7 62 "HotPipes" "found" "[I", Cond.fieldLink RX7 66 "HotPipes" "lastFound" "I", Cond.methodLink RX7 194 yX4_isOfKind, Cond.instanceMethod yX4_isOfKind, Cond.selects RX4 yX4_isOfKind yX4_isOfKind, Cond.code yX4_isOfKind cX4_isOfKind 4 (some .boolean)]
def wsX7_is : List Cond := .code yX7_is cX7_is 4 (some .int) :: ((wsX7_is_r1 ++ wsX7_is_r2) ++ wsX70 ++ wsX40)
def wsX7_lifts_r1 : List Cond := [Cond.fieldLink RX7 30 "HotPipes" "rests" "LHotPipes$Rests;", Cond.methodLink RX7 143 yX7_isStep, Cond.static yX7_isStep, Cond.initialized RX7, Cond.code yX7_isStep cX7_isStep 1 (some .boolean), Cond.methodLink RX7 107 yX7_isWithin, Cond.static yX7_isWithin, Cond.code yX7_isWithin cX7_isWithin 3 (some .boolean), Cond.methodLink RX7 184 yX7_refusalOfRest, Cond.instanceMethod yX7_refusalOfRest, Cond.selects RX7 yX7_refusalOfRest yX7_refusalOfRest, Cond.code yX7_refusalOfRest cX7_refusalOfRest 3 (some .int), Cond.methodLink RX7 178 yX4_made, Cond.instanceMethod yX4_made, Cond.selects RX4 yX4_made yX4_made, Cond.initialized RX4, Cond.code yX4_made cX4_made 1 (some .int), Cond.fieldLink RX4 28 "HotPipes$Rests" "made" "I", Cond.methodLink RX7 298 yX4_isGone, Cond.instanceMethod yX4_isGone, Cond.selects RX4 yX4_isGone yX4_isGone, Cond.code yX4_isGone cX4_isGone 2 (some .boolean), Cond.fieldLink RX4 9 "HotPipes$Rests" "kinds" "[I", Cond.methodLink RX7 77 yX7_refuse]
def wsX7_lifts_r2 : List Cond := [Cond.instanceMethod yX7_refuse, Cond.selects RX7 yX7_refuse yX7_refuse, Cond.code yX7_refuse cX7_refuse 2 (some .int), Cond.fieldLink RX7 62 "HotPipes" "found" "[I", Cond.fieldLink RX7 66 "HotPipes" "lastFound" "I", Cond.methodLink RX7 197 yX4_isLifted, Cond.instanceMethod yX4_isLifted, Cond.selects RX4 yX4_isLifted yX4_isLifted, Cond.code yX4_isLifted cX4_isLifted 4 (some .boolean), Cond.fieldLink RX4 32 "HotPipes$Rests" "run" "LHotPipes$Run;", Cond.fieldLink RX4 15 "HotPipes$Rests" "places" "[I", Cond.methodLink RX4 40 yX4_isPresent, Cond.instanceMethod yX4_isPresent, Cond.selects RX4 yX4_isPresent yX4_isPresent, Cond.code yX4_isPresent cX4_isPresent 2 (some .boolean), Cond.methodLink RX4 36 yX4_isGone, Cond.methodLink RX4 43 yX5_length, Cond.instanceMethod yX5_length, Cond.selects RX5 yX5_length yX5_length, Cond.initialized RX5, Cond.code yX5_length cX5_length 1 (some .int), Cond.fieldLink RX5 28 "HotPipes$Run" "length" "I", Cond.methodLink RX4 49 yX5_growth, Cond.instanceMethod yX5_growth]
def wsX7_lifts_r3 : List Cond := [Cond.selects RX5 yX5_growth yX5_growth, Cond.code yX5_growth cX5_growth 8 (some .int), Cond.fieldLink RX5 24 "HotPipes$Run" "legs" "I", Cond.fieldLink RX5 9 "HotPipes$Run" "ways" "[I", Cond.fieldLink RX5 31 "HotPipes$Run" "stuffs" "LHotPipes$Stuffs;", Cond.fieldLink RX5 18 "HotPipes$Run" "stuffOf" "[I", Cond.fieldLink RX5 15 "HotPipes$Run" "units" "[I", Cond.methodLink RX5 35 yX5_axisOf, Cond.static yX5_axisOf, Cond.code yX5_axisOf cX5_axisOf 1 (some .int), Cond.methodLink RX5 39 yX5_signOf, Cond.static yX5_signOf, Cond.code yX5_signOf cX5_signOf 1 (some .int), Cond.methodLink RX5 46 yX6_growthAt, Cond.instanceMethod yX6_growthAt, Cond.selects RX6 yX6_growthAt yX6_growthAt, Cond.initialized RX6, Cond.code yX6_growthAt cX6_growthAt 3 (some .int), Cond.fieldLink RX6 15 "HotPipes$Stuffs" "sizes" "[I", Cond.fieldLink RX6 9 "HotPipes$Stuffs" "bytes" "[B", Cond.methodLink RX5 42 yX5_unitsBetween, Cond.instanceMethod yX5_unitsBetween, Cond.selects RX5 yX5_unitsBetween yX5_unitsBetween, Cond.code yX5_unitsBetween cX5_unitsBetween 5 (some .int)]
def wsX7_lifts_r4 : List Cond := [Cond.methodLink RX5 55 Lib.Math.min.name, Cond.static Lib.Math.min.name, Cond.initialized "java/lang/Math", Cond.code Lib.Math.min.name Lib.Math.min.code 2 (some .int), Cond.methodLink RX5 60 Lib.Math.max.name, Cond.static Lib.Math.max.name, Cond.code Lib.Math.max.name Lib.Math.max.code 2 (some .int)]
def wsX7_lifts : List Cond := .code yX7_lifts cX7_lifts 4 (some .int) :: ((wsX7_lifts_r1 ++ (wsX7_lifts_r2 ++ (wsX7_lifts_r3 ++ wsX7_lifts_r4))) ++ wsX70 ++ wsX40 ++ wsX50 ++ wsX60)
def wsX7_load_r1 : List Cond := [Cond.fieldLink RX7 30 "HotPipes" "rests" "LHotPipes$Rests;", Cond.fieldLink RX7 58 "HotPipes" "fraction" "LHotPipes$Fraction;", Cond.constantLong RX7 206 (2), Cond.methodLink RX7 143 yX7_isStep, Cond.static yX7_isStep, Cond.initialized RX7, Cond.code yX7_isStep cX7_isStep 1 (some .boolean), Cond.methodLink RX7 107 yX7_isWithin, Cond.static yX7_isWithin, Cond.code yX7_isWithin cX7_isWithin 3 (some .boolean), Cond.methodLink RX7 184 yX7_refusalOfRest, Cond.instanceMethod yX7_refusalOfRest, Cond.selects RX7 yX7_refusalOfRest yX7_refusalOfRest, Cond.code yX7_refusalOfRest cX7_refusalOfRest 3 (some .int), Cond.methodLink RX7 178 yX4_made, Cond.instanceMethod yX4_made, Cond.selects RX4 yX4_made yX4_made, Cond.initialized RX4, Cond.code yX4_made cX4_made 1 (some .int), Cond.fieldLink RX4 28 "HotPipes$Rests" "made" "I", Cond.methodLink RX7 298 yX4_isGone, Cond.instanceMethod yX4_isGone, Cond.selects RX4 yX4_isGone yX4_isGone, Cond.code yX4_isGone cX4_isGone 2 (some .boolean)]
def wsX7_load_r2 : List Cond := [Cond.fieldLink RX4 9 "HotPipes$Rests" "kinds" "[I", Cond.methodLink RX7 77 yX7_refuse, Cond.instanceMethod yX7_refuse, Cond.selects RX7 yX7_refuse yX7_refuse, Cond.code yX7_refuse cX7_refuse 2 (some .int), Cond.fieldLink RX7 62 "HotPipes" "found" "[I", Cond.fieldLink RX7 66 "HotPipes" "lastFound" "I", Cond.methodLink RX7 200 yX4_noteBearing, Cond.instanceMethod yX4_noteBearing, Cond.selects RX4 yX4_noteBearing yX4_noteBearing, Cond.code yX4_noteBearing cX4_noteBearing 3 none, Cond.fieldLink RX4 24 "HotPipes$Rests" "bearing" "[Z", Cond.methodLink RX4 40 yX4_isPresent, Cond.instanceMethod yX4_isPresent, Cond.selects RX4 yX4_isPresent yX4_isPresent, Cond.code yX4_isPresent cX4_isPresent 2 (some .boolean), Cond.fieldLink RX4 15 "HotPipes$Rests" "places" "[I", Cond.fieldLink RX4 32 "HotPipes$Rests" "run" "LHotPipes$Run;", Cond.methodLink RX4 36 yX4_isGone, Cond.methodLink RX4 43 yX5_length, Cond.instanceMethod yX5_length, Cond.selects RX5 yX5_length yX5_length, Cond.initialized RX5, Cond.code yX5_length cX5_length 1 (some .int)]
def wsX7_load_r3 : List Cond := [Cond.fieldLink RX5 28 "HotPipes$Run" "length" "I", Cond.methodLink RX4 59 yX4_isLifted, Cond.instanceMethod yX4_isLifted, Cond.selects RX4 yX4_isLifted yX4_isLifted, Cond.code yX4_isLifted cX4_isLifted 4 (some .boolean), Cond.methodLink RX4 49 yX5_growth, Cond.instanceMethod yX5_growth, Cond.selects RX5 yX5_growth yX5_growth, Cond.code yX5_growth cX5_growth 8 (some .int), Cond.fieldLink RX5 24 "HotPipes$Run" "legs" "I", Cond.fieldLink RX5 9 "HotPipes$Run" "ways" "[I", Cond.fieldLink RX5 31 "HotPipes$Run" "stuffs" "LHotPipes$Stuffs;", Cond.fieldLink RX5 18 "HotPipes$Run" "stuffOf" "[I", Cond.fieldLink RX5 15 "HotPipes$Run" "units" "[I", Cond.methodLink RX5 35 yX5_axisOf, Cond.static yX5_axisOf, Cond.code yX5_axisOf cX5_axisOf 1 (some .int), Cond.methodLink RX5 39 yX5_signOf, Cond.static yX5_signOf, Cond.code yX5_signOf cX5_signOf 1 (some .int), Cond.methodLink RX5 46 yX6_growthAt, Cond.instanceMethod yX6_growthAt, Cond.selects RX6 yX6_growthAt yX6_growthAt, Cond.initialized RX6]
def wsX7_load_r4 : List Cond := [Cond.code yX6_growthAt cX6_growthAt 3 (some .int), Cond.fieldLink RX6 15 "HotPipes$Stuffs" "sizes" "[I", Cond.fieldLink RX6 9 "HotPipes$Stuffs" "bytes" "[B", Cond.methodLink RX5 42 yX5_unitsBetween, Cond.instanceMethod yX5_unitsBetween, Cond.selects RX5 yX5_unitsBetween yX5_unitsBetween, Cond.code yX5_unitsBetween cX5_unitsBetween 5 (some .int), Cond.methodLink RX5 55 Lib.Math.min.name, Cond.static Lib.Math.min.name, Cond.initialized "java/lang/Math", Cond.code Lib.Math.min.name Lib.Math.min.code 2 (some .int), Cond.methodLink RX5 60 Lib.Math.max.name, Cond.static Lib.Math.max.name, Cond.code Lib.Math.max.name Lib.Math.max.code 2 (some .int), Cond.methodLink RX7 203 yX4_twiceLoad, Cond.instanceMethod yX4_twiceLoad, Cond.selects RX4 yX4_twiceLoad yX4_twiceLoad, Cond.code yX4_twiceLoad cX4_twiceLoad 6 (some .int), Cond.methodLink RX4 63 Lib.Math.max.name, Cond.methodLink RX4 67 Lib.Math.min.name, Cond.methodLink RX4 70 yX5_weight, Cond.instanceMethod yX5_weight, Cond.selects RX5 yX5_weight yX5_weight, Cond.code yX5_weight cX5_weight 6 (some .int)]
def wsX7_load_r5 : List Cond := [Cond.methodLink RX5 52 yX6_weightOf, Cond.instanceMethod yX6_weightOf, Cond.selects RX6 yX6_weightOf yX6_weightOf, Cond.code yX6_weightOf cX6_weightOf 2 (some .int), Cond.fieldLink RX6 19 "HotPipes$Stuffs" "weights" "[I", Cond.methodLink RX7 208 yX2_put, Cond.instanceMethod yX2_put, Cond.selects RX2 yX2_put yX2_put, Cond.initialized RX2, Cond.code yX2_put cX2_put 7 none, Cond.fieldLink RX2 7 "HotPipes$Fraction" "above" "J", Cond.fieldLink RX2 13 "HotPipes$Fraction" "below" "J", Cond.methodLink RX2 16 yX2_greatestShared, Cond.static yX2_greatestShared, Cond.code yX2_greatestShared cX2_greatestShared 7 (some .long)]
def wsX7_load : List Cond := .code yX7_load cX7_load 4 (some .int) :: ((wsX7_load_r1 ++ (wsX7_load_r2 ++ (wsX7_load_r3 ++ (wsX7_load_r4 ++ wsX7_load_r5)))) ++ wsX70 ++ wsX40 ++ wsX50 ++ wsX60 ++ wsX20)
def wsX7_refusalOfSpring_r1 : List Cond := [Cond.fieldLink RX7 30 "HotPipes" "rests" "LHotPipes$Rests;", Cond.methodLink RX7 143 yX7_isStep, Cond.static yX7_isStep, Cond.initialized RX7, Cond.code yX7_isStep cX7_isStep 1 (some .boolean), Cond.methodLink RX7 107 yX7_isWithin, Cond.static yX7_isWithin, Cond.code yX7_isWithin cX7_isWithin 3 (some .boolean), Cond.methodLink RX7 184 yX7_refusalOfRest, Cond.instanceMethod yX7_refusalOfRest, Cond.selects RX7 yX7_refusalOfRest yX7_refusalOfRest, Cond.code yX7_refusalOfRest cX7_refusalOfRest 3 (some .int), Cond.methodLink RX7 178 yX4_made, Cond.instanceMethod yX4_made, Cond.selects RX4 yX4_made yX4_made, Cond.initialized RX4, Cond.code yX4_made cX4_made 1 (some .int), Cond.fieldLink RX4 28 "HotPipes$Rests" "made" "I", Cond.methodLink RX7 298 yX4_isGone, Cond.instanceMethod yX4_isGone, Cond.selects RX4 yX4_isGone yX4_isGone, Cond.code yX4_isGone cX4_isGone 2 (some .boolean), Cond.fieldLink RX4 9 "HotPipes$Rests" "kinds" "[I", Cond.methodLink RX7 77 yX7_refuse]
def wsX7_refusalOfSpring_r2 : List Cond := [Cond.instanceMethod yX7_refuse, Cond.selects RX7 yX7_refuse yX7_refuse, Cond.code yX7_refuse cX7_refuse 2 (some .int), Cond.fieldLink RX7 62 "HotPipes" "found" "[I", Cond.fieldLink RX7 66 "HotPipes" "lastFound" "I", Cond.methodLink RX7 194 yX4_isOfKind, Cond.instanceMethod yX4_isOfKind, Cond.selects RX4 yX4_isOfKind yX4_isOfKind, Cond.code yX4_isOfKind cX4_isOfKind 4 (some .boolean)]
def wsX7_refusalOfSpring : List Cond := .code yX7_refusalOfSpring cX7_refusalOfSpring 4 (some .int) :: ((wsX7_refusalOfSpring_r1 ++ wsX7_refusalOfSpring_r2) ++ wsX70 ++ wsX40)
def wsX7_change_r1 : List Cond := [Cond.fieldLink RX7 58 "HotPipes" "fraction" "LHotPipes$Fraction;", Cond.fieldLink RX7 30 "HotPipes" "rests" "LHotPipes$Rests;", Cond.constantLong RX7 220 (1000), Cond.methodLink RX7 211 yX7_refusalOfSpring, Cond.instanceMethod yX7_refusalOfSpring, Cond.selects RX7 yX7_refusalOfSpring yX7_refusalOfSpring, Cond.initialized RX7, Cond.code yX7_refusalOfSpring cX7_refusalOfSpring 4 (some .int), Cond.methodLink RX7 143 yX7_isStep, Cond.static yX7_isStep, Cond.code yX7_isStep cX7_isStep 1 (some .boolean), Cond.methodLink RX7 107 yX7_isWithin, Cond.static yX7_isWithin, Cond.code yX7_isWithin cX7_isWithin 3 (some .boolean), Cond.methodLink RX7 184 yX7_refusalOfRest, Cond.instanceMethod yX7_refusalOfRest, Cond.selects RX7 yX7_refusalOfRest yX7_refusalOfRest, Cond.code yX7_refusalOfRest cX7_refusalOfRest 3 (some .int), Cond.methodLink RX7 178 yX4_made, Cond.instanceMethod yX4_made, Cond.selects RX4 yX4_made yX4_made, Cond.initialized RX4, Cond.code yX4_made cX4_made 1 (some .int), Cond.fieldLink RX4 28 "HotPipes$Rests" "made" "I"]
def wsX7_change_r2 : List Cond := [Cond.methodLink RX7 298 yX4_isGone, Cond.instanceMethod yX4_isGone, Cond.selects RX4 yX4_isGone yX4_isGone, Cond.code yX4_isGone cX4_isGone 2 (some .boolean), Cond.fieldLink RX4 9 "HotPipes$Rests" "kinds" "[I", Cond.methodLink RX7 77 yX7_refuse, Cond.instanceMethod yX7_refuse, Cond.selects RX7 yX7_refuse yX7_refuse, Cond.code yX7_refuse cX7_refuse 2 (some .int), Cond.fieldLink RX7 62 "HotPipes" "found" "[I", Cond.fieldLink RX7 66 "HotPipes" "lastFound" "I", Cond.methodLink RX7 194 yX4_isOfKind, Cond.instanceMethod yX4_isOfKind, Cond.selects RX4 yX4_isOfKind yX4_isOfKind, Cond.code yX4_isOfKind cX4_isOfKind 4 (some .boolean), Cond.methodLink RX7 214 yX4_rateOf, Cond.instanceMethod yX4_rateOf, Cond.selects RX4 yX4_rateOf yX4_rateOf, Cond.code yX4_rateOf cX4_rateOf 2 (some .int), Cond.fieldLink RX4 18 "HotPipes$Rests" "rates" "[I", Cond.methodLink RX7 217 yX4_travel, Cond.instanceMethod yX4_travel, Cond.selects RX4 yX4_travel yX4_travel, Cond.code yX4_travel cX4_travel 3 (some .int)]
def wsX7_change_r3 : List Cond := [Cond.fieldLink RX4 32 "HotPipes$Rests" "run" "LHotPipes$Run;", Cond.fieldLink RX4 15 "HotPipes$Rests" "places" "[I", Cond.methodLink RX4 53 Lib.Math.abs.name, Cond.static Lib.Math.abs.name, Cond.initialized "java/lang/Math", Cond.code Lib.Math.abs.name Lib.Math.abs.code 1 (some .int), Cond.methodLink RX4 49 yX5_growth, Cond.instanceMethod yX5_growth, Cond.selects RX5 yX5_growth yX5_growth, Cond.initialized RX5, Cond.code yX5_growth cX5_growth 8 (some .int), Cond.fieldLink RX5 24 "HotPipes$Run" "legs" "I", Cond.fieldLink RX5 9 "HotPipes$Run" "ways" "[I", Cond.fieldLink RX5 31 "HotPipes$Run" "stuffs" "LHotPipes$Stuffs;", Cond.fieldLink RX5 18 "HotPipes$Run" "stuffOf" "[I", Cond.fieldLink RX5 15 "HotPipes$Run" "units" "[I", Cond.methodLink RX5 35 yX5_axisOf, Cond.static yX5_axisOf, Cond.code yX5_axisOf cX5_axisOf 1 (some .int), Cond.methodLink RX5 39 yX5_signOf, Cond.static yX5_signOf, Cond.code yX5_signOf cX5_signOf 1 (some .int), Cond.methodLink RX5 46 yX6_growthAt, Cond.instanceMethod yX6_growthAt]
def wsX7_change_r4 : List Cond := [Cond.selects RX6 yX6_growthAt yX6_growthAt, Cond.initialized RX6, Cond.code yX6_growthAt cX6_growthAt 3 (some .int), Cond.fieldLink RX6 15 "HotPipes$Stuffs" "sizes" "[I", Cond.fieldLink RX6 9 "HotPipes$Stuffs" "bytes" "[B", Cond.methodLink RX5 42 yX5_unitsBetween, Cond.instanceMethod yX5_unitsBetween, Cond.selects RX5 yX5_unitsBetween yX5_unitsBetween, Cond.code yX5_unitsBetween cX5_unitsBetween 5 (some .int), Cond.methodLink RX5 55 Lib.Math.min.name, Cond.static Lib.Math.min.name, Cond.code Lib.Math.min.name Lib.Math.min.code 2 (some .int), Cond.methodLink RX5 60 Lib.Math.max.name, Cond.static Lib.Math.max.name, Cond.code Lib.Math.max.name Lib.Math.max.code 2 (some .int), Cond.methodLink RX7 208 yX2_put, Cond.instanceMethod yX2_put, Cond.selects RX2 yX2_put yX2_put, Cond.initialized RX2, Cond.code yX2_put cX2_put 7 none, Cond.fieldLink RX2 7 "HotPipes$Fraction" "above" "J", Cond.fieldLink RX2 13 "HotPipes$Fraction" "below" "J", Cond.methodLink RX2 16 yX2_greatestShared, Cond.static yX2_greatestShared]
def wsX7_change_r5 : List Cond := [Cond.code yX2_greatestShared cX2_greatestShared 7 (some .long)]
def wsX7_change : List Cond := .code yX7_change cX7_change 4 (some .int) :: ((wsX7_change_r1 ++ (wsX7_change_r2 ++ (wsX7_change_r3 ++ (wsX7_change_r4 ++ wsX7_change_r5)))) ++ wsX70 ++ wsX40 ++ wsX50 ++ wsX60 ++ wsX20)
def wsX7_firm_r1 : List Cond := [Cond.fieldLink RX7 30 "HotPipes" "rests" "LHotPipes$Rests;", Cond.fieldLink RX7 58 "HotPipes" "fraction" "LHotPipes$Fraction;", Cond.constantLong RX7 206 (2), Cond.constantLong RX7 220 (1000), Cond.methodLink RX7 211 yX7_refusalOfSpring, Cond.instanceMethod yX7_refusalOfSpring, Cond.selects RX7 yX7_refusalOfSpring yX7_refusalOfSpring, Cond.initialized RX7, Cond.code yX7_refusalOfSpring cX7_refusalOfSpring 4 (some .int), Cond.methodLink RX7 143 yX7_isStep, Cond.static yX7_isStep, Cond.code yX7_isStep cX7_isStep 1 (some .boolean), Cond.methodLink RX7 107 yX7_isWithin, Cond.static yX7_isWithin, Cond.code yX7_isWithin cX7_isWithin 3 (some .boolean), Cond.methodLink RX7 184 yX7_refusalOfRest, Cond.instanceMethod yX7_refusalOfRest, Cond.selects RX7 yX7_refusalOfRest yX7_refusalOfRest, Cond.code yX7_refusalOfRest cX7_refusalOfRest 3 (some .int), Cond.methodLink RX7 178 yX4_made, Cond.instanceMethod yX4_made, Cond.selects RX4 yX4_made yX4_made, Cond.initialized RX4, Cond.code yX4_made cX4_made 1 (some .int)]
def wsX7_firm_r2 : List Cond := [Cond.fieldLink RX4 28 "HotPipes$Rests" "made" "I", Cond.methodLink RX7 298 yX4_isGone, Cond.instanceMethod yX4_isGone, Cond.selects RX4 yX4_isGone yX4_isGone, Cond.code yX4_isGone cX4_isGone 2 (some .boolean), Cond.fieldLink RX4 9 "HotPipes$Rests" "kinds" "[I", Cond.methodLink RX7 77 yX7_refuse, Cond.instanceMethod yX7_refuse, Cond.selects RX7 yX7_refuse yX7_refuse, Cond.code yX7_refuse cX7_refuse 2 (some .int), Cond.fieldLink RX7 62 "HotPipes" "found" "[I", Cond.fieldLink RX7 66 "HotPipes" "lastFound" "I", Cond.methodLink RX7 194 yX4_isOfKind, Cond.instanceMethod yX4_isOfKind, Cond.selects RX4 yX4_isOfKind yX4_isOfKind, Cond.code yX4_isOfKind cX4_isOfKind 4 (some .boolean), Cond.methodLink RX7 200 yX4_noteBearing, Cond.instanceMethod yX4_noteBearing, Cond.selects RX4 yX4_noteBearing yX4_noteBearing, Cond.code yX4_noteBearing cX4_noteBearing 3 none, Cond.fieldLink RX4 24 "HotPipes$Rests" "bearing" "[Z", Cond.methodLink RX4 40 yX4_isPresent, Cond.instanceMethod yX4_isPresent, Cond.selects RX4 yX4_isPresent yX4_isPresent]
def wsX7_firm_r3 : List Cond := [Cond.code yX4_isPresent cX4_isPresent 2 (some .boolean), Cond.fieldLink RX4 15 "HotPipes$Rests" "places" "[I", Cond.fieldLink RX4 32 "HotPipes$Rests" "run" "LHotPipes$Run;", Cond.methodLink RX4 36 yX4_isGone, Cond.methodLink RX4 43 yX5_length, Cond.instanceMethod yX5_length, Cond.selects RX5 yX5_length yX5_length, Cond.initialized RX5, Cond.code yX5_length cX5_length 1 (some .int), Cond.fieldLink RX5 28 "HotPipes$Run" "length" "I", Cond.methodLink RX4 59 yX4_isLifted, Cond.instanceMethod yX4_isLifted, Cond.selects RX4 yX4_isLifted yX4_isLifted, Cond.code yX4_isLifted cX4_isLifted 4 (some .boolean), Cond.methodLink RX4 49 yX5_growth, Cond.instanceMethod yX5_growth, Cond.selects RX5 yX5_growth yX5_growth, Cond.code yX5_growth cX5_growth 8 (some .int), Cond.fieldLink RX5 24 "HotPipes$Run" "legs" "I", Cond.fieldLink RX5 9 "HotPipes$Run" "ways" "[I", Cond.fieldLink RX5 31 "HotPipes$Run" "stuffs" "LHotPipes$Stuffs;", Cond.fieldLink RX5 18 "HotPipes$Run" "stuffOf" "[I", Cond.fieldLink RX5 15 "HotPipes$Run" "units" "[I", Cond.methodLink RX5 35 yX5_axisOf]
def wsX7_firm_r4 : List Cond := [Cond.static yX5_axisOf, Cond.code yX5_axisOf cX5_axisOf 1 (some .int), Cond.methodLink RX5 39 yX5_signOf, Cond.static yX5_signOf, Cond.code yX5_signOf cX5_signOf 1 (some .int), Cond.methodLink RX5 46 yX6_growthAt, Cond.instanceMethod yX6_growthAt, Cond.selects RX6 yX6_growthAt yX6_growthAt, Cond.initialized RX6, Cond.code yX6_growthAt cX6_growthAt 3 (some .int), Cond.fieldLink RX6 15 "HotPipes$Stuffs" "sizes" "[I", Cond.fieldLink RX6 9 "HotPipes$Stuffs" "bytes" "[B", Cond.methodLink RX5 42 yX5_unitsBetween, Cond.instanceMethod yX5_unitsBetween, Cond.selects RX5 yX5_unitsBetween yX5_unitsBetween, Cond.code yX5_unitsBetween cX5_unitsBetween 5 (some .int), Cond.methodLink RX5 55 Lib.Math.min.name, Cond.static Lib.Math.min.name, Cond.initialized "java/lang/Math", Cond.code Lib.Math.min.name Lib.Math.min.code 2 (some .int), Cond.methodLink RX5 60 Lib.Math.max.name, Cond.static Lib.Math.max.name, Cond.code Lib.Math.max.name Lib.Math.max.code 2 (some .int), Cond.methodLink RX7 203 yX4_twiceLoad]
def wsX7_firm_r5 : List Cond := [Cond.instanceMethod yX4_twiceLoad, Cond.selects RX4 yX4_twiceLoad yX4_twiceLoad, Cond.code yX4_twiceLoad cX4_twiceLoad 6 (some .int), Cond.methodLink RX4 63 Lib.Math.max.name, Cond.methodLink RX4 67 Lib.Math.min.name, Cond.methodLink RX4 70 yX5_weight, Cond.instanceMethod yX5_weight, Cond.selects RX5 yX5_weight yX5_weight, Cond.code yX5_weight cX5_weight 6 (some .int), Cond.methodLink RX5 52 yX6_weightOf, Cond.instanceMethod yX6_weightOf, Cond.selects RX6 yX6_weightOf yX6_weightOf, Cond.code yX6_weightOf cX6_weightOf 2 (some .int), Cond.fieldLink RX6 19 "HotPipes$Stuffs" "weights" "[I", Cond.methodLink RX7 214 yX4_rateOf, Cond.instanceMethod yX4_rateOf, Cond.selects RX4 yX4_rateOf yX4_rateOf, Cond.code yX4_rateOf cX4_rateOf 2 (some .int), Cond.fieldLink RX4 18 "HotPipes$Rests" "rates" "[I", Cond.methodLink RX7 217 yX4_travel, Cond.instanceMethod yX4_travel, Cond.selects RX4 yX4_travel yX4_travel, Cond.code yX4_travel cX4_travel 3 (some .int), Cond.methodLink RX4 53 Lib.Math.abs.name]
def wsX7_firm_r6 : List Cond := [Cond.static Lib.Math.abs.name, Cond.code Lib.Math.abs.name Lib.Math.abs.code 1 (some .int), Cond.methodLink RX7 208 yX2_put, Cond.instanceMethod yX2_put, Cond.selects RX2 yX2_put yX2_put, Cond.initialized RX2, Cond.code yX2_put cX2_put 7 none, Cond.fieldLink RX2 7 "HotPipes$Fraction" "above" "J", Cond.fieldLink RX2 13 "HotPipes$Fraction" "below" "J", Cond.methodLink RX2 16 yX2_greatestShared, Cond.static yX2_greatestShared, Cond.code yX2_greatestShared cX2_greatestShared 7 (some .long)]
def wsX7_firm : List Cond := .code yX7_firm cX7_firm 6 (some .int) :: ((wsX7_firm_r1 ++ (wsX7_firm_r2 ++ (wsX7_firm_r3 ++ (wsX7_firm_r4 ++ (wsX7_firm_r5 ++ wsX7_firm_r6))))) ++ wsX70 ++ wsX40 ++ wsX50 ++ wsX60 ++ wsX20)
def wsX7_list : List Cond := .code yX7_list cX7_list 2 (some .int) :: ([.fieldLink RX7 37 "HotPipes" "rates" "LHotPipes$Rates;", .methodLink RX7 175 yX7_isRate, .static yX7_isRate, .initialized RX7, .code yX7_isRate cX7_isRate 1 (some .boolean), .methodLink RX7 107 yX7_isWithin, .static yX7_isWithin, .code yX7_isWithin cX7_isWithin 3 (some .boolean), .methodLink RX7 222 yX3_size, .instanceMethod yX3_size, .selects RX3 yX3_size yX3_size, .initialized RX3, .code yX3_size cX3_size 1 (some .int), .fieldLink RX3 15 "HotPipes$Rates" "size" "I", .methodLink RX7 225 yX3_append, .instanceMethod yX3_append, .selects RX3 yX3_append yX3_append, .code yX3_append cX3_append 2 none, .fieldLink RX3 9 "HotPipes$Rates" "rates" "[I"] ++ wsX70 ++ wsX30)
def wsX7_choose_r1 : List Cond := [Cond.fieldLink RX7 30 "HotPipes" "rests" "LHotPipes$Rests;", Cond.fieldLink RX7 37 "HotPipes" "rates" "LHotPipes$Rates;", Cond.methodLink RX7 211 yX7_refusalOfSpring, Cond.instanceMethod yX7_refusalOfSpring, Cond.selects RX7 yX7_refusalOfSpring yX7_refusalOfSpring, Cond.initialized RX7, Cond.code yX7_refusalOfSpring cX7_refusalOfSpring 4 (some .int), Cond.methodLink RX7 143 yX7_isStep, Cond.static yX7_isStep, Cond.code yX7_isStep cX7_isStep 1 (some .boolean), Cond.methodLink RX7 107 yX7_isWithin, Cond.static yX7_isWithin, Cond.code yX7_isWithin cX7_isWithin 3 (some .boolean), Cond.methodLink RX7 184 yX7_refusalOfRest, Cond.instanceMethod yX7_refusalOfRest, Cond.selects RX7 yX7_refusalOfRest yX7_refusalOfRest, Cond.code yX7_refusalOfRest cX7_refusalOfRest 3 (some .int), Cond.methodLink RX7 178 yX4_made, Cond.instanceMethod yX4_made, Cond.selects RX4 yX4_made yX4_made, Cond.initialized RX4, Cond.code yX4_made cX4_made 1 (some .int), Cond.fieldLink RX4 28 "HotPipes$Rests" "made" "I", Cond.methodLink RX7 298 yX4_isGone]
def wsX7_choose_r2 : List Cond := [Cond.instanceMethod yX4_isGone, Cond.selects RX4 yX4_isGone yX4_isGone, Cond.code yX4_isGone cX4_isGone 2 (some .boolean), Cond.fieldLink RX4 9 "HotPipes$Rests" "kinds" "[I", Cond.methodLink RX7 77 yX7_refuse, Cond.instanceMethod yX7_refuse, Cond.selects RX7 yX7_refuse yX7_refuse, Cond.code yX7_refuse cX7_refuse 2 (some .int), Cond.fieldLink RX7 62 "HotPipes" "found" "[I", Cond.fieldLink RX7 66 "HotPipes" "lastFound" "I", Cond.methodLink RX7 194 yX4_isOfKind, Cond.instanceMethod yX4_isOfKind, Cond.selects RX4 yX4_isOfKind yX4_isOfKind, Cond.code yX4_isOfKind cX4_isOfKind 4 (some .boolean), Cond.methodLink RX7 200 yX4_noteBearing, Cond.instanceMethod yX4_noteBearing, Cond.selects RX4 yX4_noteBearing yX4_noteBearing, Cond.code yX4_noteBearing cX4_noteBearing 3 none, Cond.fieldLink RX4 24 "HotPipes$Rests" "bearing" "[Z", Cond.methodLink RX4 40 yX4_isPresent, Cond.instanceMethod yX4_isPresent, Cond.selects RX4 yX4_isPresent yX4_isPresent, Cond.code yX4_isPresent cX4_isPresent 2 (some .boolean), Cond.fieldLink RX4 15 "HotPipes$Rests" "places" "[I"]
def wsX7_choose_r3 : List Cond := [Cond.fieldLink RX4 32 "HotPipes$Rests" "run" "LHotPipes$Run;", Cond.methodLink RX4 36 yX4_isGone, Cond.methodLink RX4 43 yX5_length, Cond.instanceMethod yX5_length, Cond.selects RX5 yX5_length yX5_length, Cond.initialized RX5, Cond.code yX5_length cX5_length 1 (some .int), Cond.fieldLink RX5 28 "HotPipes$Run" "length" "I", Cond.methodLink RX4 59 yX4_isLifted, Cond.instanceMethod yX4_isLifted, Cond.selects RX4 yX4_isLifted yX4_isLifted, Cond.code yX4_isLifted cX4_isLifted 4 (some .boolean), Cond.methodLink RX4 49 yX5_growth, Cond.instanceMethod yX5_growth, Cond.selects RX5 yX5_growth yX5_growth, Cond.code yX5_growth cX5_growth 8 (some .int), Cond.fieldLink RX5 24 "HotPipes$Run" "legs" "I", Cond.fieldLink RX5 9 "HotPipes$Run" "ways" "[I", Cond.fieldLink RX5 31 "HotPipes$Run" "stuffs" "LHotPipes$Stuffs;", Cond.fieldLink RX5 18 "HotPipes$Run" "stuffOf" "[I", Cond.fieldLink RX5 15 "HotPipes$Run" "units" "[I", Cond.methodLink RX5 35 yX5_axisOf, Cond.static yX5_axisOf, Cond.code yX5_axisOf cX5_axisOf 1 (some .int)]
def wsX7_choose_r4 : List Cond := [Cond.methodLink RX5 39 yX5_signOf, Cond.static yX5_signOf, Cond.code yX5_signOf cX5_signOf 1 (some .int), Cond.methodLink RX5 46 yX6_growthAt, Cond.instanceMethod yX6_growthAt, Cond.selects RX6 yX6_growthAt yX6_growthAt, Cond.initialized RX6, Cond.code yX6_growthAt cX6_growthAt 3 (some .int), Cond.fieldLink RX6 15 "HotPipes$Stuffs" "sizes" "[I", Cond.fieldLink RX6 9 "HotPipes$Stuffs" "bytes" "[B", Cond.methodLink RX5 42 yX5_unitsBetween, Cond.instanceMethod yX5_unitsBetween, Cond.selects RX5 yX5_unitsBetween yX5_unitsBetween, Cond.code yX5_unitsBetween cX5_unitsBetween 5 (some .int), Cond.methodLink RX5 55 Lib.Math.min.name, Cond.static Lib.Math.min.name, Cond.initialized "java/lang/Math", Cond.code Lib.Math.min.name Lib.Math.min.code 2 (some .int), Cond.methodLink RX5 60 Lib.Math.max.name, Cond.static Lib.Math.max.name, Cond.code Lib.Math.max.name Lib.Math.max.code 2 (some .int), Cond.methodLink RX7 203 yX4_twiceLoad, Cond.instanceMethod yX4_twiceLoad, Cond.selects RX4 yX4_twiceLoad yX4_twiceLoad]
def wsX7_choose_r5 : List Cond := [Cond.code yX4_twiceLoad cX4_twiceLoad 6 (some .int), Cond.methodLink RX4 63 Lib.Math.max.name, Cond.methodLink RX4 67 Lib.Math.min.name, Cond.methodLink RX4 70 yX5_weight, Cond.instanceMethod yX5_weight, Cond.selects RX5 yX5_weight yX5_weight, Cond.code yX5_weight cX5_weight 6 (some .int), Cond.methodLink RX5 52 yX6_weightOf, Cond.instanceMethod yX6_weightOf, Cond.selects RX6 yX6_weightOf yX6_weightOf, Cond.code yX6_weightOf cX6_weightOf 2 (some .int), Cond.fieldLink RX6 19 "HotPipes$Stuffs" "weights" "[I", Cond.methodLink RX7 217 yX4_travel, Cond.instanceMethod yX4_travel, Cond.selects RX4 yX4_travel yX4_travel, Cond.code yX4_travel cX4_travel 3 (some .int), Cond.methodLink RX4 53 Lib.Math.abs.name, Cond.static Lib.Math.abs.name, Cond.code Lib.Math.abs.name Lib.Math.abs.code 1 (some .int), Cond.methodLink RX7 227 yX3_greatestFirmEnough, Cond.instanceMethod yX3_greatestFirmEnough, Cond.selects RX3 yX3_greatestFirmEnough yX3_greatestFirmEnough, Cond.initialized RX3, Cond.code yX3_greatestFirmEnough cX3_greatestFirmEnough 6 (some .int)]
def wsX7_choose_r6 : List Cond := [Cond.fieldLink RX3 15 "HotPipes$Rates" "size" "I", Cond.constantLong RX3 19 (8), Cond.fieldLink RX3 9 "HotPipes$Rates" "rates" "[I", Cond.constantLong RX3 21 (1000), Cond.methodLink RX7 230 yX4_setRate, Cond.instanceMethod yX4_setRate, Cond.selects RX4 yX4_setRate yX4_setRate, Cond.code yX4_setRate cX4_setRate 3 none, Cond.fieldLink RX4 18 "HotPipes$Rests" "rates" "[I"]
def wsX7_choose : List Cond := .code yX7_choose cX7_choose 6 (some .int) :: ((wsX7_choose_r1 ++ (wsX7_choose_r2 ++ (wsX7_choose_r3 ++ (wsX7_choose_r4 ++ (wsX7_choose_r5 ++ wsX7_choose_r6))))) ++ wsX70 ++ wsX40 ++ wsX50 ++ wsX60 ++ wsX30)
def wsX7_isCase : List Cond := .code yX7_isCase cX7_isCase 1 (some .boolean) :: ([.methodLink RX7 107 yX7_isWithin, .static yX7_isWithin, .initialized RX7, .code yX7_isWithin cX7_isWithin 3 (some .boolean)])
def wsX7_amount : List Cond := .code yX7_amount cX7_amount 5 (some .int) :: ([.fieldLink RX7 44 "HotPipes" "cases" "LHotPipes$Cases;", .methodLink RX7 233 yX7_isCase, .static yX7_isCase, .initialized RX7, .code yX7_isCase cX7_isCase 1 (some .boolean), .methodLink RX7 107 yX7_isWithin, .static yX7_isWithin, .code yX7_isWithin cX7_isWithin 3 (some .boolean), .methodLink RX7 236 yX0_put, .instanceMethod yX0_put, .selects RX0 yX0_put yX0_put, .initialized RX0, .code yX0_put cX0_put 5 none, .fieldLink RX0 9 "HotPipes$Cases" "amounts" "[I", .fieldLink RX0 15 "HotPipes$Cases" "lows" "[I", .fieldLink RX0 18 "HotPipes$Cases" "highs" "[I"] ++ wsX70 ++ wsX00)
def wsX7_bar : List Cond := .code yX7_bar cX7_bar 4 (some .int) :: ([.fieldLink RX7 44 "HotPipes" "cases" "LHotPipes$Cases;", .methodLink RX7 233 yX7_isCase, .static yX7_isCase, .initialized RX7, .code yX7_isCase cX7_isCase 1 (some .boolean), .methodLink RX7 107 yX7_isWithin, .static yX7_isWithin, .code yX7_isWithin cX7_isWithin 3 (some .boolean), .methodLink RX7 239 yX0_setBarred, .instanceMethod yX0_setBarred, .selects RX0 yX0_setBarred yX0_setBarred, .initialized RX0, .code yX0_setBarred cX0_setBarred 5 (some .boolean), .fieldLink RX0 21 "HotPipes$Cases" "barred" "[I"] ++ wsX70 ++ wsX00)
def wsX7_worst : List Cond := .code yX7_worst cX7_worst 1 (some .int) :: ([.fieldLink RX7 44 "HotPipes" "cases" "LHotPipes$Cases;", .fieldLink RX7 70 "HotPipes" "lastAsked" "I", .methodLink RX7 243 yX0_worstSet, .instanceMethod yX0_worstSet, .selects RX0 yX0_worstSet yX0_worstSet, .initialized RX0, .code yX0_worstSet cX0_worstSet 5 (some .int), .methodLink RX0 30 yX0_goesTogether, .instanceMethod yX0_goesTogether, .selects RX0 yX0_goesTogether yX0_goesTogether, .code yX0_goesTogether cX0_goesTogether 3 (some .boolean), .fieldLink RX0 21 "HotPipes$Cases" "barred" "[I", .methodLink RX0 34 yX0_joined, .instanceMethod yX0_joined, .selects RX0 yX0_joined yX0_joined, .code yX0_joined cX0_joined 4 (some .int), .fieldLink RX0 9 "HotPipes$Cases" "amounts" "[I", .fieldLink RX0 15 "HotPipes$Cases" "lows" "[I", .fieldLink RX0 18 "HotPipes$Cases" "highs" "[I", .methodLink RX0 38 Lib.Math.max.name, .static Lib.Math.max.name, .initialized "java/lang/Math", .code Lib.Math.max.name Lib.Math.max.code 2 (some .int), .methodLink RX7 246 yX0_joined] ++ wsX70 ++ wsX00)
def wsX7_cycle : List Cond := .code yX7_cycle cX7_cycle 3 (some .int) :: ([.constant RX7 249 (100000), .fieldLink RX7 51 "HotPipes" "cycles" "LHotPipes$Cycles;", .methodLink RX7 107 yX7_isWithin, .static yX7_isWithin, .initialized RX7, .code yX7_isWithin cX7_isWithin 3 (some .boolean), .methodLink RX7 250 yX1_lines, .instanceMethod yX1_lines, .selects RX1 yX1_lines yX1_lines, .initialized RX1, .code yX1_lines cX1_lines 1 (some .int), .fieldLink RX1 7 "HotPipes$Cycles" "lines" "I", .methodLink RX7 253 yX1_append, .instanceMethod yX1_append, .selects RX1 yX1_append yX1_append, .code yX1_append cX1_append 3 none, .fieldLink RX1 13 "HotPipes$Cycles" "parts" "J"] ++ wsX70 ++ wsX10)
def wsX7_used : List Cond := .code yX7_used cX7_used 3 (some .int) :: ([.fieldLink RX7 51 "HotPipes" "cycles" "LHotPipes$Cycles;", .fieldLink RX7 58 "HotPipes" "fraction" "LHotPipes$Fraction;", .constantLong RX7 259 (65536), .methodLink RX7 255 yX1_partsUsed, .instanceMethod yX1_partsUsed, .selects RX1 yX1_partsUsed yX1_partsUsed, .initialized RX1, .code yX1_partsUsed cX1_partsUsed 1 (some .long), .fieldLink RX1 13 "HotPipes$Cycles" "parts" "J", .methodLink RX7 208 yX2_put, .instanceMethod yX2_put, .selects RX2 yX2_put yX2_put, .initialized RX2, .code yX2_put cX2_put 7 none, .fieldLink RX2 7 "HotPipes$Fraction" "above" "J", .fieldLink RX2 13 "HotPipes$Fraction" "below" "J", .methodLink RX2 16 yX2_greatestShared, .static yX2_greatestShared, .code yX2_greatestShared cX2_greatestShared 7 (some .long)] ++ wsX70 ++ wsX10 ++ wsX20)
def wsX7_read_r1 : List Cond := [Cond.constant RX7 249 (100000), Cond.fieldLink RX7 30 "HotPipes" "rests" "LHotPipes$Rests;", Cond.methodLink RX7 107 yX7_isWithin, Cond.static yX7_isWithin, Cond.initialized RX7, Cond.code yX7_isWithin cX7_isWithin 3 (some .boolean), Cond.methodLink RX7 184 yX7_refusalOfRest, Cond.instanceMethod yX7_refusalOfRest, Cond.selects RX7 yX7_refusalOfRest yX7_refusalOfRest, Cond.code yX7_refusalOfRest cX7_refusalOfRest 3 (some .int), Cond.methodLink RX7 178 yX4_made, Cond.instanceMethod yX4_made, Cond.selects RX4 yX4_made yX4_made, Cond.initialized RX4, Cond.code yX4_made cX4_made 1 (some .int), Cond.fieldLink RX4 28 "HotPipes$Rests" "made" "I", Cond.methodLink RX7 298 yX4_isGone, Cond.instanceMethod yX4_isGone, Cond.selects RX4 yX4_isGone yX4_isGone, Cond.code yX4_isGone cX4_isGone 2 (some .boolean), Cond.fieldLink RX4 9 "HotPipes$Rests" "kinds" "[I", Cond.methodLink RX7 77 yX7_refuse, Cond.instanceMethod yX7_refuse, Cond.selects RX7 yX7_refuse yX7_refuse]
def wsX7_read_r2 : List Cond := [Cond.code yX7_refuse cX7_refuse 2 (some .int), Cond.fieldLink RX7 62 "HotPipes" "found" "[I", Cond.fieldLink RX7 66 "HotPipes" "lastFound" "I", Cond.methodLink RX7 261 yX4_replaceReading, Cond.instanceMethod yX4_replaceReading, Cond.selects RX4 yX4_replaceReading yX4_replaceReading, Cond.code yX4_replaceReading cX4_replaceReading 4 (some .int), Cond.fieldLink RX4 21 "HotPipes$Rests" "readings" "[I"]
def wsX7_read : List Cond := .code yX7_read cX7_read 4 (some .int) :: ((wsX7_read_r1 ++ wsX7_read_r2) ++ wsX70 ++ wsX40)
def wsX7_missing_r1 : List Cond := [Cond.fieldLink RX7 30 "HotPipes" "rests" "LHotPipes$Rests;", Cond.fieldLink RX7 70 "HotPipes" "lastAsked" "I", Cond.methodLink RX7 143 yX7_isStep, Cond.static yX7_isStep, Cond.initialized RX7, Cond.code yX7_isStep cX7_isStep 1 (some .boolean), Cond.methodLink RX7 107 yX7_isWithin, Cond.static yX7_isWithin, Cond.code yX7_isWithin cX7_isWithin 3 (some .boolean), Cond.methodLink RX7 264 yX4_hasReading, Cond.instanceMethod yX4_hasReading, Cond.selects RX4 yX4_hasReading yX4_hasReading, Cond.initialized RX4, Cond.code yX4_hasReading cX4_hasReading 2 (some .boolean), Cond.fieldLink RX4 28 "HotPipes$Rests" "made" "I", Cond.methodLink RX4 73 yX4_isRead, Cond.instanceMethod yX4_isRead, Cond.selects RX4 yX4_isRead yX4_isRead, Cond.code yX4_isRead cX4_isRead 2 (some .boolean), Cond.fieldLink RX4 21 "HotPipes$Rests" "readings" "[I", Cond.methodLink RX4 36 yX4_isGone, Cond.instanceMethod yX4_isGone, Cond.selects RX4 yX4_isGone yX4_isGone, Cond.code yX4_isGone cX4_isGone 2 (some .boolean)]
def wsX7_missing_r2 : List Cond := [Cond.fieldLink RX4 9 "HotPipes$Rests" "kinds" "[I", Cond.methodLink RX7 200 yX4_noteBearing, Cond.instanceMethod yX4_noteBearing, Cond.selects RX4 yX4_noteBearing yX4_noteBearing, Cond.code yX4_noteBearing cX4_noteBearing 3 none, Cond.fieldLink RX4 24 "HotPipes$Rests" "bearing" "[Z", Cond.methodLink RX4 40 yX4_isPresent, Cond.instanceMethod yX4_isPresent, Cond.selects RX4 yX4_isPresent yX4_isPresent, Cond.code yX4_isPresent cX4_isPresent 2 (some .boolean), Cond.fieldLink RX4 15 "HotPipes$Rests" "places" "[I", Cond.fieldLink RX4 32 "HotPipes$Rests" "run" "LHotPipes$Run;", Cond.methodLink RX4 43 yX5_length, Cond.instanceMethod yX5_length, Cond.selects RX5 yX5_length yX5_length, Cond.initialized RX5, Cond.code yX5_length cX5_length 1 (some .int), Cond.fieldLink RX5 28 "HotPipes$Run" "length" "I", Cond.methodLink RX4 59 yX4_isLifted, Cond.instanceMethod yX4_isLifted, Cond.selects RX4 yX4_isLifted yX4_isLifted, Cond.code yX4_isLifted cX4_isLifted 4 (some .boolean), Cond.methodLink RX4 49 yX5_growth, Cond.instanceMethod yX5_growth]
def wsX7_missing_r3 : List Cond := [Cond.selects RX5 yX5_growth yX5_growth, Cond.code yX5_growth cX5_growth 8 (some .int), Cond.fieldLink RX5 24 "HotPipes$Run" "legs" "I", Cond.fieldLink RX5 9 "HotPipes$Run" "ways" "[I", Cond.fieldLink RX5 31 "HotPipes$Run" "stuffs" "LHotPipes$Stuffs;", Cond.fieldLink RX5 18 "HotPipes$Run" "stuffOf" "[I", Cond.fieldLink RX5 15 "HotPipes$Run" "units" "[I", Cond.methodLink RX5 35 yX5_axisOf, Cond.static yX5_axisOf, Cond.code yX5_axisOf cX5_axisOf 1 (some .int), Cond.methodLink RX5 39 yX5_signOf, Cond.static yX5_signOf, Cond.code yX5_signOf cX5_signOf 1 (some .int), Cond.methodLink RX5 46 yX6_growthAt, Cond.instanceMethod yX6_growthAt, Cond.selects RX6 yX6_growthAt yX6_growthAt, Cond.initialized RX6, Cond.code yX6_growthAt cX6_growthAt 3 (some .int), Cond.fieldLink RX6 15 "HotPipes$Stuffs" "sizes" "[I", Cond.fieldLink RX6 9 "HotPipes$Stuffs" "bytes" "[B", Cond.methodLink RX5 42 yX5_unitsBetween, Cond.instanceMethod yX5_unitsBetween, Cond.selects RX5 yX5_unitsBetween yX5_unitsBetween, Cond.code yX5_unitsBetween cX5_unitsBetween 5 (some .int)]
def wsX7_missing_r4 : List Cond := [Cond.methodLink RX5 55 Lib.Math.min.name, Cond.static Lib.Math.min.name, Cond.initialized "java/lang/Math", Cond.code Lib.Math.min.name Lib.Math.min.code 2 (some .int), Cond.methodLink RX5 60 Lib.Math.max.name, Cond.static Lib.Math.max.name, Cond.code Lib.Math.max.name Lib.Math.max.code 2 (some .int), Cond.methodLink RX7 268 yX4_differenceWithout, Cond.instanceMethod yX4_differenceWithout, Cond.selects RX4 yX4_differenceWithout yX4_differenceWithout, Cond.code yX4_differenceWithout cX4_differenceWithout 4 (some .int), Cond.methodLink RX4 53 Lib.Math.abs.name, Cond.static Lib.Math.abs.name, Cond.code Lib.Math.abs.name Lib.Math.abs.code 1 (some .int), Cond.methodLink RX4 76 yX4_twiceLoad, Cond.instanceMethod yX4_twiceLoad, Cond.selects RX4 yX4_twiceLoad yX4_twiceLoad, Cond.code yX4_twiceLoad cX4_twiceLoad 6 (some .int), Cond.methodLink RX4 63 Lib.Math.max.name, Cond.methodLink RX4 67 Lib.Math.min.name, Cond.methodLink RX4 70 yX5_weight, Cond.instanceMethod yX5_weight, Cond.selects RX5 yX5_weight yX5_weight, Cond.code yX5_weight cX5_weight 6 (some .int)]
def wsX7_missing_r5 : List Cond := [Cond.methodLink RX5 52 yX6_weightOf, Cond.instanceMethod yX6_weightOf, Cond.selects RX6 yX6_weightOf yX6_weightOf, Cond.code yX6_weightOf cX6_weightOf 2 (some .int), Cond.fieldLink RX6 19 "HotPipes$Stuffs" "weights" "[I", Cond.methodLink RX7 178 yX4_made, Cond.instanceMethod yX4_made, Cond.selects RX4 yX4_made yX4_made, Cond.code yX4_made cX4_made 1 (some .int), Cond.methodLink RX7 271 yX4_isBearing, Cond.instanceMethod yX4_isBearing, Cond.selects RX4 yX4_isBearing yX4_isBearing, Cond.code yX4_isBearing cX4_isBearing 2 (some .boolean)]
def wsX7_missing : List Cond := .code yX7_missing cX7_missing 6 (some .int) :: ((wsX7_missing_r1 ++ (wsX7_missing_r2 ++ (wsX7_missing_r3 ++ (wsX7_missing_r4 ++ wsX7_missing_r5)))) ++ wsX70 ++ wsX40 ++ wsX50 ++ wsX60)
def wsX7_asked : List Cond := .code yX7_asked cX7_asked 1 (some .int) :: ([.fieldLink RX7 70 "HotPipes" "lastAsked" "I"] ++ wsX70)
def wsX7_upper : List Cond := .code yX7_upper cX7_upper 1 (some .long) :: ([.fieldLink RX7 58 "HotPipes" "fraction" "LHotPipes$Fraction;"] ++ wsX70 ++ wsX20)
def wsX7_lower : List Cond := .code yX7_lower cX7_lower 1 (some .long) :: ([.fieldLink RX7 58 "HotPipes" "fraction" "LHotPipes$Fraction;"] ++ wsX70 ++ wsX20)
def wsX7_count_r1 : List Cond := [Cond.fieldLink RX7 21 "HotPipes" "run" "LHotPipes$Run;", Cond.fieldLink RX7 30 "HotPipes" "rests" "LHotPipes$Rests;", Cond.fieldLink RX7 37 "HotPipes" "rates" "LHotPipes$Rates;", Cond.fieldLink RX7 51 "HotPipes" "cycles" "LHotPipes$Cycles;", Cond.methodLink RX7 123 yX5_legs, Cond.instanceMethod yX5_legs, Cond.selects RX5 yX5_legs yX5_legs, Cond.initialized RX5, Cond.code yX5_legs cX5_legs 1 (some .int), Cond.fieldLink RX5 24 "HotPipes$Run" "legs" "I", Cond.methodLink RX7 134 yX5_length, Cond.instanceMethod yX5_length, Cond.selects RX5 yX5_length yX5_length, Cond.code yX5_length cX5_length 1 (some .int), Cond.fieldLink RX5 28 "HotPipes$Run" "length" "I", Cond.methodLink RX7 178 yX4_made, Cond.instanceMethod yX4_made, Cond.selects RX4 yX4_made yX4_made, Cond.initialized RX4, Cond.code yX4_made cX4_made 1 (some .int), Cond.fieldLink RX4 28 "HotPipes$Rests" "made" "I", Cond.methodLink RX7 281 yX4_kept, Cond.instanceMethod yX4_kept, Cond.selects RX4 yX4_kept yX4_kept]
def wsX7_count_r2 : List Cond := [Cond.code yX4_kept cX4_kept 3 (some .int), Cond.methodLink RX4 36 yX4_isGone, Cond.instanceMethod yX4_isGone, Cond.selects RX4 yX4_isGone yX4_isGone, Cond.code yX4_isGone cX4_isGone 2 (some .boolean), Cond.fieldLink RX4 9 "HotPipes$Rests" "kinds" "[I", Cond.methodLink RX7 222 yX3_size, Cond.instanceMethod yX3_size, Cond.selects RX3 yX3_size yX3_size, Cond.initialized RX3, Cond.code yX3_size cX3_size 1 (some .int), Cond.fieldLink RX3 15 "HotPipes$Rates" "size" "I", Cond.methodLink RX7 250 yX1_lines, Cond.instanceMethod yX1_lines, Cond.selects RX1 yX1_lines yX1_lines, Cond.initialized RX1, Cond.code yX1_lines cX1_lines 1 (some .int), Cond.fieldLink RX1 7 "HotPipes$Cycles" "lines" "I"]
def wsX7_count : List Cond := .code yX7_count cX7_count 2 (some .int) :: ((wsX7_count_r1 ++ wsX7_count_r2) ++ wsX70 ++ wsX50 ++ wsX40 ++ wsX30 ++ wsX10)
def wsX7_finding : List Cond := .code yX7_finding cX7_finding 1 (some .int) :: ([.fieldLink RX7 66 "HotPipes" "lastFound" "I"] ++ wsX70)
def wsX7_findings : List Cond := .code yX7_findings cX7_findings 2 (some .int) :: ([.fieldLink RX7 62 "HotPipes" "found" "[I", .methodLink RX7 107 yX7_isWithin, .static yX7_isWithin, .initialized RX7, .code yX7_isWithin cX7_isWithin 3 (some .boolean)] ++ wsX70)
def wsX7_digest_r1 : List Cond := [Cond.constantLong RX7 284 (17), Cond.constantLong RX7 286 (31), Cond.fieldLink RX7 21 "HotPipes" "run" "LHotPipes$Run;", Cond.fieldLink RX7 30 "HotPipes" "rests" "LHotPipes$Rests;", Cond.fieldLink RX7 44 "HotPipes" "cases" "LHotPipes$Cases;", Cond.fieldLink RX7 10 "HotPipes" "stuffs" "LHotPipes$Stuffs;", Cond.methodLink RX7 288 yX7_count, Cond.instanceMethod yX7_count, Cond.selects RX7 yX7_count yX7_count, Cond.initialized RX7, Cond.code yX7_count cX7_count 2 (some .int), Cond.fieldLink RX7 37 "HotPipes" "rates" "LHotPipes$Rates;", Cond.fieldLink RX7 51 "HotPipes" "cycles" "LHotPipes$Cycles;", Cond.methodLink RX7 123 yX5_legs, Cond.instanceMethod yX5_legs, Cond.selects RX5 yX5_legs yX5_legs, Cond.initialized RX5, Cond.code yX5_legs cX5_legs 1 (some .int), Cond.fieldLink RX5 24 "HotPipes$Run" "legs" "I", Cond.methodLink RX7 134 yX5_length, Cond.instanceMethod yX5_length, Cond.selects RX5 yX5_length yX5_length, Cond.code yX5_length cX5_length 1 (some .int), Cond.fieldLink RX5 28 "HotPipes$Run" "length" "I"]
def wsX7_digest_r2 : List Cond := [Cond.methodLink RX7 178 yX4_made, Cond.instanceMethod yX4_made, Cond.selects RX4 yX4_made yX4_made, Cond.initialized RX4, Cond.code yX4_made cX4_made 1 (some .int), Cond.fieldLink RX4 28 "HotPipes$Rests" "made" "I", Cond.methodLink RX7 281 yX4_kept, Cond.instanceMethod yX4_kept, Cond.selects RX4 yX4_kept yX4_kept, Cond.code yX4_kept cX4_kept 3 (some .int), Cond.methodLink RX4 36 yX4_isGone, Cond.instanceMethod yX4_isGone, Cond.selects RX4 yX4_isGone yX4_isGone, Cond.code yX4_isGone cX4_isGone 2 (some .boolean), Cond.fieldLink RX4 9 "HotPipes$Rests" "kinds" "[I", Cond.methodLink RX7 222 yX3_size, Cond.instanceMethod yX3_size, Cond.selects RX3 yX3_size yX3_size, Cond.initialized RX3, Cond.code yX3_size cX3_size 1 (some .int), Cond.fieldLink RX3 15 "HotPipes$Rates" "size" "I", Cond.methodLink RX7 250 yX1_lines, Cond.instanceMethod yX1_lines, Cond.selects RX1 yX1_lines yX1_lines]
def wsX7_digest_r3 : List Cond := [Cond.initialized RX1, Cond.code yX1_lines cX1_lines 1 (some .int), Cond.fieldLink RX1 7 "HotPipes$Cycles" "lines" "I", Cond.methodLink RX7 291 yX5_mixInto, Cond.instanceMethod yX5_mixInto, Cond.selects RX5 yX5_mixInto yX5_mixInto, Cond.code yX5_mixInto cX5_mixInto 4 (some .long), Cond.constantLong RX5 91 (31), Cond.fieldLink RX5 9 "HotPipes$Run" "ways" "[I", Cond.fieldLink RX5 15 "HotPipes$Run" "units" "[I", Cond.fieldLink RX5 18 "HotPipes$Run" "stuffOf" "[I", Cond.methodLink RX7 295 yX4_mixInto, Cond.instanceMethod yX4_mixInto, Cond.selects RX4 yX4_mixInto yX4_mixInto, Cond.code yX4_mixInto cX4_mixInto 5 (some .long), Cond.constantLong RX4 79 (31), Cond.fieldLink RX4 21 "HotPipes$Rests" "readings" "[I", Cond.methodLink RX4 81 yX4_tell, Cond.instanceMethod yX4_tell, Cond.selects RX4 yX4_tell yX4_tell, Cond.code yX4_tell cX4_tell 3 (some .int), Cond.fieldLink RX4 15 "HotPipes$Rests" "places" "[I", Cond.fieldLink RX4 18 "HotPipes$Rests" "rates" "[I", Cond.methodLink RX4 40 yX4_isPresent]
def wsX7_digest_r4 : List Cond := [Cond.instanceMethod yX4_isPresent, Cond.selects RX4 yX4_isPresent yX4_isPresent, Cond.code yX4_isPresent cX4_isPresent 2 (some .boolean), Cond.fieldLink RX4 32 "HotPipes$Rests" "run" "LHotPipes$Run;", Cond.methodLink RX4 43 yX5_length, Cond.methodLink RX7 296 yX0_mixInto, Cond.instanceMethod yX0_mixInto, Cond.selects RX0 yX0_mixInto yX0_mixInto, Cond.initialized RX0, Cond.code yX0_mixInto cX0_mixInto 4 (some .long), Cond.constantLong RX0 44 (31), Cond.fieldLink RX0 9 "HotPipes$Cases" "amounts" "[I", Cond.fieldLink RX0 15 "HotPipes$Cases" "lows" "[I", Cond.fieldLink RX0 18 "HotPipes$Cases" "highs" "[I", Cond.methodLink RX7 297 yX6_mixInto, Cond.instanceMethod yX6_mixInto, Cond.selects RX6 yX6_mixInto yX6_mixInto, Cond.initialized RX6, Cond.code yX6_mixInto cX6_mixInto 5 (some .long), Cond.constantLong RX6 34 (31), Cond.fieldLink RX6 19 "HotPipes$Stuffs" "weights" "[I", Cond.fieldLink RX6 15 "HotPipes$Stuffs" "sizes" "[I", Cond.fieldLink RX6 9 "HotPipes$Stuffs" "bytes" "[B"]
def wsX7_digest : List Cond := .code yX7_digest cX7_digest 4 (some .long) :: ((wsX7_digest_r1 ++ (wsX7_digest_r2 ++ (wsX7_digest_r3 ++ wsX7_digest_r4))) ++ wsX70 ++ wsX50 ++ wsX40 ++ wsX30 ++ wsX10 ++ wsX00 ++ wsX60)
def wsX8_init_r1 : List Cond := [Cond.methodLink RX8 1 objectInit, Cond.instanceMethod objectInit, Cond.code objectInit ⟨#[0xb1]⟩ 1 none, Cond.arrayClass .int, Cond.fieldLink RX8 7 "HotPipesModel" "came" "[I", Cond.fieldLink RX8 13 "HotPipesModel" "sizes" "[I", Cond.fieldLink RX8 16 "HotPipesModel" "weights" "[I", Cond.arrayClass .byte, Cond.fieldLink RX8 19 "HotPipesModel" "growths" "[B", Cond.fieldLink RX8 23 "HotPipesModel" "copied" "[B", Cond.fieldLink RX8 26 "HotPipesModel" "legWay" "[I", Cond.fieldLink RX8 29 "HotPipesModel" "legUnits" "[I", Cond.fieldLink RX8 32 "HotPipesModel" "legStuff" "[I", Cond.fieldLink RX8 35 "HotPipesModel" "unitWay" "[I", Cond.fieldLink RX8 38 "HotPipesModel" "unitStuff" "[I", Cond.fieldLink RX8 41 "HotPipesModel" "xs" "[I", Cond.fieldLink RX8 44 "HotPipesModel" "ys" "[I", Cond.fieldLink RX8 47 "HotPipesModel" "zs" "[I", Cond.fieldLink RX8 50 "HotPipesModel" "kindOf" "[I", Cond.fieldLink RX8 53 "HotPipesModel" "placeOf" "[I", Cond.fieldLink RX8 56 "HotPipesModel" "rateOf" "[I", Cond.fieldLink RX8 59 "HotPipesModel" "readOf" "[I", Cond.arrayClass .boolean, Cond.fieldLink RX8 62 "HotPipesModel" "isGone" "[Z"]
def wsX8_init_r2 : List Cond := [Cond.fieldLink RX8 66 "HotPipesModel" "theList" "[I", Cond.fieldLink RX8 69 "HotPipesModel" "amounts" "[I", Cond.fieldLink RX8 72 "HotPipesModel" "low" "[I", Cond.fieldLink RX8 75 "HotPipesModel" "high" "[I", Cond.fieldLink RX8 78 "HotPipesModel" "barred" "[I", Cond.fieldLink RX8 81 "HotPipesModel" "times" "[I", Cond.fieldLink RX8 84 "HotPipesModel" "ranges" "[I", Cond.fieldLink RX8 87 "HotPipesModel" "lower" "J"]
def wsX8_init : List Cond := .code yX8_init cX8_init 2 none :: ((wsX8_init_r1 ++ wsX8_init_r2) ++ wsX80)
def wsX8_in : List Cond := .code yX8_in cX8_in 3 (some .boolean) :: ([])
def wsX8_meets : List Cond := .code yX8_meets cX8_meets 2 (some .int) :: ([.fieldLink RX8 91 "HotPipesModel" "latest" "I", .fieldLink RX8 7 "HotPipesModel" "came" "[I"] ++ wsX80)
def wsX8_finding : List Cond := .code yX8_finding cX8_finding 1 (some .int) :: ([.fieldLink RX8 91 "HotPipesModel" "latest" "I"] ++ wsX80)
def wsX8_findings : List Cond := .code yX8_findings cX8_findings 2 (some .int) :: ([.fieldLink RX8 7 "HotPipesModel" "came" "[I", .methodLink RX8 95 yX8_in, .static yX8_in, .initialized RX8, .code yX8_in cX8_in 3 (some .boolean)] ++ wsX80)
def wsX8_tells : List Cond := .code yX8_tells cX8_tells 3 (some .int) :: ([.fieldLink RX8 99 "HotPipesModel" "asked" "I"] ++ wsX80)
def wsX8_asked : List Cond := .code yX8_asked cX8_asked 1 (some .int) :: ([.fieldLink RX8 99 "HotPipesModel" "asked" "I"] ++ wsX80)
def wsX8_fraction : List Cond := .code yX8_fraction cX8_fraction 12 (some .int) :: ([.fieldLink RX8 102 "HotPipesModel" "upper" "J", .fieldLink RX8 87 "HotPipesModel" "lower" "J"] ++ wsX80)
def wsX8_upper : List Cond := .code yX8_upper cX8_upper 1 (some .long) :: ([.fieldLink RX8 102 "HotPipesModel" "upper" "J"] ++ wsX80)
def wsX8_lower : List Cond := .code yX8_lower cX8_lower 1 (some .long) :: ([.fieldLink RX8 87 "HotPipesModel" "lower" "J"] ++ wsX80)
def wsX8_isStuff : List Cond := .code yX8_isStuff cX8_isStuff 1 (some .boolean) :: ([.methodLink RX8 95 yX8_in, .static yX8_in, .initialized RX8, .code yX8_in cX8_in 3 (some .boolean)])
def wsX8_stuff : List Cond := .code yX8_stuff cX8_stuff 4 (some .int) :: ([.fieldLink RX8 13 "HotPipesModel" "sizes" "[I", .fieldLink RX8 19 "HotPipesModel" "growths" "[B", .methodLink RX8 105 yX8_isStuff, .static yX8_isStuff, .initialized RX8, .code yX8_isStuff cX8_isStuff 1 (some .boolean), .methodLink RX8 95 yX8_in, .static yX8_in, .code yX8_in cX8_in 3 (some .boolean), .methodLink RX8 109 yX8_meets, .instanceMethod yX8_meets, .selects RX8 yX8_meets yX8_meets, .code yX8_meets cX8_meets 2 (some .int), .fieldLink RX8 91 "HotPipesModel" "latest" "I", .fieldLink RX8 7 "HotPipesModel" "came" "[I"] ++ wsX80)
def wsX8_lay : List Cond := .code yX8_lay cX8_lay 5 (some .int) :: ([.fieldLink RX8 13 "HotPipesModel" "sizes" "[I", .fieldLink RX8 19 "HotPipesModel" "growths" "[B", .methodLink RX8 105 yX8_isStuff, .static yX8_isStuff, .initialized RX8, .code yX8_isStuff cX8_isStuff 1 (some .boolean), .methodLink RX8 95 yX8_in, .static yX8_in, .code yX8_in cX8_in 3 (some .boolean), .methodLink RX8 109 yX8_meets, .instanceMethod yX8_meets, .selects RX8 yX8_meets yX8_meets, .code yX8_meets cX8_meets 2 (some .int), .fieldLink RX8 91 "HotPipesModel" "latest" "I", .fieldLink RX8 7 "HotPipesModel" "came" "[I"] ++ wsX80)
def wsX8_tear : List Cond := .code yX8_tear cX8_tear 2 (some .int) :: ([.fieldLink RX8 13 "HotPipesModel" "sizes" "[I", .methodLink RX8 105 yX8_isStuff, .static yX8_isStuff, .initialized RX8, .code yX8_isStuff cX8_isStuff 1 (some .boolean), .methodLink RX8 95 yX8_in, .static yX8_in, .code yX8_in cX8_in 3 (some .boolean), .methodLink RX8 109 yX8_meets, .instanceMethod yX8_meets, .selects RX8 yX8_meets yX8_meets, .code yX8_meets cX8_meets 2 (some .int), .fieldLink RX8 91 "HotPipesModel" "latest" "I", .fieldLink RX8 7 "HotPipesModel" "came" "[I"] ++ wsX80)
def wsX8_copy : List Cond := .code yX8_copy cX8_copy 7 (some .int) :: ([.fieldLink RX8 13 "HotPipesModel" "sizes" "[I", .fieldLink RX8 23 "HotPipesModel" "copied" "[B", .fieldLink RX8 19 "HotPipesModel" "growths" "[B", .methodLink RX8 105 yX8_isStuff, .static yX8_isStuff, .initialized RX8, .code yX8_isStuff cX8_isStuff 1 (some .boolean), .methodLink RX8 95 yX8_in, .static yX8_in, .code yX8_in cX8_in 3 (some .boolean), .methodLink RX8 109 yX8_meets, .instanceMethod yX8_meets, .selects RX8 yX8_meets yX8_meets, .code yX8_meets cX8_meets 2 (some .int), .fieldLink RX8 91 "HotPipesModel" "latest" "I", .fieldLink RX8 7 "HotPipesModel" "came" "[I"] ++ wsX80)
def wsX8_weigh : List Cond := .code yX8_weigh cX8_weigh 4 (some .int) :: ([.fieldLink RX8 16 "HotPipesModel" "weights" "[I", .methodLink RX8 105 yX8_isStuff, .static yX8_isStuff, .initialized RX8, .code yX8_isStuff cX8_isStuff 1 (some .boolean), .methodLink RX8 95 yX8_in, .static yX8_in, .code yX8_in cX8_in 3 (some .boolean)] ++ wsX80)
def wsX8_mean : List Cond := .code yX8_mean cX8_mean 4 (some .int) :: ([.fieldLink RX8 13 "HotPipesModel" "sizes" "[I", .fieldLink RX8 19 "HotPipesModel" "growths" "[B", .methodLink RX8 105 yX8_isStuff, .static yX8_isStuff, .initialized RX8, .code yX8_isStuff cX8_isStuff 1 (some .boolean), .methodLink RX8 95 yX8_in, .static yX8_in, .code yX8_in cX8_in 3 (some .boolean), .methodLink RX8 109 yX8_meets, .instanceMethod yX8_meets, .selects RX8 yX8_meets yX8_meets, .code yX8_meets cX8_meets 2 (some .int), .fieldLink RX8 91 "HotPipesModel" "latest" "I", .fieldLink RX8 7 "HotPipesModel" "came" "[I"] ++ wsX80)
def wsX8_growth : List Cond := .code yX8_growth cX8_growth 3 (some .int) :: ([.fieldLink RX8 13 "HotPipesModel" "sizes" "[I", .fieldLink RX8 19 "HotPipesModel" "growths" "[B"] ++ wsX80)
def wsX8_signOf : List Cond := .code yX8_signOf cX8_signOf 1 (some .int) :: ([])
def wsX8_layRun : List Cond := .code yX8_layRun cX8_layRun 4 none :: ([.fieldLink RX8 113 "HotPipesModel" "units" "I", .fieldLink RX8 116 "HotPipesModel" "legs" "I", .fieldLink RX8 29 "HotPipesModel" "legUnits" "[I", .fieldLink RX8 26 "HotPipesModel" "legWay" "[I", .fieldLink RX8 35 "HotPipesModel" "unitWay" "[I", .fieldLink RX8 38 "HotPipesModel" "unitStuff" "[I", .fieldLink RX8 32 "HotPipesModel" "legStuff" "[I", .fieldLink RX8 41 "HotPipesModel" "xs" "[I", .fieldLink RX8 44 "HotPipesModel" "ys" "[I", .fieldLink RX8 47 "HotPipesModel" "zs" "[I", .methodLink RX8 119 yX8_signOf, .static yX8_signOf, .initialized RX8, .code yX8_signOf cX8_signOf 1 (some .int)] ++ wsX80)
def wsX8_leg : List Cond := .code yX8_leg cX8_leg 4 (some .int) :: ([.fieldLink RX8 116 "HotPipesModel" "legs" "I", .fieldLink RX8 26 "HotPipesModel" "legWay" "[I", .fieldLink RX8 29 "HotPipesModel" "legUnits" "[I", .fieldLink RX8 32 "HotPipesModel" "legStuff" "[I", .methodLink RX8 95 yX8_in, .static yX8_in, .initialized RX8, .code yX8_in cX8_in 3 (some .boolean), .methodLink RX8 105 yX8_isStuff, .static yX8_isStuff, .code yX8_isStuff cX8_isStuff 1 (some .boolean), .methodLink RX8 122 yX8_layRun, .instanceMethod yX8_layRun, .selects RX8 yX8_layRun yX8_layRun, .code yX8_layRun cX8_layRun 4 none, .fieldLink RX8 113 "HotPipesModel" "units" "I", .fieldLink RX8 35 "HotPipesModel" "unitWay" "[I", .fieldLink RX8 38 "HotPipesModel" "unitStuff" "[I", .fieldLink RX8 41 "HotPipesModel" "xs" "[I", .fieldLink RX8 44 "HotPipesModel" "ys" "[I", .fieldLink RX8 47 "HotPipesModel" "zs" "[I", .methodLink RX8 119 yX8_signOf, .static yX8_signOf, .code yX8_signOf cX8_signOf 1 (some .int)] ++ wsX80)
def wsX8_cut : List Cond := .code yX8_cut cX8_cut 1 (some .int) :: ([.fieldLink RX8 116 "HotPipesModel" "legs" "I", .methodLink RX8 122 yX8_layRun, .instanceMethod yX8_layRun, .selects RX8 yX8_layRun yX8_layRun, .initialized RX8, .code yX8_layRun cX8_layRun 4 none, .fieldLink RX8 113 "HotPipesModel" "units" "I", .fieldLink RX8 29 "HotPipesModel" "legUnits" "[I", .fieldLink RX8 26 "HotPipesModel" "legWay" "[I", .fieldLink RX8 35 "HotPipesModel" "unitWay" "[I", .fieldLink RX8 38 "HotPipesModel" "unitStuff" "[I", .fieldLink RX8 32 "HotPipesModel" "legStuff" "[I", .fieldLink RX8 41 "HotPipesModel" "xs" "[I", .fieldLink RX8 44 "HotPipesModel" "ys" "[I", .fieldLink RX8 47 "HotPipesModel" "zs" "[I", .methodLink RX8 119 yX8_signOf, .static yX8_signOf, .code yX8_signOf cX8_signOf 1 (some .int)] ++ wsX80)
def wsX8_where : List Cond := .code yX8_where cX8_where 3 (some .int) :: ([.fieldLink RX8 113 "HotPipesModel" "units" "I", .fieldLink RX8 41 "HotPipesModel" "xs" "[I", .fieldLink RX8 44 "HotPipesModel" "ys" "[I", .fieldLink RX8 47 "HotPipesModel" "zs" "[I", .methodLink RX8 95 yX8_in, .static yX8_in, .initialized RX8, .code yX8_in cX8_in 3 (some .boolean), .methodLink RX8 125 yX8_tells, .instanceMethod yX8_tells, .selects RX8 yX8_tells yX8_tells, .code yX8_tells cX8_tells 3 (some .int), .fieldLink RX8 99 "HotPipesModel" "asked" "I"] ++ wsX80)
def wsX8_isStep : List Cond := .code yX8_isStep cX8_isStep 1 (some .boolean) :: ([.methodLink RX8 95 yX8_in, .static yX8_in, .initialized RX8, .code yX8_in cX8_in 3 (some .boolean)])
def wsX8_grownTo : List Cond := .code yX8_grownTo cX8_grownTo 6 (some .int) :: ([.fieldLink RX8 113 "HotPipesModel" "units" "I", .fieldLink RX8 35 "HotPipesModel" "unitWay" "[I", .fieldLink RX8 38 "HotPipesModel" "unitStuff" "[I", .methodLink RX8 119 yX8_signOf, .static yX8_signOf, .initialized RX8, .code yX8_signOf cX8_signOf 1 (some .int), .methodLink RX8 129 yX8_growth, .instanceMethod yX8_growth, .selects RX8 yX8_growth yX8_growth, .code yX8_growth cX8_growth 3 (some .int), .fieldLink RX8 13 "HotPipesModel" "sizes" "[I", .fieldLink RX8 19 "HotPipesModel" "growths" "[B"] ++ wsX80)
def wsX8_grown_r1 : List Cond := [Cond.fieldLink RX8 113 "HotPipesModel" "units" "I", Cond.methodLink RX8 132 yX8_isStep, Cond.static yX8_isStep, Cond.initialized RX8, Cond.code yX8_isStep cX8_isStep 1 (some .boolean), Cond.methodLink RX8 95 yX8_in, Cond.static yX8_in, Cond.code yX8_in cX8_in 3 (some .boolean), Cond.methodLink RX8 135 yX8_grownTo, Cond.instanceMethod yX8_grownTo, Cond.selects RX8 yX8_grownTo yX8_grownTo, Cond.code yX8_grownTo cX8_grownTo 6 (some .int), Cond.fieldLink RX8 35 "HotPipesModel" "unitWay" "[I", Cond.fieldLink RX8 38 "HotPipesModel" "unitStuff" "[I", Cond.methodLink RX8 119 yX8_signOf, Cond.static yX8_signOf, Cond.code yX8_signOf cX8_signOf 1 (some .int), Cond.methodLink RX8 129 yX8_growth, Cond.instanceMethod yX8_growth, Cond.selects RX8 yX8_growth yX8_growth, Cond.code yX8_growth cX8_growth 3 (some .int), Cond.fieldLink RX8 13 "HotPipesModel" "sizes" "[I", Cond.fieldLink RX8 19 "HotPipesModel" "growths" "[B", Cond.methodLink RX8 125 yX8_tells]
def wsX8_grown_r2 : List Cond := [Cond.instanceMethod yX8_tells, Cond.selects RX8 yX8_tells yX8_tells, Cond.code yX8_tells cX8_tells 3 (some .int), Cond.fieldLink RX8 99 "HotPipesModel" "asked" "I"]
def wsX8_grown : List Cond := .code yX8_grown cX8_grown 3 (some .int) :: ((wsX8_grown_r1 ++ wsX8_grown_r2) ++ wsX80)
def wsX8_move_r1 : List Cond := [Cond.fieldLink RX8 113 "HotPipesModel" "units" "I", Cond.methodLink RX8 95 yX8_in, Cond.static yX8_in, Cond.initialized RX8, Cond.code yX8_in cX8_in 3 (some .boolean), Cond.methodLink RX8 132 yX8_isStep, Cond.static yX8_isStep, Cond.code yX8_isStep cX8_isStep 1 (some .boolean), Cond.methodLink RX8 135 yX8_grownTo, Cond.instanceMethod yX8_grownTo, Cond.selects RX8 yX8_grownTo yX8_grownTo, Cond.code yX8_grownTo cX8_grownTo 6 (some .int), Cond.fieldLink RX8 35 "HotPipesModel" "unitWay" "[I", Cond.fieldLink RX8 38 "HotPipesModel" "unitStuff" "[I", Cond.methodLink RX8 119 yX8_signOf, Cond.static yX8_signOf, Cond.code yX8_signOf cX8_signOf 1 (some .int), Cond.methodLink RX8 129 yX8_growth, Cond.instanceMethod yX8_growth, Cond.selects RX8 yX8_growth yX8_growth, Cond.code yX8_growth cX8_growth 3 (some .int), Cond.fieldLink RX8 13 "HotPipesModel" "sizes" "[I", Cond.fieldLink RX8 19 "HotPipesModel" "growths" "[B", Cond.methodLink RX8 125 yX8_tells]
def wsX8_move_r2 : List Cond := [Cond.instanceMethod yX8_tells, Cond.selects RX8 yX8_tells yX8_tells, Cond.code yX8_tells cX8_tells 3 (some .int), Cond.fieldLink RX8 99 "HotPipesModel" "asked" "I"]
def wsX8_move : List Cond := .code yX8_move cX8_move 3 (some .int) :: ((wsX8_move_r1 ++ wsX8_move_r2) ++ wsX80)
def wsX8_root : List Cond := .code yX8_root cX8_root 6 (some .int) :: ([.constant RX8 139 (65536)])
def wsX8_squares : List Cond := .code yX8_squares cX8_squares 6 (some .long) :: ([])
def wsX8_room_r1 : List Cond := [Cond.fieldLink RX8 41 "HotPipesModel" "xs" "[I", Cond.fieldLink RX8 113 "HotPipesModel" "units" "I", Cond.fieldLink RX8 44 "HotPipesModel" "ys" "[I", Cond.fieldLink RX8 47 "HotPipesModel" "zs" "[I", Cond.methodLink RX8 140 yX8_squares, Cond.static yX8_squares, Cond.initialized RX8, Cond.code yX8_squares cX8_squares 6 (some .long), Cond.methodLink RX8 144 yX8_root, Cond.static yX8_root, Cond.code yX8_root cX8_root 6 (some .int), Cond.constant RX8 139 (65536), Cond.methodLink RX8 135 yX8_grownTo, Cond.instanceMethod yX8_grownTo, Cond.selects RX8 yX8_grownTo yX8_grownTo, Cond.code yX8_grownTo cX8_grownTo 6 (some .int), Cond.fieldLink RX8 35 "HotPipesModel" "unitWay" "[I", Cond.fieldLink RX8 38 "HotPipesModel" "unitStuff" "[I", Cond.methodLink RX8 119 yX8_signOf, Cond.static yX8_signOf, Cond.code yX8_signOf cX8_signOf 1 (some .int), Cond.methodLink RX8 129 yX8_growth, Cond.instanceMethod yX8_growth, Cond.selects RX8 yX8_growth yX8_growth]
def wsX8_room_r2 : List Cond := [Cond.code yX8_growth cX8_growth 3 (some .int), Cond.fieldLink RX8 13 "HotPipesModel" "sizes" "[I", Cond.fieldLink RX8 19 "HotPipesModel" "growths" "[B"]
def wsX8_room : List Cond := .code yX8_room cX8_room 6 (some .int) :: ((wsX8_room_r1 ++ wsX8_room_r2) ++ wsX80)
def wsX8_soft_r1 : List Cond := [Cond.fieldLink RX8 116 "HotPipesModel" "legs" "I", Cond.methodLink RX8 132 yX8_isStep, Cond.static yX8_isStep, Cond.initialized RX8, Cond.code yX8_isStep cX8_isStep 1 (some .boolean), Cond.methodLink RX8 95 yX8_in, Cond.static yX8_in, Cond.code yX8_in cX8_in 3 (some .boolean), Cond.methodLink RX8 148 yX8_room, Cond.instanceMethod yX8_room, Cond.selects RX8 yX8_room yX8_room, Cond.code yX8_room cX8_room 6 (some .int), Cond.fieldLink RX8 41 "HotPipesModel" "xs" "[I", Cond.fieldLink RX8 113 "HotPipesModel" "units" "I", Cond.fieldLink RX8 44 "HotPipesModel" "ys" "[I", Cond.fieldLink RX8 47 "HotPipesModel" "zs" "[I", Cond.methodLink RX8 140 yX8_squares, Cond.static yX8_squares, Cond.code yX8_squares cX8_squares 6 (some .long), Cond.methodLink RX8 144 yX8_root, Cond.static yX8_root, Cond.code yX8_root cX8_root 6 (some .int), Cond.constant RX8 139 (65536), Cond.methodLink RX8 135 yX8_grownTo]
def wsX8_soft_r2 : List Cond := [Cond.instanceMethod yX8_grownTo, Cond.selects RX8 yX8_grownTo yX8_grownTo, Cond.code yX8_grownTo cX8_grownTo 6 (some .int), Cond.fieldLink RX8 35 "HotPipesModel" "unitWay" "[I", Cond.fieldLink RX8 38 "HotPipesModel" "unitStuff" "[I", Cond.methodLink RX8 119 yX8_signOf, Cond.static yX8_signOf, Cond.code yX8_signOf cX8_signOf 1 (some .int), Cond.methodLink RX8 129 yX8_growth, Cond.instanceMethod yX8_growth, Cond.selects RX8 yX8_growth yX8_growth, Cond.code yX8_growth cX8_growth 3 (some .int), Cond.fieldLink RX8 13 "HotPipesModel" "sizes" "[I", Cond.fieldLink RX8 19 "HotPipesModel" "growths" "[B", Cond.methodLink RX8 125 yX8_tells, Cond.instanceMethod yX8_tells, Cond.selects RX8 yX8_tells yX8_tells, Cond.code yX8_tells cX8_tells 3 (some .int), Cond.fieldLink RX8 99 "HotPipesModel" "asked" "I"]
def wsX8_soft : List Cond := .code yX8_soft cX8_soft 4 (some .int) :: ((wsX8_soft_r1 ++ wsX8_soft_r2) ++ wsX80)
def wsX8_isOnRun : List Cond := .code yX8_isOnRun cX8_isOnRun 6 (some .boolean) :: ([.fieldLink RX8 113 "HotPipesModel" "units" "I", .fieldLink RX8 41 "HotPipesModel" "xs" "[I", .fieldLink RX8 44 "HotPipesModel" "ys" "[I", .fieldLink RX8 47 "HotPipesModel" "zs" "[I"] ++ wsX80)
def wsX8_isTaken : List Cond := .code yX8_isTaken cX8_isTaken 5 (some .boolean) :: ([.fieldLink RX8 41 "HotPipesModel" "xs" "[I", .fieldLink RX8 44 "HotPipesModel" "ys" "[I", .fieldLink RX8 47 "HotPipesModel" "zs" "[I", .methodLink RX8 119 yX8_signOf, .static yX8_signOf, .initialized RX8, .code yX8_signOf cX8_signOf 1 (some .int), .methodLink RX8 151 yX8_isOnRun, .instanceMethod yX8_isOnRun, .selects RX8 yX8_isOnRun yX8_isOnRun, .code yX8_isOnRun cX8_isOnRun 6 (some .boolean), .fieldLink RX8 113 "HotPipesModel" "units" "I"] ++ wsX80)
def wsX8_isFree : List Cond := .code yX8_isFree cX8_isFree 8 (some .boolean) :: ([.fieldLink RX8 29 "HotPipesModel" "legUnits" "[I", .methodLink RX8 154 yX8_isTaken, .instanceMethod yX8_isTaken, .selects RX8 yX8_isTaken yX8_isTaken, .initialized RX8, .code yX8_isTaken cX8_isTaken 5 (some .boolean), .fieldLink RX8 41 "HotPipesModel" "xs" "[I", .fieldLink RX8 44 "HotPipesModel" "ys" "[I", .fieldLink RX8 47 "HotPipesModel" "zs" "[I", .methodLink RX8 119 yX8_signOf, .static yX8_signOf, .code yX8_signOf cX8_signOf 1 (some .int), .methodLink RX8 151 yX8_isOnRun, .instanceMethod yX8_isOnRun, .selects RX8 yX8_isOnRun yX8_isOnRun, .code yX8_isOnRun cX8_isOnRun 6 (some .boolean), .fieldLink RX8 113 "HotPipesModel" "units" "I"] ++ wsX80)
def wsX8_loopFor_r1 : List Cond := [Cond.methodLink RX8 148 yX8_room, Cond.instanceMethod yX8_room, Cond.selects RX8 yX8_room yX8_room, Cond.initialized RX8, Cond.code yX8_room cX8_room 6 (some .int), Cond.fieldLink RX8 41 "HotPipesModel" "xs" "[I", Cond.fieldLink RX8 113 "HotPipesModel" "units" "I", Cond.fieldLink RX8 44 "HotPipesModel" "ys" "[I", Cond.fieldLink RX8 47 "HotPipesModel" "zs" "[I", Cond.methodLink RX8 140 yX8_squares, Cond.static yX8_squares, Cond.code yX8_squares cX8_squares 6 (some .long), Cond.methodLink RX8 144 yX8_root, Cond.static yX8_root, Cond.code yX8_root cX8_root 6 (some .int), Cond.constant RX8 139 (65536), Cond.methodLink RX8 135 yX8_grownTo, Cond.instanceMethod yX8_grownTo, Cond.selects RX8 yX8_grownTo yX8_grownTo, Cond.code yX8_grownTo cX8_grownTo 6 (some .int), Cond.fieldLink RX8 35 "HotPipesModel" "unitWay" "[I", Cond.fieldLink RX8 38 "HotPipesModel" "unitStuff" "[I", Cond.methodLink RX8 119 yX8_signOf, Cond.static yX8_signOf]
def wsX8_loopFor_r2 : List Cond := [Cond.code yX8_signOf cX8_signOf 1 (some .int), Cond.methodLink RX8 129 yX8_growth, Cond.instanceMethod yX8_growth, Cond.selects RX8 yX8_growth yX8_growth, Cond.code yX8_growth cX8_growth 3 (some .int), Cond.fieldLink RX8 13 "HotPipesModel" "sizes" "[I", Cond.fieldLink RX8 19 "HotPipesModel" "growths" "[B", Cond.methodLink RX8 157 yX8_isFree, Cond.instanceMethod yX8_isFree, Cond.selects RX8 yX8_isFree yX8_isFree, Cond.code yX8_isFree cX8_isFree 8 (some .boolean), Cond.fieldLink RX8 29 "HotPipesModel" "legUnits" "[I", Cond.methodLink RX8 154 yX8_isTaken, Cond.instanceMethod yX8_isTaken, Cond.selects RX8 yX8_isTaken yX8_isTaken, Cond.code yX8_isTaken cX8_isTaken 5 (some .boolean), Cond.methodLink RX8 151 yX8_isOnRun, Cond.instanceMethod yX8_isOnRun, Cond.selects RX8 yX8_isOnRun yX8_isOnRun, Cond.code yX8_isOnRun cX8_isOnRun 6 (some .boolean)]
def wsX8_loopFor : List Cond := .code yX8_loopFor cX8_loopFor 6 (some .int) :: ((wsX8_loopFor_r1 ++ wsX8_loopFor_r2) ++ wsX80)
def wsX8_loop_r1 : List Cond := [Cond.fieldLink RX8 116 "HotPipesModel" "legs" "I", Cond.fieldLink RX8 26 "HotPipesModel" "legWay" "[I", Cond.fieldLink RX8 29 "HotPipesModel" "legUnits" "[I", Cond.methodLink RX8 95 yX8_in, Cond.static yX8_in, Cond.initialized RX8, Cond.code yX8_in cX8_in 3 (some .boolean), Cond.methodLink RX8 132 yX8_isStep, Cond.static yX8_isStep, Cond.code yX8_isStep cX8_isStep 1 (some .boolean), Cond.methodLink RX8 160 yX8_loopFor, Cond.instanceMethod yX8_loopFor, Cond.selects RX8 yX8_loopFor yX8_loopFor, Cond.code yX8_loopFor cX8_loopFor 6 (some .int), Cond.methodLink RX8 148 yX8_room, Cond.instanceMethod yX8_room, Cond.selects RX8 yX8_room yX8_room, Cond.code yX8_room cX8_room 6 (some .int), Cond.fieldLink RX8 41 "HotPipesModel" "xs" "[I", Cond.fieldLink RX8 113 "HotPipesModel" "units" "I", Cond.fieldLink RX8 44 "HotPipesModel" "ys" "[I", Cond.fieldLink RX8 47 "HotPipesModel" "zs" "[I", Cond.methodLink RX8 140 yX8_squares, Cond.static yX8_squares]
def wsX8_loop_r2 : List Cond := [Cond.code yX8_squares cX8_squares 6 (some .long), Cond.methodLink RX8 144 yX8_root, Cond.static yX8_root, Cond.code yX8_root cX8_root 6 (some .int), Cond.constant RX8 139 (65536), Cond.methodLink RX8 135 yX8_grownTo, Cond.instanceMethod yX8_grownTo, Cond.selects RX8 yX8_grownTo yX8_grownTo, Cond.code yX8_grownTo cX8_grownTo 6 (some .int), Cond.fieldLink RX8 35 "HotPipesModel" "unitWay" "[I", Cond.fieldLink RX8 38 "HotPipesModel" "unitStuff" "[I", Cond.methodLink RX8 119 yX8_signOf, Cond.static yX8_signOf, Cond.code yX8_signOf cX8_signOf 1 (some .int), Cond.methodLink RX8 129 yX8_growth, Cond.instanceMethod yX8_growth, Cond.selects RX8 yX8_growth yX8_growth, Cond.code yX8_growth cX8_growth 3 (some .int), Cond.fieldLink RX8 13 "HotPipesModel" "sizes" "[I", Cond.fieldLink RX8 19 "HotPipesModel" "growths" "[B", Cond.methodLink RX8 157 yX8_isFree, Cond.instanceMethod yX8_isFree, Cond.selects RX8 yX8_isFree yX8_isFree, Cond.code yX8_isFree cX8_isFree 8 (some .boolean)]
def wsX8_loop_r3 : List Cond := [Cond.methodLink RX8 154 yX8_isTaken, Cond.instanceMethod yX8_isTaken, Cond.selects RX8 yX8_isTaken yX8_isTaken, Cond.code yX8_isTaken cX8_isTaken 5 (some .boolean), Cond.methodLink RX8 151 yX8_isOnRun, Cond.instanceMethod yX8_isOnRun, Cond.selects RX8 yX8_isOnRun yX8_isOnRun, Cond.code yX8_isOnRun cX8_isOnRun 6 (some .boolean)]
def wsX8_loop : List Cond := .code yX8_loop cX8_loop 5 (some .int) :: ((wsX8_loop_r1 ++ (wsX8_loop_r2 ++ wsX8_loop_r3)) ++ wsX80)
def wsX8_bestLoop_r1 : List Cond := [Cond.fieldLink RX8 116 "HotPipesModel" "legs" "I", Cond.fieldLink RX8 26 "HotPipesModel" "legWay" "[I", Cond.fieldLink RX8 29 "HotPipesModel" "legUnits" "[I", Cond.methodLink RX8 132 yX8_isStep, Cond.static yX8_isStep, Cond.initialized RX8, Cond.code yX8_isStep cX8_isStep 1 (some .boolean), Cond.methodLink RX8 95 yX8_in, Cond.static yX8_in, Cond.code yX8_in cX8_in 3 (some .boolean), Cond.methodLink RX8 160 yX8_loopFor, Cond.instanceMethod yX8_loopFor, Cond.selects RX8 yX8_loopFor yX8_loopFor, Cond.code yX8_loopFor cX8_loopFor 6 (some .int), Cond.methodLink RX8 148 yX8_room, Cond.instanceMethod yX8_room, Cond.selects RX8 yX8_room yX8_room, Cond.code yX8_room cX8_room 6 (some .int), Cond.fieldLink RX8 41 "HotPipesModel" "xs" "[I", Cond.fieldLink RX8 113 "HotPipesModel" "units" "I", Cond.fieldLink RX8 44 "HotPipesModel" "ys" "[I", Cond.fieldLink RX8 47 "HotPipesModel" "zs" "[I", Cond.methodLink RX8 140 yX8_squares, Cond.static yX8_squares]
def wsX8_bestLoop_r2 : List Cond := [Cond.code yX8_squares cX8_squares 6 (some .long), Cond.methodLink RX8 144 yX8_root, Cond.static yX8_root, Cond.code yX8_root cX8_root 6 (some .int), Cond.constant RX8 139 (65536), Cond.methodLink RX8 135 yX8_grownTo, Cond.instanceMethod yX8_grownTo, Cond.selects RX8 yX8_grownTo yX8_grownTo, Cond.code yX8_grownTo cX8_grownTo 6 (some .int), Cond.fieldLink RX8 35 "HotPipesModel" "unitWay" "[I", Cond.fieldLink RX8 38 "HotPipesModel" "unitStuff" "[I", Cond.methodLink RX8 119 yX8_signOf, Cond.static yX8_signOf, Cond.code yX8_signOf cX8_signOf 1 (some .int), Cond.methodLink RX8 129 yX8_growth, Cond.instanceMethod yX8_growth, Cond.selects RX8 yX8_growth yX8_growth, Cond.code yX8_growth cX8_growth 3 (some .int), Cond.fieldLink RX8 13 "HotPipesModel" "sizes" "[I", Cond.fieldLink RX8 19 "HotPipesModel" "growths" "[B", Cond.methodLink RX8 157 yX8_isFree, Cond.instanceMethod yX8_isFree, Cond.selects RX8 yX8_isFree yX8_isFree, Cond.code yX8_isFree cX8_isFree 8 (some .boolean)]
def wsX8_bestLoop_r3 : List Cond := [Cond.methodLink RX8 154 yX8_isTaken, Cond.instanceMethod yX8_isTaken, Cond.selects RX8 yX8_isTaken yX8_isTaken, Cond.code yX8_isTaken cX8_isTaken 5 (some .boolean), Cond.methodLink RX8 151 yX8_isOnRun, Cond.instanceMethod yX8_isOnRun, Cond.selects RX8 yX8_isOnRun yX8_isOnRun, Cond.code yX8_isOnRun cX8_isOnRun 6 (some .boolean), Cond.methodLink RX8 125 yX8_tells, Cond.instanceMethod yX8_tells, Cond.selects RX8 yX8_tells yX8_tells, Cond.code yX8_tells cX8_tells 3 (some .int), Cond.fieldLink RX8 99 "HotPipesModel" "asked" "I"]
def wsX8_bestLoop : List Cond := .code yX8_bestLoop cX8_bestLoop 9 (some .int) :: ((wsX8_bestLoop_r1 ++ (wsX8_bestLoop_r2 ++ wsX8_bestLoop_r3)) ++ wsX80)
def wsX8_rest : List Cond := .code yX8_rest cX8_rest 6 (some .int) :: ([.fieldLink RX8 113 "HotPipesModel" "units" "I", .fieldLink RX8 164 "HotPipesModel" "rests" "I", .fieldLink RX8 62 "HotPipesModel" "isGone" "[Z", .fieldLink RX8 53 "HotPipesModel" "placeOf" "[I", .fieldLink RX8 50 "HotPipesModel" "kindOf" "[I", .fieldLink RX8 56 "HotPipesModel" "rateOf" "[I", .fieldLink RX8 59 "HotPipesModel" "readOf" "[I", .methodLink RX8 95 yX8_in, .static yX8_in, .initialized RX8, .code yX8_in cX8_in 3 (some .boolean)] ++ wsX80)
def wsX8_need : List Cond := .code yX8_need cX8_need 3 (some .int) :: ([.fieldLink RX8 164 "HotPipesModel" "rests" "I", .fieldLink RX8 62 "HotPipesModel" "isGone" "[Z", .methodLink RX8 95 yX8_in, .static yX8_in, .initialized RX8, .code yX8_in cX8_in 3 (some .boolean), .methodLink RX8 109 yX8_meets, .instanceMethod yX8_meets, .selects RX8 yX8_meets yX8_meets, .code yX8_meets cX8_meets 2 (some .int), .fieldLink RX8 91 "HotPipesModel" "latest" "I", .fieldLink RX8 7 "HotPipesModel" "came" "[I"] ++ wsX80)
def wsX8_drop : List Cond := .code yX8_drop cX8_drop 3 (some .int) :: ([.fieldLink RX8 62 "HotPipesModel" "isGone" "[Z", .methodLink RX8 167 yX8_need, .instanceMethod yX8_need, .selects RX8 yX8_need yX8_need, .initialized RX8, .code yX8_need cX8_need 3 (some .int), .fieldLink RX8 164 "HotPipesModel" "rests" "I", .methodLink RX8 95 yX8_in, .static yX8_in, .code yX8_in cX8_in 3 (some .boolean), .methodLink RX8 109 yX8_meets, .instanceMethod yX8_meets, .selects RX8 yX8_meets yX8_meets, .code yX8_meets cX8_meets 2 (some .int), .fieldLink RX8 91 "HotPipesModel" "latest" "I", .fieldLink RX8 7 "HotPipesModel" "came" "[I"] ++ wsX80)
def wsX8_isThere : List Cond := .code yX8_isThere cX8_isThere 2 (some .boolean) :: ([.fieldLink RX8 62 "HotPipesModel" "isGone" "[Z", .fieldLink RX8 53 "HotPipesModel" "placeOf" "[I", .fieldLink RX8 113 "HotPipesModel" "units" "I"] ++ wsX80)
def wsX8_toldOf : List Cond := .code yX8_toldOf cX8_toldOf 3 (some .int) :: ([.fieldLink RX8 50 "HotPipesModel" "kindOf" "[I", .fieldLink RX8 53 "HotPipesModel" "placeOf" "[I", .fieldLink RX8 56 "HotPipesModel" "rateOf" "[I", .methodLink RX8 171 yX8_isThere, .instanceMethod yX8_isThere, .selects RX8 yX8_isThere yX8_isThere, .initialized RX8, .code yX8_isThere cX8_isThere 2 (some .boolean), .fieldLink RX8 62 "HotPipesModel" "isGone" "[Z", .fieldLink RX8 113 "HotPipesModel" "units" "I"] ++ wsX80)
def wsX8_told_r1 : List Cond := [Cond.methodLink RX8 95 yX8_in, Cond.static yX8_in, Cond.initialized RX8, Cond.code yX8_in cX8_in 3 (some .boolean), Cond.methodLink RX8 167 yX8_need, Cond.instanceMethod yX8_need, Cond.selects RX8 yX8_need yX8_need, Cond.code yX8_need cX8_need 3 (some .int), Cond.fieldLink RX8 164 "HotPipesModel" "rests" "I", Cond.fieldLink RX8 62 "HotPipesModel" "isGone" "[Z", Cond.methodLink RX8 109 yX8_meets, Cond.instanceMethod yX8_meets, Cond.selects RX8 yX8_meets yX8_meets, Cond.code yX8_meets cX8_meets 2 (some .int), Cond.fieldLink RX8 91 "HotPipesModel" "latest" "I", Cond.fieldLink RX8 7 "HotPipesModel" "came" "[I", Cond.methodLink RX8 174 yX8_toldOf, Cond.instanceMethod yX8_toldOf, Cond.selects RX8 yX8_toldOf yX8_toldOf, Cond.code yX8_toldOf cX8_toldOf 3 (some .int), Cond.fieldLink RX8 50 "HotPipesModel" "kindOf" "[I", Cond.fieldLink RX8 53 "HotPipesModel" "placeOf" "[I", Cond.fieldLink RX8 56 "HotPipesModel" "rateOf" "[I", Cond.methodLink RX8 171 yX8_isThere]
def wsX8_told_r2 : List Cond := [Cond.instanceMethod yX8_isThere, Cond.selects RX8 yX8_isThere yX8_isThere, Cond.code yX8_isThere cX8_isThere 2 (some .boolean), Cond.fieldLink RX8 113 "HotPipesModel" "units" "I"]
def wsX8_told : List Cond := .code yX8_told cX8_told 4 (some .int) :: ((wsX8_told_r1 ++ wsX8_told_r2) ++ wsX80)
def wsX8_is : List Cond := .code yX8_is cX8_is 4 (some .int) :: ([.fieldLink RX8 50 "HotPipesModel" "kindOf" "[I", .methodLink RX8 95 yX8_in, .static yX8_in, .initialized RX8, .code yX8_in cX8_in 3 (some .boolean), .methodLink RX8 167 yX8_need, .instanceMethod yX8_need, .selects RX8 yX8_need yX8_need, .code yX8_need cX8_need 3 (some .int), .fieldLink RX8 164 "HotPipesModel" "rests" "I", .fieldLink RX8 62 "HotPipesModel" "isGone" "[Z", .methodLink RX8 109 yX8_meets, .instanceMethod yX8_meets, .selects RX8 yX8_meets yX8_meets, .code yX8_meets cX8_meets 2 (some .int), .fieldLink RX8 91 "HotPipesModel" "latest" "I", .fieldLink RX8 7 "HotPipesModel" "came" "[I"] ++ wsX80)
def wsX8_isLifted : List Cond := .code yX8_isLifted cX8_isLifted 3 (some .boolean) :: ([.fieldLink RX8 50 "HotPipesModel" "kindOf" "[I", .fieldLink RX8 53 "HotPipesModel" "placeOf" "[I", .methodLink RX8 171 yX8_isThere, .instanceMethod yX8_isThere, .selects RX8 yX8_isThere yX8_isThere, .initialized RX8, .code yX8_isThere cX8_isThere 2 (some .boolean), .fieldLink RX8 62 "HotPipesModel" "isGone" "[Z", .fieldLink RX8 113 "HotPipesModel" "units" "I", .methodLink RX8 135 yX8_grownTo, .instanceMethod yX8_grownTo, .selects RX8 yX8_grownTo yX8_grownTo, .code yX8_grownTo cX8_grownTo 6 (some .int), .fieldLink RX8 35 "HotPipesModel" "unitWay" "[I", .fieldLink RX8 38 "HotPipesModel" "unitStuff" "[I", .methodLink RX8 119 yX8_signOf, .static yX8_signOf, .code yX8_signOf cX8_signOf 1 (some .int), .methodLink RX8 129 yX8_growth, .instanceMethod yX8_growth, .selects RX8 yX8_growth yX8_growth, .code yX8_growth cX8_growth 3 (some .int), .fieldLink RX8 13 "HotPipesModel" "sizes" "[I", .fieldLink RX8 19 "HotPipesModel" "growths" "[B"] ++ wsX80)
def wsX8_lifts_r1 : List Cond := [Cond.methodLink RX8 132 yX8_isStep, Cond.static yX8_isStep, Cond.initialized RX8, Cond.code yX8_isStep cX8_isStep 1 (some .boolean), Cond.methodLink RX8 95 yX8_in, Cond.static yX8_in, Cond.code yX8_in cX8_in 3 (some .boolean), Cond.methodLink RX8 167 yX8_need, Cond.instanceMethod yX8_need, Cond.selects RX8 yX8_need yX8_need, Cond.code yX8_need cX8_need 3 (some .int), Cond.fieldLink RX8 164 "HotPipesModel" "rests" "I", Cond.fieldLink RX8 62 "HotPipesModel" "isGone" "[Z", Cond.methodLink RX8 109 yX8_meets, Cond.instanceMethod yX8_meets, Cond.selects RX8 yX8_meets yX8_meets, Cond.code yX8_meets cX8_meets 2 (some .int), Cond.fieldLink RX8 91 "HotPipesModel" "latest" "I", Cond.fieldLink RX8 7 "HotPipesModel" "came" "[I", Cond.methodLink RX8 177 yX8_isLifted, Cond.instanceMethod yX8_isLifted, Cond.selects RX8 yX8_isLifted yX8_isLifted, Cond.code yX8_isLifted cX8_isLifted 3 (some .boolean), Cond.fieldLink RX8 50 "HotPipesModel" "kindOf" "[I"]
def wsX8_lifts_r2 : List Cond := [Cond.fieldLink RX8 53 "HotPipesModel" "placeOf" "[I", Cond.methodLink RX8 171 yX8_isThere, Cond.instanceMethod yX8_isThere, Cond.selects RX8 yX8_isThere yX8_isThere, Cond.code yX8_isThere cX8_isThere 2 (some .boolean), Cond.fieldLink RX8 113 "HotPipesModel" "units" "I", Cond.methodLink RX8 135 yX8_grownTo, Cond.instanceMethod yX8_grownTo, Cond.selects RX8 yX8_grownTo yX8_grownTo, Cond.code yX8_grownTo cX8_grownTo 6 (some .int), Cond.fieldLink RX8 35 "HotPipesModel" "unitWay" "[I", Cond.fieldLink RX8 38 "HotPipesModel" "unitStuff" "[I", Cond.methodLink RX8 119 yX8_signOf, Cond.static yX8_signOf, Cond.code yX8_signOf cX8_signOf 1 (some .int), Cond.methodLink RX8 129 yX8_growth, Cond.instanceMethod yX8_growth, Cond.selects RX8 yX8_growth yX8_growth, Cond.code yX8_growth cX8_growth 3 (some .int), Cond.fieldLink RX8 13 "HotPipesModel" "sizes" "[I", Cond.fieldLink RX8 19 "HotPipesModel" "growths" "[B"]
def wsX8_lifts : List Cond := .code yX8_lifts cX8_lifts 4 (some .int) :: ((wsX8_lifts_r1 ++ wsX8_lifts_r2) ++ wsX80)
def wsX8_isBearing_r1 : List Cond := [Cond.fieldLink RX8 50 "HotPipesModel" "kindOf" "[I", Cond.methodLink RX8 171 yX8_isThere, Cond.instanceMethod yX8_isThere, Cond.selects RX8 yX8_isThere yX8_isThere, Cond.initialized RX8, Cond.code yX8_isThere cX8_isThere 2 (some .boolean), Cond.fieldLink RX8 62 "HotPipesModel" "isGone" "[Z", Cond.fieldLink RX8 53 "HotPipesModel" "placeOf" "[I", Cond.fieldLink RX8 113 "HotPipesModel" "units" "I", Cond.methodLink RX8 177 yX8_isLifted, Cond.instanceMethod yX8_isLifted, Cond.selects RX8 yX8_isLifted yX8_isLifted, Cond.code yX8_isLifted cX8_isLifted 3 (some .boolean), Cond.methodLink RX8 135 yX8_grownTo, Cond.instanceMethod yX8_grownTo, Cond.selects RX8 yX8_grownTo yX8_grownTo, Cond.code yX8_grownTo cX8_grownTo 6 (some .int), Cond.fieldLink RX8 35 "HotPipesModel" "unitWay" "[I", Cond.fieldLink RX8 38 "HotPipesModel" "unitStuff" "[I", Cond.methodLink RX8 119 yX8_signOf, Cond.static yX8_signOf, Cond.code yX8_signOf cX8_signOf 1 (some .int), Cond.methodLink RX8 129 yX8_growth, Cond.instanceMethod yX8_growth]
def wsX8_isBearing_r2 : List Cond := [Cond.selects RX8 yX8_growth yX8_growth, Cond.code yX8_growth cX8_growth 3 (some .int), Cond.fieldLink RX8 13 "HotPipesModel" "sizes" "[I", Cond.fieldLink RX8 19 "HotPipesModel" "growths" "[B"]
def wsX8_isBearing : List Cond := .code yX8_isBearing cX8_isBearing 3 (some .boolean) :: ((wsX8_isBearing_r1 ++ wsX8_isBearing_r2) ++ wsX80)
def wsX8_twice_r1 : List Cond := [Cond.fieldLink RX8 113 "HotPipesModel" "units" "I", Cond.fieldLink RX8 164 "HotPipesModel" "rests" "I", Cond.fieldLink RX8 53 "HotPipesModel" "placeOf" "[I", Cond.fieldLink RX8 16 "HotPipesModel" "weights" "[I", Cond.fieldLink RX8 38 "HotPipesModel" "unitStuff" "[I", Cond.methodLink RX8 181 yX8_isBearing, Cond.instanceMethod yX8_isBearing, Cond.selects RX8 yX8_isBearing yX8_isBearing, Cond.initialized RX8, Cond.code yX8_isBearing cX8_isBearing 3 (some .boolean), Cond.fieldLink RX8 50 "HotPipesModel" "kindOf" "[I", Cond.methodLink RX8 171 yX8_isThere, Cond.instanceMethod yX8_isThere, Cond.selects RX8 yX8_isThere yX8_isThere, Cond.code yX8_isThere cX8_isThere 2 (some .boolean), Cond.fieldLink RX8 62 "HotPipesModel" "isGone" "[Z", Cond.methodLink RX8 177 yX8_isLifted, Cond.instanceMethod yX8_isLifted, Cond.selects RX8 yX8_isLifted yX8_isLifted, Cond.code yX8_isLifted cX8_isLifted 3 (some .boolean), Cond.methodLink RX8 135 yX8_grownTo, Cond.instanceMethod yX8_grownTo, Cond.selects RX8 yX8_grownTo yX8_grownTo, Cond.code yX8_grownTo cX8_grownTo 6 (some .int)]
def wsX8_twice_r2 : List Cond := [Cond.fieldLink RX8 35 "HotPipesModel" "unitWay" "[I", Cond.methodLink RX8 119 yX8_signOf, Cond.static yX8_signOf, Cond.code yX8_signOf cX8_signOf 1 (some .int), Cond.methodLink RX8 129 yX8_growth, Cond.instanceMethod yX8_growth, Cond.selects RX8 yX8_growth yX8_growth, Cond.code yX8_growth cX8_growth 3 (some .int), Cond.fieldLink RX8 13 "HotPipesModel" "sizes" "[I", Cond.fieldLink RX8 19 "HotPipesModel" "growths" "[B"]
def wsX8_twice : List Cond := .code yX8_twice cX8_twice 8 (some .int) :: ((wsX8_twice_r1 ++ wsX8_twice_r2) ++ wsX80)
def wsX8_load_r1 : List Cond := [Cond.constantLong RX8 187 (2), Cond.methodLink RX8 132 yX8_isStep, Cond.static yX8_isStep, Cond.initialized RX8, Cond.code yX8_isStep cX8_isStep 1 (some .boolean), Cond.methodLink RX8 95 yX8_in, Cond.static yX8_in, Cond.code yX8_in cX8_in 3 (some .boolean), Cond.methodLink RX8 167 yX8_need, Cond.instanceMethod yX8_need, Cond.selects RX8 yX8_need yX8_need, Cond.code yX8_need cX8_need 3 (some .int), Cond.fieldLink RX8 164 "HotPipesModel" "rests" "I", Cond.fieldLink RX8 62 "HotPipesModel" "isGone" "[Z", Cond.methodLink RX8 109 yX8_meets, Cond.instanceMethod yX8_meets, Cond.selects RX8 yX8_meets yX8_meets, Cond.code yX8_meets cX8_meets 2 (some .int), Cond.fieldLink RX8 91 "HotPipesModel" "latest" "I", Cond.fieldLink RX8 7 "HotPipesModel" "came" "[I", Cond.methodLink RX8 184 yX8_twice, Cond.instanceMethod yX8_twice, Cond.selects RX8 yX8_twice yX8_twice, Cond.code yX8_twice cX8_twice 8 (some .int)]
def wsX8_load_r2 : List Cond := [Cond.fieldLink RX8 113 "HotPipesModel" "units" "I", Cond.fieldLink RX8 53 "HotPipesModel" "placeOf" "[I", Cond.fieldLink RX8 16 "HotPipesModel" "weights" "[I", Cond.fieldLink RX8 38 "HotPipesModel" "unitStuff" "[I", Cond.methodLink RX8 181 yX8_isBearing, Cond.instanceMethod yX8_isBearing, Cond.selects RX8 yX8_isBearing yX8_isBearing, Cond.code yX8_isBearing cX8_isBearing 3 (some .boolean), Cond.fieldLink RX8 50 "HotPipesModel" "kindOf" "[I", Cond.methodLink RX8 171 yX8_isThere, Cond.instanceMethod yX8_isThere, Cond.selects RX8 yX8_isThere yX8_isThere, Cond.code yX8_isThere cX8_isThere 2 (some .boolean), Cond.methodLink RX8 177 yX8_isLifted, Cond.instanceMethod yX8_isLifted, Cond.selects RX8 yX8_isLifted yX8_isLifted, Cond.code yX8_isLifted cX8_isLifted 3 (some .boolean), Cond.methodLink RX8 135 yX8_grownTo, Cond.instanceMethod yX8_grownTo, Cond.selects RX8 yX8_grownTo yX8_grownTo, Cond.code yX8_grownTo cX8_grownTo 6 (some .int), Cond.fieldLink RX8 35 "HotPipesModel" "unitWay" "[I", Cond.methodLink RX8 119 yX8_signOf, Cond.static yX8_signOf]
def wsX8_load_r3 : List Cond := [Cond.code yX8_signOf cX8_signOf 1 (some .int), Cond.methodLink RX8 129 yX8_growth, Cond.instanceMethod yX8_growth, Cond.selects RX8 yX8_growth yX8_growth, Cond.code yX8_growth cX8_growth 3 (some .int), Cond.fieldLink RX8 13 "HotPipesModel" "sizes" "[I", Cond.fieldLink RX8 19 "HotPipesModel" "growths" "[B", Cond.methodLink RX8 189 yX8_fraction, Cond.instanceMethod yX8_fraction, Cond.selects RX8 yX8_fraction yX8_fraction, Cond.code yX8_fraction cX8_fraction 12 (some .int), Cond.fieldLink RX8 102 "HotPipesModel" "upper" "J", Cond.fieldLink RX8 87 "HotPipesModel" "lower" "J"]
def wsX8_load : List Cond := .code yX8_load cX8_load 4 (some .int) :: ((wsX8_load_r1 ++ (wsX8_load_r2 ++ wsX8_load_r3)) ++ wsX80)
def wsX8_needSpring : List Cond := .code yX8_needSpring cX8_needSpring 4 (some .int) :: ([.fieldLink RX8 50 "HotPipesModel" "kindOf" "[I", .methodLink RX8 132 yX8_isStep, .static yX8_isStep, .initialized RX8, .code yX8_isStep cX8_isStep 1 (some .boolean), .methodLink RX8 95 yX8_in, .static yX8_in, .code yX8_in cX8_in 3 (some .boolean), .methodLink RX8 167 yX8_need, .instanceMethod yX8_need, .selects RX8 yX8_need yX8_need, .code yX8_need cX8_need 3 (some .int), .fieldLink RX8 164 "HotPipesModel" "rests" "I", .fieldLink RX8 62 "HotPipesModel" "isGone" "[Z", .methodLink RX8 109 yX8_meets, .instanceMethod yX8_meets, .selects RX8 yX8_meets yX8_meets, .code yX8_meets cX8_meets 2 (some .int), .fieldLink RX8 91 "HotPipesModel" "latest" "I", .fieldLink RX8 7 "HotPipesModel" "came" "[I"] ++ wsX80)
def wsX8_movedOf : List Cond := .code yX8_movedOf cX8_movedOf 4 (some .long) :: ([.fieldLink RX8 53 "HotPipesModel" "placeOf" "[I", .methodLink RX8 135 yX8_grownTo, .instanceMethod yX8_grownTo, .selects RX8 yX8_grownTo yX8_grownTo, .initialized RX8, .code yX8_grownTo cX8_grownTo 6 (some .int), .fieldLink RX8 113 "HotPipesModel" "units" "I", .fieldLink RX8 35 "HotPipesModel" "unitWay" "[I", .fieldLink RX8 38 "HotPipesModel" "unitStuff" "[I", .methodLink RX8 119 yX8_signOf, .static yX8_signOf, .code yX8_signOf cX8_signOf 1 (some .int), .methodLink RX8 129 yX8_growth, .instanceMethod yX8_growth, .selects RX8 yX8_growth yX8_growth, .code yX8_growth cX8_growth 3 (some .int), .fieldLink RX8 13 "HotPipesModel" "sizes" "[I", .fieldLink RX8 19 "HotPipesModel" "growths" "[B"] ++ wsX80)
def wsX8_change_r1 : List Cond := [Cond.fieldLink RX8 56 "HotPipesModel" "rateOf" "[I", Cond.constantLong RX8 200 (1000), Cond.methodLink RX8 193 yX8_needSpring, Cond.instanceMethod yX8_needSpring, Cond.selects RX8 yX8_needSpring yX8_needSpring, Cond.initialized RX8, Cond.code yX8_needSpring cX8_needSpring 4 (some .int), Cond.fieldLink RX8 50 "HotPipesModel" "kindOf" "[I", Cond.methodLink RX8 132 yX8_isStep, Cond.static yX8_isStep, Cond.code yX8_isStep cX8_isStep 1 (some .boolean), Cond.methodLink RX8 95 yX8_in, Cond.static yX8_in, Cond.code yX8_in cX8_in 3 (some .boolean), Cond.methodLink RX8 167 yX8_need, Cond.instanceMethod yX8_need, Cond.selects RX8 yX8_need yX8_need, Cond.code yX8_need cX8_need 3 (some .int), Cond.fieldLink RX8 164 "HotPipesModel" "rests" "I", Cond.fieldLink RX8 62 "HotPipesModel" "isGone" "[Z", Cond.methodLink RX8 109 yX8_meets, Cond.instanceMethod yX8_meets, Cond.selects RX8 yX8_meets yX8_meets, Cond.code yX8_meets cX8_meets 2 (some .int)]
def wsX8_change_r2 : List Cond := [Cond.fieldLink RX8 91 "HotPipesModel" "latest" "I", Cond.fieldLink RX8 7 "HotPipesModel" "came" "[I", Cond.methodLink RX8 196 yX8_movedOf, Cond.instanceMethod yX8_movedOf, Cond.selects RX8 yX8_movedOf yX8_movedOf, Cond.code yX8_movedOf cX8_movedOf 4 (some .long), Cond.fieldLink RX8 53 "HotPipesModel" "placeOf" "[I", Cond.methodLink RX8 135 yX8_grownTo, Cond.instanceMethod yX8_grownTo, Cond.selects RX8 yX8_grownTo yX8_grownTo, Cond.code yX8_grownTo cX8_grownTo 6 (some .int), Cond.fieldLink RX8 113 "HotPipesModel" "units" "I", Cond.fieldLink RX8 35 "HotPipesModel" "unitWay" "[I", Cond.fieldLink RX8 38 "HotPipesModel" "unitStuff" "[I", Cond.methodLink RX8 119 yX8_signOf, Cond.static yX8_signOf, Cond.code yX8_signOf cX8_signOf 1 (some .int), Cond.methodLink RX8 129 yX8_growth, Cond.instanceMethod yX8_growth, Cond.selects RX8 yX8_growth yX8_growth, Cond.code yX8_growth cX8_growth 3 (some .int), Cond.fieldLink RX8 13 "HotPipesModel" "sizes" "[I", Cond.fieldLink RX8 19 "HotPipesModel" "growths" "[B", Cond.methodLink RX8 189 yX8_fraction]
def wsX8_change_r3 : List Cond := [Cond.instanceMethod yX8_fraction, Cond.selects RX8 yX8_fraction yX8_fraction, Cond.code yX8_fraction cX8_fraction 12 (some .int), Cond.fieldLink RX8 102 "HotPipesModel" "upper" "J", Cond.fieldLink RX8 87 "HotPipesModel" "lower" "J"]
def wsX8_change : List Cond := .code yX8_change cX8_change 4 (some .int) :: ((wsX8_change_r1 ++ (wsX8_change_r2 ++ wsX8_change_r3)) ++ wsX80)
def wsX8_firm_r1 : List Cond := [Cond.constantLong RX8 187 (2), Cond.fieldLink RX8 56 "HotPipesModel" "rateOf" "[I", Cond.constantLong RX8 200 (1000), Cond.methodLink RX8 193 yX8_needSpring, Cond.instanceMethod yX8_needSpring, Cond.selects RX8 yX8_needSpring yX8_needSpring, Cond.initialized RX8, Cond.code yX8_needSpring cX8_needSpring 4 (some .int), Cond.fieldLink RX8 50 "HotPipesModel" "kindOf" "[I", Cond.methodLink RX8 132 yX8_isStep, Cond.static yX8_isStep, Cond.code yX8_isStep cX8_isStep 1 (some .boolean), Cond.methodLink RX8 95 yX8_in, Cond.static yX8_in, Cond.code yX8_in cX8_in 3 (some .boolean), Cond.methodLink RX8 167 yX8_need, Cond.instanceMethod yX8_need, Cond.selects RX8 yX8_need yX8_need, Cond.code yX8_need cX8_need 3 (some .int), Cond.fieldLink RX8 164 "HotPipesModel" "rests" "I", Cond.fieldLink RX8 62 "HotPipesModel" "isGone" "[Z", Cond.methodLink RX8 109 yX8_meets, Cond.instanceMethod yX8_meets, Cond.selects RX8 yX8_meets yX8_meets]
def wsX8_firm_r2 : List Cond := [Cond.code yX8_meets cX8_meets 2 (some .int), Cond.fieldLink RX8 91 "HotPipesModel" "latest" "I", Cond.fieldLink RX8 7 "HotPipesModel" "came" "[I", Cond.methodLink RX8 184 yX8_twice, Cond.instanceMethod yX8_twice, Cond.selects RX8 yX8_twice yX8_twice, Cond.code yX8_twice cX8_twice 8 (some .int), Cond.fieldLink RX8 113 "HotPipesModel" "units" "I", Cond.fieldLink RX8 53 "HotPipesModel" "placeOf" "[I", Cond.fieldLink RX8 16 "HotPipesModel" "weights" "[I", Cond.fieldLink RX8 38 "HotPipesModel" "unitStuff" "[I", Cond.methodLink RX8 181 yX8_isBearing, Cond.instanceMethod yX8_isBearing, Cond.selects RX8 yX8_isBearing yX8_isBearing, Cond.code yX8_isBearing cX8_isBearing 3 (some .boolean), Cond.methodLink RX8 171 yX8_isThere, Cond.instanceMethod yX8_isThere, Cond.selects RX8 yX8_isThere yX8_isThere, Cond.code yX8_isThere cX8_isThere 2 (some .boolean), Cond.methodLink RX8 177 yX8_isLifted, Cond.instanceMethod yX8_isLifted, Cond.selects RX8 yX8_isLifted yX8_isLifted, Cond.code yX8_isLifted cX8_isLifted 3 (some .boolean), Cond.methodLink RX8 135 yX8_grownTo]
def wsX8_firm_r3 : List Cond := [Cond.instanceMethod yX8_grownTo, Cond.selects RX8 yX8_grownTo yX8_grownTo, Cond.code yX8_grownTo cX8_grownTo 6 (some .int), Cond.fieldLink RX8 35 "HotPipesModel" "unitWay" "[I", Cond.methodLink RX8 119 yX8_signOf, Cond.static yX8_signOf, Cond.code yX8_signOf cX8_signOf 1 (some .int), Cond.methodLink RX8 129 yX8_growth, Cond.instanceMethod yX8_growth, Cond.selects RX8 yX8_growth yX8_growth, Cond.code yX8_growth cX8_growth 3 (some .int), Cond.fieldLink RX8 13 "HotPipesModel" "sizes" "[I", Cond.fieldLink RX8 19 "HotPipesModel" "growths" "[B", Cond.methodLink RX8 196 yX8_movedOf, Cond.instanceMethod yX8_movedOf, Cond.selects RX8 yX8_movedOf yX8_movedOf, Cond.code yX8_movedOf cX8_movedOf 4 (some .long), Cond.methodLink RX8 189 yX8_fraction, Cond.instanceMethod yX8_fraction, Cond.selects RX8 yX8_fraction yX8_fraction, Cond.code yX8_fraction cX8_fraction 12 (some .int), Cond.fieldLink RX8 102 "HotPipesModel" "upper" "J", Cond.fieldLink RX8 87 "HotPipesModel" "lower" "J"]
def wsX8_firm : List Cond := .code yX8_firm cX8_firm 5 (some .int) :: ((wsX8_firm_r1 ++ (wsX8_firm_r2 ++ wsX8_firm_r3)) ++ wsX80)
def wsX8_list : List Cond := .code yX8_list cX8_list 2 (some .int) :: ([.fieldLink RX8 202 "HotPipesModel" "rates" "I", .fieldLink RX8 66 "HotPipesModel" "theList" "[I", .methodLink RX8 95 yX8_in, .static yX8_in, .initialized RX8, .code yX8_in cX8_in 3 (some .boolean)] ++ wsX80)
def wsX8_choose_r1 : List Cond := [Cond.fieldLink RX8 202 "HotPipesModel" "rates" "I", Cond.constantLong RX8 205 (8), Cond.fieldLink RX8 66 "HotPipesModel" "theList" "[I", Cond.constantLong RX8 200 (1000), Cond.fieldLink RX8 56 "HotPipesModel" "rateOf" "[I", Cond.methodLink RX8 193 yX8_needSpring, Cond.instanceMethod yX8_needSpring, Cond.selects RX8 yX8_needSpring yX8_needSpring, Cond.initialized RX8, Cond.code yX8_needSpring cX8_needSpring 4 (some .int), Cond.fieldLink RX8 50 "HotPipesModel" "kindOf" "[I", Cond.methodLink RX8 132 yX8_isStep, Cond.static yX8_isStep, Cond.code yX8_isStep cX8_isStep 1 (some .boolean), Cond.methodLink RX8 95 yX8_in, Cond.static yX8_in, Cond.code yX8_in cX8_in 3 (some .boolean), Cond.methodLink RX8 167 yX8_need, Cond.instanceMethod yX8_need, Cond.selects RX8 yX8_need yX8_need, Cond.code yX8_need cX8_need 3 (some .int), Cond.fieldLink RX8 164 "HotPipesModel" "rests" "I", Cond.fieldLink RX8 62 "HotPipesModel" "isGone" "[Z", Cond.methodLink RX8 109 yX8_meets]
def wsX8_choose_r2 : List Cond := [Cond.instanceMethod yX8_meets, Cond.selects RX8 yX8_meets yX8_meets, Cond.code yX8_meets cX8_meets 2 (some .int), Cond.fieldLink RX8 91 "HotPipesModel" "latest" "I", Cond.fieldLink RX8 7 "HotPipesModel" "came" "[I", Cond.methodLink RX8 184 yX8_twice, Cond.instanceMethod yX8_twice, Cond.selects RX8 yX8_twice yX8_twice, Cond.code yX8_twice cX8_twice 8 (some .int), Cond.fieldLink RX8 113 "HotPipesModel" "units" "I", Cond.fieldLink RX8 53 "HotPipesModel" "placeOf" "[I", Cond.fieldLink RX8 16 "HotPipesModel" "weights" "[I", Cond.fieldLink RX8 38 "HotPipesModel" "unitStuff" "[I", Cond.methodLink RX8 181 yX8_isBearing, Cond.instanceMethod yX8_isBearing, Cond.selects RX8 yX8_isBearing yX8_isBearing, Cond.code yX8_isBearing cX8_isBearing 3 (some .boolean), Cond.methodLink RX8 171 yX8_isThere, Cond.instanceMethod yX8_isThere, Cond.selects RX8 yX8_isThere yX8_isThere, Cond.code yX8_isThere cX8_isThere 2 (some .boolean), Cond.methodLink RX8 177 yX8_isLifted, Cond.instanceMethod yX8_isLifted, Cond.selects RX8 yX8_isLifted yX8_isLifted]
def wsX8_choose_r3 : List Cond := [Cond.code yX8_isLifted cX8_isLifted 3 (some .boolean), Cond.methodLink RX8 135 yX8_grownTo, Cond.instanceMethod yX8_grownTo, Cond.selects RX8 yX8_grownTo yX8_grownTo, Cond.code yX8_grownTo cX8_grownTo 6 (some .int), Cond.fieldLink RX8 35 "HotPipesModel" "unitWay" "[I", Cond.methodLink RX8 119 yX8_signOf, Cond.static yX8_signOf, Cond.code yX8_signOf cX8_signOf 1 (some .int), Cond.methodLink RX8 129 yX8_growth, Cond.instanceMethod yX8_growth, Cond.selects RX8 yX8_growth yX8_growth, Cond.code yX8_growth cX8_growth 3 (some .int), Cond.fieldLink RX8 13 "HotPipesModel" "sizes" "[I", Cond.fieldLink RX8 19 "HotPipesModel" "growths" "[B", Cond.methodLink RX8 196 yX8_movedOf, Cond.instanceMethod yX8_movedOf, Cond.selects RX8 yX8_movedOf yX8_movedOf, Cond.code yX8_movedOf cX8_movedOf 4 (some .long)]
def wsX8_choose : List Cond := .code yX8_choose cX8_choose 8 (some .int) :: ((wsX8_choose_r1 ++ (wsX8_choose_r2 ++ wsX8_choose_r3)) ++ wsX80)
def wsX8_isCase : List Cond := .code yX8_isCase cX8_isCase 1 (some .boolean) :: ([.methodLink RX8 95 yX8_in, .static yX8_in, .initialized RX8, .code yX8_in cX8_in 3 (some .boolean)])
def wsX8_amount : List Cond := .code yX8_amount cX8_amount 5 (some .int) :: ([.fieldLink RX8 69 "HotPipesModel" "amounts" "[I", .fieldLink RX8 72 "HotPipesModel" "low" "[I", .fieldLink RX8 75 "HotPipesModel" "high" "[I", .methodLink RX8 207 yX8_isCase, .static yX8_isCase, .initialized RX8, .code yX8_isCase cX8_isCase 1 (some .boolean), .methodLink RX8 95 yX8_in, .static yX8_in, .code yX8_in cX8_in 3 (some .boolean)] ++ wsX80)
def wsX8_bar : List Cond := .code yX8_bar cX8_bar 5 (some .int) :: ([.fieldLink RX8 78 "HotPipesModel" "barred" "[I", .methodLink RX8 207 yX8_isCase, .static yX8_isCase, .initialized RX8, .code yX8_isCase cX8_isCase 1 (some .boolean), .methodLink RX8 95 yX8_in, .static yX8_in, .code yX8_in cX8_in 3 (some .boolean)] ++ wsX80)
def wsX8_mayJoin : List Cond := .code yX8_mayJoin cX8_mayJoin 4 (some .boolean) :: ([.fieldLink RX8 78 "HotPipesModel" "barred" "[I"] ++ wsX80)
def wsX8_joined : List Cond := .code yX8_joined cX8_joined 6 (some .int) :: ([.fieldLink RX8 69 "HotPipesModel" "amounts" "[I", .fieldLink RX8 72 "HotPipesModel" "low" "[I", .fieldLink RX8 75 "HotPipesModel" "high" "[I"] ++ wsX80)
def wsX8_worst : List Cond := .code yX8_worst cX8_worst 4 (some .int) :: ([.methodLink RX8 210 yX8_mayJoin, .instanceMethod yX8_mayJoin, .selects RX8 yX8_mayJoin yX8_mayJoin, .initialized RX8, .code yX8_mayJoin cX8_mayJoin 4 (some .boolean), .fieldLink RX8 78 "HotPipesModel" "barred" "[I", .methodLink RX8 213 yX8_joined, .instanceMethod yX8_joined, .selects RX8 yX8_joined yX8_joined, .code yX8_joined cX8_joined 6 (some .int), .fieldLink RX8 69 "HotPipesModel" "amounts" "[I", .fieldLink RX8 72 "HotPipesModel" "low" "[I", .fieldLink RX8 75 "HotPipesModel" "high" "[I", .methodLink RX8 125 yX8_tells, .instanceMethod yX8_tells, .selects RX8 yX8_tells yX8_tells, .code yX8_tells cX8_tells 3 (some .int), .fieldLink RX8 99 "HotPipesModel" "asked" "I"] ++ wsX80)
def wsX8_cycle : List Cond := .code yX8_cycle cX8_cycle 3 (some .int) :: ([.constant RX8 216 (100000), .fieldLink RX8 217 "HotPipesModel" "lines" "I", .fieldLink RX8 81 "HotPipesModel" "times" "[I", .fieldLink RX8 84 "HotPipesModel" "ranges" "[I", .methodLink RX8 95 yX8_in, .static yX8_in, .initialized RX8, .code yX8_in cX8_in 3 (some .boolean)] ++ wsX80)
def wsX8_used : List Cond := .code yX8_used cX8_used 4 (some .int) :: ([.fieldLink RX8 217 "HotPipesModel" "lines" "I", .fieldLink RX8 81 "HotPipesModel" "times" "[I", .fieldLink RX8 84 "HotPipesModel" "ranges" "[I", .constantLong RX8 220 (65536), .methodLink RX8 189 yX8_fraction, .instanceMethod yX8_fraction, .selects RX8 yX8_fraction yX8_fraction, .initialized RX8, .code yX8_fraction cX8_fraction 12 (some .int), .fieldLink RX8 102 "HotPipesModel" "upper" "J", .fieldLink RX8 87 "HotPipesModel" "lower" "J"] ++ wsX80)
def wsX8_read : List Cond := .code yX8_read cX8_read 5 (some .int) :: ([.constant RX8 216 (100000), .fieldLink RX8 59 "HotPipesModel" "readOf" "[I", .methodLink RX8 95 yX8_in, .static yX8_in, .initialized RX8, .code yX8_in cX8_in 3 (some .boolean), .methodLink RX8 167 yX8_need, .instanceMethod yX8_need, .selects RX8 yX8_need yX8_need, .code yX8_need cX8_need 3 (some .int), .fieldLink RX8 164 "HotPipesModel" "rests" "I", .fieldLink RX8 62 "HotPipesModel" "isGone" "[Z", .methodLink RX8 109 yX8_meets, .instanceMethod yX8_meets, .selects RX8 yX8_meets yX8_meets, .code yX8_meets cX8_meets 2 (some .int), .fieldLink RX8 91 "HotPipesModel" "latest" "I", .fieldLink RX8 7 "HotPipesModel" "came" "[I"] ++ wsX80)
def wsX8_differs_r1 : List Cond := [Cond.fieldLink RX8 164 "HotPipesModel" "rests" "I", Cond.fieldLink RX8 62 "HotPipesModel" "isGone" "[Z", Cond.fieldLink RX8 59 "HotPipesModel" "readOf" "[I", Cond.methodLink RX8 184 yX8_twice, Cond.instanceMethod yX8_twice, Cond.selects RX8 yX8_twice yX8_twice, Cond.initialized RX8, Cond.code yX8_twice cX8_twice 8 (some .int), Cond.fieldLink RX8 113 "HotPipesModel" "units" "I", Cond.fieldLink RX8 53 "HotPipesModel" "placeOf" "[I", Cond.fieldLink RX8 16 "HotPipesModel" "weights" "[I", Cond.fieldLink RX8 38 "HotPipesModel" "unitStuff" "[I", Cond.methodLink RX8 181 yX8_isBearing, Cond.instanceMethod yX8_isBearing, Cond.selects RX8 yX8_isBearing yX8_isBearing, Cond.code yX8_isBearing cX8_isBearing 3 (some .boolean), Cond.fieldLink RX8 50 "HotPipesModel" "kindOf" "[I", Cond.methodLink RX8 171 yX8_isThere, Cond.instanceMethod yX8_isThere, Cond.selects RX8 yX8_isThere yX8_isThere, Cond.code yX8_isThere cX8_isThere 2 (some .boolean), Cond.methodLink RX8 177 yX8_isLifted, Cond.instanceMethod yX8_isLifted, Cond.selects RX8 yX8_isLifted yX8_isLifted]
def wsX8_differs_r2 : List Cond := [Cond.code yX8_isLifted cX8_isLifted 3 (some .boolean), Cond.methodLink RX8 135 yX8_grownTo, Cond.instanceMethod yX8_grownTo, Cond.selects RX8 yX8_grownTo yX8_grownTo, Cond.code yX8_grownTo cX8_grownTo 6 (some .int), Cond.fieldLink RX8 35 "HotPipesModel" "unitWay" "[I", Cond.methodLink RX8 119 yX8_signOf, Cond.static yX8_signOf, Cond.code yX8_signOf cX8_signOf 1 (some .int), Cond.methodLink RX8 129 yX8_growth, Cond.instanceMethod yX8_growth, Cond.selects RX8 yX8_growth yX8_growth, Cond.code yX8_growth cX8_growth 3 (some .int), Cond.fieldLink RX8 13 "HotPipesModel" "sizes" "[I", Cond.fieldLink RX8 19 "HotPipesModel" "growths" "[B"]
def wsX8_differs : List Cond := .code yX8_differs cX8_differs 6 (some .int) :: ((wsX8_differs_r1 ++ wsX8_differs_r2) ++ wsX80)
def wsX8_missing_r1 : List Cond := [Cond.fieldLink RX8 164 "HotPipesModel" "rests" "I", Cond.fieldLink RX8 62 "HotPipesModel" "isGone" "[Z", Cond.fieldLink RX8 59 "HotPipesModel" "readOf" "[I", Cond.methodLink RX8 132 yX8_isStep, Cond.static yX8_isStep, Cond.initialized RX8, Cond.code yX8_isStep cX8_isStep 1 (some .boolean), Cond.methodLink RX8 95 yX8_in, Cond.static yX8_in, Cond.code yX8_in cX8_in 3 (some .boolean), Cond.methodLink RX8 222 yX8_differs, Cond.instanceMethod yX8_differs, Cond.selects RX8 yX8_differs yX8_differs, Cond.code yX8_differs cX8_differs 6 (some .int), Cond.methodLink RX8 184 yX8_twice, Cond.instanceMethod yX8_twice, Cond.selects RX8 yX8_twice yX8_twice, Cond.code yX8_twice cX8_twice 8 (some .int), Cond.fieldLink RX8 113 "HotPipesModel" "units" "I", Cond.fieldLink RX8 53 "HotPipesModel" "placeOf" "[I", Cond.fieldLink RX8 16 "HotPipesModel" "weights" "[I", Cond.fieldLink RX8 38 "HotPipesModel" "unitStuff" "[I", Cond.methodLink RX8 181 yX8_isBearing, Cond.instanceMethod yX8_isBearing]
def wsX8_missing_r2 : List Cond := [Cond.selects RX8 yX8_isBearing yX8_isBearing, Cond.code yX8_isBearing cX8_isBearing 3 (some .boolean), Cond.fieldLink RX8 50 "HotPipesModel" "kindOf" "[I", Cond.methodLink RX8 171 yX8_isThere, Cond.instanceMethod yX8_isThere, Cond.selects RX8 yX8_isThere yX8_isThere, Cond.code yX8_isThere cX8_isThere 2 (some .boolean), Cond.methodLink RX8 177 yX8_isLifted, Cond.instanceMethod yX8_isLifted, Cond.selects RX8 yX8_isLifted yX8_isLifted, Cond.code yX8_isLifted cX8_isLifted 3 (some .boolean), Cond.methodLink RX8 135 yX8_grownTo, Cond.instanceMethod yX8_grownTo, Cond.selects RX8 yX8_grownTo yX8_grownTo, Cond.code yX8_grownTo cX8_grownTo 6 (some .int), Cond.fieldLink RX8 35 "HotPipesModel" "unitWay" "[I", Cond.methodLink RX8 119 yX8_signOf, Cond.static yX8_signOf, Cond.code yX8_signOf cX8_signOf 1 (some .int), Cond.methodLink RX8 129 yX8_growth, Cond.instanceMethod yX8_growth, Cond.selects RX8 yX8_growth yX8_growth, Cond.code yX8_growth cX8_growth 3 (some .int), Cond.fieldLink RX8 13 "HotPipesModel" "sizes" "[I"]
def wsX8_missing_r3 : List Cond := [Cond.fieldLink RX8 19 "HotPipesModel" "growths" "[B", Cond.methodLink RX8 125 yX8_tells, Cond.instanceMethod yX8_tells, Cond.selects RX8 yX8_tells yX8_tells, Cond.code yX8_tells cX8_tells 3 (some .int), Cond.fieldLink RX8 99 "HotPipesModel" "asked" "I"]
def wsX8_missing : List Cond := .code yX8_missing cX8_missing 7 (some .int) :: ((wsX8_missing_r1 ++ (wsX8_missing_r2 ++ wsX8_missing_r3)) ++ wsX80)
def wsX8_count : List Cond := .code yX8_count cX8_count 4 (some .int) :: ([.fieldLink RX8 164 "HotPipesModel" "rests" "I", .fieldLink RX8 62 "HotPipesModel" "isGone" "[Z", .fieldLink RX8 116 "HotPipesModel" "legs" "I", .fieldLink RX8 113 "HotPipesModel" "units" "I", .fieldLink RX8 202 "HotPipesModel" "rates" "I", .fieldLink RX8 217 "HotPipesModel" "lines" "I"] ++ wsX80)
def wsX8_digest_r1 : List Cond := [Cond.constantLong RX8 225 (17), Cond.constantLong RX8 227 (31), Cond.fieldLink RX8 116 "HotPipesModel" "legs" "I", Cond.fieldLink RX8 26 "HotPipesModel" "legWay" "[I", Cond.fieldLink RX8 29 "HotPipesModel" "legUnits" "[I", Cond.fieldLink RX8 32 "HotPipesModel" "legStuff" "[I", Cond.fieldLink RX8 164 "HotPipesModel" "rests" "I", Cond.fieldLink RX8 62 "HotPipesModel" "isGone" "[Z", Cond.fieldLink RX8 59 "HotPipesModel" "readOf" "[I", Cond.fieldLink RX8 69 "HotPipesModel" "amounts" "[I", Cond.fieldLink RX8 72 "HotPipesModel" "low" "[I", Cond.fieldLink RX8 75 "HotPipesModel" "high" "[I", Cond.fieldLink RX8 16 "HotPipesModel" "weights" "[I", Cond.fieldLink RX8 13 "HotPipesModel" "sizes" "[I", Cond.fieldLink RX8 19 "HotPipesModel" "growths" "[B", Cond.methodLink RX8 229 yX8_count, Cond.instanceMethod yX8_count, Cond.selects RX8 yX8_count yX8_count, Cond.initialized RX8, Cond.code yX8_count cX8_count 4 (some .int), Cond.fieldLink RX8 113 "HotPipesModel" "units" "I", Cond.fieldLink RX8 202 "HotPipesModel" "rates" "I", Cond.fieldLink RX8 217 "HotPipesModel" "lines" "I", Cond.methodLink RX8 174 yX8_toldOf]
def wsX8_digest_r2 : List Cond := [Cond.instanceMethod yX8_toldOf, Cond.selects RX8 yX8_toldOf yX8_toldOf, Cond.code yX8_toldOf cX8_toldOf 3 (some .int), Cond.fieldLink RX8 50 "HotPipesModel" "kindOf" "[I", Cond.fieldLink RX8 53 "HotPipesModel" "placeOf" "[I", Cond.fieldLink RX8 56 "HotPipesModel" "rateOf" "[I", Cond.methodLink RX8 171 yX8_isThere, Cond.instanceMethod yX8_isThere, Cond.selects RX8 yX8_isThere yX8_isThere, Cond.code yX8_isThere cX8_isThere 2 (some .boolean)]
def wsX8_digest : List Cond := .code yX8_digest cX8_digest 5 (some .long) :: ((wsX8_digest_r1 ++ wsX8_digest_r2) ++ wsX80)
def wsJ9_abs_0f7a4 : List Cond := .code yJ9_abs_0f7a4 cJ9_abs_0f7a4 1 (some .int) :: ([])
def wsJ9_max_7cf53 : List Cond := .code yJ9_max_7cf53 cJ9_max_7cf53 2 (some .int) :: ([])
def wsJ9_min_7cf53 : List Cond := .code yJ9_min_7cf53 cJ9_min_7cf53 2 (some .int) :: ([])
def wsL_law_r1 : List Cond := [Cond.classLink RL 7 RX7, Cond.instantiable RX7 10, Cond.initialized RX7, Cond.classLink RL 10 RX8, Cond.instantiable RX8 34, Cond.initialized RX8, Cond.methodLink RL 9 yX7_init, Cond.instanceMethod yX7_init, Cond.code yX7_init cX7_init 1 none, Cond.methodLink RX7 1 objectInit, Cond.instanceMethod objectInit, Cond.code objectInit ⟨#[0xb1]⟩ 1 none, Cond.classLink RX7 7 RX6, Cond.instantiable RX6 3, Cond.initialized RX6, Cond.fieldLink RX7 10 "HotPipes" "stuffs" "LHotPipes$Stuffs;", Cond.classLink RX7 16 RX5, Cond.instantiable RX5 7, Cond.initialized RX5, Cond.fieldLink RX7 21 "HotPipes" "run" "LHotPipes$Run;", Cond.classLink RX7 25 RX4, Cond.instantiable RX4 7, Cond.initialized RX4, Cond.fieldLink RX7 30 "HotPipes" "rests" "LHotPipes$Rests;"]
def wsL_law_r2 : List Cond := [Cond.classLink RX7 34 RX3, Cond.instantiable RX3 2, Cond.initialized RX3, Cond.fieldLink RX7 37 "HotPipes" "rates" "LHotPipes$Rates;", Cond.classLink RX7 41 RX0, Cond.instantiable RX0 4, Cond.initialized RX0, Cond.fieldLink RX7 44 "HotPipes" "cases" "LHotPipes$Cases;", Cond.classLink RX7 48 RX1, Cond.instantiable RX1 2, Cond.initialized RX1, Cond.fieldLink RX7 51 "HotPipes" "cycles" "LHotPipes$Cycles;", Cond.classLink RX7 55 RX2, Cond.instantiable RX2 2, Cond.initialized RX2, Cond.fieldLink RX7 58 "HotPipes" "fraction" "LHotPipes$Fraction;", Cond.arrayClass .int, Cond.fieldLink RX7 62 "HotPipes" "found" "[I", Cond.fieldLink RX7 66 "HotPipes" "lastFound" "I", Cond.fieldLink RX7 70 "HotPipes" "lastAsked" "I", Cond.methodLink RX7 9 yX6_init, Cond.instanceMethod yX6_init, Cond.code yX6_init cX6_init 1 none, Cond.methodLink RX6 3 objectInit]
def wsL_law_r3 : List Cond := [Cond.arrayClass .byte, Cond.fieldLink RX6 9 "HotPipes$Stuffs" "bytes" "[B", Cond.fieldLink RX6 15 "HotPipes$Stuffs" "sizes" "[I", Cond.fieldLink RX6 19 "HotPipes$Stuffs" "weights" "[I", Cond.methodLink RX6 22 yJ7_fill_53178, Cond.static yJ7_fill_53178, Cond.initialized RJ7, Cond.code yJ7_fill_53178 cJ7_fill_53178 4 none, Cond.methodLink RX7 18 yX5_init, Cond.instanceMethod yX5_init, Cond.code yX5_init cX5_init 2 none, Cond.methodLink RX5 3 objectInit, Cond.fieldLink RX5 9 "HotPipes$Run" "ways" "[I", Cond.fieldLink RX5 15 "HotPipes$Run" "units" "[I", Cond.fieldLink RX5 18 "HotPipes$Run" "stuffOf" "[I", Cond.fieldLink RX5 21 "HotPipes$Run" "point" "[I", Cond.fieldLink RX5 24 "HotPipes$Run" "legs" "I", Cond.fieldLink RX5 28 "HotPipes$Run" "length" "I", Cond.fieldLink RX5 31 "HotPipes$Run" "stuffs" "LHotPipes$Stuffs;", Cond.methodLink RX7 27 yX4_init, Cond.instanceMethod yX4_init, Cond.code yX4_init cX4_init 2 none, Cond.methodLink RX4 3 objectInit, Cond.fieldLink RX4 9 "HotPipes$Rests" "kinds" "[I"]
def wsL_law_r4 : List Cond := [Cond.fieldLink RX4 15 "HotPipes$Rests" "places" "[I", Cond.fieldLink RX4 18 "HotPipes$Rests" "rates" "[I", Cond.fieldLink RX4 21 "HotPipes$Rests" "readings" "[I", Cond.arrayClass .boolean, Cond.fieldLink RX4 24 "HotPipes$Rests" "bearing" "[Z", Cond.fieldLink RX4 28 "HotPipes$Rests" "made" "I", Cond.fieldLink RX4 32 "HotPipes$Rests" "run" "LHotPipes$Run;", Cond.instanceMethod yX3_init, Cond.code yX3_init cX3_init 1 none, Cond.methodLink RX3 3 objectInit, Cond.fieldLink RX3 9 "HotPipes$Rates" "rates" "[I", Cond.fieldLink RX3 15 "HotPipes$Rates" "size" "I", Cond.methodLink RX7 43 yX0_init, Cond.instanceMethod yX0_init, Cond.code yX0_init cX0_init 1 none, Cond.methodLink RX0 3 objectInit, Cond.fieldLink RX0 9 "HotPipes$Cases" "amounts" "[I", Cond.fieldLink RX0 15 "HotPipes$Cases" "lows" "[I", Cond.fieldLink RX0 18 "HotPipes$Cases" "highs" "[I", Cond.fieldLink RX0 21 "HotPipes$Cases" "barred" "[I", Cond.methodLink RX0 24 yJ7_fill_53178, Cond.instanceMethod yX1_init, Cond.code yX1_init cX1_init 1 none, Cond.methodLink RX1 1 objectInit]
def wsL_law_r5 : List Cond := [Cond.fieldLink RX1 7 "HotPipes$Cycles" "lines" "I", Cond.fieldLink RX1 13 "HotPipes$Cycles" "parts" "J", Cond.instanceMethod yX2_init, Cond.code yX2_init cX2_init 1 none, Cond.methodLink RX2 1 objectInit, Cond.fieldLink RX2 7 "HotPipes$Fraction" "above" "J", Cond.fieldLink RX2 13 "HotPipes$Fraction" "below" "J", Cond.methodLink RL 12 yX8_init, Cond.instanceMethod yX8_init, Cond.code yX8_init cX8_init 2 none, Cond.methodLink RX8 1 objectInit, Cond.fieldLink RX8 7 "HotPipesModel" "came" "[I", Cond.fieldLink RX8 13 "HotPipesModel" "sizes" "[I", Cond.fieldLink RX8 16 "HotPipesModel" "weights" "[I", Cond.fieldLink RX8 19 "HotPipesModel" "growths" "[B", Cond.fieldLink RX8 23 "HotPipesModel" "copied" "[B", Cond.fieldLink RX8 26 "HotPipesModel" "legWay" "[I", Cond.fieldLink RX8 29 "HotPipesModel" "legUnits" "[I", Cond.fieldLink RX8 32 "HotPipesModel" "legStuff" "[I", Cond.fieldLink RX8 35 "HotPipesModel" "unitWay" "[I", Cond.fieldLink RX8 38 "HotPipesModel" "unitStuff" "[I", Cond.fieldLink RX8 41 "HotPipesModel" "xs" "[I", Cond.fieldLink RX8 44 "HotPipesModel" "ys" "[I", Cond.fieldLink RX8 47 "HotPipesModel" "zs" "[I"]
def wsL_law_r6 : List Cond := [Cond.fieldLink RX8 50 "HotPipesModel" "kindOf" "[I", Cond.fieldLink RX8 53 "HotPipesModel" "placeOf" "[I", Cond.fieldLink RX8 56 "HotPipesModel" "rateOf" "[I", Cond.fieldLink RX8 59 "HotPipesModel" "readOf" "[I", Cond.fieldLink RX8 62 "HotPipesModel" "isGone" "[Z", Cond.fieldLink RX8 66 "HotPipesModel" "theList" "[I", Cond.fieldLink RX8 69 "HotPipesModel" "amounts" "[I", Cond.fieldLink RX8 72 "HotPipesModel" "low" "[I", Cond.fieldLink RX8 75 "HotPipesModel" "high" "[I", Cond.fieldLink RX8 78 "HotPipesModel" "barred" "[I", Cond.fieldLink RX8 81 "HotPipesModel" "times" "[I", Cond.fieldLink RX8 84 "HotPipesModel" "ranges" "[I", Cond.fieldLink RX8 87 "HotPipesModel" "lower" "J", Cond.methodLink RL 13 yX7_stuff, Cond.instanceMethod yX7_stuff, Cond.selects RX7 yX7_stuff yX7_stuff, Cond.code yX7_stuff cX7_stuff 3 (some .int), Cond.methodLink RX7 73 yX7_isStuff, Cond.static yX7_isStuff, Cond.code yX7_isStuff cX7_isStuff 1 (some .boolean), Cond.methodLink RX7 107 yX7_isWithin, Cond.static yX7_isWithin, Cond.code yX7_isWithin cX7_isWithin 3 (some .boolean), Cond.methodLink RX7 77 yX7_refuse]
def wsL_law_r7 : List Cond := [Cond.instanceMethod yX7_refuse, Cond.selects RX7 yX7_refuse yX7_refuse, Cond.code yX7_refuse cX7_refuse 2 (some .int), Cond.methodLink RX7 81 yX6_begin, Cond.instanceMethod yX6_begin, Cond.selects RX6 yX6_begin yX6_begin, Cond.code yX6_begin cX6_begin 4 none, Cond.methodLink RL 17 yX8_stuff, Cond.instanceMethod yX8_stuff, Cond.selects RX8 yX8_stuff yX8_stuff, Cond.code yX8_stuff cX8_stuff 4 (some .int), Cond.methodLink RX8 105 yX8_isStuff, Cond.static yX8_isStuff, Cond.code yX8_isStuff cX8_isStuff 1 (some .boolean), Cond.methodLink RX8 95 yX8_in, Cond.static yX8_in, Cond.code yX8_in cX8_in 3 (some .boolean), Cond.methodLink RX8 109 yX8_meets, Cond.instanceMethod yX8_meets, Cond.selects RX8 yX8_meets yX8_meets, Cond.code yX8_meets cX8_meets 2 (some .int), Cond.fieldLink RX8 91 "HotPipesModel" "latest" "I", Cond.methodLink RL 18 yX7_lay, Cond.instanceMethod yX7_lay]
def wsL_law_r8 : List Cond := [Cond.selects RX7 yX7_lay yX7_lay, Cond.code yX7_lay cX7_lay 5 (some .int), Cond.methodLink RX7 85 yX7_refusalOfStuff, Cond.instanceMethod yX7_refusalOfStuff, Cond.selects RX7 yX7_refusalOfStuff yX7_refusalOfStuff, Cond.code yX7_refusalOfStuff cX7_refusalOfStuff 2 (some .int), Cond.methodLink RX7 100 yX6_isThere, Cond.instanceMethod yX6_isThere, Cond.selects RX6 yX6_isThere yX6_isThere, Cond.code yX6_isThere cX6_isThere 2 (some .boolean), Cond.methodLink RX7 88 yX6_hasBytes, Cond.instanceMethod yX6_hasBytes, Cond.selects RX6 yX6_hasBytes yX6_hasBytes, Cond.code yX6_hasBytes cX6_hasBytes 4 (some .boolean), Cond.methodLink RX7 92 yX6_replace, Cond.instanceMethod yX6_replace, Cond.selects RX6 yX6_replace yX6_replace, Cond.code yX6_replace cX6_replace 5 (some .int), Cond.methodLink RL 22 yX8_lay, Cond.instanceMethod yX8_lay, Cond.selects RX8 yX8_lay yX8_lay, Cond.code yX8_lay cX8_lay 5 (some .int), Cond.methodLink RL 23 yX7_tear, Cond.instanceMethod yX7_tear]
def wsL_law_r9 : List Cond := [Cond.selects RX7 yX7_tear yX7_tear, Cond.code yX7_tear cX7_tear 3 (some .int), Cond.methodLink RX7 96 yX6_end, Cond.instanceMethod yX6_end, Cond.selects RX6 yX6_end yX6_end, Cond.code yX6_end cX6_end 2 none, Cond.methodLink RL 27 yX8_tear, Cond.instanceMethod yX8_tear, Cond.selects RX8 yX8_tear yX8_tear, Cond.code yX8_tear cX8_tear 2 (some .int), Cond.methodLink RL 28 yX7_copy, Cond.instanceMethod yX7_copy, Cond.selects RX7 yX7_copy yX7_copy, Cond.code yX7_copy cX7_copy 6 (some .int), Cond.methodLink RX7 103 yX6_transfer, Cond.instanceMethod yX6_transfer, Cond.selects RX6 yX6_transfer yX6_transfer, Cond.code yX6_transfer cX6_transfer 6 none, Cond.methodLink RX6 28 arraycopyName, Cond.native arraycopyName, Cond.static arraycopyName, Cond.initialized "java/lang/System", Cond.methodLink RL 32 yX8_copy, Cond.instanceMethod yX8_copy]
def wsL_law_r10 : List Cond := [Cond.selects RX8 yX8_copy yX8_copy, Cond.code yX8_copy cX8_copy 7 (some .int), Cond.methodLink RL 33 yX7_weigh, Cond.instanceMethod yX7_weigh, Cond.selects RX7 yX7_weigh yX7_weigh, Cond.code yX7_weigh cX7_weigh 3 (some .int), Cond.methodLink RX7 110 yX6_reweigh, Cond.instanceMethod yX6_reweigh, Cond.selects RX6 yX6_reweigh yX6_reweigh, Cond.code yX6_reweigh cX6_reweigh 4 (some .int), Cond.methodLink RL 36 yX8_weigh, Cond.instanceMethod yX8_weigh, Cond.selects RX8 yX8_weigh yX8_weigh, Cond.code yX8_weigh cX8_weigh 4 (some .int), Cond.methodLink RL 37 yX7_mean, Cond.instanceMethod yX7_mean, Cond.selects RX7 yX7_mean yX7_mean, Cond.code yX7_mean cX7_mean 4 (some .int), Cond.methodLink RX7 114 yX6_sizeOf, Cond.instanceMethod yX6_sizeOf, Cond.selects RX6 yX6_sizeOf yX6_sizeOf, Cond.code yX6_sizeOf cX6_sizeOf 2 (some .int), Cond.methodLink RX7 117 yX6_sumOf, Cond.instanceMethod yX6_sumOf]
def wsL_law_r11 : List Cond := [Cond.selects RX6 yX6_sumOf yX6_sumOf, Cond.code yX6_sumOf cX6_sumOf 4 (some .int), Cond.methodLink RL 40 yX8_mean, Cond.instanceMethod yX8_mean, Cond.selects RX8 yX8_mean yX8_mean, Cond.code yX8_mean cX8_mean 4 (some .int), Cond.methodLink RL 41 yX7_leg, Cond.instanceMethod yX7_leg, Cond.selects RX7 yX7_leg yX7_leg, Cond.code yX7_leg cX7_leg 4 (some .int), Cond.methodLink RX7 120 yX7_isWay, Cond.static yX7_isWay, Cond.code yX7_isWay cX7_isWay 1 (some .boolean), Cond.methodLink RX7 123 yX5_legs, Cond.instanceMethod yX5_legs, Cond.selects RX5 yX5_legs yX5_legs, Cond.code yX5_legs cX5_legs 1 (some .int), Cond.methodLink RX7 127 yX5_append, Cond.instanceMethod yX5_append, Cond.selects RX5 yX5_append yX5_append, Cond.code yX5_append cX5_append 4 none, Cond.methodLink RL 44 yX8_leg, Cond.instanceMethod yX8_leg, Cond.selects RX8 yX8_leg yX8_leg]
def wsL_law_r12 : List Cond := [Cond.code yX8_leg cX8_leg 4 (some .int), Cond.fieldLink RX8 116 "HotPipesModel" "legs" "I", Cond.methodLink RX8 122 yX8_layRun, Cond.instanceMethod yX8_layRun, Cond.selects RX8 yX8_layRun yX8_layRun, Cond.code yX8_layRun cX8_layRun 4 none, Cond.fieldLink RX8 113 "HotPipesModel" "units" "I", Cond.methodLink RX8 119 yX8_signOf, Cond.static yX8_signOf, Cond.code yX8_signOf cX8_signOf 1 (some .int), Cond.methodLink RL 45 yX7_cut, Cond.instanceMethod yX7_cut, Cond.selects RX7 yX7_cut yX7_cut, Cond.code yX7_cut cX7_cut 1 (some .int), Cond.methodLink RX7 131 yX5_removeLast, Cond.instanceMethod yX5_removeLast, Cond.selects RX5 yX5_removeLast yX5_removeLast, Cond.code yX5_removeLast cX5_removeLast 1 none, Cond.methodLink RL 49 yX8_cut, Cond.instanceMethod yX8_cut, Cond.selects RX8 yX8_cut yX8_cut, Cond.code yX8_cut cX8_cut 1 (some .int), Cond.methodLink RL 50 yX7_where, Cond.instanceMethod yX7_where]
def wsL_law_r13 : List Cond := [Cond.selects RX7 yX7_where yX7_where, Cond.code yX7_where cX7_where 3 (some .int), Cond.methodLink RX7 134 yX5_length, Cond.instanceMethod yX5_length, Cond.selects RX5 yX5_length yX5_length, Cond.code yX5_length cX5_length 1 (some .int), Cond.methodLink RX7 137 yX7_isAxis, Cond.static yX7_isAxis, Cond.code yX7_isAxis cX7_isAxis 1 (some .boolean), Cond.methodLink RX7 140 yX5_position, Cond.instanceMethod yX5_position, Cond.selects RX5 yX5_position yX5_position, Cond.code yX5_position cX5_position 6 (some .int), Cond.methodLink RX5 35 yX5_axisOf, Cond.static yX5_axisOf, Cond.code yX5_axisOf cX5_axisOf 1 (some .int), Cond.methodLink RX5 39 yX5_signOf, Cond.static yX5_signOf, Cond.code yX5_signOf cX5_signOf 1 (some .int), Cond.methodLink RX5 42 yX5_unitsBetween, Cond.instanceMethod yX5_unitsBetween, Cond.selects RX5 yX5_unitsBetween yX5_unitsBetween, Cond.code yX5_unitsBetween cX5_unitsBetween 5 (some .int), Cond.methodLink RX5 55 Lib.Math.min.name]
def wsL_law_r14 : List Cond := [Cond.static Lib.Math.min.name, Cond.initialized "java/lang/Math", Cond.code Lib.Math.min.name Lib.Math.min.code 2 (some .int), Cond.methodLink RX5 60 Lib.Math.max.name, Cond.static Lib.Math.max.name, Cond.code Lib.Math.max.name Lib.Math.max.code 2 (some .int), Cond.methodLink RL 53 yX8_where, Cond.instanceMethod yX8_where, Cond.selects RX8 yX8_where yX8_where, Cond.code yX8_where cX8_where 3 (some .int), Cond.methodLink RX8 125 yX8_tells, Cond.instanceMethod yX8_tells, Cond.selects RX8 yX8_tells yX8_tells, Cond.code yX8_tells cX8_tells 3 (some .int), Cond.fieldLink RX8 99 "HotPipesModel" "asked" "I", Cond.methodLink RL 54 yX7_grown, Cond.instanceMethod yX7_grown, Cond.selects RX7 yX7_grown yX7_grown, Cond.code yX7_grown cX7_grown 3 (some .int), Cond.methodLink RX7 143 yX7_isStep, Cond.static yX7_isStep, Cond.code yX7_isStep cX7_isStep 1 (some .boolean), Cond.methodLink RX7 146 yX5_growth, Cond.instanceMethod yX5_growth]
def wsL_law_r15 : List Cond := [Cond.selects RX5 yX5_growth yX5_growth, Cond.code yX5_growth cX5_growth 8 (some .int), Cond.methodLink RX5 46 yX6_growthAt, Cond.instanceMethod yX6_growthAt, Cond.selects RX6 yX6_growthAt yX6_growthAt, Cond.code yX6_growthAt cX6_growthAt 3 (some .int), Cond.methodLink RL 57 yX8_grown, Cond.instanceMethod yX8_grown, Cond.selects RX8 yX8_grown yX8_grown, Cond.code yX8_grown cX8_grown 3 (some .int), Cond.methodLink RX8 132 yX8_isStep, Cond.static yX8_isStep, Cond.code yX8_isStep cX8_isStep 1 (some .boolean), Cond.methodLink RX8 135 yX8_grownTo, Cond.instanceMethod yX8_grownTo, Cond.selects RX8 yX8_grownTo yX8_grownTo, Cond.code yX8_grownTo cX8_grownTo 6 (some .int), Cond.methodLink RX8 129 yX8_growth, Cond.instanceMethod yX8_growth, Cond.selects RX8 yX8_growth yX8_growth, Cond.code yX8_growth cX8_growth 3 (some .int), Cond.methodLink RL 58 yX7_move, Cond.instanceMethod yX7_move, Cond.selects RX7 yX7_move yX7_move]
def wsL_law_r16 : List Cond := [Cond.code yX7_move cX7_move 3 (some .int), Cond.methodLink RL 61 yX8_move, Cond.instanceMethod yX8_move, Cond.selects RX8 yX8_move yX8_move, Cond.code yX8_move cX8_move 3 (some .int), Cond.methodLink RL 62 yX7_soft, Cond.instanceMethod yX7_soft, Cond.selects RX7 yX7_soft yX7_soft, Cond.code yX7_soft cX7_soft 3 (some .int), Cond.methodLink RX7 150 yX7_isThickness, Cond.static yX7_isThickness, Cond.code yX7_isThickness cX7_isThickness 1 (some .boolean), Cond.methodLink RX7 153 yX5_spare, Cond.instanceMethod yX5_spare, Cond.selects RX5 yX5_spare yX5_spare, Cond.code yX5_spare cX5_spare 13 (some .int), Cond.methodLink RX5 63 yX5_growth, Cond.methodLink RX5 67 yX5_position, Cond.methodLink RX5 70 yX5_root, Cond.static yX5_root, Cond.code yX5_root cX5_root 7 (some .int), Cond.methodLink RL 65 yX8_soft, Cond.instanceMethod yX8_soft, Cond.selects RX8 yX8_soft yX8_soft]
def wsL_law_r17 : List Cond := [Cond.code yX8_soft cX8_soft 4 (some .int), Cond.methodLink RX8 148 yX8_room, Cond.instanceMethod yX8_room, Cond.selects RX8 yX8_room yX8_room, Cond.code yX8_room cX8_room 6 (some .int), Cond.methodLink RX8 140 yX8_squares, Cond.static yX8_squares, Cond.code yX8_squares cX8_squares 6 (some .long), Cond.methodLink RX8 144 yX8_root, Cond.static yX8_root, Cond.code yX8_root cX8_root 6 (some .int), Cond.constant RX8 139 (65536), Cond.methodLink RL 66 yX7_loop, Cond.instanceMethod yX7_loop, Cond.selects RX7 yX7_loop yX7_loop, Cond.code yX7_loop cX7_loop 5 (some .int), Cond.methodLink RX7 156 yX5_isAcross, Cond.instanceMethod yX5_isAcross, Cond.selects RX5 yX5_isAcross yX5_isAcross, Cond.code yX5_isAcross cX5_isAcross 3 (some .boolean), Cond.methodLink RX7 160 yX5_unitsOf, Cond.instanceMethod yX5_unitsOf, Cond.selects RX5 yX5_unitsOf yX5_unitsOf, Cond.code yX5_unitsOf cX5_unitsOf 2 (some .int)]
def wsL_law_r18 : List Cond := [Cond.methodLink RX7 163 yX5_firstSoft, Cond.instanceMethod yX5_firstSoft, Cond.selects RX5 yX5_firstSoft yX5_firstSoft, Cond.code yX5_firstSoft cX5_firstSoft 4 (some .int), Cond.methodLink RX5 74 yX5_spare, Cond.methodLink RX7 166 yX5_leastLoop, Cond.instanceMethod yX5_leastLoop, Cond.selects RX5 yX5_leastLoop yX5_leastLoop, Cond.code yX5_leastLoop cX5_leastLoop 6 (some .int), Cond.methodLink RX5 77 yX5_isAcross, Cond.methodLink RX5 81 yX5_loopsThatMeet, Cond.instanceMethod yX5_loopsThatMeet, Cond.selects RX5 yX5_loopsThatMeet yX5_loopsThatMeet, Cond.code yX5_loopsThatMeet cX5_loopsThatMeet 7 (some .int), Cond.methodLink RX5 84 yX5_startAtFoot, Cond.instanceMethod yX5_startAtFoot, Cond.selects RX5 yX5_startAtFoot yX5_startAtFoot, Cond.code yX5_startAtFoot cX5_startAtFoot 4 none, Cond.methodLink RX5 88 yX5_loopsThatMeetPoint, Cond.instanceMethod yX5_loopsThatMeetPoint, Cond.selects RX5 yX5_loopsThatMeetPoint yX5_loopsThatMeetPoint, Cond.code yX5_loopsThatMeetPoint cX5_loopsThatMeetPoint 9 (some .int), Cond.methodLink RL 70 yX8_loop, Cond.instanceMethod yX8_loop]
def wsL_law_r19 : List Cond := [Cond.selects RX8 yX8_loop yX8_loop, Cond.code yX8_loop cX8_loop 5 (some .int), Cond.methodLink RX8 160 yX8_loopFor, Cond.instanceMethod yX8_loopFor, Cond.selects RX8 yX8_loopFor yX8_loopFor, Cond.code yX8_loopFor cX8_loopFor 6 (some .int), Cond.methodLink RX8 157 yX8_isFree, Cond.instanceMethod yX8_isFree, Cond.selects RX8 yX8_isFree yX8_isFree, Cond.code yX8_isFree cX8_isFree 8 (some .boolean), Cond.methodLink RX8 154 yX8_isTaken, Cond.instanceMethod yX8_isTaken, Cond.selects RX8 yX8_isTaken yX8_isTaken, Cond.code yX8_isTaken cX8_isTaken 5 (some .boolean), Cond.methodLink RX8 151 yX8_isOnRun, Cond.instanceMethod yX8_isOnRun, Cond.selects RX8 yX8_isOnRun yX8_isOnRun, Cond.code yX8_isOnRun cX8_isOnRun 6 (some .boolean), Cond.methodLink RL 71 yX7_bestLoop, Cond.instanceMethod yX7_bestLoop, Cond.selects RX7 yX7_bestLoop yX7_bestLoop, Cond.code yX7_bestLoop cX7_bestLoop 10 (some .int), Cond.methodLink RL 74 yX8_bestLoop, Cond.instanceMethod yX8_bestLoop]
def wsL_law_r20 : List Cond := [Cond.selects RX8 yX8_bestLoop yX8_bestLoop, Cond.code yX8_bestLoop cX8_bestLoop 9 (some .int), Cond.methodLink RL 75 yX7_rest, Cond.instanceMethod yX7_rest, Cond.selects RX7 yX7_rest yX7_rest, Cond.code yX7_rest cX7_rest 4 (some .int), Cond.methodLink RX7 169 yX7_isKind, Cond.static yX7_isKind, Cond.code yX7_isKind cX7_isKind 1 (some .boolean), Cond.methodLink RX7 172 yX4_isTaken, Cond.instanceMethod yX4_isTaken, Cond.selects RX4 yX4_isTaken yX4_isTaken, Cond.code yX4_isTaken cX4_isTaken 3 (some .boolean), Cond.methodLink RX4 36 yX4_isGone, Cond.instanceMethod yX4_isGone, Cond.selects RX4 yX4_isGone yX4_isGone, Cond.code yX4_isGone cX4_isGone 2 (some .boolean), Cond.methodLink RX7 175 yX7_isRate, Cond.static yX7_isRate, Cond.code yX7_isRate cX7_isRate 1 (some .boolean), Cond.methodLink RX7 178 yX4_made, Cond.instanceMethod yX4_made, Cond.selects RX4 yX4_made yX4_made, Cond.code yX4_made cX4_made 1 (some .int)]
def wsL_law_r21 : List Cond := [Cond.methodLink RX7 181 yX4_put, Cond.instanceMethod yX4_put, Cond.selects RX4 yX4_put yX4_put, Cond.code yX4_put cX4_put 4 (some .int), Cond.methodLink RL 78 yX8_rest, Cond.instanceMethod yX8_rest, Cond.selects RX8 yX8_rest yX8_rest, Cond.code yX8_rest cX8_rest 6 (some .int), Cond.fieldLink RX8 164 "HotPipesModel" "rests" "I", Cond.methodLink RL 79 yX7_drop, Cond.instanceMethod yX7_drop, Cond.selects RX7 yX7_drop yX7_drop, Cond.code yX7_drop cX7_drop 3 (some .int), Cond.methodLink RX7 184 yX7_refusalOfRest, Cond.instanceMethod yX7_refusalOfRest, Cond.selects RX7 yX7_refusalOfRest yX7_refusalOfRest, Cond.code yX7_refusalOfRest cX7_refusalOfRest 3 (some .int), Cond.methodLink RX7 298 yX4_isGone, Cond.methodLink RX7 188 yX4_remove, Cond.instanceMethod yX4_remove, Cond.selects RX4 yX4_remove yX4_remove, Cond.code yX4_remove cX4_remove 2 none, Cond.methodLink RL 82 yX8_drop, Cond.instanceMethod yX8_drop]
def wsL_law_r22 : List Cond := [Cond.selects RX8 yX8_drop yX8_drop, Cond.code yX8_drop cX8_drop 3 (some .int), Cond.methodLink RX8 167 yX8_need, Cond.instanceMethod yX8_need, Cond.selects RX8 yX8_need yX8_need, Cond.code yX8_need cX8_need 3 (some .int), Cond.methodLink RL 83 yX7_told, Cond.instanceMethod yX7_told, Cond.selects RX7 yX7_told yX7_told, Cond.code yX7_told cX7_told 4 (some .int), Cond.methodLink RX7 191 yX4_tell, Cond.instanceMethod yX4_tell, Cond.selects RX4 yX4_tell yX4_tell, Cond.code yX4_tell cX4_tell 3 (some .int), Cond.methodLink RX4 40 yX4_isPresent, Cond.instanceMethod yX4_isPresent, Cond.selects RX4 yX4_isPresent yX4_isPresent, Cond.code yX4_isPresent cX4_isPresent 2 (some .boolean), Cond.methodLink RX4 43 yX5_length, Cond.methodLink RL 86 yX8_told, Cond.instanceMethod yX8_told, Cond.selects RX8 yX8_told yX8_told, Cond.code yX8_told cX8_told 4 (some .int), Cond.methodLink RX8 174 yX8_toldOf]
def wsL_law_r23 : List Cond := [Cond.instanceMethod yX8_toldOf, Cond.selects RX8 yX8_toldOf yX8_toldOf, Cond.code yX8_toldOf cX8_toldOf 3 (some .int), Cond.methodLink RX8 171 yX8_isThere, Cond.instanceMethod yX8_isThere, Cond.selects RX8 yX8_isThere yX8_isThere, Cond.code yX8_isThere cX8_isThere 2 (some .boolean), Cond.methodLink RL 87 yX7_is, Cond.instanceMethod yX7_is, Cond.selects RX7 yX7_is yX7_is, Cond.code yX7_is cX7_is 4 (some .int), Cond.methodLink RX7 194 yX4_isOfKind, Cond.instanceMethod yX4_isOfKind, Cond.selects RX4 yX4_isOfKind yX4_isOfKind, Cond.code yX4_isOfKind cX4_isOfKind 4 (some .boolean), Cond.methodLink RL 90 yX8_is, Cond.instanceMethod yX8_is, Cond.selects RX8 yX8_is yX8_is, Cond.code yX8_is cX8_is 4 (some .int), Cond.methodLink RL 91 yX7_lifts, Cond.instanceMethod yX7_lifts, Cond.selects RX7 yX7_lifts yX7_lifts, Cond.code yX7_lifts cX7_lifts 4 (some .int), Cond.methodLink RX7 197 yX4_isLifted]
def wsL_law_r24 : List Cond := [Cond.instanceMethod yX4_isLifted, Cond.selects RX4 yX4_isLifted yX4_isLifted, Cond.code yX4_isLifted cX4_isLifted 4 (some .boolean), Cond.methodLink RX4 49 yX5_growth, Cond.methodLink RL 94 yX8_lifts, Cond.instanceMethod yX8_lifts, Cond.selects RX8 yX8_lifts yX8_lifts, Cond.code yX8_lifts cX8_lifts 4 (some .int), Cond.methodLink RX8 177 yX8_isLifted, Cond.instanceMethod yX8_isLifted, Cond.selects RX8 yX8_isLifted yX8_isLifted, Cond.code yX8_isLifted cX8_isLifted 3 (some .boolean), Cond.methodLink RL 95 yX7_load, Cond.instanceMethod yX7_load, Cond.selects RX7 yX7_load yX7_load, Cond.code yX7_load cX7_load 4 (some .int), Cond.constantLong RX7 206 (2), Cond.methodLink RX7 200 yX4_noteBearing, Cond.instanceMethod yX4_noteBearing, Cond.selects RX4 yX4_noteBearing yX4_noteBearing, Cond.code yX4_noteBearing cX4_noteBearing 3 none, Cond.methodLink RX4 59 yX4_isLifted, Cond.methodLink RX7 203 yX4_twiceLoad, Cond.instanceMethod yX4_twiceLoad]
def wsL_law_r25 : List Cond := [Cond.selects RX4 yX4_twiceLoad yX4_twiceLoad, Cond.code yX4_twiceLoad cX4_twiceLoad 6 (some .int), Cond.methodLink RX4 63 Lib.Math.max.name, Cond.methodLink RX4 67 Lib.Math.min.name, Cond.methodLink RX4 70 yX5_weight, Cond.instanceMethod yX5_weight, Cond.selects RX5 yX5_weight yX5_weight, Cond.code yX5_weight cX5_weight 6 (some .int), Cond.methodLink RX5 52 yX6_weightOf, Cond.instanceMethod yX6_weightOf, Cond.selects RX6 yX6_weightOf yX6_weightOf, Cond.code yX6_weightOf cX6_weightOf 2 (some .int), Cond.methodLink RX7 208 yX2_put, Cond.instanceMethod yX2_put, Cond.selects RX2 yX2_put yX2_put, Cond.code yX2_put cX2_put 7 none, Cond.methodLink RX2 16 yX2_greatestShared, Cond.static yX2_greatestShared, Cond.code yX2_greatestShared cX2_greatestShared 7 (some .long), Cond.methodLink RL 98 yX8_load, Cond.instanceMethod yX8_load, Cond.selects RX8 yX8_load yX8_load, Cond.code yX8_load cX8_load 4 (some .int), Cond.constantLong RX8 187 (2)]
def wsL_law_r26 : List Cond := [Cond.methodLink RX8 184 yX8_twice, Cond.instanceMethod yX8_twice, Cond.selects RX8 yX8_twice yX8_twice, Cond.code yX8_twice cX8_twice 8 (some .int), Cond.methodLink RX8 181 yX8_isBearing, Cond.instanceMethod yX8_isBearing, Cond.selects RX8 yX8_isBearing yX8_isBearing, Cond.code yX8_isBearing cX8_isBearing 3 (some .boolean), Cond.methodLink RX8 189 yX8_fraction, Cond.instanceMethod yX8_fraction, Cond.selects RX8 yX8_fraction yX8_fraction, Cond.code yX8_fraction cX8_fraction 12 (some .int), Cond.fieldLink RX8 102 "HotPipesModel" "upper" "J", Cond.methodLink RL 99 yX7_change, Cond.instanceMethod yX7_change, Cond.selects RX7 yX7_change yX7_change, Cond.code yX7_change cX7_change 4 (some .int), Cond.constantLong RX7 220 (1000), Cond.methodLink RX7 211 yX7_refusalOfSpring, Cond.instanceMethod yX7_refusalOfSpring, Cond.selects RX7 yX7_refusalOfSpring yX7_refusalOfSpring, Cond.code yX7_refusalOfSpring cX7_refusalOfSpring 4 (some .int), Cond.methodLink RX7 214 yX4_rateOf, Cond.instanceMethod yX4_rateOf]
def wsL_law_r27 : List Cond := [Cond.selects RX4 yX4_rateOf yX4_rateOf, Cond.code yX4_rateOf cX4_rateOf 2 (some .int), Cond.methodLink RX7 217 yX4_travel, Cond.instanceMethod yX4_travel, Cond.selects RX4 yX4_travel yX4_travel, Cond.code yX4_travel cX4_travel 3 (some .int), Cond.methodLink RX4 53 Lib.Math.abs.name, Cond.static Lib.Math.abs.name, Cond.code Lib.Math.abs.name Lib.Math.abs.code 1 (some .int), Cond.methodLink RL 102 yX8_change, Cond.instanceMethod yX8_change, Cond.selects RX8 yX8_change yX8_change, Cond.code yX8_change cX8_change 4 (some .int), Cond.constantLong RX8 200 (1000), Cond.methodLink RX8 193 yX8_needSpring, Cond.instanceMethod yX8_needSpring, Cond.selects RX8 yX8_needSpring yX8_needSpring, Cond.code yX8_needSpring cX8_needSpring 4 (some .int), Cond.methodLink RX8 196 yX8_movedOf, Cond.instanceMethod yX8_movedOf, Cond.selects RX8 yX8_movedOf yX8_movedOf, Cond.code yX8_movedOf cX8_movedOf 4 (some .long), Cond.methodLink RL 103 yX7_firm, Cond.instanceMethod yX7_firm]
def wsL_law_r28 : List Cond := [Cond.selects RX7 yX7_firm yX7_firm, Cond.code yX7_firm cX7_firm 6 (some .int), Cond.methodLink RL 106 yX8_firm, Cond.instanceMethod yX8_firm, Cond.selects RX8 yX8_firm yX8_firm, Cond.code yX8_firm cX8_firm 5 (some .int), Cond.methodLink RL 107 yX7_list, Cond.instanceMethod yX7_list, Cond.selects RX7 yX7_list yX7_list, Cond.code yX7_list cX7_list 2 (some .int), Cond.methodLink RX7 222 yX3_size, Cond.instanceMethod yX3_size, Cond.selects RX3 yX3_size yX3_size, Cond.code yX3_size cX3_size 1 (some .int), Cond.methodLink RX7 225 yX3_append, Cond.instanceMethod yX3_append, Cond.selects RX3 yX3_append yX3_append, Cond.code yX3_append cX3_append 2 none, Cond.methodLink RL 110 yX8_list, Cond.instanceMethod yX8_list, Cond.selects RX8 yX8_list yX8_list, Cond.code yX8_list cX8_list 2 (some .int), Cond.fieldLink RX8 202 "HotPipesModel" "rates" "I", Cond.methodLink RL 111 yX7_choose]
def wsL_law_r29 : List Cond := [Cond.instanceMethod yX7_choose, Cond.selects RX7 yX7_choose yX7_choose, Cond.code yX7_choose cX7_choose 6 (some .int), Cond.methodLink RX7 227 yX3_greatestFirmEnough, Cond.instanceMethod yX3_greatestFirmEnough, Cond.selects RX3 yX3_greatestFirmEnough yX3_greatestFirmEnough, Cond.code yX3_greatestFirmEnough cX3_greatestFirmEnough 6 (some .int), Cond.constantLong RX3 19 (8), Cond.constantLong RX3 21 (1000), Cond.methodLink RX7 230 yX4_setRate, Cond.instanceMethod yX4_setRate, Cond.selects RX4 yX4_setRate yX4_setRate, Cond.code yX4_setRate cX4_setRate 3 none, Cond.methodLink RL 114 yX8_choose, Cond.instanceMethod yX8_choose, Cond.selects RX8 yX8_choose yX8_choose, Cond.code yX8_choose cX8_choose 8 (some .int), Cond.constantLong RX8 205 (8), Cond.methodLink RL 115 yX7_amount, Cond.instanceMethod yX7_amount, Cond.selects RX7 yX7_amount yX7_amount, Cond.code yX7_amount cX7_amount 5 (some .int), Cond.methodLink RX7 233 yX7_isCase, Cond.static yX7_isCase]
def wsL_law_r30 : List Cond := [Cond.code yX7_isCase cX7_isCase 1 (some .boolean), Cond.methodLink RX7 236 yX0_put, Cond.instanceMethod yX0_put, Cond.selects RX0 yX0_put yX0_put, Cond.code yX0_put cX0_put 5 none, Cond.methodLink RL 118 yX8_amount, Cond.instanceMethod yX8_amount, Cond.selects RX8 yX8_amount yX8_amount, Cond.code yX8_amount cX8_amount 5 (some .int), Cond.methodLink RX8 207 yX8_isCase, Cond.static yX8_isCase, Cond.code yX8_isCase cX8_isCase 1 (some .boolean), Cond.methodLink RL 119 yX7_bar, Cond.instanceMethod yX7_bar, Cond.selects RX7 yX7_bar yX7_bar, Cond.code yX7_bar cX7_bar 4 (some .int), Cond.methodLink RX7 239 yX0_setBarred, Cond.instanceMethod yX0_setBarred, Cond.selects RX0 yX0_setBarred yX0_setBarred, Cond.code yX0_setBarred cX0_setBarred 5 (some .boolean), Cond.methodLink RL 123 yX8_bar, Cond.instanceMethod yX8_bar, Cond.selects RX8 yX8_bar yX8_bar, Cond.code yX8_bar cX8_bar 5 (some .int)]
def wsL_law_r31 : List Cond := [Cond.methodLink RL 124 yX7_worst, Cond.instanceMethod yX7_worst, Cond.selects RX7 yX7_worst yX7_worst, Cond.code yX7_worst cX7_worst 1 (some .int), Cond.methodLink RX7 243 yX0_worstSet, Cond.instanceMethod yX0_worstSet, Cond.selects RX0 yX0_worstSet yX0_worstSet, Cond.code yX0_worstSet cX0_worstSet 5 (some .int), Cond.methodLink RX0 30 yX0_goesTogether, Cond.instanceMethod yX0_goesTogether, Cond.selects RX0 yX0_goesTogether yX0_goesTogether, Cond.code yX0_goesTogether cX0_goesTogether 3 (some .boolean), Cond.methodLink RX0 34 yX0_joined, Cond.instanceMethod yX0_joined, Cond.selects RX0 yX0_joined yX0_joined, Cond.code yX0_joined cX0_joined 4 (some .int), Cond.methodLink RX0 38 Lib.Math.max.name, Cond.methodLink RX7 246 yX0_joined, Cond.methodLink RL 127 yX8_worst, Cond.instanceMethod yX8_worst, Cond.selects RX8 yX8_worst yX8_worst, Cond.code yX8_worst cX8_worst 4 (some .int), Cond.methodLink RX8 210 yX8_mayJoin, Cond.instanceMethod yX8_mayJoin]
def wsL_law_r32 : List Cond := [Cond.selects RX8 yX8_mayJoin yX8_mayJoin, Cond.code yX8_mayJoin cX8_mayJoin 4 (some .boolean), Cond.methodLink RX8 213 yX8_joined, Cond.instanceMethod yX8_joined, Cond.selects RX8 yX8_joined yX8_joined, Cond.code yX8_joined cX8_joined 6 (some .int), Cond.methodLink RL 128 yX7_cycle, Cond.instanceMethod yX7_cycle, Cond.selects RX7 yX7_cycle yX7_cycle, Cond.code yX7_cycle cX7_cycle 3 (some .int), Cond.constant RX7 249 (100000), Cond.methodLink RX7 250 yX1_lines, Cond.instanceMethod yX1_lines, Cond.selects RX1 yX1_lines yX1_lines, Cond.code yX1_lines cX1_lines 1 (some .int), Cond.methodLink RX7 253 yX1_append, Cond.instanceMethod yX1_append, Cond.selects RX1 yX1_append yX1_append, Cond.code yX1_append cX1_append 3 none, Cond.methodLink RL 131 yX8_cycle, Cond.instanceMethod yX8_cycle, Cond.selects RX8 yX8_cycle yX8_cycle, Cond.code yX8_cycle cX8_cycle 3 (some .int), Cond.constant RX8 216 (100000)]
def wsL_law_r33 : List Cond := [Cond.fieldLink RX8 217 "HotPipesModel" "lines" "I", Cond.methodLink RL 132 yX7_used, Cond.instanceMethod yX7_used, Cond.selects RX7 yX7_used yX7_used, Cond.code yX7_used cX7_used 3 (some .int), Cond.constantLong RX7 259 (65536), Cond.methodLink RX7 255 yX1_partsUsed, Cond.instanceMethod yX1_partsUsed, Cond.selects RX1 yX1_partsUsed yX1_partsUsed, Cond.code yX1_partsUsed cX1_partsUsed 1 (some .long), Cond.methodLink RL 135 yX8_used, Cond.instanceMethod yX8_used, Cond.selects RX8 yX8_used yX8_used, Cond.code yX8_used cX8_used 4 (some .int), Cond.constantLong RX8 220 (65536), Cond.methodLink RL 136 yX7_read, Cond.instanceMethod yX7_read, Cond.selects RX7 yX7_read yX7_read, Cond.code yX7_read cX7_read 4 (some .int), Cond.methodLink RX7 261 yX4_replaceReading, Cond.instanceMethod yX4_replaceReading, Cond.selects RX4 yX4_replaceReading yX4_replaceReading, Cond.code yX4_replaceReading cX4_replaceReading 4 (some .int), Cond.methodLink RL 139 yX8_read]
def wsL_law_r34 : List Cond := [Cond.instanceMethod yX8_read, Cond.selects RX8 yX8_read yX8_read, Cond.code yX8_read cX8_read 5 (some .int), Cond.methodLink RL 140 yX7_missing, Cond.instanceMethod yX7_missing, Cond.selects RX7 yX7_missing yX7_missing, Cond.code yX7_missing cX7_missing 6 (some .int), Cond.methodLink RX7 264 yX4_hasReading, Cond.instanceMethod yX4_hasReading, Cond.selects RX4 yX4_hasReading yX4_hasReading, Cond.code yX4_hasReading cX4_hasReading 2 (some .boolean), Cond.methodLink RX4 73 yX4_isRead, Cond.instanceMethod yX4_isRead, Cond.selects RX4 yX4_isRead yX4_isRead, Cond.code yX4_isRead cX4_isRead 2 (some .boolean), Cond.methodLink RX7 268 yX4_differenceWithout, Cond.instanceMethod yX4_differenceWithout, Cond.selects RX4 yX4_differenceWithout yX4_differenceWithout, Cond.code yX4_differenceWithout cX4_differenceWithout 4 (some .int), Cond.methodLink RX4 76 yX4_twiceLoad, Cond.methodLink RX7 271 yX4_isBearing, Cond.instanceMethod yX4_isBearing, Cond.selects RX4 yX4_isBearing yX4_isBearing, Cond.code yX4_isBearing cX4_isBearing 2 (some .boolean)]
def wsL_law_r35 : List Cond := [Cond.methodLink RL 143 yX8_missing, Cond.instanceMethod yX8_missing, Cond.selects RX8 yX8_missing yX8_missing, Cond.code yX8_missing cX8_missing 7 (some .int), Cond.methodLink RX8 222 yX8_differs, Cond.instanceMethod yX8_differs, Cond.selects RX8 yX8_differs yX8_differs, Cond.code yX8_differs cX8_differs 6 (some .int), Cond.methodLink RL 144 yX7_asked, Cond.instanceMethod yX7_asked, Cond.selects RX7 yX7_asked yX7_asked, Cond.code yX7_asked cX7_asked 1 (some .int), Cond.methodLink RL 147 yX8_asked, Cond.instanceMethod yX8_asked, Cond.selects RX8 yX8_asked yX8_asked, Cond.code yX8_asked cX8_asked 1 (some .int), Cond.methodLink RL 148 yX7_upper, Cond.instanceMethod yX7_upper, Cond.selects RX7 yX7_upper yX7_upper, Cond.code yX7_upper cX7_upper 1 (some .long), Cond.methodLink RL 152 yX8_upper, Cond.instanceMethod yX8_upper, Cond.selects RX8 yX8_upper yX8_upper, Cond.code yX8_upper cX8_upper 1 (some .long)]
def wsL_law_r36 : List Cond := [Cond.methodLink RL 153 yX7_lower, Cond.instanceMethod yX7_lower, Cond.selects RX7 yX7_lower yX7_lower, Cond.code yX7_lower cX7_lower 1 (some .long), Cond.methodLink RL 156 yX8_lower, Cond.instanceMethod yX8_lower, Cond.selects RX8 yX8_lower yX8_lower, Cond.code yX8_lower cX8_lower 1 (some .long), Cond.methodLink RL 157 yX7_count, Cond.instanceMethod yX7_count, Cond.selects RX7 yX7_count yX7_count, Cond.code yX7_count cX7_count 2 (some .int), Cond.methodLink RX7 281 yX4_kept, Cond.instanceMethod yX4_kept, Cond.selects RX4 yX4_kept yX4_kept, Cond.code yX4_kept cX4_kept 3 (some .int), Cond.methodLink RL 160 yX8_count, Cond.instanceMethod yX8_count, Cond.selects RX8 yX8_count yX8_count, Cond.code yX8_count cX8_count 4 (some .int), Cond.methodLink RL 161 yX7_finding, Cond.instanceMethod yX7_finding, Cond.selects RX7 yX7_finding yX7_finding, Cond.code yX7_finding cX7_finding 1 (some .int)]
def wsL_law_r37 : List Cond := [Cond.methodLink RL 164 yX8_finding, Cond.instanceMethod yX8_finding, Cond.selects RX8 yX8_finding yX8_finding, Cond.code yX8_finding cX8_finding 1 (some .int), Cond.methodLink RL 165 yX7_findings, Cond.instanceMethod yX7_findings, Cond.selects RX7 yX7_findings yX7_findings, Cond.code yX7_findings cX7_findings 2 (some .int), Cond.methodLink RL 168 yX8_findings, Cond.instanceMethod yX8_findings, Cond.selects RX8 yX8_findings yX8_findings, Cond.code yX8_findings cX8_findings 2 (some .int), Cond.methodLink RL 169 yX7_digest, Cond.instanceMethod yX7_digest, Cond.selects RX7 yX7_digest yX7_digest, Cond.code yX7_digest cX7_digest 4 (some .long), Cond.constantLong RX7 284 (17), Cond.constantLong RX7 286 (31), Cond.methodLink RX7 288 yX7_count, Cond.methodLink RX7 291 yX5_mixInto, Cond.instanceMethod yX5_mixInto, Cond.selects RX5 yX5_mixInto yX5_mixInto, Cond.code yX5_mixInto cX5_mixInto 4 (some .long), Cond.constantLong RX5 91 (31)]
def wsL_law_r38 : List Cond := [Cond.methodLink RX7 295 yX4_mixInto, Cond.instanceMethod yX4_mixInto, Cond.selects RX4 yX4_mixInto yX4_mixInto, Cond.code yX4_mixInto cX4_mixInto 5 (some .long), Cond.constantLong RX4 79 (31), Cond.methodLink RX4 81 yX4_tell, Cond.methodLink RX7 296 yX0_mixInto, Cond.instanceMethod yX0_mixInto, Cond.selects RX0 yX0_mixInto yX0_mixInto, Cond.code yX0_mixInto cX0_mixInto 4 (some .long), Cond.constantLong RX0 44 (31), Cond.methodLink RX7 297 yX6_mixInto, Cond.instanceMethod yX6_mixInto, Cond.selects RX6 yX6_mixInto yX6_mixInto, Cond.code yX6_mixInto cX6_mixInto 5 (some .long), Cond.constantLong RX6 34 (31), Cond.methodLink RL 172 yX8_digest, Cond.instanceMethod yX8_digest, Cond.selects RX8 yX8_digest yX8_digest, Cond.code yX8_digest cX8_digest 5 (some .long), Cond.constantLong RX8 225 (17), Cond.constantLong RX8 227 (31), Cond.methodLink RX8 229 yX8_count]
def wsL_law : List Cond := (wsL_law_r1 ++ (wsL_law_r2 ++ (wsL_law_r3 ++ (wsL_law_r4 ++ (wsL_law_r5 ++ (wsL_law_r6 ++ (wsL_law_r7 ++ (wsL_law_r8 ++ (wsL_law_r9 ++ (wsL_law_r10 ++ (wsL_law_r11 ++ (wsL_law_r12 ++ (wsL_law_r13 ++ (wsL_law_r14 ++ (wsL_law_r15 ++ (wsL_law_r16 ++ (wsL_law_r17 ++ (wsL_law_r18 ++ (wsL_law_r19 ++ (wsL_law_r20 ++ (wsL_law_r21 ++ (wsL_law_r22 ++ (wsL_law_r23 ++ (wsL_law_r24 ++ (wsL_law_r25 ++ (wsL_law_r26 ++ (wsL_law_r27 ++ (wsL_law_r28 ++ (wsL_law_r29 ++ (wsL_law_r30 ++ (wsL_law_r31 ++ (wsL_law_r32 ++ (wsL_law_r33 ++ (wsL_law_r34 ++ (wsL_law_r35 ++ (wsL_law_r36 ++ (wsL_law_r37 ++ wsL_law_r38))))))))))))))))))))))))))))))))))))) ++ wsX70 ++ wsX80 ++ wsX60 ++ wsX50 ++ wsX40 ++ wsX30 ++ wsX00 ++ wsX10 ++ wsX20 ++ ([] : List Cond)
abbrev vwCl : List vw_C := [(RX0, TX0, 4), (RX1, TX1, 2), (RX2, TX2, 2), (RX3, TX3, 2), (RX4, TX4, 7), (RX5, TX5, 7), (RX6, TX6, 3), (RX7, TX7, 10), (RX8, TX8, 34)]
end
section
/-! ===== pure programs: an answer or none ===== -/
def olet {α β : Type} (x : α) (k : α → Option β) : Option β := k x
noncomputable def og {β : Type} (c : Prop) (k : Option β) : Option β := @ite (Option β) c (Classical.propDecidable c) k none
def ob {α β : Type} (m : Option α) (k : α → Option β) : Option β := match m with
  | none => none
  | some a => k a
def oj {κ γ : Type} (k : κ) (f : κ → Option γ) : Option γ := f k
def olp {σ ρ : Type} (body : σ → Option (σ ⊕ ρ)) : Nat → σ → Option ρ
  | 0, _ => none
  | n + 1, s => match body s with
    | none => none
    | some (.inl s1) => olp body n s1
    | some (.inr r) => some r
theorem og_pos {β : Type} {c : Prop} {k : Option β} (h : c) : og c k = k := if_pos h
theorem og_some {β : Type} {c : Prop} {k : Option β} {r : β} (h : og c k = some r) : c ∧ k = some r := by
  by_cases hc : c
  · exact ⟨hc, by rw [← h, og_pos hc]⟩
  · rw [og, if_neg hc] at h
    cases h
theorem o_pos {β : Type} {c : Prop} [i : Decidable c] {a b r : Option β} (h : (if c then a else b) = r) (hc : c) : a = r := by rw [if_pos hc] at h; exact h
theorem o_neg {β : Type} {c : Prop} [i : Decidable c] {a b r : Option β} (h : (if c then a else b) = r) (hc : ¬ c) : b = r := by rw [if_neg hc] at h; exact h
theorem ob_some {α β : Type} {m : Option α} {k : α → Option β} {r : β} (h : ob m k = some r) : ∃ a, m = some a ∧ k a = some r := by
  cases m with
  | none => cases h
  | some a => exact ⟨a, rfl, h⟩
theorem olet_some {α β : Type} {x y : α} {k : α → Option β} {r : Option β} (h : olet x k = r) (e : y = x) : k y = r := by rw [e]; exact h
theorem oj_some {κ γ : Type} {k : κ} {f : κ → Option γ} {r : Option γ} (h : oj k f = r) : ∃ K, K = k ∧ f K = r := ⟨k, rfl, h⟩
theorem olp_ind {σ ρ : Type} {body : σ → Option (σ ⊕ ρ)} {r : ρ} (P : σ → Prop) (hs : ∀ (s : σ) (t : σ ⊕ ρ), body s = some t → (∀ s1, t = .inl s1 → P s1) → (∀ r1, t = .inr r1 → r1 = r) → P s) : ∀ (n : Nat) (s : σ), olp body n s = some r → P s := by
  intro n
  induction n with
  | zero => intro s h; cases h
  | succ n ih =>
    intro s h
    rw [olp] at h
    cases hb : body s with
    | none => rw [hb] at h; cases h
    | some t =>
      rw [hb] at h
      refine hs s t hb (fun s1 e => ?_) (fun r1 e => ?_)
      · subst e; exact ih s1 h
      · subst e; exact Option.some.inj h
theorem so_1 {α : Type} {a b : α} (h : some a = some b) : a = b := Option.some.inj h
theorem so_2 {α β : Type} {a b : α} {c d : β} (h : some (a, c) = some (b, d)) : a = b ∧ c = d := by cases h; exact ⟨rfl, rfl⟩
theorem so_l {α β : Type} {a : α} {t : α ⊕ β} (h : some (Sum.inl a) = some t) : t = .inl a := (Option.some.inj h).symm
theorem so_r {α β : Type} {b : β} {t : α ⊕ β} (h : some (Sum.inr b) = some t) : t = .inr b := (Option.some.inj h).symm
/-! ===== a method's walk: the context X, and the goal GG at a pc ===== -/
abbrev CX : Type := Program × Launch × Env × Room × State × MethodId × Array Value × List Frame × Method × Code × va_G × (Nat → Prop) × (State → Prop)
abbrev ty3 (cy : Nat → ClassId) : List (ClassId × FieldType) := [(cy 0, .byte), (cy 1, .int), (cy 2, .boolean)]
def GG (X : CX) (nL k n : Nat) (ws : va_W) (lv : List (Nat × Value)) (pc : Nat) (st : List Value) : Prop := match X with
  | (p, l, e, R, s, m, args, below, meth, c, D, A, Q) => ∀ (H : Heap) (locs : List Loc) (ls : Array Slot), va_P D vwCl ws H → va_D A ws → va_S A s.heap H locs → lv_has ls nL lv → W p l e R s m args below meth c H locs k n Q (F0 m pc ls st)
def OK (X : CX) (l0 : Launch) (D0 : va_G) (cy : Nat → ClassId) (rm : Room) (cc : ByteArray) (nL : Nat) (Ts : List Cond) (own : String) : Prop := match X with
  | (p, l, e, R, s, m, args, below, meth, c, D, A, Q) => p.tables.exec = Jvm.exec ∧ c.code = cc ∧ c.maxLocals = nL ∧ s.vm.findClass own = some m.cls ∧ (∀ w ∈ Ts, w.before args s = true) ∧ va_K D0 vwCl (ty3 cy) s ∧ (∀ q, s.heap.size ≤ q → A q) ∧ R = rm ∧ D = D0 ∧ l = l0
section GGR
variable {X : CX} {l : Launch} {D : va_G} {cy : Nat → ClassId} {rm : Room} {cc : ByteArray} {nL k n : Nat} {Ts : List Cond} {own : String} {ws : va_W} {lv : List (Nat × Value)} {pc : Nat} {st : List Value}
theorem r_iconst (hC : OK X l D cy rm cc nL Ts own) {z : Int} {v : Int32} (d : decode cc pc = .ok (.iconst z, 1)) (hv : Int32.ofInt z = v) (kk : GG X nL k n ws lv (pc + 1) (.int v :: st)) : GG X nL k n ws lv pc st := by
  obtain ⟨p, l, e, R, s, m, args, below, meth, c, D, A, Q⟩ := X
  obtain ⟨hx, hb, -⟩ := hC
  exact fun H locs ls hP hD hS hl => lv_iconst hx hb d hv (kk H locs ls hP hD hS hl)
theorem r_bipush (hC : OK X l D cy rm cc nL Ts own) {z : Int} {v : Int32} (d : decode cc pc = .ok (.bipush z, 2)) (hv : (Int8.ofInt z).toInt32 = v) (kk : GG X nL k n ws lv (pc + 2) (.int v :: st)) : GG X nL k n ws lv pc st := by
  obtain ⟨p, l, e, R, s, m, args, below, meth, c, D, A, Q⟩ := X
  obtain ⟨hx, hb, -⟩ := hC
  exact fun H locs ls hP hD hS hl => lv_bipush hx hb d hv (kk H locs ls hP hD hS hl)
theorem r_sipush (hC : OK X l D cy rm cc nL Ts own) {z : Int} {v : Int32} (d : decode cc pc = .ok (.sipush z, 3)) (hv : (Int16.ofInt z).toInt32 = v) (kk : GG X nL k n ws lv (pc + 3) (.int v :: st)) : GG X nL k n ws lv pc st := by
  obtain ⟨p, l, e, R, s, m, args, below, meth, c, D, A, Q⟩ := X
  obtain ⟨hx, hb, -⟩ := hC
  exact fun H locs ls hP hD hS hl => lv_sipush hx hb d hv (kk H locs ls hP hD hS hl)
theorem r_lconst (hC : OK X l D cy rm cc nL Ts own) {z : Fin 2} {v : Int64} (d : decode cc pc = .ok (.lconst z, 1)) (hv : Int64.ofNat (z : Nat) = v) (kk : GG X nL k n ws lv (pc + 1) (.long v :: st)) : GG X nL k n ws lv pc st := by
  obtain ⟨p, l, e, R, s, m, args, below, meth, c, D, A, Q⟩ := X
  obtain ⟨hx, hb, -⟩ := hC
  exact fun H locs ls hP hD hS hl => lv_lconst hx hb d hv (kk H locs ls hP hD hS hl)
theorem r_ldc (hC : OK X l D cy rm cc nL Ts own) {index : Nat} {v : Int32} (hm : Cond.constant own index v ∈ Ts) (d : decode cc pc = .ok (.ldc index, 2)) (kk : GG X nL k n ws lv (pc + 2) (.int v :: st)) : GG X nL k n ws lv pc st := by
  obtain ⟨p, l, e, R, s, m, args, below, meth, c, D, A, Q⟩ := X
  obtain ⟨hx, hb, -, hown, hts, -⟩ := hC
  exact fun H locs ls hP hD hS hl => lv_ldc hx hb hown (hts _ hm) d (kk H locs ls hP hD hS hl)
theorem r_ldc2 (hC : OK X l D cy rm cc nL Ts own) {index : Nat} {v : Int64} (hm : Cond.constantLong own index v ∈ Ts) (d : decode cc pc = .ok (.ldc2_w index, 3)) (kk : GG X nL k n ws lv (pc + 3) (.long v :: st)) : GG X nL k n ws lv pc st := by
  obtain ⟨p, l, e, R, s, m, args, below, meth, c, D, A, Q⟩ := X
  obtain ⟨hx, hb, -, hown, hts, -⟩ := hC
  exact fun H locs ls hP hD hS hl => lv_ldc2 hx hb hown (hts _ hm) d (kk H locs ls hP hD hS hl)
theorem r_iload_n (hC : OK X l D cy rm cc nL Ts own) {j : Fin 4} {i : Nat} {x : Int32} (d : decode cc pc = .ok (.iload_n j, 1)) (hi : (j : Nat) = i) (a : Nat) (ha : lv[a]? = some (i, .int x)) (kk : GG X nL k n ws lv (pc + 1) (.int x :: st)) : GG X nL k n ws lv pc st := by
  obtain ⟨p, l, e, R, s, m, args, below, meth, c, D, A, Q⟩ := X
  obtain ⟨hx, hb, -⟩ := hC
  exact fun H locs ls hP hD hS hl => lv_iload_n hx hb d hi (lv_at hl a ha) (kk H locs ls hP hD hS hl)
theorem r_iload (hC : OK X l D cy rm cc nL Ts own) {i : Nat} {x : Int32} (d : decode cc pc = .ok (.iload i, 2)) (a : Nat) (ha : lv[a]? = some (i, .int x)) (kk : GG X nL k n ws lv (pc + 2) (.int x :: st)) : GG X nL k n ws lv pc st := by
  obtain ⟨p, l, e, R, s, m, args, below, meth, c, D, A, Q⟩ := X
  obtain ⟨hx, hb, -⟩ := hC
  exact fun H locs ls hP hD hS hl => lv_iload hx hb d (lv_at hl a ha) (kk H locs ls hP hD hS hl)
theorem r_lload_n (hC : OK X l D cy rm cc nL Ts own) {j : Fin 4} {i : Nat} {x : Int64} (d : decode cc pc = .ok (.lload_n j, 1)) (hi : (j : Nat) = i) (a : Nat) (ha : lv[a]? = some (i, .long x)) (kk : GG X nL k n ws lv (pc + 1) (.long x :: st)) : GG X nL k n ws lv pc st := by
  obtain ⟨p, l, e, R, s, m, args, below, meth, c, D, A, Q⟩ := X
  obtain ⟨hx, hb, -⟩ := hC
  exact fun H locs ls hP hD hS hl => lv_lload_n hx hb d hi (lv_at hl a ha) (kk H locs ls hP hD hS hl)
theorem r_lload (hC : OK X l D cy rm cc nL Ts own) {i : Nat} {x : Int64} (d : decode cc pc = .ok (.lload i, 2)) (a : Nat) (ha : lv[a]? = some (i, .long x)) (kk : GG X nL k n ws lv (pc + 2) (.long x :: st)) : GG X nL k n ws lv pc st := by
  obtain ⟨p, l, e, R, s, m, args, below, meth, c, D, A, Q⟩ := X
  obtain ⟨hx, hb, -⟩ := hC
  exact fun H locs ls hP hD hS hl => lv_lload hx hb d (lv_at hl a ha) (kk H locs ls hP hD hS hl)
theorem r_aload_n (hC : OK X l D cy rm cc nL Ts own) {j : Fin 4} {i : Nat} {x : Nat} (d : decode cc pc = .ok (.aload_n j, 1)) (hi : (j : Nat) = i) (a : Nat) (ha : lv[a]? = some (i, .ref x)) (kk : GG X nL k n ws lv (pc + 1) (.ref x :: st)) : GG X nL k n ws lv pc st := by
  obtain ⟨p, l, e, R, s, m, args, below, meth, c, D, A, Q⟩ := X
  obtain ⟨hx, hb, -⟩ := hC
  exact fun H locs ls hP hD hS hl => lv_aload_n hx hb d hi (lv_at hl a ha) (kk H locs ls hP hD hS hl)
theorem r_istore_n (hC : OK X l D cy rm cc nL Ts own) {j : Fin 4} {i : Nat} {x : Int32} (lv' : List (Nat × Value)) (d : decode cc pc = .ok (.istore_n j, 1)) (hi : (j : Nat) = i) (hn : i < nL) (hl : (i, Value.int x) :: lv.filter (fun q => !(q.1 == i) && !(q.1 + 1 == i && q.2.category == 2)) = lv') (kk : GG X nL k n ws lv' (pc + 1) st) : GG X nL k n ws lv pc (.int x :: st) := by
  obtain ⟨p, l, e, R, s, m, args, below, meth, c, D, A, Q⟩ := X
  obtain ⟨hx, hb, -⟩ := hC
  exact fun H locs ls hP hD hS h => lv_istore_n hx hb d hi h hn hl (fun ls' h' => kk H locs ls' hP hD hS h')
theorem r_istore (hC : OK X l D cy rm cc nL Ts own) {i : Nat} {x : Int32} (lv' : List (Nat × Value)) (d : decode cc pc = .ok (.istore i, 2)) (hn : i < nL) (hl : (i, Value.int x) :: lv.filter (fun q => !(q.1 == i) && !(q.1 + 1 == i && q.2.category == 2)) = lv') (kk : GG X nL k n ws lv' (pc + 2) st) : GG X nL k n ws lv pc (.int x :: st) := by
  obtain ⟨p, l, e, R, s, m, args, below, meth, c, D, A, Q⟩ := X
  obtain ⟨hx, hb, -⟩ := hC
  exact fun H locs ls hP hD hS h => lv_istore hx hb d h hn hl (fun ls' h' => kk H locs ls' hP hD hS h')
theorem r_lstore_n (hC : OK X l D cy rm cc nL Ts own) {j : Fin 4} {i : Nat} {x : Int64} (lv' : List (Nat × Value)) (d : decode cc pc = .ok (.lstore_n j, 1)) (hi : (j : Nat) = i) (hn : i + 1 < nL) (hl : (i, Value.long x) :: lv.filter (fun q => !(q.1 == i) && (!(q.1 == i + 1) && !(q.1 + 1 == i && q.2.category == 2))) = lv') (kk : GG X nL k n ws lv' (pc + 1) st) : GG X nL k n ws lv pc (.long x :: st) := by
  obtain ⟨p, l, e, R, s, m, args, below, meth, c, D, A, Q⟩ := X
  obtain ⟨hx, hb, -⟩ := hC
  exact fun H locs ls hP hD hS h => lv_lstore_n hx hb d hi h hn hl (fun ls' h' => kk H locs ls' hP hD hS h')
theorem r_lstore (hC : OK X l D cy rm cc nL Ts own) {i : Nat} {x : Int64} (lv' : List (Nat × Value)) (d : decode cc pc = .ok (.lstore i, 2)) (hn : i + 1 < nL) (hl : (i, Value.long x) :: lv.filter (fun q => !(q.1 == i) && (!(q.1 == i + 1) && !(q.1 + 1 == i && q.2.category == 2))) = lv') (kk : GG X nL k n ws lv' (pc + 2) st) : GG X nL k n ws lv pc (.long x :: st) := by
  obtain ⟨p, l, e, R, s, m, args, below, meth, c, D, A, Q⟩ := X
  obtain ⟨hx, hb, -⟩ := hC
  exact fun H locs ls hP hD hS h => lv_lstore hx hb d h hn hl (fun ls' h' => kk H locs ls' hP hD hS h')
theorem r_astore_n (hC : OK X l D cy rm cc nL Ts own) {j : Fin 4} {i : Nat} {x : Nat} (lv' : List (Nat × Value)) (d : decode cc pc = .ok (.astore_n j, 1)) (hi : (j : Nat) = i) (hn : i < nL) (hl : (i, Value.ref x) :: lv.filter (fun q => !(q.1 == i) && !(q.1 + 1 == i && q.2.category == 2)) = lv') (kk : GG X nL k n ws lv' (pc + 1) st) : GG X nL k n ws lv pc (.ref x :: st) := by
  obtain ⟨p, l, e, R, s, m, args, below, meth, c, D, A, Q⟩ := X
  obtain ⟨hx, hb, -⟩ := hC
  exact fun H locs ls hP hD hS h => lv_astore_n hx hb d hi h hn hl (fun ls' h' => kk H locs ls' hP hD hS h')
theorem r_iinc (hC : OK X l D cy rm cc nL Ts own) {i : Nat} {z : Int} {x : Int32} (lv' : List (Nat × Value)) (v : Int32) (d : decode cc pc = .ok (.iinc i z, 3)) (a : Nat) (ha : lv[a]? = some (i, .int x)) (hv : x + Int32.ofInt z = v) (hn : i < nL) (hl : (i, Value.int v) :: lv.filter (fun q => !(q.1 == i) && !(q.1 + 1 == i && q.2.category == 2)) = lv') (kk : GG X nL k n ws lv' (pc + 3) st) : GG X nL k n ws lv pc st := by
  obtain ⟨p, l, e, R, s, m, args, below, meth, c, D, A, Q⟩ := X
  obtain ⟨hx, hb, -⟩ := hC
  exact fun H locs ls hP hD hS h => lv_iinc hx hb d h ha hv hn hl (fun ls' h' => kk H locs ls' hP hD hS h')
theorem r_sub (lv' : List (Nat × Value)) (ks : List Nat) (hk : lv_pick lv ks = lv') (kk : GG X nL k n ws lv' pc st) : GG X nL k n ws lv pc st := by
  obtain ⟨p, l, e, R, s, m, args, below, meth, c, D, A, Q⟩ := X
  exact fun H locs ls hP hD hS h => kk H locs ls hP hD hS (lv_sub h ks hk)
theorem r_topi {x : Int32} (kk : ∀ y : Int32, y = x → GG X nL k n ws lv pc (.int y :: st)) : GG X nL k n ws lv pc (.int x :: st) := kk x rfl
theorem r_topl {x : Int64} (kk : ∀ y : Int64, y = x → GG X nL k n ws lv pc (.long y :: st)) : GG X nL k n ws lv pc (.long x :: st) := kk x rfl
theorem r_iadd (hC : OK X l D cy rm cc nL Ts own) {x y : Int32} (d : decode cc pc = .ok (.iadd, 1)) (kk : GG X nL k n ws lv (pc + 1) (.int (x + y) :: st)) : GG X nL k n ws lv pc (.int y :: .int x :: st) := by
  obtain ⟨p, l, e, R, s, m, args, below, meth, c, D, A, Q⟩ := X
  obtain ⟨hx, hb, -⟩ := hC
  exact fun H locs ls hP hD hS hl => lv_iadd hx hb d (kk H locs ls hP hD hS hl)
theorem r_isub (hC : OK X l D cy rm cc nL Ts own) {x y : Int32} (d : decode cc pc = .ok (.isub, 1)) (kk : GG X nL k n ws lv (pc + 1) (.int (x - y) :: st)) : GG X nL k n ws lv pc (.int y :: .int x :: st) := by
  obtain ⟨p, l, e, R, s, m, args, below, meth, c, D, A, Q⟩ := X
  obtain ⟨hx, hb, -⟩ := hC
  exact fun H locs ls hP hD hS hl => lv_isub hx hb d (kk H locs ls hP hD hS hl)
theorem r_imul (hC : OK X l D cy rm cc nL Ts own) {x y : Int32} (d : decode cc pc = .ok (.imul, 1)) (kk : GG X nL k n ws lv (pc + 1) (.int (x * y) :: st)) : GG X nL k n ws lv pc (.int y :: .int x :: st) := by
  obtain ⟨p, l, e, R, s, m, args, below, meth, c, D, A, Q⟩ := X
  obtain ⟨hx, hb, -⟩ := hC
  exact fun H locs ls hP hD hS hl => lv_imul hx hb d (kk H locs ls hP hD hS hl)
theorem r_iand (hC : OK X l D cy rm cc nL Ts own) {x y : Int32} (d : decode cc pc = .ok (.iand, 1)) (kk : GG X nL k n ws lv (pc + 1) (.int (x &&& y) :: st)) : GG X nL k n ws lv pc (.int y :: .int x :: st) := by
  obtain ⟨p, l, e, R, s, m, args, below, meth, c, D, A, Q⟩ := X
  obtain ⟨hx, hb, -⟩ := hC
  exact fun H locs ls hP hD hS hl => lv_iand hx hb d (kk H locs ls hP hD hS hl)
theorem r_ior (hC : OK X l D cy rm cc nL Ts own) {x y : Int32} (d : decode cc pc = .ok (.ior, 1)) (kk : GG X nL k n ws lv (pc + 1) (.int (x ||| y) :: st)) : GG X nL k n ws lv pc (.int y :: .int x :: st) := by
  obtain ⟨p, l, e, R, s, m, args, below, meth, c, D, A, Q⟩ := X
  obtain ⟨hx, hb, -⟩ := hC
  exact fun H locs ls hP hD hS hl => lv_ior hx hb d (kk H locs ls hP hD hS hl)
theorem r_ixor (hC : OK X l D cy rm cc nL Ts own) {x y : Int32} (d : decode cc pc = .ok (.ixor, 1)) (kk : GG X nL k n ws lv (pc + 1) (.int (x ^^^ y) :: st)) : GG X nL k n ws lv pc (.int y :: .int x :: st) := by
  obtain ⟨p, l, e, R, s, m, args, below, meth, c, D, A, Q⟩ := X
  obtain ⟨hx, hb, -⟩ := hC
  exact fun H locs ls hP hD hS hl => lv_ixor hx hb d (kk H locs ls hP hD hS hl)
theorem r_ishl (hC : OK X l D cy rm cc nL Ts own) {x y : Int32} (d : decode cc pc = .ok (.ishl, 1)) (kk : GG X nL k n ws lv (pc + 1) (.int (x <<< (y &&& 31)) :: st)) : GG X nL k n ws lv pc (.int y :: .int x :: st) := by
  obtain ⟨p, l, e, R, s, m, args, below, meth, c, D, A, Q⟩ := X
  obtain ⟨hx, hb, -⟩ := hC
  exact fun H locs ls hP hD hS hl => lv_ishl hx hb d (kk H locs ls hP hD hS hl)
theorem r_ishr (hC : OK X l D cy rm cc nL Ts own) {x y : Int32} (d : decode cc pc = .ok (.ishr, 1)) (kk : GG X nL k n ws lv (pc + 1) (.int (x >>> (y &&& 31)) :: st)) : GG X nL k n ws lv pc (.int y :: .int x :: st) := by
  obtain ⟨p, l, e, R, s, m, args, below, meth, c, D, A, Q⟩ := X
  obtain ⟨hx, hb, -⟩ := hC
  exact fun H locs ls hP hD hS hl => lv_ishr hx hb d (kk H locs ls hP hD hS hl)
theorem r_ladd (hC : OK X l D cy rm cc nL Ts own) {x y : Int64} (d : decode cc pc = .ok (.ladd, 1)) (kk : GG X nL k n ws lv (pc + 1) (.long (x + y) :: st)) : GG X nL k n ws lv pc (.long y :: .long x :: st) := by
  obtain ⟨p, l, e, R, s, m, args, below, meth, c, D, A, Q⟩ := X
  obtain ⟨hx, hb, -⟩ := hC
  exact fun H locs ls hP hD hS hl => lv_ladd hx hb d (kk H locs ls hP hD hS hl)
theorem r_lsub (hC : OK X l D cy rm cc nL Ts own) {x y : Int64} (d : decode cc pc = .ok (.lsub, 1)) (kk : GG X nL k n ws lv (pc + 1) (.long (x - y) :: st)) : GG X nL k n ws lv pc (.long y :: .long x :: st) := by
  obtain ⟨p, l, e, R, s, m, args, below, meth, c, D, A, Q⟩ := X
  obtain ⟨hx, hb, -⟩ := hC
  exact fun H locs ls hP hD hS hl => lv_lsub hx hb d (kk H locs ls hP hD hS hl)
theorem r_lmul (hC : OK X l D cy rm cc nL Ts own) {x y : Int64} (d : decode cc pc = .ok (.lmul, 1)) (kk : GG X nL k n ws lv (pc + 1) (.long (x * y) :: st)) : GG X nL k n ws lv pc (.long y :: .long x :: st) := by
  obtain ⟨p, l, e, R, s, m, args, below, meth, c, D, A, Q⟩ := X
  obtain ⟨hx, hb, -⟩ := hC
  exact fun H locs ls hP hD hS hl => lv_lmul hx hb d (kk H locs ls hP hD hS hl)
theorem r_idiv (hC : OK X l D cy rm cc nL Ts own) {x y : Int32} (d : decode cc pc = .ok (.idiv, 1)) (hne : ¬ y = 0) (kk : GG X nL k n ws lv (pc + 1) (.int (x / y) :: st)) : GG X nL k n ws lv pc (.int y :: .int x :: st) := by
  obtain ⟨p, l, e, R, s, m, args, below, meth, c, D, A, Q⟩ := X
  obtain ⟨hx, hb, -⟩ := hC
  exact fun H locs ls hP hD hS hl => lv_idiv hx hb d hne (kk H locs ls hP hD hS hl)
theorem r_irem (hC : OK X l D cy rm cc nL Ts own) {x y : Int32} (d : decode cc pc = .ok (.irem, 1)) (hne : ¬ y = 0) (kk : GG X nL k n ws lv (pc + 1) (.int (x - x / y * y) :: st)) : GG X nL k n ws lv pc (.int y :: .int x :: st) := by
  obtain ⟨p, l, e, R, s, m, args, below, meth, c, D, A, Q⟩ := X
  obtain ⟨hx, hb, -⟩ := hC
  exact fun H locs ls hP hD hS hl => lv_irem hx hb d hne (kk H locs ls hP hD hS hl)
theorem r_ldiv (hC : OK X l D cy rm cc nL Ts own) {x y : Int64} (d : decode cc pc = .ok (.ldiv, 1)) (hne : ¬ y = 0) (kk : GG X nL k n ws lv (pc + 1) (.long (x / y) :: st)) : GG X nL k n ws lv pc (.long y :: .long x :: st) := by
  obtain ⟨p, l, e, R, s, m, args, below, meth, c, D, A, Q⟩ := X
  obtain ⟨hx, hb, -⟩ := hC
  exact fun H locs ls hP hD hS hl => lv_ldiv hx hb d hne (kk H locs ls hP hD hS hl)
theorem r_lrem (hC : OK X l D cy rm cc nL Ts own) {x y : Int64} (d : decode cc pc = .ok (.lrem, 1)) (hne : ¬ y = 0) (kk : GG X nL k n ws lv (pc + 1) (.long (x - x / y * y) :: st)) : GG X nL k n ws lv pc (.long y :: .long x :: st) := by
  obtain ⟨p, l, e, R, s, m, args, below, meth, c, D, A, Q⟩ := X
  obtain ⟨hx, hb, -⟩ := hC
  exact fun H locs ls hP hD hS hl => lv_lrem hx hb d hne (kk H locs ls hP hD hS hl)
theorem r_ineg (hC : OK X l D cy rm cc nL Ts own) {x : Int32} (d : decode cc pc = .ok (.ineg, 1)) (kk : GG X nL k n ws lv (pc + 1) (.int (-x) :: st)) : GG X nL k n ws lv pc (.int x :: st) := by
  obtain ⟨p, l, e, R, s, m, args, below, meth, c, D, A, Q⟩ := X
  obtain ⟨hx, hb, -⟩ := hC
  exact fun H locs ls hP hD hS hl => lv_ineg hx hb d (kk H locs ls hP hD hS hl)
theorem r_i2l (hC : OK X l D cy rm cc nL Ts own) {x : Int32} (d : decode cc pc = .ok (.i2l, 1)) (kk : GG X nL k n ws lv (pc + 1) (.long (x.toInt64) :: st)) : GG X nL k n ws lv pc (.int x :: st) := by
  obtain ⟨p, l, e, R, s, m, args, below, meth, c, D, A, Q⟩ := X
  obtain ⟨hx, hb, -⟩ := hC
  exact fun H locs ls hP hD hS hl => lv_i2l hx hb d rfl (kk H locs ls hP hD hS hl)
theorem r_l2i (hC : OK X l D cy rm cc nL Ts own) {x : Int64} (d : decode cc pc = .ok (.l2i, 1)) (kk : GG X nL k n ws lv (pc + 1) (.int (x.toInt32) :: st)) : GG X nL k n ws lv pc (.long x :: st) := by
  obtain ⟨p, l, e, R, s, m, args, below, meth, c, D, A, Q⟩ := X
  obtain ⟨hx, hb, -⟩ := hC
  exact fun H locs ls hP hD hS hl => lv_l2i hx hb d rfl (kk H locs ls hP hD hS hl)
theorem r_i2b (hC : OK X l D cy rm cc nL Ts own) {x : Int32} (d : decode cc pc = .ok (.i2b, 1)) (kk : GG X nL k n ws lv (pc + 1) (.int (x.toInt8.toInt32) :: st)) : GG X nL k n ws lv pc (.int x :: st) := by
  obtain ⟨p, l, e, R, s, m, args, below, meth, c, D, A, Q⟩ := X
  obtain ⟨hx, hb, -⟩ := hC
  exact fun H locs ls hP hD hS hl => lv_i2b hx hb d rfl (kk H locs ls hP hD hS hl)
theorem r_lshl (hC : OK X l D cy rm cc nL Ts own) {x : Int64} {y : Int32} (d : decode cc pc = .ok (.lshl, 1)) (kk : GG X nL k n ws lv (pc + 1) (.long (x <<< (y.toInt64 &&& 63)) :: st)) : GG X nL k n ws lv pc (.int y :: .long x :: st) := by
  obtain ⟨p, l, e, R, s, m, args, below, meth, c, D, A, Q⟩ := X
  obtain ⟨hx, hb, -⟩ := hC
  exact fun H locs ls hP hD hS hl => lv_lshl hx hb d rfl (kk H locs ls hP hD hS hl)
theorem r_lcmp (hC : OK X l D cy rm cc nL Ts own) {x y : Int64} (d : decode cc pc = .ok (.lcmp, 1)) (kk : GG X nL k n ws lv (pc + 1) (.int (lg_cmp x y) :: st)) : GG X nL k n ws lv pc (.long y :: .long x :: st) := by
  obtain ⟨p, l, e, R, s, m, args, below, meth, c, D, A, Q⟩ := X
  obtain ⟨hx, hb, -⟩ := hC
  exact fun H locs ls hP hD hS hl => W.lcmp hx hb d (kk H locs ls hP hD hS hl)
theorem r_dup (hC : OK X l D cy rm cc nL Ts own) {v : Value} (d : decode cc pc = .ok (.dup, 1)) (hv : v.category = 1) (kk : GG X nL k n ws lv (pc + 1) (v :: v :: st)) : GG X nL k n ws lv pc (v :: st) := by
  obtain ⟨p, l, e, R, s, m, args, below, meth, c, D, A, Q⟩ := X
  obtain ⟨hx, hb, -⟩ := hC
  exact fun H locs ls hP hD hS hl => lv_dup hx hb d hv (kk H locs ls hP hD hS hl)
theorem r_dup2 (hC : OK X l D cy rm cc nL Ts own) {v w : Value} (d : decode cc pc = .ok (.dup2, 1)) (hv : v.category = 1) (hw : w.category = 1) (kk : GG X nL k n ws lv (pc + 1) (v :: w :: v :: w :: st)) : GG X nL k n ws lv pc (v :: w :: st) := by
  obtain ⟨p, l, e, R, s, m, args, below, meth, c, D, A, Q⟩ := X
  obtain ⟨hx, hb, -⟩ := hC
  exact fun H locs ls hP hD hS hl => lv_dup2_11 hx hb d hv hw (kk H locs ls hP hD hS hl)
theorem r_if_eq (hC : OK X l D cy rm cc nL Ts own) {x : Int32} {off : Int} {tgt : Nat} (d : decode cc pc = .ok (.ifCond .eq off, 3)) (ht : (pc : Int) + off = (tgt : Int)) (kt : x = 0 → GG X nL k n ws lv tgt st) (kf : ¬ x = 0 → GG X nL k n ws lv (pc + 3) st) : GG X nL k n ws lv pc (.int x :: st) := by
  obtain ⟨p, l, e, R, s, m, args, below, meth, c, D, A, Q⟩ := X
  obtain ⟨hx, hb, -⟩ := hC
  exact fun H locs ls hP hD hS hl => lv_if_eq hx hb d ht (fun c => kt c H locs ls hP hD hS hl) (fun c => kf c H locs ls hP hD hS hl)
theorem r_icmp_eq (hC : OK X l D cy rm cc nL Ts own) {x y : Int32} {off : Int} {tgt : Nat} (d : decode cc pc = .ok (.if_icmp .eq off, 3)) (ht : (pc : Int) + off = (tgt : Int)) (kt : x = y → GG X nL k n ws lv tgt st) (kf : ¬ x = y → GG X nL k n ws lv (pc + 3) st) : GG X nL k n ws lv pc (.int y :: .int x :: st) := by
  obtain ⟨p, l, e, R, s, m, args, below, meth, c, D, A, Q⟩ := X
  obtain ⟨hx, hb, -⟩ := hC
  exact fun H locs ls hP hD hS hl => lv_icmp_eq hx hb d ht (fun c => kt c H locs ls hP hD hS hl) (fun c => kf c H locs ls hP hD hS hl)
theorem r_if_ne (hC : OK X l D cy rm cc nL Ts own) {x : Int32} {off : Int} {tgt : Nat} (d : decode cc pc = .ok (.ifCond .ne off, 3)) (ht : (pc : Int) + off = (tgt : Int)) (kt : ¬ x = 0 → GG X nL k n ws lv tgt st) (kf : x = 0 → GG X nL k n ws lv (pc + 3) st) : GG X nL k n ws lv pc (.int x :: st) := by
  obtain ⟨p, l, e, R, s, m, args, below, meth, c, D, A, Q⟩ := X
  obtain ⟨hx, hb, -⟩ := hC
  exact fun H locs ls hP hD hS hl => lv_if_ne hx hb d ht (fun c => kt c H locs ls hP hD hS hl) (fun c => kf c H locs ls hP hD hS hl)
theorem r_icmp_ne (hC : OK X l D cy rm cc nL Ts own) {x y : Int32} {off : Int} {tgt : Nat} (d : decode cc pc = .ok (.if_icmp .ne off, 3)) (ht : (pc : Int) + off = (tgt : Int)) (kt : ¬ x = y → GG X nL k n ws lv tgt st) (kf : x = y → GG X nL k n ws lv (pc + 3) st) : GG X nL k n ws lv pc (.int y :: .int x :: st) := by
  obtain ⟨p, l, e, R, s, m, args, below, meth, c, D, A, Q⟩ := X
  obtain ⟨hx, hb, -⟩ := hC
  exact fun H locs ls hP hD hS hl => lv_icmp_ne hx hb d ht (fun c => kt c H locs ls hP hD hS hl) (fun c => kf c H locs ls hP hD hS hl)
theorem r_if_lt (hC : OK X l D cy rm cc nL Ts own) {x : Int32} {off : Int} {tgt : Nat} (d : decode cc pc = .ok (.ifCond .lt off, 3)) (ht : (pc : Int) + off = (tgt : Int)) (kt : x < 0 → GG X nL k n ws lv tgt st) (kf : ¬ x < 0 → GG X nL k n ws lv (pc + 3) st) : GG X nL k n ws lv pc (.int x :: st) := by
  obtain ⟨p, l, e, R, s, m, args, below, meth, c, D, A, Q⟩ := X
  obtain ⟨hx, hb, -⟩ := hC
  exact fun H locs ls hP hD hS hl => lv_if_lt hx hb d ht (fun c => kt c H locs ls hP hD hS hl) (fun c => kf c H locs ls hP hD hS hl)
theorem r_icmp_lt (hC : OK X l D cy rm cc nL Ts own) {x y : Int32} {off : Int} {tgt : Nat} (d : decode cc pc = .ok (.if_icmp .lt off, 3)) (ht : (pc : Int) + off = (tgt : Int)) (kt : x < y → GG X nL k n ws lv tgt st) (kf : ¬ x < y → GG X nL k n ws lv (pc + 3) st) : GG X nL k n ws lv pc (.int y :: .int x :: st) := by
  obtain ⟨p, l, e, R, s, m, args, below, meth, c, D, A, Q⟩ := X
  obtain ⟨hx, hb, -⟩ := hC
  exact fun H locs ls hP hD hS hl => lv_icmp_lt hx hb d ht (fun c => kt c H locs ls hP hD hS hl) (fun c => kf c H locs ls hP hD hS hl)
theorem r_if_ge (hC : OK X l D cy rm cc nL Ts own) {x : Int32} {off : Int} {tgt : Nat} (d : decode cc pc = .ok (.ifCond .ge off, 3)) (ht : (pc : Int) + off = (tgt : Int)) (kt : 0 ≤ x → GG X nL k n ws lv tgt st) (kf : ¬ 0 ≤ x → GG X nL k n ws lv (pc + 3) st) : GG X nL k n ws lv pc (.int x :: st) := by
  obtain ⟨p, l, e, R, s, m, args, below, meth, c, D, A, Q⟩ := X
  obtain ⟨hx, hb, -⟩ := hC
  exact fun H locs ls hP hD hS hl => lv_if_ge hx hb d ht (fun c => kt c H locs ls hP hD hS hl) (fun c => kf c H locs ls hP hD hS hl)
theorem r_icmp_ge (hC : OK X l D cy rm cc nL Ts own) {x y : Int32} {off : Int} {tgt : Nat} (d : decode cc pc = .ok (.if_icmp .ge off, 3)) (ht : (pc : Int) + off = (tgt : Int)) (kt : y ≤ x → GG X nL k n ws lv tgt st) (kf : ¬ y ≤ x → GG X nL k n ws lv (pc + 3) st) : GG X nL k n ws lv pc (.int y :: .int x :: st) := by
  obtain ⟨p, l, e, R, s, m, args, below, meth, c, D, A, Q⟩ := X
  obtain ⟨hx, hb, -⟩ := hC
  exact fun H locs ls hP hD hS hl => lv_icmp_ge hx hb d ht (fun c => kt c H locs ls hP hD hS hl) (fun c => kf c H locs ls hP hD hS hl)
theorem r_if_gt (hC : OK X l D cy rm cc nL Ts own) {x : Int32} {off : Int} {tgt : Nat} (d : decode cc pc = .ok (.ifCond .gt off, 3)) (ht : (pc : Int) + off = (tgt : Int)) (kt : 0 < x → GG X nL k n ws lv tgt st) (kf : ¬ 0 < x → GG X nL k n ws lv (pc + 3) st) : GG X nL k n ws lv pc (.int x :: st) := by
  obtain ⟨p, l, e, R, s, m, args, below, meth, c, D, A, Q⟩ := X
  obtain ⟨hx, hb, -⟩ := hC
  exact fun H locs ls hP hD hS hl => lv_if_gt hx hb d ht (fun c => kt c H locs ls hP hD hS hl) (fun c => kf c H locs ls hP hD hS hl)
theorem r_icmp_gt (hC : OK X l D cy rm cc nL Ts own) {x y : Int32} {off : Int} {tgt : Nat} (d : decode cc pc = .ok (.if_icmp .gt off, 3)) (ht : (pc : Int) + off = (tgt : Int)) (kt : y < x → GG X nL k n ws lv tgt st) (kf : ¬ y < x → GG X nL k n ws lv (pc + 3) st) : GG X nL k n ws lv pc (.int y :: .int x :: st) := by
  obtain ⟨p, l, e, R, s, m, args, below, meth, c, D, A, Q⟩ := X
  obtain ⟨hx, hb, -⟩ := hC
  exact fun H locs ls hP hD hS hl => lv_icmp_gt hx hb d ht (fun c => kt c H locs ls hP hD hS hl) (fun c => kf c H locs ls hP hD hS hl)
theorem r_if_le (hC : OK X l D cy rm cc nL Ts own) {x : Int32} {off : Int} {tgt : Nat} (d : decode cc pc = .ok (.ifCond .le off, 3)) (ht : (pc : Int) + off = (tgt : Int)) (kt : x ≤ 0 → GG X nL k n ws lv tgt st) (kf : ¬ x ≤ 0 → GG X nL k n ws lv (pc + 3) st) : GG X nL k n ws lv pc (.int x :: st) := by
  obtain ⟨p, l, e, R, s, m, args, below, meth, c, D, A, Q⟩ := X
  obtain ⟨hx, hb, -⟩ := hC
  exact fun H locs ls hP hD hS hl => lv_if_le hx hb d ht (fun c => kt c H locs ls hP hD hS hl) (fun c => kf c H locs ls hP hD hS hl)
theorem r_icmp_le (hC : OK X l D cy rm cc nL Ts own) {x y : Int32} {off : Int} {tgt : Nat} (d : decode cc pc = .ok (.if_icmp .le off, 3)) (ht : (pc : Int) + off = (tgt : Int)) (kt : x ≤ y → GG X nL k n ws lv tgt st) (kf : ¬ x ≤ y → GG X nL k n ws lv (pc + 3) st) : GG X nL k n ws lv pc (.int y :: .int x :: st) := by
  obtain ⟨p, l, e, R, s, m, args, below, meth, c, D, A, Q⟩ := X
  obtain ⟨hx, hb, -⟩ := hC
  exact fun H locs ls hP hD hS hl => lv_icmp_le hx hb d ht (fun c => kt c H locs ls hP hD hS hl) (fun c => kf c H locs ls hP hD hS hl)
theorem r_goto (hC : OK X l D cy rm cc nL Ts own) {off : Int} {tgt : Nat} (d : decode cc pc = .ok (.goto off, 3)) (ht : (pc : Int) + off = (tgt : Int)) (kk : GG X nL k n ws lv tgt st) : GG X nL k n ws lv pc st := by
  obtain ⟨p, l, e, R, s, m, args, below, meth, c, D, A, Q⟩ := X
  obtain ⟨hx, hb, -⟩ := hC
  exact fun H locs ls hP hD hS hl => lv_goto hx hb d ht (kk H locs ls hP hD hS hl)
theorem r_tableOut (hC : OK X l D cy rm cc nL Ts own) {dflt lo hi : Int} {offs : Array Int} {len : Nat} {x : Int32} {tgt : Nat} (d : decode cc pc = .ok (.tableswitch dflt lo hi offs, len)) (h : x.toInt < lo ∨ hi < x.toInt) (ht : (pc : Int) + dflt = (tgt : Int)) (kk : GG X nL k n ws lv tgt st) : GG X nL k n ws lv pc (.int x :: st) := by
  obtain ⟨p, l, e, R, s, m, args, below, meth, c, D, A, Q⟩ := X
  obtain ⟨hx, hb, -⟩ := hC
  exact fun H locs ls hP hD hS hl => lv_tableOut hx hb d h ht (kk H locs ls hP hD hS hl)
theorem r_tableIn (hC : OK X l D cy rm cc nL Ts own) {dflt lo hi : Int} {offs : Array Int} {len : Nat} {x : Int32} {off : Int} {tgt : Nat} (d : decode cc pc = .ok (.tableswitch dflt lo hi offs, len)) (h1 : ¬ x.toInt < lo) (h2 : ¬ hi < x.toInt) (ho : offs[(x.toInt - lo).toNat]? = some off) (ht : (pc : Int) + off = (tgt : Int)) (kk : GG X nL k n ws lv tgt st) : GG X nL k n ws lv pc (.int x :: st) := by
  obtain ⟨p, l, e, R, s, m, args, below, meth, c, D, A, Q⟩ := X
  obtain ⟨hx, hb, -⟩ := hC
  exact fun H locs ls hP hD hS hl => lv_tableIn hx hb d h1 h2 ho ht (kk H locs ls hP hD hS hl)
theorem r_get (hC : OK X l D cy rm cc nL Ts own) {a : Nat} {ref C : String} {T : u_T} {N ci index : Nat} (hin : ∀ w ∈ u_ws C T N, w ∈ Ts) (q0 : Nat) {fs : List Value} (he : ws[q0]? = some (a, .inr (ci, fs))) (hc : vwCl[ci]? = some (C, T, N)) (j : Nat) (hj : j < N) (href : (T j).1 = ref) (hlink : Cond.fieldLink own index ref (T j).2.1 (T j).2.2.1 ∈ Ts) {v : Value} (hv : fs[j]? = some v) (d : decode cc pc = .ok (.getfield index, 3)) (kk : GG X nL k n ws lv (pc + 3) (v :: st)) : GG X nL k n ws lv pc (.ref a :: st) := by
  obtain ⟨p, l, e, R, s, m, args, below, meth, c, D, A, Q⟩ := X
  obtain ⟨hx, hb, hml, hown, hts, hK, hA, rfl, rfl, rfl⟩ := hC
  subst href
  exact fun H locs ls hP hD hS hl => va_get hx hb hts hin hown hK hP q0 he hc j hj (hts _ hlink) (fun _ h => h) hv d (kk H locs ls hP hD hS hl)
theorem r_put (hC : OK X l D cy rm cc nL Ts own) {a : Nat} {ref C : String} {T : u_T} {N ci index : Nat} (hin : ∀ w ∈ u_ws C T N, w ∈ Ts) {ty0 : Nat → FieldType} (hty : ∀ k, k < N → parseFieldDescriptor (T k).2.2.1 = some (ty0 k)) (hnm : ∀ a, a < N → ∀ b, b < N → a ≠ b → (T a).2.1 ≠ (T b).2.1) (q0 : Nat) {fs : List Value} (he : ws[q0]? = some (a, .inr (ci, fs))) (hc : vwCl[ci]? = some (C, T, N)) (j : Nat) (hj : j < N) (href : (T j).1 = ref) (hlink : Cond.fieldLink own index ref (T j).2.1 (T j).2.2.1 ∈ Ts) (hfin : (T j).2.2.2 = false) {ty : FieldType} {v : Value} (hd : parseFieldDescriptor (T j).2.2.1 = some ty) (hn : narrow ty v = v) (hfit : fits ty v = true) (hl0 : j < fs.length) (d : decode cc pc = .ok (.putfield index, 3)) (ws' : va_W) (hws : ws.set q0 (a, .inr (ci, fs.set j v)) = ws') (kk : GG X nL k n ws' lv (pc + 3) st) : GG X nL k n ws lv pc (v :: .ref a :: st) := by
  obtain ⟨p, l, e, R, s, m, args, below, meth, c, D, A, Q⟩ := X
  obtain ⟨hx, hb, hml, hown, hts, hK, hA, rfl, rfl, rfl⟩ := hC
  subst href hws
  exact fun H locs ls hP hD hS hl => va_put hx hb hts hin ty0 hty hnm hown hK hP hD hS q0 he hc j hj (hts _ hlink) (fun _ h => h) hfin hd hn hfit hl0 d (fun H1 locs1 hP hD hS => kk H1 locs1 ls hP hD hS hl)
theorem r_putF (hC : OK X l D cy rm cc nL Ts own) {a : Nat} {ref C : String} {T : u_T} {N ci index : Nat} (hin : ∀ w ∈ u_ws C T N, w ∈ Ts) {ty0 : Nat → FieldType} (hty : ∀ k, k < N → parseFieldDescriptor (T k).2.2.1 = some (ty0 k)) (hnm : ∀ a, a < N → ∀ b, b < N → a ≠ b → (T a).2.1 ≠ (T b).2.1) (hini : X.2.2.2.2.2.2.2.2.1.name = "<init>") (q0 : Nat) {fs : List Value} (he : ws[q0]? = some (a, .inr (ci, fs))) (hc : vwCl[ci]? = some (C, T, N)) (j : Nat) (hj : j < N) (href : (T j).1 = ref) (hdecl : (T j).1 = own) (hlink : Cond.fieldLink own index ref (T j).2.1 (T j).2.2.1 ∈ Ts) (hfin : (T j).2.2.2 = true) {ty : FieldType} {v : Value} (hd : parseFieldDescriptor (T j).2.2.1 = some ty) (hn : narrow ty v = v) (hfit : fits ty v = true) (hl0 : j < fs.length) (d : decode cc pc = .ok (.putfield index, 3)) (ws' : va_W) (hws : ws.set q0 (a, .inr (ci, fs.set j v)) = ws') (kk : GG X nL k n ws' lv (pc + 3) st) : GG X nL k n ws lv pc (v :: .ref a :: st) := by
  obtain ⟨p, l, e, R, s, m, args, below, meth, c, D, A, Q⟩ := X
  obtain ⟨hx, hb, hml, hown, hts, hK, hA, rfl, rfl, rfl⟩ := hC
  subst href hws
  exact fun H locs ls hP hD hS hl => va_putF hx hb hts hin ty0 hty hnm hown hK hP hD hS q0 he hc j hj (hts _ hlink) (fun _ h => h) hfin hini hdecl hd hn hfit hl0 d (fun H1 locs1 hP hD hS => kk H1 locs1 ls hP hD hS hl)
theorem r_iald (hC : OK X l D cy rm cc nL Ts own) {a : Nat} (q0 : Nat) {N : Nat} {f : Nat → Int32} (ha : ws[q0]? = some (a, .inl (cy 1, N, .inl f))) {i : Int32} (hin : vp_in i N) (d : decode cc pc = .ok (.iaload, 1)) (kk : GG X nL k n ws lv (pc + 1) (.int (f i.toNatClampNeg) :: st)) : GG X nL k n ws lv pc (.int i :: .ref a :: st) := by
  obtain ⟨p, l, e, R, s, m, args, below, meth, c, D, A, Q⟩ := X
  obtain ⟨hx, hb, hml, hown, hts, hK, hA, rfl, rfl, rfl⟩ := hC
  exact fun H locs ls hP hD hS hl => va_iald hx hb hK hP q0 1 ha rfl hin d (kk H locs ls hP hD hS hl)
theorem r_bald (hC : OK X l D cy rm cc nL Ts own) {a : Nat} (q0 : Nat) {N : Nat} {f : Nat → Int32} (ha : ws[q0]? = some (a, .inl (cy 0, N, .inl f))) {i : Int32} (hin : vp_in i N) (d : decode cc pc = .ok (.baload, 1)) (kk : GG X nL k n ws lv (pc + 1) (.int (f i.toNatClampNeg) :: st)) : GG X nL k n ws lv pc (.int i :: .ref a :: st) := by
  obtain ⟨p, l, e, R, s, m, args, below, meth, c, D, A, Q⟩ := X
  obtain ⟨hx, hb, hml, hown, hts, hK, hA, rfl, rfl, rfl⟩ := hC
  exact fun H locs ls hP hD hS hl => va_bald hx hb hK hP q0 0 ha rfl hin d (kk H locs ls hP hD hS hl)
theorem r_zald (hC : OK X l D cy rm cc nL Ts own) {a : Nat} (q0 : Nat) {N : Nat} {f : Nat → Int32} (ha : ws[q0]? = some (a, .inl (cy 2, N, .inl f))) {i : Int32} (hin : vp_in i N) (d : decode cc pc = .ok (.baload, 1)) (kk : GG X nL k n ws lv (pc + 1) (.int (f i.toNatClampNeg) :: st)) : GG X nL k n ws lv pc (.int i :: .ref a :: st) := by
  obtain ⟨p, l, e, R, s, m, args, below, meth, c, D, A, Q⟩ := X
  obtain ⟨hx, hb, hml, hown, hts, hK, hA, rfl, rfl, rfl⟩ := hC
  exact fun H locs ls hP hD hS hl => va_zald hx hb hK hP q0 2 ha rfl hin d (kk H locs ls hP hD hS hl)
theorem r_iast (hC : OK X l D cy rm cc nL Ts own) {a : Nat} (q0 : Nat) {N : Nat} {f : Nat → Int32} (ha : ws[q0]? = some (a, .inl (cy 1, N, .inl f))) {i x : Int32} (hin : vp_in i N) (d : decode cc pc = .ok (.iastore, 1)) (ws' : va_W) (hws : ws.set q0 (a, .inl (cy 1, N, .inl (upd f i.toNatClampNeg x))) = ws') (kk : GG X nL k n ws' lv (pc + 1) st) : GG X nL k n ws lv pc (.int x :: .int i :: .ref a :: st) := by
  obtain ⟨p, l, e, R, s, m, args, below, meth, c, D, A, Q⟩ := X
  obtain ⟨hx, hb, hml, hown, hts, hK, hA, rfl, rfl, rfl⟩ := hC
  subst hws
  exact fun H locs ls hP hD hS hl => va_iast hx hb hK hP hD hS q0 1 ha rfl hin d (fun H1 locs1 hP hD hS => kk H1 locs1 ls hP hD hS hl)
theorem r_bast (hC : OK X l D cy rm cc nL Ts own) {a : Nat} (q0 : Nat) {N : Nat} {f : Nat → Int32} (ha : ws[q0]? = some (a, .inl (cy 0, N, .inl f))) {i x : Int32} (hin : vp_in i N) (d : decode cc pc = .ok (.bastore, 1)) (ws' : va_W) (hws : ws.set q0 (a, .inl (cy 0, N, .inl (upd f i.toNatClampNeg (vp_nar .byte x)))) = ws') (kk : GG X nL k n ws' lv (pc + 1) st) : GG X nL k n ws lv pc (.int x :: .int i :: .ref a :: st) := by
  obtain ⟨p, l, e, R, s, m, args, below, meth, c, D, A, Q⟩ := X
  obtain ⟨hx, hb, hml, hown, hts, hK, hA, rfl, rfl, rfl⟩ := hC
  subst hws
  exact fun H locs ls hP hD hS hl => va_bast hx hb hK hP hD hS q0 0 ha rfl hin d (fun H1 locs1 hP hD hS => kk H1 locs1 ls hP hD hS hl)
theorem r_zast (hC : OK X l D cy rm cc nL Ts own) {a : Nat} (q0 : Nat) {N : Nat} {f : Nat → Int32} (ha : ws[q0]? = some (a, .inl (cy 2, N, .inl f))) {i x : Int32} (hin : vp_in i N) (d : decode cc pc = .ok (.bastore, 1)) (ws' : va_W) (hws : ws.set q0 (a, .inl (cy 2, N, .inl (upd f i.toNatClampNeg (vp_nar .boolean x)))) = ws') (kk : GG X nL k n ws' lv (pc + 1) st) : GG X nL k n ws lv pc (.int x :: .int i :: .ref a :: st) := by
  obtain ⟨p, l, e, R, s, m, args, below, meth, c, D, A, Q⟩ := X
  obtain ⟨hx, hb, hml, hown, hts, hK, hA, rfl, rfl, rfl⟩ := hC
  subst hws
  exact fun H locs ls hP hD hS hl => va_zast hx hb hK hP hD hS q0 2 ha rfl hin d (fun H1 locs1 hP hD hS => kk H1 locs1 ls hP hD hS hl)
theorem r_mmax (hC : OK X l D cy rm cc nL Ts own) {index : Nat} (h1 : Cond.methodLink own index Lib.Math.max.name ∈ Ts) (h2 : Cond.static Lib.Math.max.name ∈ Ts) (h3 : Cond.initialized "java/lang/Math" ∈ Ts) (h4 : Cond.code Lib.Math.max.name Lib.Math.max.code 2 (some .int) ∈ Ts) (hf : 1 ≤ rm.frames) (hlo : (st.map fun v => v.category).sum + 13 ≤ rm.locals) (hk : k ≤ rm.cells) (hs : n ≤ rm.slots) {x y : Int32} (d : decode cc pc = .ok (.invokestatic index, 3)) (kk : GG X nL k n ws lv (pc + 3) (.int (if x < y then y else x) :: st)) : GG X nL k n ws lv pc (.int y :: .int x :: st) := by
  obtain ⟨p, l, e, R, s, m, args, below, meth, c, D, A, Q⟩ := X
  obtain ⟨hx, hb, hml, hown, hts, hK, hA, rfl, rfl, rfl⟩ := hC
  exact fun H locs ls hP hD hS hl => va_mmax hx hb (by rw [hml]; exact hl.1.symm) hown (hts _ h1) (hts _ h2) (hts _ h3) (hts _ h4) hf hlo hk hs d (kk H locs ls hP hD hS hl)
theorem r_mmin (hC : OK X l D cy rm cc nL Ts own) {index : Nat} (h1 : Cond.methodLink own index Lib.Math.min.name ∈ Ts) (h2 : Cond.static Lib.Math.min.name ∈ Ts) (h3 : Cond.initialized "java/lang/Math" ∈ Ts) (h4 : Cond.code Lib.Math.min.name Lib.Math.min.code 2 (some .int) ∈ Ts) (hf : 1 ≤ rm.frames) (hlo : (st.map fun v => v.category).sum + 13 ≤ rm.locals) (hk : k ≤ rm.cells) (hs : n ≤ rm.slots) {x y : Int32} (d : decode cc pc = .ok (.invokestatic index, 3)) (kk : GG X nL k n ws lv (pc + 3) (.int (if y < x then y else x) :: st)) : GG X nL k n ws lv pc (.int y :: .int x :: st) := by
  obtain ⟨p, l, e, R, s, m, args, below, meth, c, D, A, Q⟩ := X
  obtain ⟨hx, hb, hml, hown, hts, hK, hA, rfl, rfl, rfl⟩ := hC
  exact fun H locs ls hP hD hS hl => va_mmin hx hb (by rw [hml]; exact hl.1.symm) hown (hts _ h1) (hts _ h2) (hts _ h3) (hts _ h4) hf hlo hk hs d (kk H locs ls hP hD hS hl)
theorem r_mabs (hC : OK X l D cy rm cc nL Ts own) {index : Nat} (h1 : Cond.methodLink own index Lib.Math.abs.name ∈ Ts) (h2 : Cond.static Lib.Math.abs.name ∈ Ts) (h3 : Cond.initialized "java/lang/Math" ∈ Ts) (h4 : Cond.code Lib.Math.abs.name Lib.Math.abs.code 1 (some .int) ∈ Ts) (hf : 1 ≤ rm.frames) (hlo : (st.map fun v => v.category).sum + 13 ≤ rm.locals) (hk : k ≤ rm.cells) (hs : n ≤ rm.slots) {x : Int32} (d : decode cc pc = .ok (.invokestatic index, 3)) (kk : GG X nL k n ws lv (pc + 3) (.int (if 0 ≤ x then x else 0 - x) :: st)) : GG X nL k n ws lv pc (.int x :: st) := by
  obtain ⟨p, l, e, R, s, m, args, below, meth, c, D, A, Q⟩ := X
  obtain ⟨hx, hb, hml, hown, hts, hK, hA, rfl, rfl, rfl⟩ := hC
  exact fun H locs ls hP hD hS hl => va_mabs hx hb (by rw [hml]; exact hl.1.symm) hown (hts _ h1) (hts _ h2) (hts _ h3) (hts _ h4) hf hlo hk hs d (kk H locs ls hP hD hS hl)
/-- a part in the middle of a world, changed by a callee -/
theorem seg_join {A0 : Nat → Prop} {D : va_G} {cl : List vw_C} {pre wc post w1 : va_W} {H H1 : Heap} (hP : va_P D cl (pre ++ (wc ++ post)) H) (hD : va_D A0 (pre ++ (wc ++ post))) (hk : ∀ q : Nat, q < H.size → ¬ va_A wc H.size q → H1[q]? = H[q]?) (hF : ∀ q, va_A wc H.size q → A0 q) (hP1 : va_P D cl w1 H1) (hD1 : va_D (va_A wc H.size) w1) : va_P D cl (pre ++ (w1 ++ post)) H1 ∧ va_D A0 (pre ++ (w1 ++ post)) := by
  have ipre : ∀ (k : Nat) (q : Nat × va_E), pre[k]? = some q → (pre ++ (wc ++ post))[k]? = some q := fun k q h => by
    rw [List.getElem?_append_left (List.getElem?_eq_some_iff.mp h).1]; exact h
  have iwc : ∀ (k : Nat) (q : Nat × va_E), wc[k]? = some q → (pre ++ (wc ++ post))[pre.length + k]? = some q := fun k q h => by
    rw [List.getElem?_append_right (by omega), show pre.length + k - pre.length = k by omega, List.getElem?_append_left (List.getElem?_eq_some_iff.mp h).1]; exact h
  have ipost : ∀ (k : Nat) (q : Nat × va_E), post[k]? = some q → (pre ++ (wc ++ post))[pre.length + (wc.length + k)]? = some q := fun k q h => by
    rw [List.getElem?_append_right (by omega), show pre.length + (wc.length + k) - pre.length = wc.length + k by omega, List.getElem?_append_right (by omega), show wc.length + k - wc.length = k by omega]; exact h
  have ap : ∀ (i : Nat) (q : Nat × va_E), (pre ++ (wc ++ post))[i]? = some q → (i < pre.length ∨ pre.length + wc.length ≤ i) → q.1 < H.size ∧ ¬ va_A wc H.size q.1 := by
    intro i q h hi
    have hl := (hP i q h).lt
    refine ⟨hl, fun hh => ?_⟩
    rcases hh with ⟨k2, e, h2⟩ | h2
    · have h3 := hD.1 _ _ _ _ h (iwc k2 _ h2) rfl
      have h4 := (List.getElem?_eq_some_iff.mp h2).1
      omega
    · omega
  have lt : ∀ {w : va_W} {k : Nat} {q : Nat × va_E}, w[k]? = some q → k < w.length := fun h => (List.getElem?_eq_some_iff.mp h).1
  have Ppre : va_P D cl pre H1 := fun k q h => (hP k q (ipre k q h)).kept (by
    obtain ⟨a, b⟩ := ap k q (ipre k q h) (Or.inl (lt h)); exact hk q.1 a b)
  have Ppost : va_P D cl post H1 := fun k q h => (hP _ q (ipost k q h)).kept (by
    obtain ⟨a, b⟩ := ap _ q (ipost k q h) (Or.inr (by omega)); exact hk q.1 a b)
  have Dpre : va_D A0 pre := ⟨fun i j x y hx hy e => hD.1 i j x y (ipre i x hx) (ipre j y hy) e, fun k q h => hD.2 k q (ipre k q h)⟩
  have Dpost : va_D A0 post := ⟨fun i j x y hx hy e => by have := hD.1 _ _ x y (ipost i x hx) (ipost j y hy) e; omega, fun k q h => hD.2 _ q (ipost k q h)⟩
  have D1 : va_D A0 w1 := hD1.weaken (fun k q _ h => hF q.1 h)
  refine ⟨va_P.app Ppre (va_P.app hP1 Ppost), va_D.app Dpre (va_D.app D1 Dpost (fun i j x y hx hy e => ?_)) (fun i j x y hx hy e => ?_)⟩
  · exact (ap _ y (ipost j y hy) (Or.inr (by omega))).2 (by rw [← e]; exact hD1.2 i x hx)
  · rcases Nat.lt_or_ge j w1.length with hj | hj
    · rw [List.getElem?_append_left hj] at hy
      exact (ap _ x (ipre i x hx) (Or.inl (lt hx))).2 (by rw [e]; exact hD1.2 j y hy)
    · rw [List.getElem?_append_right hj] at hy
      have h3 := hD.1 _ _ x y (ipre i x hx) (ipost _ y hy) e
      have := lt hx
      omega
theorem seg_free {A0 : Nat → Prop} {pre wc post : va_W} {H0 H : Heap} {locs : List Loc} (hD : va_D A0 (pre ++ (wc ++ post))) (hS : va_S A0 H0 H locs) (hA : ∀ q, H0.size ≤ q → A0 q) : ∀ q, va_A wc H.size q → A0 q := by
  intro q h
  rcases h with ⟨k, e, h⟩ | h
  · exact hD.2 (pre.length + k) (q, e) (by
      rw [List.getElem?_append_right (by omega), show pre.length + k - pre.length = k by omega, List.getElem?_append_left (List.getElem?_eq_some_iff.mp h).1]; exact h)
  · exact hA q (Nat.le_trans hS.1 h)
theorem seg_mid {D : va_G} {cl : List vw_C} {pre wc post : va_W} {H : Heap} (hP : va_P D cl (pre ++ (wc ++ post)) H) : va_P D cl wc H := fun k q h => hP (pre.length + k) q (by
  rw [List.getElem?_append_right (by omega), show pre.length + k - pre.length = k by omega, List.getElem?_append_left (List.getElem?_eq_some_iff.mp h).1]; exact h)
theorem seg_midD {A : Nat → Prop} {pre wc post : va_W} (hD : va_D A (pre ++ (wc ++ post))) : va_D (fun _ => True) wc := by
  have iwc : ∀ (k : Nat) (q : Nat × va_E), wc[k]? = some q → (pre ++ (wc ++ post))[pre.length + k]? = some q := fun k q h => by
    rw [List.getElem?_append_right (by omega), show pre.length + k - pre.length = k by omega, List.getElem?_append_left (List.getElem?_eq_some_iff.mp h).1]; exact h
  exact ⟨fun i j x y hx hy e => by have := hD.1 _ _ x y (iwc i x hx) (iwc j y hy) e; omega, fun _ _ _ => trivial⟩
/-! ===== contracts ===== -/
def PW (D : va_G) (cy : Nat → ClassId) (w : va_W) (sz : Nat) (U : State) : Prop := U.heap.size = sz ∧ va_P D vwCl w U.heap ∧ va_K D vwCl (ty3 cy) U ∧ va_D (fun _ => True) w
def QW (D : va_G) (cy : Nat → ClassId) (w w1 : va_W) (sz : Nat) (_ : Unit) (t : State) : Prop := va_P D vwCl w1 t.heap ∧ va_K D vwCl (ty3 cy) t ∧ va_D (va_A w sz) w1
def CI (l : Launch) (D : va_G) (cy : Nat → ClassId) (y : MethodName) (ws : List Cond) (rm : Room) (av : List Value) (w : va_W) (r : Int32) (w1 : va_W) : Prop := ∀ sz, Met l y ws rm (va_Pc av (PW D cy w sz)) (va_Qi (fun r2 (_ : Unit) => r2 = r) (QW D cy w w1 sz) (va_A w sz)) 0 0 (va_A w sz)
def CL (l : Launch) (D : va_G) (cy : Nat → ClassId) (y : MethodName) (ws : List Cond) (rm : Room) (av : List Value) (w : va_W) (r : Int64) (w1 : va_W) : Prop := ∀ sz, Met l y ws rm (va_Pc av (PW D cy w sz)) (va_Ql (fun r2 (_ : Unit) => r2 = r) (QW D cy w w1 sz) (va_A w sz)) 0 0 (va_A w sz)
def CV (l : Launch) (D : va_G) (cy : Nat → ClassId) (y : MethodName) (ws : List Cond) (rm : Room) (av : List Value) (w w1 : va_W) : Prop := ∀ sz, Met l y ws rm (va_Pc av (PW D cy w sz)) (va_Qv (fun (_ : Unit) => True) (QW D cy w w1 sz) (va_A w sz)) 0 0 (va_A w sz)
theorem PW_blind {D : va_G} {cy : Nat → ClassId} {w : va_W} {sz : Nat} {av : List Value} : FrameBlind (va_Pc av (PW D cy w sz)) := fun a U g mk q => by
  obtain ⟨q0, q1, qP, qK, qD⟩ := q
  exact ⟨q0, q1, qP, va_K.moved (u := U) (U := U.calling g mk a) (Vm.Alike.refl U.vm) qK, qD⟩
theorem r_vi (hC : OK X l D cy rm cc nL Ts own) {y : MethodName} {ws1 ws2 : List Cond} {rm1 : Room} {b : Nat} {As : List Value} {wc w1 : va_W} {r : Int32} {bytes : ByteArray} {maxL index : Nat} {ret : Option FieldType} {C : String} {T : u_T} {N ci : Nat} {fs : List Value} (hM : CI l D cy y ws1 rm1 (.ref b :: As) wc r w1) (hG : GoodIn Ts (wsV own index C y ws1)) (hw : ws1 = Cond.code y bytes maxL ret :: ws2) (hz : rm1.cells = 0 ∧ rm1.slots = 0) (hd : y.cls = C ∧ y.cls ≠ "java/lang/invoke/MethodHandle" ∧ y.cls ≠ "java/lang/invoke/VarHandle" ∧ (parseMethodDescriptor y.desc).map (fun d => d.parameters.length) = some As.length) (hR : rm1.frames + 1 ≤ rm.frames ∧ 8 + (maxL + 11) + rm1.locals ≤ rm.locals) (hk : k ≤ rm.cells ∧ n ≤ rm.slots) (q0 : Nat) (hrc : wc[q0]? = some (b, .inr (ci, fs))) (hcl : vwCl[ci]? = some (C, T, N)) (pre post : va_W) (hws : ws = pre ++ (wc ++ post)) (stk : List Value) (hst : stk = As.reverse ++ .ref b :: st) (hroom : (st.map fun v => v.category).sum ≤ 8) (d : decode cc pc = .ok (.invokevirtual index, 3)) (ws' : va_W) (hws' : pre ++ (w1 ++ post) = ws') (kk : GG X nL k n ws' lv (pc + 3) (.int r :: st)) : GG X nL k n ws lv pc stk := by
  obtain ⟨p, l, e, R, s, m, args, below, meth, c, D, A, Q⟩ := X
  obtain ⟨hx, hb, hml, hown, hts, hK, hA, rfl, rfl, rfl⟩ := hC
  subst hws hws'
  intro H locs ls hP hD hS hl
  have hPc := seg_mid hP
  have hDc := seg_midD hD
  have hFc := seg_free hD hS hA
  refine va_calli (va_runV (As := As) (rest := st) ⟨hx, hb, hml, hown, hts⟩ (hM H.size) (cwV As.length hts hG hw hz.1 hz.2 hd hR) ⟨PW_blind, va_recv hK hPc hcl hrc, fun U hU hW => ⟨rfl, by rw [hU], by rw [hU]; exact hPc, va_K.moved hW.alike hK, hDc⟩⟩ rfl rfl hl.1 hst (lv_room (m := m) (pc := pc) (ls := ls) (rest := stk) hroom) d hk) hS (fun q _ h => hFc q h) hFc (fun r1 u t H1 locs1 ht hvm hw hB hz1 hk1 hS1 => ?_)
  obtain ⟨hP1, hK1, hD1⟩ := hB
  rw [ht] at hP1
  subst hw
  obtain ⟨hP2, hD2⟩ := seg_join hP hD hk1 hFc hP1 hD1
  exact kk H1 locs1 ls hP2 hD2 hS1 hl
theorem r_si (hC : OK X l D cy rm cc nL Ts own) {y : MethodName} {ws1 ws2 : List Cond} {rm1 : Room} {As : List Value} {r : Int32} {bytes : ByteArray} {maxL index : Nat} {ret : Option FieldType} (hM : CI l D cy y ws1 rm1 As [] r []) (hG : GoodIn Ts (va_wsS own index y ws1)) (hw : ws1 = Cond.code y bytes maxL ret :: ws2) (hz : rm1.cells = 0 ∧ rm1.slots = 0) (hd : y.cls ≠ "java/lang/invoke/MethodHandle" ∧ y.cls ≠ "java/lang/invoke/VarHandle" ∧ (parseMethodDescriptor y.desc).map (fun d => d.parameters.length) = some As.length) (hR : rm1.frames + 1 ≤ rm.frames ∧ 8 + (maxL + 11) + rm1.locals ≤ rm.locals) (hk : k ≤ rm.cells ∧ n ≤ rm.slots) (stk : List Value) (hst : stk = As.reverse ++ st) (hroom : (st.map fun v => v.category).sum ≤ 8) (d : decode cc pc = .ok (.invokestatic index, 3)) (kk : GG X nL k n ws lv (pc + 3) (.int r :: st)) : GG X nL k n ws lv pc stk := by
  obtain ⟨p, l, e, R, s, m, args, below, meth, c, D, A, Q⟩ := X
  obtain ⟨hx, hb, hml, hown, hts, hK, hA, rfl, rfl, rfl⟩ := hC
  intro H locs ls hP hD hS hl
  have hFc : ∀ q, va_A [] H.size q → A q := fun q h => by
    rcases h with ⟨k, e, h⟩ | h
    · simp at h
    · exact hA q (Nat.le_trans hS.1 h)
  refine va_calli (va_runS (As := As) (rest := st) ⟨hx, hb, hml, hown, hts⟩ (hM H.size) (va_cwS As.length hts hG hw hz.1 hz.2 hd hR) ⟨PW_blind, fun U hU hW => ⟨rfl, by rw [hU], fun k q h => by simp at h, va_K.moved hW.alike hK, ⟨fun i j p q h => by simp at h, fun k q h => by simp at h⟩⟩⟩ rfl rfl hl.1 hst (lv_room (m := m) (pc := pc) (ls := ls) (rest := stk) hroom) d hk) hS (fun q _ h => hFc q h) hFc (fun r1 u t H1 locs1 ht hvm hw hB hz1 hk1 hS1 => ?_)
  subst hw
  refine kk H1 locs1 ls (hP.kept (fun k q h => hk1 q.1 (hP k q h).lt (fun hh => ?_))) hD hS1 hl
  rcases hh with ⟨k2, e, h2⟩ | h2
  · simp at h2
  · exact absurd (hP k q h).lt (Nat.not_lt.mpr h2)
theorem r_vl (hC : OK X l D cy rm cc nL Ts own) {y : MethodName} {ws1 ws2 : List Cond} {rm1 : Room} {b : Nat} {As : List Value} {wc w1 : va_W} {r : Int64} {bytes : ByteArray} {maxL index : Nat} {ret : Option FieldType} {C : String} {T : u_T} {N ci : Nat} {fs : List Value} (hM : CL l D cy y ws1 rm1 (.ref b :: As) wc r w1) (hG : GoodIn Ts (wsV own index C y ws1)) (hw : ws1 = Cond.code y bytes maxL ret :: ws2) (hz : rm1.cells = 0 ∧ rm1.slots = 0) (hd : y.cls = C ∧ y.cls ≠ "java/lang/invoke/MethodHandle" ∧ y.cls ≠ "java/lang/invoke/VarHandle" ∧ (parseMethodDescriptor y.desc).map (fun d => d.parameters.length) = some As.length) (hR : rm1.frames + 1 ≤ rm.frames ∧ 8 + (maxL + 11) + rm1.locals ≤ rm.locals) (hk : k ≤ rm.cells ∧ n ≤ rm.slots) (q0 : Nat) (hrc : wc[q0]? = some (b, .inr (ci, fs))) (hcl : vwCl[ci]? = some (C, T, N)) (pre post : va_W) (hws : ws = pre ++ (wc ++ post)) (stk : List Value) (hst : stk = As.reverse ++ .ref b :: st) (hroom : (st.map fun v => v.category).sum ≤ 8) (d : decode cc pc = .ok (.invokevirtual index, 3)) (ws' : va_W) (hws' : pre ++ (w1 ++ post) = ws') (kk : GG X nL k n ws' lv (pc + 3) (.long r :: st)) : GG X nL k n ws lv pc stk := by
  obtain ⟨p, l, e, R, s, m, args, below, meth, c, D, A, Q⟩ := X
  obtain ⟨hx, hb, hml, hown, hts, hK, hA, rfl, rfl, rfl⟩ := hC
  subst hws hws'
  intro H locs ls hP hD hS hl
  have hPc := seg_mid hP
  have hDc := seg_midD hD
  have hFc := seg_free hD hS hA
  refine va_calll (va_runV (As := As) (rest := st) ⟨hx, hb, hml, hown, hts⟩ (hM H.size) (cwV As.length hts hG hw hz.1 hz.2 hd hR) ⟨PW_blind, va_recv hK hPc hcl hrc, fun U hU hW => ⟨rfl, by rw [hU], by rw [hU]; exact hPc, va_K.moved hW.alike hK, hDc⟩⟩ rfl rfl hl.1 hst (lv_room (m := m) (pc := pc) (ls := ls) (rest := stk) hroom) d hk) hS (fun q _ h => hFc q h) hFc (fun r1 u t H1 locs1 ht hvm hw hB hz1 hk1 hS1 => ?_)
  obtain ⟨hP1, hK1, hD1⟩ := hB
  rw [ht] at hP1
  subst hw
  obtain ⟨hP2, hD2⟩ := seg_join hP hD hk1 hFc hP1 hD1
  exact kk H1 locs1 ls hP2 hD2 hS1 hl
theorem r_sl (hC : OK X l D cy rm cc nL Ts own) {y : MethodName} {ws1 ws2 : List Cond} {rm1 : Room} {As : List Value} {r : Int64} {bytes : ByteArray} {maxL index : Nat} {ret : Option FieldType} (hM : CL l D cy y ws1 rm1 As [] r []) (hG : GoodIn Ts (va_wsS own index y ws1)) (hw : ws1 = Cond.code y bytes maxL ret :: ws2) (hz : rm1.cells = 0 ∧ rm1.slots = 0) (hd : y.cls ≠ "java/lang/invoke/MethodHandle" ∧ y.cls ≠ "java/lang/invoke/VarHandle" ∧ (parseMethodDescriptor y.desc).map (fun d => d.parameters.length) = some As.length) (hR : rm1.frames + 1 ≤ rm.frames ∧ 8 + (maxL + 11) + rm1.locals ≤ rm.locals) (hk : k ≤ rm.cells ∧ n ≤ rm.slots) (stk : List Value) (hst : stk = As.reverse ++ st) (hroom : (st.map fun v => v.category).sum ≤ 8) (d : decode cc pc = .ok (.invokestatic index, 3)) (kk : GG X nL k n ws lv (pc + 3) (.long r :: st)) : GG X nL k n ws lv pc stk := by
  obtain ⟨p, l, e, R, s, m, args, below, meth, c, D, A, Q⟩ := X
  obtain ⟨hx, hb, hml, hown, hts, hK, hA, rfl, rfl, rfl⟩ := hC
  intro H locs ls hP hD hS hl
  have hFc : ∀ q, va_A [] H.size q → A q := fun q h => by
    rcases h with ⟨k, e, h⟩ | h
    · simp at h
    · exact hA q (Nat.le_trans hS.1 h)
  refine va_calll (va_runS (As := As) (rest := st) ⟨hx, hb, hml, hown, hts⟩ (hM H.size) (va_cwS As.length hts hG hw hz.1 hz.2 hd hR) ⟨PW_blind, fun U hU hW => ⟨rfl, by rw [hU], fun k q h => by simp at h, va_K.moved hW.alike hK, ⟨fun i j p q h => by simp at h, fun k q h => by simp at h⟩⟩⟩ rfl rfl hl.1 hst (lv_room (m := m) (pc := pc) (ls := ls) (rest := stk) hroom) d hk) hS (fun q _ h => hFc q h) hFc (fun r1 u t H1 locs1 ht hvm hw hB hz1 hk1 hS1 => ?_)
  subst hw
  refine kk H1 locs1 ls (hP.kept (fun k q h => hk1 q.1 (hP k q h).lt (fun hh => ?_))) hD hS1 hl
  rcases hh with ⟨k2, e, h2⟩ | h2
  · simp at h2
  · exact absurd (hP k q h).lt (Nat.not_lt.mpr h2)
theorem r_vv (hC : OK X l D cy rm cc nL Ts own) {y : MethodName} {ws1 ws2 : List Cond} {rm1 : Room} {b : Nat} {As : List Value} {wc w1 : va_W} {bytes : ByteArray} {maxL index : Nat} {ret : Option FieldType} {C : String} {T : u_T} {N ci : Nat} {fs : List Value} (hM : CV l D cy y ws1 rm1 (.ref b :: As) wc w1) (hG : GoodIn Ts (wsV own index C y ws1)) (hw : ws1 = Cond.code y bytes maxL ret :: ws2) (hz : rm1.cells = 0 ∧ rm1.slots = 0) (hd : y.cls = C ∧ y.cls ≠ "java/lang/invoke/MethodHandle" ∧ y.cls ≠ "java/lang/invoke/VarHandle" ∧ (parseMethodDescriptor y.desc).map (fun d => d.parameters.length) = some As.length) (hR : rm1.frames + 1 ≤ rm.frames ∧ 8 + (maxL + 11) + rm1.locals ≤ rm.locals) (hk : k ≤ rm.cells ∧ n ≤ rm.slots) (q0 : Nat) (hrc : wc[q0]? = some (b, .inr (ci, fs))) (hcl : vwCl[ci]? = some (C, T, N)) (pre post : va_W) (hws : ws = pre ++ (wc ++ post)) (stk : List Value) (hst : stk = As.reverse ++ .ref b :: st) (hroom : (st.map fun v => v.category).sum ≤ 8) (d : decode cc pc = .ok (.invokevirtual index, 3)) (ws' : va_W) (hws' : pre ++ (w1 ++ post) = ws') (kk : GG X nL k n ws' lv (pc + 3) (st)) : GG X nL k n ws lv pc stk := by
  obtain ⟨p, l, e, R, s, m, args, below, meth, c, D, A, Q⟩ := X
  obtain ⟨hx, hb, hml, hown, hts, hK, hA, rfl, rfl, rfl⟩ := hC
  subst hws hws'
  intro H locs ls hP hD hS hl
  have hPc := seg_mid hP
  have hDc := seg_midD hD
  have hFc := seg_free hD hS hA
  refine va_callv (va_runV (As := As) (rest := st) ⟨hx, hb, hml, hown, hts⟩ (hM H.size) (cwV As.length hts hG hw hz.1 hz.2 hd hR) ⟨PW_blind, va_recv hK hPc hcl hrc, fun U hU hW => ⟨rfl, by rw [hU], by rw [hU]; exact hPc, va_K.moved hW.alike hK, hDc⟩⟩ rfl rfl hl.1 hst (lv_room (m := m) (pc := pc) (ls := ls) (rest := stk) hroom) d hk) hS (fun q _ h => hFc q h) hFc (fun u t H1 locs1 ht hvm hw hB hz1 hk1 hS1 => ?_)
  obtain ⟨hP1, hK1, hD1⟩ := hB
  rw [ht] at hP1
  obtain ⟨hP2, hD2⟩ := seg_join hP hD hk1 hFc hP1 hD1
  exact kk H1 locs1 ls hP2 hD2 hS1 hl
/-- a context with this: at a return with the answer and the world that the contract names, all is done -/
def RI (X : CX) (cc : ByteArray) (ty : FieldType) (r : Int32) (w1 : va_W) : Prop := ∀ nL lv pc, decode cc pc = .ok (.ireturn, 1) → narrow ty (.int r) = .int r → GG X nL 0 0 w1 lv pc [.int r]
def RL' (X : CX) (cc : ByteArray) (r : Int64) (w1 : va_W) : Prop := ∀ nL lv pc, decode cc pc = .ok (.lreturn, 1) → GG X nL 0 0 w1 lv pc [.long r]
def RV (X : CX) (cc : ByteArray) (w1 : va_W) : Prop := ∀ nL lv pc, decode cc pc = .ok (.return_, 1) → GG X nL 0 0 w1 lv pc []
theorem nb_0 : narrow .boolean (.int 0) = .int 0 := rfl
theorem nb_1 : narrow .boolean (.int 1) = .int 1 := rfl
theorem nb_of {v : Int32} (h : v = 0 ∨ v = 1) : narrow .boolean (.int v) = .int v := by
  rcases h with rfl | rfl
  · exact nb_0
  · exact nb_1
end GGR
theorem c_of_i {l : Launch} {D : va_G} {cy : Nat → ClassId} {y : MethodName} {ws ws' : List Cond} {rm : Room} {cc : ByteArray} {maxL : Nat} {ty : FieldType} {r : Int32} {av : List Value} {w w1 : va_W} {own : String} (hy : plainName y.cls = true) (hw : ws = Cond.code y cc maxL (some ty) :: ws') (ho : y.cls = own) (hlen : (lg_sl av).length ≤ maxL) (h : ∀ X, OK X l D cy rm cc maxL ws own → RI X cc ty r w1 → GG X maxL 0 0 w (lv_args 0 av) 0 []) : CI l D cy y ws rm av w r w1 := by
  intro sz
  subst ho
  refine Met.ofW (cc := cc) (maxL := maxL) (ret := (some ty)) hy hw ?_
  intro p e s m args below meth c s₁ B hml hv
  obtain ⟨rfl, hsz, hP0, hK0, hD0⟩ := hv
  have hx := B.exec
  have hb := B.bytes
  have hr := B.returns
  have hts := atoms_spec (ws := ws) B.pre
  have hown : s.vm.findClass y.cls = some m.cls := findClass_of_methodNamed B.named
  have hlocks := B.notSynchronized
  subst hsz
  have hDs := hD0.self (sz := s.heap.size)
  have hl := lv_entry av (n := maxL) hlen
  rw [lg_entry_eq]
  refine h (p, l, e, rm, s, m, av.toArray, below, meth, c, D, va_A w s.heap.size, _) ⟨hx, hb, hml, hown, hts, hK0, fun q hq => Or.inr hq, rfl, rfl, rfl⟩ (fun nL2 lv pc d hnar => ?_) s.heap [] _ hP0 hDs va_S.rf hl
  intro H locs ls hP hD hS hl2
  exact W.zret hx hb hr hnar (fun t ht hW => ⟨⟨r, (), rfl, rfl, by rw [ht]; exact hP, va_K.moved hW.alike hK0, hD⟩, hS.F ht⟩) hS.2.2 d
theorem c_of_l {l : Launch} {D : va_G} {cy : Nat → ClassId} {y : MethodName} {ws ws' : List Cond} {rm : Room} {cc : ByteArray} {maxL : Nat} {r : Int64} {av : List Value} {w w1 : va_W} {own : String} (hy : plainName y.cls = true) (hw : ws = Cond.code y cc maxL (some .long) :: ws') (ho : y.cls = own) (hlen : (lg_sl av).length ≤ maxL) (h : ∀ X, OK X l D cy rm cc maxL ws own → RL' X cc r w1 → GG X maxL 0 0 w (lv_args 0 av) 0 []) : CL l D cy y ws rm av w r w1 := by
  intro sz
  subst ho
  refine Met.ofW (cc := cc) (maxL := maxL) (ret := (some .long)) hy hw ?_
  intro p e s m args below meth c s₁ B hml hv
  obtain ⟨rfl, hsz, hP0, hK0, hD0⟩ := hv
  have hx := B.exec
  have hb := B.bytes
  have hr := B.returns
  have hts := atoms_spec (ws := ws) B.pre
  have hown : s.vm.findClass y.cls = some m.cls := findClass_of_methodNamed B.named
  have hlocks := B.notSynchronized
  subst hsz
  have hDs := hD0.self (sz := s.heap.size)
  have hl := lv_entry av (n := maxL) hlen
  rw [lg_entry_eq]
  refine h (p, l, e, rm, s, m, av.toArray, below, meth, c, D, va_A w s.heap.size, _) ⟨hx, hb, hml, hown, hts, hK0, fun q hq => Or.inr hq, rfl, rfl, rfl⟩ (fun nL2 lv pc d => ?_) s.heap [] _ hP0 hDs va_S.rf hl
  intro H locs ls hP hD hS hl2
  exact W.lret hx hb hr (fun t ht hW => ⟨⟨r, (), rfl, rfl, by rw [ht]; exact hP, va_K.moved hW.alike hK0, hD⟩, hS.F ht⟩) hS.2.2 d
theorem c_of_v {l : Launch} {D : va_G} {cy : Nat → ClassId} {y : MethodName} {ws ws' : List Cond} {rm : Room} {cc : ByteArray} {maxL : Nat} {av : List Value} {w w1 : va_W} {own : String} (hy : plainName y.cls = true) (hw : ws = Cond.code y cc maxL none :: ws') (ho : y.cls = own) (hlen : (lg_sl av).length ≤ maxL) (h : ∀ X, OK X l D cy rm cc maxL ws own → RV X cc w1 → GG X maxL 0 0 w (lv_args 0 av) 0 []) : CV l D cy y ws rm av w w1 := by
  intro sz
  subst ho
  refine Met.ofW (cc := cc) (maxL := maxL) (ret := none) hy hw ?_
  intro p e s m args below meth c s₁ B hml hv
  obtain ⟨rfl, hsz, hP0, hK0, hD0⟩ := hv
  have hx := B.exec
  have hb := B.bytes
  have hr := B.returns
  have hts := atoms_spec (ws := ws) B.pre
  have hown : s.vm.findClass y.cls = some m.cls := findClass_of_methodNamed B.named
  have hlocks := B.notSynchronized
  subst hsz
  have hDs := hD0.self (sz := s.heap.size)
  have hl := lv_entry av (n := maxL) hlen
  rw [lg_entry_eq]
  refine h (p, l, e, rm, s, m, av.toArray, below, meth, c, D, va_A w s.heap.size, _) ⟨hx, hb, hml, hown, hts, hK0, fun q hq => Or.inr hq, rfl, rfl, rfl⟩ (fun nL2 lv pc d => ?_) s.heap [] _ hP0 hDs va_S.rf hl
  intro H locs ls hP hD hS hl2
  exact W.vret hx hb hr (fun t ht hW => ⟨⟨(), rfl, trivial, by rw [ht]; exact hP, va_K.moved hW.alike hK0, hD⟩, hS.F ht⟩) hS.2.2 d
theorem oa0 {R : Type} {K k : R} {r : R} (e : K = k) (h : K = r) : k = r := by rw [← e]; exact h
theorem oa1 {A1 R : Type} {K k : A1 → R} {a1 : A1} {r : R} (e : K = k) (h : K a1 = r) : k a1 = r := by rw [← e]; exact h
theorem oa2 {A1 A2 R : Type} {K k : A1 → A2 → R} {a1 : A1} {a2 : A2} {r : R} (e : K = k) (h : K a1 a2 = r) : k a1 a2 = r := by rw [← e]; exact h
theorem oa3 {A1 A2 A3 R : Type} {K k : A1 → A2 → A3 → R} {a1 : A1} {a2 : A2} {a3 : A3} {r : R} (e : K = k) (h : K a1 a2 a3 = r) : k a1 a2 a3 = r := by rw [← e]; exact h
theorem oa4 {A1 A2 A3 A4 R : Type} {K k : A1 → A2 → A3 → A4 → R} {a1 : A1} {a2 : A2} {a3 : A3} {a4 : A4} {r : R} (e : K = k) (h : K a1 a2 a3 a4 = r) : k a1 a2 a3 a4 = r := by rw [← e]; exact h
theorem oa5 {A1 A2 A3 A4 A5 R : Type} {K k : A1 → A2 → A3 → A4 → A5 → R} {a1 : A1} {a2 : A2} {a3 : A3} {a4 : A4} {a5 : A5} {r : R} (e : K = k) (h : K a1 a2 a3 a4 a5 = r) : k a1 a2 a3 a4 a5 = r := by rw [← e]; exact h
theorem oa6 {A1 A2 A3 A4 A5 A6 R : Type} {K k : A1 → A2 → A3 → A4 → A5 → A6 → R} {a1 : A1} {a2 : A2} {a3 : A3} {a4 : A4} {a5 : A5} {a6 : A6} {r : R} (e : K = k) (h : K a1 a2 a3 a4 a5 a6 = r) : k a1 a2 a3 a4 a5 a6 = r := by rw [← e]; exact h
theorem oa7 {A1 A2 A3 A4 A5 A6 A7 R : Type} {K k : A1 → A2 → A3 → A4 → A5 → A6 → A7 → R} {a1 : A1} {a2 : A2} {a3 : A3} {a4 : A4} {a5 : A5} {a6 : A6} {a7 : A7} {r : R} (e : K = k) (h : K a1 a2 a3 a4 a5 a6 a7 = r) : k a1 a2 a3 a4 a5 a6 a7 = r := by rw [← e]; exact h
theorem oa8 {A1 A2 A3 A4 A5 A6 A7 A8 R : Type} {K k : A1 → A2 → A3 → A4 → A5 → A6 → A7 → A8 → R} {a1 : A1} {a2 : A2} {a3 : A3} {a4 : A4} {a5 : A5} {a6 : A6} {a7 : A7} {a8 : A8} {r : R} (e : K = k) (h : K a1 a2 a3 a4 a5 a6 a7 a8 = r) : k a1 a2 a3 a4 a5 a6 a7 a8 = r := by rw [← e]; exact h
theorem oa9 {A1 A2 A3 A4 A5 A6 A7 A8 A9 R : Type} {K k : A1 → A2 → A3 → A4 → A5 → A6 → A7 → A8 → A9 → R} {a1 : A1} {a2 : A2} {a3 : A3} {a4 : A4} {a5 : A5} {a6 : A6} {a7 : A7} {a8 : A8} {a9 : A9} {r : R} (e : K = k) (h : K a1 a2 a3 a4 a5 a6 a7 a8 a9 = r) : k a1 a2 a3 a4 a5 a6 a7 a8 a9 = r := by rw [← e]; exact h
theorem oa10 {A1 A2 A3 A4 A5 A6 A7 A8 A9 A10 R : Type} {K k : A1 → A2 → A3 → A4 → A5 → A6 → A7 → A8 → A9 → A10 → R} {a1 : A1} {a2 : A2} {a3 : A3} {a4 : A4} {a5 : A5} {a6 : A6} {a7 : A7} {a8 : A8} {a9 : A9} {a10 : A10} {r : R} (e : K = k) (h : K a1 a2 a3 a4 a5 a6 a7 a8 a9 a10 = r) : k a1 a2 a3 a4 a5 a6 a7 a8 a9 a10 = r := by rw [← e]; exact h
theorem oa11 {A1 A2 A3 A4 A5 A6 A7 A8 A9 A10 A11 R : Type} {K k : A1 → A2 → A3 → A4 → A5 → A6 → A7 → A8 → A9 → A10 → A11 → R} {a1 : A1} {a2 : A2} {a3 : A3} {a4 : A4} {a5 : A5} {a6 : A6} {a7 : A7} {a8 : A8} {a9 : A9} {a10 : A10} {a11 : A11} {r : R} (e : K = k) (h : K a1 a2 a3 a4 a5 a6 a7 a8 a9 a10 a11 = r) : k a1 a2 a3 a4 a5 a6 a7 a8 a9 a10 a11 = r := by rw [← e]; exact h
theorem oa12 {A1 A2 A3 A4 A5 A6 A7 A8 A9 A10 A11 A12 R : Type} {K k : A1 → A2 → A3 → A4 → A5 → A6 → A7 → A8 → A9 → A10 → A11 → A12 → R} {a1 : A1} {a2 : A2} {a3 : A3} {a4 : A4} {a5 : A5} {a6 : A6} {a7 : A7} {a8 : A8} {a9 : A9} {a10 : A10} {a11 : A11} {a12 : A12} {r : R} (e : K = k) (h : K a1 a2 a3 a4 a5 a6 a7 a8 a9 a10 a11 a12 = r) : k a1 a2 a3 a4 a5 a6 a7 a8 a9 a10 a11 a12 = r := by rw [← e]; exact h
theorem oa13 {A1 A2 A3 A4 A5 A6 A7 A8 A9 A10 A11 A12 A13 R : Type} {K k : A1 → A2 → A3 → A4 → A5 → A6 → A7 → A8 → A9 → A10 → A11 → A12 → A13 → R} {a1 : A1} {a2 : A2} {a3 : A3} {a4 : A4} {a5 : A5} {a6 : A6} {a7 : A7} {a8 : A8} {a9 : A9} {a10 : A10} {a11 : A11} {a12 : A12} {a13 : A13} {r : R} (e : K = k) (h : K a1 a2 a3 a4 a5 a6 a7 a8 a9 a10 a11 a12 a13 = r) : k a1 a2 a3 a4 a5 a6 a7 a8 a9 a10 a11 a12 a13 = r := by rw [← e]; exact h
theorem oa14 {A1 A2 A3 A4 A5 A6 A7 A8 A9 A10 A11 A12 A13 A14 R : Type} {K k : A1 → A2 → A3 → A4 → A5 → A6 → A7 → A8 → A9 → A10 → A11 → A12 → A13 → A14 → R} {a1 : A1} {a2 : A2} {a3 : A3} {a4 : A4} {a5 : A5} {a6 : A6} {a7 : A7} {a8 : A8} {a9 : A9} {a10 : A10} {a11 : A11} {a12 : A12} {a13 : A13} {a14 : A14} {r : R} (e : K = k) (h : K a1 a2 a3 a4 a5 a6 a7 a8 a9 a10 a11 a12 a13 a14 = r) : k a1 a2 a3 a4 a5 a6 a7 a8 a9 a10 a11 a12 a13 a14 = r := by rw [← e]; exact h
theorem oa15 {A1 A2 A3 A4 A5 A6 A7 A8 A9 A10 A11 A12 A13 A14 A15 R : Type} {K k : A1 → A2 → A3 → A4 → A5 → A6 → A7 → A8 → A9 → A10 → A11 → A12 → A13 → A14 → A15 → R} {a1 : A1} {a2 : A2} {a3 : A3} {a4 : A4} {a5 : A5} {a6 : A6} {a7 : A7} {a8 : A8} {a9 : A9} {a10 : A10} {a11 : A11} {a12 : A12} {a13 : A13} {a14 : A14} {a15 : A15} {r : R} (e : K = k) (h : K a1 a2 a3 a4 a5 a6 a7 a8 a9 a10 a11 a12 a13 a14 a15 = r) : k a1 a2 a3 a4 a5 a6 a7 a8 a9 a10 a11 a12 a13 a14 a15 = r := by rw [← e]; exact h
theorem oa16 {A1 A2 A3 A4 A5 A6 A7 A8 A9 A10 A11 A12 A13 A14 A15 A16 R : Type} {K k : A1 → A2 → A3 → A4 → A5 → A6 → A7 → A8 → A9 → A10 → A11 → A12 → A13 → A14 → A15 → A16 → R} {a1 : A1} {a2 : A2} {a3 : A3} {a4 : A4} {a5 : A5} {a6 : A6} {a7 : A7} {a8 : A8} {a9 : A9} {a10 : A10} {a11 : A11} {a12 : A12} {a13 : A13} {a14 : A14} {a15 : A15} {a16 : A16} {r : R} (e : K = k) (h : K a1 a2 a3 a4 a5 a6 a7 a8 a9 a10 a11 a12 a13 a14 a15 a16 = r) : k a1 a2 a3 a4 a5 a6 a7 a8 a9 a10 a11 a12 a13 a14 a15 a16 = r := by rw [← e]; exact h
def ob2 {A1 A2 R : Type} (m : Option (A1 × A2)) (k : A1 → A2 → Option R) : Option R := ob m (fun q => k q.1 q.2)
theorem ob2_some {A1 A2 R : Type} {m : Option (A1 × A2)} {k : A1 → A2 → Option R} {r : R} (h : ob2 m k = some r) : ∃ a1 a2, m = some (a1, a2) ∧ k a1 a2 = some r := by
  obtain ⟨q, h1, h2⟩ := ob_some h
  exact ⟨q.1, q.2, h1, h2⟩
def ob3 {A1 A2 A3 R : Type} (m : Option (A1 × A2 × A3)) (k : A1 → A2 → A3 → Option R) : Option R := ob m (fun q => k q.1 q.2.1 q.2.2)
theorem ob3_some {A1 A2 A3 R : Type} {m : Option (A1 × A2 × A3)} {k : A1 → A2 → A3 → Option R} {r : R} (h : ob3 m k = some r) : ∃ a1 a2 a3, m = some (a1, a2, a3) ∧ k a1 a2 a3 = some r := by
  obtain ⟨q, h1, h2⟩ := ob_some h
  exact ⟨q.1, q.2.1, q.2.2, h1, h2⟩
theorem so_3 {A1 A2 A3 : Type} {a1 b1 : A1} {a2 b2 : A2} {a3 b3 : A3} (h : some (a1, a2, a3) = some (b1, b2, b3)) : a1 = b1 ∧ a2 = b2 ∧ a3 = b3 := by cases h; exact ⟨rfl, rfl, rfl⟩
def ob4 {A1 A2 A3 A4 R : Type} (m : Option (A1 × A2 × A3 × A4)) (k : A1 → A2 → A3 → A4 → Option R) : Option R := ob m (fun q => k q.1 q.2.1 q.2.2.1 q.2.2.2)
theorem ob4_some {A1 A2 A3 A4 R : Type} {m : Option (A1 × A2 × A3 × A4)} {k : A1 → A2 → A3 → A4 → Option R} {r : R} (h : ob4 m k = some r) : ∃ a1 a2 a3 a4, m = some (a1, a2, a3, a4) ∧ k a1 a2 a3 a4 = some r := by
  obtain ⟨q, h1, h2⟩ := ob_some h
  exact ⟨q.1, q.2.1, q.2.2.1, q.2.2.2, h1, h2⟩
theorem so_4 {A1 A2 A3 A4 : Type} {a1 b1 : A1} {a2 b2 : A2} {a3 b3 : A3} {a4 b4 : A4} (h : some (a1, a2, a3, a4) = some (b1, b2, b3, b4)) : a1 = b1 ∧ a2 = b2 ∧ a3 = b3 ∧ a4 = b4 := by cases h; exact ⟨rfl, rfl, rfl, rfl⟩
def ob5 {A1 A2 A3 A4 A5 R : Type} (m : Option (A1 × A2 × A3 × A4 × A5)) (k : A1 → A2 → A3 → A4 → A5 → Option R) : Option R := ob m (fun q => k q.1 q.2.1 q.2.2.1 q.2.2.2.1 q.2.2.2.2)
theorem ob5_some {A1 A2 A3 A4 A5 R : Type} {m : Option (A1 × A2 × A3 × A4 × A5)} {k : A1 → A2 → A3 → A4 → A5 → Option R} {r : R} (h : ob5 m k = some r) : ∃ a1 a2 a3 a4 a5, m = some (a1, a2, a3, a4, a5) ∧ k a1 a2 a3 a4 a5 = some r := by
  obtain ⟨q, h1, h2⟩ := ob_some h
  exact ⟨q.1, q.2.1, q.2.2.1, q.2.2.2.1, q.2.2.2.2, h1, h2⟩
theorem so_5 {A1 A2 A3 A4 A5 : Type} {a1 b1 : A1} {a2 b2 : A2} {a3 b3 : A3} {a4 b4 : A4} {a5 b5 : A5} (h : some (a1, a2, a3, a4, a5) = some (b1, b2, b3, b4, b5)) : a1 = b1 ∧ a2 = b2 ∧ a3 = b3 ∧ a4 = b4 ∧ a5 = b5 := by cases h; exact ⟨rfl, rfl, rfl, rfl, rfl⟩
def ob6 {A1 A2 A3 A4 A5 A6 R : Type} (m : Option (A1 × A2 × A3 × A4 × A5 × A6)) (k : A1 → A2 → A3 → A4 → A5 → A6 → Option R) : Option R := ob m (fun q => k q.1 q.2.1 q.2.2.1 q.2.2.2.1 q.2.2.2.2.1 q.2.2.2.2.2)
theorem ob6_some {A1 A2 A3 A4 A5 A6 R : Type} {m : Option (A1 × A2 × A3 × A4 × A5 × A6)} {k : A1 → A2 → A3 → A4 → A5 → A6 → Option R} {r : R} (h : ob6 m k = some r) : ∃ a1 a2 a3 a4 a5 a6, m = some (a1, a2, a3, a4, a5, a6) ∧ k a1 a2 a3 a4 a5 a6 = some r := by
  obtain ⟨q, h1, h2⟩ := ob_some h
  exact ⟨q.1, q.2.1, q.2.2.1, q.2.2.2.1, q.2.2.2.2.1, q.2.2.2.2.2, h1, h2⟩
theorem so_6 {A1 A2 A3 A4 A5 A6 : Type} {a1 b1 : A1} {a2 b2 : A2} {a3 b3 : A3} {a4 b4 : A4} {a5 b5 : A5} {a6 b6 : A6} (h : some (a1, a2, a3, a4, a5, a6) = some (b1, b2, b3, b4, b5, b6)) : a1 = b1 ∧ a2 = b2 ∧ a3 = b3 ∧ a4 = b4 ∧ a5 = b5 ∧ a6 = b6 := by cases h; exact ⟨rfl, rfl, rfl, rfl, rfl, rfl⟩
def ob7 {A1 A2 A3 A4 A5 A6 A7 R : Type} (m : Option (A1 × A2 × A3 × A4 × A5 × A6 × A7)) (k : A1 → A2 → A3 → A4 → A5 → A6 → A7 → Option R) : Option R := ob m (fun q => k q.1 q.2.1 q.2.2.1 q.2.2.2.1 q.2.2.2.2.1 q.2.2.2.2.2.1 q.2.2.2.2.2.2)
theorem ob7_some {A1 A2 A3 A4 A5 A6 A7 R : Type} {m : Option (A1 × A2 × A3 × A4 × A5 × A6 × A7)} {k : A1 → A2 → A3 → A4 → A5 → A6 → A7 → Option R} {r : R} (h : ob7 m k = some r) : ∃ a1 a2 a3 a4 a5 a6 a7, m = some (a1, a2, a3, a4, a5, a6, a7) ∧ k a1 a2 a3 a4 a5 a6 a7 = some r := by
  obtain ⟨q, h1, h2⟩ := ob_some h
  exact ⟨q.1, q.2.1, q.2.2.1, q.2.2.2.1, q.2.2.2.2.1, q.2.2.2.2.2.1, q.2.2.2.2.2.2, h1, h2⟩
theorem so_7 {A1 A2 A3 A4 A5 A6 A7 : Type} {a1 b1 : A1} {a2 b2 : A2} {a3 b3 : A3} {a4 b4 : A4} {a5 b5 : A5} {a6 b6 : A6} {a7 b7 : A7} (h : some (a1, a2, a3, a4, a5, a6, a7) = some (b1, b2, b3, b4, b5, b6, b7)) : a1 = b1 ∧ a2 = b2 ∧ a3 = b3 ∧ a4 = b4 ∧ a5 = b5 ∧ a6 = b6 ∧ a7 = b7 := by cases h; exact ⟨rfl, rfl, rfl, rfl, rfl, rfl, rfl⟩
def ob8 {A1 A2 A3 A4 A5 A6 A7 A8 R : Type} (m : Option (A1 × A2 × A3 × A4 × A5 × A6 × A7 × A8)) (k : A1 → A2 → A3 → A4 → A5 → A6 → A7 → A8 → Option R) : Option R := ob m (fun q => k q.1 q.2.1 q.2.2.1 q.2.2.2.1 q.2.2.2.2.1 q.2.2.2.2.2.1 q.2.2.2.2.2.2.1 q.2.2.2.2.2.2.2)
theorem ob8_some {A1 A2 A3 A4 A5 A6 A7 A8 R : Type} {m : Option (A1 × A2 × A3 × A4 × A5 × A6 × A7 × A8)} {k : A1 → A2 → A3 → A4 → A5 → A6 → A7 → A8 → Option R} {r : R} (h : ob8 m k = some r) : ∃ a1 a2 a3 a4 a5 a6 a7 a8, m = some (a1, a2, a3, a4, a5, a6, a7, a8) ∧ k a1 a2 a3 a4 a5 a6 a7 a8 = some r := by
  obtain ⟨q, h1, h2⟩ := ob_some h
  exact ⟨q.1, q.2.1, q.2.2.1, q.2.2.2.1, q.2.2.2.2.1, q.2.2.2.2.2.1, q.2.2.2.2.2.2.1, q.2.2.2.2.2.2.2, h1, h2⟩
theorem so_8 {A1 A2 A3 A4 A5 A6 A7 A8 : Type} {a1 b1 : A1} {a2 b2 : A2} {a3 b3 : A3} {a4 b4 : A4} {a5 b5 : A5} {a6 b6 : A6} {a7 b7 : A7} {a8 b8 : A8} (h : some (a1, a2, a3, a4, a5, a6, a7, a8) = some (b1, b2, b3, b4, b5, b6, b7, b8)) : a1 = b1 ∧ a2 = b2 ∧ a3 = b3 ∧ a4 = b4 ∧ a5 = b5 ∧ a6 = b6 ∧ a7 = b7 ∧ a8 = b8 := by cases h; exact ⟨rfl, rfl, rfl, rfl, rfl, rfl, rfl, rfl⟩
def ob9 {A1 A2 A3 A4 A5 A6 A7 A8 A9 R : Type} (m : Option (A1 × A2 × A3 × A4 × A5 × A6 × A7 × A8 × A9)) (k : A1 → A2 → A3 → A4 → A5 → A6 → A7 → A8 → A9 → Option R) : Option R := ob m (fun q => k q.1 q.2.1 q.2.2.1 q.2.2.2.1 q.2.2.2.2.1 q.2.2.2.2.2.1 q.2.2.2.2.2.2.1 q.2.2.2.2.2.2.2.1 q.2.2.2.2.2.2.2.2)
theorem ob9_some {A1 A2 A3 A4 A5 A6 A7 A8 A9 R : Type} {m : Option (A1 × A2 × A3 × A4 × A5 × A6 × A7 × A8 × A9)} {k : A1 → A2 → A3 → A4 → A5 → A6 → A7 → A8 → A9 → Option R} {r : R} (h : ob9 m k = some r) : ∃ a1 a2 a3 a4 a5 a6 a7 a8 a9, m = some (a1, a2, a3, a4, a5, a6, a7, a8, a9) ∧ k a1 a2 a3 a4 a5 a6 a7 a8 a9 = some r := by
  obtain ⟨q, h1, h2⟩ := ob_some h
  exact ⟨q.1, q.2.1, q.2.2.1, q.2.2.2.1, q.2.2.2.2.1, q.2.2.2.2.2.1, q.2.2.2.2.2.2.1, q.2.2.2.2.2.2.2.1, q.2.2.2.2.2.2.2.2, h1, h2⟩
theorem so_9 {A1 A2 A3 A4 A5 A6 A7 A8 A9 : Type} {a1 b1 : A1} {a2 b2 : A2} {a3 b3 : A3} {a4 b4 : A4} {a5 b5 : A5} {a6 b6 : A6} {a7 b7 : A7} {a8 b8 : A8} {a9 b9 : A9} (h : some (a1, a2, a3, a4, a5, a6, a7, a8, a9) = some (b1, b2, b3, b4, b5, b6, b7, b8, b9)) : a1 = b1 ∧ a2 = b2 ∧ a3 = b3 ∧ a4 = b4 ∧ a5 = b5 ∧ a6 = b6 ∧ a7 = b7 ∧ a8 = b8 ∧ a9 = b9 := by cases h; exact ⟨rfl, rfl, rfl, rfl, rfl, rfl, rfl, rfl, rfl⟩
def ob10 {A1 A2 A3 A4 A5 A6 A7 A8 A9 A10 R : Type} (m : Option (A1 × A2 × A3 × A4 × A5 × A6 × A7 × A8 × A9 × A10)) (k : A1 → A2 → A3 → A4 → A5 → A6 → A7 → A8 → A9 → A10 → Option R) : Option R := ob m (fun q => k q.1 q.2.1 q.2.2.1 q.2.2.2.1 q.2.2.2.2.1 q.2.2.2.2.2.1 q.2.2.2.2.2.2.1 q.2.2.2.2.2.2.2.1 q.2.2.2.2.2.2.2.2.1 q.2.2.2.2.2.2.2.2.2)
theorem ob10_some {A1 A2 A3 A4 A5 A6 A7 A8 A9 A10 R : Type} {m : Option (A1 × A2 × A3 × A4 × A5 × A6 × A7 × A8 × A9 × A10)} {k : A1 → A2 → A3 → A4 → A5 → A6 → A7 → A8 → A9 → A10 → Option R} {r : R} (h : ob10 m k = some r) : ∃ a1 a2 a3 a4 a5 a6 a7 a8 a9 a10, m = some (a1, a2, a3, a4, a5, a6, a7, a8, a9, a10) ∧ k a1 a2 a3 a4 a5 a6 a7 a8 a9 a10 = some r := by
  obtain ⟨q, h1, h2⟩ := ob_some h
  exact ⟨q.1, q.2.1, q.2.2.1, q.2.2.2.1, q.2.2.2.2.1, q.2.2.2.2.2.1, q.2.2.2.2.2.2.1, q.2.2.2.2.2.2.2.1, q.2.2.2.2.2.2.2.2.1, q.2.2.2.2.2.2.2.2.2, h1, h2⟩
theorem so_10 {A1 A2 A3 A4 A5 A6 A7 A8 A9 A10 : Type} {a1 b1 : A1} {a2 b2 : A2} {a3 b3 : A3} {a4 b4 : A4} {a5 b5 : A5} {a6 b6 : A6} {a7 b7 : A7} {a8 b8 : A8} {a9 b9 : A9} {a10 b10 : A10} (h : some (a1, a2, a3, a4, a5, a6, a7, a8, a9, a10) = some (b1, b2, b3, b4, b5, b6, b7, b8, b9, b10)) : a1 = b1 ∧ a2 = b2 ∧ a3 = b3 ∧ a4 = b4 ∧ a5 = b5 ∧ a6 = b6 ∧ a7 = b7 ∧ a8 = b8 ∧ a9 = b9 ∧ a10 = b10 := by cases h; exact ⟨rfl, rfl, rfl, rfl, rfl, rfl, rfl, rfl, rfl, rfl⟩
def ob11 {A1 A2 A3 A4 A5 A6 A7 A8 A9 A10 A11 R : Type} (m : Option (A1 × A2 × A3 × A4 × A5 × A6 × A7 × A8 × A9 × A10 × A11)) (k : A1 → A2 → A3 → A4 → A5 → A6 → A7 → A8 → A9 → A10 → A11 → Option R) : Option R := ob m (fun q => k q.1 q.2.1 q.2.2.1 q.2.2.2.1 q.2.2.2.2.1 q.2.2.2.2.2.1 q.2.2.2.2.2.2.1 q.2.2.2.2.2.2.2.1 q.2.2.2.2.2.2.2.2.1 q.2.2.2.2.2.2.2.2.2.1 q.2.2.2.2.2.2.2.2.2.2)
theorem ob11_some {A1 A2 A3 A4 A5 A6 A7 A8 A9 A10 A11 R : Type} {m : Option (A1 × A2 × A3 × A4 × A5 × A6 × A7 × A8 × A9 × A10 × A11)} {k : A1 → A2 → A3 → A4 → A5 → A6 → A7 → A8 → A9 → A10 → A11 → Option R} {r : R} (h : ob11 m k = some r) : ∃ a1 a2 a3 a4 a5 a6 a7 a8 a9 a10 a11, m = some (a1, a2, a3, a4, a5, a6, a7, a8, a9, a10, a11) ∧ k a1 a2 a3 a4 a5 a6 a7 a8 a9 a10 a11 = some r := by
  obtain ⟨q, h1, h2⟩ := ob_some h
  exact ⟨q.1, q.2.1, q.2.2.1, q.2.2.2.1, q.2.2.2.2.1, q.2.2.2.2.2.1, q.2.2.2.2.2.2.1, q.2.2.2.2.2.2.2.1, q.2.2.2.2.2.2.2.2.1, q.2.2.2.2.2.2.2.2.2.1, q.2.2.2.2.2.2.2.2.2.2, h1, h2⟩
theorem so_11 {A1 A2 A3 A4 A5 A6 A7 A8 A9 A10 A11 : Type} {a1 b1 : A1} {a2 b2 : A2} {a3 b3 : A3} {a4 b4 : A4} {a5 b5 : A5} {a6 b6 : A6} {a7 b7 : A7} {a8 b8 : A8} {a9 b9 : A9} {a10 b10 : A10} {a11 b11 : A11} (h : some (a1, a2, a3, a4, a5, a6, a7, a8, a9, a10, a11) = some (b1, b2, b3, b4, b5, b6, b7, b8, b9, b10, b11)) : a1 = b1 ∧ a2 = b2 ∧ a3 = b3 ∧ a4 = b4 ∧ a5 = b5 ∧ a6 = b6 ∧ a7 = b7 ∧ a8 = b8 ∧ a9 = b9 ∧ a10 = b10 ∧ a11 = b11 := by cases h; exact ⟨rfl, rfl, rfl, rfl, rfl, rfl, rfl, rfl, rfl, rfl, rfl⟩
def ob12 {A1 A2 A3 A4 A5 A6 A7 A8 A9 A10 A11 A12 R : Type} (m : Option (A1 × A2 × A3 × A4 × A5 × A6 × A7 × A8 × A9 × A10 × A11 × A12)) (k : A1 → A2 → A3 → A4 → A5 → A6 → A7 → A8 → A9 → A10 → A11 → A12 → Option R) : Option R := ob m (fun q => k q.1 q.2.1 q.2.2.1 q.2.2.2.1 q.2.2.2.2.1 q.2.2.2.2.2.1 q.2.2.2.2.2.2.1 q.2.2.2.2.2.2.2.1 q.2.2.2.2.2.2.2.2.1 q.2.2.2.2.2.2.2.2.2.1 q.2.2.2.2.2.2.2.2.2.2.1 q.2.2.2.2.2.2.2.2.2.2.2)
theorem ob12_some {A1 A2 A3 A4 A5 A6 A7 A8 A9 A10 A11 A12 R : Type} {m : Option (A1 × A2 × A3 × A4 × A5 × A6 × A7 × A8 × A9 × A10 × A11 × A12)} {k : A1 → A2 → A3 → A4 → A5 → A6 → A7 → A8 → A9 → A10 → A11 → A12 → Option R} {r : R} (h : ob12 m k = some r) : ∃ a1 a2 a3 a4 a5 a6 a7 a8 a9 a10 a11 a12, m = some (a1, a2, a3, a4, a5, a6, a7, a8, a9, a10, a11, a12) ∧ k a1 a2 a3 a4 a5 a6 a7 a8 a9 a10 a11 a12 = some r := by
  obtain ⟨q, h1, h2⟩ := ob_some h
  exact ⟨q.1, q.2.1, q.2.2.1, q.2.2.2.1, q.2.2.2.2.1, q.2.2.2.2.2.1, q.2.2.2.2.2.2.1, q.2.2.2.2.2.2.2.1, q.2.2.2.2.2.2.2.2.1, q.2.2.2.2.2.2.2.2.2.1, q.2.2.2.2.2.2.2.2.2.2.1, q.2.2.2.2.2.2.2.2.2.2.2, h1, h2⟩
theorem so_12 {A1 A2 A3 A4 A5 A6 A7 A8 A9 A10 A11 A12 : Type} {a1 b1 : A1} {a2 b2 : A2} {a3 b3 : A3} {a4 b4 : A4} {a5 b5 : A5} {a6 b6 : A6} {a7 b7 : A7} {a8 b8 : A8} {a9 b9 : A9} {a10 b10 : A10} {a11 b11 : A11} {a12 b12 : A12} (h : some (a1, a2, a3, a4, a5, a6, a7, a8, a9, a10, a11, a12) = some (b1, b2, b3, b4, b5, b6, b7, b8, b9, b10, b11, b12)) : a1 = b1 ∧ a2 = b2 ∧ a3 = b3 ∧ a4 = b4 ∧ a5 = b5 ∧ a6 = b6 ∧ a7 = b7 ∧ a8 = b8 ∧ a9 = b9 ∧ a10 = b10 ∧ a11 = b11 ∧ a12 = b12 := by cases h; exact ⟨rfl, rfl, rfl, rfl, rfl, rfl, rfl, rfl, rfl, rfl, rfl, rfl⟩
def ob13 {A1 A2 A3 A4 A5 A6 A7 A8 A9 A10 A11 A12 A13 R : Type} (m : Option (A1 × A2 × A3 × A4 × A5 × A6 × A7 × A8 × A9 × A10 × A11 × A12 × A13)) (k : A1 → A2 → A3 → A4 → A5 → A6 → A7 → A8 → A9 → A10 → A11 → A12 → A13 → Option R) : Option R := ob m (fun q => k q.1 q.2.1 q.2.2.1 q.2.2.2.1 q.2.2.2.2.1 q.2.2.2.2.2.1 q.2.2.2.2.2.2.1 q.2.2.2.2.2.2.2.1 q.2.2.2.2.2.2.2.2.1 q.2.2.2.2.2.2.2.2.2.1 q.2.2.2.2.2.2.2.2.2.2.1 q.2.2.2.2.2.2.2.2.2.2.2.1 q.2.2.2.2.2.2.2.2.2.2.2.2)
theorem ob13_some {A1 A2 A3 A4 A5 A6 A7 A8 A9 A10 A11 A12 A13 R : Type} {m : Option (A1 × A2 × A3 × A4 × A5 × A6 × A7 × A8 × A9 × A10 × A11 × A12 × A13)} {k : A1 → A2 → A3 → A4 → A5 → A6 → A7 → A8 → A9 → A10 → A11 → A12 → A13 → Option R} {r : R} (h : ob13 m k = some r) : ∃ a1 a2 a3 a4 a5 a6 a7 a8 a9 a10 a11 a12 a13, m = some (a1, a2, a3, a4, a5, a6, a7, a8, a9, a10, a11, a12, a13) ∧ k a1 a2 a3 a4 a5 a6 a7 a8 a9 a10 a11 a12 a13 = some r := by
  obtain ⟨q, h1, h2⟩ := ob_some h
  exact ⟨q.1, q.2.1, q.2.2.1, q.2.2.2.1, q.2.2.2.2.1, q.2.2.2.2.2.1, q.2.2.2.2.2.2.1, q.2.2.2.2.2.2.2.1, q.2.2.2.2.2.2.2.2.1, q.2.2.2.2.2.2.2.2.2.1, q.2.2.2.2.2.2.2.2.2.2.1, q.2.2.2.2.2.2.2.2.2.2.2.1, q.2.2.2.2.2.2.2.2.2.2.2.2, h1, h2⟩
theorem so_13 {A1 A2 A3 A4 A5 A6 A7 A8 A9 A10 A11 A12 A13 : Type} {a1 b1 : A1} {a2 b2 : A2} {a3 b3 : A3} {a4 b4 : A4} {a5 b5 : A5} {a6 b6 : A6} {a7 b7 : A7} {a8 b8 : A8} {a9 b9 : A9} {a10 b10 : A10} {a11 b11 : A11} {a12 b12 : A12} {a13 b13 : A13} (h : some (a1, a2, a3, a4, a5, a6, a7, a8, a9, a10, a11, a12, a13) = some (b1, b2, b3, b4, b5, b6, b7, b8, b9, b10, b11, b12, b13)) : a1 = b1 ∧ a2 = b2 ∧ a3 = b3 ∧ a4 = b4 ∧ a5 = b5 ∧ a6 = b6 ∧ a7 = b7 ∧ a8 = b8 ∧ a9 = b9 ∧ a10 = b10 ∧ a11 = b11 ∧ a12 = b12 ∧ a13 = b13 := by cases h; exact ⟨rfl, rfl, rfl, rfl, rfl, rfl, rfl, rfl, rfl, rfl, rfl, rfl, rfl⟩
def ob14 {A1 A2 A3 A4 A5 A6 A7 A8 A9 A10 A11 A12 A13 A14 R : Type} (m : Option (A1 × A2 × A3 × A4 × A5 × A6 × A7 × A8 × A9 × A10 × A11 × A12 × A13 × A14)) (k : A1 → A2 → A3 → A4 → A5 → A6 → A7 → A8 → A9 → A10 → A11 → A12 → A13 → A14 → Option R) : Option R := ob m (fun q => k q.1 q.2.1 q.2.2.1 q.2.2.2.1 q.2.2.2.2.1 q.2.2.2.2.2.1 q.2.2.2.2.2.2.1 q.2.2.2.2.2.2.2.1 q.2.2.2.2.2.2.2.2.1 q.2.2.2.2.2.2.2.2.2.1 q.2.2.2.2.2.2.2.2.2.2.1 q.2.2.2.2.2.2.2.2.2.2.2.1 q.2.2.2.2.2.2.2.2.2.2.2.2.1 q.2.2.2.2.2.2.2.2.2.2.2.2.2)
theorem ob14_some {A1 A2 A3 A4 A5 A6 A7 A8 A9 A10 A11 A12 A13 A14 R : Type} {m : Option (A1 × A2 × A3 × A4 × A5 × A6 × A7 × A8 × A9 × A10 × A11 × A12 × A13 × A14)} {k : A1 → A2 → A3 → A4 → A5 → A6 → A7 → A8 → A9 → A10 → A11 → A12 → A13 → A14 → Option R} {r : R} (h : ob14 m k = some r) : ∃ a1 a2 a3 a4 a5 a6 a7 a8 a9 a10 a11 a12 a13 a14, m = some (a1, a2, a3, a4, a5, a6, a7, a8, a9, a10, a11, a12, a13, a14) ∧ k a1 a2 a3 a4 a5 a6 a7 a8 a9 a10 a11 a12 a13 a14 = some r := by
  obtain ⟨q, h1, h2⟩ := ob_some h
  exact ⟨q.1, q.2.1, q.2.2.1, q.2.2.2.1, q.2.2.2.2.1, q.2.2.2.2.2.1, q.2.2.2.2.2.2.1, q.2.2.2.2.2.2.2.1, q.2.2.2.2.2.2.2.2.1, q.2.2.2.2.2.2.2.2.2.1, q.2.2.2.2.2.2.2.2.2.2.1, q.2.2.2.2.2.2.2.2.2.2.2.1, q.2.2.2.2.2.2.2.2.2.2.2.2.1, q.2.2.2.2.2.2.2.2.2.2.2.2.2, h1, h2⟩
theorem so_14 {A1 A2 A3 A4 A5 A6 A7 A8 A9 A10 A11 A12 A13 A14 : Type} {a1 b1 : A1} {a2 b2 : A2} {a3 b3 : A3} {a4 b4 : A4} {a5 b5 : A5} {a6 b6 : A6} {a7 b7 : A7} {a8 b8 : A8} {a9 b9 : A9} {a10 b10 : A10} {a11 b11 : A11} {a12 b12 : A12} {a13 b13 : A13} {a14 b14 : A14} (h : some (a1, a2, a3, a4, a5, a6, a7, a8, a9, a10, a11, a12, a13, a14) = some (b1, b2, b3, b4, b5, b6, b7, b8, b9, b10, b11, b12, b13, b14)) : a1 = b1 ∧ a2 = b2 ∧ a3 = b3 ∧ a4 = b4 ∧ a5 = b5 ∧ a6 = b6 ∧ a7 = b7 ∧ a8 = b8 ∧ a9 = b9 ∧ a10 = b10 ∧ a11 = b11 ∧ a12 = b12 ∧ a13 = b13 ∧ a14 = b14 := by cases h; exact ⟨rfl, rfl, rfl, rfl, rfl, rfl, rfl, rfl, rfl, rfl, rfl, rfl, rfl, rfl⟩
def ob15 {A1 A2 A3 A4 A5 A6 A7 A8 A9 A10 A11 A12 A13 A14 A15 R : Type} (m : Option (A1 × A2 × A3 × A4 × A5 × A6 × A7 × A8 × A9 × A10 × A11 × A12 × A13 × A14 × A15)) (k : A1 → A2 → A3 → A4 → A5 → A6 → A7 → A8 → A9 → A10 → A11 → A12 → A13 → A14 → A15 → Option R) : Option R := ob m (fun q => k q.1 q.2.1 q.2.2.1 q.2.2.2.1 q.2.2.2.2.1 q.2.2.2.2.2.1 q.2.2.2.2.2.2.1 q.2.2.2.2.2.2.2.1 q.2.2.2.2.2.2.2.2.1 q.2.2.2.2.2.2.2.2.2.1 q.2.2.2.2.2.2.2.2.2.2.1 q.2.2.2.2.2.2.2.2.2.2.2.1 q.2.2.2.2.2.2.2.2.2.2.2.2.1 q.2.2.2.2.2.2.2.2.2.2.2.2.2.1 q.2.2.2.2.2.2.2.2.2.2.2.2.2.2)
theorem ob15_some {A1 A2 A3 A4 A5 A6 A7 A8 A9 A10 A11 A12 A13 A14 A15 R : Type} {m : Option (A1 × A2 × A3 × A4 × A5 × A6 × A7 × A8 × A9 × A10 × A11 × A12 × A13 × A14 × A15)} {k : A1 → A2 → A3 → A4 → A5 → A6 → A7 → A8 → A9 → A10 → A11 → A12 → A13 → A14 → A15 → Option R} {r : R} (h : ob15 m k = some r) : ∃ a1 a2 a3 a4 a5 a6 a7 a8 a9 a10 a11 a12 a13 a14 a15, m = some (a1, a2, a3, a4, a5, a6, a7, a8, a9, a10, a11, a12, a13, a14, a15) ∧ k a1 a2 a3 a4 a5 a6 a7 a8 a9 a10 a11 a12 a13 a14 a15 = some r := by
  obtain ⟨q, h1, h2⟩ := ob_some h
  exact ⟨q.1, q.2.1, q.2.2.1, q.2.2.2.1, q.2.2.2.2.1, q.2.2.2.2.2.1, q.2.2.2.2.2.2.1, q.2.2.2.2.2.2.2.1, q.2.2.2.2.2.2.2.2.1, q.2.2.2.2.2.2.2.2.2.1, q.2.2.2.2.2.2.2.2.2.2.1, q.2.2.2.2.2.2.2.2.2.2.2.1, q.2.2.2.2.2.2.2.2.2.2.2.2.1, q.2.2.2.2.2.2.2.2.2.2.2.2.2.1, q.2.2.2.2.2.2.2.2.2.2.2.2.2.2, h1, h2⟩
theorem so_15 {A1 A2 A3 A4 A5 A6 A7 A8 A9 A10 A11 A12 A13 A14 A15 : Type} {a1 b1 : A1} {a2 b2 : A2} {a3 b3 : A3} {a4 b4 : A4} {a5 b5 : A5} {a6 b6 : A6} {a7 b7 : A7} {a8 b8 : A8} {a9 b9 : A9} {a10 b10 : A10} {a11 b11 : A11} {a12 b12 : A12} {a13 b13 : A13} {a14 b14 : A14} {a15 b15 : A15} (h : some (a1, a2, a3, a4, a5, a6, a7, a8, a9, a10, a11, a12, a13, a14, a15) = some (b1, b2, b3, b4, b5, b6, b7, b8, b9, b10, b11, b12, b13, b14, b15)) : a1 = b1 ∧ a2 = b2 ∧ a3 = b3 ∧ a4 = b4 ∧ a5 = b5 ∧ a6 = b6 ∧ a7 = b7 ∧ a8 = b8 ∧ a9 = b9 ∧ a10 = b10 ∧ a11 = b11 ∧ a12 = b12 ∧ a13 = b13 ∧ a14 = b14 ∧ a15 = b15 := by cases h; exact ⟨rfl, rfl, rfl, rfl, rfl, rfl, rfl, rfl, rfl, rfl, rfl, rfl, rfl, rfl, rfl⟩
def ob16 {A1 A2 A3 A4 A5 A6 A7 A8 A9 A10 A11 A12 A13 A14 A15 A16 R : Type} (m : Option (A1 × A2 × A3 × A4 × A5 × A6 × A7 × A8 × A9 × A10 × A11 × A12 × A13 × A14 × A15 × A16)) (k : A1 → A2 → A3 → A4 → A5 → A6 → A7 → A8 → A9 → A10 → A11 → A12 → A13 → A14 → A15 → A16 → Option R) : Option R := ob m (fun q => k q.1 q.2.1 q.2.2.1 q.2.2.2.1 q.2.2.2.2.1 q.2.2.2.2.2.1 q.2.2.2.2.2.2.1 q.2.2.2.2.2.2.2.1 q.2.2.2.2.2.2.2.2.1 q.2.2.2.2.2.2.2.2.2.1 q.2.2.2.2.2.2.2.2.2.2.1 q.2.2.2.2.2.2.2.2.2.2.2.1 q.2.2.2.2.2.2.2.2.2.2.2.2.1 q.2.2.2.2.2.2.2.2.2.2.2.2.2.1 q.2.2.2.2.2.2.2.2.2.2.2.2.2.2.1 q.2.2.2.2.2.2.2.2.2.2.2.2.2.2.2)
theorem ob16_some {A1 A2 A3 A4 A5 A6 A7 A8 A9 A10 A11 A12 A13 A14 A15 A16 R : Type} {m : Option (A1 × A2 × A3 × A4 × A5 × A6 × A7 × A8 × A9 × A10 × A11 × A12 × A13 × A14 × A15 × A16)} {k : A1 → A2 → A3 → A4 → A5 → A6 → A7 → A8 → A9 → A10 → A11 → A12 → A13 → A14 → A15 → A16 → Option R} {r : R} (h : ob16 m k = some r) : ∃ a1 a2 a3 a4 a5 a6 a7 a8 a9 a10 a11 a12 a13 a14 a15 a16, m = some (a1, a2, a3, a4, a5, a6, a7, a8, a9, a10, a11, a12, a13, a14, a15, a16) ∧ k a1 a2 a3 a4 a5 a6 a7 a8 a9 a10 a11 a12 a13 a14 a15 a16 = some r := by
  obtain ⟨q, h1, h2⟩ := ob_some h
  exact ⟨q.1, q.2.1, q.2.2.1, q.2.2.2.1, q.2.2.2.2.1, q.2.2.2.2.2.1, q.2.2.2.2.2.2.1, q.2.2.2.2.2.2.2.1, q.2.2.2.2.2.2.2.2.1, q.2.2.2.2.2.2.2.2.2.1, q.2.2.2.2.2.2.2.2.2.2.1, q.2.2.2.2.2.2.2.2.2.2.2.1, q.2.2.2.2.2.2.2.2.2.2.2.2.1, q.2.2.2.2.2.2.2.2.2.2.2.2.2.1, q.2.2.2.2.2.2.2.2.2.2.2.2.2.2.1, q.2.2.2.2.2.2.2.2.2.2.2.2.2.2.2, h1, h2⟩
theorem so_16 {A1 A2 A3 A4 A5 A6 A7 A8 A9 A10 A11 A12 A13 A14 A15 A16 : Type} {a1 b1 : A1} {a2 b2 : A2} {a3 b3 : A3} {a4 b4 : A4} {a5 b5 : A5} {a6 b6 : A6} {a7 b7 : A7} {a8 b8 : A8} {a9 b9 : A9} {a10 b10 : A10} {a11 b11 : A11} {a12 b12 : A12} {a13 b13 : A13} {a14 b14 : A14} {a15 b15 : A15} {a16 b16 : A16} (h : some (a1, a2, a3, a4, a5, a6, a7, a8, a9, a10, a11, a12, a13, a14, a15, a16) = some (b1, b2, b3, b4, b5, b6, b7, b8, b9, b10, b11, b12, b13, b14, b15, b16)) : a1 = b1 ∧ a2 = b2 ∧ a3 = b3 ∧ a4 = b4 ∧ a5 = b5 ∧ a6 = b6 ∧ a7 = b7 ∧ a8 = b8 ∧ a9 = b9 ∧ a10 = b10 ∧ a11 = b11 ∧ a12 = b12 ∧ a13 = b13 ∧ a14 = b14 ∧ a15 = b15 ∧ a16 = b16 := by cases h; exact ⟨rfl, rfl, rfl, rfl, rfl, rfl, rfl, rfl, rfl, rfl, rfl, rfl, rfl, rfl, rfl, rfl⟩
theorem ic_m1 : Int32.ofInt (-1) = (-1) := by decide
theorem ic_0 : Int32.ofInt 0 = 0 := by decide
theorem ic_1 : Int32.ofInt 1 = 1 := by decide
theorem ic_2 : Int32.ofInt 2 = 2 := by decide
theorem ic_3 : Int32.ofInt 3 = 3 := by decide
theorem ic_4 : Int32.ofInt 4 = 4 := by decide
theorem ic_5 : Int32.ofInt 5 = 5 := by decide
theorem bp_m9 : (Int8.ofInt (-9)).toInt32 = (-9) := by decide
theorem bp_m4 : (Int8.ofInt (-4)).toInt32 = (-4) := by decide
theorem bp_m3 : (Int8.ofInt (-3)).toInt32 = (-3) := by decide
theorem bp_m2 : (Int8.ofInt (-2)).toInt32 = (-2) := by decide
theorem bp_6 : (Int8.ofInt 6).toInt32 = 6 := by decide
theorem bp_7 : (Int8.ofInt 7).toInt32 = 7 := by decide
theorem bp_8 : (Int8.ofInt 8).toInt32 = 8 := by decide
theorem bp_9 : (Int8.ofInt 9).toInt32 = 9 := by decide
theorem bp_12 : (Int8.ofInt 12).toInt32 = 12 := by decide
theorem bp_15 : (Int8.ofInt 15).toInt32 = 15 := by decide
theorem bp_16 : (Int8.ofInt 16).toInt32 = 16 := by decide
theorem bp_20 : (Int8.ofInt 20).toInt32 = 20 := by decide
theorem bp_21 : (Int8.ofInt 21).toInt32 = 21 := by decide
theorem bp_30 : (Int8.ofInt 30).toInt32 = 30 := by decide
theorem bp_50 : (Int8.ofInt 50).toInt32 = 50 := by decide
theorem bp_60 : (Int8.ofInt 60).toInt32 = 60 := by decide
theorem bp_100 : (Int8.ofInt 100).toInt32 = 100 := by decide
theorem sp_m10000 : (Int16.ofInt (-10000)).toInt32 = (-10000) := by decide
theorem sp_200 : (Int16.ofInt 200).toInt32 = 200 := by decide
theorem sp_256 : (Int16.ofInt 256).toInt32 = 256 := by decide
theorem sp_500 : (Int16.ofInt 500).toInt32 = 500 := by decide
theorem sp_1000 : (Int16.ofInt 1000).toInt32 = 1000 := by decide
theorem sp_10000 : (Int16.ofInt 10000).toInt32 = 10000 := by decide
theorem ii_m1 (x : Int32) : x + Int32.ofInt (-1) = x + (-1) := rfl
theorem ii_1 (x : Int32) : x + Int32.ofInt 1 = x + 1 := rfl
theorem lc_0 : Int64.ofNat ((0 : Fin 2) : Nat) = 0 := by decide
theorem lc_1 : Int64.ofNat ((1 : Fin 2) : Nat) = 1 := by decide
theorem tb_2 {x : Int32} (h0 : ¬ x = 0) (h1 : ¬ x = 1) (h2 : ¬ x = 2) : x.toInt < 0 ∨ 2 < x.toInt := by
  have q : ∀ j : Int32, ¬ x = j → x.toInt ≠ j.toInt := fun j h e => h (Int32.toInt_inj.mp e)
  have q0 : x.toInt ≠ 0 := q 0 h0
  have q1 : x.toInt ≠ 1 := q 1 h1
  have q2 : x.toInt ≠ 2 := q 2 h2
  omega
theorem tb_5 {x : Int32} (h0 : ¬ x = 0) (h1 : ¬ x = 1) (h2 : ¬ x = 2) (h3 : ¬ x = 3) (h4 : ¬ x = 4) (h5 : ¬ x = 5) : x.toInt < 0 ∨ 5 < x.toInt := by
  have q : ∀ j : Int32, ¬ x = j → x.toInt ≠ j.toInt := fun j h e => h (Int32.toInt_inj.mp e)
  have q0 : x.toInt ≠ 0 := q 0 h0
  have q1 : x.toInt ≠ 1 := q 1 h1
  have q2 : x.toInt ≠ 2 := q 2 h2
  have q3 : x.toInt ≠ 3 := q 3 h3
  have q4 : x.toInt ≠ 4 := q 4 h4
  have q5 : x.toInt ≠ 5 := q 5 h5
  omega
abbrev v6 (cy : Nat → ClassId) (ad : Nat → Nat) (c6_bytes : Nat → Int32) (c6_sizes : Nat → Int32) (c6_weights : Nat → Int32) : va_W := [((ad 60), .inr (6, [.ref (ad 1601), .ref (ad 1602), .ref (ad 1603)])), ((ad 1601), .inl (cy 0, 64, .inl c6_bytes)), ((ad 1602), .inl (cy 1, 4, .inl c6_sizes)), ((ad 1603), .inl (cy 1, 4, .inl c6_weights))]
abbrev w6 (cy : Nat → ClassId) (ad : Nat → Nat) (c6_bytes : Nat → Int32) (c6_sizes : Nat → Int32) (c6_weights : Nat → Int32) : va_W := v6 cy ad c6_bytes c6_sizes c6_weights
abbrev v5 (cy : Nat → ClassId) (ad : Nat → Nat) (c5_legs : Int32) (c5_length : Int32) (c5_ways : Nat → Int32) (c5_units : Nat → Int32) (c5_stuffOf : Nat → Int32) (c5_point : Nat → Int32) : va_W := [((ad 50), .inr (5, [.ref (ad 60), .ref (ad 1502), .ref (ad 1503), .ref (ad 1504), .ref (ad 1505), .int c5_legs, .int c5_length])), ((ad 1502), .inl (cy 1, 12, .inl c5_ways)), ((ad 1503), .inl (cy 1, 12, .inl c5_units)), ((ad 1504), .inl (cy 1, 12, .inl c5_stuffOf)), ((ad 1505), .inl (cy 1, 3, .inl c5_point))]
abbrev w5 (cy : Nat → ClassId) (ad : Nat → Nat) (c5_legs : Int32) (c5_length : Int32) (c5_ways : Nat → Int32) (c5_units : Nat → Int32) (c5_stuffOf : Nat → Int32) (c5_point : Nat → Int32) (c6_bytes : Nat → Int32) (c6_sizes : Nat → Int32) (c6_weights : Nat → Int32) : va_W := v5 cy ad c5_legs c5_length c5_ways c5_units c5_stuffOf c5_point ++ (w6 cy ad c6_bytes c6_sizes c6_weights)
abbrev v4 (cy : Nat → ClassId) (ad : Nat → Nat) (c4_made : Int32) (c4_kinds : Nat → Int32) (c4_places : Nat → Int32) (c4_rates : Nat → Int32) (c4_readings : Nat → Int32) (c4_bearing : Nat → Int32) : va_W := [((ad 40), .inr (4, [.ref (ad 50), .ref (ad 1402), .ref (ad 1403), .ref (ad 1404), .ref (ad 1405), .ref (ad 1406), .int c4_made])), ((ad 1402), .inl (cy 1, 12, .inl c4_kinds)), ((ad 1403), .inl (cy 1, 12, .inl c4_places)), ((ad 1404), .inl (cy 1, 12, .inl c4_rates)), ((ad 1405), .inl (cy 1, 12, .inl c4_readings)), ((ad 1406), .inl (cy 2, 12, .inl c4_bearing))]
abbrev w4 (cy : Nat → ClassId) (ad : Nat → Nat) (c4_made : Int32) (c4_kinds : Nat → Int32) (c4_places : Nat → Int32) (c4_rates : Nat → Int32) (c4_readings : Nat → Int32) (c4_bearing : Nat → Int32) (c5_legs : Int32) (c5_length : Int32) (c5_ways : Nat → Int32) (c5_units : Nat → Int32) (c5_stuffOf : Nat → Int32) (c5_point : Nat → Int32) (c6_bytes : Nat → Int32) (c6_sizes : Nat → Int32) (c6_weights : Nat → Int32) : va_W := v4 cy ad c4_made c4_kinds c4_places c4_rates c4_readings c4_bearing ++ (w5 cy ad c5_legs c5_length c5_ways c5_units c5_stuffOf c5_point c6_bytes c6_sizes c6_weights)
abbrev v3 (cy : Nat → ClassId) (ad : Nat → Nat) (c3_size : Int32) (c3_rates : Nat → Int32) : va_W := [((ad 30), .inr (3, [.ref (ad 1301), .int c3_size])), ((ad 1301), .inl (cy 1, 12, .inl c3_rates))]
abbrev w3 (cy : Nat → ClassId) (ad : Nat → Nat) (c3_size : Int32) (c3_rates : Nat → Int32) : va_W := v3 cy ad c3_size c3_rates
abbrev v0 (cy : Nat → ClassId) (ad : Nat → Nat) (c0_amounts : Nat → Int32) (c0_lows : Nat → Int32) (c0_highs : Nat → Int32) (c0_barred : Nat → Int32) : va_W := [((ad 900), .inr (0, [.ref (ad 1001), .ref (ad 1002), .ref (ad 1003), .ref (ad 1004)])), ((ad 1001), .inl (cy 1, 8, .inl c0_amounts)), ((ad 1002), .inl (cy 1, 8, .inl c0_lows)), ((ad 1003), .inl (cy 1, 8, .inl c0_highs)), ((ad 1004), .inl (cy 1, 8, .inl c0_barred))]
abbrev w0 (cy : Nat → ClassId) (ad : Nat → Nat) (c0_amounts : Nat → Int32) (c0_lows : Nat → Int32) (c0_highs : Nat → Int32) (c0_barred : Nat → Int32) : va_W := v0 cy ad c0_amounts c0_lows c0_highs c0_barred
abbrev v1 (cy : Nat → ClassId) (ad : Nat → Nat) (c1_lines : Int32) (c1_parts : Int64) : va_W := [((ad 10), .inr (1, [.int c1_lines, .long c1_parts]))]
abbrev w1 (cy : Nat → ClassId) (ad : Nat → Nat) (c1_lines : Int32) (c1_parts : Int64) : va_W := v1 cy ad c1_lines c1_parts
abbrev v2 (cy : Nat → ClassId) (ad : Nat → Nat) (c2_above : Int64) (c2_below : Int64) : va_W := [((ad 20), .inr (2, [.long c2_above, .long c2_below]))]
abbrev w2 (cy : Nat → ClassId) (ad : Nat → Nat) (c2_above : Int64) (c2_below : Int64) : va_W := v2 cy ad c2_above c2_below
abbrev v7 (cy : Nat → ClassId) (ad : Nat → Nat) (c7_lastFound : Int32) (c7_lastAsked : Int32) (c7_found : Nat → Int32) : va_W := [((ad 70), .inr (7, [.ref (ad 60), .ref (ad 50), .ref (ad 40), .ref (ad 30), .ref (ad 900), .ref (ad 10), .ref (ad 20), .ref (ad 1708), .int c7_lastFound, .int c7_lastAsked])), ((ad 1708), .inl (cy 1, 6, .inl c7_found))]
abbrev w7 (cy : Nat → ClassId) (ad : Nat → Nat) (c7_lastFound : Int32) (c7_lastAsked : Int32) (c7_found : Nat → Int32) (c4_made : Int32) (c4_kinds : Nat → Int32) (c4_places : Nat → Int32) (c4_rates : Nat → Int32) (c4_readings : Nat → Int32) (c4_bearing : Nat → Int32) (c5_legs : Int32) (c5_length : Int32) (c5_ways : Nat → Int32) (c5_units : Nat → Int32) (c5_stuffOf : Nat → Int32) (c5_point : Nat → Int32) (c6_bytes : Nat → Int32) (c6_sizes : Nat → Int32) (c6_weights : Nat → Int32) (c3_size : Int32) (c3_rates : Nat → Int32) (c0_amounts : Nat → Int32) (c0_lows : Nat → Int32) (c0_highs : Nat → Int32) (c0_barred : Nat → Int32) (c1_lines : Int32) (c1_parts : Int64) (c2_above : Int64) (c2_below : Int64) : va_W := v7 cy ad c7_lastFound c7_lastAsked c7_found ++ (w4 cy ad c4_made c4_kinds c4_places c4_rates c4_readings c4_bearing c5_legs c5_length c5_ways c5_units c5_stuffOf c5_point c6_bytes c6_sizes c6_weights ++ (w3 cy ad c3_size c3_rates ++ (w0 cy ad c0_amounts c0_lows c0_highs c0_barred ++ (w1 cy ad c1_lines c1_parts ++ (w2 cy ad c2_above c2_below)))))
abbrev v8 (cy : Nat → ClassId) (ad : Nat → Nat) (c8_latest : Int32) (c8_asked : Int32) (c8_upper : Int64) (c8_lower : Int64) (c8_legs : Int32) (c8_units : Int32) (c8_rests : Int32) (c8_rates : Int32) (c8_lines : Int32) (c8_came : Nat → Int32) (c8_sizes : Nat → Int32) (c8_weights : Nat → Int32) (c8_growths : Nat → Int32) (c8_copied : Nat → Int32) (c8_legWay : Nat → Int32) (c8_legUnits : Nat → Int32) (c8_legStuff : Nat → Int32) (c8_unitWay : Nat → Int32) (c8_unitStuff : Nat → Int32) (c8_xs : Nat → Int32) (c8_ys : Nat → Int32) (c8_zs : Nat → Int32) (c8_kindOf : Nat → Int32) (c8_placeOf : Nat → Int32) (c8_rateOf : Nat → Int32) (c8_readOf : Nat → Int32) (c8_isGone : Nat → Int32) (c8_theList : Nat → Int32) (c8_amounts : Nat → Int32) (c8_low : Nat → Int32) (c8_high : Nat → Int32) (c8_barred : Nat → Int32) (c8_times : Nat → Int32) (c8_ranges : Nat → Int32) : va_W := [((ad 80), .inr (8, [.int c8_latest, .ref (ad 1802), .int c8_asked, .long c8_upper, .long c8_lower, .ref (ad 1806), .ref (ad 1807), .ref (ad 1808), .ref (ad 1809), .int c8_legs, .ref (ad 1811), .ref (ad 1812), .ref (ad 1813), .int c8_units, .ref (ad 1815), .ref (ad 1816), .ref (ad 1817), .ref (ad 1818), .ref (ad 1819), .int c8_rests, .ref (ad 1821), .ref (ad 1822), .ref (ad 1823), .ref (ad 1824), .ref (ad 1825), .int c8_rates, .ref (ad 1827), .ref (ad 1828), .ref (ad 1829), .ref (ad 1830), .ref (ad 1831), .int c8_lines, .ref (ad 1833), .ref (ad 1834)])), ((ad 1802), .inl (cy 1, 6, .inl c8_came)), ((ad 1806), .inl (cy 1, 4, .inl c8_sizes)), ((ad 1807), .inl (cy 1, 4, .inl c8_weights)), ((ad 1808), .inl (cy 0, 64, .inl c8_growths)), ((ad 1809), .inl (cy 0, 16, .inl c8_copied)), ((ad 1811), .inl (cy 1, 12, .inl c8_legWay)), ((ad 1812), .inl (cy 1, 12, .inl c8_legUnits)), ((ad 1813), .inl (cy 1, 12, .inl c8_legStuff)), ((ad 1815), .inl (cy 1, 240, .inl c8_unitWay)), ((ad 1816), .inl (cy 1, 240, .inl c8_unitStuff)), ((ad 1817), .inl (cy 1, 241, .inl c8_xs)), ((ad 1818), .inl (cy 1, 241, .inl c8_ys)), ((ad 1819), .inl (cy 1, 241, .inl c8_zs)), ((ad 1821), .inl (cy 1, 12, .inl c8_kindOf)), ((ad 1822), .inl (cy 1, 12, .inl c8_placeOf)), ((ad 1823), .inl (cy 1, 12, .inl c8_rateOf)), ((ad 1824), .inl (cy 1, 12, .inl c8_readOf)), ((ad 1825), .inl (cy 2, 12, .inl c8_isGone)), ((ad 1827), .inl (cy 1, 12, .inl c8_theList)), ((ad 1828), .inl (cy 1, 8, .inl c8_amounts)), ((ad 1829), .inl (cy 1, 8, .inl c8_low)), ((ad 1830), .inl (cy 1, 8, .inl c8_high)), ((ad 1831), .inl (cy 1, 8, .inl c8_barred)), ((ad 1833), .inl (cy 1, 30, .inl c8_times)), ((ad 1834), .inl (cy 1, 30, .inl c8_ranges))]
abbrev w8 (cy : Nat → ClassId) (ad : Nat → Nat) (c8_latest : Int32) (c8_asked : Int32) (c8_upper : Int64) (c8_lower : Int64) (c8_legs : Int32) (c8_units : Int32) (c8_rests : Int32) (c8_rates : Int32) (c8_lines : Int32) (c8_came : Nat → Int32) (c8_sizes : Nat → Int32) (c8_weights : Nat → Int32) (c8_growths : Nat → Int32) (c8_copied : Nat → Int32) (c8_legWay : Nat → Int32) (c8_legUnits : Nat → Int32) (c8_legStuff : Nat → Int32) (c8_unitWay : Nat → Int32) (c8_unitStuff : Nat → Int32) (c8_xs : Nat → Int32) (c8_ys : Nat → Int32) (c8_zs : Nat → Int32) (c8_kindOf : Nat → Int32) (c8_placeOf : Nat → Int32) (c8_rateOf : Nat → Int32) (c8_readOf : Nat → Int32) (c8_isGone : Nat → Int32) (c8_theList : Nat → Int32) (c8_amounts : Nat → Int32) (c8_low : Nat → Int32) (c8_high : Nat → Int32) (c8_barred : Nat → Int32) (c8_times : Nat → Int32) (c8_ranges : Nat → Int32) : va_W := v8 cy ad c8_latest c8_asked c8_upper c8_lower c8_legs c8_units c8_rests c8_rates c8_lines c8_came c8_sizes c8_weights c8_growths c8_copied c8_legWay c8_legUnits c8_legStuff c8_unitWay c8_unitStuff c8_xs c8_ys c8_zs c8_kindOf c8_placeOf c8_rateOf c8_readOf c8_isGone c8_theList c8_amounts c8_low c8_high c8_barred c8_times c8_ranges
end
section
theorem dX0_init_0 : decode cX0_init 0 = .ok (.aload_n 0, 1) := by decide +kernel
theorem dX0_init_1 : decode cX0_init 1 = .ok (.invokespecial 3, 3) := by decide +kernel
theorem dX0_init_4 : decode cX0_init 4 = .ok (.aload_n 0, 1) := by decide +kernel
theorem dX0_init_5 : decode cX0_init 5 = .ok (.bipush 8, 2) := by decide +kernel
theorem dX0_init_7 : decode cX0_init 7 = .ok (.newarray .int, 2) := by decide +kernel
theorem dX0_init_9 : decode cX0_init 9 = .ok (.putfield 9, 3) := by decide +kernel
theorem dX0_init_12 : decode cX0_init 12 = .ok (.aload_n 0, 1) := by decide +kernel
theorem dX0_init_13 : decode cX0_init 13 = .ok (.bipush 8, 2) := by decide +kernel
theorem dX0_init_15 : decode cX0_init 15 = .ok (.newarray .int, 2) := by decide +kernel
theorem dX0_init_17 : decode cX0_init 17 = .ok (.putfield 15, 3) := by decide +kernel
theorem dX0_init_20 : decode cX0_init 20 = .ok (.aload_n 0, 1) := by decide +kernel
theorem dX0_init_21 : decode cX0_init 21 = .ok (.bipush 8, 2) := by decide +kernel
theorem dX0_init_23 : decode cX0_init 23 = .ok (.newarray .int, 2) := by decide +kernel
theorem dX0_init_25 : decode cX0_init 25 = .ok (.putfield 18, 3) := by decide +kernel
theorem dX0_init_28 : decode cX0_init 28 = .ok (.aload_n 0, 1) := by decide +kernel
theorem dX0_init_29 : decode cX0_init 29 = .ok (.bipush 8, 2) := by decide +kernel
theorem dX0_init_31 : decode cX0_init 31 = .ok (.newarray .int, 2) := by decide +kernel
theorem dX0_init_33 : decode cX0_init 33 = .ok (.putfield 21, 3) := by decide +kernel
theorem dX0_init_36 : decode cX0_init 36 = .ok (.aload_n 0, 1) := by decide +kernel
theorem dX0_init_37 : decode cX0_init 37 = .ok (.getfield 18, 3) := by decide +kernel
theorem dX0_init_40 : decode cX0_init 40 = .ok (.iconst 1, 1) := by decide +kernel
theorem dX0_init_41 : decode cX0_init 41 = .ok (.invokestatic 24, 3) := by decide +kernel
theorem dX0_init_44 : decode cX0_init 44 = .ok (.return_, 1) := by decide +kernel
theorem dX0_put_0 : decode cX0_put 0 = .ok (.aload_n 0, 1) := by decide +kernel
theorem dX0_put_1 : decode cX0_put 1 = .ok (.getfield 9, 3) := by decide +kernel
theorem dX0_put_4 : decode cX0_put 4 = .ok (.iload_n 1, 1) := by decide +kernel
theorem dX0_put_5 : decode cX0_put 5 = .ok (.iload_n 2, 1) := by decide +kernel
theorem dX0_put_6 : decode cX0_put 6 = .ok (.iastore, 1) := by decide +kernel
theorem dX0_put_7 : decode cX0_put 7 = .ok (.aload_n 0, 1) := by decide +kernel
theorem dX0_put_8 : decode cX0_put 8 = .ok (.getfield 15, 3) := by decide +kernel
theorem dX0_put_11 : decode cX0_put 11 = .ok (.iload_n 1, 1) := by decide +kernel
theorem dX0_put_12 : decode cX0_put 12 = .ok (.iload_n 3, 1) := by decide +kernel
theorem dX0_put_13 : decode cX0_put 13 = .ok (.iastore, 1) := by decide +kernel
theorem dX0_put_14 : decode cX0_put 14 = .ok (.aload_n 0, 1) := by decide +kernel
theorem dX0_put_15 : decode cX0_put 15 = .ok (.getfield 18, 3) := by decide +kernel
theorem dX0_put_18 : decode cX0_put 18 = .ok (.iload_n 1, 1) := by decide +kernel
theorem dX0_put_19 : decode cX0_put 19 = .ok (.iload 4, 2) := by decide +kernel
theorem dX0_put_21 : decode cX0_put 21 = .ok (.iastore, 1) := by decide +kernel
theorem dX0_put_22 : decode cX0_put 22 = .ok (.return_, 1) := by decide +kernel
theorem dX0_setBarred_0 : decode cX0_setBarred 0 = .ok (.aload_n 0, 1) := by decide +kernel
theorem dX0_setBarred_1 : decode cX0_setBarred 1 = .ok (.getfield 21, 3) := by decide +kernel
theorem dX0_setBarred_4 : decode cX0_setBarred 4 = .ok (.iload_n 1, 1) := by decide +kernel
theorem dX0_setBarred_5 : decode cX0_setBarred 5 = .ok (.iaload, 1) := by decide +kernel
theorem dX0_setBarred_6 : decode cX0_setBarred 6 = .ok (.iconst 1, 1) := by decide +kernel
theorem dX0_setBarred_7 : decode cX0_setBarred 7 = .ok (.iload_n 2, 1) := by decide +kernel
theorem dX0_setBarred_8 : decode cX0_setBarred 8 = .ok (.ishl, 1) := by decide +kernel
theorem dX0_setBarred_9 : decode cX0_setBarred 9 = .ok (.iand, 1) := by decide +kernel
theorem dX0_setBarred_10 : decode cX0_setBarred 10 = .ok (.ifCond .eq 7, 3) := by decide +kernel
theorem dX0_setBarred_13 : decode cX0_setBarred 13 = .ok (.iconst 1, 1) := by decide +kernel
theorem dX0_setBarred_14 : decode cX0_setBarred 14 = .ok (.goto 4, 3) := by decide +kernel
theorem dX0_setBarred_17 : decode cX0_setBarred 17 = .ok (.iconst 0, 1) := by decide +kernel
theorem dX0_setBarred_18 : decode cX0_setBarred 18 = .ok (.istore 4, 2) := by decide +kernel
theorem dX0_setBarred_20 : decode cX0_setBarred 20 = .ok (.iload 4, 2) := by decide +kernel
theorem dX0_setBarred_22 : decode cX0_setBarred 22 = .ok (.iload_n 3, 1) := by decide +kernel
theorem dX0_setBarred_23 : decode cX0_setBarred 23 = .ok (.if_icmp .eq 27, 3) := by decide +kernel
theorem dX0_setBarred_26 : decode cX0_setBarred 26 = .ok (.aload_n 0, 1) := by decide +kernel
theorem dX0_setBarred_27 : decode cX0_setBarred 27 = .ok (.getfield 21, 3) := by decide +kernel
theorem dX0_setBarred_30 : decode cX0_setBarred 30 = .ok (.iload_n 1, 1) := by decide +kernel
theorem dX0_setBarred_31 : decode cX0_setBarred 31 = .ok (.dup2, 1) := by decide +kernel
theorem dX0_setBarred_32 : decode cX0_setBarred 32 = .ok (.iaload, 1) := by decide +kernel
theorem dX0_setBarred_33 : decode cX0_setBarred 33 = .ok (.iconst 1, 1) := by decide +kernel
theorem dX0_setBarred_34 : decode cX0_setBarred 34 = .ok (.iload_n 2, 1) := by decide +kernel
theorem dX0_setBarred_35 : decode cX0_setBarred 35 = .ok (.ishl, 1) := by decide +kernel
theorem dX0_setBarred_36 : decode cX0_setBarred 36 = .ok (.ixor, 1) := by decide +kernel
theorem dX0_setBarred_37 : decode cX0_setBarred 37 = .ok (.iastore, 1) := by decide +kernel
theorem dX0_setBarred_38 : decode cX0_setBarred 38 = .ok (.aload_n 0, 1) := by decide +kernel
theorem dX0_setBarred_39 : decode cX0_setBarred 39 = .ok (.getfield 21, 3) := by decide +kernel
theorem dX0_setBarred_42 : decode cX0_setBarred 42 = .ok (.iload_n 2, 1) := by decide +kernel
theorem dX0_setBarred_43 : decode cX0_setBarred 43 = .ok (.dup2, 1) := by decide +kernel
theorem dX0_setBarred_44 : decode cX0_setBarred 44 = .ok (.iaload, 1) := by decide +kernel
theorem dX0_setBarred_45 : decode cX0_setBarred 45 = .ok (.iconst 1, 1) := by decide +kernel
theorem dX0_setBarred_46 : decode cX0_setBarred 46 = .ok (.iload_n 1, 1) := by decide +kernel
theorem dX0_setBarred_47 : decode cX0_setBarred 47 = .ok (.ishl, 1) := by decide +kernel
theorem dX0_setBarred_48 : decode cX0_setBarred 48 = .ok (.ixor, 1) := by decide +kernel
theorem dX0_setBarred_49 : decode cX0_setBarred 49 = .ok (.iastore, 1) := by decide +kernel
theorem dX0_setBarred_50 : decode cX0_setBarred 50 = .ok (.iload 4, 2) := by decide +kernel
theorem dX0_setBarred_52 : decode cX0_setBarred 52 = .ok (.ireturn, 1) := by decide +kernel
set_option maxRecDepth 20000 in
theorem ggX0_worstSet_X0_goesTogether : GoodIn wsX0_worstSet wsX0_goesTogether := goodIn_r _ [5, 6, 18, 19, 20, 21] (by decide +kernel) (by decide +kernel)
set_option maxRecDepth 20000 in
theorem gX0_worstSet_X0_goesTogether : GoodIn wsX0_worstSet (wsV RX0 30 RX0 yX0_goesTogether wsX0_goesTogether) := goodIn_app (goodIn_of _ (by decide +kernel)) ggX0_worstSet_X0_goesTogether
set_option maxRecDepth 20000 in
theorem ggX0_worstSet_X0_joined : GoodIn wsX0_worstSet wsX0_joined := goodIn_r _ [10, 11, 12, 13, 14, 15, 16, 17, 18, 19, 20, 21] (by decide +kernel) (by decide +kernel)
set_option maxRecDepth 20000 in
theorem gX0_worstSet_X0_joined : GoodIn wsX0_worstSet (wsV RX0 34 RX0 yX0_joined wsX0_joined) := goodIn_app (goodIn_of _ (by decide +kernel)) ggX0_worstSet_X0_joined
theorem dX0_worstSet_0 : decode cX0_worstSet 0 = .ok (.iconst 0, 1) := by decide +kernel
theorem dX0_worstSet_1 : decode cX0_worstSet 1 = .ok (.istore_n 1, 1) := by decide +kernel
theorem dX0_worstSet_2 : decode cX0_worstSet 2 = .ok (.iconst 0, 1) := by decide +kernel
theorem dX0_worstSet_3 : decode cX0_worstSet 3 = .ok (.istore_n 2, 1) := by decide +kernel
theorem dX0_worstSet_4 : decode cX0_worstSet 4 = .ok (.iconst 1, 1) := by decide +kernel
theorem dX0_worstSet_5 : decode cX0_worstSet 5 = .ok (.istore_n 3, 1) := by decide +kernel
theorem dX0_worstSet_6 : decode cX0_worstSet 6 = .ok (.iload_n 3, 1) := by decide +kernel
theorem dX0_worstSet_7 : decode cX0_worstSet 7 = .ok (.sipush 256, 3) := by decide +kernel
theorem dX0_worstSet_10 : decode cX0_worstSet 10 = .ok (.if_icmp .ge 35, 3) := by decide +kernel
theorem dX0_worstSet_13 : decode cX0_worstSet 13 = .ok (.aload_n 0, 1) := by decide +kernel
theorem dX0_worstSet_14 : decode cX0_worstSet 14 = .ok (.iload_n 3, 1) := by decide +kernel
theorem dX0_worstSet_15 : decode cX0_worstSet 15 = .ok (.invokevirtual 30, 3) := by decide +kernel
theorem dX0_worstSet_18 : decode cX0_worstSet 18 = .ok (.ifCond .eq 21, 3) := by decide +kernel
theorem dX0_worstSet_21 : decode cX0_worstSet 21 = .ok (.aload_n 0, 1) := by decide +kernel
theorem dX0_worstSet_22 : decode cX0_worstSet 22 = .ok (.iload_n 3, 1) := by decide +kernel
theorem dX0_worstSet_23 : decode cX0_worstSet 23 = .ok (.invokevirtual 34, 3) := by decide +kernel
theorem dX0_worstSet_26 : decode cX0_worstSet 26 = .ok (.istore 4, 2) := by decide +kernel
theorem dX0_worstSet_28 : decode cX0_worstSet 28 = .ok (.iload 4, 2) := by decide +kernel
theorem dX0_worstSet_30 : decode cX0_worstSet 30 = .ok (.iload_n 2, 1) := by decide +kernel
theorem dX0_worstSet_31 : decode cX0_worstSet 31 = .ok (.if_icmp .le 8, 3) := by decide +kernel
theorem dX0_worstSet_34 : decode cX0_worstSet 34 = .ok (.iload_n 3, 1) := by decide +kernel
theorem dX0_worstSet_35 : decode cX0_worstSet 35 = .ok (.istore_n 1, 1) := by decide +kernel
theorem dX0_worstSet_36 : decode cX0_worstSet 36 = .ok (.iload 4, 2) := by decide +kernel
theorem dX0_worstSet_38 : decode cX0_worstSet 38 = .ok (.istore_n 2, 1) := by decide +kernel
theorem dX0_worstSet_39 : decode cX0_worstSet 39 = .ok (.iinc 3 1, 3) := by decide +kernel
theorem dX0_worstSet_42 : decode cX0_worstSet 42 = .ok (.goto (-36), 3) := by decide +kernel
theorem dX0_worstSet_45 : decode cX0_worstSet 45 = .ok (.iload_n 1, 1) := by decide +kernel
theorem dX0_worstSet_46 : decode cX0_worstSet 46 = .ok (.ireturn, 1) := by decide +kernel
theorem dX0_goesTogether_0 : decode cX0_goesTogether 0 = .ok (.iconst 0, 1) := by decide +kernel
theorem dX0_goesTogether_1 : decode cX0_goesTogether 1 = .ok (.istore_n 2, 1) := by decide +kernel
theorem dX0_goesTogether_2 : decode cX0_goesTogether 2 = .ok (.iload_n 2, 1) := by decide +kernel
theorem dX0_goesTogether_3 : decode cX0_goesTogether 3 = .ok (.bipush 8, 2) := by decide +kernel
theorem dX0_goesTogether_5 : decode cX0_goesTogether 5 = .ok (.if_icmp .ge 30, 3) := by decide +kernel
theorem dX0_goesTogether_8 : decode cX0_goesTogether 8 = .ok (.iload_n 1, 1) := by decide +kernel
theorem dX0_goesTogether_9 : decode cX0_goesTogether 9 = .ok (.iconst 1, 1) := by decide +kernel
theorem dX0_goesTogether_10 : decode cX0_goesTogether 10 = .ok (.iload_n 2, 1) := by decide +kernel
theorem dX0_goesTogether_11 : decode cX0_goesTogether 11 = .ok (.ishl, 1) := by decide +kernel
theorem dX0_goesTogether_12 : decode cX0_goesTogether 12 = .ok (.iand, 1) := by decide +kernel
theorem dX0_goesTogether_13 : decode cX0_goesTogether 13 = .ok (.ifCond .eq 16, 3) := by decide +kernel
theorem dX0_goesTogether_16 : decode cX0_goesTogether 16 = .ok (.iload_n 1, 1) := by decide +kernel
theorem dX0_goesTogether_17 : decode cX0_goesTogether 17 = .ok (.aload_n 0, 1) := by decide +kernel
theorem dX0_goesTogether_18 : decode cX0_goesTogether 18 = .ok (.getfield 21, 3) := by decide +kernel
theorem dX0_goesTogether_21 : decode cX0_goesTogether 21 = .ok (.iload_n 2, 1) := by decide +kernel
theorem dX0_goesTogether_22 : decode cX0_goesTogether 22 = .ok (.iaload, 1) := by decide +kernel
theorem dX0_goesTogether_23 : decode cX0_goesTogether 23 = .ok (.iand, 1) := by decide +kernel
theorem dX0_goesTogether_24 : decode cX0_goesTogether 24 = .ok (.ifCond .eq 5, 3) := by decide +kernel
theorem dX0_goesTogether_27 : decode cX0_goesTogether 27 = .ok (.iconst 0, 1) := by decide +kernel
theorem dX0_goesTogether_28 : decode cX0_goesTogether 28 = .ok (.ireturn, 1) := by decide +kernel
theorem dX0_goesTogether_29 : decode cX0_goesTogether 29 = .ok (.iinc 2 1, 3) := by decide +kernel
theorem dX0_goesTogether_32 : decode cX0_goesTogether 32 = .ok (.goto (-30), 3) := by decide +kernel
theorem dX0_goesTogether_35 : decode cX0_goesTogether 35 = .ok (.iconst 1, 1) := by decide +kernel
theorem dX0_goesTogether_36 : decode cX0_goesTogether 36 = .ok (.ireturn, 1) := by decide +kernel
theorem dX0_joined_0 : decode cX0_joined 0 = .ok (.iconst 0, 1) := by decide +kernel
theorem dX0_joined_1 : decode cX0_joined 1 = .ok (.istore_n 2, 1) := by decide +kernel
theorem dX0_joined_2 : decode cX0_joined 2 = .ok (.iconst 0, 1) := by decide +kernel
theorem dX0_joined_3 : decode cX0_joined 3 = .ok (.istore_n 3, 1) := by decide +kernel
theorem dX0_joined_4 : decode cX0_joined 4 = .ok (.iload_n 3, 1) := by decide +kernel
theorem dX0_joined_5 : decode cX0_joined 5 = .ok (.bipush 8, 2) := by decide +kernel
theorem dX0_joined_7 : decode cX0_joined 7 = .ok (.if_icmp .ge 49, 3) := by decide +kernel
theorem dX0_joined_10 : decode cX0_joined 10 = .ok (.iload_n 1, 1) := by decide +kernel
theorem dX0_joined_11 : decode cX0_joined 11 = .ok (.iconst 1, 1) := by decide +kernel
theorem dX0_joined_12 : decode cX0_joined 12 = .ok (.iload_n 3, 1) := by decide +kernel
theorem dX0_joined_13 : decode cX0_joined 13 = .ok (.ishl, 1) := by decide +kernel
theorem dX0_joined_14 : decode cX0_joined 14 = .ok (.iand, 1) := by decide +kernel
theorem dX0_joined_15 : decode cX0_joined 15 = .ok (.ifCond .eq 35, 3) := by decide +kernel
theorem dX0_joined_18 : decode cX0_joined 18 = .ok (.iload_n 2, 1) := by decide +kernel
theorem dX0_joined_19 : decode cX0_joined 19 = .ok (.aload_n 0, 1) := by decide +kernel
theorem dX0_joined_20 : decode cX0_joined 20 = .ok (.getfield 9, 3) := by decide +kernel
theorem dX0_joined_23 : decode cX0_joined 23 = .ok (.iload_n 3, 1) := by decide +kernel
theorem dX0_joined_24 : decode cX0_joined 24 = .ok (.iaload, 1) := by decide +kernel
theorem dX0_joined_25 : decode cX0_joined 25 = .ok (.aload_n 0, 1) := by decide +kernel
theorem dX0_joined_26 : decode cX0_joined 26 = .ok (.getfield 15, 3) := by decide +kernel
theorem dX0_joined_29 : decode cX0_joined 29 = .ok (.iload_n 3, 1) := by decide +kernel
theorem dX0_joined_30 : decode cX0_joined 30 = .ok (.iaload, 1) := by decide +kernel
theorem dX0_joined_31 : decode cX0_joined 31 = .ok (.imul, 1) := by decide +kernel
theorem dX0_joined_32 : decode cX0_joined 32 = .ok (.aload_n 0, 1) := by decide +kernel
theorem dX0_joined_33 : decode cX0_joined 33 = .ok (.getfield 9, 3) := by decide +kernel
theorem dX0_joined_36 : decode cX0_joined 36 = .ok (.iload_n 3, 1) := by decide +kernel
theorem dX0_joined_37 : decode cX0_joined 37 = .ok (.iaload, 1) := by decide +kernel
theorem dX0_joined_38 : decode cX0_joined 38 = .ok (.aload_n 0, 1) := by decide +kernel
theorem dX0_joined_39 : decode cX0_joined 39 = .ok (.getfield 18, 3) := by decide +kernel
theorem dX0_joined_42 : decode cX0_joined 42 = .ok (.iload_n 3, 1) := by decide +kernel
theorem dX0_joined_43 : decode cX0_joined 43 = .ok (.iaload, 1) := by decide +kernel
theorem dX0_joined_44 : decode cX0_joined 44 = .ok (.imul, 1) := by decide +kernel
theorem dX0_joined_45 : decode cX0_joined 45 = .ok (.invokestatic 38, 3) := by decide +kernel
theorem dX0_joined_48 : decode cX0_joined 48 = .ok (.iadd, 1) := by decide +kernel
theorem dX0_joined_49 : decode cX0_joined 49 = .ok (.istore_n 2, 1) := by decide +kernel
theorem dX0_joined_50 : decode cX0_joined 50 = .ok (.iinc 3 1, 3) := by decide +kernel
theorem dX0_joined_53 : decode cX0_joined 53 = .ok (.goto (-49), 3) := by decide +kernel
theorem dX0_joined_56 : decode cX0_joined 56 = .ok (.iload_n 2, 1) := by decide +kernel
theorem dX0_joined_57 : decode cX0_joined 57 = .ok (.ireturn, 1) := by decide +kernel
theorem dX0_mixInto_0 : decode cX0_mixInto 0 = .ok (.iconst 0, 1) := by decide +kernel
theorem dX0_mixInto_1 : decode cX0_mixInto 1 = .ok (.istore_n 3, 1) := by decide +kernel
theorem dX0_mixInto_2 : decode cX0_mixInto 2 = .ok (.iload_n 3, 1) := by decide +kernel
theorem dX0_mixInto_3 : decode cX0_mixInto 3 = .ok (.bipush 8, 2) := by decide +kernel
theorem dX0_mixInto_5 : decode cX0_mixInto 5 = .ok (.if_icmp .ge 51, 3) := by decide +kernel
theorem dX0_mixInto_8 : decode cX0_mixInto 8 = .ok (.ldc2_w 44, 3) := by decide +kernel
theorem dX0_mixInto_11 : decode cX0_mixInto 11 = .ok (.lload_n 1, 1) := by decide +kernel
theorem dX0_mixInto_12 : decode cX0_mixInto 12 = .ok (.lmul, 1) := by decide +kernel
theorem dX0_mixInto_13 : decode cX0_mixInto 13 = .ok (.aload_n 0, 1) := by decide +kernel
theorem dX0_mixInto_14 : decode cX0_mixInto 14 = .ok (.getfield 9, 3) := by decide +kernel
theorem dX0_mixInto_17 : decode cX0_mixInto 17 = .ok (.iload_n 3, 1) := by decide +kernel
theorem dX0_mixInto_18 : decode cX0_mixInto 18 = .ok (.iaload, 1) := by decide +kernel
theorem dX0_mixInto_19 : decode cX0_mixInto 19 = .ok (.i2l, 1) := by decide +kernel
theorem dX0_mixInto_20 : decode cX0_mixInto 20 = .ok (.ladd, 1) := by decide +kernel
theorem dX0_mixInto_21 : decode cX0_mixInto 21 = .ok (.lstore_n 1, 1) := by decide +kernel
theorem dX0_mixInto_22 : decode cX0_mixInto 22 = .ok (.ldc2_w 44, 3) := by decide +kernel
theorem dX0_mixInto_25 : decode cX0_mixInto 25 = .ok (.lload_n 1, 1) := by decide +kernel
theorem dX0_mixInto_26 : decode cX0_mixInto 26 = .ok (.lmul, 1) := by decide +kernel
theorem dX0_mixInto_27 : decode cX0_mixInto 27 = .ok (.aload_n 0, 1) := by decide +kernel
theorem dX0_mixInto_28 : decode cX0_mixInto 28 = .ok (.getfield 15, 3) := by decide +kernel
theorem dX0_mixInto_31 : decode cX0_mixInto 31 = .ok (.iload_n 3, 1) := by decide +kernel
theorem dX0_mixInto_32 : decode cX0_mixInto 32 = .ok (.iaload, 1) := by decide +kernel
theorem dX0_mixInto_33 : decode cX0_mixInto 33 = .ok (.i2l, 1) := by decide +kernel
theorem dX0_mixInto_34 : decode cX0_mixInto 34 = .ok (.ladd, 1) := by decide +kernel
theorem dX0_mixInto_35 : decode cX0_mixInto 35 = .ok (.lstore_n 1, 1) := by decide +kernel
theorem dX0_mixInto_36 : decode cX0_mixInto 36 = .ok (.ldc2_w 44, 3) := by decide +kernel
theorem dX0_mixInto_39 : decode cX0_mixInto 39 = .ok (.lload_n 1, 1) := by decide +kernel
theorem dX0_mixInto_40 : decode cX0_mixInto 40 = .ok (.lmul, 1) := by decide +kernel
theorem dX0_mixInto_41 : decode cX0_mixInto 41 = .ok (.aload_n 0, 1) := by decide +kernel
theorem dX0_mixInto_42 : decode cX0_mixInto 42 = .ok (.getfield 18, 3) := by decide +kernel
theorem dX0_mixInto_45 : decode cX0_mixInto 45 = .ok (.iload_n 3, 1) := by decide +kernel
theorem dX0_mixInto_46 : decode cX0_mixInto 46 = .ok (.iaload, 1) := by decide +kernel
theorem dX0_mixInto_47 : decode cX0_mixInto 47 = .ok (.i2l, 1) := by decide +kernel
theorem dX0_mixInto_48 : decode cX0_mixInto 48 = .ok (.ladd, 1) := by decide +kernel
theorem dX0_mixInto_49 : decode cX0_mixInto 49 = .ok (.lstore_n 1, 1) := by decide +kernel
theorem dX0_mixInto_50 : decode cX0_mixInto 50 = .ok (.iinc 3 1, 3) := by decide +kernel
theorem dX0_mixInto_53 : decode cX0_mixInto 53 = .ok (.goto (-51), 3) := by decide +kernel
theorem dX0_mixInto_56 : decode cX0_mixInto 56 = .ok (.lload_n 1, 1) := by decide +kernel
theorem dX0_mixInto_57 : decode cX0_mixInto 57 = .ok (.lreturn, 1) := by decide +kernel
theorem dX1_init_0 : decode cX1_init 0 = .ok (.aload_n 0, 1) := by decide +kernel
theorem dX1_init_1 : decode cX1_init 1 = .ok (.invokespecial 1, 3) := by decide +kernel
theorem dX1_init_4 : decode cX1_init 4 = .ok (.aload_n 0, 1) := by decide +kernel
theorem dX1_init_5 : decode cX1_init 5 = .ok (.iconst 0, 1) := by decide +kernel
theorem dX1_init_6 : decode cX1_init 6 = .ok (.putfield 7, 3) := by decide +kernel
theorem dX1_init_9 : decode cX1_init 9 = .ok (.aload_n 0, 1) := by decide +kernel
theorem dX1_init_10 : decode cX1_init 10 = .ok (.lconst 0, 1) := by decide +kernel
theorem dX1_init_11 : decode cX1_init 11 = .ok (.putfield 13, 3) := by decide +kernel
theorem dX1_init_14 : decode cX1_init 14 = .ok (.return_, 1) := by decide +kernel
theorem dX1_lines_0 : decode cX1_lines 0 = .ok (.aload_n 0, 1) := by decide +kernel
theorem dX1_lines_1 : decode cX1_lines 1 = .ok (.getfield 7, 3) := by decide +kernel
theorem dX1_lines_4 : decode cX1_lines 4 = .ok (.ireturn, 1) := by decide +kernel
theorem dX1_partsUsed_0 : decode cX1_partsUsed 0 = .ok (.aload_n 0, 1) := by decide +kernel
theorem dX1_partsUsed_1 : decode cX1_partsUsed 1 = .ok (.getfield 13, 3) := by decide +kernel
theorem dX1_partsUsed_4 : decode cX1_partsUsed 4 = .ok (.lreturn, 1) := by decide +kernel
theorem dX1_append_0 : decode cX1_append 0 = .ok (.aload_n 0, 1) := by decide +kernel
theorem dX1_append_1 : decode cX1_append 1 = .ok (.dup, 1) := by decide +kernel
theorem dX1_append_2 : decode cX1_append 2 = .ok (.getfield 7, 3) := by decide +kernel
theorem dX1_append_5 : decode cX1_append 5 = .ok (.iconst 1, 1) := by decide +kernel
theorem dX1_append_6 : decode cX1_append 6 = .ok (.iadd, 1) := by decide +kernel
theorem dX1_append_7 : decode cX1_append 7 = .ok (.putfield 7, 3) := by decide +kernel
theorem dX1_append_10 : decode cX1_append 10 = .ok (.aload_n 0, 1) := by decide +kernel
theorem dX1_append_11 : decode cX1_append 11 = .ok (.dup, 1) := by decide +kernel
theorem dX1_append_12 : decode cX1_append 12 = .ok (.getfield 13, 3) := by decide +kernel
theorem dX1_append_15 : decode cX1_append 15 = .ok (.iload_n 1, 1) := by decide +kernel
theorem dX1_append_16 : decode cX1_append 16 = .ok (.i2l, 1) := by decide +kernel
theorem dX1_append_17 : decode cX1_append 17 = .ok (.iload_n 2, 1) := by decide +kernel
theorem dX1_append_18 : decode cX1_append 18 = .ok (.iconst 4, 1) := by decide +kernel
theorem dX1_append_19 : decode cX1_append 19 = .ok (.idiv, 1) := by decide +kernel
theorem dX1_append_20 : decode cX1_append 20 = .ok (.lshl, 1) := by decide +kernel
theorem dX1_append_21 : decode cX1_append 21 = .ok (.ladd, 1) := by decide +kernel
theorem dX1_append_22 : decode cX1_append 22 = .ok (.putfield 13, 3) := by decide +kernel
theorem dX1_append_25 : decode cX1_append 25 = .ok (.return_, 1) := by decide +kernel
theorem dX2_init_0 : decode cX2_init 0 = .ok (.aload_n 0, 1) := by decide +kernel
theorem dX2_init_1 : decode cX2_init 1 = .ok (.invokespecial 1, 3) := by decide +kernel
theorem dX2_init_4 : decode cX2_init 4 = .ok (.aload_n 0, 1) := by decide +kernel
theorem dX2_init_5 : decode cX2_init 5 = .ok (.lconst 0, 1) := by decide +kernel
theorem dX2_init_6 : decode cX2_init 6 = .ok (.putfield 7, 3) := by decide +kernel
theorem dX2_init_9 : decode cX2_init 9 = .ok (.aload_n 0, 1) := by decide +kernel
theorem dX2_init_10 : decode cX2_init 10 = .ok (.lconst 1, 1) := by decide +kernel
theorem dX2_init_11 : decode cX2_init 11 = .ok (.putfield 13, 3) := by decide +kernel
theorem dX2_init_14 : decode cX2_init 14 = .ok (.return_, 1) := by decide +kernel
set_option maxRecDepth 20000 in
theorem ggX2_put_X2_greatestShared : GoodIn wsX2_put wsX2_greatestShared := goodIn_r _ [6] (by decide +kernel) (by decide +kernel)
set_option maxRecDepth 20000 in
theorem gX2_put_X2_greatestShared : GoodIn wsX2_put (va_wsS RX2 16 yX2_greatestShared wsX2_greatestShared) := goodIn_app (goodIn_of _ (by decide +kernel)) ggX2_put_X2_greatestShared
theorem dX2_put_0 : decode cX2_put 0 = .ok (.lload_n 1, 1) := by decide +kernel
theorem dX2_put_1 : decode cX2_put 1 = .ok (.lload_n 3, 1) := by decide +kernel
theorem dX2_put_2 : decode cX2_put 2 = .ok (.invokestatic 16, 3) := by decide +kernel
theorem dX2_put_5 : decode cX2_put 5 = .ok (.lstore 5, 2) := by decide +kernel
theorem dX2_put_7 : decode cX2_put 7 = .ok (.lload 5, 2) := by decide +kernel
theorem dX2_put_9 : decode cX2_put 9 = .ok (.lconst 0, 1) := by decide +kernel
theorem dX2_put_10 : decode cX2_put 10 = .ok (.lcmp, 1) := by decide +kernel
theorem dX2_put_11 : decode cX2_put 11 = .ok (.ifCond .le 19, 3) := by decide +kernel
theorem dX2_put_14 : decode cX2_put 14 = .ok (.aload_n 0, 1) := by decide +kernel
theorem dX2_put_15 : decode cX2_put 15 = .ok (.lload_n 1, 1) := by decide +kernel
theorem dX2_put_16 : decode cX2_put 16 = .ok (.lload 5, 2) := by decide +kernel
theorem dX2_put_18 : decode cX2_put 18 = .ok (.ldiv, 1) := by decide +kernel
theorem dX2_put_19 : decode cX2_put 19 = .ok (.putfield 7, 3) := by decide +kernel
theorem dX2_put_22 : decode cX2_put 22 = .ok (.aload_n 0, 1) := by decide +kernel
theorem dX2_put_23 : decode cX2_put 23 = .ok (.lload_n 3, 1) := by decide +kernel
theorem dX2_put_24 : decode cX2_put 24 = .ok (.lload 5, 2) := by decide +kernel
theorem dX2_put_26 : decode cX2_put 26 = .ok (.ldiv, 1) := by decide +kernel
theorem dX2_put_27 : decode cX2_put 27 = .ok (.putfield 13, 3) := by decide +kernel
theorem dX2_put_30 : decode cX2_put 30 = .ok (.return_, 1) := by decide +kernel
theorem dX2_greatestShared_0 : decode cX2_greatestShared 0 = .ok (.iconst 0, 1) := by decide +kernel
theorem dX2_greatestShared_1 : decode cX2_greatestShared 1 = .ok (.istore 4, 2) := by decide +kernel
theorem dX2_greatestShared_3 : decode cX2_greatestShared 3 = .ok (.iload 4, 2) := by decide +kernel
theorem dX2_greatestShared_5 : decode cX2_greatestShared 5 = .ok (.sipush 200, 3) := by decide +kernel
theorem dX2_greatestShared_8 : decode cX2_greatestShared 8 = .ok (.if_icmp .ge 25, 3) := by decide +kernel
theorem dX2_greatestShared_11 : decode cX2_greatestShared 11 = .ok (.lload_n 2, 1) := by decide +kernel
theorem dX2_greatestShared_12 : decode cX2_greatestShared 12 = .ok (.lconst 0, 1) := by decide +kernel
theorem dX2_greatestShared_13 : decode cX2_greatestShared 13 = .ok (.lcmp, 1) := by decide +kernel
theorem dX2_greatestShared_14 : decode cX2_greatestShared 14 = .ok (.ifCond .eq 19, 3) := by decide +kernel
theorem dX2_greatestShared_17 : decode cX2_greatestShared 17 = .ok (.lload_n 0, 1) := by decide +kernel
theorem dX2_greatestShared_18 : decode cX2_greatestShared 18 = .ok (.lload_n 2, 1) := by decide +kernel
theorem dX2_greatestShared_19 : decode cX2_greatestShared 19 = .ok (.lrem, 1) := by decide +kernel
theorem dX2_greatestShared_20 : decode cX2_greatestShared 20 = .ok (.lstore 5, 2) := by decide +kernel
theorem dX2_greatestShared_22 : decode cX2_greatestShared 22 = .ok (.lload_n 2, 1) := by decide +kernel
theorem dX2_greatestShared_23 : decode cX2_greatestShared 23 = .ok (.lstore_n 0, 1) := by decide +kernel
theorem dX2_greatestShared_24 : decode cX2_greatestShared 24 = .ok (.lload 5, 2) := by decide +kernel
theorem dX2_greatestShared_26 : decode cX2_greatestShared 26 = .ok (.lstore_n 2, 1) := by decide +kernel
theorem dX2_greatestShared_27 : decode cX2_greatestShared 27 = .ok (.iinc 4 1, 3) := by decide +kernel
theorem dX2_greatestShared_30 : decode cX2_greatestShared 30 = .ok (.goto (-27), 3) := by decide +kernel
theorem dX2_greatestShared_33 : decode cX2_greatestShared 33 = .ok (.lload_n 0, 1) := by decide +kernel
theorem dX2_greatestShared_34 : decode cX2_greatestShared 34 = .ok (.lreturn, 1) := by decide +kernel
theorem dX3_init_0 : decode cX3_init 0 = .ok (.aload_n 0, 1) := by decide +kernel
theorem dX3_init_1 : decode cX3_init 1 = .ok (.invokespecial 3, 3) := by decide +kernel
theorem dX3_init_4 : decode cX3_init 4 = .ok (.aload_n 0, 1) := by decide +kernel
theorem dX3_init_5 : decode cX3_init 5 = .ok (.bipush 12, 2) := by decide +kernel
theorem dX3_init_7 : decode cX3_init 7 = .ok (.newarray .int, 2) := by decide +kernel
theorem dX3_init_9 : decode cX3_init 9 = .ok (.putfield 9, 3) := by decide +kernel
theorem dX3_init_12 : decode cX3_init 12 = .ok (.aload_n 0, 1) := by decide +kernel
theorem dX3_init_13 : decode cX3_init 13 = .ok (.iconst 0, 1) := by decide +kernel
theorem dX3_init_14 : decode cX3_init 14 = .ok (.putfield 15, 3) := by decide +kernel
theorem dX3_init_17 : decode cX3_init 17 = .ok (.return_, 1) := by decide +kernel
theorem dX3_size_0 : decode cX3_size 0 = .ok (.aload_n 0, 1) := by decide +kernel
theorem dX3_size_1 : decode cX3_size 1 = .ok (.getfield 15, 3) := by decide +kernel
theorem dX3_size_4 : decode cX3_size 4 = .ok (.ireturn, 1) := by decide +kernel
theorem dX3_append_0 : decode cX3_append 0 = .ok (.aload_n 0, 1) := by decide +kernel
theorem dX3_append_1 : decode cX3_append 1 = .ok (.getfield 9, 3) := by decide +kernel
theorem dX3_append_4 : decode cX3_append 4 = .ok (.aload_n 0, 1) := by decide +kernel
theorem dX3_append_5 : decode cX3_append 5 = .ok (.getfield 15, 3) := by decide +kernel
theorem dX3_append_8 : decode cX3_append 8 = .ok (.iload_n 1, 1) := by decide +kernel
theorem dX3_append_9 : decode cX3_append 9 = .ok (.iastore, 1) := by decide +kernel
theorem dX3_append_10 : decode cX3_append 10 = .ok (.aload_n 0, 1) := by decide +kernel
theorem dX3_append_11 : decode cX3_append 11 = .ok (.dup, 1) := by decide +kernel
theorem dX3_append_12 : decode cX3_append 12 = .ok (.getfield 15, 3) := by decide +kernel
theorem dX3_append_15 : decode cX3_append 15 = .ok (.iconst 1, 1) := by decide +kernel
theorem dX3_append_16 : decode cX3_append 16 = .ok (.iadd, 1) := by decide +kernel
theorem dX3_append_17 : decode cX3_append 17 = .ok (.putfield 15, 3) := by decide +kernel
theorem dX3_append_20 : decode cX3_append 20 = .ok (.return_, 1) := by decide +kernel
theorem dX3_greatestFirmEnough_0 : decode cX3_greatestFirmEnough 0 = .ok (.bipush (-9), 2) := by decide +kernel
theorem dX3_greatestFirmEnough_2 : decode cX3_greatestFirmEnough 2 = .ok (.istore_n 3, 1) := by decide +kernel
theorem dX3_greatestFirmEnough_3 : decode cX3_greatestFirmEnough 3 = .ok (.iconst 0, 1) := by decide +kernel
theorem dX3_greatestFirmEnough_4 : decode cX3_greatestFirmEnough 4 = .ok (.istore 4, 2) := by decide +kernel
theorem dX3_greatestFirmEnough_6 : decode cX3_greatestFirmEnough 6 = .ok (.iload 4, 2) := by decide +kernel
theorem dX3_greatestFirmEnough_8 : decode cX3_greatestFirmEnough 8 = .ok (.aload_n 0, 1) := by decide +kernel
theorem dX3_greatestFirmEnough_9 : decode cX3_greatestFirmEnough 9 = .ok (.getfield 15, 3) := by decide +kernel
theorem dX3_greatestFirmEnough_12 : decode cX3_greatestFirmEnough 12 = .ok (.if_icmp .ge 65, 3) := by decide +kernel
theorem dX3_greatestFirmEnough_15 : decode cX3_greatestFirmEnough 15 = .ok (.ldc2_w 19, 3) := by decide +kernel
theorem dX3_greatestFirmEnough_18 : decode cX3_greatestFirmEnough 18 = .ok (.aload_n 0, 1) := by decide +kernel
theorem dX3_greatestFirmEnough_19 : decode cX3_greatestFirmEnough 19 = .ok (.getfield 9, 3) := by decide +kernel
theorem dX3_greatestFirmEnough_22 : decode cX3_greatestFirmEnough 22 = .ok (.iload 4, 2) := by decide +kernel
theorem dX3_greatestFirmEnough_24 : decode cX3_greatestFirmEnough 24 = .ok (.iaload, 1) := by decide +kernel
theorem dX3_greatestFirmEnough_25 : decode cX3_greatestFirmEnough 25 = .ok (.i2l, 1) := by decide +kernel
theorem dX3_greatestFirmEnough_26 : decode cX3_greatestFirmEnough 26 = .ok (.lmul, 1) := by decide +kernel
theorem dX3_greatestFirmEnough_27 : decode cX3_greatestFirmEnough 27 = .ok (.iload_n 1, 1) := by decide +kernel
theorem dX3_greatestFirmEnough_28 : decode cX3_greatestFirmEnough 28 = .ok (.i2l, 1) := by decide +kernel
theorem dX3_greatestFirmEnough_29 : decode cX3_greatestFirmEnough 29 = .ok (.lmul, 1) := by decide +kernel
theorem dX3_greatestFirmEnough_30 : decode cX3_greatestFirmEnough 30 = .ok (.ldc2_w 21, 3) := by decide +kernel
theorem dX3_greatestFirmEnough_33 : decode cX3_greatestFirmEnough 33 = .ok (.iload_n 2, 1) := by decide +kernel
theorem dX3_greatestFirmEnough_34 : decode cX3_greatestFirmEnough 34 = .ok (.i2l, 1) := by decide +kernel
theorem dX3_greatestFirmEnough_35 : decode cX3_greatestFirmEnough 35 = .ok (.lmul, 1) := by decide +kernel
theorem dX3_greatestFirmEnough_36 : decode cX3_greatestFirmEnough 36 = .ok (.lcmp, 1) := by decide +kernel
theorem dX3_greatestFirmEnough_37 : decode cX3_greatestFirmEnough 37 = .ok (.ifCond .gt 7, 3) := by decide +kernel
theorem dX3_greatestFirmEnough_40 : decode cX3_greatestFirmEnough 40 = .ok (.iconst 1, 1) := by decide +kernel
theorem dX3_greatestFirmEnough_41 : decode cX3_greatestFirmEnough 41 = .ok (.goto 4, 3) := by decide +kernel
theorem dX3_greatestFirmEnough_44 : decode cX3_greatestFirmEnough 44 = .ok (.iconst 0, 1) := by decide +kernel
theorem dX3_greatestFirmEnough_45 : decode cX3_greatestFirmEnough 45 = .ok (.istore 5, 2) := by decide +kernel
theorem dX3_greatestFirmEnough_47 : decode cX3_greatestFirmEnough 47 = .ok (.iload 5, 2) := by decide +kernel
theorem dX3_greatestFirmEnough_49 : decode cX3_greatestFirmEnough 49 = .ok (.ifCond .eq 22, 3) := by decide +kernel
theorem dX3_greatestFirmEnough_52 : decode cX3_greatestFirmEnough 52 = .ok (.aload_n 0, 1) := by decide +kernel
theorem dX3_greatestFirmEnough_53 : decode cX3_greatestFirmEnough 53 = .ok (.getfield 9, 3) := by decide +kernel
theorem dX3_greatestFirmEnough_56 : decode cX3_greatestFirmEnough 56 = .ok (.iload 4, 2) := by decide +kernel
theorem dX3_greatestFirmEnough_58 : decode cX3_greatestFirmEnough 58 = .ok (.iaload, 1) := by decide +kernel
theorem dX3_greatestFirmEnough_59 : decode cX3_greatestFirmEnough 59 = .ok (.iload_n 3, 1) := by decide +kernel
theorem dX3_greatestFirmEnough_60 : decode cX3_greatestFirmEnough 60 = .ok (.if_icmp .le 11, 3) := by decide +kernel
theorem dX3_greatestFirmEnough_63 : decode cX3_greatestFirmEnough 63 = .ok (.aload_n 0, 1) := by decide +kernel
theorem dX3_greatestFirmEnough_64 : decode cX3_greatestFirmEnough 64 = .ok (.getfield 9, 3) := by decide +kernel
theorem dX3_greatestFirmEnough_67 : decode cX3_greatestFirmEnough 67 = .ok (.iload 4, 2) := by decide +kernel
theorem dX3_greatestFirmEnough_69 : decode cX3_greatestFirmEnough 69 = .ok (.iaload, 1) := by decide +kernel
theorem dX3_greatestFirmEnough_70 : decode cX3_greatestFirmEnough 70 = .ok (.istore_n 3, 1) := by decide +kernel
theorem dX3_greatestFirmEnough_71 : decode cX3_greatestFirmEnough 71 = .ok (.iinc 4 1, 3) := by decide +kernel
theorem dX3_greatestFirmEnough_74 : decode cX3_greatestFirmEnough 74 = .ok (.goto (-68), 3) := by decide +kernel
theorem dX3_greatestFirmEnough_77 : decode cX3_greatestFirmEnough 77 = .ok (.iload_n 3, 1) := by decide +kernel
theorem dX3_greatestFirmEnough_78 : decode cX3_greatestFirmEnough 78 = .ok (.ireturn, 1) := by decide +kernel
theorem dX4_init_0 : decode cX4_init 0 = .ok (.aload_n 0, 1) := by decide +kernel
theorem dX4_init_1 : decode cX4_init 1 = .ok (.invokespecial 3, 3) := by decide +kernel
theorem dX4_init_4 : decode cX4_init 4 = .ok (.aload_n 0, 1) := by decide +kernel
theorem dX4_init_5 : decode cX4_init 5 = .ok (.bipush 12, 2) := by decide +kernel
theorem dX4_init_7 : decode cX4_init 7 = .ok (.newarray .int, 2) := by decide +kernel
theorem dX4_init_9 : decode cX4_init 9 = .ok (.putfield 9, 3) := by decide +kernel
theorem dX4_init_12 : decode cX4_init 12 = .ok (.aload_n 0, 1) := by decide +kernel
theorem dX4_init_13 : decode cX4_init 13 = .ok (.bipush 12, 2) := by decide +kernel
theorem dX4_init_15 : decode cX4_init 15 = .ok (.newarray .int, 2) := by decide +kernel
theorem dX4_init_17 : decode cX4_init 17 = .ok (.putfield 15, 3) := by decide +kernel
theorem dX4_init_20 : decode cX4_init 20 = .ok (.aload_n 0, 1) := by decide +kernel
theorem dX4_init_21 : decode cX4_init 21 = .ok (.bipush 12, 2) := by decide +kernel
theorem dX4_init_23 : decode cX4_init 23 = .ok (.newarray .int, 2) := by decide +kernel
theorem dX4_init_25 : decode cX4_init 25 = .ok (.putfield 18, 3) := by decide +kernel
theorem dX4_init_28 : decode cX4_init 28 = .ok (.aload_n 0, 1) := by decide +kernel
theorem dX4_init_29 : decode cX4_init 29 = .ok (.bipush 12, 2) := by decide +kernel
theorem dX4_init_31 : decode cX4_init 31 = .ok (.newarray .int, 2) := by decide +kernel
theorem dX4_init_33 : decode cX4_init 33 = .ok (.putfield 21, 3) := by decide +kernel
theorem dX4_init_36 : decode cX4_init 36 = .ok (.aload_n 0, 1) := by decide +kernel
theorem dX4_init_37 : decode cX4_init 37 = .ok (.bipush 12, 2) := by decide +kernel
theorem dX4_init_39 : decode cX4_init 39 = .ok (.newarray .boolean, 2) := by decide +kernel
theorem dX4_init_41 : decode cX4_init 41 = .ok (.putfield 24, 3) := by decide +kernel
theorem dX4_init_44 : decode cX4_init 44 = .ok (.aload_n 0, 1) := by decide +kernel
theorem dX4_init_45 : decode cX4_init 45 = .ok (.iconst 0, 1) := by decide +kernel
theorem dX4_init_46 : decode cX4_init 46 = .ok (.putfield 28, 3) := by decide +kernel
theorem dX4_init_49 : decode cX4_init 49 = .ok (.aload_n 0, 1) := by decide +kernel
theorem dX4_init_50 : decode cX4_init 50 = .ok (.aload_n 1, 1) := by decide +kernel
theorem dX4_init_51 : decode cX4_init 51 = .ok (.putfield 32, 3) := by decide +kernel
theorem dX4_init_54 : decode cX4_init 54 = .ok (.return_, 1) := by decide +kernel
theorem dX4_made_0 : decode cX4_made 0 = .ok (.aload_n 0, 1) := by decide +kernel
theorem dX4_made_1 : decode cX4_made 1 = .ok (.getfield 28, 3) := by decide +kernel
theorem dX4_made_4 : decode cX4_made 4 = .ok (.ireturn, 1) := by decide +kernel
set_option maxRecDepth 20000 in
theorem ggX4_kept_X4_isGone : GoodIn wsX4_kept wsX4_isGone := goodIn_r _ [6, 7, 8, 9, 10, 11, 12, 13, 14] (by decide +kernel) (by decide +kernel)
set_option maxRecDepth 20000 in
theorem gX4_kept_X4_isGone : GoodIn wsX4_kept (wsV RX4 36 RX4 yX4_isGone wsX4_isGone) := goodIn_app (goodIn_of _ (by decide +kernel)) ggX4_kept_X4_isGone
theorem dX4_kept_0 : decode cX4_kept 0 = .ok (.iconst 0, 1) := by decide +kernel
theorem dX4_kept_1 : decode cX4_kept 1 = .ok (.istore_n 1, 1) := by decide +kernel
theorem dX4_kept_2 : decode cX4_kept 2 = .ok (.iconst 0, 1) := by decide +kernel
theorem dX4_kept_3 : decode cX4_kept 3 = .ok (.istore_n 2, 1) := by decide +kernel
theorem dX4_kept_4 : decode cX4_kept 4 = .ok (.iload_n 2, 1) := by decide +kernel
theorem dX4_kept_5 : decode cX4_kept 5 = .ok (.aload_n 0, 1) := by decide +kernel
theorem dX4_kept_6 : decode cX4_kept 6 = .ok (.getfield 28, 3) := by decide +kernel
theorem dX4_kept_9 : decode cX4_kept 9 = .ok (.if_icmp .ge 25, 3) := by decide +kernel
theorem dX4_kept_12 : decode cX4_kept 12 = .ok (.iload_n 1, 1) := by decide +kernel
theorem dX4_kept_13 : decode cX4_kept 13 = .ok (.aload_n 0, 1) := by decide +kernel
theorem dX4_kept_14 : decode cX4_kept 14 = .ok (.iload_n 2, 1) := by decide +kernel
theorem dX4_kept_15 : decode cX4_kept 15 = .ok (.invokevirtual 36, 3) := by decide +kernel
theorem dX4_kept_18 : decode cX4_kept 18 = .ok (.ifCond .eq 7, 3) := by decide +kernel
theorem dX4_kept_21 : decode cX4_kept 21 = .ok (.iconst 0, 1) := by decide +kernel
theorem dX4_kept_22 : decode cX4_kept 22 = .ok (.goto 4, 3) := by decide +kernel
theorem dX4_kept_25 : decode cX4_kept 25 = .ok (.iconst 1, 1) := by decide +kernel
theorem dX4_kept_26 : decode cX4_kept 26 = .ok (.iadd, 1) := by decide +kernel
theorem dX4_kept_27 : decode cX4_kept 27 = .ok (.istore_n 1, 1) := by decide +kernel
theorem dX4_kept_28 : decode cX4_kept 28 = .ok (.iinc 2 1, 3) := by decide +kernel
theorem dX4_kept_31 : decode cX4_kept 31 = .ok (.goto (-27), 3) := by decide +kernel
theorem dX4_kept_34 : decode cX4_kept 34 = .ok (.iload_n 1, 1) := by decide +kernel
theorem dX4_kept_35 : decode cX4_kept 35 = .ok (.ireturn, 1) := by decide +kernel
theorem dX4_isGone_0 : decode cX4_isGone 0 = .ok (.aload_n 0, 1) := by decide +kernel
theorem dX4_isGone_1 : decode cX4_isGone 1 = .ok (.getfield 9, 3) := by decide +kernel
theorem dX4_isGone_4 : decode cX4_isGone 4 = .ok (.iload_n 1, 1) := by decide +kernel
theorem dX4_isGone_5 : decode cX4_isGone 5 = .ok (.iaload, 1) := by decide +kernel
theorem dX4_isGone_6 : decode cX4_isGone 6 = .ok (.iconst (-1), 1) := by decide +kernel
theorem dX4_isGone_7 : decode cX4_isGone 7 = .ok (.if_icmp .ne 7, 3) := by decide +kernel
theorem dX4_isGone_10 : decode cX4_isGone 10 = .ok (.iconst 1, 1) := by decide +kernel
theorem dX4_isGone_11 : decode cX4_isGone 11 = .ok (.goto 4, 3) := by decide +kernel
theorem dX4_isGone_14 : decode cX4_isGone 14 = .ok (.iconst 0, 1) := by decide +kernel
theorem dX4_isGone_15 : decode cX4_isGone 15 = .ok (.ireturn, 1) := by decide +kernel
set_option maxRecDepth 20000 in
theorem ggX4_isTaken_X4_isGone : GoodIn wsX4_isTaken wsX4_isGone := goodIn_r _ [7, 8, 9, 10, 11, 12, 13, 14, 15] (by decide +kernel) (by decide +kernel)
set_option maxRecDepth 20000 in
theorem gX4_isTaken_X4_isGone : GoodIn wsX4_isTaken (wsV RX4 36 RX4 yX4_isGone wsX4_isGone) := goodIn_app (goodIn_of _ (by decide +kernel)) ggX4_isTaken_X4_isGone
theorem dX4_isTaken_0 : decode cX4_isTaken 0 = .ok (.iconst 0, 1) := by decide +kernel
theorem dX4_isTaken_1 : decode cX4_isTaken 1 = .ok (.istore_n 2, 1) := by decide +kernel
theorem dX4_isTaken_2 : decode cX4_isTaken 2 = .ok (.iload_n 2, 1) := by decide +kernel
theorem dX4_isTaken_3 : decode cX4_isTaken 3 = .ok (.aload_n 0, 1) := by decide +kernel
theorem dX4_isTaken_4 : decode cX4_isTaken 4 = .ok (.getfield 28, 3) := by decide +kernel
theorem dX4_isTaken_7 : decode cX4_isTaken 7 = .ok (.if_icmp .ge 29, 3) := by decide +kernel
theorem dX4_isTaken_10 : decode cX4_isTaken 10 = .ok (.aload_n 0, 1) := by decide +kernel
theorem dX4_isTaken_11 : decode cX4_isTaken 11 = .ok (.iload_n 2, 1) := by decide +kernel
theorem dX4_isTaken_12 : decode cX4_isTaken 12 = .ok (.invokevirtual 36, 3) := by decide +kernel
theorem dX4_isTaken_15 : decode cX4_isTaken 15 = .ok (.ifCond .ne 15, 3) := by decide +kernel
theorem dX4_isTaken_18 : decode cX4_isTaken 18 = .ok (.aload_n 0, 1) := by decide +kernel
theorem dX4_isTaken_19 : decode cX4_isTaken 19 = .ok (.getfield 15, 3) := by decide +kernel
theorem dX4_isTaken_22 : decode cX4_isTaken 22 = .ok (.iload_n 2, 1) := by decide +kernel
theorem dX4_isTaken_23 : decode cX4_isTaken 23 = .ok (.iaload, 1) := by decide +kernel
theorem dX4_isTaken_24 : decode cX4_isTaken 24 = .ok (.iload_n 1, 1) := by decide +kernel
theorem dX4_isTaken_25 : decode cX4_isTaken 25 = .ok (.if_icmp .ne 5, 3) := by decide +kernel
theorem dX4_isTaken_28 : decode cX4_isTaken 28 = .ok (.iconst 1, 1) := by decide +kernel
theorem dX4_isTaken_29 : decode cX4_isTaken 29 = .ok (.ireturn, 1) := by decide +kernel
theorem dX4_isTaken_30 : decode cX4_isTaken 30 = .ok (.iinc 2 1, 3) := by decide +kernel
theorem dX4_isTaken_33 : decode cX4_isTaken 33 = .ok (.goto (-31), 3) := by decide +kernel
theorem dX4_isTaken_36 : decode cX4_isTaken 36 = .ok (.iconst 0, 1) := by decide +kernel
theorem dX4_isTaken_37 : decode cX4_isTaken 37 = .ok (.ireturn, 1) := by decide +kernel
theorem dX4_put_0 : decode cX4_put 0 = .ok (.aload_n 0, 1) := by decide +kernel
theorem dX4_put_1 : decode cX4_put 1 = .ok (.getfield 9, 3) := by decide +kernel
theorem dX4_put_4 : decode cX4_put 4 = .ok (.aload_n 0, 1) := by decide +kernel
theorem dX4_put_5 : decode cX4_put 5 = .ok (.getfield 28, 3) := by decide +kernel
theorem dX4_put_8 : decode cX4_put 8 = .ok (.iload_n 1, 1) := by decide +kernel
theorem dX4_put_9 : decode cX4_put 9 = .ok (.iastore, 1) := by decide +kernel
theorem dX4_put_10 : decode cX4_put 10 = .ok (.aload_n 0, 1) := by decide +kernel
theorem dX4_put_11 : decode cX4_put 11 = .ok (.getfield 15, 3) := by decide +kernel
theorem dX4_put_14 : decode cX4_put 14 = .ok (.aload_n 0, 1) := by decide +kernel
theorem dX4_put_15 : decode cX4_put 15 = .ok (.getfield 28, 3) := by decide +kernel
theorem dX4_put_18 : decode cX4_put 18 = .ok (.iload_n 2, 1) := by decide +kernel
theorem dX4_put_19 : decode cX4_put 19 = .ok (.iastore, 1) := by decide +kernel
theorem dX4_put_20 : decode cX4_put 20 = .ok (.aload_n 0, 1) := by decide +kernel
theorem dX4_put_21 : decode cX4_put 21 = .ok (.getfield 18, 3) := by decide +kernel
theorem dX4_put_24 : decode cX4_put 24 = .ok (.aload_n 0, 1) := by decide +kernel
theorem dX4_put_25 : decode cX4_put 25 = .ok (.getfield 28, 3) := by decide +kernel
theorem dX4_put_28 : decode cX4_put 28 = .ok (.iload_n 3, 1) := by decide +kernel
theorem dX4_put_29 : decode cX4_put 29 = .ok (.iastore, 1) := by decide +kernel
theorem dX4_put_30 : decode cX4_put 30 = .ok (.aload_n 0, 1) := by decide +kernel
theorem dX4_put_31 : decode cX4_put 31 = .ok (.getfield 21, 3) := by decide +kernel
theorem dX4_put_34 : decode cX4_put 34 = .ok (.aload_n 0, 1) := by decide +kernel
theorem dX4_put_35 : decode cX4_put 35 = .ok (.getfield 28, 3) := by decide +kernel
theorem dX4_put_38 : decode cX4_put 38 = .ok (.bipush (-9), 2) := by decide +kernel
theorem dX4_put_40 : decode cX4_put 40 = .ok (.iastore, 1) := by decide +kernel
theorem dX4_put_41 : decode cX4_put 41 = .ok (.aload_n 0, 1) := by decide +kernel
theorem dX4_put_42 : decode cX4_put 42 = .ok (.dup, 1) := by decide +kernel
theorem dX4_put_43 : decode cX4_put 43 = .ok (.getfield 28, 3) := by decide +kernel
theorem dX4_put_46 : decode cX4_put 46 = .ok (.iconst 1, 1) := by decide +kernel
theorem dX4_put_47 : decode cX4_put 47 = .ok (.iadd, 1) := by decide +kernel
theorem dX4_put_48 : decode cX4_put 48 = .ok (.putfield 28, 3) := by decide +kernel
theorem dX4_put_51 : decode cX4_put 51 = .ok (.aload_n 0, 1) := by decide +kernel
theorem dX4_put_52 : decode cX4_put 52 = .ok (.getfield 28, 3) := by decide +kernel
theorem dX4_put_55 : decode cX4_put 55 = .ok (.iconst 1, 1) := by decide +kernel
theorem dX4_put_56 : decode cX4_put 56 = .ok (.isub, 1) := by decide +kernel
theorem dX4_put_57 : decode cX4_put 57 = .ok (.ireturn, 1) := by decide +kernel
theorem dX4_remove_0 : decode cX4_remove 0 = .ok (.aload_n 0, 1) := by decide +kernel
theorem dX4_remove_1 : decode cX4_remove 1 = .ok (.getfield 9, 3) := by decide +kernel
theorem dX4_remove_4 : decode cX4_remove 4 = .ok (.iload_n 1, 1) := by decide +kernel
theorem dX4_remove_5 : decode cX4_remove 5 = .ok (.iconst (-1), 1) := by decide +kernel
theorem dX4_remove_6 : decode cX4_remove 6 = .ok (.iastore, 1) := by decide +kernel
theorem dX4_remove_7 : decode cX4_remove 7 = .ok (.return_, 1) := by decide +kernel
set_option maxRecDepth 20000 in
theorem ggX4_tell_X4_isPresent : GoodIn wsX4_tell wsX4_isPresent := goodIn_r _ [8, 2, 9, 10, 11, 12, 7, 13, 1, 14, 15, 16, 17, 18, 19, 20, 21, 22, 23, 24, 25, 26, 27, 28, 29, 30, 31, 32, 33] (by decide +kernel) (by decide +kernel)
set_option maxRecDepth 20000 in
theorem gX4_tell_X4_isPresent : GoodIn wsX4_tell (wsV RX4 40 RX4 yX4_isPresent wsX4_isPresent) := goodIn_app (goodIn_of _ (by decide +kernel)) ggX4_tell_X4_isPresent
theorem dX4_tell_0 : decode cX4_tell 0 = .ok (.iload_n 2, 1) := by decide +kernel
theorem dX4_tell_1 : decode cX4_tell 1 = .ok (.tableswitch 48 0 2 #[27, 34, 41], 27) := by decide +kernel
theorem dX4_tell_28 : decode cX4_tell 28 = .ok (.aload_n 0, 1) := by decide +kernel
theorem dX4_tell_29 : decode cX4_tell 29 = .ok (.getfield 9, 3) := by decide +kernel
theorem dX4_tell_32 : decode cX4_tell 32 = .ok (.iload_n 1, 1) := by decide +kernel
theorem dX4_tell_33 : decode cX4_tell 33 = .ok (.iaload, 1) := by decide +kernel
theorem dX4_tell_34 : decode cX4_tell 34 = .ok (.ireturn, 1) := by decide +kernel
theorem dX4_tell_35 : decode cX4_tell 35 = .ok (.aload_n 0, 1) := by decide +kernel
theorem dX4_tell_36 : decode cX4_tell 36 = .ok (.getfield 15, 3) := by decide +kernel
theorem dX4_tell_39 : decode cX4_tell 39 = .ok (.iload_n 1, 1) := by decide +kernel
theorem dX4_tell_40 : decode cX4_tell 40 = .ok (.iaload, 1) := by decide +kernel
theorem dX4_tell_41 : decode cX4_tell 41 = .ok (.ireturn, 1) := by decide +kernel
theorem dX4_tell_42 : decode cX4_tell 42 = .ok (.aload_n 0, 1) := by decide +kernel
theorem dX4_tell_43 : decode cX4_tell 43 = .ok (.getfield 18, 3) := by decide +kernel
theorem dX4_tell_46 : decode cX4_tell 46 = .ok (.iload_n 1, 1) := by decide +kernel
theorem dX4_tell_47 : decode cX4_tell 47 = .ok (.iaload, 1) := by decide +kernel
theorem dX4_tell_48 : decode cX4_tell 48 = .ok (.ireturn, 1) := by decide +kernel
theorem dX4_tell_49 : decode cX4_tell 49 = .ok (.aload_n 0, 1) := by decide +kernel
theorem dX4_tell_50 : decode cX4_tell 50 = .ok (.iload_n 1, 1) := by decide +kernel
theorem dX4_tell_51 : decode cX4_tell 51 = .ok (.invokevirtual 40, 3) := by decide +kernel
theorem dX4_tell_54 : decode cX4_tell 54 = .ok (.ifCond .eq 7, 3) := by decide +kernel
theorem dX4_tell_57 : decode cX4_tell 57 = .ok (.iconst 1, 1) := by decide +kernel
theorem dX4_tell_58 : decode cX4_tell 58 = .ok (.goto 4, 3) := by decide +kernel
theorem dX4_tell_61 : decode cX4_tell 61 = .ok (.iconst 0, 1) := by decide +kernel
theorem dX4_tell_62 : decode cX4_tell 62 = .ok (.ireturn, 1) := by decide +kernel
set_option maxRecDepth 20000 in
theorem ggX4_isPresent_X4_isGone : GoodIn wsX4_isPresent wsX4_isGone := goodIn_r _ [7, 8, 15, 16, 17, 18, 19, 20, 21] (by decide +kernel) (by decide +kernel)
set_option maxRecDepth 20000 in
theorem gX4_isPresent_X4_isGone : GoodIn wsX4_isPresent (wsV RX4 36 RX4 yX4_isGone wsX4_isGone) := goodIn_app (goodIn_of _ (by decide +kernel)) ggX4_isPresent_X4_isGone
set_option maxRecDepth 20000 in
theorem ggX4_isPresent_X5_length : GoodIn wsX4_isPresent wsX5_length := goodIn_r _ [13, 14, 22, 23, 24, 25, 26, 27, 28] (by decide +kernel) (by decide +kernel)
set_option maxRecDepth 20000 in
theorem gX4_isPresent_X5_length : GoodIn wsX4_isPresent (wsV RX4 43 RX5 yX5_length wsX5_length) := goodIn_app (goodIn_of _ (by decide +kernel)) ggX4_isPresent_X5_length
theorem dX4_isPresent_0 : decode cX4_isPresent 0 = .ok (.aload_n 0, 1) := by decide +kernel
theorem dX4_isPresent_1 : decode cX4_isPresent 1 = .ok (.iload_n 1, 1) := by decide +kernel
theorem dX4_isPresent_2 : decode cX4_isPresent 2 = .ok (.invokevirtual 36, 3) := by decide +kernel
theorem dX4_isPresent_5 : decode cX4_isPresent 5 = .ok (.ifCond .ne 23, 3) := by decide +kernel
theorem dX4_isPresent_8 : decode cX4_isPresent 8 = .ok (.aload_n 0, 1) := by decide +kernel
theorem dX4_isPresent_9 : decode cX4_isPresent 9 = .ok (.getfield 15, 3) := by decide +kernel
theorem dX4_isPresent_12 : decode cX4_isPresent 12 = .ok (.iload_n 1, 1) := by decide +kernel
theorem dX4_isPresent_13 : decode cX4_isPresent 13 = .ok (.iaload, 1) := by decide +kernel
theorem dX4_isPresent_14 : decode cX4_isPresent 14 = .ok (.aload_n 0, 1) := by decide +kernel
theorem dX4_isPresent_15 : decode cX4_isPresent 15 = .ok (.getfield 32, 3) := by decide +kernel
theorem dX4_isPresent_18 : decode cX4_isPresent 18 = .ok (.invokevirtual 43, 3) := by decide +kernel
theorem dX4_isPresent_21 : decode cX4_isPresent 21 = .ok (.if_icmp .ge 7, 3) := by decide +kernel
theorem dX4_isPresent_24 : decode cX4_isPresent 24 = .ok (.iconst 1, 1) := by decide +kernel
theorem dX4_isPresent_25 : decode cX4_isPresent 25 = .ok (.goto 4, 3) := by decide +kernel
theorem dX4_isPresent_28 : decode cX4_isPresent 28 = .ok (.iconst 0, 1) := by decide +kernel
theorem dX4_isPresent_29 : decode cX4_isPresent 29 = .ok (.ireturn, 1) := by decide +kernel
theorem dX4_isOfKind_0 : decode cX4_isOfKind 0 = .ok (.aload_n 0, 1) := by decide +kernel
theorem dX4_isOfKind_1 : decode cX4_isOfKind 1 = .ok (.getfield 9, 3) := by decide +kernel
theorem dX4_isOfKind_4 : decode cX4_isOfKind 4 = .ok (.iload_n 1, 1) := by decide +kernel
theorem dX4_isOfKind_5 : decode cX4_isOfKind 5 = .ok (.iaload, 1) := by decide +kernel
theorem dX4_isOfKind_6 : decode cX4_isOfKind 6 = .ok (.istore_n 3, 1) := by decide +kernel
theorem dX4_isOfKind_7 : decode cX4_isOfKind 7 = .ok (.iload_n 3, 1) := by decide +kernel
theorem dX4_isOfKind_8 : decode cX4_isOfKind 8 = .ok (.iload_n 2, 1) := by decide +kernel
theorem dX4_isOfKind_9 : decode cX4_isOfKind 9 = .ok (.if_icmp .eq 17, 3) := by decide +kernel
theorem dX4_isOfKind_12 : decode cX4_isOfKind 12 = .ok (.iload_n 2, 1) := by decide +kernel
theorem dX4_isOfKind_13 : decode cX4_isOfKind 13 = .ok (.ifCond .eq 13, 3) := by decide +kernel
theorem dX4_isOfKind_16 : decode cX4_isOfKind 16 = .ok (.iload_n 2, 1) := by decide +kernel
theorem dX4_isOfKind_17 : decode cX4_isOfKind 17 = .ok (.iconst 1, 1) := by decide +kernel
theorem dX4_isOfKind_18 : decode cX4_isOfKind 18 = .ok (.if_icmp .ne 12, 3) := by decide +kernel
theorem dX4_isOfKind_21 : decode cX4_isOfKind 21 = .ok (.iload_n 3, 1) := by decide +kernel
theorem dX4_isOfKind_22 : decode cX4_isOfKind 22 = .ok (.iconst 2, 1) := by decide +kernel
theorem dX4_isOfKind_23 : decode cX4_isOfKind 23 = .ok (.if_icmp .ne 7, 3) := by decide +kernel
theorem dX4_isOfKind_26 : decode cX4_isOfKind 26 = .ok (.iconst 1, 1) := by decide +kernel
theorem dX4_isOfKind_27 : decode cX4_isOfKind 27 = .ok (.goto 4, 3) := by decide +kernel
theorem dX4_isOfKind_30 : decode cX4_isOfKind 30 = .ok (.iconst 0, 1) := by decide +kernel
theorem dX4_isOfKind_31 : decode cX4_isOfKind 31 = .ok (.ireturn, 1) := by decide +kernel
set_option maxRecDepth 20000 in
theorem ggX4_isLifted_X4_isPresent : GoodIn wsX4_isLifted wsX4_isPresent := goodIn_r _ [8, 3, 2, 9, 10, 11, 7, 12, 1, 13, 14, 15, 16, 17, 18, 52, 53, 54, 55, 56, 57, 58, 59, 60, 61, 62, 63, 64, 65] (by decide +kernel) (by decide +kernel)
set_option maxRecDepth 20000 in
theorem gX4_isLifted_X4_isPresent : GoodIn wsX4_isLifted (wsV RX4 40 RX4 yX4_isPresent wsX4_isPresent) := goodIn_app (goodIn_of _ (by decide +kernel)) ggX4_isLifted_X4_isPresent
set_option maxRecDepth 20000 in
theorem ggX4_isLifted_X5_growth : GoodIn wsX4_isLifted wsX5_growth := goodIn_r _ [22, 23, 24, 25, 26, 27, 28, 29, 16, 30, 31, 32, 33, 34, 35, 36, 37, 38, 39, 40, 41, 42, 43, 44, 45, 46, 47, 48, 49, 50, 51, 59, 60, 61, 62, 63, 64, 65, 66, 67, 68] (by decide +kernel) (by decide +kernel)
set_option maxRecDepth 20000 in
theorem gX4_isLifted_X5_growth : GoodIn wsX4_isLifted (wsV RX4 49 RX5 yX5_growth wsX5_growth) := goodIn_app (goodIn_of _ (by decide +kernel)) ggX4_isLifted_X5_growth
theorem dX4_isLifted_0 : decode cX4_isLifted 0 = .ok (.aload_n 0, 1) := by decide +kernel
theorem dX4_isLifted_1 : decode cX4_isLifted 1 = .ok (.iload_n 1, 1) := by decide +kernel
theorem dX4_isLifted_2 : decode cX4_isLifted 2 = .ok (.invokevirtual 40, 3) := by decide +kernel
theorem dX4_isLifted_5 : decode cX4_isLifted 5 = .ok (.ifCond .eq 26, 3) := by decide +kernel
theorem dX4_isLifted_8 : decode cX4_isLifted 8 = .ok (.aload_n 0, 1) := by decide +kernel
theorem dX4_isLifted_9 : decode cX4_isLifted 9 = .ok (.getfield 9, 3) := by decide +kernel
theorem dX4_isLifted_12 : decode cX4_isLifted 12 = .ok (.iload_n 1, 1) := by decide +kernel
theorem dX4_isLifted_13 : decode cX4_isLifted 13 = .ok (.iaload, 1) := by decide +kernel
theorem dX4_isLifted_14 : decode cX4_isLifted 14 = .ok (.ifCond .eq 13, 3) := by decide +kernel
theorem dX4_isLifted_17 : decode cX4_isLifted 17 = .ok (.aload_n 0, 1) := by decide +kernel
theorem dX4_isLifted_18 : decode cX4_isLifted 18 = .ok (.getfield 9, 3) := by decide +kernel
theorem dX4_isLifted_21 : decode cX4_isLifted 21 = .ok (.iload_n 1, 1) := by decide +kernel
theorem dX4_isLifted_22 : decode cX4_isLifted 22 = .ok (.iaload, 1) := by decide +kernel
theorem dX4_isLifted_23 : decode cX4_isLifted 23 = .ok (.iconst 1, 1) := by decide +kernel
theorem dX4_isLifted_24 : decode cX4_isLifted 24 = .ok (.if_icmp .ne 7, 3) := by decide +kernel
theorem dX4_isLifted_27 : decode cX4_isLifted 27 = .ok (.iconst 1, 1) := by decide +kernel
theorem dX4_isLifted_28 : decode cX4_isLifted 28 = .ok (.goto 4, 3) := by decide +kernel
theorem dX4_isLifted_31 : decode cX4_isLifted 31 = .ok (.iconst 0, 1) := by decide +kernel
theorem dX4_isLifted_32 : decode cX4_isLifted 32 = .ok (.istore_n 3, 1) := by decide +kernel
theorem dX4_isLifted_33 : decode cX4_isLifted 33 = .ok (.iload_n 3, 1) := by decide +kernel
theorem dX4_isLifted_34 : decode cX4_isLifted 34 = .ok (.ifCond .eq 25, 3) := by decide +kernel
theorem dX4_isLifted_37 : decode cX4_isLifted 37 = .ok (.aload_n 0, 1) := by decide +kernel
theorem dX4_isLifted_38 : decode cX4_isLifted 38 = .ok (.getfield 32, 3) := by decide +kernel
theorem dX4_isLifted_41 : decode cX4_isLifted 41 = .ok (.aload_n 0, 1) := by decide +kernel
theorem dX4_isLifted_42 : decode cX4_isLifted 42 = .ok (.getfield 15, 3) := by decide +kernel
theorem dX4_isLifted_45 : decode cX4_isLifted 45 = .ok (.iload_n 1, 1) := by decide +kernel
theorem dX4_isLifted_46 : decode cX4_isLifted 46 = .ok (.iaload, 1) := by decide +kernel
theorem dX4_isLifted_47 : decode cX4_isLifted 47 = .ok (.iload_n 2, 1) := by decide +kernel
theorem dX4_isLifted_48 : decode cX4_isLifted 48 = .ok (.iconst 2, 1) := by decide +kernel
theorem dX4_isLifted_49 : decode cX4_isLifted 49 = .ok (.invokevirtual 49, 3) := by decide +kernel
theorem dX4_isLifted_52 : decode cX4_isLifted 52 = .ok (.ifCond .le 7, 3) := by decide +kernel
theorem dX4_isLifted_55 : decode cX4_isLifted 55 = .ok (.iconst 1, 1) := by decide +kernel
theorem dX4_isLifted_56 : decode cX4_isLifted 56 = .ok (.goto 4, 3) := by decide +kernel
theorem dX4_isLifted_59 : decode cX4_isLifted 59 = .ok (.iconst 0, 1) := by decide +kernel
theorem dX4_isLifted_60 : decode cX4_isLifted 60 = .ok (.ireturn, 1) := by decide +kernel
theorem dX4_rateOf_0 : decode cX4_rateOf 0 = .ok (.aload_n 0, 1) := by decide +kernel
theorem dX4_rateOf_1 : decode cX4_rateOf 1 = .ok (.getfield 18, 3) := by decide +kernel
theorem dX4_rateOf_4 : decode cX4_rateOf 4 = .ok (.iload_n 1, 1) := by decide +kernel
theorem dX4_rateOf_5 : decode cX4_rateOf 5 = .ok (.iaload, 1) := by decide +kernel
theorem dX4_rateOf_6 : decode cX4_rateOf 6 = .ok (.ireturn, 1) := by decide +kernel
theorem dX4_setRate_0 : decode cX4_setRate 0 = .ok (.aload_n 0, 1) := by decide +kernel
theorem dX4_setRate_1 : decode cX4_setRate 1 = .ok (.getfield 18, 3) := by decide +kernel
theorem dX4_setRate_4 : decode cX4_setRate 4 = .ok (.iload_n 1, 1) := by decide +kernel
theorem dX4_setRate_5 : decode cX4_setRate 5 = .ok (.iload_n 2, 1) := by decide +kernel
theorem dX4_setRate_6 : decode cX4_setRate 6 = .ok (.iastore, 1) := by decide +kernel
theorem dX4_setRate_7 : decode cX4_setRate 7 = .ok (.return_, 1) := by decide +kernel
set_option maxRecDepth 20000 in
theorem ggX4_travel_X5_growth : GoodIn wsX4_travel wsX5_growth := goodIn_r _ [11, 12, 13, 14, 15, 16, 17, 18, 10, 19, 20, 21, 22, 23, 24, 25, 26, 27, 28, 29, 30, 31, 32, 33, 34, 35, 5, 36, 37, 38, 39, 47, 48, 49, 50, 51, 52, 53, 54, 55, 56] (by decide +kernel) (by decide +kernel)
set_option maxRecDepth 20000 in
theorem gX4_travel_X5_growth : GoodIn wsX4_travel (wsV RX4 49 RX5 yX5_growth wsX5_growth) := goodIn_app (goodIn_of _ (by decide +kernel)) ggX4_travel_X5_growth
theorem dX4_travel_0 : decode cX4_travel 0 = .ok (.aload_n 0, 1) := by decide +kernel
theorem dX4_travel_1 : decode cX4_travel 1 = .ok (.getfield 32, 3) := by decide +kernel
theorem dX4_travel_4 : decode cX4_travel 4 = .ok (.aload_n 0, 1) := by decide +kernel
theorem dX4_travel_5 : decode cX4_travel 5 = .ok (.getfield 15, 3) := by decide +kernel
theorem dX4_travel_8 : decode cX4_travel 8 = .ok (.iload_n 1, 1) := by decide +kernel
theorem dX4_travel_9 : decode cX4_travel 9 = .ok (.iaload, 1) := by decide +kernel
theorem dX4_travel_10 : decode cX4_travel 10 = .ok (.iload_n 2, 1) := by decide +kernel
theorem dX4_travel_11 : decode cX4_travel 11 = .ok (.iconst 2, 1) := by decide +kernel
theorem dX4_travel_12 : decode cX4_travel 12 = .ok (.invokevirtual 49, 3) := by decide +kernel
theorem dX4_travel_15 : decode cX4_travel 15 = .ok (.invokestatic 53, 3) := by decide +kernel
theorem dX4_travel_18 : decode cX4_travel 18 = .ok (.ireturn, 1) := by decide +kernel
set_option maxRecDepth 20000 in
theorem ggX4_noteBearing_X4_isPresent : GoodIn wsX4_noteBearing wsX4_isPresent := goodIn_r _ [8, 9, 10, 11, 12, 13, 7, 14, 3, 15, 16, 17, 18, 19, 20, 58, 59, 60, 61, 62, 63, 64, 65, 66, 67, 68, 69, 70, 71] (by decide +kernel) (by decide +kernel)
set_option maxRecDepth 20000 in
theorem gX4_noteBearing_X4_isPresent : GoodIn wsX4_noteBearing (wsV RX4 40 RX4 yX4_isPresent wsX4_isPresent) := goodIn_app (goodIn_of _ (by decide +kernel)) ggX4_noteBearing_X4_isPresent
set_option maxRecDepth 20000 in
theorem ggX4_noteBearing_X4_isLifted : GoodIn wsX4_noteBearing wsX4_isLifted := goodIn_r _ [24, 3, 10, 9, 4, 5, 6, 7, 8, 11, 12, 13, 14, 15, 16, 17, 18, 19, 20, 25, 26, 27, 28, 29, 30, 31, 32, 33, 34, 35, 36, 37, 38, 39, 40, 41, 42, 43, 44, 45, 46, 47, 48, 49, 50, 51, 52, 53, 54, 55, 56, 57, 58, 59, 60, 61, 62, 63, 64, 65, 66, 67, 68, 69, 70, 71, 72, 73, 74] (by decide +kernel) (by decide +kernel)
set_option maxRecDepth 20000 in
theorem gX4_noteBearing_X4_isLifted : GoodIn wsX4_noteBearing (wsV RX4 59 RX4 yX4_isLifted wsX4_isLifted) := goodIn_app (goodIn_of _ (by decide +kernel)) ggX4_noteBearing_X4_isLifted
theorem dX4_noteBearing_0 : decode cX4_noteBearing 0 = .ok (.iconst 0, 1) := by decide +kernel
theorem dX4_noteBearing_1 : decode cX4_noteBearing 1 = .ok (.istore_n 2, 1) := by decide +kernel
theorem dX4_noteBearing_2 : decode cX4_noteBearing 2 = .ok (.iload_n 2, 1) := by decide +kernel
theorem dX4_noteBearing_3 : decode cX4_noteBearing 3 = .ok (.aload_n 0, 1) := by decide +kernel
theorem dX4_noteBearing_4 : decode cX4_noteBearing 4 = .ok (.getfield 28, 3) := by decide +kernel
theorem dX4_noteBearing_7 : decode cX4_noteBearing 7 = .ok (.if_icmp .ge 47, 3) := by decide +kernel
theorem dX4_noteBearing_10 : decode cX4_noteBearing 10 = .ok (.aload_n 0, 1) := by decide +kernel
theorem dX4_noteBearing_11 : decode cX4_noteBearing 11 = .ok (.getfield 24, 3) := by decide +kernel
theorem dX4_noteBearing_14 : decode cX4_noteBearing 14 = .ok (.iload_n 2, 1) := by decide +kernel
theorem dX4_noteBearing_15 : decode cX4_noteBearing 15 = .ok (.aload_n 0, 1) := by decide +kernel
theorem dX4_noteBearing_16 : decode cX4_noteBearing 16 = .ok (.iload_n 2, 1) := by decide +kernel
theorem dX4_noteBearing_17 : decode cX4_noteBearing 17 = .ok (.invokevirtual 40, 3) := by decide +kernel
theorem dX4_noteBearing_20 : decode cX4_noteBearing 20 = .ok (.ifCond .eq 26, 3) := by decide +kernel
theorem dX4_noteBearing_23 : decode cX4_noteBearing 23 = .ok (.aload_n 0, 1) := by decide +kernel
theorem dX4_noteBearing_24 : decode cX4_noteBearing 24 = .ok (.getfield 9, 3) := by decide +kernel
theorem dX4_noteBearing_27 : decode cX4_noteBearing 27 = .ok (.iload_n 2, 1) := by decide +kernel
theorem dX4_noteBearing_28 : decode cX4_noteBearing 28 = .ok (.iaload, 1) := by decide +kernel
theorem dX4_noteBearing_29 : decode cX4_noteBearing 29 = .ok (.iconst 3, 1) := by decide +kernel
theorem dX4_noteBearing_30 : decode cX4_noteBearing 30 = .ok (.if_icmp .eq 16, 3) := by decide +kernel
theorem dX4_noteBearing_33 : decode cX4_noteBearing 33 = .ok (.aload_n 0, 1) := by decide +kernel
theorem dX4_noteBearing_34 : decode cX4_noteBearing 34 = .ok (.iload_n 2, 1) := by decide +kernel
theorem dX4_noteBearing_35 : decode cX4_noteBearing 35 = .ok (.iload_n 1, 1) := by decide +kernel
theorem dX4_noteBearing_36 : decode cX4_noteBearing 36 = .ok (.invokevirtual 59, 3) := by decide +kernel
theorem dX4_noteBearing_39 : decode cX4_noteBearing 39 = .ok (.ifCond .ne 7, 3) := by decide +kernel
theorem dX4_noteBearing_42 : decode cX4_noteBearing 42 = .ok (.iconst 1, 1) := by decide +kernel
theorem dX4_noteBearing_43 : decode cX4_noteBearing 43 = .ok (.goto 4, 3) := by decide +kernel
theorem dX4_noteBearing_46 : decode cX4_noteBearing 46 = .ok (.iconst 0, 1) := by decide +kernel
theorem dX4_noteBearing_47 : decode cX4_noteBearing 47 = .ok (.bastore, 1) := by decide +kernel
theorem dX4_noteBearing_48 : decode cX4_noteBearing 48 = .ok (.iinc 2 1, 3) := by decide +kernel
theorem dX4_noteBearing_51 : decode cX4_noteBearing 51 = .ok (.goto (-49), 3) := by decide +kernel
theorem dX4_noteBearing_54 : decode cX4_noteBearing 54 = .ok (.return_, 1) := by decide +kernel
theorem dX4_isBearing_0 : decode cX4_isBearing 0 = .ok (.aload_n 0, 1) := by decide +kernel
theorem dX4_isBearing_1 : decode cX4_isBearing 1 = .ok (.getfield 24, 3) := by decide +kernel
theorem dX4_isBearing_4 : decode cX4_isBearing 4 = .ok (.iload_n 1, 1) := by decide +kernel
theorem dX4_isBearing_5 : decode cX4_isBearing 5 = .ok (.baload, 1) := by decide +kernel
theorem dX4_isBearing_6 : decode cX4_isBearing 6 = .ok (.ireturn, 1) := by decide +kernel
set_option maxRecDepth 20000 in
theorem ggX4_twiceLoad_X5_length : GoodIn wsX4_twiceLoad wsX5_length := goodIn_r _ [16, 17, 45, 46, 47, 48, 49, 50, 51] (by decide +kernel) (by decide +kernel)
set_option maxRecDepth 20000 in
theorem gX4_twiceLoad_X5_length : GoodIn wsX4_twiceLoad (wsV RX4 43 RX5 yX5_length wsX5_length) := goodIn_app (goodIn_of _ (by decide +kernel)) ggX4_twiceLoad_X5_length
set_option maxRecDepth 20000 in
theorem ggX4_twiceLoad_X5_weight : GoodIn wsX4_twiceLoad wsX5_weight := goodIn_r _ [21, 22, 23, 24, 25, 26, 27, 28, 29, 30, 31, 32, 33, 34, 15, 35, 36, 10, 7, 11, 37, 6, 8, 45, 46, 47, 48, 49, 50, 51, 52, 53, 54] (by decide +kernel) (by decide +kernel)
set_option maxRecDepth 20000 in
theorem gX4_twiceLoad_X5_weight : GoodIn wsX4_twiceLoad (wsV RX4 70 RX5 yX5_weight wsX5_weight) := goodIn_app (goodIn_of _ (by decide +kernel)) ggX4_twiceLoad_X5_weight
theorem dX4_twiceLoad_0 : decode cX4_twiceLoad 0 = .ok (.aload_n 0, 1) := by decide +kernel
theorem dX4_twiceLoad_1 : decode cX4_twiceLoad 1 = .ok (.getfield 24, 3) := by decide +kernel
theorem dX4_twiceLoad_4 : decode cX4_twiceLoad 4 = .ok (.iload_n 1, 1) := by decide +kernel
theorem dX4_twiceLoad_5 : decode cX4_twiceLoad 5 = .ok (.baload, 1) := by decide +kernel
theorem dX4_twiceLoad_6 : decode cX4_twiceLoad 6 = .ok (.ifCond .eq 8, 3) := by decide +kernel
theorem dX4_twiceLoad_9 : decode cX4_twiceLoad 9 = .ok (.iload_n 1, 1) := by decide +kernel
theorem dX4_twiceLoad_10 : decode cX4_twiceLoad 10 = .ok (.iload_n 2, 1) := by decide +kernel
theorem dX4_twiceLoad_11 : decode cX4_twiceLoad 11 = .ok (.if_icmp .ne 5, 3) := by decide +kernel
theorem dX4_twiceLoad_14 : decode cX4_twiceLoad 14 = .ok (.iconst 0, 1) := by decide +kernel
theorem dX4_twiceLoad_15 : decode cX4_twiceLoad 15 = .ok (.ireturn, 1) := by decide +kernel
theorem dX4_twiceLoad_16 : decode cX4_twiceLoad 16 = .ok (.iconst 0, 1) := by decide +kernel
theorem dX4_twiceLoad_17 : decode cX4_twiceLoad 17 = .ok (.istore_n 3, 1) := by decide +kernel
theorem dX4_twiceLoad_18 : decode cX4_twiceLoad 18 = .ok (.aload_n 0, 1) := by decide +kernel
theorem dX4_twiceLoad_19 : decode cX4_twiceLoad 19 = .ok (.getfield 32, 3) := by decide +kernel
theorem dX4_twiceLoad_22 : decode cX4_twiceLoad 22 = .ok (.invokevirtual 43, 3) := by decide +kernel
theorem dX4_twiceLoad_25 : decode cX4_twiceLoad 25 = .ok (.istore 4, 2) := by decide +kernel
theorem dX4_twiceLoad_27 : decode cX4_twiceLoad 27 = .ok (.iconst 0, 1) := by decide +kernel
theorem dX4_twiceLoad_28 : decode cX4_twiceLoad 28 = .ok (.istore 5, 2) := by decide +kernel
theorem dX4_twiceLoad_30 : decode cX4_twiceLoad 30 = .ok (.iload 5, 2) := by decide +kernel
theorem dX4_twiceLoad_32 : decode cX4_twiceLoad 32 = .ok (.aload_n 0, 1) := by decide +kernel
theorem dX4_twiceLoad_33 : decode cX4_twiceLoad 33 = .ok (.getfield 28, 3) := by decide +kernel
theorem dX4_twiceLoad_36 : decode cX4_twiceLoad 36 = .ok (.if_icmp .ge 86, 3) := by decide +kernel
theorem dX4_twiceLoad_39 : decode cX4_twiceLoad 39 = .ok (.aload_n 0, 1) := by decide +kernel
theorem dX4_twiceLoad_40 : decode cX4_twiceLoad 40 = .ok (.getfield 24, 3) := by decide +kernel
theorem dX4_twiceLoad_43 : decode cX4_twiceLoad 43 = .ok (.iload 5, 2) := by decide +kernel
theorem dX4_twiceLoad_45 : decode cX4_twiceLoad 45 = .ok (.baload, 1) := by decide +kernel
theorem dX4_twiceLoad_46 : decode cX4_twiceLoad 46 = .ok (.ifCond .eq 70, 3) := by decide +kernel
theorem dX4_twiceLoad_49 : decode cX4_twiceLoad 49 = .ok (.iload 5, 2) := by decide +kernel
theorem dX4_twiceLoad_51 : decode cX4_twiceLoad 51 = .ok (.iload_n 2, 1) := by decide +kernel
theorem dX4_twiceLoad_52 : decode cX4_twiceLoad 52 = .ok (.if_icmp .eq 64, 3) := by decide +kernel
theorem dX4_twiceLoad_55 : decode cX4_twiceLoad 55 = .ok (.aload_n 0, 1) := by decide +kernel
theorem dX4_twiceLoad_56 : decode cX4_twiceLoad 56 = .ok (.getfield 15, 3) := by decide +kernel
theorem dX4_twiceLoad_59 : decode cX4_twiceLoad 59 = .ok (.iload 5, 2) := by decide +kernel
theorem dX4_twiceLoad_61 : decode cX4_twiceLoad 61 = .ok (.iaload, 1) := by decide +kernel
theorem dX4_twiceLoad_62 : decode cX4_twiceLoad 62 = .ok (.aload_n 0, 1) := by decide +kernel
theorem dX4_twiceLoad_63 : decode cX4_twiceLoad 63 = .ok (.getfield 15, 3) := by decide +kernel
theorem dX4_twiceLoad_66 : decode cX4_twiceLoad 66 = .ok (.iload_n 1, 1) := by decide +kernel
theorem dX4_twiceLoad_67 : decode cX4_twiceLoad 67 = .ok (.iaload, 1) := by decide +kernel
theorem dX4_twiceLoad_68 : decode cX4_twiceLoad 68 = .ok (.if_icmp .ge 18, 3) := by decide +kernel
theorem dX4_twiceLoad_71 : decode cX4_twiceLoad 71 = .ok (.iload_n 3, 1) := by decide +kernel
theorem dX4_twiceLoad_72 : decode cX4_twiceLoad 72 = .ok (.aload_n 0, 1) := by decide +kernel
theorem dX4_twiceLoad_73 : decode cX4_twiceLoad 73 = .ok (.getfield 15, 3) := by decide +kernel
theorem dX4_twiceLoad_76 : decode cX4_twiceLoad 76 = .ok (.iload 5, 2) := by decide +kernel
theorem dX4_twiceLoad_78 : decode cX4_twiceLoad 78 = .ok (.iaload, 1) := by decide +kernel
theorem dX4_twiceLoad_79 : decode cX4_twiceLoad 79 = .ok (.invokestatic 63, 3) := by decide +kernel
theorem dX4_twiceLoad_82 : decode cX4_twiceLoad 82 = .ok (.istore_n 3, 1) := by decide +kernel
theorem dX4_twiceLoad_83 : decode cX4_twiceLoad 83 = .ok (.goto 33, 3) := by decide +kernel
theorem dX4_twiceLoad_86 : decode cX4_twiceLoad 86 = .ok (.aload_n 0, 1) := by decide +kernel
theorem dX4_twiceLoad_87 : decode cX4_twiceLoad 87 = .ok (.getfield 15, 3) := by decide +kernel
theorem dX4_twiceLoad_90 : decode cX4_twiceLoad 90 = .ok (.iload 5, 2) := by decide +kernel
theorem dX4_twiceLoad_92 : decode cX4_twiceLoad 92 = .ok (.iaload, 1) := by decide +kernel
theorem dX4_twiceLoad_93 : decode cX4_twiceLoad 93 = .ok (.aload_n 0, 1) := by decide +kernel
theorem dX4_twiceLoad_94 : decode cX4_twiceLoad 94 = .ok (.getfield 15, 3) := by decide +kernel
theorem dX4_twiceLoad_97 : decode cX4_twiceLoad 97 = .ok (.iload_n 1, 1) := by decide +kernel
theorem dX4_twiceLoad_98 : decode cX4_twiceLoad 98 = .ok (.iaload, 1) := by decide +kernel
theorem dX4_twiceLoad_99 : decode cX4_twiceLoad 99 = .ok (.if_icmp .le 17, 3) := by decide +kernel
theorem dX4_twiceLoad_102 : decode cX4_twiceLoad 102 = .ok (.iload 4, 2) := by decide +kernel
theorem dX4_twiceLoad_104 : decode cX4_twiceLoad 104 = .ok (.aload_n 0, 1) := by decide +kernel
theorem dX4_twiceLoad_105 : decode cX4_twiceLoad 105 = .ok (.getfield 15, 3) := by decide +kernel
theorem dX4_twiceLoad_108 : decode cX4_twiceLoad 108 = .ok (.iload 5, 2) := by decide +kernel
theorem dX4_twiceLoad_110 : decode cX4_twiceLoad 110 = .ok (.iaload, 1) := by decide +kernel
theorem dX4_twiceLoad_111 : decode cX4_twiceLoad 111 = .ok (.invokestatic 67, 3) := by decide +kernel
theorem dX4_twiceLoad_114 : decode cX4_twiceLoad 114 = .ok (.istore 4, 2) := by decide +kernel
theorem dX4_twiceLoad_116 : decode cX4_twiceLoad 116 = .ok (.iinc 5 1, 3) := by decide +kernel
theorem dX4_twiceLoad_119 : decode cX4_twiceLoad 119 = .ok (.goto (-89), 3) := by decide +kernel
theorem dX4_twiceLoad_122 : decode cX4_twiceLoad 122 = .ok (.aload_n 0, 1) := by decide +kernel
theorem dX4_twiceLoad_123 : decode cX4_twiceLoad 123 = .ok (.getfield 32, 3) := by decide +kernel
theorem dX4_twiceLoad_126 : decode cX4_twiceLoad 126 = .ok (.iload_n 3, 1) := by decide +kernel
theorem dX4_twiceLoad_127 : decode cX4_twiceLoad 127 = .ok (.iload 4, 2) := by decide +kernel
theorem dX4_twiceLoad_129 : decode cX4_twiceLoad 129 = .ok (.invokevirtual 70, 3) := by decide +kernel
theorem dX4_twiceLoad_132 : decode cX4_twiceLoad 132 = .ok (.ireturn, 1) := by decide +kernel
theorem dX4_replaceReading_0 : decode cX4_replaceReading 0 = .ok (.aload_n 0, 1) := by decide +kernel
theorem dX4_replaceReading_1 : decode cX4_replaceReading 1 = .ok (.getfield 21, 3) := by decide +kernel
theorem dX4_replaceReading_4 : decode cX4_replaceReading 4 = .ok (.iload_n 1, 1) := by decide +kernel
theorem dX4_replaceReading_5 : decode cX4_replaceReading 5 = .ok (.iaload, 1) := by decide +kernel
theorem dX4_replaceReading_6 : decode cX4_replaceReading 6 = .ok (.istore_n 3, 1) := by decide +kernel
theorem dX4_replaceReading_7 : decode cX4_replaceReading 7 = .ok (.aload_n 0, 1) := by decide +kernel
theorem dX4_replaceReading_8 : decode cX4_replaceReading 8 = .ok (.getfield 21, 3) := by decide +kernel
theorem dX4_replaceReading_11 : decode cX4_replaceReading 11 = .ok (.iload_n 1, 1) := by decide +kernel
theorem dX4_replaceReading_12 : decode cX4_replaceReading 12 = .ok (.iload_n 2, 1) := by decide +kernel
theorem dX4_replaceReading_13 : decode cX4_replaceReading 13 = .ok (.iastore, 1) := by decide +kernel
theorem dX4_replaceReading_14 : decode cX4_replaceReading 14 = .ok (.iload_n 3, 1) := by decide +kernel
theorem dX4_replaceReading_15 : decode cX4_replaceReading 15 = .ok (.ireturn, 1) := by decide +kernel
set_option maxRecDepth 20000 in
theorem ggX4_isRead_X4_isGone : GoodIn wsX4_isRead wsX4_isGone := goodIn_r _ [6, 7, 8, 9, 10, 11, 12, 13, 14] (by decide +kernel) (by decide +kernel)
set_option maxRecDepth 20000 in
theorem gX4_isRead_X4_isGone : GoodIn wsX4_isRead (wsV RX4 36 RX4 yX4_isGone wsX4_isGone) := goodIn_app (goodIn_of _ (by decide +kernel)) ggX4_isRead_X4_isGone
theorem dX4_isRead_0 : decode cX4_isRead 0 = .ok (.aload_n 0, 1) := by decide +kernel
theorem dX4_isRead_1 : decode cX4_isRead 1 = .ok (.iload_n 1, 1) := by decide +kernel
theorem dX4_isRead_2 : decode cX4_isRead 2 = .ok (.invokevirtual 36, 3) := by decide +kernel
theorem dX4_isRead_5 : decode cX4_isRead 5 = .ok (.ifCond .ne 18, 3) := by decide +kernel
theorem dX4_isRead_8 : decode cX4_isRead 8 = .ok (.aload_n 0, 1) := by decide +kernel
theorem dX4_isRead_9 : decode cX4_isRead 9 = .ok (.getfield 21, 3) := by decide +kernel
theorem dX4_isRead_12 : decode cX4_isRead 12 = .ok (.iload_n 1, 1) := by decide +kernel
theorem dX4_isRead_13 : decode cX4_isRead 13 = .ok (.iaload, 1) := by decide +kernel
theorem dX4_isRead_14 : decode cX4_isRead 14 = .ok (.bipush (-9), 2) := by decide +kernel
theorem dX4_isRead_16 : decode cX4_isRead 16 = .ok (.if_icmp .eq 7, 3) := by decide +kernel
theorem dX4_isRead_19 : decode cX4_isRead 19 = .ok (.iconst 1, 1) := by decide +kernel
theorem dX4_isRead_20 : decode cX4_isRead 20 = .ok (.goto 4, 3) := by decide +kernel
theorem dX4_isRead_23 : decode cX4_isRead 23 = .ok (.iconst 0, 1) := by decide +kernel
theorem dX4_isRead_24 : decode cX4_isRead 24 = .ok (.ireturn, 1) := by decide +kernel
set_option maxRecDepth 20000 in
theorem ggX4_hasReading_X4_isRead : GoodIn wsX4_hasReading wsX4_isRead := goodIn_r _ [6, 7, 8, 9, 10, 5, 11, 12, 13, 14, 15, 16, 17, 18, 19] (by decide +kernel) (by decide +kernel)
set_option maxRecDepth 20000 in
theorem gX4_hasReading_X4_isRead : GoodIn wsX4_hasReading (wsV RX4 73 RX4 yX4_isRead wsX4_isRead) := goodIn_app (goodIn_of _ (by decide +kernel)) ggX4_hasReading_X4_isRead
theorem dX4_hasReading_0 : decode cX4_hasReading 0 = .ok (.iconst 0, 1) := by decide +kernel
theorem dX4_hasReading_1 : decode cX4_hasReading 1 = .ok (.istore_n 1, 1) := by decide +kernel
theorem dX4_hasReading_2 : decode cX4_hasReading 2 = .ok (.iload_n 1, 1) := by decide +kernel
theorem dX4_hasReading_3 : decode cX4_hasReading 3 = .ok (.aload_n 0, 1) := by decide +kernel
theorem dX4_hasReading_4 : decode cX4_hasReading 4 = .ok (.getfield 28, 3) := by decide +kernel
theorem dX4_hasReading_7 : decode cX4_hasReading 7 = .ok (.if_icmp .ge 19, 3) := by decide +kernel
theorem dX4_hasReading_10 : decode cX4_hasReading 10 = .ok (.aload_n 0, 1) := by decide +kernel
theorem dX4_hasReading_11 : decode cX4_hasReading 11 = .ok (.iload_n 1, 1) := by decide +kernel
theorem dX4_hasReading_12 : decode cX4_hasReading 12 = .ok (.invokevirtual 73, 3) := by decide +kernel
theorem dX4_hasReading_15 : decode cX4_hasReading 15 = .ok (.ifCond .eq 5, 3) := by decide +kernel
theorem dX4_hasReading_18 : decode cX4_hasReading 18 = .ok (.iconst 1, 1) := by decide +kernel
theorem dX4_hasReading_19 : decode cX4_hasReading 19 = .ok (.ireturn, 1) := by decide +kernel
theorem dX4_hasReading_20 : decode cX4_hasReading 20 = .ok (.iinc 1 1, 3) := by decide +kernel
theorem dX4_hasReading_23 : decode cX4_hasReading 23 = .ok (.goto (-21), 3) := by decide +kernel
theorem dX4_hasReading_26 : decode cX4_hasReading 26 = .ok (.iconst 0, 1) := by decide +kernel
theorem dX4_hasReading_27 : decode cX4_hasReading 27 = .ok (.ireturn, 1) := by decide +kernel
set_option maxRecDepth 20000 in
theorem ggX4_differenceWithout_X4_isRead : GoodIn wsX4_differenceWithout wsX4_isRead := goodIn_r _ [11, 2, 12, 13, 14, 10, 15, 16, 56, 57, 58, 59, 60, 61, 62] (by decide +kernel) (by decide +kernel)
set_option maxRecDepth 20000 in
theorem gX4_differenceWithout_X4_isRead : GoodIn wsX4_differenceWithout (wsV RX4 73 RX4 yX4_isRead wsX4_isRead) := goodIn_app (goodIn_of _ (by decide +kernel)) ggX4_differenceWithout_X4_isRead
set_option maxRecDepth 20000 in
theorem ggX4_differenceWithout_X4_twiceLoad : GoodIn wsX4_differenceWithout wsX4_twiceLoad := goodIn_r _ [20, 21, 22, 1, 23, 24, 25, 5, 26, 27, 28, 29, 30, 31, 32, 33, 34, 35, 36, 37, 38, 39, 40, 41, 42, 43, 44, 45, 46, 47, 48, 49, 50, 51, 52, 53, 54, 55, 56, 57, 58, 59, 60, 61, 62, 63, 64, 65, 66, 67, 68, 69, 70, 71, 72] (by decide +kernel) (by decide +kernel)
set_option maxRecDepth 20000 in
theorem gX4_differenceWithout_X4_twiceLoad : GoodIn wsX4_differenceWithout (wsV RX4 76 RX4 yX4_twiceLoad wsX4_twiceLoad) := goodIn_app (goodIn_of _ (by decide +kernel)) ggX4_differenceWithout_X4_twiceLoad
theorem dX4_differenceWithout_0 : decode cX4_differenceWithout 0 = .ok (.iconst 0, 1) := by decide +kernel
theorem dX4_differenceWithout_1 : decode cX4_differenceWithout 1 = .ok (.istore_n 2, 1) := by decide +kernel
theorem dX4_differenceWithout_2 : decode cX4_differenceWithout 2 = .ok (.iconst 0, 1) := by decide +kernel
theorem dX4_differenceWithout_3 : decode cX4_differenceWithout 3 = .ok (.istore_n 3, 1) := by decide +kernel
theorem dX4_differenceWithout_4 : decode cX4_differenceWithout 4 = .ok (.iload_n 3, 1) := by decide +kernel
theorem dX4_differenceWithout_5 : decode cX4_differenceWithout 5 = .ok (.aload_n 0, 1) := by decide +kernel
theorem dX4_differenceWithout_6 : decode cX4_differenceWithout 6 = .ok (.getfield 28, 3) := by decide +kernel
theorem dX4_differenceWithout_9 : decode cX4_differenceWithout 9 = .ok (.if_icmp .ge 41, 3) := by decide +kernel
theorem dX4_differenceWithout_12 : decode cX4_differenceWithout 12 = .ok (.aload_n 0, 1) := by decide +kernel
theorem dX4_differenceWithout_13 : decode cX4_differenceWithout 13 = .ok (.iload_n 3, 1) := by decide +kernel
theorem dX4_differenceWithout_14 : decode cX4_differenceWithout 14 = .ok (.invokevirtual 73, 3) := by decide +kernel
theorem dX4_differenceWithout_17 : decode cX4_differenceWithout 17 = .ok (.ifCond .eq 27, 3) := by decide +kernel
theorem dX4_differenceWithout_20 : decode cX4_differenceWithout 20 = .ok (.iload_n 3, 1) := by decide +kernel
theorem dX4_differenceWithout_21 : decode cX4_differenceWithout 21 = .ok (.iload_n 1, 1) := by decide +kernel
theorem dX4_differenceWithout_22 : decode cX4_differenceWithout 22 = .ok (.if_icmp .eq 22, 3) := by decide +kernel
theorem dX4_differenceWithout_25 : decode cX4_differenceWithout 25 = .ok (.iload_n 2, 1) := by decide +kernel
theorem dX4_differenceWithout_26 : decode cX4_differenceWithout 26 = .ok (.aload_n 0, 1) := by decide +kernel
theorem dX4_differenceWithout_27 : decode cX4_differenceWithout 27 = .ok (.iload_n 3, 1) := by decide +kernel
theorem dX4_differenceWithout_28 : decode cX4_differenceWithout 28 = .ok (.iload_n 1, 1) := by decide +kernel
theorem dX4_differenceWithout_29 : decode cX4_differenceWithout 29 = .ok (.invokevirtual 76, 3) := by decide +kernel
theorem dX4_differenceWithout_32 : decode cX4_differenceWithout 32 = .ok (.aload_n 0, 1) := by decide +kernel
theorem dX4_differenceWithout_33 : decode cX4_differenceWithout 33 = .ok (.getfield 21, 3) := by decide +kernel
theorem dX4_differenceWithout_36 : decode cX4_differenceWithout 36 = .ok (.iload_n 3, 1) := by decide +kernel
theorem dX4_differenceWithout_37 : decode cX4_differenceWithout 37 = .ok (.iaload, 1) := by decide +kernel
theorem dX4_differenceWithout_38 : decode cX4_differenceWithout 38 = .ok (.isub, 1) := by decide +kernel
theorem dX4_differenceWithout_39 : decode cX4_differenceWithout 39 = .ok (.invokestatic 53, 3) := by decide +kernel
theorem dX4_differenceWithout_42 : decode cX4_differenceWithout 42 = .ok (.iadd, 1) := by decide +kernel
theorem dX4_differenceWithout_43 : decode cX4_differenceWithout 43 = .ok (.istore_n 2, 1) := by decide +kernel
theorem dX4_differenceWithout_44 : decode cX4_differenceWithout 44 = .ok (.iinc 3 1, 3) := by decide +kernel
theorem dX4_differenceWithout_47 : decode cX4_differenceWithout 47 = .ok (.goto (-43), 3) := by decide +kernel
theorem dX4_differenceWithout_50 : decode cX4_differenceWithout 50 = .ok (.iload_n 2, 1) := by decide +kernel
theorem dX4_differenceWithout_51 : decode cX4_differenceWithout 51 = .ok (.ireturn, 1) := by decide +kernel
set_option maxRecDepth 20000 in
theorem ggX4_mixInto_X4_isGone : GoodIn wsX4_mixInto wsX4_isGone := goodIn_r _ [8, 9, 27, 28, 29, 30, 31, 32, 33] (by decide +kernel) (by decide +kernel)
set_option maxRecDepth 20000 in
theorem gX4_mixInto_X4_isGone : GoodIn wsX4_mixInto (wsV RX4 36 RX4 yX4_isGone wsX4_isGone) := goodIn_app (goodIn_of _ (by decide +kernel)) ggX4_mixInto_X4_isGone
set_option maxRecDepth 20000 in
theorem ggX4_mixInto_X4_tell : GoodIn wsX4_mixInto wsX4_tell := goodIn_r _ [13, 9, 14, 15, 16, 17, 18, 7, 19, 20, 4, 5, 6, 8, 21, 22, 23, 24, 25, 26, 27, 28, 29, 30, 31, 32, 33, 34, 35, 36, 37, 38, 39, 40] (by decide +kernel) (by decide +kernel)
set_option maxRecDepth 20000 in
theorem gX4_mixInto_X4_tell : GoodIn wsX4_mixInto (wsV RX4 81 RX4 yX4_tell wsX4_tell) := goodIn_app (goodIn_of _ (by decide +kernel)) ggX4_mixInto_X4_tell
theorem dX4_mixInto_0 : decode cX4_mixInto 0 = .ok (.iconst 0, 1) := by decide +kernel
theorem dX4_mixInto_1 : decode cX4_mixInto 1 = .ok (.istore_n 3, 1) := by decide +kernel
theorem dX4_mixInto_2 : decode cX4_mixInto 2 = .ok (.iload_n 3, 1) := by decide +kernel
theorem dX4_mixInto_3 : decode cX4_mixInto 3 = .ok (.aload_n 0, 1) := by decide +kernel
theorem dX4_mixInto_4 : decode cX4_mixInto 4 = .ok (.getfield 28, 3) := by decide +kernel
theorem dX4_mixInto_7 : decode cX4_mixInto 7 = .ok (.if_icmp .ge 72, 3) := by decide +kernel
theorem dX4_mixInto_10 : decode cX4_mixInto 10 = .ok (.aload_n 0, 1) := by decide +kernel
theorem dX4_mixInto_11 : decode cX4_mixInto 11 = .ok (.iload_n 3, 1) := by decide +kernel
theorem dX4_mixInto_12 : decode cX4_mixInto 12 = .ok (.invokevirtual 36, 3) := by decide +kernel
theorem dX4_mixInto_15 : decode cX4_mixInto 15 = .ok (.ifCond .eq 14, 3) := by decide +kernel
theorem dX4_mixInto_18 : decode cX4_mixInto 18 = .ok (.ldc2_w 79, 3) := by decide +kernel
theorem dX4_mixInto_21 : decode cX4_mixInto 21 = .ok (.lload_n 1, 1) := by decide +kernel
theorem dX4_mixInto_22 : decode cX4_mixInto 22 = .ok (.lmul, 1) := by decide +kernel
theorem dX4_mixInto_23 : decode cX4_mixInto 23 = .ok (.lconst 1, 1) := by decide +kernel
theorem dX4_mixInto_24 : decode cX4_mixInto 24 = .ok (.lsub, 1) := by decide +kernel
theorem dX4_mixInto_25 : decode cX4_mixInto 25 = .ok (.lstore_n 1, 1) := by decide +kernel
theorem dX4_mixInto_26 : decode cX4_mixInto 26 = .ok (.goto 47, 3) := by decide +kernel
theorem dX4_mixInto_29 : decode cX4_mixInto 29 = .ok (.iconst 0, 1) := by decide +kernel
theorem dX4_mixInto_30 : decode cX4_mixInto 30 = .ok (.istore 4, 2) := by decide +kernel
theorem dX4_mixInto_32 : decode cX4_mixInto 32 = .ok (.iload 4, 2) := by decide +kernel
theorem dX4_mixInto_34 : decode cX4_mixInto 34 = .ok (.iconst 3, 1) := by decide +kernel
theorem dX4_mixInto_35 : decode cX4_mixInto 35 = .ok (.if_icmp .gt 24, 3) := by decide +kernel
theorem dX4_mixInto_38 : decode cX4_mixInto 38 = .ok (.ldc2_w 79, 3) := by decide +kernel
theorem dX4_mixInto_41 : decode cX4_mixInto 41 = .ok (.lload_n 1, 1) := by decide +kernel
theorem dX4_mixInto_42 : decode cX4_mixInto 42 = .ok (.lmul, 1) := by decide +kernel
theorem dX4_mixInto_43 : decode cX4_mixInto 43 = .ok (.aload_n 0, 1) := by decide +kernel
theorem dX4_mixInto_44 : decode cX4_mixInto 44 = .ok (.iload_n 3, 1) := by decide +kernel
theorem dX4_mixInto_45 : decode cX4_mixInto 45 = .ok (.iload 4, 2) := by decide +kernel
theorem dX4_mixInto_47 : decode cX4_mixInto 47 = .ok (.invokevirtual 81, 3) := by decide +kernel
theorem dX4_mixInto_50 : decode cX4_mixInto 50 = .ok (.i2l, 1) := by decide +kernel
theorem dX4_mixInto_51 : decode cX4_mixInto 51 = .ok (.ladd, 1) := by decide +kernel
theorem dX4_mixInto_52 : decode cX4_mixInto 52 = .ok (.lstore_n 1, 1) := by decide +kernel
theorem dX4_mixInto_53 : decode cX4_mixInto 53 = .ok (.iinc 4 1, 3) := by decide +kernel
theorem dX4_mixInto_56 : decode cX4_mixInto 56 = .ok (.goto (-24), 3) := by decide +kernel
theorem dX4_mixInto_59 : decode cX4_mixInto 59 = .ok (.ldc2_w 79, 3) := by decide +kernel
theorem dX4_mixInto_62 : decode cX4_mixInto 62 = .ok (.lload_n 1, 1) := by decide +kernel
theorem dX4_mixInto_63 : decode cX4_mixInto 63 = .ok (.lmul, 1) := by decide +kernel
theorem dX4_mixInto_64 : decode cX4_mixInto 64 = .ok (.aload_n 0, 1) := by decide +kernel
theorem dX4_mixInto_65 : decode cX4_mixInto 65 = .ok (.getfield 21, 3) := by decide +kernel
theorem dX4_mixInto_68 : decode cX4_mixInto 68 = .ok (.iload_n 3, 1) := by decide +kernel
theorem dX4_mixInto_69 : decode cX4_mixInto 69 = .ok (.iaload, 1) := by decide +kernel
theorem dX4_mixInto_70 : decode cX4_mixInto 70 = .ok (.i2l, 1) := by decide +kernel
theorem dX4_mixInto_71 : decode cX4_mixInto 71 = .ok (.ladd, 1) := by decide +kernel
theorem dX4_mixInto_72 : decode cX4_mixInto 72 = .ok (.lstore_n 1, 1) := by decide +kernel
theorem dX4_mixInto_73 : decode cX4_mixInto 73 = .ok (.iinc 3 1, 3) := by decide +kernel
theorem dX4_mixInto_76 : decode cX4_mixInto 76 = .ok (.goto (-74), 3) := by decide +kernel
theorem dX4_mixInto_79 : decode cX4_mixInto 79 = .ok (.lload_n 1, 1) := by decide +kernel
theorem dX4_mixInto_80 : decode cX4_mixInto 80 = .ok (.lreturn, 1) := by decide +kernel
theorem dX5_init_0 : decode cX5_init 0 = .ok (.aload_n 0, 1) := by decide +kernel
theorem dX5_init_1 : decode cX5_init 1 = .ok (.invokespecial 3, 3) := by decide +kernel
theorem dX5_init_4 : decode cX5_init 4 = .ok (.aload_n 0, 1) := by decide +kernel
theorem dX5_init_5 : decode cX5_init 5 = .ok (.bipush 12, 2) := by decide +kernel
theorem dX5_init_7 : decode cX5_init 7 = .ok (.newarray .int, 2) := by decide +kernel
theorem dX5_init_9 : decode cX5_init 9 = .ok (.putfield 9, 3) := by decide +kernel
theorem dX5_init_12 : decode cX5_init 12 = .ok (.aload_n 0, 1) := by decide +kernel
theorem dX5_init_13 : decode cX5_init 13 = .ok (.bipush 12, 2) := by decide +kernel
theorem dX5_init_15 : decode cX5_init 15 = .ok (.newarray .int, 2) := by decide +kernel
theorem dX5_init_17 : decode cX5_init 17 = .ok (.putfield 15, 3) := by decide +kernel
theorem dX5_init_20 : decode cX5_init 20 = .ok (.aload_n 0, 1) := by decide +kernel
theorem dX5_init_21 : decode cX5_init 21 = .ok (.bipush 12, 2) := by decide +kernel
theorem dX5_init_23 : decode cX5_init 23 = .ok (.newarray .int, 2) := by decide +kernel
theorem dX5_init_25 : decode cX5_init 25 = .ok (.putfield 18, 3) := by decide +kernel
theorem dX5_init_28 : decode cX5_init 28 = .ok (.aload_n 0, 1) := by decide +kernel
theorem dX5_init_29 : decode cX5_init 29 = .ok (.iconst 3, 1) := by decide +kernel
theorem dX5_init_30 : decode cX5_init 30 = .ok (.newarray .int, 2) := by decide +kernel
theorem dX5_init_32 : decode cX5_init 32 = .ok (.putfield 21, 3) := by decide +kernel
theorem dX5_init_35 : decode cX5_init 35 = .ok (.aload_n 0, 1) := by decide +kernel
theorem dX5_init_36 : decode cX5_init 36 = .ok (.iconst 0, 1) := by decide +kernel
theorem dX5_init_37 : decode cX5_init 37 = .ok (.putfield 24, 3) := by decide +kernel
theorem dX5_init_40 : decode cX5_init 40 = .ok (.aload_n 0, 1) := by decide +kernel
theorem dX5_init_41 : decode cX5_init 41 = .ok (.iconst 0, 1) := by decide +kernel
theorem dX5_init_42 : decode cX5_init 42 = .ok (.putfield 28, 3) := by decide +kernel
theorem dX5_init_45 : decode cX5_init 45 = .ok (.aload_n 0, 1) := by decide +kernel
theorem dX5_init_46 : decode cX5_init 46 = .ok (.aload_n 1, 1) := by decide +kernel
theorem dX5_init_47 : decode cX5_init 47 = .ok (.putfield 31, 3) := by decide +kernel
theorem dX5_init_50 : decode cX5_init 50 = .ok (.return_, 1) := by decide +kernel
theorem dX5_legs_0 : decode cX5_legs 0 = .ok (.aload_n 0, 1) := by decide +kernel
theorem dX5_legs_1 : decode cX5_legs 1 = .ok (.getfield 24, 3) := by decide +kernel
theorem dX5_legs_4 : decode cX5_legs 4 = .ok (.ireturn, 1) := by decide +kernel
theorem dX5_length_0 : decode cX5_length 0 = .ok (.aload_n 0, 1) := by decide +kernel
theorem dX5_length_1 : decode cX5_length 1 = .ok (.getfield 28, 3) := by decide +kernel
theorem dX5_length_4 : decode cX5_length 4 = .ok (.ireturn, 1) := by decide +kernel
theorem dX5_unitsOf_0 : decode cX5_unitsOf 0 = .ok (.aload_n 0, 1) := by decide +kernel
theorem dX5_unitsOf_1 : decode cX5_unitsOf 1 = .ok (.getfield 15, 3) := by decide +kernel
theorem dX5_unitsOf_4 : decode cX5_unitsOf 4 = .ok (.iload_n 1, 1) := by decide +kernel
theorem dX5_unitsOf_5 : decode cX5_unitsOf 5 = .ok (.iaload, 1) := by decide +kernel
theorem dX5_unitsOf_6 : decode cX5_unitsOf 6 = .ok (.ireturn, 1) := by decide +kernel
set_option maxRecDepth 20000 in
theorem ggX5_isAcross_X5_axisOf : GoodIn wsX5_isAcross wsX5_axisOf := goodIn_r _ [5] (by decide +kernel) (by decide +kernel)
set_option maxRecDepth 20000 in
theorem gX5_isAcross_X5_axisOf : GoodIn wsX5_isAcross (va_wsS RX5 35 yX5_axisOf wsX5_axisOf) := goodIn_app (goodIn_of _ (by decide +kernel)) ggX5_isAcross_X5_axisOf
theorem dX5_isAcross_0 : decode cX5_isAcross 0 = .ok (.iload_n 2, 1) := by decide +kernel
theorem dX5_isAcross_1 : decode cX5_isAcross 1 = .ok (.invokestatic 35, 3) := by decide +kernel
theorem dX5_isAcross_4 : decode cX5_isAcross 4 = .ok (.aload_n 0, 1) := by decide +kernel
theorem dX5_isAcross_5 : decode cX5_isAcross 5 = .ok (.getfield 9, 3) := by decide +kernel
theorem dX5_isAcross_8 : decode cX5_isAcross 8 = .ok (.iload_n 1, 1) := by decide +kernel
theorem dX5_isAcross_9 : decode cX5_isAcross 9 = .ok (.iaload, 1) := by decide +kernel
theorem dX5_isAcross_10 : decode cX5_isAcross 10 = .ok (.invokestatic 35, 3) := by decide +kernel
theorem dX5_isAcross_13 : decode cX5_isAcross 13 = .ok (.if_icmp .eq 7, 3) := by decide +kernel
theorem dX5_isAcross_16 : decode cX5_isAcross 16 = .ok (.iconst 1, 1) := by decide +kernel
theorem dX5_isAcross_17 : decode cX5_isAcross 17 = .ok (.goto 4, 3) := by decide +kernel
theorem dX5_isAcross_20 : decode cX5_isAcross 20 = .ok (.iconst 0, 1) := by decide +kernel
theorem dX5_isAcross_21 : decode cX5_isAcross 21 = .ok (.ireturn, 1) := by decide +kernel
theorem dX5_append_0 : decode cX5_append 0 = .ok (.aload_n 0, 1) := by decide +kernel
theorem dX5_append_1 : decode cX5_append 1 = .ok (.getfield 9, 3) := by decide +kernel
theorem dX5_append_4 : decode cX5_append 4 = .ok (.aload_n 0, 1) := by decide +kernel
theorem dX5_append_5 : decode cX5_append 5 = .ok (.getfield 24, 3) := by decide +kernel
theorem dX5_append_8 : decode cX5_append 8 = .ok (.iload_n 1, 1) := by decide +kernel
theorem dX5_append_9 : decode cX5_append 9 = .ok (.iastore, 1) := by decide +kernel
theorem dX5_append_10 : decode cX5_append 10 = .ok (.aload_n 0, 1) := by decide +kernel
theorem dX5_append_11 : decode cX5_append 11 = .ok (.getfield 15, 3) := by decide +kernel
theorem dX5_append_14 : decode cX5_append 14 = .ok (.aload_n 0, 1) := by decide +kernel
theorem dX5_append_15 : decode cX5_append 15 = .ok (.getfield 24, 3) := by decide +kernel
theorem dX5_append_18 : decode cX5_append 18 = .ok (.iload_n 2, 1) := by decide +kernel
theorem dX5_append_19 : decode cX5_append 19 = .ok (.iastore, 1) := by decide +kernel
theorem dX5_append_20 : decode cX5_append 20 = .ok (.aload_n 0, 1) := by decide +kernel
theorem dX5_append_21 : decode cX5_append 21 = .ok (.getfield 18, 3) := by decide +kernel
theorem dX5_append_24 : decode cX5_append 24 = .ok (.aload_n 0, 1) := by decide +kernel
theorem dX5_append_25 : decode cX5_append 25 = .ok (.getfield 24, 3) := by decide +kernel
theorem dX5_append_28 : decode cX5_append 28 = .ok (.iload_n 3, 1) := by decide +kernel
theorem dX5_append_29 : decode cX5_append 29 = .ok (.iastore, 1) := by decide +kernel
theorem dX5_append_30 : decode cX5_append 30 = .ok (.aload_n 0, 1) := by decide +kernel
theorem dX5_append_31 : decode cX5_append 31 = .ok (.dup, 1) := by decide +kernel
theorem dX5_append_32 : decode cX5_append 32 = .ok (.getfield 24, 3) := by decide +kernel
theorem dX5_append_35 : decode cX5_append 35 = .ok (.iconst 1, 1) := by decide +kernel
theorem dX5_append_36 : decode cX5_append 36 = .ok (.iadd, 1) := by decide +kernel
theorem dX5_append_37 : decode cX5_append 37 = .ok (.putfield 24, 3) := by decide +kernel
theorem dX5_append_40 : decode cX5_append 40 = .ok (.aload_n 0, 1) := by decide +kernel
theorem dX5_append_41 : decode cX5_append 41 = .ok (.dup, 1) := by decide +kernel
theorem dX5_append_42 : decode cX5_append 42 = .ok (.getfield 28, 3) := by decide +kernel
theorem dX5_append_45 : decode cX5_append 45 = .ok (.iload_n 2, 1) := by decide +kernel
theorem dX5_append_46 : decode cX5_append 46 = .ok (.iadd, 1) := by decide +kernel
theorem dX5_append_47 : decode cX5_append 47 = .ok (.putfield 28, 3) := by decide +kernel
theorem dX5_append_50 : decode cX5_append 50 = .ok (.return_, 1) := by decide +kernel
theorem dX5_removeLast_0 : decode cX5_removeLast 0 = .ok (.aload_n 0, 1) := by decide +kernel
theorem dX5_removeLast_1 : decode cX5_removeLast 1 = .ok (.dup, 1) := by decide +kernel
theorem dX5_removeLast_2 : decode cX5_removeLast 2 = .ok (.getfield 24, 3) := by decide +kernel
theorem dX5_removeLast_5 : decode cX5_removeLast 5 = .ok (.iconst 1, 1) := by decide +kernel
theorem dX5_removeLast_6 : decode cX5_removeLast 6 = .ok (.isub, 1) := by decide +kernel
theorem dX5_removeLast_7 : decode cX5_removeLast 7 = .ok (.putfield 24, 3) := by decide +kernel
theorem dX5_removeLast_10 : decode cX5_removeLast 10 = .ok (.aload_n 0, 1) := by decide +kernel
theorem dX5_removeLast_11 : decode cX5_removeLast 11 = .ok (.dup, 1) := by decide +kernel
theorem dX5_removeLast_12 : decode cX5_removeLast 12 = .ok (.getfield 28, 3) := by decide +kernel
theorem dX5_removeLast_15 : decode cX5_removeLast 15 = .ok (.aload_n 0, 1) := by decide +kernel
theorem dX5_removeLast_16 : decode cX5_removeLast 16 = .ok (.getfield 15, 3) := by decide +kernel
theorem dX5_removeLast_19 : decode cX5_removeLast 19 = .ok (.aload_n 0, 1) := by decide +kernel
theorem dX5_removeLast_20 : decode cX5_removeLast 20 = .ok (.getfield 24, 3) := by decide +kernel
theorem dX5_removeLast_23 : decode cX5_removeLast 23 = .ok (.iaload, 1) := by decide +kernel
theorem dX5_removeLast_24 : decode cX5_removeLast 24 = .ok (.isub, 1) := by decide +kernel
theorem dX5_removeLast_25 : decode cX5_removeLast 25 = .ok (.putfield 28, 3) := by decide +kernel
theorem dX5_removeLast_28 : decode cX5_removeLast 28 = .ok (.return_, 1) := by decide +kernel
set_option maxRecDepth 20000 in
theorem ggX5_position_X5_axisOf : GoodIn wsX5_position wsX5_axisOf := goodIn_r _ [7] (by decide +kernel) (by decide +kernel)
set_option maxRecDepth 20000 in
theorem gX5_position_X5_axisOf : GoodIn wsX5_position (va_wsS RX5 35 yX5_axisOf wsX5_axisOf) := goodIn_app (goodIn_of _ (by decide +kernel)) ggX5_position_X5_axisOf
set_option maxRecDepth 20000 in
theorem ggX5_position_X5_signOf : GoodIn wsX5_position wsX5_signOf := goodIn_r _ [10] (by decide +kernel) (by decide +kernel)
set_option maxRecDepth 20000 in
theorem gX5_position_X5_signOf : GoodIn wsX5_position (va_wsS RX5 39 yX5_signOf wsX5_signOf) := goodIn_app (goodIn_of _ (by decide +kernel)) ggX5_position_X5_signOf
set_option maxRecDepth 20000 in
theorem ggX5_position_X5_unitsBetween : GoodIn wsX5_position wsX5_unitsBetween := goodIn_r _ [14, 3, 15, 16, 17, 18, 19, 20, 21, 22, 23, 24, 25, 26, 27, 28] (by decide +kernel) (by decide +kernel)
set_option maxRecDepth 20000 in
theorem gX5_position_X5_unitsBetween : GoodIn wsX5_position (wsV RX5 42 RX5 yX5_unitsBetween wsX5_unitsBetween) := goodIn_app (goodIn_of _ (by decide +kernel)) ggX5_position_X5_unitsBetween
theorem dX5_position_0 : decode cX5_position 0 = .ok (.iconst 0, 1) := by decide +kernel
theorem dX5_position_1 : decode cX5_position 1 = .ok (.istore_n 3, 1) := by decide +kernel
theorem dX5_position_2 : decode cX5_position 2 = .ok (.iconst 0, 1) := by decide +kernel
theorem dX5_position_3 : decode cX5_position 3 = .ok (.istore 4, 2) := by decide +kernel
theorem dX5_position_5 : decode cX5_position 5 = .ok (.iconst 0, 1) := by decide +kernel
theorem dX5_position_6 : decode cX5_position 6 = .ok (.istore 5, 2) := by decide +kernel
theorem dX5_position_8 : decode cX5_position 8 = .ok (.iload 5, 2) := by decide +kernel
theorem dX5_position_10 : decode cX5_position 10 = .ok (.aload_n 0, 1) := by decide +kernel
theorem dX5_position_11 : decode cX5_position 11 = .ok (.getfield 24, 3) := by decide +kernel
theorem dX5_position_14 : decode cX5_position 14 = .ok (.if_icmp .ge 59, 3) := by decide +kernel
theorem dX5_position_17 : decode cX5_position 17 = .ok (.aload_n 0, 1) := by decide +kernel
theorem dX5_position_18 : decode cX5_position 18 = .ok (.getfield 9, 3) := by decide +kernel
theorem dX5_position_21 : decode cX5_position 21 = .ok (.iload 5, 2) := by decide +kernel
theorem dX5_position_23 : decode cX5_position 23 = .ok (.iaload, 1) := by decide +kernel
theorem dX5_position_24 : decode cX5_position 24 = .ok (.invokestatic 35, 3) := by decide +kernel
theorem dX5_position_27 : decode cX5_position 27 = .ok (.iload_n 2, 1) := by decide +kernel
theorem dX5_position_28 : decode cX5_position 28 = .ok (.if_icmp .ne 27, 3) := by decide +kernel
theorem dX5_position_31 : decode cX5_position 31 = .ok (.iload_n 3, 1) := by decide +kernel
theorem dX5_position_32 : decode cX5_position 32 = .ok (.aload_n 0, 1) := by decide +kernel
theorem dX5_position_33 : decode cX5_position 33 = .ok (.getfield 9, 3) := by decide +kernel
theorem dX5_position_36 : decode cX5_position 36 = .ok (.iload 5, 2) := by decide +kernel
theorem dX5_position_38 : decode cX5_position 38 = .ok (.iaload, 1) := by decide +kernel
theorem dX5_position_39 : decode cX5_position 39 = .ok (.invokestatic 39, 3) := by decide +kernel
theorem dX5_position_42 : decode cX5_position 42 = .ok (.aload_n 0, 1) := by decide +kernel
theorem dX5_position_43 : decode cX5_position 43 = .ok (.iload 5, 2) := by decide +kernel
theorem dX5_position_45 : decode cX5_position 45 = .ok (.iload 4, 2) := by decide +kernel
theorem dX5_position_47 : decode cX5_position 47 = .ok (.iconst 0, 1) := by decide +kernel
theorem dX5_position_48 : decode cX5_position 48 = .ok (.iload_n 1, 1) := by decide +kernel
theorem dX5_position_49 : decode cX5_position 49 = .ok (.invokevirtual 42, 3) := by decide +kernel
theorem dX5_position_52 : decode cX5_position 52 = .ok (.imul, 1) := by decide +kernel
theorem dX5_position_53 : decode cX5_position 53 = .ok (.iadd, 1) := by decide +kernel
theorem dX5_position_54 : decode cX5_position 54 = .ok (.istore_n 3, 1) := by decide +kernel
theorem dX5_position_55 : decode cX5_position 55 = .ok (.iload 4, 2) := by decide +kernel
theorem dX5_position_57 : decode cX5_position 57 = .ok (.aload_n 0, 1) := by decide +kernel
theorem dX5_position_58 : decode cX5_position 58 = .ok (.getfield 15, 3) := by decide +kernel
theorem dX5_position_61 : decode cX5_position 61 = .ok (.iload 5, 2) := by decide +kernel
theorem dX5_position_63 : decode cX5_position 63 = .ok (.iaload, 1) := by decide +kernel
theorem dX5_position_64 : decode cX5_position 64 = .ok (.iadd, 1) := by decide +kernel
theorem dX5_position_65 : decode cX5_position 65 = .ok (.istore 4, 2) := by decide +kernel
theorem dX5_position_67 : decode cX5_position 67 = .ok (.iinc 5 1, 3) := by decide +kernel
theorem dX5_position_70 : decode cX5_position 70 = .ok (.goto (-62), 3) := by decide +kernel
theorem dX5_position_73 : decode cX5_position 73 = .ok (.iload_n 3, 1) := by decide +kernel
theorem dX5_position_74 : decode cX5_position 74 = .ok (.ireturn, 1) := by decide +kernel
set_option maxRecDepth 20000 in
theorem ggX5_growth_X5_axisOf : GoodIn wsX5_growth wsX5_axisOf := goodIn_r _ [9] (by decide +kernel) (by decide +kernel)
set_option maxRecDepth 20000 in
theorem gX5_growth_X5_axisOf : GoodIn wsX5_growth (va_wsS RX5 35 yX5_axisOf wsX5_axisOf) := goodIn_app (goodIn_of _ (by decide +kernel)) ggX5_growth_X5_axisOf
set_option maxRecDepth 20000 in
theorem ggX5_growth_X5_signOf : GoodIn wsX5_growth wsX5_signOf := goodIn_r _ [12] (by decide +kernel) (by decide +kernel)
set_option maxRecDepth 20000 in
theorem gX5_growth_X5_signOf : GoodIn wsX5_growth (va_wsS RX5 39 yX5_signOf wsX5_signOf) := goodIn_app (goodIn_of _ (by decide +kernel)) ggX5_growth_X5_signOf
set_option maxRecDepth 20000 in
theorem ggX5_growth_X6_growthAt : GoodIn wsX5_growth wsX6_growthAt := goodIn_r _ [17, 18, 19, 38, 39, 40] (by decide +kernel) (by decide +kernel)
set_option maxRecDepth 20000 in
theorem gX5_growth_X6_growthAt : GoodIn wsX5_growth (wsV RX5 46 RX6 yX6_growthAt wsX6_growthAt) := goodIn_app (goodIn_of _ (by decide +kernel)) ggX5_growth_X6_growthAt
set_option maxRecDepth 20000 in
theorem ggX5_growth_X5_unitsBetween : GoodIn wsX5_growth wsX5_unitsBetween := goodIn_r _ [23, 5, 24, 25, 26, 27, 28, 29, 30, 31, 32, 33, 34, 35, 36, 37] (by decide +kernel) (by decide +kernel)
set_option maxRecDepth 20000 in
theorem gX5_growth_X5_unitsBetween : GoodIn wsX5_growth (wsV RX5 42 RX5 yX5_unitsBetween wsX5_unitsBetween) := goodIn_app (goodIn_of _ (by decide +kernel)) ggX5_growth_X5_unitsBetween
theorem dX5_growth_0 : decode cX5_growth 0 = .ok (.iconst 0, 1) := by decide +kernel
theorem dX5_growth_1 : decode cX5_growth 1 = .ok (.istore 4, 2) := by decide +kernel
theorem dX5_growth_3 : decode cX5_growth 3 = .ok (.iconst 0, 1) := by decide +kernel
theorem dX5_growth_4 : decode cX5_growth 4 = .ok (.istore 5, 2) := by decide +kernel
theorem dX5_growth_6 : decode cX5_growth 6 = .ok (.iconst 0, 1) := by decide +kernel
theorem dX5_growth_7 : decode cX5_growth 7 = .ok (.istore 6, 2) := by decide +kernel
theorem dX5_growth_9 : decode cX5_growth 9 = .ok (.iload 6, 2) := by decide +kernel
theorem dX5_growth_11 : decode cX5_growth 11 = .ok (.aload_n 0, 1) := by decide +kernel
theorem dX5_growth_12 : decode cX5_growth 12 = .ok (.getfield 24, 3) := by decide +kernel
theorem dX5_growth_15 : decode cX5_growth 15 = .ok (.if_icmp .ge 81, 3) := by decide +kernel
theorem dX5_growth_18 : decode cX5_growth 18 = .ok (.aload_n 0, 1) := by decide +kernel
theorem dX5_growth_19 : decode cX5_growth 19 = .ok (.getfield 9, 3) := by decide +kernel
theorem dX5_growth_22 : decode cX5_growth 22 = .ok (.iload 6, 2) := by decide +kernel
theorem dX5_growth_24 : decode cX5_growth 24 = .ok (.iaload, 1) := by decide +kernel
theorem dX5_growth_25 : decode cX5_growth 25 = .ok (.invokestatic 35, 3) := by decide +kernel
theorem dX5_growth_28 : decode cX5_growth 28 = .ok (.iload_n 3, 1) := by decide +kernel
theorem dX5_growth_29 : decode cX5_growth 29 = .ok (.if_icmp .ne 49, 3) := by decide +kernel
theorem dX5_growth_32 : decode cX5_growth 32 = .ok (.aload_n 0, 1) := by decide +kernel
theorem dX5_growth_33 : decode cX5_growth 33 = .ok (.getfield 9, 3) := by decide +kernel
theorem dX5_growth_36 : decode cX5_growth 36 = .ok (.iload 6, 2) := by decide +kernel
theorem dX5_growth_38 : decode cX5_growth 38 = .ok (.iaload, 1) := by decide +kernel
theorem dX5_growth_39 : decode cX5_growth 39 = .ok (.invokestatic 39, 3) := by decide +kernel
theorem dX5_growth_42 : decode cX5_growth 42 = .ok (.aload_n 0, 1) := by decide +kernel
theorem dX5_growth_43 : decode cX5_growth 43 = .ok (.getfield 31, 3) := by decide +kernel
theorem dX5_growth_46 : decode cX5_growth 46 = .ok (.aload_n 0, 1) := by decide +kernel
theorem dX5_growth_47 : decode cX5_growth 47 = .ok (.getfield 18, 3) := by decide +kernel
theorem dX5_growth_50 : decode cX5_growth 50 = .ok (.iload 6, 2) := by decide +kernel
theorem dX5_growth_52 : decode cX5_growth 52 = .ok (.iaload, 1) := by decide +kernel
theorem dX5_growth_53 : decode cX5_growth 53 = .ok (.iload_n 2, 1) := by decide +kernel
theorem dX5_growth_54 : decode cX5_growth 54 = .ok (.invokevirtual 46, 3) := by decide +kernel
theorem dX5_growth_57 : decode cX5_growth 57 = .ok (.imul, 1) := by decide +kernel
theorem dX5_growth_58 : decode cX5_growth 58 = .ok (.istore 7, 2) := by decide +kernel
theorem dX5_growth_60 : decode cX5_growth 60 = .ok (.iload 4, 2) := by decide +kernel
theorem dX5_growth_62 : decode cX5_growth 62 = .ok (.iload 7, 2) := by decide +kernel
theorem dX5_growth_64 : decode cX5_growth 64 = .ok (.aload_n 0, 1) := by decide +kernel
theorem dX5_growth_65 : decode cX5_growth 65 = .ok (.iload 6, 2) := by decide +kernel
theorem dX5_growth_67 : decode cX5_growth 67 = .ok (.iload 5, 2) := by decide +kernel
theorem dX5_growth_69 : decode cX5_growth 69 = .ok (.iconst 0, 1) := by decide +kernel
theorem dX5_growth_70 : decode cX5_growth 70 = .ok (.iload_n 1, 1) := by decide +kernel
theorem dX5_growth_71 : decode cX5_growth 71 = .ok (.invokevirtual 42, 3) := by decide +kernel
theorem dX5_growth_74 : decode cX5_growth 74 = .ok (.imul, 1) := by decide +kernel
theorem dX5_growth_75 : decode cX5_growth 75 = .ok (.iadd, 1) := by decide +kernel
theorem dX5_growth_76 : decode cX5_growth 76 = .ok (.istore 4, 2) := by decide +kernel
theorem dX5_growth_78 : decode cX5_growth 78 = .ok (.iload 5, 2) := by decide +kernel
theorem dX5_growth_80 : decode cX5_growth 80 = .ok (.aload_n 0, 1) := by decide +kernel
theorem dX5_growth_81 : decode cX5_growth 81 = .ok (.getfield 15, 3) := by decide +kernel
theorem dX5_growth_84 : decode cX5_growth 84 = .ok (.iload 6, 2) := by decide +kernel
theorem dX5_growth_86 : decode cX5_growth 86 = .ok (.iaload, 1) := by decide +kernel
theorem dX5_growth_87 : decode cX5_growth 87 = .ok (.iadd, 1) := by decide +kernel
theorem dX5_growth_88 : decode cX5_growth 88 = .ok (.istore 5, 2) := by decide +kernel
theorem dX5_growth_90 : decode cX5_growth 90 = .ok (.iinc 6 1, 3) := by decide +kernel
theorem dX5_growth_93 : decode cX5_growth 93 = .ok (.goto (-84), 3) := by decide +kernel
theorem dX5_growth_96 : decode cX5_growth 96 = .ok (.iload 4, 2) := by decide +kernel
theorem dX5_growth_98 : decode cX5_growth 98 = .ok (.ireturn, 1) := by decide +kernel
set_option maxRecDepth 20000 in
theorem ggX5_weight_X6_weightOf : GoodIn wsX5_weight wsX6_weightOf := goodIn_r _ [9, 10, 30, 31, 32] (by decide +kernel) (by decide +kernel)
set_option maxRecDepth 20000 in
theorem gX5_weight_X6_weightOf : GoodIn wsX5_weight (wsV RX5 52 RX6 yX6_weightOf wsX6_weightOf) := goodIn_app (goodIn_of _ (by decide +kernel)) ggX5_weight_X6_weightOf
set_option maxRecDepth 20000 in
theorem ggX5_weight_X5_unitsBetween : GoodIn wsX5_weight wsX5_unitsBetween := goodIn_r _ [15, 4, 16, 17, 18, 19, 20, 21, 22, 23, 24, 25, 26, 27, 28, 29] (by decide +kernel) (by decide +kernel)
set_option maxRecDepth 20000 in
theorem gX5_weight_X5_unitsBetween : GoodIn wsX5_weight (wsV RX5 42 RX5 yX5_unitsBetween wsX5_unitsBetween) := goodIn_app (goodIn_of _ (by decide +kernel)) ggX5_weight_X5_unitsBetween
theorem dX5_weight_0 : decode cX5_weight 0 = .ok (.iconst 0, 1) := by decide +kernel
theorem dX5_weight_1 : decode cX5_weight 1 = .ok (.istore_n 3, 1) := by decide +kernel
theorem dX5_weight_2 : decode cX5_weight 2 = .ok (.iconst 0, 1) := by decide +kernel
theorem dX5_weight_3 : decode cX5_weight 3 = .ok (.istore 4, 2) := by decide +kernel
theorem dX5_weight_5 : decode cX5_weight 5 = .ok (.iconst 0, 1) := by decide +kernel
theorem dX5_weight_6 : decode cX5_weight 6 = .ok (.istore 5, 2) := by decide +kernel
theorem dX5_weight_8 : decode cX5_weight 8 = .ok (.iload 5, 2) := by decide +kernel
theorem dX5_weight_10 : decode cX5_weight 10 = .ok (.aload_n 0, 1) := by decide +kernel
theorem dX5_weight_11 : decode cX5_weight 11 = .ok (.getfield 24, 3) := by decide +kernel
theorem dX5_weight_14 : decode cX5_weight 14 = .ok (.if_icmp .ge 49, 3) := by decide +kernel
theorem dX5_weight_17 : decode cX5_weight 17 = .ok (.iload_n 3, 1) := by decide +kernel
theorem dX5_weight_18 : decode cX5_weight 18 = .ok (.aload_n 0, 1) := by decide +kernel
theorem dX5_weight_19 : decode cX5_weight 19 = .ok (.getfield 31, 3) := by decide +kernel
theorem dX5_weight_22 : decode cX5_weight 22 = .ok (.aload_n 0, 1) := by decide +kernel
theorem dX5_weight_23 : decode cX5_weight 23 = .ok (.getfield 18, 3) := by decide +kernel
theorem dX5_weight_26 : decode cX5_weight 26 = .ok (.iload 5, 2) := by decide +kernel
theorem dX5_weight_28 : decode cX5_weight 28 = .ok (.iaload, 1) := by decide +kernel
theorem dX5_weight_29 : decode cX5_weight 29 = .ok (.invokevirtual 52, 3) := by decide +kernel
theorem dX5_weight_32 : decode cX5_weight 32 = .ok (.aload_n 0, 1) := by decide +kernel
theorem dX5_weight_33 : decode cX5_weight 33 = .ok (.iload 5, 2) := by decide +kernel
theorem dX5_weight_35 : decode cX5_weight 35 = .ok (.iload 4, 2) := by decide +kernel
theorem dX5_weight_37 : decode cX5_weight 37 = .ok (.iload_n 1, 1) := by decide +kernel
theorem dX5_weight_38 : decode cX5_weight 38 = .ok (.iload_n 2, 1) := by decide +kernel
theorem dX5_weight_39 : decode cX5_weight 39 = .ok (.invokevirtual 42, 3) := by decide +kernel
theorem dX5_weight_42 : decode cX5_weight 42 = .ok (.imul, 1) := by decide +kernel
theorem dX5_weight_43 : decode cX5_weight 43 = .ok (.iadd, 1) := by decide +kernel
theorem dX5_weight_44 : decode cX5_weight 44 = .ok (.istore_n 3, 1) := by decide +kernel
theorem dX5_weight_45 : decode cX5_weight 45 = .ok (.iload 4, 2) := by decide +kernel
theorem dX5_weight_47 : decode cX5_weight 47 = .ok (.aload_n 0, 1) := by decide +kernel
theorem dX5_weight_48 : decode cX5_weight 48 = .ok (.getfield 15, 3) := by decide +kernel
theorem dX5_weight_51 : decode cX5_weight 51 = .ok (.iload 5, 2) := by decide +kernel
theorem dX5_weight_53 : decode cX5_weight 53 = .ok (.iaload, 1) := by decide +kernel
theorem dX5_weight_54 : decode cX5_weight 54 = .ok (.iadd, 1) := by decide +kernel
theorem dX5_weight_55 : decode cX5_weight 55 = .ok (.istore 4, 2) := by decide +kernel
theorem dX5_weight_57 : decode cX5_weight 57 = .ok (.iinc 5 1, 3) := by decide +kernel
theorem dX5_weight_60 : decode cX5_weight 60 = .ok (.goto (-52), 3) := by decide +kernel
theorem dX5_weight_63 : decode cX5_weight 63 = .ok (.iload_n 3, 1) := by decide +kernel
theorem dX5_weight_64 : decode cX5_weight 64 = .ok (.ireturn, 1) := by decide +kernel
theorem dX5_unitsBetween_0 : decode cX5_unitsBetween 0 = .ok (.iconst 0, 1) := by decide +kernel
theorem dX5_unitsBetween_1 : decode cX5_unitsBetween 1 = .ok (.iload_n 2, 1) := by decide +kernel
theorem dX5_unitsBetween_2 : decode cX5_unitsBetween 2 = .ok (.aload_n 0, 1) := by decide +kernel
theorem dX5_unitsBetween_3 : decode cX5_unitsBetween 3 = .ok (.getfield 15, 3) := by decide +kernel
theorem dX5_unitsBetween_6 : decode cX5_unitsBetween 6 = .ok (.iload_n 1, 1) := by decide +kernel
theorem dX5_unitsBetween_7 : decode cX5_unitsBetween 7 = .ok (.iaload, 1) := by decide +kernel
theorem dX5_unitsBetween_8 : decode cX5_unitsBetween 8 = .ok (.iadd, 1) := by decide +kernel
theorem dX5_unitsBetween_9 : decode cX5_unitsBetween 9 = .ok (.iload 4, 2) := by decide +kernel
theorem dX5_unitsBetween_11 : decode cX5_unitsBetween 11 = .ok (.invokestatic 55, 3) := by decide +kernel
theorem dX5_unitsBetween_14 : decode cX5_unitsBetween 14 = .ok (.iload_n 2, 1) := by decide +kernel
theorem dX5_unitsBetween_15 : decode cX5_unitsBetween 15 = .ok (.iload_n 3, 1) := by decide +kernel
theorem dX5_unitsBetween_16 : decode cX5_unitsBetween 16 = .ok (.invokestatic 60, 3) := by decide +kernel
theorem dX5_unitsBetween_19 : decode cX5_unitsBetween 19 = .ok (.isub, 1) := by decide +kernel
theorem dX5_unitsBetween_20 : decode cX5_unitsBetween 20 = .ok (.invokestatic 60, 3) := by decide +kernel
theorem dX5_unitsBetween_23 : decode cX5_unitsBetween 23 = .ok (.ireturn, 1) := by decide +kernel
set_option maxRecDepth 20000 in
theorem ggX5_spare_X5_growth : GoodIn wsX5_spare wsX5_growth := goodIn_r _ [6, 7, 8, 9, 10, 11, 12, 13, 5, 14, 15, 16, 17, 18, 19, 20, 21, 22, 23, 24, 25, 26, 27, 28, 29, 30, 31, 32, 33, 34, 35, 43, 44, 45, 46, 47, 48, 49, 50, 51, 52] (by decide +kernel) (by decide +kernel)
set_option maxRecDepth 20000 in
theorem gX5_spare_X5_growth : GoodIn wsX5_spare (wsV RX5 63 RX5 yX5_growth wsX5_growth) := goodIn_app (goodIn_of _ (by decide +kernel)) ggX5_spare_X5_growth
set_option maxRecDepth 20000 in
theorem ggX5_spare_X5_position : GoodIn wsX5_spare wsX5_position := goodIn_r _ [39, 7, 8, 11, 12, 13, 5, 14, 15, 16, 17, 25, 26, 27, 28, 29, 30, 31, 32, 33, 34, 35, 43, 44, 45, 46, 47, 48, 49] (by decide +kernel) (by decide +kernel)
set_option maxRecDepth 20000 in
theorem gX5_spare_X5_position : GoodIn wsX5_spare (wsV RX5 67 RX5 yX5_position wsX5_position) := goodIn_app (goodIn_of _ (by decide +kernel)) ggX5_spare_X5_position
set_option maxRecDepth 20000 in
theorem ggX5_spare_X5_root : GoodIn wsX5_spare wsX5_root := goodIn_r _ [42] (by decide +kernel) (by decide +kernel)
set_option maxRecDepth 20000 in
theorem gX5_spare_X5_root : GoodIn wsX5_spare (va_wsS RX5 70 yX5_root wsX5_root) := goodIn_app (goodIn_of _ (by decide +kernel)) ggX5_spare_X5_root
theorem dX5_spare_0 : decode cX5_spare 0 = .ok (.lconst 0, 1) := by decide +kernel
theorem dX5_spare_1 : decode cX5_spare 1 = .ok (.lstore 4, 2) := by decide +kernel
theorem dX5_spare_3 : decode cX5_spare 3 = .ok (.lconst 0, 1) := by decide +kernel
theorem dX5_spare_4 : decode cX5_spare 4 = .ok (.lstore 6, 2) := by decide +kernel
theorem dX5_spare_6 : decode cX5_spare 6 = .ok (.iconst 0, 1) := by decide +kernel
theorem dX5_spare_7 : decode cX5_spare 7 = .ok (.istore 8, 2) := by decide +kernel
theorem dX5_spare_9 : decode cX5_spare 9 = .ok (.iload 8, 2) := by decide +kernel
theorem dX5_spare_11 : decode cX5_spare 11 = .ok (.iconst 3, 1) := by decide +kernel
theorem dX5_spare_12 : decode cX5_spare 12 = .ok (.if_icmp .ge 56, 3) := by decide +kernel
theorem dX5_spare_15 : decode cX5_spare 15 = .ok (.aload_n 0, 1) := by decide +kernel
theorem dX5_spare_16 : decode cX5_spare 16 = .ok (.aload_n 0, 1) := by decide +kernel
theorem dX5_spare_17 : decode cX5_spare 17 = .ok (.getfield 28, 3) := by decide +kernel
theorem dX5_spare_20 : decode cX5_spare 20 = .ok (.iload_n 1, 1) := by decide +kernel
theorem dX5_spare_21 : decode cX5_spare 21 = .ok (.iload 8, 2) := by decide +kernel
theorem dX5_spare_23 : decode cX5_spare 23 = .ok (.invokevirtual 63, 3) := by decide +kernel
theorem dX5_spare_26 : decode cX5_spare 26 = .ok (.i2l, 1) := by decide +kernel
theorem dX5_spare_27 : decode cX5_spare 27 = .ok (.lstore 9, 2) := by decide +kernel
theorem dX5_spare_29 : decode cX5_spare 29 = .ok (.aload_n 0, 1) := by decide +kernel
theorem dX5_spare_30 : decode cX5_spare 30 = .ok (.aload_n 0, 1) := by decide +kernel
theorem dX5_spare_31 : decode cX5_spare 31 = .ok (.getfield 28, 3) := by decide +kernel
theorem dX5_spare_34 : decode cX5_spare 34 = .ok (.iload 8, 2) := by decide +kernel
theorem dX5_spare_36 : decode cX5_spare 36 = .ok (.invokevirtual 67, 3) := by decide +kernel
theorem dX5_spare_39 : decode cX5_spare 39 = .ok (.i2l, 1) := by decide +kernel
theorem dX5_spare_40 : decode cX5_spare 40 = .ok (.lstore 11, 2) := by decide +kernel
theorem dX5_spare_42 : decode cX5_spare 42 = .ok (.lload 4, 2) := by decide +kernel
theorem dX5_spare_44 : decode cX5_spare 44 = .ok (.lload 9, 2) := by decide +kernel
theorem dX5_spare_46 : decode cX5_spare 46 = .ok (.lload 9, 2) := by decide +kernel
theorem dX5_spare_48 : decode cX5_spare 48 = .ok (.lmul, 1) := by decide +kernel
theorem dX5_spare_49 : decode cX5_spare 49 = .ok (.ladd, 1) := by decide +kernel
theorem dX5_spare_50 : decode cX5_spare 50 = .ok (.lstore 4, 2) := by decide +kernel
theorem dX5_spare_52 : decode cX5_spare 52 = .ok (.lload 6, 2) := by decide +kernel
theorem dX5_spare_54 : decode cX5_spare 54 = .ok (.lload 11, 2) := by decide +kernel
theorem dX5_spare_56 : decode cX5_spare 56 = .ok (.lload 11, 2) := by decide +kernel
theorem dX5_spare_58 : decode cX5_spare 58 = .ok (.lmul, 1) := by decide +kernel
theorem dX5_spare_59 : decode cX5_spare 59 = .ok (.ladd, 1) := by decide +kernel
theorem dX5_spare_60 : decode cX5_spare 60 = .ok (.lstore 6, 2) := by decide +kernel
theorem dX5_spare_62 : decode cX5_spare 62 = .ok (.iinc 8 1, 3) := by decide +kernel
theorem dX5_spare_65 : decode cX5_spare 65 = .ok (.goto (-56), 3) := by decide +kernel
theorem dX5_spare_68 : decode cX5_spare 68 = .ok (.aload_n 0, 1) := by decide +kernel
theorem dX5_spare_69 : decode cX5_spare 69 = .ok (.getfield 28, 3) := by decide +kernel
theorem dX5_spare_72 : decode cX5_spare 72 = .ok (.iload_n 3, 1) := by decide +kernel
theorem dX5_spare_73 : decode cX5_spare 73 = .ok (.iadd, 1) := by decide +kernel
theorem dX5_spare_74 : decode cX5_spare 74 = .ok (.lload 6, 2) := by decide +kernel
theorem dX5_spare_76 : decode cX5_spare 76 = .ok (.invokestatic 70, 3) := by decide +kernel
theorem dX5_spare_79 : decode cX5_spare 79 = .ok (.isub, 1) := by decide +kernel
theorem dX5_spare_80 : decode cX5_spare 80 = .ok (.istore 8, 2) := by decide +kernel
theorem dX5_spare_82 : decode cX5_spare 82 = .ok (.bipush 30, 2) := by decide +kernel
theorem dX5_spare_84 : decode cX5_spare 84 = .ok (.iload 8, 2) := by decide +kernel
theorem dX5_spare_86 : decode cX5_spare 86 = .ok (.imul, 1) := by decide +kernel
theorem dX5_spare_87 : decode cX5_spare 87 = .ok (.iload 8, 2) := by decide +kernel
theorem dX5_spare_89 : decode cX5_spare 89 = .ok (.imul, 1) := by decide +kernel
theorem dX5_spare_90 : decode cX5_spare 90 = .ok (.iload_n 2, 1) := by decide +kernel
theorem dX5_spare_91 : decode cX5_spare 91 = .ok (.lload 4, 2) := by decide +kernel
theorem dX5_spare_93 : decode cX5_spare 93 = .ok (.invokestatic 70, 3) := by decide +kernel
theorem dX5_spare_96 : decode cX5_spare 96 = .ok (.imul, 1) := by decide +kernel
theorem dX5_spare_97 : decode cX5_spare 97 = .ok (.isub, 1) := by decide +kernel
theorem dX5_spare_98 : decode cX5_spare 98 = .ok (.ireturn, 1) := by decide +kernel
set_option maxRecDepth 20000 in
theorem ggX5_firstSoft_X5_spare : GoodIn wsX5_firstSoft wsX5_spare := goodIn_r _ [5, 6, 7, 8, 9, 4, 10, 11, 12, 13, 14, 15, 16, 17, 18, 19, 20, 21, 22, 23, 24, 25, 26, 27, 28, 29, 30, 31, 32, 33, 34, 35, 36, 37, 38, 39, 40, 41, 42, 43, 44, 45, 46, 47, 48, 49, 50, 51, 52, 53, 54, 55, 56] (by decide +kernel) (by decide +kernel)
set_option maxRecDepth 20000 in
theorem gX5_firstSoft_X5_spare : GoodIn wsX5_firstSoft (wsV RX5 74 RX5 yX5_spare wsX5_spare) := goodIn_app (goodIn_of _ (by decide +kernel)) ggX5_firstSoft_X5_spare
theorem dX5_firstSoft_0 : decode cX5_firstSoft 0 = .ok (.iconst 1, 1) := by decide +kernel
theorem dX5_firstSoft_1 : decode cX5_firstSoft 1 = .ok (.istore_n 3, 1) := by decide +kernel
theorem dX5_firstSoft_2 : decode cX5_firstSoft 2 = .ok (.iload_n 3, 1) := by decide +kernel
theorem dX5_firstSoft_3 : decode cX5_firstSoft 3 = .ok (.bipush 20, 2) := by decide +kernel
theorem dX5_firstSoft_5 : decode cX5_firstSoft 5 = .ok (.if_icmp .gt 23, 3) := by decide +kernel
theorem dX5_firstSoft_8 : decode cX5_firstSoft 8 = .ok (.aload_n 0, 1) := by decide +kernel
theorem dX5_firstSoft_9 : decode cX5_firstSoft 9 = .ok (.iload_n 1, 1) := by decide +kernel
theorem dX5_firstSoft_10 : decode cX5_firstSoft 10 = .ok (.iload_n 2, 1) := by decide +kernel
theorem dX5_firstSoft_11 : decode cX5_firstSoft 11 = .ok (.iconst 2, 1) := by decide +kernel
theorem dX5_firstSoft_12 : decode cX5_firstSoft 12 = .ok (.iload_n 3, 1) := by decide +kernel
theorem dX5_firstSoft_13 : decode cX5_firstSoft 13 = .ok (.imul, 1) := by decide +kernel
theorem dX5_firstSoft_14 : decode cX5_firstSoft 14 = .ok (.invokevirtual 74, 3) := by decide +kernel
theorem dX5_firstSoft_17 : decode cX5_firstSoft 17 = .ok (.ifCond .lt 5, 3) := by decide +kernel
theorem dX5_firstSoft_20 : decode cX5_firstSoft 20 = .ok (.iload_n 3, 1) := by decide +kernel
theorem dX5_firstSoft_21 : decode cX5_firstSoft 21 = .ok (.ireturn, 1) := by decide +kernel
theorem dX5_firstSoft_22 : decode cX5_firstSoft 22 = .ok (.iinc 3 1, 3) := by decide +kernel
theorem dX5_firstSoft_25 : decode cX5_firstSoft 25 = .ok (.goto (-23), 3) := by decide +kernel
theorem dX5_firstSoft_28 : decode cX5_firstSoft 28 = .ok (.bipush 21, 2) := by decide +kernel
theorem dX5_firstSoft_30 : decode cX5_firstSoft 30 = .ok (.ireturn, 1) := by decide +kernel
set_option maxRecDepth 20000 in
theorem ggX5_leastLoop_X5_isAcross : GoodIn wsX5_leastLoop wsX5_isAcross := goodIn_r _ [6, 7, 8, 9, 5, 10, 43, 44, 45, 46, 47, 48, 49] (by decide +kernel) (by decide +kernel)
set_option maxRecDepth 20000 in
theorem gX5_leastLoop_X5_isAcross : GoodIn wsX5_leastLoop (wsV RX5 77 RX5 yX5_isAcross wsX5_isAcross) := goodIn_app (goodIn_of _ (by decide +kernel)) ggX5_leastLoop_X5_isAcross
set_option maxRecDepth 20000 in
theorem ggX5_leastLoop_X5_loopsThatMeet : GoodIn wsX5_leastLoop wsX5_loopsThatMeet := goodIn_r _ [14, 15, 7, 1, 16, 17, 18, 19, 5, 20, 21, 22, 23, 24, 8, 9, 10, 25, 26, 27, 28, 29, 30, 31, 32, 33, 34, 35, 36, 37, 38, 39, 40, 41, 42, 43, 44, 45, 46, 47, 48, 49] (by decide +kernel) (by decide +kernel)
set_option maxRecDepth 20000 in
theorem gX5_leastLoop_X5_loopsThatMeet : GoodIn wsX5_leastLoop (wsV RX5 81 RX5 yX5_loopsThatMeet wsX5_loopsThatMeet) := goodIn_app (goodIn_of _ (by decide +kernel)) ggX5_leastLoop_X5_loopsThatMeet
theorem dX5_leastLoop_0 : decode cX5_leastLoop 0 = .ok (.aload_n 0, 1) := by decide +kernel
theorem dX5_leastLoop_1 : decode cX5_leastLoop 1 = .ok (.getfield 15, 3) := by decide +kernel
theorem dX5_leastLoop_4 : decode cX5_leastLoop 4 = .ok (.iload_n 1, 1) := by decide +kernel
theorem dX5_leastLoop_5 : decode cX5_leastLoop 5 = .ok (.iaload, 1) := by decide +kernel
theorem dX5_leastLoop_6 : decode cX5_leastLoop 6 = .ok (.iconst 3, 1) := by decide +kernel
theorem dX5_leastLoop_7 : decode cX5_leastLoop 7 = .ok (.if_icmp .lt 18, 3) := by decide +kernel
theorem dX5_leastLoop_10 : decode cX5_leastLoop 10 = .ok (.aload_n 0, 1) := by decide +kernel
theorem dX5_leastLoop_11 : decode cX5_leastLoop 11 = .ok (.iload_n 1, 1) := by decide +kernel
theorem dX5_leastLoop_12 : decode cX5_leastLoop 12 = .ok (.iload_n 2, 1) := by decide +kernel
theorem dX5_leastLoop_13 : decode cX5_leastLoop 13 = .ok (.invokevirtual 77, 3) := by decide +kernel
theorem dX5_leastLoop_16 : decode cX5_leastLoop 16 = .ok (.ifCond .eq 9, 3) := by decide +kernel
theorem dX5_leastLoop_19 : decode cX5_leastLoop 19 = .ok (.iload_n 3, 1) := by decide +kernel
theorem dX5_leastLoop_20 : decode cX5_leastLoop 20 = .ok (.bipush 20, 2) := by decide +kernel
theorem dX5_leastLoop_22 : decode cX5_leastLoop 22 = .ok (.if_icmp .le 6, 3) := by decide +kernel
theorem dX5_leastLoop_25 : decode cX5_leastLoop 25 = .ok (.bipush (-9), 2) := by decide +kernel
theorem dX5_leastLoop_27 : decode cX5_leastLoop 27 = .ok (.ireturn, 1) := by decide +kernel
theorem dX5_leastLoop_28 : decode cX5_leastLoop 28 = .ok (.aload_n 0, 1) := by decide +kernel
theorem dX5_leastLoop_29 : decode cX5_leastLoop 29 = .ok (.iload_n 1, 1) := by decide +kernel
theorem dX5_leastLoop_30 : decode cX5_leastLoop 30 = .ok (.iload_n 2, 1) := by decide +kernel
theorem dX5_leastLoop_31 : decode cX5_leastLoop 31 = .ok (.invokevirtual 81, 3) := by decide +kernel
theorem dX5_leastLoop_34 : decode cX5_leastLoop 34 = .ok (.istore 4, 2) := by decide +kernel
theorem dX5_leastLoop_36 : decode cX5_leastLoop 36 = .ok (.iload_n 3, 1) := by decide +kernel
theorem dX5_leastLoop_37 : decode cX5_leastLoop 37 = .ok (.istore 5, 2) := by decide +kernel
theorem dX5_leastLoop_39 : decode cX5_leastLoop 39 = .ok (.iload 5, 2) := by decide +kernel
theorem dX5_leastLoop_41 : decode cX5_leastLoop 41 = .ok (.bipush 20, 2) := by decide +kernel
theorem dX5_leastLoop_43 : decode cX5_leastLoop 43 = .ok (.if_icmp .gt 22, 3) := by decide +kernel
theorem dX5_leastLoop_46 : decode cX5_leastLoop 46 = .ok (.iload 4, 2) := by decide +kernel
theorem dX5_leastLoop_48 : decode cX5_leastLoop 48 = .ok (.iconst 1, 1) := by decide +kernel
theorem dX5_leastLoop_49 : decode cX5_leastLoop 49 = .ok (.iload 5, 2) := by decide +kernel
theorem dX5_leastLoop_51 : decode cX5_leastLoop 51 = .ok (.ishl, 1) := by decide +kernel
theorem dX5_leastLoop_52 : decode cX5_leastLoop 52 = .ok (.iand, 1) := by decide +kernel
theorem dX5_leastLoop_53 : decode cX5_leastLoop 53 = .ok (.ifCond .ne 6, 3) := by decide +kernel
theorem dX5_leastLoop_56 : decode cX5_leastLoop 56 = .ok (.iload 5, 2) := by decide +kernel
theorem dX5_leastLoop_58 : decode cX5_leastLoop 58 = .ok (.ireturn, 1) := by decide +kernel
theorem dX5_leastLoop_59 : decode cX5_leastLoop 59 = .ok (.iinc 5 1, 3) := by decide +kernel
theorem dX5_leastLoop_62 : decode cX5_leastLoop 62 = .ok (.goto (-23), 3) := by decide +kernel
theorem dX5_leastLoop_65 : decode cX5_leastLoop 65 = .ok (.bipush (-9), 2) := by decide +kernel
theorem dX5_leastLoop_67 : decode cX5_leastLoop 67 = .ok (.ireturn, 1) := by decide +kernel
set_option maxRecDepth 20000 in
theorem ggX5_loopsThatMeet_X5_startAtFoot : GoodIn wsX5_loopsThatMeet wsX5_startAtFoot := goodIn_r _ [9, 3, 4, 10, 11, 12, 8, 13, 1, 2, 14, 15, 16, 17, 18, 19, 20, 21, 22, 23, 24, 25, 26, 27, 28, 29, 30, 35, 36, 37, 38, 39, 40, 41] (by decide +kernel) (by decide +kernel)
set_option maxRecDepth 20000 in
theorem gX5_loopsThatMeet_X5_startAtFoot : GoodIn wsX5_loopsThatMeet (wsV RX5 84 RX5 yX5_startAtFoot wsX5_startAtFoot) := goodIn_app (goodIn_of _ (by decide +kernel)) ggX5_loopsThatMeet_X5_startAtFoot
set_option maxRecDepth 20000 in
theorem ggX5_loopsThatMeet_X5_loopsThatMeetPoint : GoodIn wsX5_loopsThatMeet wsX5_loopsThatMeetPoint := goodIn_r _ [34, 2, 3, 4, 14, 15, 8, 16, 17, 18, 19, 35, 36, 37, 38, 39, 40, 41] (by decide +kernel) (by decide +kernel)
set_option maxRecDepth 20000 in
theorem gX5_loopsThatMeet_X5_loopsThatMeetPoint : GoodIn wsX5_loopsThatMeet (wsV RX5 88 RX5 yX5_loopsThatMeetPoint wsX5_loopsThatMeetPoint) := goodIn_app (goodIn_of _ (by decide +kernel)) ggX5_loopsThatMeet_X5_loopsThatMeetPoint
set_option maxRecDepth 20000 in
theorem ggX5_loopsThatMeet_X5_axisOf : GoodIn wsX5_loopsThatMeet wsX5_axisOf := goodIn_r _ [16] (by decide +kernel) (by decide +kernel)
set_option maxRecDepth 20000 in
theorem gX5_loopsThatMeet_X5_axisOf : GoodIn wsX5_loopsThatMeet (va_wsS RX5 35 yX5_axisOf wsX5_axisOf) := goodIn_app (goodIn_of _ (by decide +kernel)) ggX5_loopsThatMeet_X5_axisOf
set_option maxRecDepth 20000 in
theorem ggX5_loopsThatMeet_X5_signOf : GoodIn wsX5_loopsThatMeet wsX5_signOf := goodIn_r _ [19] (by decide +kernel) (by decide +kernel)
set_option maxRecDepth 20000 in
theorem gX5_loopsThatMeet_X5_signOf : GoodIn wsX5_loopsThatMeet (va_wsS RX5 39 yX5_signOf wsX5_signOf) := goodIn_app (goodIn_of _ (by decide +kernel)) ggX5_loopsThatMeet_X5_signOf
theorem dX5_loopsThatMeet_0 : decode cX5_loopsThatMeet 0 = .ok (.aload_n 0, 1) := by decide +kernel
theorem dX5_loopsThatMeet_1 : decode cX5_loopsThatMeet 1 = .ok (.iload_n 1, 1) := by decide +kernel
theorem dX5_loopsThatMeet_2 : decode cX5_loopsThatMeet 2 = .ok (.invokevirtual 84, 3) := by decide +kernel
theorem dX5_loopsThatMeet_5 : decode cX5_loopsThatMeet 5 = .ok (.aload_n 0, 1) := by decide +kernel
theorem dX5_loopsThatMeet_6 : decode cX5_loopsThatMeet 6 = .ok (.iload_n 1, 1) := by decide +kernel
theorem dX5_loopsThatMeet_7 : decode cX5_loopsThatMeet 7 = .ok (.iload_n 2, 1) := by decide +kernel
theorem dX5_loopsThatMeet_8 : decode cX5_loopsThatMeet 8 = .ok (.invokevirtual 88, 3) := by decide +kernel
theorem dX5_loopsThatMeet_11 : decode cX5_loopsThatMeet 11 = .ok (.istore_n 3, 1) := by decide +kernel
theorem dX5_loopsThatMeet_12 : decode cX5_loopsThatMeet 12 = .ok (.iconst 0, 1) := by decide +kernel
theorem dX5_loopsThatMeet_13 : decode cX5_loopsThatMeet 13 = .ok (.istore 4, 2) := by decide +kernel
theorem dX5_loopsThatMeet_15 : decode cX5_loopsThatMeet 15 = .ok (.iload 4, 2) := by decide +kernel
theorem dX5_loopsThatMeet_17 : decode cX5_loopsThatMeet 17 = .ok (.aload_n 0, 1) := by decide +kernel
theorem dX5_loopsThatMeet_18 : decode cX5_loopsThatMeet 18 = .ok (.getfield 24, 3) := by decide +kernel
theorem dX5_loopsThatMeet_21 : decode cX5_loopsThatMeet 21 = .ok (.if_icmp .ge 71, 3) := by decide +kernel
theorem dX5_loopsThatMeet_24 : decode cX5_loopsThatMeet 24 = .ok (.aload_n 0, 1) := by decide +kernel
theorem dX5_loopsThatMeet_25 : decode cX5_loopsThatMeet 25 = .ok (.getfield 9, 3) := by decide +kernel
theorem dX5_loopsThatMeet_28 : decode cX5_loopsThatMeet 28 = .ok (.iload 4, 2) := by decide +kernel
theorem dX5_loopsThatMeet_30 : decode cX5_loopsThatMeet 30 = .ok (.iaload, 1) := by decide +kernel
theorem dX5_loopsThatMeet_31 : decode cX5_loopsThatMeet 31 = .ok (.invokestatic 35, 3) := by decide +kernel
theorem dX5_loopsThatMeet_34 : decode cX5_loopsThatMeet 34 = .ok (.istore 5, 2) := by decide +kernel
theorem dX5_loopsThatMeet_36 : decode cX5_loopsThatMeet 36 = .ok (.iconst 0, 1) := by decide +kernel
theorem dX5_loopsThatMeet_37 : decode cX5_loopsThatMeet 37 = .ok (.istore 6, 2) := by decide +kernel
theorem dX5_loopsThatMeet_39 : decode cX5_loopsThatMeet 39 = .ok (.iload 6, 2) := by decide +kernel
theorem dX5_loopsThatMeet_41 : decode cX5_loopsThatMeet 41 = .ok (.aload_n 0, 1) := by decide +kernel
theorem dX5_loopsThatMeet_42 : decode cX5_loopsThatMeet 42 = .ok (.getfield 15, 3) := by decide +kernel
theorem dX5_loopsThatMeet_45 : decode cX5_loopsThatMeet 45 = .ok (.iload 4, 2) := by decide +kernel
theorem dX5_loopsThatMeet_47 : decode cX5_loopsThatMeet 47 = .ok (.iaload, 1) := by decide +kernel
theorem dX5_loopsThatMeet_48 : decode cX5_loopsThatMeet 48 = .ok (.if_icmp .ge 38, 3) := by decide +kernel
theorem dX5_loopsThatMeet_51 : decode cX5_loopsThatMeet 51 = .ok (.aload_n 0, 1) := by decide +kernel
theorem dX5_loopsThatMeet_52 : decode cX5_loopsThatMeet 52 = .ok (.getfield 21, 3) := by decide +kernel
theorem dX5_loopsThatMeet_55 : decode cX5_loopsThatMeet 55 = .ok (.iload 5, 2) := by decide +kernel
theorem dX5_loopsThatMeet_57 : decode cX5_loopsThatMeet 57 = .ok (.dup2, 1) := by decide +kernel
theorem dX5_loopsThatMeet_58 : decode cX5_loopsThatMeet 58 = .ok (.iaload, 1) := by decide +kernel
theorem dX5_loopsThatMeet_59 : decode cX5_loopsThatMeet 59 = .ok (.aload_n 0, 1) := by decide +kernel
theorem dX5_loopsThatMeet_60 : decode cX5_loopsThatMeet 60 = .ok (.getfield 9, 3) := by decide +kernel
theorem dX5_loopsThatMeet_63 : decode cX5_loopsThatMeet 63 = .ok (.iload 4, 2) := by decide +kernel
theorem dX5_loopsThatMeet_65 : decode cX5_loopsThatMeet 65 = .ok (.iaload, 1) := by decide +kernel
theorem dX5_loopsThatMeet_66 : decode cX5_loopsThatMeet 66 = .ok (.invokestatic 39, 3) := by decide +kernel
theorem dX5_loopsThatMeet_69 : decode cX5_loopsThatMeet 69 = .ok (.iadd, 1) := by decide +kernel
theorem dX5_loopsThatMeet_70 : decode cX5_loopsThatMeet 70 = .ok (.iastore, 1) := by decide +kernel
theorem dX5_loopsThatMeet_71 : decode cX5_loopsThatMeet 71 = .ok (.iload_n 3, 1) := by decide +kernel
theorem dX5_loopsThatMeet_72 : decode cX5_loopsThatMeet 72 = .ok (.aload_n 0, 1) := by decide +kernel
theorem dX5_loopsThatMeet_73 : decode cX5_loopsThatMeet 73 = .ok (.iload_n 1, 1) := by decide +kernel
theorem dX5_loopsThatMeet_74 : decode cX5_loopsThatMeet 74 = .ok (.iload_n 2, 1) := by decide +kernel
theorem dX5_loopsThatMeet_75 : decode cX5_loopsThatMeet 75 = .ok (.invokevirtual 88, 3) := by decide +kernel
theorem dX5_loopsThatMeet_78 : decode cX5_loopsThatMeet 78 = .ok (.ior, 1) := by decide +kernel
theorem dX5_loopsThatMeet_79 : decode cX5_loopsThatMeet 79 = .ok (.istore_n 3, 1) := by decide +kernel
theorem dX5_loopsThatMeet_80 : decode cX5_loopsThatMeet 80 = .ok (.iinc 6 1, 3) := by decide +kernel
theorem dX5_loopsThatMeet_83 : decode cX5_loopsThatMeet 83 = .ok (.goto (-44), 3) := by decide +kernel
theorem dX5_loopsThatMeet_86 : decode cX5_loopsThatMeet 86 = .ok (.iinc 4 1, 3) := by decide +kernel
theorem dX5_loopsThatMeet_89 : decode cX5_loopsThatMeet 89 = .ok (.goto (-74), 3) := by decide +kernel
theorem dX5_loopsThatMeet_92 : decode cX5_loopsThatMeet 92 = .ok (.iload_n 3, 1) := by decide +kernel
theorem dX5_loopsThatMeet_93 : decode cX5_loopsThatMeet 93 = .ok (.ireturn, 1) := by decide +kernel
set_option maxRecDepth 20000 in
theorem ggX5_startAtFoot_X5_position : GoodIn wsX5_startAtFoot wsX5_position := goodIn_r _ [7, 8, 9, 1, 10, 11, 6, 12, 13, 14, 15, 16, 17, 18, 19, 20, 21, 22, 23, 24, 25, 26, 27, 28, 29, 30, 31, 32, 33] (by decide +kernel) (by decide +kernel)
set_option maxRecDepth 20000 in
theorem gX5_startAtFoot_X5_position : GoodIn wsX5_startAtFoot (wsV RX5 67 RX5 yX5_position wsX5_position) := goodIn_app (goodIn_of _ (by decide +kernel)) ggX5_startAtFoot_X5_position
theorem dX5_startAtFoot_0 : decode cX5_startAtFoot 0 = .ok (.aload_n 0, 1) := by decide +kernel
theorem dX5_startAtFoot_1 : decode cX5_startAtFoot 1 = .ok (.getfield 15, 3) := by decide +kernel
theorem dX5_startAtFoot_4 : decode cX5_startAtFoot 4 = .ok (.iload_n 1, 1) := by decide +kernel
theorem dX5_startAtFoot_5 : decode cX5_startAtFoot 5 = .ok (.iaload, 1) := by decide +kernel
theorem dX5_startAtFoot_6 : decode cX5_startAtFoot 6 = .ok (.iconst 3, 1) := by decide +kernel
theorem dX5_startAtFoot_7 : decode cX5_startAtFoot 7 = .ok (.idiv, 1) := by decide +kernel
theorem dX5_startAtFoot_8 : decode cX5_startAtFoot 8 = .ok (.istore_n 2, 1) := by decide +kernel
theorem dX5_startAtFoot_9 : decode cX5_startAtFoot 9 = .ok (.iconst 0, 1) := by decide +kernel
theorem dX5_startAtFoot_10 : decode cX5_startAtFoot 10 = .ok (.istore_n 3, 1) := by decide +kernel
theorem dX5_startAtFoot_11 : decode cX5_startAtFoot 11 = .ok (.iload_n 3, 1) := by decide +kernel
theorem dX5_startAtFoot_12 : decode cX5_startAtFoot 12 = .ok (.iload_n 1, 1) := by decide +kernel
theorem dX5_startAtFoot_13 : decode cX5_startAtFoot 13 = .ok (.if_icmp .ge 18, 3) := by decide +kernel
theorem dX5_startAtFoot_16 : decode cX5_startAtFoot 16 = .ok (.iload_n 2, 1) := by decide +kernel
theorem dX5_startAtFoot_17 : decode cX5_startAtFoot 17 = .ok (.aload_n 0, 1) := by decide +kernel
theorem dX5_startAtFoot_18 : decode cX5_startAtFoot 18 = .ok (.getfield 15, 3) := by decide +kernel
theorem dX5_startAtFoot_21 : decode cX5_startAtFoot 21 = .ok (.iload_n 3, 1) := by decide +kernel
theorem dX5_startAtFoot_22 : decode cX5_startAtFoot 22 = .ok (.iaload, 1) := by decide +kernel
theorem dX5_startAtFoot_23 : decode cX5_startAtFoot 23 = .ok (.iadd, 1) := by decide +kernel
theorem dX5_startAtFoot_24 : decode cX5_startAtFoot 24 = .ok (.istore_n 2, 1) := by decide +kernel
theorem dX5_startAtFoot_25 : decode cX5_startAtFoot 25 = .ok (.iinc 3 1, 3) := by decide +kernel
theorem dX5_startAtFoot_28 : decode cX5_startAtFoot 28 = .ok (.goto (-17), 3) := by decide +kernel
theorem dX5_startAtFoot_31 : decode cX5_startAtFoot 31 = .ok (.iconst 0, 1) := by decide +kernel
theorem dX5_startAtFoot_32 : decode cX5_startAtFoot 32 = .ok (.istore_n 3, 1) := by decide +kernel
theorem dX5_startAtFoot_33 : decode cX5_startAtFoot 33 = .ok (.iload_n 3, 1) := by decide +kernel
theorem dX5_startAtFoot_34 : decode cX5_startAtFoot 34 = .ok (.iconst 3, 1) := by decide +kernel
theorem dX5_startAtFoot_35 : decode cX5_startAtFoot 35 = .ok (.if_icmp .ge 22, 3) := by decide +kernel
theorem dX5_startAtFoot_38 : decode cX5_startAtFoot 38 = .ok (.aload_n 0, 1) := by decide +kernel
theorem dX5_startAtFoot_39 : decode cX5_startAtFoot 39 = .ok (.getfield 21, 3) := by decide +kernel
theorem dX5_startAtFoot_42 : decode cX5_startAtFoot 42 = .ok (.iload_n 3, 1) := by decide +kernel
theorem dX5_startAtFoot_43 : decode cX5_startAtFoot 43 = .ok (.aload_n 0, 1) := by decide +kernel
theorem dX5_startAtFoot_44 : decode cX5_startAtFoot 44 = .ok (.iload_n 2, 1) := by decide +kernel
theorem dX5_startAtFoot_45 : decode cX5_startAtFoot 45 = .ok (.iload_n 3, 1) := by decide +kernel
theorem dX5_startAtFoot_46 : decode cX5_startAtFoot 46 = .ok (.invokevirtual 67, 3) := by decide +kernel
theorem dX5_startAtFoot_49 : decode cX5_startAtFoot 49 = .ok (.ineg, 1) := by decide +kernel
theorem dX5_startAtFoot_50 : decode cX5_startAtFoot 50 = .ok (.iastore, 1) := by decide +kernel
theorem dX5_startAtFoot_51 : decode cX5_startAtFoot 51 = .ok (.iinc 3 1, 3) := by decide +kernel
theorem dX5_startAtFoot_54 : decode cX5_startAtFoot 54 = .ok (.goto (-21), 3) := by decide +kernel
theorem dX5_startAtFoot_57 : decode cX5_startAtFoot 57 = .ok (.return_, 1) := by decide +kernel
set_option maxRecDepth 20000 in
theorem ggX5_loopsThatMeetPoint_X5_axisOf : GoodIn wsX5_loopsThatMeetPoint wsX5_axisOf := goodIn_r _ [7] (by decide +kernel) (by decide +kernel)
set_option maxRecDepth 20000 in
theorem gX5_loopsThatMeetPoint_X5_axisOf : GoodIn wsX5_loopsThatMeetPoint (va_wsS RX5 35 yX5_axisOf wsX5_axisOf) := goodIn_app (goodIn_of _ (by decide +kernel)) ggX5_loopsThatMeetPoint_X5_axisOf
set_option maxRecDepth 20000 in
theorem ggX5_loopsThatMeetPoint_X5_signOf : GoodIn wsX5_loopsThatMeetPoint wsX5_signOf := goodIn_r _ [10] (by decide +kernel) (by decide +kernel)
set_option maxRecDepth 20000 in
theorem gX5_loopsThatMeetPoint_X5_signOf : GoodIn wsX5_loopsThatMeetPoint (va_wsS RX5 39 yX5_signOf wsX5_signOf) := goodIn_app (goodIn_of _ (by decide +kernel)) ggX5_loopsThatMeetPoint_X5_signOf
theorem dX5_loopsThatMeetPoint_0 : decode cX5_loopsThatMeetPoint 0 = .ok (.aload_n 0, 1) := by decide +kernel
theorem dX5_loopsThatMeetPoint_1 : decode cX5_loopsThatMeetPoint 1 = .ok (.getfield 9, 3) := by decide +kernel
theorem dX5_loopsThatMeetPoint_4 : decode cX5_loopsThatMeetPoint 4 = .ok (.iload_n 1, 1) := by decide +kernel
theorem dX5_loopsThatMeetPoint_5 : decode cX5_loopsThatMeetPoint 5 = .ok (.iaload, 1) := by decide +kernel
theorem dX5_loopsThatMeetPoint_6 : decode cX5_loopsThatMeetPoint 6 = .ok (.invokestatic 35, 3) := by decide +kernel
theorem dX5_loopsThatMeetPoint_9 : decode cX5_loopsThatMeetPoint 9 = .ok (.istore_n 3, 1) := by decide +kernel
theorem dX5_loopsThatMeetPoint_10 : decode cX5_loopsThatMeetPoint 10 = .ok (.iload_n 2, 1) := by decide +kernel
theorem dX5_loopsThatMeetPoint_11 : decode cX5_loopsThatMeetPoint 11 = .ok (.invokestatic 35, 3) := by decide +kernel
theorem dX5_loopsThatMeetPoint_14 : decode cX5_loopsThatMeetPoint 14 = .ok (.istore 4, 2) := by decide +kernel
theorem dX5_loopsThatMeetPoint_16 : decode cX5_loopsThatMeetPoint 16 = .ok (.iconst 3, 1) := by decide +kernel
theorem dX5_loopsThatMeetPoint_17 : decode cX5_loopsThatMeetPoint 17 = .ok (.iload_n 3, 1) := by decide +kernel
theorem dX5_loopsThatMeetPoint_18 : decode cX5_loopsThatMeetPoint 18 = .ok (.isub, 1) := by decide +kernel
theorem dX5_loopsThatMeetPoint_19 : decode cX5_loopsThatMeetPoint 19 = .ok (.iload 4, 2) := by decide +kernel
theorem dX5_loopsThatMeetPoint_21 : decode cX5_loopsThatMeetPoint 21 = .ok (.isub, 1) := by decide +kernel
theorem dX5_loopsThatMeetPoint_22 : decode cX5_loopsThatMeetPoint 22 = .ok (.istore 5, 2) := by decide +kernel
theorem dX5_loopsThatMeetPoint_24 : decode cX5_loopsThatMeetPoint 24 = .ok (.aload_n 0, 1) := by decide +kernel
theorem dX5_loopsThatMeetPoint_25 : decode cX5_loopsThatMeetPoint 25 = .ok (.getfield 15, 3) := by decide +kernel
theorem dX5_loopsThatMeetPoint_28 : decode cX5_loopsThatMeetPoint 28 = .ok (.iload_n 1, 1) := by decide +kernel
theorem dX5_loopsThatMeetPoint_29 : decode cX5_loopsThatMeetPoint 29 = .ok (.iaload, 1) := by decide +kernel
theorem dX5_loopsThatMeetPoint_30 : decode cX5_loopsThatMeetPoint 30 = .ok (.iconst 3, 1) := by decide +kernel
theorem dX5_loopsThatMeetPoint_31 : decode cX5_loopsThatMeetPoint 31 = .ok (.idiv, 1) := by decide +kernel
theorem dX5_loopsThatMeetPoint_32 : decode cX5_loopsThatMeetPoint 32 = .ok (.istore 6, 2) := by decide +kernel
theorem dX5_loopsThatMeetPoint_34 : decode cX5_loopsThatMeetPoint 34 = .ok (.aload_n 0, 1) := by decide +kernel
theorem dX5_loopsThatMeetPoint_35 : decode cX5_loopsThatMeetPoint 35 = .ok (.getfield 9, 3) := by decide +kernel
theorem dX5_loopsThatMeetPoint_38 : decode cX5_loopsThatMeetPoint 38 = .ok (.iload_n 1, 1) := by decide +kernel
theorem dX5_loopsThatMeetPoint_39 : decode cX5_loopsThatMeetPoint 39 = .ok (.iaload, 1) := by decide +kernel
theorem dX5_loopsThatMeetPoint_40 : decode cX5_loopsThatMeetPoint 40 = .ok (.invokestatic 39, 3) := by decide +kernel
theorem dX5_loopsThatMeetPoint_43 : decode cX5_loopsThatMeetPoint 43 = .ok (.aload_n 0, 1) := by decide +kernel
theorem dX5_loopsThatMeetPoint_44 : decode cX5_loopsThatMeetPoint 44 = .ok (.getfield 21, 3) := by decide +kernel
theorem dX5_loopsThatMeetPoint_47 : decode cX5_loopsThatMeetPoint 47 = .ok (.iload_n 3, 1) := by decide +kernel
theorem dX5_loopsThatMeetPoint_48 : decode cX5_loopsThatMeetPoint 48 = .ok (.iaload, 1) := by decide +kernel
theorem dX5_loopsThatMeetPoint_49 : decode cX5_loopsThatMeetPoint 49 = .ok (.imul, 1) := by decide +kernel
theorem dX5_loopsThatMeetPoint_50 : decode cX5_loopsThatMeetPoint 50 = .ok (.istore 7, 2) := by decide +kernel
theorem dX5_loopsThatMeetPoint_52 : decode cX5_loopsThatMeetPoint 52 = .ok (.iload_n 2, 1) := by decide +kernel
theorem dX5_loopsThatMeetPoint_53 : decode cX5_loopsThatMeetPoint 53 = .ok (.invokestatic 39, 3) := by decide +kernel
theorem dX5_loopsThatMeetPoint_56 : decode cX5_loopsThatMeetPoint 56 = .ok (.aload_n 0, 1) := by decide +kernel
theorem dX5_loopsThatMeetPoint_57 : decode cX5_loopsThatMeetPoint 57 = .ok (.getfield 21, 3) := by decide +kernel
theorem dX5_loopsThatMeetPoint_60 : decode cX5_loopsThatMeetPoint 60 = .ok (.iload 4, 2) := by decide +kernel
theorem dX5_loopsThatMeetPoint_62 : decode cX5_loopsThatMeetPoint 62 = .ok (.iaload, 1) := by decide +kernel
theorem dX5_loopsThatMeetPoint_63 : decode cX5_loopsThatMeetPoint 63 = .ok (.imul, 1) := by decide +kernel
theorem dX5_loopsThatMeetPoint_64 : decode cX5_loopsThatMeetPoint 64 = .ok (.istore 8, 2) := by decide +kernel
theorem dX5_loopsThatMeetPoint_66 : decode cX5_loopsThatMeetPoint 66 = .ok (.aload_n 0, 1) := by decide +kernel
theorem dX5_loopsThatMeetPoint_67 : decode cX5_loopsThatMeetPoint 67 = .ok (.getfield 21, 3) := by decide +kernel
theorem dX5_loopsThatMeetPoint_70 : decode cX5_loopsThatMeetPoint 70 = .ok (.iload 5, 2) := by decide +kernel
theorem dX5_loopsThatMeetPoint_72 : decode cX5_loopsThatMeetPoint 72 = .ok (.iaload, 1) := by decide +kernel
theorem dX5_loopsThatMeetPoint_73 : decode cX5_loopsThatMeetPoint 73 = .ok (.ifCond .ne 28, 3) := by decide +kernel
theorem dX5_loopsThatMeetPoint_76 : decode cX5_loopsThatMeetPoint 76 = .ok (.iload 7, 2) := by decide +kernel
theorem dX5_loopsThatMeetPoint_78 : decode cX5_loopsThatMeetPoint 78 = .ok (.ifCond .lt 23, 3) := by decide +kernel
theorem dX5_loopsThatMeetPoint_81 : decode cX5_loopsThatMeetPoint 81 = .ok (.iload 7, 2) := by decide +kernel
theorem dX5_loopsThatMeetPoint_83 : decode cX5_loopsThatMeetPoint 83 = .ok (.iload 6, 2) := by decide +kernel
theorem dX5_loopsThatMeetPoint_85 : decode cX5_loopsThatMeetPoint 85 = .ok (.if_icmp .gt 16, 3) := by decide +kernel
theorem dX5_loopsThatMeetPoint_88 : decode cX5_loopsThatMeetPoint 88 = .ok (.iload 8, 2) := by decide +kernel
theorem dX5_loopsThatMeetPoint_90 : decode cX5_loopsThatMeetPoint 90 = .ok (.iconst 1, 1) := by decide +kernel
theorem dX5_loopsThatMeetPoint_91 : decode cX5_loopsThatMeetPoint 91 = .ok (.if_icmp .lt 10, 3) := by decide +kernel
theorem dX5_loopsThatMeetPoint_94 : decode cX5_loopsThatMeetPoint 94 = .ok (.iload 8, 2) := by decide +kernel
theorem dX5_loopsThatMeetPoint_96 : decode cX5_loopsThatMeetPoint 96 = .ok (.bipush 20, 2) := by decide +kernel
theorem dX5_loopsThatMeetPoint_98 : decode cX5_loopsThatMeetPoint 98 = .ok (.if_icmp .le 5, 3) := by decide +kernel
theorem dX5_loopsThatMeetPoint_101 : decode cX5_loopsThatMeetPoint 101 = .ok (.iconst 0, 1) := by decide +kernel
theorem dX5_loopsThatMeetPoint_102 : decode cX5_loopsThatMeetPoint 102 = .ok (.ireturn, 1) := by decide +kernel
theorem dX5_loopsThatMeetPoint_103 : decode cX5_loopsThatMeetPoint 103 = .ok (.iload 7, 2) := by decide +kernel
theorem dX5_loopsThatMeetPoint_105 : decode cX5_loopsThatMeetPoint 105 = .ok (.ifCond .eq 10, 3) := by decide +kernel
theorem dX5_loopsThatMeetPoint_108 : decode cX5_loopsThatMeetPoint 108 = .ok (.iload 7, 2) := by decide +kernel
theorem dX5_loopsThatMeetPoint_110 : decode cX5_loopsThatMeetPoint 110 = .ok (.iload 6, 2) := by decide +kernel
theorem dX5_loopsThatMeetPoint_112 : decode cX5_loopsThatMeetPoint 112 = .ok (.if_icmp .ne 10, 3) := by decide +kernel
theorem dX5_loopsThatMeetPoint_115 : decode cX5_loopsThatMeetPoint 115 = .ok (.iconst (-1), 1) := by decide +kernel
theorem dX5_loopsThatMeetPoint_116 : decode cX5_loopsThatMeetPoint 116 = .ok (.iload 8, 2) := by decide +kernel
theorem dX5_loopsThatMeetPoint_118 : decode cX5_loopsThatMeetPoint 118 = .ok (.ishl, 1) := by decide +kernel
theorem dX5_loopsThatMeetPoint_119 : decode cX5_loopsThatMeetPoint 119 = .ok (.goto 7, 3) := by decide +kernel
theorem dX5_loopsThatMeetPoint_122 : decode cX5_loopsThatMeetPoint 122 = .ok (.iconst 1, 1) := by decide +kernel
theorem dX5_loopsThatMeetPoint_123 : decode cX5_loopsThatMeetPoint 123 = .ok (.iload 8, 2) := by decide +kernel
theorem dX5_loopsThatMeetPoint_125 : decode cX5_loopsThatMeetPoint 125 = .ok (.ishl, 1) := by decide +kernel
theorem dX5_loopsThatMeetPoint_126 : decode cX5_loopsThatMeetPoint 126 = .ok (.ireturn, 1) := by decide +kernel
theorem dX5_mixInto_0 : decode cX5_mixInto 0 = .ok (.iconst 0, 1) := by decide +kernel
theorem dX5_mixInto_1 : decode cX5_mixInto 1 = .ok (.istore_n 3, 1) := by decide +kernel
theorem dX5_mixInto_2 : decode cX5_mixInto 2 = .ok (.iload_n 3, 1) := by decide +kernel
theorem dX5_mixInto_3 : decode cX5_mixInto 3 = .ok (.aload_n 0, 1) := by decide +kernel
theorem dX5_mixInto_4 : decode cX5_mixInto 4 = .ok (.getfield 24, 3) := by decide +kernel
theorem dX5_mixInto_7 : decode cX5_mixInto 7 = .ok (.if_icmp .ge 51, 3) := by decide +kernel
theorem dX5_mixInto_10 : decode cX5_mixInto 10 = .ok (.ldc2_w 91, 3) := by decide +kernel
theorem dX5_mixInto_13 : decode cX5_mixInto 13 = .ok (.lload_n 1, 1) := by decide +kernel
theorem dX5_mixInto_14 : decode cX5_mixInto 14 = .ok (.lmul, 1) := by decide +kernel
theorem dX5_mixInto_15 : decode cX5_mixInto 15 = .ok (.aload_n 0, 1) := by decide +kernel
theorem dX5_mixInto_16 : decode cX5_mixInto 16 = .ok (.getfield 9, 3) := by decide +kernel
theorem dX5_mixInto_19 : decode cX5_mixInto 19 = .ok (.iload_n 3, 1) := by decide +kernel
theorem dX5_mixInto_20 : decode cX5_mixInto 20 = .ok (.iaload, 1) := by decide +kernel
theorem dX5_mixInto_21 : decode cX5_mixInto 21 = .ok (.i2l, 1) := by decide +kernel
theorem dX5_mixInto_22 : decode cX5_mixInto 22 = .ok (.ladd, 1) := by decide +kernel
theorem dX5_mixInto_23 : decode cX5_mixInto 23 = .ok (.lstore_n 1, 1) := by decide +kernel
theorem dX5_mixInto_24 : decode cX5_mixInto 24 = .ok (.ldc2_w 91, 3) := by decide +kernel
theorem dX5_mixInto_27 : decode cX5_mixInto 27 = .ok (.lload_n 1, 1) := by decide +kernel
theorem dX5_mixInto_28 : decode cX5_mixInto 28 = .ok (.lmul, 1) := by decide +kernel
theorem dX5_mixInto_29 : decode cX5_mixInto 29 = .ok (.aload_n 0, 1) := by decide +kernel
theorem dX5_mixInto_30 : decode cX5_mixInto 30 = .ok (.getfield 15, 3) := by decide +kernel
theorem dX5_mixInto_33 : decode cX5_mixInto 33 = .ok (.iload_n 3, 1) := by decide +kernel
theorem dX5_mixInto_34 : decode cX5_mixInto 34 = .ok (.iaload, 1) := by decide +kernel
theorem dX5_mixInto_35 : decode cX5_mixInto 35 = .ok (.i2l, 1) := by decide +kernel
theorem dX5_mixInto_36 : decode cX5_mixInto 36 = .ok (.ladd, 1) := by decide +kernel
theorem dX5_mixInto_37 : decode cX5_mixInto 37 = .ok (.lstore_n 1, 1) := by decide +kernel
theorem dX5_mixInto_38 : decode cX5_mixInto 38 = .ok (.ldc2_w 91, 3) := by decide +kernel
theorem dX5_mixInto_41 : decode cX5_mixInto 41 = .ok (.lload_n 1, 1) := by decide +kernel
theorem dX5_mixInto_42 : decode cX5_mixInto 42 = .ok (.lmul, 1) := by decide +kernel
theorem dX5_mixInto_43 : decode cX5_mixInto 43 = .ok (.aload_n 0, 1) := by decide +kernel
theorem dX5_mixInto_44 : decode cX5_mixInto 44 = .ok (.getfield 18, 3) := by decide +kernel
theorem dX5_mixInto_47 : decode cX5_mixInto 47 = .ok (.iload_n 3, 1) := by decide +kernel
theorem dX5_mixInto_48 : decode cX5_mixInto 48 = .ok (.iaload, 1) := by decide +kernel
theorem dX5_mixInto_49 : decode cX5_mixInto 49 = .ok (.i2l, 1) := by decide +kernel
theorem dX5_mixInto_50 : decode cX5_mixInto 50 = .ok (.ladd, 1) := by decide +kernel
theorem dX5_mixInto_51 : decode cX5_mixInto 51 = .ok (.lstore_n 1, 1) := by decide +kernel
theorem dX5_mixInto_52 : decode cX5_mixInto 52 = .ok (.iinc 3 1, 3) := by decide +kernel
theorem dX5_mixInto_55 : decode cX5_mixInto 55 = .ok (.goto (-53), 3) := by decide +kernel
theorem dX5_mixInto_58 : decode cX5_mixInto 58 = .ok (.lload_n 1, 1) := by decide +kernel
theorem dX5_mixInto_59 : decode cX5_mixInto 59 = .ok (.lreturn, 1) := by decide +kernel
theorem dX5_axisOf_0 : decode cX5_axisOf 0 = .ok (.iload_n 0, 1) := by decide +kernel
theorem dX5_axisOf_1 : decode cX5_axisOf 1 = .ok (.iconst 1, 1) := by decide +kernel
theorem dX5_axisOf_2 : decode cX5_axisOf 2 = .ok (.ishr, 1) := by decide +kernel
theorem dX5_axisOf_3 : decode cX5_axisOf 3 = .ok (.ireturn, 1) := by decide +kernel
theorem dX5_signOf_0 : decode cX5_signOf 0 = .ok (.iload_n 0, 1) := by decide +kernel
theorem dX5_signOf_1 : decode cX5_signOf 1 = .ok (.iconst 1, 1) := by decide +kernel
theorem dX5_signOf_2 : decode cX5_signOf 2 = .ok (.iand, 1) := by decide +kernel
theorem dX5_signOf_3 : decode cX5_signOf 3 = .ok (.ifCond .ne 7, 3) := by decide +kernel
theorem dX5_signOf_6 : decode cX5_signOf 6 = .ok (.iconst 1, 1) := by decide +kernel
theorem dX5_signOf_7 : decode cX5_signOf 7 = .ok (.goto 4, 3) := by decide +kernel
theorem dX5_signOf_10 : decode cX5_signOf 10 = .ok (.iconst (-1), 1) := by decide +kernel
theorem dX5_signOf_11 : decode cX5_signOf 11 = .ok (.ireturn, 1) := by decide +kernel
theorem dX5_root_0 : decode cX5_root 0 = .ok (.lconst 0, 1) := by decide +kernel
theorem dX5_root_1 : decode cX5_root 1 = .ok (.lstore_n 2, 1) := by decide +kernel
theorem dX5_root_2 : decode cX5_root 2 = .ok (.bipush 30, 2) := by decide +kernel
theorem dX5_root_4 : decode cX5_root 4 = .ok (.istore 4, 2) := by decide +kernel
theorem dX5_root_6 : decode cX5_root 6 = .ok (.iload 4, 2) := by decide +kernel
theorem dX5_root_8 : decode cX5_root 8 = .ok (.ifCond .lt 30, 3) := by decide +kernel
theorem dX5_root_11 : decode cX5_root 11 = .ok (.lload_n 2, 1) := by decide +kernel
theorem dX5_root_12 : decode cX5_root 12 = .ok (.lconst 1, 1) := by decide +kernel
theorem dX5_root_13 : decode cX5_root 13 = .ok (.iload 4, 2) := by decide +kernel
theorem dX5_root_15 : decode cX5_root 15 = .ok (.lshl, 1) := by decide +kernel
theorem dX5_root_16 : decode cX5_root 16 = .ok (.ladd, 1) := by decide +kernel
theorem dX5_root_17 : decode cX5_root 17 = .ok (.lstore 5, 2) := by decide +kernel
theorem dX5_root_19 : decode cX5_root 19 = .ok (.lload 5, 2) := by decide +kernel
theorem dX5_root_21 : decode cX5_root 21 = .ok (.lload 5, 2) := by decide +kernel
theorem dX5_root_23 : decode cX5_root 23 = .ok (.lmul, 1) := by decide +kernel
theorem dX5_root_24 : decode cX5_root 24 = .ok (.lload_n 0, 1) := by decide +kernel
theorem dX5_root_25 : decode cX5_root 25 = .ok (.lcmp, 1) := by decide +kernel
theorem dX5_root_26 : decode cX5_root 26 = .ok (.ifCond .gt 6, 3) := by decide +kernel
theorem dX5_root_29 : decode cX5_root 29 = .ok (.lload 5, 2) := by decide +kernel
theorem dX5_root_31 : decode cX5_root 31 = .ok (.lstore_n 2, 1) := by decide +kernel
theorem dX5_root_32 : decode cX5_root 32 = .ok (.iinc 4 (-1), 3) := by decide +kernel
theorem dX5_root_35 : decode cX5_root 35 = .ok (.goto (-29), 3) := by decide +kernel
theorem dX5_root_38 : decode cX5_root 38 = .ok (.lload_n 2, 1) := by decide +kernel
theorem dX5_root_39 : decode cX5_root 39 = .ok (.l2i, 1) := by decide +kernel
theorem dX5_root_40 : decode cX5_root 40 = .ok (.ireturn, 1) := by decide +kernel
set_option maxRecDepth 20000 in
theorem ggX6_init_J7_fill_53178 : GoodIn wsX6_init wsJ7_fill_53178 := goodIn_r _ [12] (by decide +kernel) (by decide +kernel)
set_option maxRecDepth 20000 in
theorem gX6_init_J7_fill_53178 : GoodIn wsX6_init (va_wsS RX6 22 yJ7_fill_53178 wsJ7_fill_53178) := goodIn_app (goodIn_of _ (by decide +kernel)) ggX6_init_J7_fill_53178
theorem dX6_init_0 : decode cX6_init 0 = .ok (.aload_n 0, 1) := by decide +kernel
theorem dX6_init_1 : decode cX6_init 1 = .ok (.invokespecial 3, 3) := by decide +kernel
theorem dX6_init_4 : decode cX6_init 4 = .ok (.aload_n 0, 1) := by decide +kernel
theorem dX6_init_5 : decode cX6_init 5 = .ok (.bipush 64, 2) := by decide +kernel
theorem dX6_init_7 : decode cX6_init 7 = .ok (.newarray .byte, 2) := by decide +kernel
theorem dX6_init_9 : decode cX6_init 9 = .ok (.putfield 9, 3) := by decide +kernel
theorem dX6_init_12 : decode cX6_init 12 = .ok (.aload_n 0, 1) := by decide +kernel
theorem dX6_init_13 : decode cX6_init 13 = .ok (.iconst 4, 1) := by decide +kernel
theorem dX6_init_14 : decode cX6_init 14 = .ok (.newarray .int, 2) := by decide +kernel
theorem dX6_init_16 : decode cX6_init 16 = .ok (.putfield 15, 3) := by decide +kernel
theorem dX6_init_19 : decode cX6_init 19 = .ok (.aload_n 0, 1) := by decide +kernel
theorem dX6_init_20 : decode cX6_init 20 = .ok (.iconst 4, 1) := by decide +kernel
theorem dX6_init_21 : decode cX6_init 21 = .ok (.newarray .int, 2) := by decide +kernel
theorem dX6_init_23 : decode cX6_init 23 = .ok (.putfield 19, 3) := by decide +kernel
theorem dX6_init_26 : decode cX6_init 26 = .ok (.aload_n 0, 1) := by decide +kernel
theorem dX6_init_27 : decode cX6_init 27 = .ok (.getfield 15, 3) := by decide +kernel
theorem dX6_init_30 : decode cX6_init 30 = .ok (.iconst (-1), 1) := by decide +kernel
theorem dX6_init_31 : decode cX6_init 31 = .ok (.invokestatic 22, 3) := by decide +kernel
theorem dX6_init_34 : decode cX6_init 34 = .ok (.aload_n 0, 1) := by decide +kernel
theorem dX6_init_35 : decode cX6_init 35 = .ok (.getfield 19, 3) := by decide +kernel
theorem dX6_init_38 : decode cX6_init 38 = .ok (.bipush 10, 2) := by decide +kernel
theorem dX6_init_40 : decode cX6_init 40 = .ok (.invokestatic 22, 3) := by decide +kernel
theorem dX6_init_43 : decode cX6_init 43 = .ok (.return_, 1) := by decide +kernel
theorem dX6_isThere_0 : decode cX6_isThere 0 = .ok (.aload_n 0, 1) := by decide +kernel
theorem dX6_isThere_1 : decode cX6_isThere 1 = .ok (.getfield 15, 3) := by decide +kernel
theorem dX6_isThere_4 : decode cX6_isThere 4 = .ok (.iload_n 1, 1) := by decide +kernel
theorem dX6_isThere_5 : decode cX6_isThere 5 = .ok (.iaload, 1) := by decide +kernel
theorem dX6_isThere_6 : decode cX6_isThere 6 = .ok (.iconst (-1), 1) := by decide +kernel
theorem dX6_isThere_7 : decode cX6_isThere 7 = .ok (.if_icmp .eq 7, 3) := by decide +kernel
theorem dX6_isThere_10 : decode cX6_isThere 10 = .ok (.iconst 1, 1) := by decide +kernel
theorem dX6_isThere_11 : decode cX6_isThere 11 = .ok (.goto 4, 3) := by decide +kernel
theorem dX6_isThere_14 : decode cX6_isThere 14 = .ok (.iconst 0, 1) := by decide +kernel
theorem dX6_isThere_15 : decode cX6_isThere 15 = .ok (.ireturn, 1) := by decide +kernel
theorem dX6_hasBytes_0 : decode cX6_hasBytes 0 = .ok (.iload_n 2, 1) := by decide +kernel
theorem dX6_hasBytes_1 : decode cX6_hasBytes 1 = .ok (.ifCond .lt 33, 3) := by decide +kernel
theorem dX6_hasBytes_4 : decode cX6_hasBytes 4 = .ok (.iload_n 3, 1) := by decide +kernel
theorem dX6_hasBytes_5 : decode cX6_hasBytes 5 = .ok (.ifCond .lt 29, 3) := by decide +kernel
theorem dX6_hasBytes_8 : decode cX6_hasBytes 8 = .ok (.iload_n 2, 1) := by decide +kernel
theorem dX6_hasBytes_9 : decode cX6_hasBytes 9 = .ok (.aload_n 0, 1) := by decide +kernel
theorem dX6_hasBytes_10 : decode cX6_hasBytes 10 = .ok (.getfield 15, 3) := by decide +kernel
theorem dX6_hasBytes_13 : decode cX6_hasBytes 13 = .ok (.iload_n 1, 1) := by decide +kernel
theorem dX6_hasBytes_14 : decode cX6_hasBytes 14 = .ok (.iaload, 1) := by decide +kernel
theorem dX6_hasBytes_15 : decode cX6_hasBytes 15 = .ok (.if_icmp .gt 19, 3) := by decide +kernel
theorem dX6_hasBytes_18 : decode cX6_hasBytes 18 = .ok (.iload_n 3, 1) := by decide +kernel
theorem dX6_hasBytes_19 : decode cX6_hasBytes 19 = .ok (.aload_n 0, 1) := by decide +kernel
theorem dX6_hasBytes_20 : decode cX6_hasBytes 20 = .ok (.getfield 15, 3) := by decide +kernel
theorem dX6_hasBytes_23 : decode cX6_hasBytes 23 = .ok (.iload_n 1, 1) := by decide +kernel
theorem dX6_hasBytes_24 : decode cX6_hasBytes 24 = .ok (.iaload, 1) := by decide +kernel
theorem dX6_hasBytes_25 : decode cX6_hasBytes 25 = .ok (.iload_n 2, 1) := by decide +kernel
theorem dX6_hasBytes_26 : decode cX6_hasBytes 26 = .ok (.isub, 1) := by decide +kernel
theorem dX6_hasBytes_27 : decode cX6_hasBytes 27 = .ok (.if_icmp .gt 7, 3) := by decide +kernel
theorem dX6_hasBytes_30 : decode cX6_hasBytes 30 = .ok (.iconst 1, 1) := by decide +kernel
theorem dX6_hasBytes_31 : decode cX6_hasBytes 31 = .ok (.goto 4, 3) := by decide +kernel
theorem dX6_hasBytes_34 : decode cX6_hasBytes 34 = .ok (.iconst 0, 1) := by decide +kernel
theorem dX6_hasBytes_35 : decode cX6_hasBytes 35 = .ok (.ireturn, 1) := by decide +kernel
theorem dX6_sizeOf_0 : decode cX6_sizeOf 0 = .ok (.aload_n 0, 1) := by decide +kernel
theorem dX6_sizeOf_1 : decode cX6_sizeOf 1 = .ok (.getfield 15, 3) := by decide +kernel
theorem dX6_sizeOf_4 : decode cX6_sizeOf 4 = .ok (.iload_n 1, 1) := by decide +kernel
theorem dX6_sizeOf_5 : decode cX6_sizeOf 5 = .ok (.iaload, 1) := by decide +kernel
theorem dX6_sizeOf_6 : decode cX6_sizeOf 6 = .ok (.ireturn, 1) := by decide +kernel
theorem dX6_weightOf_0 : decode cX6_weightOf 0 = .ok (.aload_n 0, 1) := by decide +kernel
theorem dX6_weightOf_1 : decode cX6_weightOf 1 = .ok (.getfield 19, 3) := by decide +kernel
theorem dX6_weightOf_4 : decode cX6_weightOf 4 = .ok (.iload_n 1, 1) := by decide +kernel
theorem dX6_weightOf_5 : decode cX6_weightOf 5 = .ok (.iaload, 1) := by decide +kernel
theorem dX6_weightOf_6 : decode cX6_weightOf 6 = .ok (.ireturn, 1) := by decide +kernel
theorem dX6_growthAt_0 : decode cX6_growthAt 0 = .ok (.iload_n 2, 1) := by decide +kernel
theorem dX6_growthAt_1 : decode cX6_growthAt 1 = .ok (.aload_n 0, 1) := by decide +kernel
theorem dX6_growthAt_2 : decode cX6_growthAt 2 = .ok (.getfield 15, 3) := by decide +kernel
theorem dX6_growthAt_5 : decode cX6_growthAt 5 = .ok (.iload_n 1, 1) := by decide +kernel
theorem dX6_growthAt_6 : decode cX6_growthAt 6 = .ok (.iaload, 1) := by decide +kernel
theorem dX6_growthAt_7 : decode cX6_growthAt 7 = .ok (.if_icmp .ge 17, 3) := by decide +kernel
theorem dX6_growthAt_10 : decode cX6_growthAt 10 = .ok (.aload_n 0, 1) := by decide +kernel
theorem dX6_growthAt_11 : decode cX6_growthAt 11 = .ok (.getfield 9, 3) := by decide +kernel
theorem dX6_growthAt_14 : decode cX6_growthAt 14 = .ok (.iload_n 1, 1) := by decide +kernel
theorem dX6_growthAt_15 : decode cX6_growthAt 15 = .ok (.bipush 16, 2) := by decide +kernel
theorem dX6_growthAt_17 : decode cX6_growthAt 17 = .ok (.imul, 1) := by decide +kernel
theorem dX6_growthAt_18 : decode cX6_growthAt 18 = .ok (.iload_n 2, 1) := by decide +kernel
theorem dX6_growthAt_19 : decode cX6_growthAt 19 = .ok (.iadd, 1) := by decide +kernel
theorem dX6_growthAt_20 : decode cX6_growthAt 20 = .ok (.baload, 1) := by decide +kernel
theorem dX6_growthAt_21 : decode cX6_growthAt 21 = .ok (.goto 4, 3) := by decide +kernel
theorem dX6_growthAt_24 : decode cX6_growthAt 24 = .ok (.iconst 0, 1) := by decide +kernel
theorem dX6_growthAt_25 : decode cX6_growthAt 25 = .ok (.ireturn, 1) := by decide +kernel
theorem dX6_begin_0 : decode cX6_begin 0 = .ok (.iconst 0, 1) := by decide +kernel
theorem dX6_begin_1 : decode cX6_begin 1 = .ok (.istore_n 3, 1) := by decide +kernel
theorem dX6_begin_2 : decode cX6_begin 2 = .ok (.iload_n 3, 1) := by decide +kernel
theorem dX6_begin_3 : decode cX6_begin 3 = .ok (.bipush 16, 2) := by decide +kernel
theorem dX6_begin_5 : decode cX6_begin 5 = .ok (.if_icmp .ge 21, 3) := by decide +kernel
theorem dX6_begin_8 : decode cX6_begin 8 = .ok (.aload_n 0, 1) := by decide +kernel
theorem dX6_begin_9 : decode cX6_begin 9 = .ok (.getfield 9, 3) := by decide +kernel
theorem dX6_begin_12 : decode cX6_begin 12 = .ok (.iload_n 1, 1) := by decide +kernel
theorem dX6_begin_13 : decode cX6_begin 13 = .ok (.bipush 16, 2) := by decide +kernel
theorem dX6_begin_15 : decode cX6_begin 15 = .ok (.imul, 1) := by decide +kernel
theorem dX6_begin_16 : decode cX6_begin 16 = .ok (.iload_n 3, 1) := by decide +kernel
theorem dX6_begin_17 : decode cX6_begin 17 = .ok (.iadd, 1) := by decide +kernel
theorem dX6_begin_18 : decode cX6_begin 18 = .ok (.iconst 0, 1) := by decide +kernel
theorem dX6_begin_19 : decode cX6_begin 19 = .ok (.bastore, 1) := by decide +kernel
theorem dX6_begin_20 : decode cX6_begin 20 = .ok (.iinc 3 1, 3) := by decide +kernel
theorem dX6_begin_23 : decode cX6_begin 23 = .ok (.goto (-21), 3) := by decide +kernel
theorem dX6_begin_26 : decode cX6_begin 26 = .ok (.aload_n 0, 1) := by decide +kernel
theorem dX6_begin_27 : decode cX6_begin 27 = .ok (.getfield 15, 3) := by decide +kernel
theorem dX6_begin_30 : decode cX6_begin 30 = .ok (.iload_n 1, 1) := by decide +kernel
theorem dX6_begin_31 : decode cX6_begin 31 = .ok (.iload_n 2, 1) := by decide +kernel
theorem dX6_begin_32 : decode cX6_begin 32 = .ok (.iastore, 1) := by decide +kernel
theorem dX6_begin_33 : decode cX6_begin 33 = .ok (.return_, 1) := by decide +kernel
theorem dX6_end_0 : decode cX6_end 0 = .ok (.aload_n 0, 1) := by decide +kernel
theorem dX6_end_1 : decode cX6_end 1 = .ok (.getfield 15, 3) := by decide +kernel
theorem dX6_end_4 : decode cX6_end 4 = .ok (.iload_n 1, 1) := by decide +kernel
theorem dX6_end_5 : decode cX6_end 5 = .ok (.iconst (-1), 1) := by decide +kernel
theorem dX6_end_6 : decode cX6_end 6 = .ok (.iastore, 1) := by decide +kernel
theorem dX6_end_7 : decode cX6_end 7 = .ok (.return_, 1) := by decide +kernel
theorem dX6_replace_0 : decode cX6_replace 0 = .ok (.aload_n 0, 1) := by decide +kernel
theorem dX6_replace_1 : decode cX6_replace 1 = .ok (.getfield 9, 3) := by decide +kernel
theorem dX6_replace_4 : decode cX6_replace 4 = .ok (.iload_n 1, 1) := by decide +kernel
theorem dX6_replace_5 : decode cX6_replace 5 = .ok (.bipush 16, 2) := by decide +kernel
theorem dX6_replace_7 : decode cX6_replace 7 = .ok (.imul, 1) := by decide +kernel
theorem dX6_replace_8 : decode cX6_replace 8 = .ok (.iload_n 2, 1) := by decide +kernel
theorem dX6_replace_9 : decode cX6_replace 9 = .ok (.iadd, 1) := by decide +kernel
theorem dX6_replace_10 : decode cX6_replace 10 = .ok (.baload, 1) := by decide +kernel
theorem dX6_replace_11 : decode cX6_replace 11 = .ok (.istore 4, 2) := by decide +kernel
theorem dX6_replace_13 : decode cX6_replace 13 = .ok (.aload_n 0, 1) := by decide +kernel
theorem dX6_replace_14 : decode cX6_replace 14 = .ok (.getfield 9, 3) := by decide +kernel
theorem dX6_replace_17 : decode cX6_replace 17 = .ok (.iload_n 1, 1) := by decide +kernel
theorem dX6_replace_18 : decode cX6_replace 18 = .ok (.bipush 16, 2) := by decide +kernel
theorem dX6_replace_20 : decode cX6_replace 20 = .ok (.imul, 1) := by decide +kernel
theorem dX6_replace_21 : decode cX6_replace 21 = .ok (.iload_n 2, 1) := by decide +kernel
theorem dX6_replace_22 : decode cX6_replace 22 = .ok (.iadd, 1) := by decide +kernel
theorem dX6_replace_23 : decode cX6_replace 23 = .ok (.iload_n 3, 1) := by decide +kernel
theorem dX6_replace_24 : decode cX6_replace 24 = .ok (.bastore, 1) := by decide +kernel
theorem dX6_replace_25 : decode cX6_replace 25 = .ok (.iload 4, 2) := by decide +kernel
theorem dX6_replace_27 : decode cX6_replace 27 = .ok (.ireturn, 1) := by decide +kernel
theorem dX6_transfer_0 : decode cX6_transfer 0 = .ok (.aload_n 0, 1) := by decide +kernel
theorem dX6_transfer_1 : decode cX6_transfer 1 = .ok (.getfield 9, 3) := by decide +kernel
theorem dX6_transfer_4 : decode cX6_transfer 4 = .ok (.iload_n 1, 1) := by decide +kernel
theorem dX6_transfer_5 : decode cX6_transfer 5 = .ok (.bipush 16, 2) := by decide +kernel
theorem dX6_transfer_7 : decode cX6_transfer 7 = .ok (.imul, 1) := by decide +kernel
theorem dX6_transfer_8 : decode cX6_transfer 8 = .ok (.iload_n 2, 1) := by decide +kernel
theorem dX6_transfer_9 : decode cX6_transfer 9 = .ok (.iadd, 1) := by decide +kernel
theorem dX6_transfer_10 : decode cX6_transfer 10 = .ok (.aload_n 0, 1) := by decide +kernel
theorem dX6_transfer_11 : decode cX6_transfer 11 = .ok (.getfield 9, 3) := by decide +kernel
theorem dX6_transfer_14 : decode cX6_transfer 14 = .ok (.iload_n 3, 1) := by decide +kernel
theorem dX6_transfer_15 : decode cX6_transfer 15 = .ok (.bipush 16, 2) := by decide +kernel
theorem dX6_transfer_17 : decode cX6_transfer 17 = .ok (.imul, 1) := by decide +kernel
theorem dX6_transfer_18 : decode cX6_transfer 18 = .ok (.iload 4, 2) := by decide +kernel
theorem dX6_transfer_20 : decode cX6_transfer 20 = .ok (.iadd, 1) := by decide +kernel
theorem dX6_transfer_21 : decode cX6_transfer 21 = .ok (.iload 5, 2) := by decide +kernel
theorem dX6_transfer_23 : decode cX6_transfer 23 = .ok (.invokestatic 28, 3) := by decide +kernel
theorem dX6_transfer_26 : decode cX6_transfer 26 = .ok (.return_, 1) := by decide +kernel
theorem dX6_reweigh_0 : decode cX6_reweigh 0 = .ok (.aload_n 0, 1) := by decide +kernel
theorem dX6_reweigh_1 : decode cX6_reweigh 1 = .ok (.getfield 19, 3) := by decide +kernel
theorem dX6_reweigh_4 : decode cX6_reweigh 4 = .ok (.iload_n 1, 1) := by decide +kernel
theorem dX6_reweigh_5 : decode cX6_reweigh 5 = .ok (.iaload, 1) := by decide +kernel
theorem dX6_reweigh_6 : decode cX6_reweigh 6 = .ok (.istore_n 3, 1) := by decide +kernel
theorem dX6_reweigh_7 : decode cX6_reweigh 7 = .ok (.aload_n 0, 1) := by decide +kernel
theorem dX6_reweigh_8 : decode cX6_reweigh 8 = .ok (.getfield 19, 3) := by decide +kernel
theorem dX6_reweigh_11 : decode cX6_reweigh 11 = .ok (.iload_n 1, 1) := by decide +kernel
theorem dX6_reweigh_12 : decode cX6_reweigh 12 = .ok (.iload_n 2, 1) := by decide +kernel
theorem dX6_reweigh_13 : decode cX6_reweigh 13 = .ok (.iastore, 1) := by decide +kernel
theorem dX6_reweigh_14 : decode cX6_reweigh 14 = .ok (.iload_n 3, 1) := by decide +kernel
theorem dX6_reweigh_15 : decode cX6_reweigh 15 = .ok (.ireturn, 1) := by decide +kernel
theorem dX6_sumOf_0 : decode cX6_sumOf 0 = .ok (.iconst 0, 1) := by decide +kernel
theorem dX6_sumOf_1 : decode cX6_sumOf 1 = .ok (.istore_n 2, 1) := by decide +kernel
theorem dX6_sumOf_2 : decode cX6_sumOf 2 = .ok (.iconst 0, 1) := by decide +kernel
theorem dX6_sumOf_3 : decode cX6_sumOf 3 = .ok (.istore_n 3, 1) := by decide +kernel
theorem dX6_sumOf_4 : decode cX6_sumOf 4 = .ok (.iload_n 3, 1) := by decide +kernel
theorem dX6_sumOf_5 : decode cX6_sumOf 5 = .ok (.aload_n 0, 1) := by decide +kernel
theorem dX6_sumOf_6 : decode cX6_sumOf 6 = .ok (.getfield 15, 3) := by decide +kernel
theorem dX6_sumOf_9 : decode cX6_sumOf 9 = .ok (.iload_n 1, 1) := by decide +kernel
theorem dX6_sumOf_10 : decode cX6_sumOf 10 = .ok (.iaload, 1) := by decide +kernel
theorem dX6_sumOf_11 : decode cX6_sumOf 11 = .ok (.if_icmp .ge 23, 3) := by decide +kernel
theorem dX6_sumOf_14 : decode cX6_sumOf 14 = .ok (.iload_n 2, 1) := by decide +kernel
theorem dX6_sumOf_15 : decode cX6_sumOf 15 = .ok (.aload_n 0, 1) := by decide +kernel
theorem dX6_sumOf_16 : decode cX6_sumOf 16 = .ok (.getfield 9, 3) := by decide +kernel
theorem dX6_sumOf_19 : decode cX6_sumOf 19 = .ok (.iload_n 1, 1) := by decide +kernel
theorem dX6_sumOf_20 : decode cX6_sumOf 20 = .ok (.bipush 16, 2) := by decide +kernel
theorem dX6_sumOf_22 : decode cX6_sumOf 22 = .ok (.imul, 1) := by decide +kernel
theorem dX6_sumOf_23 : decode cX6_sumOf 23 = .ok (.iload_n 3, 1) := by decide +kernel
theorem dX6_sumOf_24 : decode cX6_sumOf 24 = .ok (.iadd, 1) := by decide +kernel
theorem dX6_sumOf_25 : decode cX6_sumOf 25 = .ok (.baload, 1) := by decide +kernel
theorem dX6_sumOf_26 : decode cX6_sumOf 26 = .ok (.iadd, 1) := by decide +kernel
theorem dX6_sumOf_27 : decode cX6_sumOf 27 = .ok (.istore_n 2, 1) := by decide +kernel
theorem dX6_sumOf_28 : decode cX6_sumOf 28 = .ok (.iinc 3 1, 3) := by decide +kernel
theorem dX6_sumOf_31 : decode cX6_sumOf 31 = .ok (.goto (-27), 3) := by decide +kernel
theorem dX6_sumOf_34 : decode cX6_sumOf 34 = .ok (.iload_n 2, 1) := by decide +kernel
theorem dX6_sumOf_35 : decode cX6_sumOf 35 = .ok (.ireturn, 1) := by decide +kernel
theorem dX6_mixInto_0 : decode cX6_mixInto 0 = .ok (.iconst 0, 1) := by decide +kernel
theorem dX6_mixInto_1 : decode cX6_mixInto 1 = .ok (.istore_n 3, 1) := by decide +kernel
theorem dX6_mixInto_2 : decode cX6_mixInto 2 = .ok (.iload_n 3, 1) := by decide +kernel
theorem dX6_mixInto_3 : decode cX6_mixInto 3 = .ok (.iconst 4, 1) := by decide +kernel
theorem dX6_mixInto_4 : decode cX6_mixInto 4 = .ok (.if_icmp .ge 77, 3) := by decide +kernel
theorem dX6_mixInto_7 : decode cX6_mixInto 7 = .ok (.ldc2_w 34, 3) := by decide +kernel
theorem dX6_mixInto_10 : decode cX6_mixInto 10 = .ok (.lload_n 1, 1) := by decide +kernel
theorem dX6_mixInto_11 : decode cX6_mixInto 11 = .ok (.lmul, 1) := by decide +kernel
theorem dX6_mixInto_12 : decode cX6_mixInto 12 = .ok (.aload_n 0, 1) := by decide +kernel
theorem dX6_mixInto_13 : decode cX6_mixInto 13 = .ok (.getfield 19, 3) := by decide +kernel
theorem dX6_mixInto_16 : decode cX6_mixInto 16 = .ok (.iload_n 3, 1) := by decide +kernel
theorem dX6_mixInto_17 : decode cX6_mixInto 17 = .ok (.iaload, 1) := by decide +kernel
theorem dX6_mixInto_18 : decode cX6_mixInto 18 = .ok (.i2l, 1) := by decide +kernel
theorem dX6_mixInto_19 : decode cX6_mixInto 19 = .ok (.ladd, 1) := by decide +kernel
theorem dX6_mixInto_20 : decode cX6_mixInto 20 = .ok (.lstore_n 1, 1) := by decide +kernel
theorem dX6_mixInto_21 : decode cX6_mixInto 21 = .ok (.ldc2_w 34, 3) := by decide +kernel
theorem dX6_mixInto_24 : decode cX6_mixInto 24 = .ok (.lload_n 1, 1) := by decide +kernel
theorem dX6_mixInto_25 : decode cX6_mixInto 25 = .ok (.lmul, 1) := by decide +kernel
theorem dX6_mixInto_26 : decode cX6_mixInto 26 = .ok (.aload_n 0, 1) := by decide +kernel
theorem dX6_mixInto_27 : decode cX6_mixInto 27 = .ok (.getfield 15, 3) := by decide +kernel
theorem dX6_mixInto_30 : decode cX6_mixInto 30 = .ok (.iload_n 3, 1) := by decide +kernel
theorem dX6_mixInto_31 : decode cX6_mixInto 31 = .ok (.iaload, 1) := by decide +kernel
theorem dX6_mixInto_32 : decode cX6_mixInto 32 = .ok (.i2l, 1) := by decide +kernel
theorem dX6_mixInto_33 : decode cX6_mixInto 33 = .ok (.ladd, 1) := by decide +kernel
theorem dX6_mixInto_34 : decode cX6_mixInto 34 = .ok (.lstore_n 1, 1) := by decide +kernel
theorem dX6_mixInto_35 : decode cX6_mixInto 35 = .ok (.iconst 0, 1) := by decide +kernel
theorem dX6_mixInto_36 : decode cX6_mixInto 36 = .ok (.istore 4, 2) := by decide +kernel
theorem dX6_mixInto_38 : decode cX6_mixInto 38 = .ok (.iload 4, 2) := by decide +kernel
theorem dX6_mixInto_40 : decode cX6_mixInto 40 = .ok (.aload_n 0, 1) := by decide +kernel
theorem dX6_mixInto_41 : decode cX6_mixInto 41 = .ok (.getfield 15, 3) := by decide +kernel
theorem dX6_mixInto_44 : decode cX6_mixInto 44 = .ok (.iload_n 3, 1) := by decide +kernel
theorem dX6_mixInto_45 : decode cX6_mixInto 45 = .ok (.iaload, 1) := by decide +kernel
theorem dX6_mixInto_46 : decode cX6_mixInto 46 = .ok (.if_icmp .ge 29, 3) := by decide +kernel
theorem dX6_mixInto_49 : decode cX6_mixInto 49 = .ok (.ldc2_w 34, 3) := by decide +kernel
theorem dX6_mixInto_52 : decode cX6_mixInto 52 = .ok (.lload_n 1, 1) := by decide +kernel
theorem dX6_mixInto_53 : decode cX6_mixInto 53 = .ok (.lmul, 1) := by decide +kernel
theorem dX6_mixInto_54 : decode cX6_mixInto 54 = .ok (.aload_n 0, 1) := by decide +kernel
theorem dX6_mixInto_55 : decode cX6_mixInto 55 = .ok (.getfield 9, 3) := by decide +kernel
theorem dX6_mixInto_58 : decode cX6_mixInto 58 = .ok (.iload_n 3, 1) := by decide +kernel
theorem dX6_mixInto_59 : decode cX6_mixInto 59 = .ok (.bipush 16, 2) := by decide +kernel
theorem dX6_mixInto_61 : decode cX6_mixInto 61 = .ok (.imul, 1) := by decide +kernel
theorem dX6_mixInto_62 : decode cX6_mixInto 62 = .ok (.iload 4, 2) := by decide +kernel
theorem dX6_mixInto_64 : decode cX6_mixInto 64 = .ok (.iadd, 1) := by decide +kernel
theorem dX6_mixInto_65 : decode cX6_mixInto 65 = .ok (.baload, 1) := by decide +kernel
theorem dX6_mixInto_66 : decode cX6_mixInto 66 = .ok (.i2l, 1) := by decide +kernel
theorem dX6_mixInto_67 : decode cX6_mixInto 67 = .ok (.ladd, 1) := by decide +kernel
theorem dX6_mixInto_68 : decode cX6_mixInto 68 = .ok (.lstore_n 1, 1) := by decide +kernel
theorem dX6_mixInto_69 : decode cX6_mixInto 69 = .ok (.iinc 4 1, 3) := by decide +kernel
theorem dX6_mixInto_72 : decode cX6_mixInto 72 = .ok (.goto (-34), 3) := by decide +kernel
theorem dX6_mixInto_75 : decode cX6_mixInto 75 = .ok (.iinc 3 1, 3) := by decide +kernel
theorem dX6_mixInto_78 : decode cX6_mixInto 78 = .ok (.goto (-76), 3) := by decide +kernel
theorem dX6_mixInto_81 : decode cX6_mixInto 81 = .ok (.lload_n 1, 1) := by decide +kernel
theorem dX6_mixInto_82 : decode cX6_mixInto 82 = .ok (.lreturn, 1) := by decide +kernel
end
section
noncomputable def fX0_put (c0_amounts : Nat → Int32) (c0_lows : Nat → Int32) (c0_highs : Nat → Int32) (p1 : Int32) (p2 : Int32) (p3 : Int32) (p4 : Int32) : Option ((Nat → Int32) × (Nat → Int32) × (Nat → Int32)) := og (vp_in p1 8) (og (vp_in p1 8) (og (vp_in p1 8) (some ((upd c0_amounts (Int32.toNatClampNeg p1) p2), (upd c0_lows (Int32.toNatClampNeg p1) p3), (upd c0_highs (Int32.toNatClampNeg p1) p4)))))
theorem ydX0_put : yX0_put.cls = RX0 ∧ yX0_put.cls ≠ "java/lang/invoke/MethodHandle" ∧ yX0_put.cls ≠ "java/lang/invoke/VarHandle" ∧ (parseMethodDescriptor yX0_put.desc).map (fun d => d.parameters.length) = some 4 := by decide +kernel
set_option maxHeartbeats 8000000 in
set_option maxRecDepth 100000 in
theorem kX0_put (l : Launch) (D : va_G) (cy : Nat → ClassId) (ad : Nat → Nat) (c0_amounts : Nat → Int32) (c0_lows : Nat → Int32) (c0_highs : Nat → Int32) (c0_barred : Nat → Int32) (p1 : Int32) (p2 : Int32) (p3 : Int32) (p4 : Int32) {z0_amounts : Nat → Int32} {z0_lows : Nat → Int32} {z0_highs : Nat → Int32} (hf : fX0_put c0_amounts c0_lows c0_highs p1 p2 p3 p4 = some (z0_amounts, z0_lows, z0_highs)) : CV l D cy yX0_put wsX0_put ({ frames := 0, cells := 0, slots := 0, locals := 0 } : Room) [.ref (ad 900), .int p1, .int p2, .int p3, .int p4] (w0 cy ad c0_amounts c0_lows c0_highs c0_barred) (w0 cy ad z0_amounts z0_lows z0_highs c0_barred) := by
  unfold fX0_put at hf
  refine c_of_v (own := RX0) (by decide) rfl rfl (Nat.le_of_ble_eq_true rfl) (fun X hC hRet => ?_)
  refine r_sub [(0, .ref (ad 900)), (1, .int p1), (2, .int p2), (3, .int p3), (4, .int p4)] [0, 1, 2, 3, 4] rfl ?_
  have hin0 : ∀ w ∈ wsX00, w ∈ wsX0_put := fun w h => List.mem_cons_of_mem _ (List.mem_append_right _ h)
  have hw0 : Cond.fieldLink RX0 9 "HotPipes$Cases" "amounts" "[I" ∈ wsX0_put := List.mem_of_getElem? (i := 1) rfl
  have hw1 : Cond.fieldLink RX0 15 "HotPipes$Cases" "lows" "[I" ∈ wsX0_put := List.mem_of_getElem? (i := 2) rfl
  have hw2 : Cond.fieldLink RX0 18 "HotPipes$Cases" "highs" "[I" ∈ wsX0_put := List.mem_of_getElem? (i := 3) rfl
  refine r_aload_n hC dX0_put_0 rfl 0 rfl ?_
  refine r_get hC hin0 0 rfl rfl 0 (by decide) rfl hw0 rfl dX0_put_1 ?_
  refine r_iload_n hC dX0_put_4 rfl 1 rfl ?_
  refine r_iload_n hC dX0_put_5 rfl 2 rfl ?_
  obtain ⟨g1, hf⟩ := og_some hf
  refine r_iast hC 1 rfl g1 dX0_put_6 (w0 cy ad (upd c0_amounts (Int32.toNatClampNeg p1) p2) c0_lows c0_highs c0_barred) rfl ?_
  refine r_aload_n hC dX0_put_7 rfl 0 rfl ?_
  refine r_get hC hin0 0 rfl rfl 1 (by decide) rfl hw1 rfl dX0_put_8 ?_
  refine r_iload_n hC dX0_put_11 rfl 1 rfl ?_
  refine r_iload_n hC dX0_put_12 rfl 3 rfl ?_
  obtain ⟨g2, hf⟩ := og_some hf
  refine r_iast hC 2 rfl g2 dX0_put_13 (w0 cy ad (upd c0_amounts (Int32.toNatClampNeg p1) p2) (upd c0_lows (Int32.toNatClampNeg p1) p3) c0_highs c0_barred) rfl ?_
  refine r_aload_n hC dX0_put_14 rfl 0 rfl ?_
  refine r_get hC hin0 0 rfl rfl 2 (by decide) rfl hw2 rfl dX0_put_15 ?_
  refine r_iload_n hC dX0_put_18 rfl 1 rfl ?_
  refine r_iload hC dX0_put_19 4 rfl ?_
  obtain ⟨g3, hf⟩ := og_some hf
  refine r_iast hC 3 rfl g3 dX0_put_21 (w0 cy ad (upd c0_amounts (Int32.toNatClampNeg p1) p2) (upd c0_lows (Int32.toNatClampNeg p1) p3) (upd c0_highs (Int32.toNatClampNeg p1) p4) c0_barred) rfl ?_
  obtain ⟨rfl, rfl, rfl⟩ := so_3 hf
  exact hRet _ _ _ dX0_put_22
noncomputable def fX0_setBarred (c0_barred : Nat → Int32) (p1 : Int32) (p2 : Int32) (p3 : Int32) : Option (Int32 × (Nat → Int32)) := og (vp_in p1 8) (ob ((if ((c0_barred (Int32.toNatClampNeg p1)) &&& (1 <<< (p2 &&& 31))) = 0 then some 0 else some 1)) (fun (t2 : Int32) => (if t2 = p3 then og (t2 = 0 ∨ t2 = 1) (some (t2, c0_barred)) else og (vp_in p1 8) (og (vp_in p1 8) (og (vp_in p2 8) (og (vp_in p2 8) (og (t2 = 0 ∨ t2 = 1) (some (t2, (upd (upd c0_barred (Int32.toNatClampNeg p1) ((c0_barred (Int32.toNatClampNeg p1)) ^^^ (1 <<< (p2 &&& 31)))) (Int32.toNatClampNeg p2) (((upd c0_barred (Int32.toNatClampNeg p1) ((c0_barred (Int32.toNatClampNeg p1)) ^^^ (1 <<< (p2 &&& 31)))) (Int32.toNatClampNeg p2)) ^^^ (1 <<< (p1 &&& 31)))))))))))))
theorem ydX0_setBarred : yX0_setBarred.cls = RX0 ∧ yX0_setBarred.cls ≠ "java/lang/invoke/MethodHandle" ∧ yX0_setBarred.cls ≠ "java/lang/invoke/VarHandle" ∧ (parseMethodDescriptor yX0_setBarred.desc).map (fun d => d.parameters.length) = some 3 := by decide +kernel
set_option maxHeartbeats 8000000 in
set_option maxRecDepth 100000 in
theorem kX0_setBarred (l : Launch) (D : va_G) (cy : Nat → ClassId) (ad : Nat → Nat) (c0_amounts : Nat → Int32) (c0_lows : Nat → Int32) (c0_highs : Nat → Int32) (c0_barred : Nat → Int32) (p1 : Int32) (p2 : Int32) (p3 : Int32) {ra : Int32} {z0_barred : Nat → Int32} (hf : fX0_setBarred c0_barred p1 p2 p3 = some (ra, z0_barred)) : CI l D cy yX0_setBarred wsX0_setBarred ({ frames := 0, cells := 0, slots := 0, locals := 0 } : Room) [.ref (ad 900), .int p1, .int p2, .int p3] (w0 cy ad c0_amounts c0_lows c0_highs c0_barred) ra (w0 cy ad c0_amounts c0_lows c0_highs z0_barred) := by
  unfold fX0_setBarred at hf
  refine c_of_i (ty := .boolean) (own := RX0) (by decide) rfl rfl (Nat.le_of_ble_eq_true rfl) (fun X hC hRet => ?_)
  refine r_sub [(0, .ref (ad 900)), (1, .int p1), (2, .int p2), (3, .int p3)] [0, 1, 2, 3] rfl ?_
  have hin0 : ∀ w ∈ wsX00, w ∈ wsX0_setBarred := fun w h => List.mem_cons_of_mem _ (List.mem_append_right _ h)
  have hw0 : Cond.fieldLink RX0 21 "HotPipes$Cases" "barred" "[I" ∈ wsX0_setBarred := List.mem_of_getElem? (i := 1) rfl
  refine r_aload_n hC dX0_setBarred_0 rfl 0 rfl ?_
  refine r_get hC hin0 0 rfl rfl 3 (by decide) rfl hw0 rfl dX0_setBarred_1 ?_
  refine r_iload_n hC dX0_setBarred_4 rfl 1 rfl ?_
  obtain ⟨g1, hf⟩ := og_some hf
  refine r_iald hC 4 rfl g1 dX0_setBarred_5 ?_
  refine r_iconst hC dX0_setBarred_6 ic_1 ?_
  refine r_iload_n hC dX0_setBarred_7 rfl 2 rfl ?_
  refine r_ishl hC dX0_setBarred_8 ?_
  refine r_iand hC dX0_setBarred_9 ?_
  obtain ⟨t2, h11, hf⟩ := ob_some hf
  have J18_10 : GG X 5 0 0 (w0 cy ad c0_amounts c0_lows c0_highs c0_barred) [(0, .ref (ad 900)), (1, .int p1), (2, .int p2), (3, .int p3)] 18 [.int t2] := by
    refine r_istore hC [(4, .int t2), (0, .ref (ad 900)), (1, .int p1), (2, .int p2), (3, .int p3)] dX0_setBarred_18 (by decide) rfl ?_
    refine r_iload hC dX0_setBarred_20 0 rfl ?_
    refine r_iload_n hC dX0_setBarred_22 rfl 4 rfl ?_
    refine r_icmp_eq (tgt := 50) hC dX0_setBarred_23 (by decide) (fun c3 => ?_) (fun c3 => ?_)
    · replace hf := o_pos hf c3
      refine r_iload hC dX0_setBarred_50 0 rfl ?_
      obtain ⟨g4, hf⟩ := og_some hf
      obtain ⟨rfl, rfl⟩ := so_2 hf
      exact hRet _ _ _ dX0_setBarred_52 (nb_of g4)
    · replace hf := o_neg hf c3
      refine r_aload_n hC dX0_setBarred_26 rfl 1 rfl ?_
      refine r_get hC hin0 0 rfl rfl 3 (by decide) rfl hw0 rfl dX0_setBarred_27 ?_
      refine r_iload_n hC dX0_setBarred_30 rfl 2 rfl ?_
      refine r_dup2 hC dX0_setBarred_31 rfl rfl ?_
      obtain ⟨g5, hf⟩ := og_some hf
      refine r_iald hC 4 rfl g5 dX0_setBarred_32 ?_
      refine r_iconst hC dX0_setBarred_33 ic_1 ?_
      refine r_iload_n hC dX0_setBarred_34 rfl 3 rfl ?_
      refine r_ishl hC dX0_setBarred_35 ?_
      refine r_ixor hC dX0_setBarred_36 ?_
      obtain ⟨g6, hf⟩ := og_some hf
      refine r_iast hC 4 rfl g6 dX0_setBarred_37 (w0 cy ad c0_amounts c0_lows c0_highs (upd c0_barred (Int32.toNatClampNeg p1) ((c0_barred (Int32.toNatClampNeg p1)) ^^^ (1 <<< (p2 &&& 31))))) rfl ?_
      refine r_aload_n hC dX0_setBarred_38 rfl 1 rfl ?_
      refine r_get hC hin0 0 rfl rfl 3 (by decide) rfl hw0 rfl dX0_setBarred_39 ?_
      refine r_iload_n hC dX0_setBarred_42 rfl 3 rfl ?_
      refine r_dup2 hC dX0_setBarred_43 rfl rfl ?_
      obtain ⟨g7, hf⟩ := og_some hf
      refine r_iald hC 4 rfl g7 dX0_setBarred_44 ?_
      refine r_iconst hC dX0_setBarred_45 ic_1 ?_
      refine r_iload_n hC dX0_setBarred_46 rfl 2 rfl ?_
      refine r_ishl hC dX0_setBarred_47 ?_
      refine r_ixor hC dX0_setBarred_48 ?_
      obtain ⟨g8, hf⟩ := og_some hf
      refine r_iast hC 4 rfl g8 dX0_setBarred_49 (w0 cy ad c0_amounts c0_lows c0_highs (upd (upd c0_barred (Int32.toNatClampNeg p1) ((c0_barred (Int32.toNatClampNeg p1)) ^^^ (1 <<< (p2 &&& 31)))) (Int32.toNatClampNeg p2) (((upd c0_barred (Int32.toNatClampNeg p1) ((c0_barred (Int32.toNatClampNeg p1)) ^^^ (1 <<< (p2 &&& 31)))) (Int32.toNatClampNeg p2)) ^^^ (1 <<< (p1 &&& 31))))) rfl ?_
      refine r_iload hC dX0_setBarred_50 0 rfl ?_
      obtain ⟨g9, hf⟩ := og_some hf
      obtain ⟨rfl, rfl⟩ := so_2 hf
      exact hRet _ _ _ dX0_setBarred_52 (nb_of g9)
  replace hf := h11
  refine r_if_eq (tgt := 17) hC dX0_setBarred_10 (by decide) (fun c12 => ?_) (fun c12 => ?_)
  · replace hf := o_pos hf c12
    refine r_iconst hC dX0_setBarred_17 ic_0 ?_
    obtain rfl := so_1 hf
    exact J18_10
  · replace hf := o_neg hf c12
    refine r_iconst hC dX0_setBarred_13 ic_1 ?_
    refine r_goto (tgt := 18) hC dX0_setBarred_14 (by decide) ?_
    obtain rfl := so_1 hf
    exact J18_10
noncomputable def fX0_goesTogether_L2 (c0_barred : Nat → Int32) (p1 : Int32) : Nat → Int32 → Option (Int32)
  | 0, _ => none
  | n + 1, x1 => (if 8 ≤ x1 then some 1 else oj (fX0_goesTogether_L2 c0_barred p1 n (x1 + 1)) (fun (K29_3 : Option (Int32)) => (if (p1 &&& (1 <<< (x1 &&& 31))) = 0 then K29_3 else og (vp_in x1 8) ((if (p1 &&& (c0_barred (Int32.toNatClampNeg x1))) = 0 then K29_3 else some 0)))))
noncomputable def fX0_goesTogether (N : Nat) (c0_barred : Nat → Int32) (p1 : Int32) : Option (Int32) := fX0_goesTogether_L2 c0_barred p1 N 0
theorem ydX0_goesTogether : yX0_goesTogether.cls = RX0 ∧ yX0_goesTogether.cls ≠ "java/lang/invoke/MethodHandle" ∧ yX0_goesTogether.cls ≠ "java/lang/invoke/VarHandle" ∧ (parseMethodDescriptor yX0_goesTogether.desc).map (fun d => d.parameters.length) = some 1 := by decide +kernel
set_option maxHeartbeats 8000000 in
set_option maxRecDepth 100000 in
theorem kX0_goesTogether (l : Launch) (D : va_G) (cy : Nat → ClassId) (ad : Nat → Nat) (c0_amounts : Nat → Int32) (c0_lows : Nat → Int32) (c0_highs : Nat → Int32) (c0_barred : Nat → Int32) (p1 : Int32) (N : Nat) {ra : Int32} (hf : fX0_goesTogether N c0_barred p1 = some ra) : CI l D cy yX0_goesTogether wsX0_goesTogether ({ frames := 0, cells := 0, slots := 0, locals := 0 } : Room) [.ref (ad 900), .int p1] (w0 cy ad c0_amounts c0_lows c0_highs c0_barred) ra (w0 cy ad c0_amounts c0_lows c0_highs c0_barred) := by
  unfold fX0_goesTogether at hf
  refine c_of_i (ty := .boolean) (own := RX0) (by decide) rfl rfl (Nat.le_of_ble_eq_true rfl) (fun X hC hRet => ?_)
  refine r_sub [(0, .ref (ad 900)), (1, .int p1)] [0, 1] rfl ?_
  have hin0 : ∀ w ∈ wsX00, w ∈ wsX0_goesTogether := fun w h => List.mem_cons_of_mem _ (List.mem_append_right _ h)
  have hw0 : Cond.fieldLink RX0 21 "HotPipes$Cases" "barred" "[I" ∈ wsX0_goesTogether := List.mem_of_getElem? (i := 1) rfl
  refine r_iconst hC dX0_goesTogether_0 ic_0 ?_
  refine r_istore_n hC [(2, .int 0), (0, .ref (ad 900)), (1, .int p1)] dX0_goesTogether_1 rfl (by decide) rfl ?_
  have L2 : ∀ (n : Nat) (x1 : Int32), fX0_goesTogether_L2 c0_barred p1 n x1 = some ra → GG X 3 0 0 (w0 cy ad c0_amounts c0_lows c0_highs c0_barred) [(0, .ref (ad 900)), (1, .int p1), (2, .int x1)] 2 [] := by
    intro n
    induction n with
    | zero => intro x1 hf; cases (show none = some _ from hf)
    | succ n ih =>
      intro x1 hf
      rw [fX0_goesTogether_L2] at hf
      refine r_iload_n hC dX0_goesTogether_2 rfl 2 rfl ?_
      refine r_bipush hC dX0_goesTogether_3 bp_8 ?_
      refine r_icmp_ge (tgt := 35) hC dX0_goesTogether_5 (by decide) (fun c2 => ?_) (fun c2 => ?_)
      · replace hf := o_pos hf c2
        refine r_iconst hC dX0_goesTogether_35 ic_1 ?_
        obtain rfl := so_1 hf
        exact hRet _ _ _ dX0_goesTogether_36 nb_1
      · replace hf := o_neg hf c2
        refine r_iload_n hC dX0_goesTogether_8 rfl 1 rfl ?_
        refine r_iconst hC dX0_goesTogether_9 ic_1 ?_
        refine r_iload_n hC dX0_goesTogether_10 rfl 2 rfl ?_
        refine r_ishl hC dX0_goesTogether_11 ?_
        refine r_iand hC dX0_goesTogether_12 ?_
        obtain ⟨K29_3, eK29_3, hf⟩ := oj_some hf
        have J29_3 : K29_3 = some ra → GG X 3 0 0 (w0 cy ad c0_amounts c0_lows c0_highs c0_barred) [(0, .ref (ad 900)), (1, .int p1), (2, .int x1)] 29 [] := by
          intro hf
          replace hf := oa0 eK29_3 hf
          refine r_iinc hC [(2, .int (x1 + 1)), (0, .ref (ad 900)), (1, .int p1)] (x1 + 1) dX0_goesTogether_29 2 rfl (ii_1 _) (by decide) rfl ?_
          refine r_goto (tgt := 2) hC dX0_goesTogether_32 (by decide) ?_
          refine r_sub [(0, .ref (ad 900)), (1, .int p1), (2, .int (x1 + 1))] [1, 2, 0] rfl ?_
          exact ih (x1 + 1) hf
        refine r_if_eq (tgt := 29) hC dX0_goesTogether_13 (by decide) (fun c4 => ?_) (fun c4 => ?_)
        · replace hf := o_pos hf c4
          exact J29_3 hf
        · replace hf := o_neg hf c4
          refine r_iload_n hC dX0_goesTogether_16 rfl 1 rfl ?_
          refine r_aload_n hC dX0_goesTogether_17 rfl 0 rfl ?_
          refine r_get hC hin0 0 rfl rfl 3 (by decide) rfl hw0 rfl dX0_goesTogether_18 ?_
          refine r_iload_n hC dX0_goesTogether_21 rfl 2 rfl ?_
          obtain ⟨g5, hf⟩ := og_some hf
          refine r_iald hC 4 rfl g5 dX0_goesTogether_22 ?_
          refine r_iand hC dX0_goesTogether_23 ?_
          refine r_if_eq (tgt := 29) hC dX0_goesTogether_24 (by decide) (fun c6 => ?_) (fun c6 => ?_)
          · replace hf := o_pos hf c6
            exact J29_3 hf
          · replace hf := o_neg hf c6
            refine r_iconst hC dX0_goesTogether_27 ic_0 ?_
            obtain rfl := so_1 hf
            exact hRet _ _ _ dX0_goesTogether_28 nb_0
  refine r_sub [(0, .ref (ad 900)), (1, .int p1), (2, .int 0)] [1, 2, 0] rfl ?_
  exact L2 N 0 hf
noncomputable def fX0_joined_L4 (c0_amounts : Nat → Int32) (c0_lows : Nat → Int32) (c0_highs : Nat → Int32) (p1 : Int32) : Nat → Int32 → Int32 → Option (Int32)
  | 0, _, _ => none
  | n + 1, x1, x2 => (if 8 ≤ x2 then some x1 else ob ((if (p1 &&& (1 <<< (x2 &&& 31))) = 0 then some x1 else og (vp_in x2 8) (og (vp_in x2 8) (og (vp_in x2 8) (og (vp_in x2 8) (olet (x1 + (if ((c0_amounts (Int32.toNatClampNeg x2)) * (c0_lows (Int32.toNatClampNeg x2))) < ((c0_amounts (Int32.toNatClampNeg x2)) * (c0_highs (Int32.toNatClampNeg x2))) then ((c0_amounts (Int32.toNatClampNeg x2)) * (c0_highs (Int32.toNatClampNeg x2))) else ((c0_amounts (Int32.toNatClampNeg x2)) * (c0_lows (Int32.toNatClampNeg x2))))) (fun (x12 : Int32) => some x12))))))) (fun (x4 : Int32) => fX0_joined_L4 c0_amounts c0_lows c0_highs p1 n x4 (x2 + 1)))
noncomputable def fX0_joined (N : Nat) (c0_amounts : Nat → Int32) (c0_lows : Nat → Int32) (c0_highs : Nat → Int32) (p1 : Int32) : Option (Int32) := fX0_joined_L4 c0_amounts c0_lows c0_highs p1 N 0 0
theorem ydX0_joined : yX0_joined.cls = RX0 ∧ yX0_joined.cls ≠ "java/lang/invoke/MethodHandle" ∧ yX0_joined.cls ≠ "java/lang/invoke/VarHandle" ∧ (parseMethodDescriptor yX0_joined.desc).map (fun d => d.parameters.length) = some 1 := by decide +kernel
set_option maxHeartbeats 8000000 in
set_option maxRecDepth 100000 in
theorem kX0_joined (l : Launch) (D : va_G) (cy : Nat → ClassId) (ad : Nat → Nat) (c0_amounts : Nat → Int32) (c0_lows : Nat → Int32) (c0_highs : Nat → Int32) (c0_barred : Nat → Int32) (p1 : Int32) (N : Nat) {ra : Int32} (hf : fX0_joined N c0_amounts c0_lows c0_highs p1 = some ra) : CI l D cy yX0_joined wsX0_joined ({ frames := 1, cells := 0, slots := 0, locals := 21 } : Room) [.ref (ad 900), .int p1] (w0 cy ad c0_amounts c0_lows c0_highs c0_barred) ra (w0 cy ad c0_amounts c0_lows c0_highs c0_barred) := by
  unfold fX0_joined at hf
  refine c_of_i (ty := .int) (own := RX0) (by decide) rfl rfl (Nat.le_of_ble_eq_true rfl) (fun X hC hRet => ?_)
  refine r_sub [(0, .ref (ad 900)), (1, .int p1)] [0, 1] rfl ?_
  have hin0 : ∀ w ∈ wsX00, w ∈ wsX0_joined := fun w h => List.mem_cons_of_mem _ (List.mem_append_right _ h)
  have hw0 : Cond.fieldLink RX0 9 "HotPipes$Cases" "amounts" "[I" ∈ wsX0_joined := List.mem_of_getElem? (i := 1) rfl
  have hw1 : Cond.fieldLink RX0 15 "HotPipes$Cases" "lows" "[I" ∈ wsX0_joined := List.mem_of_getElem? (i := 2) rfl
  have hw2 : Cond.fieldLink RX0 18 "HotPipes$Cases" "highs" "[I" ∈ wsX0_joined := List.mem_of_getElem? (i := 3) rfl
  have hw3 : Cond.methodLink RX0 38 Lib.Math.max.name ∈ wsX0_joined := List.mem_of_getElem? (i := 4) rfl
  have hw4 : Cond.static Lib.Math.max.name ∈ wsX0_joined := List.mem_of_getElem? (i := 5) rfl
  have hw5 : Cond.initialized "java/lang/Math" ∈ wsX0_joined := List.mem_of_getElem? (i := 6) rfl
  have hw6 : Cond.code Lib.Math.max.name Lib.Math.max.code 2 (some .int) ∈ wsX0_joined := List.mem_of_getElem? (i := 7) rfl
  refine r_iconst hC dX0_joined_0 ic_0 ?_
  refine r_istore_n hC [(2, .int 0), (0, .ref (ad 900)), (1, .int p1)] dX0_joined_1 rfl (by decide) rfl ?_
  refine r_iconst hC dX0_joined_2 ic_0 ?_
  refine r_istore_n hC [(3, .int 0), (2, .int 0), (0, .ref (ad 900)), (1, .int p1)] dX0_joined_3 rfl (by decide) rfl ?_
  have L4 : ∀ (n : Nat) (x1 : Int32) (x2 : Int32), fX0_joined_L4 c0_amounts c0_lows c0_highs p1 n x1 x2 = some ra → GG X 4 0 0 (w0 cy ad c0_amounts c0_lows c0_highs c0_barred) [(0, .ref (ad 900)), (1, .int p1), (2, .int x1), (3, .int x2)] 4 [] := by
    intro n
    induction n with
    | zero => intro x1 x2 hf; cases (show none = some _ from hf)
    | succ n ih =>
      intro x1 x2 hf
      rw [fX0_joined_L4] at hf
      refine r_iload_n hC dX0_joined_4 rfl 3 rfl ?_
      refine r_bipush hC dX0_joined_5 bp_8 ?_
      refine r_icmp_ge (tgt := 56) hC dX0_joined_7 (by decide) (fun c3 => ?_) (fun c3 => ?_)
      · replace hf := o_pos hf c3
        refine r_iload_n hC dX0_joined_56 rfl 2 rfl ?_
        obtain rfl := so_1 hf
        exact hRet _ _ _ dX0_joined_57 rfl
      · replace hf := o_neg hf c3
        refine r_iload_n hC dX0_joined_10 rfl 1 rfl ?_
        refine r_iconst hC dX0_joined_11 ic_1 ?_
        refine r_iload_n hC dX0_joined_12 rfl 3 rfl ?_
        refine r_ishl hC dX0_joined_13 ?_
        refine r_iand hC dX0_joined_14 ?_
        obtain ⟨x4, h6, hf⟩ := ob_some hf
        have J50_5 : GG X 4 0 0 (w0 cy ad c0_amounts c0_lows c0_highs c0_barred) [(0, .ref (ad 900)), (1, .int p1), (2, .int x4), (3, .int x2)] 50 [] := by
          refine r_iinc hC [(3, .int (x2 + 1)), (0, .ref (ad 900)), (1, .int p1), (2, .int x4)] (x2 + 1) dX0_joined_50 3 rfl (ii_1 _) (by decide) rfl ?_
          refine r_goto (tgt := 4) hC dX0_joined_53 (by decide) ?_
          refine r_sub [(0, .ref (ad 900)), (1, .int p1), (2, .int x4), (3, .int (x2 + 1))] [1, 2, 3, 0] rfl ?_
          exact ih x4 (x2 + 1) hf
        replace hf := h6
        refine r_if_eq (tgt := 50) hC dX0_joined_15 (by decide) (fun c7 => ?_) (fun c7 => ?_)
        · replace hf := o_pos hf c7
          obtain rfl := so_1 hf
          exact J50_5
        · replace hf := o_neg hf c7
          refine r_iload_n hC dX0_joined_18 rfl 2 rfl ?_
          refine r_aload_n hC dX0_joined_19 rfl 0 rfl ?_
          refine r_get hC hin0 0 rfl rfl 0 (by decide) rfl hw0 rfl dX0_joined_20 ?_
          refine r_iload_n hC dX0_joined_23 rfl 3 rfl ?_
          obtain ⟨g8, hf⟩ := og_some hf
          refine r_iald hC 1 rfl g8 dX0_joined_24 ?_
          refine r_aload_n hC dX0_joined_25 rfl 0 rfl ?_
          refine r_get hC hin0 0 rfl rfl 1 (by decide) rfl hw1 rfl dX0_joined_26 ?_
          refine r_iload_n hC dX0_joined_29 rfl 3 rfl ?_
          obtain ⟨g9, hf⟩ := og_some hf
          refine r_iald hC 2 rfl g9 dX0_joined_30 ?_
          refine r_imul hC dX0_joined_31 ?_
          refine r_aload_n hC dX0_joined_32 rfl 0 rfl ?_
          refine r_get hC hin0 0 rfl rfl 0 (by decide) rfl hw0 rfl dX0_joined_33 ?_
          refine r_iload_n hC dX0_joined_36 rfl 3 rfl ?_
          obtain ⟨g10, hf⟩ := og_some hf
          refine r_iald hC 1 rfl g10 dX0_joined_37 ?_
          refine r_aload_n hC dX0_joined_38 rfl 0 rfl ?_
          refine r_get hC hin0 0 rfl rfl 2 (by decide) rfl hw2 rfl dX0_joined_39 ?_
          refine r_iload_n hC dX0_joined_42 rfl 3 rfl ?_
          obtain ⟨g11, hf⟩ := og_some hf
          refine r_iald hC 3 rfl g11 dX0_joined_43 ?_
          refine r_imul hC dX0_joined_44 ?_
          refine r_mmax hC hw3 hw4 hw5 hw6 (Nat.le_of_ble_eq_true rfl) (Nat.le_of_ble_eq_true rfl) (Nat.le_refl 0) (Nat.le_refl 0) dX0_joined_45 ?_
          refine r_iadd hC dX0_joined_48 ?_
          refine r_topi (fun x12 ex12 => ?_)
          replace hf := olet_some hf ex12
          refine r_istore_n hC [(2, .int x12), (0, .ref (ad 900)), (1, .int p1), (3, .int x2)] dX0_joined_49 rfl (by decide) rfl ?_
          obtain rfl := so_1 hf
          refine r_sub [(0, .ref (ad 900)), (1, .int p1), (2, .int x12), (3, .int x2)] [1, 2, 0, 3] rfl ?_
          exact J50_5
  refine r_sub [(0, .ref (ad 900)), (1, .int p1), (2, .int 0), (3, .int 0)] [2, 3, 1, 0] rfl ?_
  exact L4 N 0 0 hf
noncomputable def fX0_worstSet_L6 (N : Nat) (c0_amounts : Nat → Int32) (c0_lows : Nat → Int32) (c0_highs : Nat → Int32) (c0_barred : Nat → Int32) : Nat → Int32 → Int32 → Int32 → Option (Int32)
  | 0, _, _, _ => none
  | n + 1, x1, x2, x3 => (if 256 ≤ x3 then some x1 else ob (fX0_goesTogether N c0_barred x3) (fun (r5 : Int32) => ob2 ((if r5 = 0 then some (x1, x2) else ob (fX0_joined N c0_amounts c0_lows c0_highs x3) (fun (r12 : Int32) => (if r12 ≤ x2 then some (x1, x2) else some (x3, r12))))) (fun (x7 : Int32) (x8 : Int32) => fX0_worstSet_L6 N c0_amounts c0_lows c0_highs c0_barred n x7 x8 (x3 + 1))))
noncomputable def fX0_worstSet (N : Nat) (c0_amounts : Nat → Int32) (c0_lows : Nat → Int32) (c0_highs : Nat → Int32) (c0_barred : Nat → Int32) : Option (Int32) := fX0_worstSet_L6 N c0_amounts c0_lows c0_highs c0_barred N 0 0 1
theorem ydX0_worstSet : yX0_worstSet.cls = RX0 ∧ yX0_worstSet.cls ≠ "java/lang/invoke/MethodHandle" ∧ yX0_worstSet.cls ≠ "java/lang/invoke/VarHandle" ∧ (parseMethodDescriptor yX0_worstSet.desc).map (fun d => d.parameters.length) = some 0 := by decide +kernel
set_option maxHeartbeats 8000000 in
set_option maxRecDepth 100000 in
theorem kX0_worstSet (l : Launch) (D : va_G) (cy : Nat → ClassId) (ad : Nat → Nat) (c0_amounts : Nat → Int32) (c0_lows : Nat → Int32) (c0_highs : Nat → Int32) (c0_barred : Nat → Int32) (N : Nat) {ra : Int32} (hf : fX0_worstSet N c0_amounts c0_lows c0_highs c0_barred = some ra) : CI l D cy yX0_worstSet wsX0_worstSet ({ frames := 2, cells := 0, slots := 0, locals := 44 } : Room) [.ref (ad 900)] (w0 cy ad c0_amounts c0_lows c0_highs c0_barred) ra (w0 cy ad c0_amounts c0_lows c0_highs c0_barred) := by
  unfold fX0_worstSet at hf
  refine c_of_i (ty := .int) (own := RX0) (by decide) rfl rfl (Nat.le_of_ble_eq_true rfl) (fun X hC hRet => ?_)
  refine r_sub [(0, .ref (ad 900))] [0] rfl ?_
  refine r_iconst hC dX0_worstSet_0 ic_0 ?_
  refine r_istore_n hC [(1, .int 0), (0, .ref (ad 900))] dX0_worstSet_1 rfl (by decide) rfl ?_
  refine r_iconst hC dX0_worstSet_2 ic_0 ?_
  refine r_istore_n hC [(2, .int 0), (1, .int 0), (0, .ref (ad 900))] dX0_worstSet_3 rfl (by decide) rfl ?_
  refine r_iconst hC dX0_worstSet_4 ic_1 ?_
  refine r_istore_n hC [(3, .int 1), (2, .int 0), (1, .int 0), (0, .ref (ad 900))] dX0_worstSet_5 rfl (by decide) rfl ?_
  have L6 : ∀ (n : Nat) (x1 : Int32) (x2 : Int32) (x3 : Int32), fX0_worstSet_L6 N c0_amounts c0_lows c0_highs c0_barred n x1 x2 x3 = some ra → GG X 5 0 0 (w0 cy ad c0_amounts c0_lows c0_highs c0_barred) [(0, .ref (ad 900)), (1, .int x1), (2, .int x2), (3, .int x3)] 6 [] := by
    intro n
    induction n with
    | zero => intro x1 x2 x3 hf; cases (show none = some _ from hf)
    | succ n ih =>
      intro x1 x2 x3 hf
      rw [fX0_worstSet_L6] at hf
      refine r_iload_n hC dX0_worstSet_6 rfl 3 rfl ?_
      refine r_sipush hC dX0_worstSet_7 sp_256 ?_
      refine r_icmp_ge (tgt := 45) hC dX0_worstSet_10 (by decide) (fun c4 => ?_) (fun c4 => ?_)
      · replace hf := o_pos hf c4
        refine r_iload_n hC dX0_worstSet_45 rfl 1 rfl ?_
        obtain rfl := so_1 hf
        exact hRet _ _ _ dX0_worstSet_46 rfl
      · replace hf := o_neg hf c4
        refine r_aload_n hC dX0_worstSet_13 rfl 0 rfl ?_
        refine r_iload_n hC dX0_worstSet_14 rfl 3 rfl ?_
        obtain ⟨r5, h6, hf⟩ := ob_some hf
        refine r_vi (st := []) hC (kX0_goesTogether l D cy ad c0_amounts c0_lows c0_highs c0_barred x3 N h6) gX0_worstSet_X0_goesTogether rfl ⟨rfl, rfl⟩ ydX0_goesTogether ⟨Nat.le_of_ble_eq_true rfl, Nat.le_of_ble_eq_true rfl⟩ ⟨Nat.le_refl 0, Nat.le_refl 0⟩ 0 rfl rfl [] [] rfl _ rfl (Nat.le_of_ble_eq_true rfl) dX0_worstSet_15 (w0 cy ad c0_amounts c0_lows c0_highs c0_barred) rfl ?_
        obtain ⟨x7, x8, h10, hf⟩ := ob2_some hf
        have J39_9 : GG X 5 0 0 (w0 cy ad c0_amounts c0_lows c0_highs c0_barred) [(0, .ref (ad 900)), (1, .int x7), (2, .int x8), (3, .int x3)] 39 [] := by
          refine r_iinc hC [(3, .int (x3 + 1)), (0, .ref (ad 900)), (1, .int x7), (2, .int x8)] (x3 + 1) dX0_worstSet_39 3 rfl (ii_1 _) (by decide) rfl ?_
          refine r_goto (tgt := 6) hC dX0_worstSet_42 (by decide) ?_
          refine r_sub [(0, .ref (ad 900)), (1, .int x7), (2, .int x8), (3, .int (x3 + 1))] [1, 2, 3, 0] rfl ?_
          exact ih x7 x8 (x3 + 1) hf
        replace hf := h10
        refine r_if_eq (tgt := 39) hC dX0_worstSet_18 (by decide) (fun c11 => ?_) (fun c11 => ?_)
        · replace hf := o_pos hf c11
          obtain ⟨rfl, rfl⟩ := so_2 hf
          exact J39_9
        · replace hf := o_neg hf c11
          refine r_aload_n hC dX0_worstSet_21 rfl 0 rfl ?_
          refine r_iload_n hC dX0_worstSet_22 rfl 3 rfl ?_
          obtain ⟨r12, h13, hf⟩ := ob_some hf
          refine r_vi (st := []) hC (kX0_joined l D cy ad c0_amounts c0_lows c0_highs c0_barred x3 N h13) gX0_worstSet_X0_joined rfl ⟨rfl, rfl⟩ ydX0_joined ⟨Nat.le_of_ble_eq_true rfl, Nat.le_of_ble_eq_true rfl⟩ ⟨Nat.le_refl 0, Nat.le_refl 0⟩ 0 rfl rfl [] [] rfl _ rfl (Nat.le_of_ble_eq_true rfl) dX0_worstSet_23 (w0 cy ad c0_amounts c0_lows c0_highs c0_barred) rfl ?_
          refine r_istore hC [(4, .int r12), (0, .ref (ad 900)), (1, .int x1), (2, .int x2), (3, .int x3)] dX0_worstSet_26 (by decide) rfl ?_
          refine r_iload hC dX0_worstSet_28 0 rfl ?_
          refine r_iload_n hC dX0_worstSet_30 rfl 3 rfl ?_
          refine r_icmp_le (tgt := 39) hC dX0_worstSet_31 (by decide) (fun c14 => ?_) (fun c14 => ?_)
          · replace hf := o_pos hf c14
            obtain ⟨rfl, rfl⟩ := so_2 hf
            refine r_sub [(0, .ref (ad 900)), (1, .int x1), (2, .int x2), (3, .int x3)] [1, 2, 3, 4] rfl ?_
            exact J39_9
          · replace hf := o_neg hf c14
            refine r_iload_n hC dX0_worstSet_34 rfl 4 rfl ?_
            refine r_istore_n hC [(1, .int x3), (4, .int r12), (0, .ref (ad 900)), (2, .int x2), (3, .int x3)] dX0_worstSet_35 rfl (by decide) rfl ?_
            refine r_iload hC dX0_worstSet_36 1 rfl ?_
            refine r_istore_n hC [(2, .int r12), (1, .int x3), (4, .int r12), (0, .ref (ad 900)), (3, .int x3)] dX0_worstSet_38 rfl (by decide) rfl ?_
            obtain ⟨rfl, rfl⟩ := so_2 hf
            refine r_sub [(0, .ref (ad 900)), (1, .int x3), (2, .int r12), (3, .int x3)] [3, 1, 0, 4] rfl ?_
            exact J39_9
  refine r_sub [(0, .ref (ad 900)), (1, .int 0), (2, .int 0), (3, .int 1)] [3, 2, 1, 0] rfl ?_
  exact L6 N 0 0 1 hf
noncomputable def fX0_mixInto_L2 (c0_amounts : Nat → Int32) (c0_lows : Nat → Int32) (c0_highs : Nat → Int32) : Nat → Int64 → Int32 → Option (Int64)
  | 0, _, _ => none
  | n + 1, x1, x2 => (if 8 ≤ x2 then some x1 else og (vp_in x2 8) (olet ((31 * x1) + (Int32.toInt64 (c0_amounts (Int32.toNatClampNeg x2)))) (fun (x5 : Int64) => og (vp_in x2 8) (olet ((31 * x5) + (Int32.toInt64 (c0_lows (Int32.toNatClampNeg x2)))) (fun (x7 : Int64) => og (vp_in x2 8) (olet ((31 * x7) + (Int32.toInt64 (c0_highs (Int32.toNatClampNeg x2)))) (fun (x9 : Int64) => fX0_mixInto_L2 c0_amounts c0_lows c0_highs n x9 (x2 + 1))))))))
noncomputable def fX0_mixInto (N : Nat) (c0_amounts : Nat → Int32) (c0_lows : Nat → Int32) (c0_highs : Nat → Int32) (p1 : Int64) : Option (Int64) := fX0_mixInto_L2 c0_amounts c0_lows c0_highs N p1 0
theorem ydX0_mixInto : yX0_mixInto.cls = RX0 ∧ yX0_mixInto.cls ≠ "java/lang/invoke/MethodHandle" ∧ yX0_mixInto.cls ≠ "java/lang/invoke/VarHandle" ∧ (parseMethodDescriptor yX0_mixInto.desc).map (fun d => d.parameters.length) = some 1 := by decide +kernel
set_option maxHeartbeats 8000000 in
set_option maxRecDepth 100000 in
theorem kX0_mixInto (l : Launch) (D : va_G) (cy : Nat → ClassId) (ad : Nat → Nat) (c0_amounts : Nat → Int32) (c0_lows : Nat → Int32) (c0_highs : Nat → Int32) (c0_barred : Nat → Int32) (p1 : Int64) (N : Nat) {ra : Int64} (hf : fX0_mixInto N c0_amounts c0_lows c0_highs p1 = some ra) : CL l D cy yX0_mixInto wsX0_mixInto ({ frames := 0, cells := 0, slots := 0, locals := 0 } : Room) [.ref (ad 900), .long p1] (w0 cy ad c0_amounts c0_lows c0_highs c0_barred) ra (w0 cy ad c0_amounts c0_lows c0_highs c0_barred) := by
  unfold fX0_mixInto at hf
  refine c_of_l (own := RX0) (by decide) rfl rfl (Nat.le_of_ble_eq_true rfl) (fun X hC hRet => ?_)
  refine r_sub [(0, .ref (ad 900)), (1, .long p1)] [0, 1] rfl ?_
  have hin0 : ∀ w ∈ wsX00, w ∈ wsX0_mixInto := fun w h => List.mem_cons_of_mem _ (List.mem_append_right _ h)
  have hw0 : Cond.constantLong RX0 44 (31) ∈ wsX0_mixInto := List.mem_of_getElem? (i := 1) rfl
  have hw1 : Cond.fieldLink RX0 9 "HotPipes$Cases" "amounts" "[I" ∈ wsX0_mixInto := List.mem_of_getElem? (i := 2) rfl
  have hw2 : Cond.fieldLink RX0 15 "HotPipes$Cases" "lows" "[I" ∈ wsX0_mixInto := List.mem_of_getElem? (i := 3) rfl
  have hw3 : Cond.fieldLink RX0 18 "HotPipes$Cases" "highs" "[I" ∈ wsX0_mixInto := List.mem_of_getElem? (i := 4) rfl
  refine r_iconst hC dX0_mixInto_0 ic_0 ?_
  refine r_istore_n hC [(3, .int 0), (0, .ref (ad 900)), (1, .long p1)] dX0_mixInto_1 rfl (by decide) rfl ?_
  have L2 : ∀ (n : Nat) (x1 : Int64) (x2 : Int32), fX0_mixInto_L2 c0_amounts c0_lows c0_highs n x1 x2 = some ra → GG X 4 0 0 (w0 cy ad c0_amounts c0_lows c0_highs c0_barred) [(0, .ref (ad 900)), (1, .long x1), (3, .int x2)] 2 [] := by
    intro n
    induction n with
    | zero => intro x1 x2 hf; cases (show none = some _ from hf)
    | succ n ih =>
      intro x1 x2 hf
      rw [fX0_mixInto_L2] at hf
      refine r_iload_n hC dX0_mixInto_2 rfl 2 rfl ?_
      refine r_bipush hC dX0_mixInto_3 bp_8 ?_
      refine r_icmp_ge (tgt := 56) hC dX0_mixInto_5 (by decide) (fun c3 => ?_) (fun c3 => ?_)
      · replace hf := o_pos hf c3
        refine r_lload_n hC dX0_mixInto_56 rfl 1 rfl ?_
        obtain rfl := so_1 hf
        exact hRet _ _ _ dX0_mixInto_57
      · replace hf := o_neg hf c3
        refine r_ldc2 hC hw0 dX0_mixInto_8 ?_
        refine r_lload_n hC dX0_mixInto_11 rfl 1 rfl ?_
        refine r_lmul hC dX0_mixInto_12 ?_
        refine r_aload_n hC dX0_mixInto_13 rfl 0 rfl ?_
        refine r_get hC hin0 0 rfl rfl 0 (by decide) rfl hw1 rfl dX0_mixInto_14 ?_
        refine r_iload_n hC dX0_mixInto_17 rfl 2 rfl ?_
        obtain ⟨g4, hf⟩ := og_some hf
        refine r_iald hC 1 rfl g4 dX0_mixInto_18 ?_
        refine r_i2l hC dX0_mixInto_19 ?_
        refine r_ladd hC dX0_mixInto_20 ?_
        refine r_topl (fun x5 ex5 => ?_)
        replace hf := olet_some hf ex5
        refine r_lstore_n hC [(1, .long x5), (0, .ref (ad 900)), (3, .int x2)] dX0_mixInto_21 rfl (by decide) rfl ?_
        refine r_ldc2 hC hw0 dX0_mixInto_22 ?_
        refine r_lload_n hC dX0_mixInto_25 rfl 0 rfl ?_
        refine r_lmul hC dX0_mixInto_26 ?_
        refine r_aload_n hC dX0_mixInto_27 rfl 1 rfl ?_
        refine r_get hC hin0 0 rfl rfl 1 (by decide) rfl hw2 rfl dX0_mixInto_28 ?_
        refine r_iload_n hC dX0_mixInto_31 rfl 2 rfl ?_
        obtain ⟨g6, hf⟩ := og_some hf
        refine r_iald hC 2 rfl g6 dX0_mixInto_32 ?_
        refine r_i2l hC dX0_mixInto_33 ?_
        refine r_ladd hC dX0_mixInto_34 ?_
        refine r_topl (fun x7 ex7 => ?_)
        replace hf := olet_some hf ex7
        refine r_lstore_n hC [(1, .long x7), (0, .ref (ad 900)), (3, .int x2)] dX0_mixInto_35 rfl (by decide) rfl ?_
        refine r_ldc2 hC hw0 dX0_mixInto_36 ?_
        refine r_lload_n hC dX0_mixInto_39 rfl 0 rfl ?_
        refine r_lmul hC dX0_mixInto_40 ?_
        refine r_aload_n hC dX0_mixInto_41 rfl 1 rfl ?_
        refine r_get hC hin0 0 rfl rfl 2 (by decide) rfl hw3 rfl dX0_mixInto_42 ?_
        refine r_iload_n hC dX0_mixInto_45 rfl 2 rfl ?_
        obtain ⟨g8, hf⟩ := og_some hf
        refine r_iald hC 3 rfl g8 dX0_mixInto_46 ?_
        refine r_i2l hC dX0_mixInto_47 ?_
        refine r_ladd hC dX0_mixInto_48 ?_
        refine r_topl (fun x9 ex9 => ?_)
        replace hf := olet_some hf ex9
        refine r_lstore_n hC [(1, .long x9), (0, .ref (ad 900)), (3, .int x2)] dX0_mixInto_49 rfl (by decide) rfl ?_
        refine r_iinc hC [(3, .int (x2 + 1)), (1, .long x9), (0, .ref (ad 900))] (x2 + 1) dX0_mixInto_50 2 rfl (ii_1 _) (by decide) rfl ?_
        refine r_goto (tgt := 2) hC dX0_mixInto_53 (by decide) ?_
        refine r_sub [(0, .ref (ad 900)), (1, .long x9), (3, .int (x2 + 1))] [2, 1, 0] rfl ?_
        exact ih x9 (x2 + 1) hf
  refine r_sub [(0, .ref (ad 900)), (1, .long p1), (3, .int 0)] [1, 2, 0] rfl ?_
  exact L2 N p1 0 hf
noncomputable def fX1_lines (c1_lines : Int32) : Option (Int32) := some c1_lines
theorem ydX1_lines : yX1_lines.cls = RX1 ∧ yX1_lines.cls ≠ "java/lang/invoke/MethodHandle" ∧ yX1_lines.cls ≠ "java/lang/invoke/VarHandle" ∧ (parseMethodDescriptor yX1_lines.desc).map (fun d => d.parameters.length) = some 0 := by decide +kernel
set_option maxHeartbeats 8000000 in
set_option maxRecDepth 100000 in
theorem kX1_lines (l : Launch) (D : va_G) (cy : Nat → ClassId) (ad : Nat → Nat) (c1_lines : Int32) (c1_parts : Int64) {ra : Int32} (hf : fX1_lines c1_lines = some ra) : CI l D cy yX1_lines wsX1_lines ({ frames := 0, cells := 0, slots := 0, locals := 0 } : Room) [.ref (ad 10)] (w1 cy ad c1_lines c1_parts) ra (w1 cy ad c1_lines c1_parts) := by
  unfold fX1_lines at hf
  refine c_of_i (ty := .int) (own := RX1) (by decide) rfl rfl (Nat.le_of_ble_eq_true rfl) (fun X hC hRet => ?_)
  refine r_sub [(0, .ref (ad 10))] [0] rfl ?_
  have hin1 : ∀ w ∈ wsX10, w ∈ wsX1_lines := fun w h => List.mem_cons_of_mem _ (List.mem_append_right _ h)
  have hw0 : Cond.fieldLink RX1 7 "HotPipes$Cycles" "lines" "I" ∈ wsX1_lines := List.mem_of_getElem? (i := 1) rfl
  refine r_aload_n hC dX1_lines_0 rfl 0 rfl ?_
  refine r_get hC hin1 0 rfl rfl 0 (by decide) rfl hw0 rfl dX1_lines_1 ?_
  obtain rfl := so_1 hf
  exact hRet _ _ _ dX1_lines_4 rfl
noncomputable def fX1_partsUsed (c1_parts : Int64) : Option (Int64) := some c1_parts
theorem ydX1_partsUsed : yX1_partsUsed.cls = RX1 ∧ yX1_partsUsed.cls ≠ "java/lang/invoke/MethodHandle" ∧ yX1_partsUsed.cls ≠ "java/lang/invoke/VarHandle" ∧ (parseMethodDescriptor yX1_partsUsed.desc).map (fun d => d.parameters.length) = some 0 := by decide +kernel
set_option maxHeartbeats 8000000 in
set_option maxRecDepth 100000 in
theorem kX1_partsUsed (l : Launch) (D : va_G) (cy : Nat → ClassId) (ad : Nat → Nat) (c1_lines : Int32) (c1_parts : Int64) {ra : Int64} (hf : fX1_partsUsed c1_parts = some ra) : CL l D cy yX1_partsUsed wsX1_partsUsed ({ frames := 0, cells := 0, slots := 0, locals := 0 } : Room) [.ref (ad 10)] (w1 cy ad c1_lines c1_parts) ra (w1 cy ad c1_lines c1_parts) := by
  unfold fX1_partsUsed at hf
  refine c_of_l (own := RX1) (by decide) rfl rfl (Nat.le_of_ble_eq_true rfl) (fun X hC hRet => ?_)
  refine r_sub [(0, .ref (ad 10))] [0] rfl ?_
  have hin1 : ∀ w ∈ wsX10, w ∈ wsX1_partsUsed := fun w h => List.mem_cons_of_mem _ (List.mem_append_right _ h)
  have hw0 : Cond.fieldLink RX1 13 "HotPipes$Cycles" "parts" "J" ∈ wsX1_partsUsed := List.mem_of_getElem? (i := 1) rfl
  refine r_aload_n hC dX1_partsUsed_0 rfl 0 rfl ?_
  refine r_get hC hin1 0 rfl rfl 1 (by decide) rfl hw0 rfl dX1_partsUsed_1 ?_
  obtain rfl := so_1 hf
  exact hRet _ _ _ dX1_partsUsed_4
noncomputable def fX1_append (c1_lines : Int32) (c1_parts : Int64) (p1 : Int32) (p2 : Int32) : Option (Int32 × Int64) := some ((c1_lines + 1), (c1_parts + ((Int32.toInt64 p1) <<< (Int32.toInt64 (p2 / 4) &&& 63))))
theorem ydX1_append : yX1_append.cls = RX1 ∧ yX1_append.cls ≠ "java/lang/invoke/MethodHandle" ∧ yX1_append.cls ≠ "java/lang/invoke/VarHandle" ∧ (parseMethodDescriptor yX1_append.desc).map (fun d => d.parameters.length) = some 2 := by decide +kernel
set_option maxHeartbeats 8000000 in
set_option maxRecDepth 100000 in
theorem kX1_append (l : Launch) (D : va_G) (cy : Nat → ClassId) (ad : Nat → Nat) (c1_lines : Int32) (c1_parts : Int64) (p1 : Int32) (p2 : Int32) {z1_lines : Int32} {z1_parts : Int64} (hf : fX1_append c1_lines c1_parts p1 p2 = some (z1_lines, z1_parts)) : CV l D cy yX1_append wsX1_append ({ frames := 0, cells := 0, slots := 0, locals := 0 } : Room) [.ref (ad 10), .int p1, .int p2] (w1 cy ad c1_lines c1_parts) (w1 cy ad z1_lines z1_parts) := by
  unfold fX1_append at hf
  refine c_of_v (own := RX1) (by decide) rfl rfl (Nat.le_of_ble_eq_true rfl) (fun X hC hRet => ?_)
  refine r_sub [(0, .ref (ad 10)), (1, .int p1), (2, .int p2)] [0, 1, 2] rfl ?_
  have hin1 : ∀ w ∈ wsX10, w ∈ wsX1_append := fun w h => List.mem_cons_of_mem _ (List.mem_append_right _ h)
  have hw0 : Cond.fieldLink RX1 7 "HotPipes$Cycles" "lines" "I" ∈ wsX1_append := List.mem_of_getElem? (i := 1) rfl
  have hw1 : Cond.fieldLink RX1 13 "HotPipes$Cycles" "parts" "J" ∈ wsX1_append := List.mem_of_getElem? (i := 2) rfl
  refine r_aload_n hC dX1_append_0 rfl 0 rfl ?_
  refine r_dup hC dX1_append_1 rfl ?_
  refine r_get hC hin1 0 rfl rfl 0 (by decide) rfl hw0 rfl dX1_append_2 ?_
  refine r_iconst hC dX1_append_5 ic_1 ?_
  refine r_iadd hC dX1_append_6 ?_
  refine r_put (ty := .int) hC hin1 tyX1_ok nmX1 0 rfl rfl 0 (by decide) rfl hw0 rfl rfl rfl rfl (Nat.le_of_ble_eq_true rfl) dX1_append_7 (w1 cy ad (c1_lines + 1) c1_parts) rfl ?_
  refine r_aload_n hC dX1_append_10 rfl 0 rfl ?_
  refine r_dup hC dX1_append_11 rfl ?_
  refine r_get hC hin1 0 rfl rfl 1 (by decide) rfl hw1 rfl dX1_append_12 ?_
  refine r_iload_n hC dX1_append_15 rfl 1 rfl ?_
  refine r_i2l hC dX1_append_16 ?_
  refine r_iload_n hC dX1_append_17 rfl 2 rfl ?_
  refine r_iconst hC dX1_append_18 ic_4 ?_
  refine r_idiv hC dX1_append_19 (by decide) ?_
  refine r_lshl hC dX1_append_20 ?_
  refine r_ladd hC dX1_append_21 ?_
  refine r_put (ty := .long) hC hin1 tyX1_ok nmX1 0 rfl rfl 1 (by decide) rfl hw1 rfl rfl rfl rfl (Nat.le_of_ble_eq_true rfl) dX1_append_22 (w1 cy ad (c1_lines + 1) (c1_parts + ((Int32.toInt64 p1) <<< (Int32.toInt64 (p2 / 4) &&& 63)))) rfl ?_
  obtain ⟨rfl, rfl⟩ := so_2 hf
  exact hRet _ _ _ dX1_append_25
noncomputable def fX2_greatestShared_L3  : Nat → Int64 → Int64 → Int32 → Option (Int64)
  | 0, _, _, _ => none
  | n + 1, x1, x2, x3 => (if 200 ≤ x3 then some x1 else (if (lg_cmp x2 0) = 0 then some x1 else og (¬ x2 = 0) (olet (x1 - x1 / x2 * x2) (fun (x7 : Int64) => fX2_greatestShared_L3 n x2 x7 (x3 + 1)))))
noncomputable def fX2_greatestShared (N : Nat) (p1 : Int64) (p2 : Int64) : Option (Int64) := fX2_greatestShared_L3 N p1 p2 0
theorem ydX2_greatestShared : yX2_greatestShared.cls ≠ "java/lang/invoke/MethodHandle" ∧ yX2_greatestShared.cls ≠ "java/lang/invoke/VarHandle" ∧ (parseMethodDescriptor yX2_greatestShared.desc).map (fun d => d.parameters.length) = some 2 := by decide +kernel
set_option maxHeartbeats 8000000 in
set_option maxRecDepth 100000 in
theorem kX2_greatestShared (l : Launch) (D : va_G) (cy : Nat → ClassId) (p1 : Int64) (p2 : Int64) (N : Nat) {ra : Int64} (hf : fX2_greatestShared N p1 p2 = some ra) : CL l D cy yX2_greatestShared wsX2_greatestShared ({ frames := 0, cells := 0, slots := 0, locals := 0 } : Room) [.long p1, .long p2] [] ra [] := by
  unfold fX2_greatestShared at hf
  refine c_of_l (own := RX2) (by decide) rfl rfl (Nat.le_of_ble_eq_true rfl) (fun X hC hRet => ?_)
  refine r_sub [(0, .long p1), (2, .long p2)] [0, 1] rfl ?_
  refine r_iconst hC dX2_greatestShared_0 ic_0 ?_
  refine r_istore hC [(4, .int 0), (0, .long p1), (2, .long p2)] dX2_greatestShared_1 (by decide) rfl ?_
  have L3 : ∀ (n : Nat) (x1 : Int64) (x2 : Int64) (x3 : Int32), fX2_greatestShared_L3 n x1 x2 x3 = some ra → GG X 7 0 0 [] [(0, .long x1), (2, .long x2), (4, .int x3)] 3 [] := by
    intro n
    induction n with
    | zero => intro x1 x2 x3 hf; cases (show none = some _ from hf)
    | succ n ih =>
      intro x1 x2 x3 hf
      rw [fX2_greatestShared_L3] at hf
      refine r_iload hC dX2_greatestShared_3 2 rfl ?_
      refine r_sipush hC dX2_greatestShared_5 sp_200 ?_
      refine r_icmp_ge (tgt := 33) hC dX2_greatestShared_8 (by decide) (fun c4 => ?_) (fun c4 => ?_)
      · replace hf := o_pos hf c4
        refine r_lload_n hC dX2_greatestShared_33 rfl 0 rfl ?_
        obtain rfl := so_1 hf
        exact hRet _ _ _ dX2_greatestShared_34
      · replace hf := o_neg hf c4
        refine r_lload_n hC dX2_greatestShared_11 rfl 1 rfl ?_
        refine r_lconst hC dX2_greatestShared_12 lc_0 ?_
        refine r_lcmp hC dX2_greatestShared_13 ?_
        refine r_if_eq (tgt := 33) hC dX2_greatestShared_14 (by decide) (fun c5 => ?_) (fun c5 => ?_)
        · replace hf := o_pos hf c5
          refine r_lload_n hC dX2_greatestShared_33 rfl 0 rfl ?_
          obtain rfl := so_1 hf
          exact hRet _ _ _ dX2_greatestShared_34
        · replace hf := o_neg hf c5
          refine r_lload_n hC dX2_greatestShared_17 rfl 0 rfl ?_
          refine r_lload_n hC dX2_greatestShared_18 rfl 1 rfl ?_
          obtain ⟨g6, hf⟩ := og_some hf
          refine r_lrem hC dX2_greatestShared_19 g6 ?_
          refine r_topl (fun x7 ex7 => ?_)
          replace hf := olet_some hf ex7
          refine r_lstore hC [(5, .long x7), (0, .long x1), (2, .long x2), (4, .int x3)] dX2_greatestShared_20 (by decide) rfl ?_
          refine r_lload_n hC dX2_greatestShared_22 rfl 2 rfl ?_
          refine r_lstore_n hC [(0, .long x2), (5, .long x7), (2, .long x2), (4, .int x3)] dX2_greatestShared_23 rfl (by decide) rfl ?_
          refine r_lload hC dX2_greatestShared_24 1 rfl ?_
          refine r_lstore_n hC [(2, .long x7), (0, .long x2), (5, .long x7), (4, .int x3)] dX2_greatestShared_26 rfl (by decide) rfl ?_
          refine r_iinc hC [(4, .int (x3 + 1)), (2, .long x7), (0, .long x2), (5, .long x7)] (x3 + 1) dX2_greatestShared_27 3 rfl (ii_1 _) (by decide) rfl ?_
          refine r_goto (tgt := 3) hC dX2_greatestShared_30 (by decide) ?_
          refine r_sub [(0, .long x2), (2, .long x7), (4, .int (x3 + 1))] [2, 1, 0] rfl ?_
          exact ih x2 x7 (x3 + 1) hf
  refine r_sub [(0, .long p1), (2, .long p2), (4, .int 0)] [1, 2, 0] rfl ?_
  exact L3 N p1 p2 0 hf
noncomputable def fX2_put (N : Nat) (c2_above : Int64) (c2_below : Int64) (p1 : Int64) (p2 : Int64) : Option (Int64 × Int64) := ob (fX2_greatestShared N p1 p2) (fun (r1 : Int64) => (if (lg_cmp r1 0) ≤ 0 then some (c2_above, c2_below) else og (¬ r1 = 0) (og (¬ r1 = 0) (some ((p1 / r1), (p2 / r1))))))
theorem ydX2_put : yX2_put.cls = RX2 ∧ yX2_put.cls ≠ "java/lang/invoke/MethodHandle" ∧ yX2_put.cls ≠ "java/lang/invoke/VarHandle" ∧ (parseMethodDescriptor yX2_put.desc).map (fun d => d.parameters.length) = some 2 := by decide +kernel
set_option maxHeartbeats 8000000 in
set_option maxRecDepth 100000 in
theorem kX2_put (l : Launch) (D : va_G) (cy : Nat → ClassId) (ad : Nat → Nat) (c2_above : Int64) (c2_below : Int64) (p1 : Int64) (p2 : Int64) (N : Nat) {z2_above : Int64} {z2_below : Int64} (hf : fX2_put N c2_above c2_below p1 p2 = some (z2_above, z2_below)) : CV l D cy yX2_put wsX2_put ({ frames := 1, cells := 0, slots := 0, locals := 26 } : Room) [.ref (ad 20), .long p1, .long p2] (w2 cy ad c2_above c2_below) (w2 cy ad z2_above z2_below) := by
  unfold fX2_put at hf
  refine c_of_v (own := RX2) (by decide) rfl rfl (Nat.le_of_ble_eq_true rfl) (fun X hC hRet => ?_)
  refine r_sub [(0, .ref (ad 20)), (1, .long p1), (3, .long p2)] [0, 1, 2] rfl ?_
  have hin2 : ∀ w ∈ wsX20, w ∈ wsX2_put := fun w h => List.mem_cons_of_mem _ (List.mem_append_right _ h)
  have hw0 : Cond.fieldLink RX2 7 "HotPipes$Fraction" "above" "J" ∈ wsX2_put := List.mem_of_getElem? (i := 1) rfl
  have hw1 : Cond.fieldLink RX2 13 "HotPipes$Fraction" "below" "J" ∈ wsX2_put := List.mem_of_getElem? (i := 2) rfl
  refine r_lload_n hC dX2_put_0 rfl 1 rfl ?_
  refine r_lload_n hC dX2_put_1 rfl 2 rfl ?_
  obtain ⟨r1, h2, hf⟩ := ob_some hf
  refine r_sl (st := []) hC (kX2_greatestShared l D cy p1 p2 N h2) gX2_put_X2_greatestShared rfl ⟨rfl, rfl⟩ ydX2_greatestShared ⟨Nat.le_of_ble_eq_true rfl, Nat.le_of_ble_eq_true rfl⟩ ⟨Nat.le_refl 0, Nat.le_refl 0⟩ _ rfl (Nat.le_of_ble_eq_true rfl) dX2_put_2 ?_
  refine r_lstore hC [(5, .long r1), (0, .ref (ad 20)), (1, .long p1), (3, .long p2)] dX2_put_5 (by decide) rfl ?_
  refine r_lload hC dX2_put_7 0 rfl ?_
  refine r_lconst hC dX2_put_9 lc_0 ?_
  refine r_lcmp hC dX2_put_10 ?_
  refine r_if_le (tgt := 30) hC dX2_put_11 (by decide) (fun c3 => ?_) (fun c3 => ?_)
  · replace hf := o_pos hf c3
    obtain ⟨rfl, rfl⟩ := so_2 hf
    exact hRet _ _ _ dX2_put_30
  · replace hf := o_neg hf c3
    refine r_aload_n hC dX2_put_14 rfl 1 rfl ?_
    refine r_lload_n hC dX2_put_15 rfl 2 rfl ?_
    refine r_lload hC dX2_put_16 0 rfl ?_
    obtain ⟨g4, hf⟩ := og_some hf
    refine r_ldiv hC dX2_put_18 g4 ?_
    refine r_put (ty := .long) hC hin2 tyX2_ok nmX2 0 rfl rfl 0 (by decide) rfl hw0 rfl rfl rfl rfl (Nat.le_of_ble_eq_true rfl) dX2_put_19 (w2 cy ad (p1 / r1) c2_below) rfl ?_
    refine r_aload_n hC dX2_put_22 rfl 1 rfl ?_
    refine r_lload_n hC dX2_put_23 rfl 3 rfl ?_
    refine r_lload hC dX2_put_24 0 rfl ?_
    obtain ⟨g5, hf⟩ := og_some hf
    refine r_ldiv hC dX2_put_26 g5 ?_
    refine r_put (ty := .long) hC hin2 tyX2_ok nmX2 0 rfl rfl 1 (by decide) rfl hw1 rfl rfl rfl rfl (Nat.le_of_ble_eq_true rfl) dX2_put_27 (w2 cy ad (p1 / r1) (p2 / r1)) rfl ?_
    obtain ⟨rfl, rfl⟩ := so_2 hf
    exact hRet _ _ _ dX2_put_30
noncomputable def fX3_size (c3_size : Int32) : Option (Int32) := some c3_size
theorem ydX3_size : yX3_size.cls = RX3 ∧ yX3_size.cls ≠ "java/lang/invoke/MethodHandle" ∧ yX3_size.cls ≠ "java/lang/invoke/VarHandle" ∧ (parseMethodDescriptor yX3_size.desc).map (fun d => d.parameters.length) = some 0 := by decide +kernel
set_option maxHeartbeats 8000000 in
set_option maxRecDepth 100000 in
theorem kX3_size (l : Launch) (D : va_G) (cy : Nat → ClassId) (ad : Nat → Nat) (c3_size : Int32) (c3_rates : Nat → Int32) {ra : Int32} (hf : fX3_size c3_size = some ra) : CI l D cy yX3_size wsX3_size ({ frames := 0, cells := 0, slots := 0, locals := 0 } : Room) [.ref (ad 30)] (w3 cy ad c3_size c3_rates) ra (w3 cy ad c3_size c3_rates) := by
  unfold fX3_size at hf
  refine c_of_i (ty := .int) (own := RX3) (by decide) rfl rfl (Nat.le_of_ble_eq_true rfl) (fun X hC hRet => ?_)
  refine r_sub [(0, .ref (ad 30))] [0] rfl ?_
  have hin3 : ∀ w ∈ wsX30, w ∈ wsX3_size := fun w h => List.mem_cons_of_mem _ (List.mem_append_right _ h)
  have hw0 : Cond.fieldLink RX3 15 "HotPipes$Rates" "size" "I" ∈ wsX3_size := List.mem_of_getElem? (i := 1) rfl
  refine r_aload_n hC dX3_size_0 rfl 0 rfl ?_
  refine r_get hC hin3 0 rfl rfl 1 (by decide) rfl hw0 rfl dX3_size_1 ?_
  obtain rfl := so_1 hf
  exact hRet _ _ _ dX3_size_4 rfl
noncomputable def fX3_append (c3_size : Int32) (c3_rates : Nat → Int32) (p1 : Int32) : Option (Int32 × (Nat → Int32)) := og (vp_in c3_size 12) (some ((c3_size + 1), (upd c3_rates (Int32.toNatClampNeg c3_size) p1)))
theorem ydX3_append : yX3_append.cls = RX3 ∧ yX3_append.cls ≠ "java/lang/invoke/MethodHandle" ∧ yX3_append.cls ≠ "java/lang/invoke/VarHandle" ∧ (parseMethodDescriptor yX3_append.desc).map (fun d => d.parameters.length) = some 1 := by decide +kernel
set_option maxHeartbeats 8000000 in
set_option maxRecDepth 100000 in
theorem kX3_append (l : Launch) (D : va_G) (cy : Nat → ClassId) (ad : Nat → Nat) (c3_size : Int32) (c3_rates : Nat → Int32) (p1 : Int32) {z3_size : Int32} {z3_rates : Nat → Int32} (hf : fX3_append c3_size c3_rates p1 = some (z3_size, z3_rates)) : CV l D cy yX3_append wsX3_append ({ frames := 0, cells := 0, slots := 0, locals := 0 } : Room) [.ref (ad 30), .int p1] (w3 cy ad c3_size c3_rates) (w3 cy ad z3_size z3_rates) := by
  unfold fX3_append at hf
  refine c_of_v (own := RX3) (by decide) rfl rfl (Nat.le_of_ble_eq_true rfl) (fun X hC hRet => ?_)
  refine r_sub [(0, .ref (ad 30)), (1, .int p1)] [0, 1] rfl ?_
  have hin3 : ∀ w ∈ wsX30, w ∈ wsX3_append := fun w h => List.mem_cons_of_mem _ (List.mem_append_right _ h)
  have hw0 : Cond.fieldLink RX3 9 "HotPipes$Rates" "rates" "[I" ∈ wsX3_append := List.mem_of_getElem? (i := 1) rfl
  have hw1 : Cond.fieldLink RX3 15 "HotPipes$Rates" "size" "I" ∈ wsX3_append := List.mem_of_getElem? (i := 2) rfl
  refine r_aload_n hC dX3_append_0 rfl 0 rfl ?_
  refine r_get hC hin3 0 rfl rfl 0 (by decide) rfl hw0 rfl dX3_append_1 ?_
  refine r_aload_n hC dX3_append_4 rfl 0 rfl ?_
  refine r_get hC hin3 0 rfl rfl 1 (by decide) rfl hw1 rfl dX3_append_5 ?_
  refine r_iload_n hC dX3_append_8 rfl 1 rfl ?_
  obtain ⟨g1, hf⟩ := og_some hf
  refine r_iast hC 1 rfl g1 dX3_append_9 (w3 cy ad c3_size (upd c3_rates (Int32.toNatClampNeg c3_size) p1)) rfl ?_
  refine r_aload_n hC dX3_append_10 rfl 0 rfl ?_
  refine r_dup hC dX3_append_11 rfl ?_
  refine r_get hC hin3 0 rfl rfl 1 (by decide) rfl hw1 rfl dX3_append_12 ?_
  refine r_iconst hC dX3_append_15 ic_1 ?_
  refine r_iadd hC dX3_append_16 ?_
  refine r_put (ty := .int) hC hin3 tyX3_ok nmX3 0 rfl rfl 1 (by decide) rfl hw1 rfl rfl rfl rfl (Nat.le_of_ble_eq_true rfl) dX3_append_17 (w3 cy ad (c3_size + 1) (upd c3_rates (Int32.toNatClampNeg c3_size) p1)) rfl ?_
  obtain ⟨rfl, rfl⟩ := so_2 hf
  exact hRet _ _ _ dX3_append_20
noncomputable def fX3_greatestFirmEnough_L6 (c3_size : Int32) (c3_rates : Nat → Int32) (p1 : Int32) (p2 : Int32) : Nat → Int32 → Int32 → Option (Int32)
  | 0, _, _ => none
  | n + 1, x1, x2 => (if c3_size ≤ x2 then some x1 else og (vp_in x2 12) (ob ((if 0 < (lg_cmp ((8 * (Int32.toInt64 (c3_rates (Int32.toNatClampNeg x2)))) * (Int32.toInt64 p1)) (1000 * (Int32.toInt64 p2))) then some 0 else some 1)) (fun (t5 : Int32) => ob ((if t5 = 0 then some x1 else og (vp_in x2 12) ((if (c3_rates (Int32.toNatClampNeg x2)) ≤ x1 then some x1 else og (vp_in x2 12) (olet (c3_rates (Int32.toNatClampNeg x2)) (fun (x13 : Int32) => some x13)))))) (fun (x6 : Int32) => fX3_greatestFirmEnough_L6 c3_size c3_rates p1 p2 n x6 (x2 + 1)))))
noncomputable def fX3_greatestFirmEnough (N : Nat) (c3_size : Int32) (c3_rates : Nat → Int32) (p1 : Int32) (p2 : Int32) : Option (Int32) := fX3_greatestFirmEnough_L6 c3_size c3_rates p1 p2 N (-9) 0
theorem ydX3_greatestFirmEnough : yX3_greatestFirmEnough.cls = RX3 ∧ yX3_greatestFirmEnough.cls ≠ "java/lang/invoke/MethodHandle" ∧ yX3_greatestFirmEnough.cls ≠ "java/lang/invoke/VarHandle" ∧ (parseMethodDescriptor yX3_greatestFirmEnough.desc).map (fun d => d.parameters.length) = some 2 := by decide +kernel
set_option maxHeartbeats 8000000 in
set_option maxRecDepth 100000 in
theorem kX3_greatestFirmEnough (l : Launch) (D : va_G) (cy : Nat → ClassId) (ad : Nat → Nat) (c3_size : Int32) (c3_rates : Nat → Int32) (p1 : Int32) (p2 : Int32) (N : Nat) {ra : Int32} (hf : fX3_greatestFirmEnough N c3_size c3_rates p1 p2 = some ra) : CI l D cy yX3_greatestFirmEnough wsX3_greatestFirmEnough ({ frames := 0, cells := 0, slots := 0, locals := 0 } : Room) [.ref (ad 30), .int p1, .int p2] (w3 cy ad c3_size c3_rates) ra (w3 cy ad c3_size c3_rates) := by
  unfold fX3_greatestFirmEnough at hf
  refine c_of_i (ty := .int) (own := RX3) (by decide) rfl rfl (Nat.le_of_ble_eq_true rfl) (fun X hC hRet => ?_)
  refine r_sub [(0, .ref (ad 30)), (1, .int p1), (2, .int p2)] [0, 1, 2] rfl ?_
  have hin3 : ∀ w ∈ wsX30, w ∈ wsX3_greatestFirmEnough := fun w h => List.mem_cons_of_mem _ (List.mem_append_right _ h)
  have hw0 : Cond.fieldLink RX3 15 "HotPipes$Rates" "size" "I" ∈ wsX3_greatestFirmEnough := List.mem_of_getElem? (i := 1) rfl
  have hw1 : Cond.constantLong RX3 19 (8) ∈ wsX3_greatestFirmEnough := List.mem_of_getElem? (i := 2) rfl
  have hw2 : Cond.fieldLink RX3 9 "HotPipes$Rates" "rates" "[I" ∈ wsX3_greatestFirmEnough := List.mem_of_getElem? (i := 3) rfl
  have hw3 : Cond.constantLong RX3 21 (1000) ∈ wsX3_greatestFirmEnough := List.mem_of_getElem? (i := 4) rfl
  refine r_bipush hC dX3_greatestFirmEnough_0 bp_m9 ?_
  refine r_istore_n hC [(3, .int (-9)), (0, .ref (ad 30)), (1, .int p1), (2, .int p2)] dX3_greatestFirmEnough_2 rfl (by decide) rfl ?_
  refine r_iconst hC dX3_greatestFirmEnough_3 ic_0 ?_
  refine r_istore hC [(4, .int 0), (3, .int (-9)), (0, .ref (ad 30)), (1, .int p1), (2, .int p2)] dX3_greatestFirmEnough_4 (by decide) rfl ?_
  have L6 : ∀ (n : Nat) (x1 : Int32) (x2 : Int32), fX3_greatestFirmEnough_L6 c3_size c3_rates p1 p2 n x1 x2 = some ra → GG X 6 0 0 (w3 cy ad c3_size c3_rates) [(0, .ref (ad 30)), (1, .int p1), (2, .int p2), (3, .int x1), (4, .int x2)] 6 [] := by
    intro n
    induction n with
    | zero => intro x1 x2 hf; cases (show none = some _ from hf)
    | succ n ih =>
      intro x1 x2 hf
      rw [fX3_greatestFirmEnough_L6] at hf
      refine r_iload hC dX3_greatestFirmEnough_6 4 rfl ?_
      refine r_aload_n hC dX3_greatestFirmEnough_8 rfl 0 rfl ?_
      refine r_get hC hin3 0 rfl rfl 1 (by decide) rfl hw0 rfl dX3_greatestFirmEnough_9 ?_
      refine r_icmp_ge (tgt := 77) hC dX3_greatestFirmEnough_12 (by decide) (fun c3 => ?_) (fun c3 => ?_)
      · replace hf := o_pos hf c3
        refine r_iload_n hC dX3_greatestFirmEnough_77 rfl 3 rfl ?_
        obtain rfl := so_1 hf
        exact hRet _ _ _ dX3_greatestFirmEnough_78 rfl
      · replace hf := o_neg hf c3
        refine r_ldc2 hC hw1 dX3_greatestFirmEnough_15 ?_
        refine r_aload_n hC dX3_greatestFirmEnough_18 rfl 0 rfl ?_
        refine r_get hC hin3 0 rfl rfl 0 (by decide) rfl hw2 rfl dX3_greatestFirmEnough_19 ?_
        refine r_iload hC dX3_greatestFirmEnough_22 4 rfl ?_
        obtain ⟨g4, hf⟩ := og_some hf
        refine r_iald hC 1 rfl g4 dX3_greatestFirmEnough_24 ?_
        refine r_i2l hC dX3_greatestFirmEnough_25 ?_
        refine r_lmul hC dX3_greatestFirmEnough_26 ?_
        refine r_iload_n hC dX3_greatestFirmEnough_27 rfl 1 rfl ?_
        refine r_i2l hC dX3_greatestFirmEnough_28 ?_
        refine r_lmul hC dX3_greatestFirmEnough_29 ?_
        refine r_ldc2 hC hw3 dX3_greatestFirmEnough_30 ?_
        refine r_iload_n hC dX3_greatestFirmEnough_33 rfl 2 rfl ?_
        refine r_i2l hC dX3_greatestFirmEnough_34 ?_
        refine r_lmul hC dX3_greatestFirmEnough_35 ?_
        refine r_lcmp hC dX3_greatestFirmEnough_36 ?_
        obtain ⟨t5, h15, hf⟩ := ob_some hf
        have J45_14 : GG X 6 0 0 (w3 cy ad c3_size c3_rates) [(0, .ref (ad 30)), (1, .int p1), (2, .int p2), (3, .int x1), (4, .int x2)] 45 [.int t5] := by
          refine r_istore hC [(5, .int t5), (0, .ref (ad 30)), (1, .int p1), (2, .int p2), (3, .int x1), (4, .int x2)] dX3_greatestFirmEnough_45 (by decide) rfl ?_
          refine r_iload hC dX3_greatestFirmEnough_47 0 rfl ?_
          obtain ⟨x6, h8, hf⟩ := ob_some hf
          have J71_7 : GG X 6 0 0 (w3 cy ad c3_size c3_rates) [(0, .ref (ad 30)), (1, .int p1), (2, .int p2), (3, .int x6), (4, .int x2)] 71 [] := by
            refine r_iinc hC [(4, .int (x2 + 1)), (0, .ref (ad 30)), (1, .int p1), (2, .int p2), (3, .int x6)] (x2 + 1) dX3_greatestFirmEnough_71 4 rfl (ii_1 _) (by decide) rfl ?_
            refine r_goto (tgt := 6) hC dX3_greatestFirmEnough_74 (by decide) ?_
            refine r_sub [(0, .ref (ad 30)), (1, .int p1), (2, .int p2), (3, .int x6), (4, .int (x2 + 1))] [1, 2, 3, 4, 0] rfl ?_
            exact ih x6 (x2 + 1) hf
          replace hf := h8
          refine r_if_eq (tgt := 71) hC dX3_greatestFirmEnough_49 (by decide) (fun c9 => ?_) (fun c9 => ?_)
          · replace hf := o_pos hf c9
            obtain rfl := so_1 hf
            refine r_sub [(0, .ref (ad 30)), (1, .int p1), (2, .int p2), (3, .int x1), (4, .int x2)] [1, 2, 3, 4, 5] rfl ?_
            exact J71_7
          · replace hf := o_neg hf c9
            refine r_aload_n hC dX3_greatestFirmEnough_52 rfl 1 rfl ?_
            refine r_get hC hin3 0 rfl rfl 0 (by decide) rfl hw2 rfl dX3_greatestFirmEnough_53 ?_
            refine r_iload hC dX3_greatestFirmEnough_56 5 rfl ?_
            obtain ⟨g10, hf⟩ := og_some hf
            refine r_iald hC 1 rfl g10 dX3_greatestFirmEnough_58 ?_
            refine r_iload_n hC dX3_greatestFirmEnough_59 rfl 4 rfl ?_
            refine r_icmp_le (tgt := 71) hC dX3_greatestFirmEnough_60 (by decide) (fun c11 => ?_) (fun c11 => ?_)
            · replace hf := o_pos hf c11
              obtain rfl := so_1 hf
              refine r_sub [(0, .ref (ad 30)), (1, .int p1), (2, .int p2), (3, .int x1), (4, .int x2)] [1, 2, 3, 4, 5] rfl ?_
              exact J71_7
            · replace hf := o_neg hf c11
              refine r_aload_n hC dX3_greatestFirmEnough_63 rfl 1 rfl ?_
              refine r_get hC hin3 0 rfl rfl 0 (by decide) rfl hw2 rfl dX3_greatestFirmEnough_64 ?_
              refine r_iload hC dX3_greatestFirmEnough_67 5 rfl ?_
              obtain ⟨g12, hf⟩ := og_some hf
              refine r_iald hC 1 rfl g12 dX3_greatestFirmEnough_69 ?_
              refine r_topi (fun x13 ex13 => ?_)
              replace hf := olet_some hf ex13
              refine r_istore_n hC [(3, .int x13), (5, .int t5), (0, .ref (ad 30)), (1, .int p1), (2, .int p2), (4, .int x2)] dX3_greatestFirmEnough_70 rfl (by decide) rfl ?_
              obtain rfl := so_1 hf
              refine r_sub [(0, .ref (ad 30)), (1, .int p1), (2, .int p2), (3, .int x13), (4, .int x2)] [2, 3, 4, 0, 5] rfl ?_
              exact J71_7
        replace hf := h15
        refine r_if_gt (tgt := 44) hC dX3_greatestFirmEnough_37 (by decide) (fun c16 => ?_) (fun c16 => ?_)
        · replace hf := o_pos hf c16
          refine r_iconst hC dX3_greatestFirmEnough_44 ic_0 ?_
          obtain rfl := so_1 hf
          exact J45_14
        · replace hf := o_neg hf c16
          refine r_iconst hC dX3_greatestFirmEnough_40 ic_1 ?_
          refine r_goto (tgt := 45) hC dX3_greatestFirmEnough_41 (by decide) ?_
          obtain rfl := so_1 hf
          exact J45_14
  refine r_sub [(0, .ref (ad 30)), (1, .int p1), (2, .int p2), (3, .int (-9)), (4, .int 0)] [2, 3, 4, 1, 0] rfl ?_
  exact L6 N (-9) 0 hf
noncomputable def fX6_growthAt (c6_bytes : Nat → Int32) (c6_sizes : Nat → Int32) (p1 : Int32) (p2 : Int32) : Option (Int32) := og (vp_in p1 4) ((if (c6_sizes (Int32.toNatClampNeg p1)) ≤ p2 then some 0 else og (vp_in ((p1 * 16) + p2) 64) (some (c6_bytes (Int32.toNatClampNeg ((p1 * 16) + p2))))))
theorem ydX6_growthAt : yX6_growthAt.cls = RX6 ∧ yX6_growthAt.cls ≠ "java/lang/invoke/MethodHandle" ∧ yX6_growthAt.cls ≠ "java/lang/invoke/VarHandle" ∧ (parseMethodDescriptor yX6_growthAt.desc).map (fun d => d.parameters.length) = some 2 := by decide +kernel
set_option maxHeartbeats 8000000 in
set_option maxRecDepth 100000 in
theorem kX6_growthAt (l : Launch) (D : va_G) (cy : Nat → ClassId) (ad : Nat → Nat) (c6_bytes : Nat → Int32) (c6_sizes : Nat → Int32) (c6_weights : Nat → Int32) (p1 : Int32) (p2 : Int32) {ra : Int32} (hf : fX6_growthAt c6_bytes c6_sizes p1 p2 = some ra) : CI l D cy yX6_growthAt wsX6_growthAt ({ frames := 0, cells := 0, slots := 0, locals := 0 } : Room) [.ref (ad 60), .int p1, .int p2] (w6 cy ad c6_bytes c6_sizes c6_weights) ra (w6 cy ad c6_bytes c6_sizes c6_weights) := by
  unfold fX6_growthAt at hf
  refine c_of_i (ty := .int) (own := RX6) (by decide) rfl rfl (Nat.le_of_ble_eq_true rfl) (fun X hC hRet => ?_)
  refine r_sub [(0, .ref (ad 60)), (1, .int p1), (2, .int p2)] [0, 1, 2] rfl ?_
  have hin6 : ∀ w ∈ wsX60, w ∈ wsX6_growthAt := fun w h => List.mem_cons_of_mem _ (List.mem_append_right _ h)
  have hw0 : Cond.fieldLink RX6 15 "HotPipes$Stuffs" "sizes" "[I" ∈ wsX6_growthAt := List.mem_of_getElem? (i := 1) rfl
  have hw1 : Cond.fieldLink RX6 9 "HotPipes$Stuffs" "bytes" "[B" ∈ wsX6_growthAt := List.mem_of_getElem? (i := 2) rfl
  refine r_iload_n hC dX6_growthAt_0 rfl 2 rfl ?_
  refine r_aload_n hC dX6_growthAt_1 rfl 0 rfl ?_
  refine r_get hC hin6 0 rfl rfl 1 (by decide) rfl hw0 rfl dX6_growthAt_2 ?_
  refine r_iload_n hC dX6_growthAt_5 rfl 1 rfl ?_
  obtain ⟨g1, hf⟩ := og_some hf
  refine r_iald hC 2 rfl g1 dX6_growthAt_6 ?_
  refine r_icmp_ge (tgt := 24) hC dX6_growthAt_7 (by decide) (fun c2 => ?_) (fun c2 => ?_)
  · replace hf := o_pos hf c2
    refine r_iconst hC dX6_growthAt_24 ic_0 ?_
    obtain rfl := so_1 hf
    exact hRet _ _ _ dX6_growthAt_25 rfl
  · replace hf := o_neg hf c2
    refine r_aload_n hC dX6_growthAt_10 rfl 0 rfl ?_
    refine r_get hC hin6 0 rfl rfl 0 (by decide) rfl hw1 rfl dX6_growthAt_11 ?_
    refine r_iload_n hC dX6_growthAt_14 rfl 1 rfl ?_
    refine r_bipush hC dX6_growthAt_15 bp_16 ?_
    refine r_imul hC dX6_growthAt_17 ?_
    refine r_iload_n hC dX6_growthAt_18 rfl 2 rfl ?_
    refine r_iadd hC dX6_growthAt_19 ?_
    obtain ⟨g3, hf⟩ := og_some hf
    refine r_bald hC 1 rfl g3 dX6_growthAt_20 ?_
    refine r_goto (tgt := 25) hC dX6_growthAt_21 (by decide) ?_
    obtain rfl := so_1 hf
    exact hRet _ _ _ dX6_growthAt_25 rfl
noncomputable def fX6_weightOf (c6_weights : Nat → Int32) (p1 : Int32) : Option (Int32) := og (vp_in p1 4) (some (c6_weights (Int32.toNatClampNeg p1)))
theorem ydX6_weightOf : yX6_weightOf.cls = RX6 ∧ yX6_weightOf.cls ≠ "java/lang/invoke/MethodHandle" ∧ yX6_weightOf.cls ≠ "java/lang/invoke/VarHandle" ∧ (parseMethodDescriptor yX6_weightOf.desc).map (fun d => d.parameters.length) = some 1 := by decide +kernel
set_option maxHeartbeats 8000000 in
set_option maxRecDepth 100000 in
theorem kX6_weightOf (l : Launch) (D : va_G) (cy : Nat → ClassId) (ad : Nat → Nat) (c6_bytes : Nat → Int32) (c6_sizes : Nat → Int32) (c6_weights : Nat → Int32) (p1 : Int32) {ra : Int32} (hf : fX6_weightOf c6_weights p1 = some ra) : CI l D cy yX6_weightOf wsX6_weightOf ({ frames := 0, cells := 0, slots := 0, locals := 0 } : Room) [.ref (ad 60), .int p1] (w6 cy ad c6_bytes c6_sizes c6_weights) ra (w6 cy ad c6_bytes c6_sizes c6_weights) := by
  unfold fX6_weightOf at hf
  refine c_of_i (ty := .int) (own := RX6) (by decide) rfl rfl (Nat.le_of_ble_eq_true rfl) (fun X hC hRet => ?_)
  refine r_sub [(0, .ref (ad 60)), (1, .int p1)] [0, 1] rfl ?_
  have hin6 : ∀ w ∈ wsX60, w ∈ wsX6_weightOf := fun w h => List.mem_cons_of_mem _ (List.mem_append_right _ h)
  have hw0 : Cond.fieldLink RX6 19 "HotPipes$Stuffs" "weights" "[I" ∈ wsX6_weightOf := List.mem_of_getElem? (i := 1) rfl
  refine r_aload_n hC dX6_weightOf_0 rfl 0 rfl ?_
  refine r_get hC hin6 0 rfl rfl 2 (by decide) rfl hw0 rfl dX6_weightOf_1 ?_
  refine r_iload_n hC dX6_weightOf_4 rfl 1 rfl ?_
  obtain ⟨g1, hf⟩ := og_some hf
  refine r_iald hC 3 rfl g1 dX6_weightOf_5 ?_
  obtain rfl := so_1 hf
  exact hRet _ _ _ dX6_weightOf_6 rfl
noncomputable def fX6_isThere (c6_sizes : Nat → Int32) (p1 : Int32) : Option (Int32) := og (vp_in p1 4) ((if (c6_sizes (Int32.toNatClampNeg p1)) = (-1) then some 0 else some 1))
theorem ydX6_isThere : yX6_isThere.cls = RX6 ∧ yX6_isThere.cls ≠ "java/lang/invoke/MethodHandle" ∧ yX6_isThere.cls ≠ "java/lang/invoke/VarHandle" ∧ (parseMethodDescriptor yX6_isThere.desc).map (fun d => d.parameters.length) = some 1 := by decide +kernel
set_option maxHeartbeats 8000000 in
set_option maxRecDepth 100000 in
theorem kX6_isThere (l : Launch) (D : va_G) (cy : Nat → ClassId) (ad : Nat → Nat) (c6_bytes : Nat → Int32) (c6_sizes : Nat → Int32) (c6_weights : Nat → Int32) (p1 : Int32) {ra : Int32} (hf : fX6_isThere c6_sizes p1 = some ra) : CI l D cy yX6_isThere wsX6_isThere ({ frames := 0, cells := 0, slots := 0, locals := 0 } : Room) [.ref (ad 60), .int p1] (w6 cy ad c6_bytes c6_sizes c6_weights) ra (w6 cy ad c6_bytes c6_sizes c6_weights) := by
  unfold fX6_isThere at hf
  refine c_of_i (ty := .boolean) (own := RX6) (by decide) rfl rfl (Nat.le_of_ble_eq_true rfl) (fun X hC hRet => ?_)
  refine r_sub [(0, .ref (ad 60)), (1, .int p1)] [0, 1] rfl ?_
  have hin6 : ∀ w ∈ wsX60, w ∈ wsX6_isThere := fun w h => List.mem_cons_of_mem _ (List.mem_append_right _ h)
  have hw0 : Cond.fieldLink RX6 15 "HotPipes$Stuffs" "sizes" "[I" ∈ wsX6_isThere := List.mem_of_getElem? (i := 1) rfl
  refine r_aload_n hC dX6_isThere_0 rfl 0 rfl ?_
  refine r_get hC hin6 0 rfl rfl 1 (by decide) rfl hw0 rfl dX6_isThere_1 ?_
  refine r_iload_n hC dX6_isThere_4 rfl 1 rfl ?_
  obtain ⟨g1, hf⟩ := og_some hf
  refine r_iald hC 2 rfl g1 dX6_isThere_5 ?_
  refine r_iconst hC dX6_isThere_6 ic_m1 ?_
  refine r_icmp_eq (tgt := 14) hC dX6_isThere_7 (by decide) (fun c2 => ?_) (fun c2 => ?_)
  · replace hf := o_pos hf c2
    refine r_iconst hC dX6_isThere_14 ic_0 ?_
    obtain rfl := so_1 hf
    exact hRet _ _ _ dX6_isThere_15 nb_0
  · replace hf := o_neg hf c2
    refine r_iconst hC dX6_isThere_10 ic_1 ?_
    refine r_goto (tgt := 15) hC dX6_isThere_11 (by decide) ?_
    obtain rfl := so_1 hf
    exact hRet _ _ _ dX6_isThere_15 nb_1
noncomputable def fX6_hasBytes (c6_sizes : Nat → Int32) (p1 : Int32) (p2 : Int32) (p3 : Int32) : Option (Int32) := oj (some 0) (fun (K34_1 : Option (Int32)) => (if p2 < 0 then K34_1 else (if p3 < 0 then K34_1 else og (vp_in p1 4) ((if (c6_sizes (Int32.toNatClampNeg p1)) < p2 then K34_1 else og (vp_in p1 4) ((if ((c6_sizes (Int32.toNatClampNeg p1)) - p2) < p3 then K34_1 else some 1)))))))
theorem ydX6_hasBytes : yX6_hasBytes.cls = RX6 ∧ yX6_hasBytes.cls ≠ "java/lang/invoke/MethodHandle" ∧ yX6_hasBytes.cls ≠ "java/lang/invoke/VarHandle" ∧ (parseMethodDescriptor yX6_hasBytes.desc).map (fun d => d.parameters.length) = some 3 := by decide +kernel
set_option maxHeartbeats 8000000 in
set_option maxRecDepth 100000 in
theorem kX6_hasBytes (l : Launch) (D : va_G) (cy : Nat → ClassId) (ad : Nat → Nat) (c6_bytes : Nat → Int32) (c6_sizes : Nat → Int32) (c6_weights : Nat → Int32) (p1 : Int32) (p2 : Int32) (p3 : Int32) {ra : Int32} (hf : fX6_hasBytes c6_sizes p1 p2 p3 = some ra) : CI l D cy yX6_hasBytes wsX6_hasBytes ({ frames := 0, cells := 0, slots := 0, locals := 0 } : Room) [.ref (ad 60), .int p1, .int p2, .int p3] (w6 cy ad c6_bytes c6_sizes c6_weights) ra (w6 cy ad c6_bytes c6_sizes c6_weights) := by
  unfold fX6_hasBytes at hf
  refine c_of_i (ty := .boolean) (own := RX6) (by decide) rfl rfl (Nat.le_of_ble_eq_true rfl) (fun X hC hRet => ?_)
  refine r_sub [(0, .ref (ad 60)), (1, .int p1), (2, .int p2), (3, .int p3)] [0, 1, 2, 3] rfl ?_
  have hin6 : ∀ w ∈ wsX60, w ∈ wsX6_hasBytes := fun w h => List.mem_cons_of_mem _ (List.mem_append_right _ h)
  have hw0 : Cond.fieldLink RX6 15 "HotPipes$Stuffs" "sizes" "[I" ∈ wsX6_hasBytes := List.mem_of_getElem? (i := 1) rfl
  refine r_iload_n hC dX6_hasBytes_0 rfl 2 rfl ?_
  obtain ⟨K34_1, eK34_1, hf⟩ := oj_some hf
  have J34_1 : K34_1 = some ra → GG X 4 0 0 (w6 cy ad c6_bytes c6_sizes c6_weights) [] 34 [] := by
    intro hf
    replace hf := oa0 eK34_1 hf
    refine r_iconst hC dX6_hasBytes_34 ic_0 ?_
    obtain rfl := so_1 hf
    exact hRet _ _ _ dX6_hasBytes_35 nb_0
  refine r_if_lt (tgt := 34) hC dX6_hasBytes_1 (by decide) (fun c2 => ?_) (fun c2 => ?_)
  · replace hf := o_pos hf c2
    refine r_sub [] [] rfl ?_
    exact J34_1 hf
  · replace hf := o_neg hf c2
    refine r_iload_n hC dX6_hasBytes_4 rfl 3 rfl ?_
    refine r_if_lt (tgt := 34) hC dX6_hasBytes_5 (by decide) (fun c3 => ?_) (fun c3 => ?_)
    · replace hf := o_pos hf c3
      refine r_sub [] [] rfl ?_
      exact J34_1 hf
    · replace hf := o_neg hf c3
      refine r_iload_n hC dX6_hasBytes_8 rfl 2 rfl ?_
      refine r_aload_n hC dX6_hasBytes_9 rfl 0 rfl ?_
      refine r_get hC hin6 0 rfl rfl 1 (by decide) rfl hw0 rfl dX6_hasBytes_10 ?_
      refine r_iload_n hC dX6_hasBytes_13 rfl 1 rfl ?_
      obtain ⟨g4, hf⟩ := og_some hf
      refine r_iald hC 2 rfl g4 dX6_hasBytes_14 ?_
      refine r_icmp_gt (tgt := 34) hC dX6_hasBytes_15 (by decide) (fun c5 => ?_) (fun c5 => ?_)
      · replace hf := o_pos hf c5
        refine r_sub [] [] rfl ?_
        exact J34_1 hf
      · replace hf := o_neg hf c5
        refine r_iload_n hC dX6_hasBytes_18 rfl 3 rfl ?_
        refine r_aload_n hC dX6_hasBytes_19 rfl 0 rfl ?_
        refine r_get hC hin6 0 rfl rfl 1 (by decide) rfl hw0 rfl dX6_hasBytes_20 ?_
        refine r_iload_n hC dX6_hasBytes_23 rfl 1 rfl ?_
        obtain ⟨g6, hf⟩ := og_some hf
        refine r_iald hC 2 rfl g6 dX6_hasBytes_24 ?_
        refine r_iload_n hC dX6_hasBytes_25 rfl 2 rfl ?_
        refine r_isub hC dX6_hasBytes_26 ?_
        refine r_icmp_gt (tgt := 34) hC dX6_hasBytes_27 (by decide) (fun c7 => ?_) (fun c7 => ?_)
        · replace hf := o_pos hf c7
          refine r_sub [] [] rfl ?_
          exact J34_1 hf
        · replace hf := o_neg hf c7
          refine r_iconst hC dX6_hasBytes_30 ic_1 ?_
          refine r_goto (tgt := 35) hC dX6_hasBytes_31 (by decide) ?_
          obtain rfl := so_1 hf
          exact hRet _ _ _ dX6_hasBytes_35 nb_1
noncomputable def fX6_sizeOf (c6_sizes : Nat → Int32) (p1 : Int32) : Option (Int32) := og (vp_in p1 4) (some (c6_sizes (Int32.toNatClampNeg p1)))
theorem ydX6_sizeOf : yX6_sizeOf.cls = RX6 ∧ yX6_sizeOf.cls ≠ "java/lang/invoke/MethodHandle" ∧ yX6_sizeOf.cls ≠ "java/lang/invoke/VarHandle" ∧ (parseMethodDescriptor yX6_sizeOf.desc).map (fun d => d.parameters.length) = some 1 := by decide +kernel
set_option maxHeartbeats 8000000 in
set_option maxRecDepth 100000 in
theorem kX6_sizeOf (l : Launch) (D : va_G) (cy : Nat → ClassId) (ad : Nat → Nat) (c6_bytes : Nat → Int32) (c6_sizes : Nat → Int32) (c6_weights : Nat → Int32) (p1 : Int32) {ra : Int32} (hf : fX6_sizeOf c6_sizes p1 = some ra) : CI l D cy yX6_sizeOf wsX6_sizeOf ({ frames := 0, cells := 0, slots := 0, locals := 0 } : Room) [.ref (ad 60), .int p1] (w6 cy ad c6_bytes c6_sizes c6_weights) ra (w6 cy ad c6_bytes c6_sizes c6_weights) := by
  unfold fX6_sizeOf at hf
  refine c_of_i (ty := .int) (own := RX6) (by decide) rfl rfl (Nat.le_of_ble_eq_true rfl) (fun X hC hRet => ?_)
  refine r_sub [(0, .ref (ad 60)), (1, .int p1)] [0, 1] rfl ?_
  have hin6 : ∀ w ∈ wsX60, w ∈ wsX6_sizeOf := fun w h => List.mem_cons_of_mem _ (List.mem_append_right _ h)
  have hw0 : Cond.fieldLink RX6 15 "HotPipes$Stuffs" "sizes" "[I" ∈ wsX6_sizeOf := List.mem_of_getElem? (i := 1) rfl
  refine r_aload_n hC dX6_sizeOf_0 rfl 0 rfl ?_
  refine r_get hC hin6 0 rfl rfl 1 (by decide) rfl hw0 rfl dX6_sizeOf_1 ?_
  refine r_iload_n hC dX6_sizeOf_4 rfl 1 rfl ?_
  obtain ⟨g1, hf⟩ := og_some hf
  refine r_iald hC 2 rfl g1 dX6_sizeOf_5 ?_
  obtain rfl := so_1 hf
  exact hRet _ _ _ dX6_sizeOf_6 rfl
noncomputable def fX6_begin_L2 (p1 : Int32) (K26_2 : (Nat → Int32) → Option ((Nat → Int32) × (Nat → Int32))) : Nat → Int32 → (Nat → Int32) → Option ((Nat → Int32) × (Nat → Int32))
  | 0, _, _ => none
  | n + 1, x4, s5 => (if 16 ≤ x4 then K26_2 s5 else og (vp_in ((p1 * 16) + x4) 64) (fX6_begin_L2 p1 K26_2 n (x4 + 1) (upd s5 (Int32.toNatClampNeg ((p1 * 16) + x4)) (vp_nar .byte 0))))
noncomputable def fX6_begin (N : Nat) (c6_bytes : Nat → Int32) (c6_sizes : Nat → Int32) (p1 : Int32) (p2 : Int32) : Option ((Nat → Int32) × (Nat → Int32)) := oj (fun (s1 : Nat → Int32) => og (vp_in p1 4) (some (s1, (upd c6_sizes (Int32.toNatClampNeg p1) p2)))) (fun (K26_2 : (Nat → Int32) → Option ((Nat → Int32) × (Nat → Int32))) => fX6_begin_L2 p1 K26_2 N 0 c6_bytes)
theorem ydX6_begin : yX6_begin.cls = RX6 ∧ yX6_begin.cls ≠ "java/lang/invoke/MethodHandle" ∧ yX6_begin.cls ≠ "java/lang/invoke/VarHandle" ∧ (parseMethodDescriptor yX6_begin.desc).map (fun d => d.parameters.length) = some 2 := by decide +kernel
set_option maxHeartbeats 8000000 in
set_option maxRecDepth 100000 in
theorem kX6_begin (l : Launch) (D : va_G) (cy : Nat → ClassId) (ad : Nat → Nat) (c6_bytes : Nat → Int32) (c6_sizes : Nat → Int32) (c6_weights : Nat → Int32) (p1 : Int32) (p2 : Int32) (N : Nat) {z6_bytes : Nat → Int32} {z6_sizes : Nat → Int32} (hf : fX6_begin N c6_bytes c6_sizes p1 p2 = some (z6_bytes, z6_sizes)) : CV l D cy yX6_begin wsX6_begin ({ frames := 0, cells := 0, slots := 0, locals := 0 } : Room) [.ref (ad 60), .int p1, .int p2] (w6 cy ad c6_bytes c6_sizes c6_weights) (w6 cy ad z6_bytes z6_sizes c6_weights) := by
  unfold fX6_begin at hf
  refine c_of_v (own := RX6) (by decide) rfl rfl (Nat.le_of_ble_eq_true rfl) (fun X hC hRet => ?_)
  refine r_sub [(0, .ref (ad 60)), (1, .int p1), (2, .int p2)] [0, 1, 2] rfl ?_
  have hin6 : ∀ w ∈ wsX60, w ∈ wsX6_begin := fun w h => List.mem_cons_of_mem _ (List.mem_append_right _ h)
  have hw0 : Cond.fieldLink RX6 15 "HotPipes$Stuffs" "sizes" "[I" ∈ wsX6_begin := List.mem_of_getElem? (i := 2) rfl
  have hw1 : Cond.fieldLink RX6 9 "HotPipes$Stuffs" "bytes" "[B" ∈ wsX6_begin := List.mem_of_getElem? (i := 1) rfl
  refine r_iconst hC dX6_begin_0 ic_0 ?_
  refine r_istore_n hC [(3, .int 0), (0, .ref (ad 60)), (1, .int p1), (2, .int p2)] dX6_begin_1 rfl (by decide) rfl ?_
  obtain ⟨K26_2, eK26_2, hf⟩ := oj_some hf
  have J26_2 : ∀ (s1 : Nat → Int32), K26_2 s1 = some (z6_bytes, z6_sizes) → GG X 4 0 0 (w6 cy ad s1 c6_sizes c6_weights) [(0, .ref (ad 60)), (1, .int p1), (2, .int p2)] 26 [] := by
    intro s1 hf
    replace hf := oa1 eK26_2 hf
    refine r_aload_n hC dX6_begin_26 rfl 0 rfl ?_
    refine r_get hC hin6 0 rfl rfl 1 (by decide) rfl hw0 rfl dX6_begin_27 ?_
    refine r_iload_n hC dX6_begin_30 rfl 1 rfl ?_
    refine r_iload_n hC dX6_begin_31 rfl 2 rfl ?_
    obtain ⟨g3, hf⟩ := og_some hf
    refine r_iast hC 2 rfl g3 dX6_begin_32 (w6 cy ad s1 (upd c6_sizes (Int32.toNatClampNeg p1) p2) c6_weights) rfl ?_
    obtain ⟨rfl, rfl⟩ := so_2 hf
    exact hRet _ _ _ dX6_begin_33
  have L2 : ∀ (n : Nat) (x4 : Int32) (s5 : Nat → Int32), fX6_begin_L2 p1 K26_2 n x4 s5 = some (z6_bytes, z6_sizes) → GG X 4 0 0 (w6 cy ad s5 c6_sizes c6_weights) [(0, .ref (ad 60)), (1, .int p1), (2, .int p2), (3, .int x4)] 2 [] := by
    intro n
    induction n with
    | zero => intro x4 s5 hf; cases (show none = some _ from hf)
    | succ n ih =>
      intro x4 s5 hf
      rw [fX6_begin_L2] at hf
      refine r_iload_n hC dX6_begin_2 rfl 3 rfl ?_
      refine r_bipush hC dX6_begin_3 bp_16 ?_
      refine r_icmp_ge (tgt := 26) hC dX6_begin_5 (by decide) (fun c6 => ?_) (fun c6 => ?_)
      · replace hf := o_pos hf c6
        refine r_sub [(0, .ref (ad 60)), (1, .int p1), (2, .int p2)] [0, 1, 2] rfl ?_
        exact J26_2 s5 hf
      · replace hf := o_neg hf c6
        refine r_aload_n hC dX6_begin_8 rfl 0 rfl ?_
        refine r_get hC hin6 0 rfl rfl 0 (by decide) rfl hw1 rfl dX6_begin_9 ?_
        refine r_iload_n hC dX6_begin_12 rfl 1 rfl ?_
        refine r_bipush hC dX6_begin_13 bp_16 ?_
        refine r_imul hC dX6_begin_15 ?_
        refine r_iload_n hC dX6_begin_16 rfl 3 rfl ?_
        refine r_iadd hC dX6_begin_17 ?_
        refine r_iconst hC dX6_begin_18 ic_0 ?_
        obtain ⟨g7, hf⟩ := og_some hf
        refine r_bast hC 1 rfl g7 dX6_begin_19 (w6 cy ad (upd s5 (Int32.toNatClampNeg ((p1 * 16) + x4)) (vp_nar .byte 0)) c6_sizes c6_weights) rfl ?_
        refine r_iinc hC [(3, .int (x4 + 1)), (0, .ref (ad 60)), (1, .int p1), (2, .int p2)] (x4 + 1) dX6_begin_20 3 rfl (ii_1 _) (by decide) rfl ?_
        refine r_goto (tgt := 2) hC dX6_begin_23 (by decide) ?_
        refine r_sub [(0, .ref (ad 60)), (1, .int p1), (2, .int p2), (3, .int (x4 + 1))] [1, 2, 3, 0] rfl ?_
        exact ih (x4 + 1) (upd s5 (Int32.toNatClampNeg ((p1 * 16) + x4)) (vp_nar .byte 0)) hf
  refine r_sub [(0, .ref (ad 60)), (1, .int p1), (2, .int p2), (3, .int 0)] [1, 2, 3, 0] rfl ?_
  exact L2 N 0 c6_bytes hf
noncomputable def fX6_end (c6_sizes : Nat → Int32) (p1 : Int32) : Option ((Nat → Int32)) := og (vp_in p1 4) (some (upd c6_sizes (Int32.toNatClampNeg p1) (-1)))
theorem ydX6_end : yX6_end.cls = RX6 ∧ yX6_end.cls ≠ "java/lang/invoke/MethodHandle" ∧ yX6_end.cls ≠ "java/lang/invoke/VarHandle" ∧ (parseMethodDescriptor yX6_end.desc).map (fun d => d.parameters.length) = some 1 := by decide +kernel
set_option maxHeartbeats 8000000 in
set_option maxRecDepth 100000 in
theorem kX6_end (l : Launch) (D : va_G) (cy : Nat → ClassId) (ad : Nat → Nat) (c6_bytes : Nat → Int32) (c6_sizes : Nat → Int32) (c6_weights : Nat → Int32) (p1 : Int32) {z6_sizes : Nat → Int32} (hf : fX6_end c6_sizes p1 = some z6_sizes) : CV l D cy yX6_end wsX6_end ({ frames := 0, cells := 0, slots := 0, locals := 0 } : Room) [.ref (ad 60), .int p1] (w6 cy ad c6_bytes c6_sizes c6_weights) (w6 cy ad c6_bytes z6_sizes c6_weights) := by
  unfold fX6_end at hf
  refine c_of_v (own := RX6) (by decide) rfl rfl (Nat.le_of_ble_eq_true rfl) (fun X hC hRet => ?_)
  refine r_sub [(0, .ref (ad 60)), (1, .int p1)] [0, 1] rfl ?_
  have hin6 : ∀ w ∈ wsX60, w ∈ wsX6_end := fun w h => List.mem_cons_of_mem _ (List.mem_append_right _ h)
  have hw0 : Cond.fieldLink RX6 15 "HotPipes$Stuffs" "sizes" "[I" ∈ wsX6_end := List.mem_of_getElem? (i := 1) rfl
  refine r_aload_n hC dX6_end_0 rfl 0 rfl ?_
  refine r_get hC hin6 0 rfl rfl 1 (by decide) rfl hw0 rfl dX6_end_1 ?_
  refine r_iload_n hC dX6_end_4 rfl 1 rfl ?_
  refine r_iconst hC dX6_end_5 ic_m1 ?_
  obtain ⟨g1, hf⟩ := og_some hf
  refine r_iast hC 2 rfl g1 dX6_end_6 (w6 cy ad c6_bytes (upd c6_sizes (Int32.toNatClampNeg p1) (-1)) c6_weights) rfl ?_
  obtain rfl := so_1 hf
  exact hRet _ _ _ dX6_end_7
noncomputable def fX6_replace (c6_bytes : Nat → Int32) (p1 : Int32) (p2 : Int32) (p3 : Int32) : Option (Int32 × (Nat → Int32)) := og (vp_in ((p1 * 16) + p2) 64) (olet (c6_bytes (Int32.toNatClampNeg ((p1 * 16) + p2))) (fun (x2 : Int32) => og (vp_in ((p1 * 16) + p2) 64) (some (x2, (upd c6_bytes (Int32.toNatClampNeg ((p1 * 16) + p2)) (vp_nar .byte p3))))))
theorem ydX6_replace : yX6_replace.cls = RX6 ∧ yX6_replace.cls ≠ "java/lang/invoke/MethodHandle" ∧ yX6_replace.cls ≠ "java/lang/invoke/VarHandle" ∧ (parseMethodDescriptor yX6_replace.desc).map (fun d => d.parameters.length) = some 3 := by decide +kernel
set_option maxHeartbeats 8000000 in
set_option maxRecDepth 100000 in
theorem kX6_replace (l : Launch) (D : va_G) (cy : Nat → ClassId) (ad : Nat → Nat) (c6_bytes : Nat → Int32) (c6_sizes : Nat → Int32) (c6_weights : Nat → Int32) (p1 : Int32) (p2 : Int32) (p3 : Int32) {ra : Int32} {z6_bytes : Nat → Int32} (hf : fX6_replace c6_bytes p1 p2 p3 = some (ra, z6_bytes)) : CI l D cy yX6_replace wsX6_replace ({ frames := 0, cells := 0, slots := 0, locals := 0 } : Room) [.ref (ad 60), .int p1, .int p2, .int p3] (w6 cy ad c6_bytes c6_sizes c6_weights) ra (w6 cy ad z6_bytes c6_sizes c6_weights) := by
  unfold fX6_replace at hf
  refine c_of_i (ty := .int) (own := RX6) (by decide) rfl rfl (Nat.le_of_ble_eq_true rfl) (fun X hC hRet => ?_)
  refine r_sub [(0, .ref (ad 60)), (1, .int p1), (2, .int p2), (3, .int p3)] [0, 1, 2, 3] rfl ?_
  have hin6 : ∀ w ∈ wsX60, w ∈ wsX6_replace := fun w h => List.mem_cons_of_mem _ (List.mem_append_right _ h)
  have hw0 : Cond.fieldLink RX6 9 "HotPipes$Stuffs" "bytes" "[B" ∈ wsX6_replace := List.mem_of_getElem? (i := 1) rfl
  refine r_aload_n hC dX6_replace_0 rfl 0 rfl ?_
  refine r_get hC hin6 0 rfl rfl 0 (by decide) rfl hw0 rfl dX6_replace_1 ?_
  refine r_iload_n hC dX6_replace_4 rfl 1 rfl ?_
  refine r_bipush hC dX6_replace_5 bp_16 ?_
  refine r_imul hC dX6_replace_7 ?_
  refine r_iload_n hC dX6_replace_8 rfl 2 rfl ?_
  refine r_iadd hC dX6_replace_9 ?_
  obtain ⟨g1, hf⟩ := og_some hf
  refine r_bald hC 1 rfl g1 dX6_replace_10 ?_
  refine r_topi (fun x2 ex2 => ?_)
  replace hf := olet_some hf ex2
  refine r_istore hC [(4, .int x2), (0, .ref (ad 60)), (1, .int p1), (2, .int p2), (3, .int p3)] dX6_replace_11 (by decide) rfl ?_
  refine r_aload_n hC dX6_replace_13 rfl 1 rfl ?_
  refine r_get hC hin6 0 rfl rfl 0 (by decide) rfl hw0 rfl dX6_replace_14 ?_
  refine r_iload_n hC dX6_replace_17 rfl 2 rfl ?_
  refine r_bipush hC dX6_replace_18 bp_16 ?_
  refine r_imul hC dX6_replace_20 ?_
  refine r_iload_n hC dX6_replace_21 rfl 3 rfl ?_
  refine r_iadd hC dX6_replace_22 ?_
  refine r_iload_n hC dX6_replace_23 rfl 4 rfl ?_
  obtain ⟨g3, hf⟩ := og_some hf
  refine r_bast hC 1 rfl g3 dX6_replace_24 (w6 cy ad (upd c6_bytes (Int32.toNatClampNeg ((p1 * 16) + p2)) (vp_nar .byte p3)) c6_sizes c6_weights) rfl ?_
  refine r_iload hC dX6_replace_25 0 rfl ?_
  obtain ⟨rfl, rfl⟩ := so_2 hf
  exact hRet _ _ _ dX6_replace_27 rfl
noncomputable def fX6_reweigh (c6_weights : Nat → Int32) (p1 : Int32) (p2 : Int32) : Option (Int32 × (Nat → Int32)) := og (vp_in p1 4) (olet (c6_weights (Int32.toNatClampNeg p1)) (fun (x2 : Int32) => og (vp_in p1 4) (some (x2, (upd c6_weights (Int32.toNatClampNeg p1) p2)))))
theorem ydX6_reweigh : yX6_reweigh.cls = RX6 ∧ yX6_reweigh.cls ≠ "java/lang/invoke/MethodHandle" ∧ yX6_reweigh.cls ≠ "java/lang/invoke/VarHandle" ∧ (parseMethodDescriptor yX6_reweigh.desc).map (fun d => d.parameters.length) = some 2 := by decide +kernel
set_option maxHeartbeats 8000000 in
set_option maxRecDepth 100000 in
theorem kX6_reweigh (l : Launch) (D : va_G) (cy : Nat → ClassId) (ad : Nat → Nat) (c6_bytes : Nat → Int32) (c6_sizes : Nat → Int32) (c6_weights : Nat → Int32) (p1 : Int32) (p2 : Int32) {ra : Int32} {z6_weights : Nat → Int32} (hf : fX6_reweigh c6_weights p1 p2 = some (ra, z6_weights)) : CI l D cy yX6_reweigh wsX6_reweigh ({ frames := 0, cells := 0, slots := 0, locals := 0 } : Room) [.ref (ad 60), .int p1, .int p2] (w6 cy ad c6_bytes c6_sizes c6_weights) ra (w6 cy ad c6_bytes c6_sizes z6_weights) := by
  unfold fX6_reweigh at hf
  refine c_of_i (ty := .int) (own := RX6) (by decide) rfl rfl (Nat.le_of_ble_eq_true rfl) (fun X hC hRet => ?_)
  refine r_sub [(0, .ref (ad 60)), (1, .int p1), (2, .int p2)] [0, 1, 2] rfl ?_
  have hin6 : ∀ w ∈ wsX60, w ∈ wsX6_reweigh := fun w h => List.mem_cons_of_mem _ (List.mem_append_right _ h)
  have hw0 : Cond.fieldLink RX6 19 "HotPipes$Stuffs" "weights" "[I" ∈ wsX6_reweigh := List.mem_of_getElem? (i := 1) rfl
  refine r_aload_n hC dX6_reweigh_0 rfl 0 rfl ?_
  refine r_get hC hin6 0 rfl rfl 2 (by decide) rfl hw0 rfl dX6_reweigh_1 ?_
  refine r_iload_n hC dX6_reweigh_4 rfl 1 rfl ?_
  obtain ⟨g1, hf⟩ := og_some hf
  refine r_iald hC 3 rfl g1 dX6_reweigh_5 ?_
  refine r_topi (fun x2 ex2 => ?_)
  replace hf := olet_some hf ex2
  refine r_istore_n hC [(3, .int x2), (0, .ref (ad 60)), (1, .int p1), (2, .int p2)] dX6_reweigh_6 rfl (by decide) rfl ?_
  refine r_aload_n hC dX6_reweigh_7 rfl 1 rfl ?_
  refine r_get hC hin6 0 rfl rfl 2 (by decide) rfl hw0 rfl dX6_reweigh_8 ?_
  refine r_iload_n hC dX6_reweigh_11 rfl 2 rfl ?_
  refine r_iload_n hC dX6_reweigh_12 rfl 3 rfl ?_
  obtain ⟨g3, hf⟩ := og_some hf
  refine r_iast hC 3 rfl g3 dX6_reweigh_13 (w6 cy ad c6_bytes c6_sizes (upd c6_weights (Int32.toNatClampNeg p1) p2)) rfl ?_
  refine r_iload_n hC dX6_reweigh_14 rfl 0 rfl ?_
  obtain ⟨rfl, rfl⟩ := so_2 hf
  exact hRet _ _ _ dX6_reweigh_15 rfl
noncomputable def fX6_sumOf_L4 (c6_bytes : Nat → Int32) (c6_sizes : Nat → Int32) (p1 : Int32) : Nat → Int32 → Int32 → Option (Int32)
  | 0, _, _ => none
  | n + 1, x1, x2 => og (vp_in p1 4) ((if (c6_sizes (Int32.toNatClampNeg p1)) ≤ x2 then some x1 else og (vp_in ((p1 * 16) + x2) 64) (olet (x1 + (c6_bytes (Int32.toNatClampNeg ((p1 * 16) + x2)))) (fun (x6 : Int32) => fX6_sumOf_L4 c6_bytes c6_sizes p1 n x6 (x2 + 1)))))
noncomputable def fX6_sumOf (N : Nat) (c6_bytes : Nat → Int32) (c6_sizes : Nat → Int32) (p1 : Int32) : Option (Int32) := fX6_sumOf_L4 c6_bytes c6_sizes p1 N 0 0
theorem ydX6_sumOf : yX6_sumOf.cls = RX6 ∧ yX6_sumOf.cls ≠ "java/lang/invoke/MethodHandle" ∧ yX6_sumOf.cls ≠ "java/lang/invoke/VarHandle" ∧ (parseMethodDescriptor yX6_sumOf.desc).map (fun d => d.parameters.length) = some 1 := by decide +kernel
set_option maxHeartbeats 8000000 in
set_option maxRecDepth 100000 in
theorem kX6_sumOf (l : Launch) (D : va_G) (cy : Nat → ClassId) (ad : Nat → Nat) (c6_bytes : Nat → Int32) (c6_sizes : Nat → Int32) (c6_weights : Nat → Int32) (p1 : Int32) (N : Nat) {ra : Int32} (hf : fX6_sumOf N c6_bytes c6_sizes p1 = some ra) : CI l D cy yX6_sumOf wsX6_sumOf ({ frames := 0, cells := 0, slots := 0, locals := 0 } : Room) [.ref (ad 60), .int p1] (w6 cy ad c6_bytes c6_sizes c6_weights) ra (w6 cy ad c6_bytes c6_sizes c6_weights) := by
  unfold fX6_sumOf at hf
  refine c_of_i (ty := .int) (own := RX6) (by decide) rfl rfl (Nat.le_of_ble_eq_true rfl) (fun X hC hRet => ?_)
  refine r_sub [(0, .ref (ad 60)), (1, .int p1)] [0, 1] rfl ?_
  have hin6 : ∀ w ∈ wsX60, w ∈ wsX6_sumOf := fun w h => List.mem_cons_of_mem _ (List.mem_append_right _ h)
  have hw0 : Cond.fieldLink RX6 15 "HotPipes$Stuffs" "sizes" "[I" ∈ wsX6_sumOf := List.mem_of_getElem? (i := 1) rfl
  have hw1 : Cond.fieldLink RX6 9 "HotPipes$Stuffs" "bytes" "[B" ∈ wsX6_sumOf := List.mem_of_getElem? (i := 2) rfl
  refine r_iconst hC dX6_sumOf_0 ic_0 ?_
  refine r_istore_n hC [(2, .int 0), (0, .ref (ad 60)), (1, .int p1)] dX6_sumOf_1 rfl (by decide) rfl ?_
  refine r_iconst hC dX6_sumOf_2 ic_0 ?_
  refine r_istore_n hC [(3, .int 0), (2, .int 0), (0, .ref (ad 60)), (1, .int p1)] dX6_sumOf_3 rfl (by decide) rfl ?_
  have L4 : ∀ (n : Nat) (x1 : Int32) (x2 : Int32), fX6_sumOf_L4 c6_bytes c6_sizes p1 n x1 x2 = some ra → GG X 4 0 0 (w6 cy ad c6_bytes c6_sizes c6_weights) [(0, .ref (ad 60)), (1, .int p1), (2, .int x1), (3, .int x2)] 4 [] := by
    intro n
    induction n with
    | zero => intro x1 x2 hf; cases (show none = some _ from hf)
    | succ n ih =>
      intro x1 x2 hf
      rw [fX6_sumOf_L4] at hf
      refine r_iload_n hC dX6_sumOf_4 rfl 3 rfl ?_
      refine r_aload_n hC dX6_sumOf_5 rfl 0 rfl ?_
      refine r_get hC hin6 0 rfl rfl 1 (by decide) rfl hw0 rfl dX6_sumOf_6 ?_
      refine r_iload_n hC dX6_sumOf_9 rfl 1 rfl ?_
      obtain ⟨g3, hf⟩ := og_some hf
      refine r_iald hC 2 rfl g3 dX6_sumOf_10 ?_
      refine r_icmp_ge (tgt := 34) hC dX6_sumOf_11 (by decide) (fun c4 => ?_) (fun c4 => ?_)
      · replace hf := o_pos hf c4
        refine r_iload_n hC dX6_sumOf_34 rfl 2 rfl ?_
        obtain rfl := so_1 hf
        exact hRet _ _ _ dX6_sumOf_35 rfl
      · replace hf := o_neg hf c4
        refine r_iload_n hC dX6_sumOf_14 rfl 2 rfl ?_
        refine r_aload_n hC dX6_sumOf_15 rfl 0 rfl ?_
        refine r_get hC hin6 0 rfl rfl 0 (by decide) rfl hw1 rfl dX6_sumOf_16 ?_
        refine r_iload_n hC dX6_sumOf_19 rfl 1 rfl ?_
        refine r_bipush hC dX6_sumOf_20 bp_16 ?_
        refine r_imul hC dX6_sumOf_22 ?_
        refine r_iload_n hC dX6_sumOf_23 rfl 3 rfl ?_
        refine r_iadd hC dX6_sumOf_24 ?_
        obtain ⟨g5, hf⟩ := og_some hf
        refine r_bald hC 1 rfl g5 dX6_sumOf_25 ?_
        refine r_iadd hC dX6_sumOf_26 ?_
        refine r_topi (fun x6 ex6 => ?_)
        replace hf := olet_some hf ex6
        refine r_istore_n hC [(2, .int x6), (0, .ref (ad 60)), (1, .int p1), (3, .int x2)] dX6_sumOf_27 rfl (by decide) rfl ?_
        refine r_iinc hC [(3, .int (x2 + 1)), (2, .int x6), (0, .ref (ad 60)), (1, .int p1)] (x2 + 1) dX6_sumOf_28 3 rfl (ii_1 _) (by decide) rfl ?_
        refine r_goto (tgt := 4) hC dX6_sumOf_31 (by decide) ?_
        refine r_sub [(0, .ref (ad 60)), (1, .int p1), (2, .int x6), (3, .int (x2 + 1))] [2, 3, 1, 0] rfl ?_
        exact ih x6 (x2 + 1) hf
  refine r_sub [(0, .ref (ad 60)), (1, .int p1), (2, .int 0), (3, .int 0)] [2, 3, 1, 0] rfl ?_
  exact L4 N 0 0 hf
noncomputable def fX6_mixInto_L38 (c6_bytes : Nat → Int32) (c6_sizes : Nat → Int32) (x2 : Int32) (K75_9 : Int64 → Option (Int64)) : Nat → Int64 → Int32 → Option (Int64)
  | 0, _, _ => none
  | n + 1, x10, x11 => og (vp_in x2 4) ((if (c6_sizes (Int32.toNatClampNeg x2)) ≤ x11 then K75_9 x10 else og (vp_in ((x2 * 16) + x11) 64) (olet ((31 * x10) + (Int32.toInt64 (c6_bytes (Int32.toNatClampNeg ((x2 * 16) + x11))))) (fun (x15 : Int64) => fX6_mixInto_L38 c6_bytes c6_sizes x2 K75_9 n x15 (x11 + 1)))))
noncomputable def fX6_mixInto_L2 (N : Nat) (c6_bytes : Nat → Int32) (c6_sizes : Nat → Int32) (c6_weights : Nat → Int32) : Nat → Int64 → Int32 → Option (Int64)
  | 0, _, _ => none
  | n + 1, x1, x2 => (if 4 ≤ x2 then some x1 else og (vp_in x2 4) (olet ((31 * x1) + (Int32.toInt64 (c6_weights (Int32.toNatClampNeg x2)))) (fun (x5 : Int64) => og (vp_in x2 4) (olet ((31 * x5) + (Int32.toInt64 (c6_sizes (Int32.toNatClampNeg x2)))) (fun (x7 : Int64) => oj (fun (x8 : Int64) => fX6_mixInto_L2 N c6_bytes c6_sizes c6_weights n x8 (x2 + 1)) (fun (K75_9 : Int64 → Option (Int64)) => fX6_mixInto_L38 c6_bytes c6_sizes x2 K75_9 N x7 0))))))
noncomputable def fX6_mixInto (N : Nat) (c6_bytes : Nat → Int32) (c6_sizes : Nat → Int32) (c6_weights : Nat → Int32) (p1 : Int64) : Option (Int64) := fX6_mixInto_L2 N c6_bytes c6_sizes c6_weights N p1 0
theorem ydX6_mixInto : yX6_mixInto.cls = RX6 ∧ yX6_mixInto.cls ≠ "java/lang/invoke/MethodHandle" ∧ yX6_mixInto.cls ≠ "java/lang/invoke/VarHandle" ∧ (parseMethodDescriptor yX6_mixInto.desc).map (fun d => d.parameters.length) = some 1 := by decide +kernel
set_option maxHeartbeats 8000000 in
set_option maxRecDepth 100000 in
theorem kX6_mixInto (l : Launch) (D : va_G) (cy : Nat → ClassId) (ad : Nat → Nat) (c6_bytes : Nat → Int32) (c6_sizes : Nat → Int32) (c6_weights : Nat → Int32) (p1 : Int64) (N : Nat) {ra : Int64} (hf : fX6_mixInto N c6_bytes c6_sizes c6_weights p1 = some ra) : CL l D cy yX6_mixInto wsX6_mixInto ({ frames := 0, cells := 0, slots := 0, locals := 0 } : Room) [.ref (ad 60), .long p1] (w6 cy ad c6_bytes c6_sizes c6_weights) ra (w6 cy ad c6_bytes c6_sizes c6_weights) := by
  unfold fX6_mixInto at hf
  refine c_of_l (own := RX6) (by decide) rfl rfl (Nat.le_of_ble_eq_true rfl) (fun X hC hRet => ?_)
  refine r_sub [(0, .ref (ad 60)), (1, .long p1)] [0, 1] rfl ?_
  have hin6 : ∀ w ∈ wsX60, w ∈ wsX6_mixInto := fun w h => List.mem_cons_of_mem _ (List.mem_append_right _ h)
  have hw0 : Cond.constantLong RX6 34 (31) ∈ wsX6_mixInto := List.mem_of_getElem? (i := 1) rfl
  have hw1 : Cond.fieldLink RX6 19 "HotPipes$Stuffs" "weights" "[I" ∈ wsX6_mixInto := List.mem_of_getElem? (i := 2) rfl
  have hw2 : Cond.fieldLink RX6 15 "HotPipes$Stuffs" "sizes" "[I" ∈ wsX6_mixInto := List.mem_of_getElem? (i := 3) rfl
  have hw3 : Cond.fieldLink RX6 9 "HotPipes$Stuffs" "bytes" "[B" ∈ wsX6_mixInto := List.mem_of_getElem? (i := 4) rfl
  refine r_iconst hC dX6_mixInto_0 ic_0 ?_
  refine r_istore_n hC [(3, .int 0), (0, .ref (ad 60)), (1, .long p1)] dX6_mixInto_1 rfl (by decide) rfl ?_
  have L2 : ∀ (n : Nat) (x1 : Int64) (x2 : Int32), fX6_mixInto_L2 N c6_bytes c6_sizes c6_weights n x1 x2 = some ra → GG X 5 0 0 (w6 cy ad c6_bytes c6_sizes c6_weights) [(0, .ref (ad 60)), (1, .long x1), (3, .int x2)] 2 [] := by
    intro n
    induction n with
    | zero => intro x1 x2 hf; cases (show none = some _ from hf)
    | succ n ih =>
      intro x1 x2 hf
      rw [fX6_mixInto_L2] at hf
      refine r_iload_n hC dX6_mixInto_2 rfl 2 rfl ?_
      refine r_iconst hC dX6_mixInto_3 ic_4 ?_
      refine r_icmp_ge (tgt := 81) hC dX6_mixInto_4 (by decide) (fun c3 => ?_) (fun c3 => ?_)
      · replace hf := o_pos hf c3
        refine r_lload_n hC dX6_mixInto_81 rfl 1 rfl ?_
        obtain rfl := so_1 hf
        exact hRet _ _ _ dX6_mixInto_82
      · replace hf := o_neg hf c3
        refine r_ldc2 hC hw0 dX6_mixInto_7 ?_
        refine r_lload_n hC dX6_mixInto_10 rfl 1 rfl ?_
        refine r_lmul hC dX6_mixInto_11 ?_
        refine r_aload_n hC dX6_mixInto_12 rfl 0 rfl ?_
        refine r_get hC hin6 0 rfl rfl 2 (by decide) rfl hw1 rfl dX6_mixInto_13 ?_
        refine r_iload_n hC dX6_mixInto_16 rfl 2 rfl ?_
        obtain ⟨g4, hf⟩ := og_some hf
        refine r_iald hC 3 rfl g4 dX6_mixInto_17 ?_
        refine r_i2l hC dX6_mixInto_18 ?_
        refine r_ladd hC dX6_mixInto_19 ?_
        refine r_topl (fun x5 ex5 => ?_)
        replace hf := olet_some hf ex5
        refine r_lstore_n hC [(1, .long x5), (0, .ref (ad 60)), (3, .int x2)] dX6_mixInto_20 rfl (by decide) rfl ?_
        refine r_ldc2 hC hw0 dX6_mixInto_21 ?_
        refine r_lload_n hC dX6_mixInto_24 rfl 0 rfl ?_
        refine r_lmul hC dX6_mixInto_25 ?_
        refine r_aload_n hC dX6_mixInto_26 rfl 1 rfl ?_
        refine r_get hC hin6 0 rfl rfl 1 (by decide) rfl hw2 rfl dX6_mixInto_27 ?_
        refine r_iload_n hC dX6_mixInto_30 rfl 2 rfl ?_
        obtain ⟨g6, hf⟩ := og_some hf
        refine r_iald hC 2 rfl g6 dX6_mixInto_31 ?_
        refine r_i2l hC dX6_mixInto_32 ?_
        refine r_ladd hC dX6_mixInto_33 ?_
        refine r_topl (fun x7 ex7 => ?_)
        replace hf := olet_some hf ex7
        refine r_lstore_n hC [(1, .long x7), (0, .ref (ad 60)), (3, .int x2)] dX6_mixInto_34 rfl (by decide) rfl ?_
        refine r_iconst hC dX6_mixInto_35 ic_0 ?_
        refine r_istore hC [(4, .int 0), (1, .long x7), (0, .ref (ad 60)), (3, .int x2)] dX6_mixInto_36 (by decide) rfl ?_
        obtain ⟨K75_9, eK75_9, hf⟩ := oj_some hf
        have J75_9 : ∀ (x8 : Int64), K75_9 x8 = some ra → GG X 5 0 0 (w6 cy ad c6_bytes c6_sizes c6_weights) [(0, .ref (ad 60)), (1, .long x8), (3, .int x2)] 75 [] := by
          intro x8 hf
          replace hf := oa1 eK75_9 hf
          refine r_iinc hC [(3, .int (x2 + 1)), (0, .ref (ad 60)), (1, .long x8)] (x2 + 1) dX6_mixInto_75 2 rfl (ii_1 _) (by decide) rfl ?_
          refine r_goto (tgt := 2) hC dX6_mixInto_78 (by decide) ?_
          refine r_sub [(0, .ref (ad 60)), (1, .long x8), (3, .int (x2 + 1))] [1, 2, 0] rfl ?_
          exact ih x8 (x2 + 1) hf
        have L38 : ∀ (n : Nat) (x10 : Int64) (x11 : Int32), fX6_mixInto_L38 c6_bytes c6_sizes x2 K75_9 n x10 x11 = some ra → GG X 5 0 0 (w6 cy ad c6_bytes c6_sizes c6_weights) [(0, .ref (ad 60)), (1, .long x10), (3, .int x2), (4, .int x11)] 38 [] := by
          intro n
          induction n with
          | zero => intro x10 x11 hf; cases (show none = some _ from hf)
          | succ n ih =>
            intro x10 x11 hf
            rw [fX6_mixInto_L38] at hf
            refine r_iload hC dX6_mixInto_38 3 rfl ?_
            refine r_aload_n hC dX6_mixInto_40 rfl 0 rfl ?_
            refine r_get hC hin6 0 rfl rfl 1 (by decide) rfl hw2 rfl dX6_mixInto_41 ?_
            refine r_iload_n hC dX6_mixInto_44 rfl 2 rfl ?_
            obtain ⟨g12, hf⟩ := og_some hf
            refine r_iald hC 2 rfl g12 dX6_mixInto_45 ?_
            refine r_icmp_ge (tgt := 75) hC dX6_mixInto_46 (by decide) (fun c13 => ?_) (fun c13 => ?_)
            · replace hf := o_pos hf c13
              refine r_sub [(0, .ref (ad 60)), (1, .long x10), (3, .int x2)] [0, 1, 2] rfl ?_
              exact J75_9 x10 hf
            · replace hf := o_neg hf c13
              refine r_ldc2 hC hw0 dX6_mixInto_49 ?_
              refine r_lload_n hC dX6_mixInto_52 rfl 1 rfl ?_
              refine r_lmul hC dX6_mixInto_53 ?_
              refine r_aload_n hC dX6_mixInto_54 rfl 0 rfl ?_
              refine r_get hC hin6 0 rfl rfl 0 (by decide) rfl hw3 rfl dX6_mixInto_55 ?_
              refine r_iload_n hC dX6_mixInto_58 rfl 2 rfl ?_
              refine r_bipush hC dX6_mixInto_59 bp_16 ?_
              refine r_imul hC dX6_mixInto_61 ?_
              refine r_iload hC dX6_mixInto_62 3 rfl ?_
              refine r_iadd hC dX6_mixInto_64 ?_
              obtain ⟨g14, hf⟩ := og_some hf
              refine r_bald hC 1 rfl g14 dX6_mixInto_65 ?_
              refine r_i2l hC dX6_mixInto_66 ?_
              refine r_ladd hC dX6_mixInto_67 ?_
              refine r_topl (fun x15 ex15 => ?_)
              replace hf := olet_some hf ex15
              refine r_lstore_n hC [(1, .long x15), (0, .ref (ad 60)), (3, .int x2), (4, .int x11)] dX6_mixInto_68 rfl (by decide) rfl ?_
              refine r_iinc hC [(4, .int (x11 + 1)), (1, .long x15), (0, .ref (ad 60)), (3, .int x2)] (x11 + 1) dX6_mixInto_69 3 rfl (ii_1 _) (by decide) rfl ?_
              refine r_goto (tgt := 38) hC dX6_mixInto_72 (by decide) ?_
              refine r_sub [(0, .ref (ad 60)), (1, .long x15), (3, .int x2), (4, .int (x11 + 1))] [2, 1, 3, 0] rfl ?_
              exact ih x15 (x11 + 1) hf
        refine r_sub [(0, .ref (ad 60)), (1, .long x7), (3, .int x2), (4, .int 0)] [2, 1, 3, 0] rfl ?_
        exact L38 N x7 0 hf
  refine r_sub [(0, .ref (ad 60)), (1, .long p1), (3, .int 0)] [1, 2, 0] rfl ?_
  exact L2 N p1 0 hf
end
