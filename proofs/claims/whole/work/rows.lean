section
-- ===== PART A: goes FIRST, ahead of the names: the tables' words, and 'selects' of the private methods out of them =====
/-- a private method of a class that the tables say can be made, by its rows of tables_1 -/
def lw_okq (q : MethodName × Nat) : Prop := (q.1.cls ≠ "java/lang/invoke/MethodHandle" ∧ q.1.cls ≠ "java/lang/invoke/VarHandle") ∧ Cond.instantiable q.1.cls q.2 ∈ tables_1 ∧ Cond.privateMethod q.1 ∈ tables_1 ∧ Cond.instanceMethod q.1 ∈ tables_1
theorem lw_p0 : lw_okq (⟨"PopularMatchings", "forgetMatchings", "()V"⟩, 7) := ⟨⟨by decide +kernel, by decide +kernel⟩, List.mem_of_getElem? (i := 10) (by decide +kernel), List.mem_of_getElem? (i := 160) (by decide +kernel), List.mem_of_getElem? (i := 161) (by decide +kernel)⟩
theorem lw_p1 : lw_okq (⟨"PopularMatchings$History", "dropOldest", "()V"⟩, 3) := ⟨⟨by decide +kernel, by decide +kernel⟩, List.mem_of_getElem? (i := 72) (by decide +kernel), List.mem_of_getElem? (i := 243) (by decide +kernel), List.mem_of_getElem? (i := 244) (by decide +kernel)⟩
theorem lw_p2 : lw_okq (⟨"PopularMatchings$ChallengerSearch", "letChoose", "(LPopularMatchings$Instance;III)V"⟩, 2) := ⟨⟨by decide +kernel, by decide +kernel⟩, List.mem_of_getElem? (i := 92) (by decide +kernel), List.mem_of_getElem? (i := 276) (by decide +kernel), List.mem_of_getElem? (i := 277) (by decide +kernel)⟩
theorem lw_p3 : lw_okq (⟨"PopularMatchings$ChallengerSearch", "raise", "(II)V"⟩, 2) := ⟨⟨by decide +kernel, by decide +kernel⟩, List.mem_of_getElem? (i := 92) (by decide +kernel), List.mem_of_getElem? (i := 286) (by decide +kernel), List.mem_of_getElem? (i := 287) (by decide +kernel)⟩
theorem lw_p4 : lw_okq (⟨"PopularMatchings", "adoptDraft", "()I"⟩, 7) := ⟨⟨by decide +kernel, by decide +kernel⟩, List.mem_of_getElem? (i := 10) (by decide +kernel), List.mem_of_getElem? (i := 327) (by decide +kernel), List.mem_of_getElem? (i := 328) (by decide +kernel)⟩
theorem lw_p5 : lw_okq (⟨"PopularMatchings$PopularSearch", "prepare", "(LPopularMatchings$Instance;)V"⟩, 7) := ⟨⟨by decide +kernel, by decide +kernel⟩, List.mem_of_getElem? (i := 105) (by decide +kernel), List.mem_of_getElem? (i := 339) (by decide +kernel), List.mem_of_getElem? (i := 340) (by decide +kernel)⟩
theorem lw_p6 : lw_okq (⟨"PopularMatchings$PopularSearch", "isPopular", "(LPopularMatchings$Instance;I)Z"⟩, 7) := ⟨⟨by decide +kernel, by decide +kernel⟩, List.mem_of_getElem? (i := 105) (by decide +kernel), List.mem_of_getElem? (i := 349) (by decide +kernel), List.mem_of_getElem? (i := 350) (by decide +kernel)⟩
theorem lw_p7 : lw_okq (⟨"PopularMatchings$PopularSearch", "postIn", "(LPopularMatchings$Instance;II)I"⟩, 7) := ⟨⟨by decide +kernel, by decide +kernel⟩, List.mem_of_getElem? (i := 105) (by decide +kernel), List.mem_of_getElem? (i := 356) (by decide +kernel), List.mem_of_getElem? (i := 357) (by decide +kernel)⟩
theorem lw_p8 : lw_okq (⟨"PopularMatchings$PopularSearch", "count", "(II)V"⟩, 7) := ⟨⟨by decide +kernel, by decide +kernel⟩, List.mem_of_getElem? (i := 105) (by decide +kernel), List.mem_of_getElem? (i := 360) (by decide +kernel), List.mem_of_getElem? (i := 361) (by decide +kernel)⟩
theorem lw_p9 : lw_okq (⟨"PopularMatchings", "mostPreferredFree", "(I)I"⟩, 7) := ⟨⟨by decide +kernel, by decide +kernel⟩, List.mem_of_getElem? (i := 10) (by decide +kernel), List.mem_of_getElem? (i := 382) (by decide +kernel), List.mem_of_getElem? (i := 383) (by decide +kernel)⟩
theorem lw_p10 : lw_okq (⟨"PopularMatchingsModel", "builds", "(II)V"⟩, 10) := ⟨⟨by decide +kernel, by decide +kernel⟩, List.mem_of_getElem? (i := 394) (by decide +kernel), List.mem_of_getElem? (i := 400) (by decide +kernel), List.mem_of_getElem? (i := 401) (by decide +kernel)⟩
theorem lw_p11 : lw_okq (⟨"PopularMatchingsModel", "clears", "()V"⟩, 10) := ⟨⟨by decide +kernel, by decide +kernel⟩, List.mem_of_getElem? (i := 394) (by decide +kernel), List.mem_of_getElem? (i := 404) (by decide +kernel), List.mem_of_getElem? (i := 405) (by decide +kernel)⟩
theorem lw_p12 : lw_okq (⟨"PopularMatchingsModel", "isPost", "(I)Z"⟩, 10) := ⟨⟨by decide +kernel, by decide +kernel⟩, List.mem_of_getElem? (i := 394) (by decide +kernel), List.mem_of_getElem? (i := 450) (by decide +kernel), List.mem_of_getElem? (i := 451) (by decide +kernel)⟩
theorem lw_p13 : lw_okq (⟨"PopularMatchingsModel", "isApplicant", "(I)Z"⟩, 10) := ⟨⟨by decide +kernel, by decide +kernel⟩, List.mem_of_getElem? (i := 394) (by decide +kernel), List.mem_of_getElem? (i := 458) (by decide +kernel), List.mem_of_getElem? (i := 459) (by decide +kernel)⟩
theorem lw_p14 : lw_okq (⟨"PopularMatchingsModel", "rank", "(II)I"⟩, 10) := ⟨⟨by decide +kernel, by decide +kernel⟩, List.mem_of_getElem? (i := 394) (by decide +kernel), List.mem_of_getElem? (i := 462) (by decide +kernel), List.mem_of_getElem? (i := 463) (by decide +kernel)⟩
theorem lw_p15 : lw_okq (⟨"PopularMatchingsModel", "first", "(I)I"⟩, 10) := ⟨⟨by decide +kernel, by decide +kernel⟩, List.mem_of_getElem? (i := 394) (by decide +kernel), List.mem_of_getElem? (i := 478) (by decide +kernel), List.mem_of_getElem? (i := 479) (by decide +kernel)⟩
def lw_privs_1 : List (MethodName × Nat) := [(⟨"PopularMatchings", "forgetMatchings", "()V"⟩, 7), (⟨"PopularMatchings$History", "dropOldest", "()V"⟩, 3), (⟨"PopularMatchings$ChallengerSearch", "letChoose", "(LPopularMatchings$Instance;III)V"⟩, 2), (⟨"PopularMatchings$ChallengerSearch", "raise", "(II)V"⟩, 2), (⟨"PopularMatchings", "adoptDraft", "()I"⟩, 7), (⟨"PopularMatchings$PopularSearch", "prepare", "(LPopularMatchings$Instance;)V"⟩, 7), (⟨"PopularMatchings$PopularSearch", "isPopular", "(LPopularMatchings$Instance;I)Z"⟩, 7), (⟨"PopularMatchings$PopularSearch", "postIn", "(LPopularMatchings$Instance;II)I"⟩, 7), (⟨"PopularMatchings$PopularSearch", "count", "(II)V"⟩, 7), (⟨"PopularMatchings", "mostPreferredFree", "(I)I"⟩, 7), (⟨"PopularMatchingsModel", "builds", "(II)V"⟩, 10), (⟨"PopularMatchingsModel", "clears", "()V"⟩, 10), (⟨"PopularMatchingsModel", "isPost", "(I)Z"⟩, 10), (⟨"PopularMatchingsModel", "isApplicant", "(I)Z"⟩, 10), (⟨"PopularMatchingsModel", "rank", "(II)I"⟩, 10), (⟨"PopularMatchingsModel", "first", "(I)I"⟩, 10)]
theorem lw_r1 : ∀ q ∈ lw_privs_1, lw_okq q := List.forall_mem_cons.mpr ⟨lw_p0, List.forall_mem_cons.mpr ⟨lw_p1, List.forall_mem_cons.mpr ⟨lw_p2, List.forall_mem_cons.mpr ⟨lw_p3, List.forall_mem_cons.mpr ⟨lw_p4, List.forall_mem_cons.mpr ⟨lw_p5, List.forall_mem_cons.mpr ⟨lw_p6, List.forall_mem_cons.mpr ⟨lw_p7, List.forall_mem_cons.mpr ⟨lw_p8, List.forall_mem_cons.mpr ⟨lw_p9, List.forall_mem_cons.mpr ⟨lw_p10, List.forall_mem_cons.mpr ⟨lw_p11, List.forall_mem_cons.mpr ⟨lw_p12, List.forall_mem_cons.mpr ⟨lw_p13, List.forall_mem_cons.mpr ⟨lw_p14, List.forall_mem_cons.mpr ⟨lw_p15, fun _ h => absurd h List.not_mem_nil⟩⟩⟩⟩⟩⟩⟩⟩⟩⟩⟩⟩⟩⟩⟩⟩
theorem lw_p16 : lw_okq (⟨"PopularMatchingsModel", "second", "(I)I"⟩, 10) := ⟨⟨by decide +kernel, by decide +kernel⟩, List.mem_of_getElem? (i := 394) (by decide +kernel), List.mem_of_getElem? (i := 486) (by decide +kernel), List.mem_of_getElem? (i := 487) (by decide +kernel)⟩
theorem lw_p17 : lw_okq (⟨"PopularMatchingsModel", "firsts", "(I)I"⟩, 10) := ⟨⟨by decide +kernel, by decide +kernel⟩, List.mem_of_getElem? (i := 394) (by decide +kernel), List.mem_of_getElem? (i := 490) (by decide +kernel), List.mem_of_getElem? (i := 491) (by decide +kernel)⟩
theorem lw_p18 : lw_okq (⟨"PopularMatchingsModel", "edit", "()V"⟩, 10) := ⟨⟨by decide +kernel, by decide +kernel⟩, List.mem_of_getElem? (i := 394) (by decide +kernel), List.mem_of_getElem? (i := 502) (by decide +kernel), List.mem_of_getElem? (i := 503) (by decide +kernel)⟩
theorem lw_p19 : lw_okq (⟨"PopularMatchingsModel", "margin", "(Z)I"⟩, 10) := ⟨⟨by decide +kernel, by decide +kernel⟩, List.mem_of_getElem? (i := 394) (by decide +kernel), List.mem_of_getElem? (i := 518) (by decide +kernel), List.mem_of_getElem? (i := 519) (by decide +kernel)⟩
theorem lw_p20 : lw_okq (⟨"PopularMatchingsModel", "gives", "(IIIZ)I"⟩, 10) := ⟨⟨by decide +kernel, by decide +kernel⟩, List.mem_of_getElem? (i := 394) (by decide +kernel), List.mem_of_getElem? (i := 522) (by decide +kernel), List.mem_of_getElem? (i := 523) (by decide +kernel)⟩
theorem lw_p21 : lw_okq (⟨"PopularMatchingsModel", "vote", "(III)I"⟩, 10) := ⟨⟨by decide +kernel, by decide +kernel⟩, List.mem_of_getElem? (i := 394) (by decide +kernel), List.mem_of_getElem? (i := 526) (by decide +kernel), List.mem_of_getElem? (i := 527) (by decide +kernel)⟩
theorem lw_p22 : lw_okq (⟨"PopularMatchingsModel", "challenges", "()I"⟩, 10) := ⟨⟨by decide +kernel, by decide +kernel⟩, List.mem_of_getElem? (i := 394) (by decide +kernel), List.mem_of_getElem? (i := 557) (by decide +kernel), List.mem_of_getElem? (i := 558) (by decide +kernel)⟩
theorem lw_p23 : lw_okq (⟨"PopularMatchingsModel", "takes", "()V"⟩, 10) := ⟨⟨by decide +kernel, by decide +kernel⟩, List.mem_of_getElem? (i := 394) (by decide +kernel), List.mem_of_getElem? (i := 565) (by decide +kernel), List.mem_of_getElem? (i := 566) (by decide +kernel)⟩
theorem lw_p24 : lw_okq (⟨"PopularMatchingsModel", "lays", "(I)Z"⟩, 10) := ⟨⟨by decide +kernel, by decide +kernel⟩, List.mem_of_getElem? (i := 394) (by decide +kernel), List.mem_of_getElem? (i := 573) (by decide +kernel), List.mem_of_getElem? (i := 574) (by decide +kernel)⟩
theorem lw_p25 : lw_okq (⟨"PopularMatchingsModel", "sizeOf", "()I"⟩, 10) := ⟨⟨by decide +kernel, by decide +kernel⟩, List.mem_of_getElem? (i := 394) (by decide +kernel), List.mem_of_getElem? (i := 581) (by decide +kernel), List.mem_of_getElem? (i := 582) (by decide +kernel)⟩
theorem lw_p26 : lw_okq (⟨"PopularMatchingsModel", "code", "()I"⟩, 10) := ⟨⟨by decide +kernel, by decide +kernel⟩, List.mem_of_getElem? (i := 394) (by decide +kernel), List.mem_of_getElem? (i := 591) (by decide +kernel), List.mem_of_getElem? (i := 592) (by decide +kernel)⟩
def lw_privs_2 : List (MethodName × Nat) := [(⟨"PopularMatchingsModel", "second", "(I)I"⟩, 10), (⟨"PopularMatchingsModel", "firsts", "(I)I"⟩, 10), (⟨"PopularMatchingsModel", "edit", "()V"⟩, 10), (⟨"PopularMatchingsModel", "margin", "(Z)I"⟩, 10), (⟨"PopularMatchingsModel", "gives", "(IIIZ)I"⟩, 10), (⟨"PopularMatchingsModel", "vote", "(III)I"⟩, 10), (⟨"PopularMatchingsModel", "challenges", "()I"⟩, 10), (⟨"PopularMatchingsModel", "takes", "()V"⟩, 10), (⟨"PopularMatchingsModel", "lays", "(I)Z"⟩, 10), (⟨"PopularMatchingsModel", "sizeOf", "()I"⟩, 10), (⟨"PopularMatchingsModel", "code", "()I"⟩, 10)]
theorem lw_r2 : ∀ q ∈ lw_privs_2, lw_okq q := List.forall_mem_cons.mpr ⟨lw_p16, List.forall_mem_cons.mpr ⟨lw_p17, List.forall_mem_cons.mpr ⟨lw_p18, List.forall_mem_cons.mpr ⟨lw_p19, List.forall_mem_cons.mpr ⟨lw_p20, List.forall_mem_cons.mpr ⟨lw_p21, List.forall_mem_cons.mpr ⟨lw_p22, List.forall_mem_cons.mpr ⟨lw_p23, List.forall_mem_cons.mpr ⟨lw_p24, List.forall_mem_cons.mpr ⟨lw_p25, List.forall_mem_cons.mpr ⟨lw_p26, fun _ h => absurd h List.not_mem_nil⟩⟩⟩⟩⟩⟩⟩⟩⟩⟩⟩
def lw_privs : List (MethodName × Nat) := lw_privs_1 ++ (lw_privs_2)
def lw_tbl : List Cond := k2_sels lw_privs ++ tables_1
theorem lw_privs_ok : ∀ q ∈ lw_privs, lw_okq q := by
  show ∀ q ∈ lw_privs_1 ++ (lw_privs_2), lw_okq q
  exact List.forall_mem_append.mpr ⟨lw_r1, lw_r2⟩
-- ===== end of PART A
end
section
/-! ===== BEGIN words of one list among another's, by their places ===== -/
theorem goodIn_r {big : List Cond} (ws : List Cond) (ps : List Nat) (hp : ws = ps.filterMap (fun i => big[i]?)) (h : ws.all goodWord = true) : GoodIn big ws := by
  intro w hw
  have h1 := List.all_eq_true.mp h w hw
  rw [hp] at hw
  obtain ⟨i, -, hi⟩ := List.mem_filterMap.mp hw
  have hm : w ∈ big := by first | exact List.mem_of_getElem? hi | exact List.getElem?_mem hi
  exact ⟨hm, good_of_word h1⟩
theorem goodIn_app {big a b : List Cond} (ha : GoodIn big a) (hb : GoodIn big b) : GoodIn big (a ++ b) := fun w h => (List.mem_append.mp h).elim (ha w) (hb w)
theorem goodIn_ca {big a b : List Cond} {c : Cond} (ha : GoodIn big (c :: a)) (hb : GoodIn big b) : GoodIn big (c :: (a ++ b)) := fun w h => (List.mem_cons.mp h).elim (fun e => ha w (List.mem_cons.mpr (Or.inl e))) (fun h => (List.mem_append.mp h).elim (fun h => ha w (List.mem_cons.mpr (Or.inr h))) (hb w))
theorem goodIn_sub {big ws : List Cond} (hm : ∀ w ∈ ws, w ∈ big) (h : ws.all goodWord = true) : GoodIn big ws := fun w hw => ⟨hm w hw, good_of_word (List.all_eq_true.mp h w hw)⟩
/-! ===== END ===== -/

/-! ===== BEGIN printed: names, fields, word lists, decode rows ===== -/
def RX0 : String := "PopularMatchings$ChallengerSearch"
def TX0 : u_T := fun k => match k with
  | 0 => ("PopularMatchings$ChallengerSearch", "placed", "[I", true)
  | _ => ("PopularMatchings$ChallengerSearch", "best", "[I", true)
def tyX0 : Nat → FieldType := fun k => match k with
  | 0 => .array .int
  | _ => .array .int
abbrev wsX00 : List Cond := u_ws RX0 TX0 2
theorem nmX0 : ∀ a, a < 2 → ∀ b, b < 2 → a ≠ b → (TX0 a).2.1 ≠ (TX0 b).2.1 := by decide +kernel
theorem tyX0_ok : ∀ k, k < 2 → parseFieldDescriptor (TX0 k).2.2.1 = some (tyX0 k) := by decide +kernel
abbrev cX0_init : ByteArray := prog_2_method_1_code
def yX0_init : MethodName := ⟨RX0, "<init>", "()V"⟩
abbrev cX0_marginIn : ByteArray := prog_2_method_2_code
def yX0_marginIn : MethodName := ⟨RX0, "marginIn", "(I)I"⟩
abbrev cX0_postIn : ByteArray := prog_2_method_3_code
def yX0_postIn : MethodName := ⟨RX0, "postIn", "(II)I"⟩
abbrev cX0_placeShift : ByteArray := prog_2_method_4_code
def yX0_placeShift : MethodName := ⟨RX0, "placeShift", "(I)I"⟩
abbrev cX0_bestKey : ByteArray := prog_2_method_5_code
def yX0_bestKey : MethodName := ⟨RX0, "bestKey", "(LPopularMatchings$Instance;LPopularMatchings$Matching;Z)I"⟩
abbrev cX0_letChoose : ByteArray := prog_2_method_6_code
def yX0_letChoose : MethodName := ⟨RX0, "letChoose", "(LPopularMatchings$Instance;III)V"⟩
abbrev cX0_raise : ByteArray := prog_2_method_7_code
def yX0_raise : MethodName := ⟨RX0, "raise", "(II)V"⟩
def RX1 : String := "PopularMatchings$History"
def TX1 : u_T := fun k => match k with
  | 0 => ("PopularMatchings$History", "count", "I", false)
  | 1 => ("PopularMatchings$History", "presents", "[LPopularMatchings$Matching;", true)
  | _ => ("PopularMatchings$History", "saveds", "[LPopularMatchings$Matching;", true)
def tyX1 : Nat → FieldType := fun k => match k with
  | 0 => .int
  | 1 => .array (.object "PopularMatchings$Matching")
  | _ => .array (.object "PopularMatchings$Matching")
abbrev wsX10 : List Cond := u_ws RX1 TX1 3
theorem nmX1 : ∀ a, a < 3 → ∀ b, b < 3 → a ≠ b → (TX1 a).2.1 ≠ (TX1 b).2.1 := by decide +kernel
theorem tyX1_ok : ∀ k, k < 3 → parseFieldDescriptor (TX1 k).2.2.1 = some (tyX1 k) := by decide +kernel
abbrev cX1_init : ByteArray := prog_3_method_1_code
def yX1_init : MethodName := ⟨RX1, "<init>", "()V"⟩
abbrev cX1_forget : ByteArray := prog_3_method_2_code
def yX1_forget : MethodName := ⟨RX1, "forget", "()V"⟩
abbrev cX1_remember : ByteArray := prog_3_method_3_code
def yX1_remember : MethodName := ⟨RX1, "remember", "(LPopularMatchings$Matching;LPopularMatchings$Matching;)V"⟩
abbrev cX1_restore : ByteArray := prog_3_method_4_code
def yX1_restore : MethodName := ⟨RX1, "restore", "(LPopularMatchings$Matching;LPopularMatchings$Matching;)V"⟩
abbrev cX1_dropOldest : ByteArray := prog_3_method_5_code
def yX1_dropOldest : MethodName := ⟨RX1, "dropOldest", "()V"⟩
def RX2 : String := "PopularMatchings$Instance"
def TX2 : u_T := fun k => match k with
  | 0 => ("PopularMatchings$Instance", "applicants", "I", false)
  | 1 => ("PopularMatchings$Instance", "posts", "I", false)
  | 2 => ("PopularMatchings$Instance", "capacities", "[I", true)
  | 3 => ("PopularMatchings$Instance", "lengths", "[I", true)
  | _ => ("PopularMatchings$Instance", "lists", "[I", true)
def tyX2 : Nat → FieldType := fun k => match k with
  | 0 => .int
  | 1 => .int
  | 2 => .array .int
  | 3 => .array .int
  | _ => .array .int
abbrev wsX20 : List Cond := u_ws RX2 TX2 5
theorem nmX2 : ∀ a, a < 5 → ∀ b, b < 5 → a ≠ b → (TX2 a).2.1 ≠ (TX2 b).2.1 := by decide +kernel
theorem tyX2_ok : ∀ k, k < 5 → parseFieldDescriptor (TX2 k).2.2.1 = some (tyX2 k) := by decide +kernel
abbrev cX2_init : ByteArray := prog_4_method_1_code
def yX2_init : MethodName := ⟨RX2, "<init>", "()V"⟩
abbrev cX2_startAnew : ByteArray := prog_4_method_2_code
def yX2_startAnew : MethodName := ⟨RX2, "startAnew", "(II)V"⟩
abbrev cX2_isApplicant : ByteArray := prog_4_method_3_code
def yX2_isApplicant : MethodName := ⟨RX2, "isApplicant", "(I)Z"⟩
abbrev cX2_isPost : ByteArray := prog_4_method_4_code
def yX2_isPost : MethodName := ⟨RX2, "isPost", "(I)Z"⟩
abbrev cX2_listed : ByteArray := prog_4_method_5_code
def yX2_listed : MethodName := ⟨RX2, "listed", "(II)I"⟩
abbrev cX2_isListed : ByteArray := prog_4_method_6_code
def yX2_isListed : MethodName := ⟨RX2, "isListed", "(II)Z"⟩
abbrev cX2_append : ByteArray := prog_4_method_7_code
def yX2_append : MethodName := ⟨RX2, "append", "(II)I"⟩
abbrev cX2_rankOf : ByteArray := prog_4_method_8_code
def yX2_rankOf : MethodName := ⟨RX2, "rankOf", "(II)I"⟩
abbrev cX2_vote : ByteArray := prog_4_method_9_code
def yX2_vote : MethodName := ⟨RX2, "vote", "(II)I"⟩
abbrev cX2_firstOf : ByteArray := prog_4_method_10_code
def yX2_firstOf : MethodName := ⟨RX2, "firstOf", "(I)I"⟩
abbrev cX2_secondOf : ByteArray := prog_4_method_11_code
def yX2_secondOf : MethodName := ⟨RX2, "secondOf", "(I)I"⟩
abbrev cX2_countFirst : ByteArray := prog_4_method_12_code
def yX2_countFirst : MethodName := ⟨RX2, "countFirst", "(I)I"⟩
def RX3 : String := "PopularMatchings$Matching"
def TX3 : u_T := fun k => match k with
  | _ => ("PopularMatchings$Matching", "posts", "[I", true)
def tyX3 : Nat → FieldType := fun k => match k with
  | _ => .array .int
abbrev wsX30 : List Cond := u_ws RX3 TX3 1
theorem nmX3 : ∀ a, a < 1 → ∀ b, b < 1 → a ≠ b → (TX3 a).2.1 ≠ (TX3 b).2.1 := by decide +kernel
theorem tyX3_ok : ∀ k, k < 1 → parseFieldDescriptor (TX3 k).2.2.1 = some (tyX3 k) := by decide +kernel
abbrev cX3_init : ByteArray := prog_5_method_1_code
def yX3_init : MethodName := ⟨RX3, "<init>", "()V"⟩
abbrev cX3_clear : ByteArray := prog_5_method_2_code
def yX3_clear : MethodName := ⟨RX3, "clear", "()V"⟩
abbrev cX3_copyFrom : ByteArray := prog_5_method_3_code
def yX3_copyFrom : MethodName := ⟨RX3, "copyFrom", "(LPopularMatchings$Matching;)V"⟩
abbrev cX3_countPlaced : ByteArray := prog_5_method_4_code
def yX3_countPlaced : MethodName := ⟨RX3, "countPlaced", "()I"⟩
abbrev cX3_othersAt : ByteArray := prog_5_method_5_code
def yX3_othersAt : MethodName := ⟨RX3, "othersAt", "(II)I"⟩
def RX4 : String := "PopularMatchings$PopularSearch"
def TX4 : u_T := fun k => match k with
  | 0 => ("PopularMatchings$PopularSearch", "firsts", "[I", true)
  | 1 => ("PopularMatchings$PopularSearch", "lower", "[I", true)
  | 2 => ("PopularMatchings$PopularSearch", "higher", "[I", true)
  | 3 => ("PopularMatchings$PopularSearch", "wanted", "[I", true)
  | 4 => ("PopularMatchings$PopularSearch", "held", "[I", true)
  | 5 => ("PopularMatchings$PopularSearch", "heldAsFirst", "[I", true)
  | _ => ("PopularMatchings$PopularSearch", "found", "[I", true)
def tyX4 : Nat → FieldType := fun k => match k with
  | 0 => .array .int
  | 1 => .array .int
  | 2 => .array .int
  | 3 => .array .int
  | 4 => .array .int
  | 5 => .array .int
  | _ => .array .int
abbrev wsX40 : List Cond := u_ws RX4 TX4 7
theorem nmX4 : ∀ a, a < 7 → ∀ b, b < 7 → a ≠ b → (TX4 a).2.1 ≠ (TX4 b).2.1 := by decide +kernel
theorem tyX4_ok : ∀ k, k < 7 → parseFieldDescriptor (TX4 k).2.2.1 = some (tyX4 k) := by decide +kernel
abbrev cX4_init : ByteArray := prog_6_method_1_code
def yX4_init : MethodName := ⟨RX4, "<init>", "()V"⟩
abbrev cX4_collect : ByteArray := prog_6_method_2_code
def yX4_collect : MethodName := ⟨RX4, "collect", "(LPopularMatchings$Instance;)I"⟩
abbrev cX4_write : ByteArray := prog_6_method_3_code
def yX4_write : MethodName := ⟨RX4, "write", "(LPopularMatchings$Instance;ILPopularMatchings$Matching;)V"⟩
abbrev cX4_prepare : ByteArray := prog_6_method_4_code
def yX4_prepare : MethodName := ⟨RX4, "prepare", "(LPopularMatchings$Instance;)V"⟩
abbrev cX4_postIn : ByteArray := prog_6_method_5_code
def yX4_postIn : MethodName := ⟨RX4, "postIn", "(LPopularMatchings$Instance;II)I"⟩
abbrev cX4_takesHigher : ByteArray := prog_6_method_6_code
def yX4_takesHigher : MethodName := ⟨RX4, "takesHigher", "(LPopularMatchings$Instance;II)Z"⟩
abbrev cX4_isPopular : ByteArray := prog_6_method_7_code
def yX4_isPopular : MethodName := ⟨RX4, "isPopular", "(LPopularMatchings$Instance;I)Z"⟩
abbrev cX4_count : ByteArray := prog_6_method_8_code
def yX4_count : MethodName := ⟨RX4, "count", "(II)V"⟩
def RX5 : String := "PopularMatchings"
def TX5 : u_T := fun k => match k with
  | 0 => ("PopularMatchings", "instance", "LPopularMatchings$Instance;", true)
  | 1 => ("PopularMatchings", "present", "LPopularMatchings$Matching;", true)
  | 2 => ("PopularMatchings", "saved", "LPopularMatchings$Matching;", true)
  | 3 => ("PopularMatchings", "draft", "LPopularMatchings$Matching;", true)
  | 4 => ("PopularMatchings", "history", "LPopularMatchings$History;", true)
  | 5 => ("PopularMatchings", "challengers", "LPopularMatchings$ChallengerSearch;", true)
  | _ => ("PopularMatchings", "populars", "LPopularMatchings$PopularSearch;", true)
def tyX5 : Nat → FieldType := fun k => match k with
  | 0 => .object "PopularMatchings$Instance"
  | 1 => .object "PopularMatchings$Matching"
  | 2 => .object "PopularMatchings$Matching"
  | 3 => .object "PopularMatchings$Matching"
  | 4 => .object "PopularMatchings$History"
  | 5 => .object "PopularMatchings$ChallengerSearch"
  | _ => .object "PopularMatchings$PopularSearch"
abbrev wsX50 : List Cond := u_ws RX5 TX5 7
theorem nmX5 : ∀ a, a < 7 → ∀ b, b < 7 → a ≠ b → (TX5 a).2.1 ≠ (TX5 b).2.1 := by decide +kernel
theorem tyX5_ok : ∀ k, k < 7 → parseFieldDescriptor (TX5 k).2.2.1 = some (tyX5 k) := by decide +kernel
abbrev cX5_init : ByteArray := prog_1_method_1_code
def yX5_init : MethodName := ⟨RX5, "<init>", "()V"⟩
abbrev cX5_reset : ByteArray := prog_1_method_2_code
def yX5_reset : MethodName := ⟨RX5, "reset", "(II)I"⟩
abbrev cX5_setCapacity : ByteArray := prog_1_method_3_code
def yX5_setCapacity : MethodName := ⟨RX5, "setCapacity", "(II)I"⟩
abbrev cX5_appendPreference : ByteArray := prog_1_method_4_code
def yX5_appendPreference : MethodName := ⟨RX5, "appendPreference", "(II)I"⟩
abbrev cX5_clearPreferences : ByteArray := prog_1_method_5_code
def yX5_clearPreferences : MethodName := ⟨RX5, "clearPreferences", "(I)I"⟩
abbrev cX5_preferenceAt : ByteArray := prog_1_method_6_code
def yX5_preferenceAt : MethodName := ⟨RX5, "preferenceAt", "(II)I"⟩
abbrev cX5_firstPost : ByteArray := prog_1_method_7_code
def yX5_firstPost : MethodName := ⟨RX5, "firstPost", "(I)I"⟩
abbrev cX5_secondPost : ByteArray := prog_1_method_8_code
def yX5_secondPost : MethodName := ⟨RX5, "secondPost", "(I)I"⟩
abbrev cX5_assign : ByteArray := prog_1_method_9_code
def yX5_assign : MethodName := ⟨RX5, "assign", "(II)I"⟩
abbrev cX5_postOf : ByteArray := prog_1_method_10_code
def yX5_postOf : MethodName := ⟨RX5, "postOf", "(I)I"⟩
abbrev cX5_size : ByteArray := prog_1_method_11_code
def yX5_size : MethodName := ⟨RX5, "size", "()I"⟩
abbrev cX5_isParetoOptimal : ByteArray := prog_1_method_12_code
def yX5_isParetoOptimal : MethodName := ⟨RX5, "isParetoOptimal", "()I"⟩
abbrev cX5_save : ByteArray := prog_1_method_13_code
def yX5_save : MethodName := ⟨RX5, "save", "()I"⟩
abbrev cX5_swapSaved : ByteArray := prog_1_method_14_code
def yX5_swapSaved : MethodName := ⟨RX5, "swapSaved", "()I"⟩
abbrev cX5_marginOverSaved : ByteArray := prog_1_method_15_code
def yX5_marginOverSaved : MethodName := ⟨RX5, "marginOverSaved", "()I"⟩
abbrev cX5_unpopularityMargin : ByteArray := prog_1_method_16_code
def yX5_unpopularityMargin : MethodName := ⟨RX5, "unpopularityMargin", "()I"⟩
abbrev cX5_challengerPost : ByteArray := prog_1_method_17_code
def yX5_challengerPost : MethodName := ⟨RX5, "challengerPost", "(I)I"⟩
abbrev cX5_adoptChallenger : ByteArray := prog_1_method_18_code
def yX5_adoptChallenger : MethodName := ⟨RX5, "adoptChallenger", "()I"⟩
abbrev cX5_popularCount : ByteArray := prog_1_method_19_code
def yX5_popularCount : MethodName := ⟨RX5, "popularCount", "()I"⟩
abbrev cX5_greatestPopularSize : ByteArray := prog_1_method_20_code
def yX5_greatestPopularSize : MethodName := ⟨RX5, "greatestPopularSize", "()I"⟩
abbrev cX5_adoptPopular : ByteArray := prog_1_method_21_code
def yX5_adoptPopular : MethodName := ⟨RX5, "adoptPopular", "(I)I"⟩
abbrev cX5_adoptSerial : ByteArray := prog_1_method_22_code
def yX5_adoptSerial : MethodName := ⟨RX5, "adoptSerial", "(I)I"⟩
abbrev cX5_undo : ByteArray := prog_1_method_23_code
def yX5_undo : MethodName := ⟨RX5, "undo", "()I"⟩
abbrev cX5_forgetMatchings : ByteArray := prog_1_method_24_code
def yX5_forgetMatchings : MethodName := ⟨RX5, "forgetMatchings", "()V"⟩
abbrev cX5_adoptDraft : ByteArray := prog_1_method_25_code
def yX5_adoptDraft : MethodName := ⟨RX5, "adoptDraft", "()I"⟩
abbrev cX5_mostPreferredFree : ByteArray := prog_1_method_26_code
def yX5_mostPreferredFree : MethodName := ⟨RX5, "mostPreferredFree", "(I)I"⟩
def RX6 : String := "PopularMatchingsModel"
def TX6 : u_T := fun k => match k with
  | 0 => ("PopularMatchingsModel", "applicants", "I", false)
  | 1 => ("PopularMatchingsModel", "posts", "I", false)
  | 2 => ("PopularMatchingsModel", "capacity", "[I", true)
  | 3 => ("PopularMatchingsModel", "length", "[I", true)
  | 4 => ("PopularMatchingsModel", "list", "[I", true)
  | 5 => ("PopularMatchingsModel", "now", "[I", true)
  | 6 => ("PopularMatchingsModel", "history", "[I", true)
  | 7 => ("PopularMatchingsModel", "edits", "I", false)
  | 8 => ("PopularMatchingsModel", "best", "[I", true)
  | _ => ("PopularMatchingsModel", "found", "[I", true)
def tyX6 : Nat → FieldType := fun k => match k with
  | 0 => .int
  | 1 => .int
  | 2 => .array .int
  | 3 => .array .int
  | 4 => .array .int
  | 5 => .array .int
  | 6 => .array .int
  | 7 => .int
  | 8 => .array .int
  | _ => .array .int
abbrev wsX60 : List Cond := u_ws RX6 TX6 10
theorem nmX6 : ∀ a, a < 10 → ∀ b, b < 10 → a ≠ b → (TX6 a).2.1 ≠ (TX6 b).2.1 := by decide +kernel
theorem tyX6_ok : ∀ k, k < 10 → parseFieldDescriptor (TX6 k).2.2.1 = some (tyX6 k) := by decide +kernel
abbrev cX6_init : ByteArray := prog_8_method_1_code
def yX6_init : MethodName := ⟨RX6, "<init>", "()V"⟩
abbrev cX6_builds : ByteArray := prog_8_method_2_code
def yX6_builds : MethodName := ⟨RX6, "builds", "(II)V"⟩
abbrev cX6_clears : ByteArray := prog_8_method_3_code
def yX6_clears : MethodName := ⟨RX6, "clears", "()V"⟩
abbrev cX6_in : ByteArray := prog_8_method_4_code
def yX6_in : MethodName := ⟨RX6, "in", "(III)Z"⟩
abbrev cX6_isApplicant : ByteArray := prog_8_method_5_code
def yX6_isApplicant : MethodName := ⟨RX6, "isApplicant", "(I)Z"⟩
abbrev cX6_isPost : ByteArray := prog_8_method_6_code
def yX6_isPost : MethodName := ⟨RX6, "isPost", "(I)Z"⟩
abbrev cX6_reset : ByteArray := prog_8_method_7_code
def yX6_reset : MethodName := ⟨RX6, "reset", "(II)I"⟩
abbrev cX6_setCapacity : ByteArray := prog_8_method_8_code
def yX6_setCapacity : MethodName := ⟨RX6, "setCapacity", "(II)I"⟩
abbrev cX6_rank : ByteArray := prog_8_method_9_code
def yX6_rank : MethodName := ⟨RX6, "rank", "(II)I"⟩
abbrev cX6_appendPreference : ByteArray := prog_8_method_10_code
def yX6_appendPreference : MethodName := ⟨RX6, "appendPreference", "(II)I"⟩
abbrev cX6_clearPreferences : ByteArray := prog_8_method_11_code
def yX6_clearPreferences : MethodName := ⟨RX6, "clearPreferences", "(I)I"⟩
abbrev cX6_preferenceAt : ByteArray := prog_8_method_12_code
def yX6_preferenceAt : MethodName := ⟨RX6, "preferenceAt", "(II)I"⟩
abbrev cX6_first : ByteArray := prog_8_method_13_code
def yX6_first : MethodName := ⟨RX6, "first", "(I)I"⟩
abbrev cX6_firsts : ByteArray := prog_8_method_14_code
def yX6_firsts : MethodName := ⟨RX6, "firsts", "(I)I"⟩
abbrev cX6_second : ByteArray := prog_8_method_15_code
def yX6_second : MethodName := ⟨RX6, "second", "(I)I"⟩
abbrev cX6_firstPost : ByteArray := prog_8_method_16_code
def yX6_firstPost : MethodName := ⟨RX6, "firstPost", "(I)I"⟩
abbrev cX6_secondPost : ByteArray := prog_8_method_17_code
def yX6_secondPost : MethodName := ⟨RX6, "secondPost", "(I)I"⟩
abbrev cX6_edit : ByteArray := prog_8_method_18_code
def yX6_edit : MethodName := ⟨RX6, "edit", "()V"⟩
abbrev cX6_undo : ByteArray := prog_8_method_19_code
def yX6_undo : MethodName := ⟨RX6, "undo", "()I"⟩
abbrev cX6_assign : ByteArray := prog_8_method_20_code
def yX6_assign : MethodName := ⟨RX6, "assign", "(II)I"⟩
abbrev cX6_postOf : ByteArray := prog_8_method_21_code
def yX6_postOf : MethodName := ⟨RX6, "postOf", "(I)I"⟩
abbrev cX6_size : ByteArray := prog_8_method_22_code
def yX6_size : MethodName := ⟨RX6, "size", "()I"⟩
abbrev cX6_vote : ByteArray := prog_8_method_23_code
def yX6_vote : MethodName := ⟨RX6, "vote", "(III)I"⟩
abbrev cX6_digit : ByteArray := prog_8_method_24_code
def yX6_digit : MethodName := ⟨RX6, "digit", "(II)I"⟩
abbrev cX6_power : ByteArray := prog_8_method_25_code
def yX6_power : MethodName := ⟨RX6, "power", "(I)I"⟩
abbrev cX6_gives : ByteArray := prog_8_method_26_code
def yX6_gives : MethodName := ⟨RX6, "gives", "(IIIZ)I"⟩
abbrev cX6_margin : ByteArray := prog_8_method_27_code
def yX6_margin : MethodName := ⟨RX6, "margin", "(Z)I"⟩
abbrev cX6_isParetoOptimal : ByteArray := prog_8_method_28_code
def yX6_isParetoOptimal : MethodName := ⟨RX6, "isParetoOptimal", "()I"⟩
abbrev cX6_save : ByteArray := prog_8_method_29_code
def yX6_save : MethodName := ⟨RX6, "save", "()I"⟩
abbrev cX6_swapSaved : ByteArray := prog_8_method_30_code
def yX6_swapSaved : MethodName := ⟨RX6, "swapSaved", "()I"⟩
abbrev cX6_marginOverSaved : ByteArray := prog_8_method_31_code
def yX6_marginOverSaved : MethodName := ⟨RX6, "marginOverSaved", "()I"⟩
abbrev cX6_unpopularityMargin : ByteArray := prog_8_method_32_code
def yX6_unpopularityMargin : MethodName := ⟨RX6, "unpopularityMargin", "()I"⟩
abbrev cX6_challenges : ByteArray := prog_8_method_33_code
def yX6_challenges : MethodName := ⟨RX6, "challenges", "()I"⟩
abbrev cX6_challengerPost : ByteArray := prog_8_method_34_code
def yX6_challengerPost : MethodName := ⟨RX6, "challengerPost", "(I)I"⟩
abbrev cX6_takes : ByteArray := prog_8_method_35_code
def yX6_takes : MethodName := ⟨RX6, "takes", "()V"⟩
abbrev cX6_adoptChallenger : ByteArray := prog_8_method_36_code
def yX6_adoptChallenger : MethodName := ⟨RX6, "adoptChallenger", "()I"⟩
abbrev cX6_lays : ByteArray := prog_8_method_37_code
def yX6_lays : MethodName := ⟨RX6, "lays", "(I)Z"⟩
abbrev cX6_sizeOf : ByteArray := prog_8_method_38_code
def yX6_sizeOf : MethodName := ⟨RX6, "sizeOf", "()I"⟩
abbrev cX6_code : ByteArray := prog_8_method_39_code
def yX6_code : MethodName := ⟨RX6, "code", "()I"⟩
abbrev cX6_popularCount : ByteArray := prog_8_method_40_code
def yX6_popularCount : MethodName := ⟨RX6, "popularCount", "()I"⟩
abbrev cX6_greatestPopularSize : ByteArray := prog_8_method_41_code
def yX6_greatestPopularSize : MethodName := ⟨RX6, "greatestPopularSize", "()I"⟩
abbrev cX6_adoptPopular : ByteArray := prog_8_method_42_code
def yX6_adoptPopular : MethodName := ⟨RX6, "adoptPopular", "(I)I"⟩
abbrev cX6_adoptSerial : ByteArray := prog_8_method_43_code
def yX6_adoptSerial : MethodName := ⟨RX6, "adoptSerial", "(I)I"⟩
def RJ9 : String := "java/lang/Math"
def TJ9 : u_T := fun k => match k with
  | _ => ("", "", "", false)
def tyJ9 : Nat → FieldType := fun k => match k with
  | _ => .int
abbrev wsJ90 : List Cond := u_ws RJ9 TJ9 0
theorem nmJ9 : ∀ a, a < 0 → ∀ b, b < 0 → a ≠ b → (TJ9 a).2.1 ≠ (TJ9 b).2.1 := by decide +kernel
theorem tyJ9_ok : ∀ k, k < 0 → parseFieldDescriptor (TJ9 k).2.2.1 = some (tyJ9 k) := by decide +kernel
abbrev cJ9_max_7cf53 : ByteArray := prog_9_method_65_code
def yJ9_max_7cf53 : MethodName := ⟨RJ9, "max", "(II)I"⟩
abbrev cJ9_min_7cf53 : ByteArray := prog_9_method_69_code
def yJ9_min_7cf53 : MethodName := ⟨RJ9, "min", "(II)I"⟩
def RL : String := "PopularMatchingsLaw"
abbrev cL_law : ByteArray := code
def yL_law : MethodName := ⟨RL, "law", "([I)Z"⟩
def wsX0_init : List Cond := .code yX0_init cX0_init 4 none :: ([.methodLink RX0 5 objectInit, .instanceMethod objectInit, .code objectInit ⟨#[0xb1]⟩ 1 none, .arrayClass .int, .fieldLink RX0 11 "PopularMatchings$ChallengerSearch" "placed" "[I", .fieldLink RX0 15 "PopularMatchings$ChallengerSearch" "best" "[I"] ++ wsX00)
def wsX0_marginIn : List Cond := .code yX0_marginIn cX0_marginIn 1 (some .int) :: ([])
def wsX0_placeShift : List Cond := .code yX0_placeShift cX0_placeShift 1 (some .int) :: ([])
def wsX0_postIn : List Cond := .code yX0_postIn cX0_postIn 4 (some .int) :: ([.constant RX0 18 (262143), .methodLink RX0 19 yX0_placeShift, .static yX0_placeShift, .initialized RX0, .code yX0_placeShift cX0_placeShift 1 (some .int)])
def wsX2_listed : List Cond := .code yX2_listed cX2_listed 3 (some .int) :: ([.fieldLink RX2 18 "PopularMatchings$Instance" "lists" "[I"] ++ wsX20)
def wsX2_rankOf : List Cond := .code yX2_rankOf cX2_rankOf 4 (some .int) :: ([.fieldLink RX2 15 "PopularMatchings$Instance" "lengths" "[I", .methodLink RX2 36 yX2_listed, .instanceMethod yX2_listed, .selects RX2 yX2_listed yX2_listed, .initialized RX2, .code yX2_listed cX2_listed 3 (some .int), .fieldLink RX2 18 "PopularMatchings$Instance" "lists" "[I"] ++ wsX20)
def wsX2_vote : List Cond := .code yX2_vote cX2_vote 2 (some .int) :: ([])
def wsX0_raise : List Cond := .code yX0_raise cX0_raise 3 none :: ([.fieldLink RX0 15 "PopularMatchings$ChallengerSearch" "best" "[I"] ++ wsX00)
def wsX0_letChoose : List Cond := .code yX0_letChoose cX0_letChoose 11 none :: ([.fieldLink RX0 23 "PopularMatchings$ChallengerSearch" "FILL_OF_POST" "[I", .fieldLink RX0 26 "PopularMatchings$Instance" "posts" "I", .fieldLink RX0 15 "PopularMatchings$ChallengerSearch" "best" "[I", .constant RX0 32 (-1073741824), .fieldLink RX0 44 "PopularMatchings$Instance" "lengths" "[I", .fieldLink RX0 11 "PopularMatchings$ChallengerSearch" "placed" "[I", .fieldLink RX0 66 "PopularMatchings$Instance" "capacities" "[I", .methodLink RX0 56 yX2_vote, .static yX2_vote, .initialized RX2, .code yX2_vote cX2_vote 2 (some .int), .methodLink RX0 19 yX0_placeShift, .static yX0_placeShift, .initialized RX0, .code yX0_placeShift cX0_placeShift 1 (some .int), .methodLink RX0 59 yX0_raise, .instanceMethod yX0_raise, .selects RX0 yX0_raise yX0_raise, .code yX0_raise cX0_raise 3 none, .methodLink RX0 63 yX2_listed, .instanceMethod yX2_listed, .selects RX2 yX2_listed yX2_listed, .code yX2_listed cX2_listed 3 (some .int), .fieldLink RX2 18 "PopularMatchings$Instance" "lists" "[I"] ++ wsX20 ++ wsX00)
def wsX0_bestKey_r1 : List Cond := [Cond.fieldLink RX0 23 "PopularMatchings$ChallengerSearch" "FILL_OF_POST" "[I", Cond.fieldLink RX0 26 "PopularMatchings$Instance" "posts" "I", Cond.fieldLink RX0 15 "PopularMatchings$ChallengerSearch" "best" "[I", Cond.constant RX0 32 (-1073741824), Cond.constant RX0 18 (262143), Cond.fieldLink RX0 33 "PopularMatchings$Instance" "applicants" "I", Cond.fieldLink RX0 36 "PopularMatchings$Matching" "posts" "[I", Cond.fieldLink RX0 44 "PopularMatchings$Instance" "lengths" "[I", Cond.methodLink RX0 51 Lib.Math.max.name, Cond.static Lib.Math.max.name, Cond.initialized "java/lang/Math", Cond.code Lib.Math.max.name Lib.Math.max.code 2 (some .int), Cond.methodLink RX0 40 yX2_rankOf, Cond.instanceMethod yX2_rankOf, Cond.selects RX2 yX2_rankOf yX2_rankOf, Cond.initialized RX2, Cond.code yX2_rankOf cX2_rankOf 4 (some .int), Cond.fieldLink RX2 15 "PopularMatchings$Instance" "lengths" "[I", Cond.methodLink RX2 36 yX2_listed, Cond.instanceMethod yX2_listed, Cond.selects RX2 yX2_listed yX2_listed, Cond.code yX2_listed cX2_listed 3 (some .int), Cond.fieldLink RX2 18 "PopularMatchings$Instance" "lists" "[I", Cond.methodLink RX0 47 yX0_letChoose]
def wsX0_bestKey_r2 : List Cond := [Cond.instanceMethod yX0_letChoose, Cond.selects RX0 yX0_letChoose yX0_letChoose, Cond.initialized RX0, Cond.code yX0_letChoose cX0_letChoose 11 none, Cond.fieldLink RX0 11 "PopularMatchings$ChallengerSearch" "placed" "[I", Cond.fieldLink RX0 66 "PopularMatchings$Instance" "capacities" "[I", Cond.methodLink RX0 56 yX2_vote, Cond.static yX2_vote, Cond.code yX2_vote cX2_vote 2 (some .int), Cond.methodLink RX0 19 yX0_placeShift, Cond.static yX0_placeShift, Cond.code yX0_placeShift cX0_placeShift 1 (some .int), Cond.methodLink RX0 59 yX0_raise, Cond.instanceMethod yX0_raise, Cond.selects RX0 yX0_raise yX0_raise, Cond.code yX0_raise cX0_raise 3 none, Cond.methodLink RX0 63 yX2_listed]
def wsX0_bestKey : List Cond := .code yX0_bestKey cX0_bestKey 8 (some .int) :: ((wsX0_bestKey_r1 ++ wsX0_bestKey_r2) ++ wsX20 ++ wsX00 ++ wsX30)
def wsX3_clear : List Cond := .code yX3_clear cX3_clear 2 none :: ([.fieldLink RX3 9 "PopularMatchings$Matching" "posts" "[I"] ++ wsX30)
def wsX3_init : List Cond := .code yX3_init cX3_init 1 none :: ([.methodLink RX3 3 objectInit, .instanceMethod objectInit, .code objectInit ⟨#[0xb1]⟩ 1 none, .arrayClass .int, .fieldLink RX3 9 "PopularMatchings$Matching" "posts" "[I", .methodLink RX3 15 yX3_clear, .instanceMethod yX3_clear, .selects RX3 yX3_clear yX3_clear, .initialized RX3, .code yX3_clear cX3_clear 2 none] ++ wsX30)
def wsX1_init : List Cond := .code yX1_init cX1_init 2 none :: ([.methodLink RX1 3 objectInit, .instanceMethod objectInit, .code objectInit ⟨#[0xb1]⟩ 1 none, .fieldLink RX1 9 "PopularMatchings$History" "count" "I", .classLink RX1 15 RX3, .fieldLink RX1 17 "PopularMatchings$History" "presents" "[LPopularMatchings$Matching;", .fieldLink RX1 21 "PopularMatchings$History" "saveds" "[LPopularMatchings$Matching;", .instantiable RX3 1, .initialized RX3, .methodLink RX1 24 yX3_init, .instanceMethod yX3_init, .code yX3_init cX3_init 1 none, .methodLink RX3 3 objectInit, .arrayClass .int, .fieldLink RX3 9 "PopularMatchings$Matching" "posts" "[I", .methodLink RX3 15 yX3_clear, .instanceMethod yX3_clear, .selects RX3 yX3_clear yX3_clear, .code yX3_clear cX3_clear 2 none] ++ wsX10 ++ wsX30)
def wsX1_forget : List Cond := .code yX1_forget cX1_forget 1 none :: ([.fieldLink RX1 9 "PopularMatchings$History" "count" "I"] ++ wsX10)
def wsX3_copyFrom : List Cond := .code yX3_copyFrom cX3_copyFrom 3 none :: ([.fieldLink RX3 9 "PopularMatchings$Matching" "posts" "[I"] ++ wsX30)
def wsX1_dropOldest : List Cond := .code yX1_dropOldest cX1_dropOldest 2 none :: ([.fieldLink RX1 17 "PopularMatchings$History" "presents" "[LPopularMatchings$Matching;", .fieldLink RX1 21 "PopularMatchings$History" "saveds" "[LPopularMatchings$Matching;", .fieldLink RX1 9 "PopularMatchings$History" "count" "I", .methodLink RX1 28 yX3_copyFrom, .instanceMethod yX3_copyFrom, .selects RX3 yX3_copyFrom yX3_copyFrom, .initialized RX3, .code yX3_copyFrom cX3_copyFrom 3 none, .fieldLink RX3 9 "PopularMatchings$Matching" "posts" "[I"] ++ wsX10 ++ wsX30)
def wsX1_remember : List Cond := .code yX1_remember cX1_remember 3 none :: ([.fieldLink RX1 9 "PopularMatchings$History" "count" "I", .fieldLink RX1 17 "PopularMatchings$History" "presents" "[LPopularMatchings$Matching;", .fieldLink RX1 21 "PopularMatchings$History" "saveds" "[LPopularMatchings$Matching;", .methodLink RX1 25 yX1_dropOldest, .instanceMethod yX1_dropOldest, .selects RX1 yX1_dropOldest yX1_dropOldest, .initialized RX1, .code yX1_dropOldest cX1_dropOldest 2 none, .methodLink RX1 28 yX3_copyFrom, .instanceMethod yX3_copyFrom, .selects RX3 yX3_copyFrom yX3_copyFrom, .initialized RX3, .code yX3_copyFrom cX3_copyFrom 3 none, .fieldLink RX3 9 "PopularMatchings$Matching" "posts" "[I"] ++ wsX10 ++ wsX30)
def wsX1_restore : List Cond := .code yX1_restore cX1_restore 3 none :: ([.fieldLink RX1 9 "PopularMatchings$History" "count" "I", .fieldLink RX1 17 "PopularMatchings$History" "presents" "[LPopularMatchings$Matching;", .fieldLink RX1 21 "PopularMatchings$History" "saveds" "[LPopularMatchings$Matching;", .methodLink RX1 28 yX3_copyFrom, .instanceMethod yX3_copyFrom, .selects RX3 yX3_copyFrom yX3_copyFrom, .initialized RX3, .code yX3_copyFrom cX3_copyFrom 3 none, .fieldLink RX3 9 "PopularMatchings$Matching" "posts" "[I"] ++ wsX10 ++ wsX30)
def wsX2_startAnew : List Cond := .code yX2_startAnew cX2_startAnew 4 none :: ([.fieldLink RX2 25 "PopularMatchings$Instance" "applicants" "I", .fieldLink RX2 29 "PopularMatchings$Instance" "posts" "I", .fieldLink RX2 9 "PopularMatchings$Instance" "capacities" "[I", .fieldLink RX2 15 "PopularMatchings$Instance" "lengths" "[I"] ++ wsX20)
def wsX2_init : List Cond := .code yX2_init cX2_init 1 none :: ([.methodLink RX2 3 objectInit, .instanceMethod objectInit, .code objectInit ⟨#[0xb1]⟩ 1 none, .arrayClass .int, .fieldLink RX2 9 "PopularMatchings$Instance" "capacities" "[I", .fieldLink RX2 15 "PopularMatchings$Instance" "lengths" "[I", .fieldLink RX2 18 "PopularMatchings$Instance" "lists" "[I", .methodLink RX2 21 yX2_startAnew, .instanceMethod yX2_startAnew, .selects RX2 yX2_startAnew yX2_startAnew, .initialized RX2, .code yX2_startAnew cX2_startAnew 4 none, .fieldLink RX2 25 "PopularMatchings$Instance" "applicants" "I", .fieldLink RX2 29 "PopularMatchings$Instance" "posts" "I"] ++ wsX20)
def wsX2_isApplicant : List Cond := .code yX2_isApplicant cX2_isApplicant 2 (some .boolean) :: ([.fieldLink RX2 25 "PopularMatchings$Instance" "applicants" "I"] ++ wsX20)
def wsX2_isPost : List Cond := .code yX2_isPost cX2_isPost 2 (some .boolean) :: ([.fieldLink RX2 29 "PopularMatchings$Instance" "posts" "I"] ++ wsX20)
def wsX2_isListed : List Cond := .code yX2_isListed cX2_isListed 3 (some .boolean) :: ([.fieldLink RX2 15 "PopularMatchings$Instance" "lengths" "[I", .methodLink RX2 32 yX2_rankOf, .instanceMethod yX2_rankOf, .selects RX2 yX2_rankOf yX2_rankOf, .initialized RX2, .code yX2_rankOf cX2_rankOf 4 (some .int), .methodLink RX2 36 yX2_listed, .instanceMethod yX2_listed, .selects RX2 yX2_listed yX2_listed, .code yX2_listed cX2_listed 3 (some .int), .fieldLink RX2 18 "PopularMatchings$Instance" "lists" "[I"] ++ wsX20)
def wsX2_append : List Cond := .code yX2_append cX2_append 3 (some .int) :: ([.fieldLink RX2 18 "PopularMatchings$Instance" "lists" "[I", .fieldLink RX2 15 "PopularMatchings$Instance" "lengths" "[I"] ++ wsX20)
def wsX2_firstOf : List Cond := .code yX2_firstOf cX2_firstOf 2 (some .int) :: ([.fieldLink RX2 15 "PopularMatchings$Instance" "lengths" "[I", .methodLink RX2 36 yX2_listed, .instanceMethod yX2_listed, .selects RX2 yX2_listed yX2_listed, .initialized RX2, .code yX2_listed cX2_listed 3 (some .int), .fieldLink RX2 18 "PopularMatchings$Instance" "lists" "[I"] ++ wsX20)
def wsX2_countFirst : List Cond := .code yX2_countFirst cX2_countFirst 4 (some .int) :: ([.fieldLink RX2 25 "PopularMatchings$Instance" "applicants" "I", .methodLink RX2 43 yX2_firstOf, .instanceMethod yX2_firstOf, .selects RX2 yX2_firstOf yX2_firstOf, .initialized RX2, .code yX2_firstOf cX2_firstOf 2 (some .int), .fieldLink RX2 15 "PopularMatchings$Instance" "lengths" "[I", .methodLink RX2 36 yX2_listed, .instanceMethod yX2_listed, .selects RX2 yX2_listed yX2_listed, .code yX2_listed cX2_listed 3 (some .int), .fieldLink RX2 18 "PopularMatchings$Instance" "lists" "[I"] ++ wsX20)
def wsX2_secondOf : List Cond := .code yX2_secondOf cX2_secondOf 4 (some .int) :: ([.fieldLink RX2 15 "PopularMatchings$Instance" "lengths" "[I", .fieldLink RX2 9 "PopularMatchings$Instance" "capacities" "[I", .methodLink RX2 36 yX2_listed, .instanceMethod yX2_listed, .selects RX2 yX2_listed yX2_listed, .initialized RX2, .code yX2_listed cX2_listed 3 (some .int), .fieldLink RX2 18 "PopularMatchings$Instance" "lists" "[I", .methodLink RX2 39 yX2_countFirst, .instanceMethod yX2_countFirst, .selects RX2 yX2_countFirst yX2_countFirst, .code yX2_countFirst cX2_countFirst 4 (some .int), .fieldLink RX2 25 "PopularMatchings$Instance" "applicants" "I", .methodLink RX2 43 yX2_firstOf, .instanceMethod yX2_firstOf, .selects RX2 yX2_firstOf yX2_firstOf, .code yX2_firstOf cX2_firstOf 2 (some .int)] ++ wsX20)
def wsX3_countPlaced : List Cond := .code yX3_countPlaced cX3_countPlaced 3 (some .int) :: ([.fieldLink RX3 9 "PopularMatchings$Matching" "posts" "[I"] ++ wsX30)
def wsX3_othersAt : List Cond := .code yX3_othersAt cX3_othersAt 5 (some .int) :: ([.fieldLink RX3 9 "PopularMatchings$Matching" "posts" "[I"] ++ wsX30)
def wsX4_init : List Cond := .code yX4_init cX4_init 1 none :: ([.methodLink RX4 3 objectInit, .instanceMethod objectInit, .code objectInit ⟨#[0xb1]⟩ 1 none, .arrayClass .int, .fieldLink RX4 9 "PopularMatchings$PopularSearch" "firsts" "[I", .fieldLink RX4 15 "PopularMatchings$PopularSearch" "lower" "[I", .fieldLink RX4 18 "PopularMatchings$PopularSearch" "higher" "[I", .fieldLink RX4 21 "PopularMatchings$PopularSearch" "wanted" "[I", .fieldLink RX4 24 "PopularMatchings$PopularSearch" "held" "[I", .fieldLink RX4 27 "PopularMatchings$PopularSearch" "heldAsFirst" "[I", .fieldLink RX4 30 "PopularMatchings$PopularSearch" "found" "[I"] ++ wsX40)
def wsX4_prepare_r1 : List Cond := [Cond.fieldLink RX4 37 "PopularMatchings$Instance" "applicants" "I", Cond.fieldLink RX4 9 "PopularMatchings$PopularSearch" "firsts" "[I", Cond.fieldLink RX4 15 "PopularMatchings$PopularSearch" "lower" "[I", Cond.fieldLink RX4 18 "PopularMatchings$PopularSearch" "higher" "[I", Cond.fieldLink RX4 66 "PopularMatchings$Instance" "posts" "I", Cond.fieldLink RX4 21 "PopularMatchings$PopularSearch" "wanted" "[I", Cond.fieldLink RX4 71 "PopularMatchings$Instance" "capacities" "[I", Cond.methodLink RX4 74 Lib.Math.min.name, Cond.static Lib.Math.min.name, Cond.initialized "java/lang/Math", Cond.code Lib.Math.min.name Lib.Math.min.code 2 (some .int), Cond.methodLink RX4 59 yX2_firstOf, Cond.instanceMethod yX2_firstOf, Cond.selects RX2 yX2_firstOf yX2_firstOf, Cond.initialized RX2, Cond.code yX2_firstOf cX2_firstOf 2 (some .int), Cond.fieldLink RX2 15 "PopularMatchings$Instance" "lengths" "[I", Cond.methodLink RX2 36 yX2_listed, Cond.instanceMethod yX2_listed, Cond.selects RX2 yX2_listed yX2_listed, Cond.code yX2_listed cX2_listed 3 (some .int), Cond.fieldLink RX2 18 "PopularMatchings$Instance" "lists" "[I", Cond.methodLink RX4 63 yX2_secondOf, Cond.instanceMethod yX2_secondOf]
def wsX4_prepare_r2 : List Cond := [Cond.selects RX2 yX2_secondOf yX2_secondOf, Cond.code yX2_secondOf cX2_secondOf 4 (some .int), Cond.fieldLink RX2 9 "PopularMatchings$Instance" "capacities" "[I", Cond.methodLink RX2 39 yX2_countFirst, Cond.instanceMethod yX2_countFirst, Cond.selects RX2 yX2_countFirst yX2_countFirst, Cond.code yX2_countFirst cX2_countFirst 4 (some .int), Cond.fieldLink RX2 25 "PopularMatchings$Instance" "applicants" "I", Cond.methodLink RX2 43 yX2_firstOf, Cond.methodLink RX4 68 yX2_countFirst]
def wsX4_prepare : List Cond := .code yX4_prepare cX4_prepare 6 none :: ((wsX4_prepare_r1 ++ wsX4_prepare_r2) ++ wsX20 ++ wsX40)
def wsX4_takesHigher : List Cond := .code yX4_takesHigher cX4_takesHigher 3 (some .boolean) :: ([.fieldLink RX4 37 "PopularMatchings$Instance" "applicants" "I"] ++ wsX20)
def wsX4_postIn : List Cond := .code yX4_postIn cX4_postIn 4 (some .int) :: ([.fieldLink RX4 18 "PopularMatchings$PopularSearch" "higher" "[I", .fieldLink RX4 15 "PopularMatchings$PopularSearch" "lower" "[I", .methodLink RX4 80 yX4_takesHigher, .static yX4_takesHigher, .initialized RX4, .code yX4_takesHigher cX4_takesHigher 3 (some .boolean), .fieldLink RX4 37 "PopularMatchings$Instance" "applicants" "I"] ++ wsX40 ++ wsX20)
def wsX4_count : List Cond := .code yX4_count cX4_count 3 none :: ([.fieldLink RX4 24 "PopularMatchings$PopularSearch" "held" "[I", .fieldLink RX4 9 "PopularMatchings$PopularSearch" "firsts" "[I", .fieldLink RX4 27 "PopularMatchings$PopularSearch" "heldAsFirst" "[I"] ++ wsX40)
def wsX4_isPopular : List Cond := .code yX4_isPopular cX4_isPopular 5 (some .boolean) :: ([.fieldLink RX4 66 "PopularMatchings$Instance" "posts" "I", .fieldLink RX4 24 "PopularMatchings$PopularSearch" "held" "[I", .fieldLink RX4 27 "PopularMatchings$PopularSearch" "heldAsFirst" "[I", .fieldLink RX4 37 "PopularMatchings$Instance" "applicants" "I", .fieldLink RX4 15 "PopularMatchings$PopularSearch" "lower" "[I", .fieldLink RX4 18 "PopularMatchings$PopularSearch" "higher" "[I", .fieldLink RX4 71 "PopularMatchings$Instance" "capacities" "[I", .fieldLink RX4 21 "PopularMatchings$PopularSearch" "wanted" "[I", .methodLink RX4 80 yX4_takesHigher, .static yX4_takesHigher, .initialized RX4, .code yX4_takesHigher cX4_takesHigher 3 (some .boolean), .methodLink RX4 55 yX4_postIn, .instanceMethod yX4_postIn, .selects RX4 yX4_postIn yX4_postIn, .code yX4_postIn cX4_postIn 4 (some .int), .methodLink RX4 84 yX4_count, .instanceMethod yX4_count, .selects RX4 yX4_count yX4_count, .code yX4_count cX4_count 3 none, .fieldLink RX4 9 "PopularMatchings$PopularSearch" "firsts" "[I"] ++ wsX20 ++ wsX40)
def wsX4_collect_r1 : List Cond := [Cond.fieldLink RX4 37 "PopularMatchings$Instance" "applicants" "I", Cond.fieldLink RX4 30 "PopularMatchings$PopularSearch" "found" "[I", Cond.methodLink RX4 33 yX4_prepare, Cond.instanceMethod yX4_prepare, Cond.selects RX4 yX4_prepare yX4_prepare, Cond.initialized RX4, Cond.code yX4_prepare cX4_prepare 6 none, Cond.fieldLink RX4 9 "PopularMatchings$PopularSearch" "firsts" "[I", Cond.fieldLink RX4 15 "PopularMatchings$PopularSearch" "lower" "[I", Cond.fieldLink RX4 18 "PopularMatchings$PopularSearch" "higher" "[I", Cond.fieldLink RX4 66 "PopularMatchings$Instance" "posts" "I", Cond.fieldLink RX4 21 "PopularMatchings$PopularSearch" "wanted" "[I", Cond.fieldLink RX4 71 "PopularMatchings$Instance" "capacities" "[I", Cond.methodLink RX4 74 Lib.Math.min.name, Cond.static Lib.Math.min.name, Cond.initialized "java/lang/Math", Cond.code Lib.Math.min.name Lib.Math.min.code 2 (some .int), Cond.methodLink RX4 59 yX2_firstOf, Cond.instanceMethod yX2_firstOf, Cond.selects RX2 yX2_firstOf yX2_firstOf, Cond.initialized RX2, Cond.code yX2_firstOf cX2_firstOf 2 (some .int), Cond.fieldLink RX2 15 "PopularMatchings$Instance" "lengths" "[I", Cond.methodLink RX2 36 yX2_listed]
def wsX4_collect_r2 : List Cond := [Cond.instanceMethod yX2_listed, Cond.selects RX2 yX2_listed yX2_listed, Cond.code yX2_listed cX2_listed 3 (some .int), Cond.fieldLink RX2 18 "PopularMatchings$Instance" "lists" "[I", Cond.methodLink RX4 63 yX2_secondOf, Cond.instanceMethod yX2_secondOf, Cond.selects RX2 yX2_secondOf yX2_secondOf, Cond.code yX2_secondOf cX2_secondOf 4 (some .int), Cond.fieldLink RX2 9 "PopularMatchings$Instance" "capacities" "[I", Cond.methodLink RX2 39 yX2_countFirst, Cond.instanceMethod yX2_countFirst, Cond.selects RX2 yX2_countFirst yX2_countFirst, Cond.code yX2_countFirst cX2_countFirst 4 (some .int), Cond.fieldLink RX2 25 "PopularMatchings$Instance" "applicants" "I", Cond.methodLink RX2 43 yX2_firstOf, Cond.methodLink RX4 68 yX2_countFirst, Cond.methodLink RX4 43 yX4_isPopular, Cond.instanceMethod yX4_isPopular, Cond.selects RX4 yX4_isPopular yX4_isPopular, Cond.code yX4_isPopular cX4_isPopular 5 (some .boolean), Cond.fieldLink RX4 24 "PopularMatchings$PopularSearch" "held" "[I", Cond.fieldLink RX4 27 "PopularMatchings$PopularSearch" "heldAsFirst" "[I", Cond.methodLink RX4 80 yX4_takesHigher, Cond.static yX4_takesHigher]
def wsX4_collect_r3 : List Cond := [Cond.code yX4_takesHigher cX4_takesHigher 3 (some .boolean), Cond.methodLink RX4 55 yX4_postIn, Cond.instanceMethod yX4_postIn, Cond.selects RX4 yX4_postIn yX4_postIn, Cond.code yX4_postIn cX4_postIn 4 (some .int), Cond.methodLink RX4 84 yX4_count, Cond.instanceMethod yX4_count, Cond.selects RX4 yX4_count yX4_count, Cond.code yX4_count cX4_count 3 none]
def wsX4_collect : List Cond := .code yX4_collect cX4_collect 4 (some .int) :: ((wsX4_collect_r1 ++ (wsX4_collect_r2 ++ wsX4_collect_r3)) ++ wsX20 ++ wsX40)
def wsX4_write : List Cond := .code yX4_write cX4_write 5 none :: ([.fieldLink RX4 37 "PopularMatchings$Instance" "applicants" "I", .fieldLink RX4 52 "PopularMatchings$Matching" "posts" "[I", .fieldLink RX4 30 "PopularMatchings$PopularSearch" "found" "[I", .methodLink RX4 47 yX3_clear, .instanceMethod yX3_clear, .selects RX3 yX3_clear yX3_clear, .initialized RX3, .code yX3_clear cX3_clear 2 none, .fieldLink RX3 9 "PopularMatchings$Matching" "posts" "[I", .methodLink RX4 55 yX4_postIn, .instanceMethod yX4_postIn, .selects RX4 yX4_postIn yX4_postIn, .initialized RX4, .code yX4_postIn cX4_postIn 4 (some .int), .fieldLink RX4 18 "PopularMatchings$PopularSearch" "higher" "[I", .fieldLink RX4 15 "PopularMatchings$PopularSearch" "lower" "[I", .methodLink RX4 80 yX4_takesHigher, .static yX4_takesHigher, .code yX4_takesHigher cX4_takesHigher 3 (some .boolean)] ++ wsX20 ++ wsX30 ++ wsX40)
def wsX5_init_r1 : List Cond := [Cond.methodLink RX5 1 objectInit, Cond.instanceMethod objectInit, Cond.code objectInit ⟨#[0xb1]⟩ 1 none, Cond.classLink RX5 7 RX2, Cond.instantiable RX2 5, Cond.initialized RX2, Cond.fieldLink RX5 10 "PopularMatchings" "instance" "LPopularMatchings$Instance;", Cond.classLink RX5 16 RX3, Cond.instantiable RX3 1, Cond.initialized RX3, Cond.fieldLink RX5 19 "PopularMatchings" "present" "LPopularMatchings$Matching;", Cond.fieldLink RX5 23 "PopularMatchings" "saved" "LPopularMatchings$Matching;", Cond.fieldLink RX5 26 "PopularMatchings" "draft" "LPopularMatchings$Matching;", Cond.classLink RX5 29 RX1, Cond.instantiable RX1 3, Cond.initialized RX1, Cond.fieldLink RX5 32 "PopularMatchings" "history" "LPopularMatchings$History;", Cond.classLink RX5 36 RX0, Cond.instantiable RX0 2, Cond.initialized RX0, Cond.fieldLink RX5 39 "PopularMatchings" "challengers" "LPopularMatchings$ChallengerSearch;", Cond.classLink RX5 43 RX4, Cond.instantiable RX4 7, Cond.initialized RX4]
def wsX5_init_r2 : List Cond := [Cond.fieldLink RX5 46 "PopularMatchings" "populars" "LPopularMatchings$PopularSearch;", Cond.methodLink RX5 9 yX2_init, Cond.instanceMethod yX2_init, Cond.code yX2_init cX2_init 1 none, Cond.methodLink RX2 3 objectInit, Cond.arrayClass .int, Cond.fieldLink RX2 9 "PopularMatchings$Instance" "capacities" "[I", Cond.fieldLink RX2 15 "PopularMatchings$Instance" "lengths" "[I", Cond.fieldLink RX2 18 "PopularMatchings$Instance" "lists" "[I", Cond.methodLink RX2 21 yX2_startAnew, Cond.instanceMethod yX2_startAnew, Cond.selects RX2 yX2_startAnew yX2_startAnew, Cond.code yX2_startAnew cX2_startAnew 4 none, Cond.fieldLink RX2 25 "PopularMatchings$Instance" "applicants" "I", Cond.fieldLink RX2 29 "PopularMatchings$Instance" "posts" "I", Cond.methodLink RX5 18 yX3_init, Cond.instanceMethod yX3_init, Cond.code yX3_init cX3_init 1 none, Cond.methodLink RX3 3 objectInit, Cond.fieldLink RX3 9 "PopularMatchings$Matching" "posts" "[I", Cond.methodLink RX3 15 yX3_clear, Cond.instanceMethod yX3_clear, Cond.selects RX3 yX3_clear yX3_clear, Cond.code yX3_clear cX3_clear 2 none]
def wsX5_init_r3 : List Cond := [Cond.methodLink RX5 31 yX1_init, Cond.instanceMethod yX1_init, Cond.code yX1_init cX1_init 2 none, Cond.methodLink RX1 3 objectInit, Cond.fieldLink RX1 9 "PopularMatchings$History" "count" "I", Cond.classLink RX1 15 RX3, Cond.fieldLink RX1 17 "PopularMatchings$History" "presents" "[LPopularMatchings$Matching;", Cond.fieldLink RX1 21 "PopularMatchings$History" "saveds" "[LPopularMatchings$Matching;", Cond.methodLink RX1 24 yX3_init, Cond.methodLink RX5 38 yX0_init, Cond.instanceMethod yX0_init, Cond.code yX0_init cX0_init 4 none, Cond.methodLink RX0 5 objectInit, Cond.fieldLink RX0 11 "PopularMatchings$ChallengerSearch" "placed" "[I", Cond.fieldLink RX0 15 "PopularMatchings$ChallengerSearch" "best" "[I", Cond.instanceMethod yX4_init, Cond.code yX4_init cX4_init 1 none, Cond.methodLink RX4 3 objectInit, Cond.fieldLink RX4 9 "PopularMatchings$PopularSearch" "firsts" "[I", Cond.fieldLink RX4 15 "PopularMatchings$PopularSearch" "lower" "[I", Cond.fieldLink RX4 18 "PopularMatchings$PopularSearch" "higher" "[I", Cond.fieldLink RX4 21 "PopularMatchings$PopularSearch" "wanted" "[I", Cond.fieldLink RX4 24 "PopularMatchings$PopularSearch" "held" "[I", Cond.fieldLink RX4 27 "PopularMatchings$PopularSearch" "heldAsFirst" "[I"]
def wsX5_init_r4 : List Cond := [Cond.fieldLink RX4 30 "PopularMatchings$PopularSearch" "found" "[I"]
def wsX5_init : List Cond := .code yX5_init cX5_init 1 none :: ((wsX5_init_r1 ++ (wsX5_init_r2 ++ (wsX5_init_r3 ++ wsX5_init_r4))) ++ wsX20 ++ wsX50 ++ wsX30 ++ wsX10 ++ wsX00 ++ wsX40)
def wsX5_forgetMatchings : List Cond := .code yX5_forgetMatchings cX5_forgetMatchings 1 none :: ([.fieldLink RX5 19 "PopularMatchings" "present" "LPopularMatchings$Matching;", .fieldLink RX5 23 "PopularMatchings" "saved" "LPopularMatchings$Matching;", .fieldLink RX5 32 "PopularMatchings" "history" "LPopularMatchings$History;", .methodLink RX5 127 yX3_clear, .instanceMethod yX3_clear, .selects RX3 yX3_clear yX3_clear, .initialized RX3, .code yX3_clear cX3_clear 2 none, .fieldLink RX3 9 "PopularMatchings$Matching" "posts" "[I", .methodLink RX5 155 yX1_forget, .instanceMethod yX1_forget, .selects RX1 yX1_forget yX1_forget, .initialized RX1, .code yX1_forget cX1_forget 1 none, .fieldLink RX1 9 "PopularMatchings$History" "count" "I"] ++ wsX50 ++ wsX30 ++ wsX10)
def wsX5_reset_r1 : List Cond := [Cond.fieldLink RX5 10 "PopularMatchings" "instance" "LPopularMatchings$Instance;", Cond.fieldLink RX5 50 "PopularMatchings$Instance" "applicants" "I", Cond.methodLink RX5 54 yX2_startAnew, Cond.instanceMethod yX2_startAnew, Cond.selects RX2 yX2_startAnew yX2_startAnew, Cond.initialized RX2, Cond.code yX2_startAnew cX2_startAnew 4 none, Cond.fieldLink RX2 25 "PopularMatchings$Instance" "applicants" "I", Cond.fieldLink RX2 29 "PopularMatchings$Instance" "posts" "I", Cond.fieldLink RX2 9 "PopularMatchings$Instance" "capacities" "[I", Cond.fieldLink RX2 15 "PopularMatchings$Instance" "lengths" "[I", Cond.methodLink RX5 58 yX5_forgetMatchings, Cond.instanceMethod yX5_forgetMatchings, Cond.selects RX5 yX5_forgetMatchings yX5_forgetMatchings, Cond.initialized RX5, Cond.code yX5_forgetMatchings cX5_forgetMatchings 1 none, Cond.fieldLink RX5 19 "PopularMatchings" "present" "LPopularMatchings$Matching;", Cond.fieldLink RX5 23 "PopularMatchings" "saved" "LPopularMatchings$Matching;", Cond.fieldLink RX5 32 "PopularMatchings" "history" "LPopularMatchings$History;", Cond.methodLink RX5 127 yX3_clear, Cond.instanceMethod yX3_clear, Cond.selects RX3 yX3_clear yX3_clear, Cond.initialized RX3, Cond.code yX3_clear cX3_clear 2 none]
def wsX5_reset_r2 : List Cond := [Cond.fieldLink RX3 9 "PopularMatchings$Matching" "posts" "[I", Cond.methodLink RX5 155 yX1_forget, Cond.instanceMethod yX1_forget, Cond.selects RX1 yX1_forget yX1_forget, Cond.initialized RX1, Cond.code yX1_forget cX1_forget 1 none, Cond.fieldLink RX1 9 "PopularMatchings$History" "count" "I"]
def wsX5_reset : List Cond := .code yX5_reset cX5_reset 5 (some .int) :: ((wsX5_reset_r1 ++ wsX5_reset_r2) ++ wsX50 ++ wsX20 ++ wsX30 ++ wsX10)
def wsX5_setCapacity_r1 : List Cond := [Cond.fieldLink RX5 10 "PopularMatchings" "instance" "LPopularMatchings$Instance;", Cond.fieldLink RX5 65 "PopularMatchings$Instance" "capacities" "[I", Cond.methodLink RX5 61 yX2_isPost, Cond.instanceMethod yX2_isPost, Cond.selects RX2 yX2_isPost yX2_isPost, Cond.initialized RX2, Cond.code yX2_isPost cX2_isPost 2 (some .boolean), Cond.fieldLink RX2 29 "PopularMatchings$Instance" "posts" "I", Cond.methodLink RX5 58 yX5_forgetMatchings, Cond.instanceMethod yX5_forgetMatchings, Cond.selects RX5 yX5_forgetMatchings yX5_forgetMatchings, Cond.initialized RX5, Cond.code yX5_forgetMatchings cX5_forgetMatchings 1 none, Cond.fieldLink RX5 19 "PopularMatchings" "present" "LPopularMatchings$Matching;", Cond.fieldLink RX5 23 "PopularMatchings" "saved" "LPopularMatchings$Matching;", Cond.fieldLink RX5 32 "PopularMatchings" "history" "LPopularMatchings$History;", Cond.methodLink RX5 127 yX3_clear, Cond.instanceMethod yX3_clear, Cond.selects RX3 yX3_clear yX3_clear, Cond.initialized RX3, Cond.code yX3_clear cX3_clear 2 none, Cond.fieldLink RX3 9 "PopularMatchings$Matching" "posts" "[I", Cond.methodLink RX5 155 yX1_forget, Cond.instanceMethod yX1_forget]
def wsX5_setCapacity_r2 : List Cond := [Cond.selects RX1 yX1_forget yX1_forget, Cond.initialized RX1, Cond.code yX1_forget cX1_forget 1 none, Cond.fieldLink RX1 9 "PopularMatchings$History" "count" "I"]
def wsX5_setCapacity : List Cond := .code yX5_setCapacity cX5_setCapacity 4 (some .int) :: ((wsX5_setCapacity_r1 ++ wsX5_setCapacity_r2) ++ wsX50 ++ wsX20 ++ wsX30 ++ wsX10)
def wsX5_appendPreference_r1 : List Cond := [Cond.fieldLink RX5 10 "PopularMatchings" "instance" "LPopularMatchings$Instance;", Cond.methodLink RX5 69 yX2_isApplicant, Cond.instanceMethod yX2_isApplicant, Cond.selects RX2 yX2_isApplicant yX2_isApplicant, Cond.initialized RX2, Cond.code yX2_isApplicant cX2_isApplicant 2 (some .boolean), Cond.fieldLink RX2 25 "PopularMatchings$Instance" "applicants" "I", Cond.methodLink RX5 61 yX2_isPost, Cond.instanceMethod yX2_isPost, Cond.selects RX2 yX2_isPost yX2_isPost, Cond.code yX2_isPost cX2_isPost 2 (some .boolean), Cond.fieldLink RX2 29 "PopularMatchings$Instance" "posts" "I", Cond.methodLink RX5 72 yX2_isListed, Cond.instanceMethod yX2_isListed, Cond.selects RX2 yX2_isListed yX2_isListed, Cond.code yX2_isListed cX2_isListed 3 (some .boolean), Cond.fieldLink RX2 15 "PopularMatchings$Instance" "lengths" "[I", Cond.methodLink RX2 32 yX2_rankOf, Cond.instanceMethod yX2_rankOf, Cond.selects RX2 yX2_rankOf yX2_rankOf, Cond.code yX2_rankOf cX2_rankOf 4 (some .int), Cond.methodLink RX2 36 yX2_listed, Cond.instanceMethod yX2_listed, Cond.selects RX2 yX2_listed yX2_listed]
def wsX5_appendPreference_r2 : List Cond := [Cond.code yX2_listed cX2_listed 3 (some .int), Cond.fieldLink RX2 18 "PopularMatchings$Instance" "lists" "[I", Cond.methodLink RX5 76 yX2_append, Cond.instanceMethod yX2_append, Cond.selects RX2 yX2_append yX2_append, Cond.code yX2_append cX2_append 3 (some .int), Cond.methodLink RX5 58 yX5_forgetMatchings, Cond.instanceMethod yX5_forgetMatchings, Cond.selects RX5 yX5_forgetMatchings yX5_forgetMatchings, Cond.initialized RX5, Cond.code yX5_forgetMatchings cX5_forgetMatchings 1 none, Cond.fieldLink RX5 19 "PopularMatchings" "present" "LPopularMatchings$Matching;", Cond.fieldLink RX5 23 "PopularMatchings" "saved" "LPopularMatchings$Matching;", Cond.fieldLink RX5 32 "PopularMatchings" "history" "LPopularMatchings$History;", Cond.methodLink RX5 127 yX3_clear, Cond.instanceMethod yX3_clear, Cond.selects RX3 yX3_clear yX3_clear, Cond.initialized RX3, Cond.code yX3_clear cX3_clear 2 none, Cond.fieldLink RX3 9 "PopularMatchings$Matching" "posts" "[I", Cond.methodLink RX5 155 yX1_forget, Cond.instanceMethod yX1_forget, Cond.selects RX1 yX1_forget yX1_forget, Cond.initialized RX1]
def wsX5_appendPreference_r3 : List Cond := [Cond.code yX1_forget cX1_forget 1 none, Cond.fieldLink RX1 9 "PopularMatchings$History" "count" "I"]
def wsX5_appendPreference : List Cond := .code yX5_appendPreference cX5_appendPreference 4 (some .int) :: ((wsX5_appendPreference_r1 ++ (wsX5_appendPreference_r2 ++ wsX5_appendPreference_r3)) ++ wsX50 ++ wsX20 ++ wsX30 ++ wsX10)
def wsX5_clearPreferences_r1 : List Cond := [Cond.fieldLink RX5 10 "PopularMatchings" "instance" "LPopularMatchings$Instance;", Cond.fieldLink RX5 80 "PopularMatchings$Instance" "lengths" "[I", Cond.methodLink RX5 69 yX2_isApplicant, Cond.instanceMethod yX2_isApplicant, Cond.selects RX2 yX2_isApplicant yX2_isApplicant, Cond.initialized RX2, Cond.code yX2_isApplicant cX2_isApplicant 2 (some .boolean), Cond.fieldLink RX2 25 "PopularMatchings$Instance" "applicants" "I", Cond.methodLink RX5 58 yX5_forgetMatchings, Cond.instanceMethod yX5_forgetMatchings, Cond.selects RX5 yX5_forgetMatchings yX5_forgetMatchings, Cond.initialized RX5, Cond.code yX5_forgetMatchings cX5_forgetMatchings 1 none, Cond.fieldLink RX5 19 "PopularMatchings" "present" "LPopularMatchings$Matching;", Cond.fieldLink RX5 23 "PopularMatchings" "saved" "LPopularMatchings$Matching;", Cond.fieldLink RX5 32 "PopularMatchings" "history" "LPopularMatchings$History;", Cond.methodLink RX5 127 yX3_clear, Cond.instanceMethod yX3_clear, Cond.selects RX3 yX3_clear yX3_clear, Cond.initialized RX3, Cond.code yX3_clear cX3_clear 2 none, Cond.fieldLink RX3 9 "PopularMatchings$Matching" "posts" "[I", Cond.methodLink RX5 155 yX1_forget, Cond.instanceMethod yX1_forget]
def wsX5_clearPreferences_r2 : List Cond := [Cond.selects RX1 yX1_forget yX1_forget, Cond.initialized RX1, Cond.code yX1_forget cX1_forget 1 none, Cond.fieldLink RX1 9 "PopularMatchings$History" "count" "I"]
def wsX5_clearPreferences : List Cond := .code yX5_clearPreferences cX5_clearPreferences 3 (some .int) :: ((wsX5_clearPreferences_r1 ++ wsX5_clearPreferences_r2) ++ wsX50 ++ wsX20 ++ wsX30 ++ wsX10)
def wsX5_preferenceAt : List Cond := .code yX5_preferenceAt cX5_preferenceAt 3 (some .int) :: ([.fieldLink RX5 10 "PopularMatchings" "instance" "LPopularMatchings$Instance;", .fieldLink RX5 80 "PopularMatchings$Instance" "lengths" "[I", .methodLink RX5 69 yX2_isApplicant, .instanceMethod yX2_isApplicant, .selects RX2 yX2_isApplicant yX2_isApplicant, .initialized RX2, .code yX2_isApplicant cX2_isApplicant 2 (some .boolean), .fieldLink RX2 25 "PopularMatchings$Instance" "applicants" "I", .methodLink RX5 83 yX2_listed, .instanceMethod yX2_listed, .selects RX2 yX2_listed yX2_listed, .code yX2_listed cX2_listed 3 (some .int), .fieldLink RX2 18 "PopularMatchings$Instance" "lists" "[I"] ++ wsX50 ++ wsX20)
def wsX5_firstPost : List Cond := .code yX5_firstPost cX5_firstPost 2 (some .int) :: ([.fieldLink RX5 10 "PopularMatchings" "instance" "LPopularMatchings$Instance;", .methodLink RX5 69 yX2_isApplicant, .instanceMethod yX2_isApplicant, .selects RX2 yX2_isApplicant yX2_isApplicant, .initialized RX2, .code yX2_isApplicant cX2_isApplicant 2 (some .boolean), .fieldLink RX2 25 "PopularMatchings$Instance" "applicants" "I", .methodLink RX5 86 yX2_firstOf, .instanceMethod yX2_firstOf, .selects RX2 yX2_firstOf yX2_firstOf, .code yX2_firstOf cX2_firstOf 2 (some .int), .fieldLink RX2 15 "PopularMatchings$Instance" "lengths" "[I", .methodLink RX2 36 yX2_listed, .instanceMethod yX2_listed, .selects RX2 yX2_listed yX2_listed, .code yX2_listed cX2_listed 3 (some .int), .fieldLink RX2 18 "PopularMatchings$Instance" "lists" "[I"] ++ wsX50 ++ wsX20)
def wsX5_secondPost_r1 : List Cond := [Cond.fieldLink RX5 10 "PopularMatchings" "instance" "LPopularMatchings$Instance;", Cond.methodLink RX5 69 yX2_isApplicant, Cond.instanceMethod yX2_isApplicant, Cond.selects RX2 yX2_isApplicant yX2_isApplicant, Cond.initialized RX2, Cond.code yX2_isApplicant cX2_isApplicant 2 (some .boolean), Cond.fieldLink RX2 25 "PopularMatchings$Instance" "applicants" "I", Cond.methodLink RX5 90 yX2_secondOf, Cond.instanceMethod yX2_secondOf, Cond.selects RX2 yX2_secondOf yX2_secondOf, Cond.code yX2_secondOf cX2_secondOf 4 (some .int), Cond.fieldLink RX2 15 "PopularMatchings$Instance" "lengths" "[I", Cond.fieldLink RX2 9 "PopularMatchings$Instance" "capacities" "[I", Cond.methodLink RX2 36 yX2_listed, Cond.instanceMethod yX2_listed, Cond.selects RX2 yX2_listed yX2_listed, Cond.code yX2_listed cX2_listed 3 (some .int), Cond.fieldLink RX2 18 "PopularMatchings$Instance" "lists" "[I", Cond.methodLink RX2 39 yX2_countFirst, Cond.instanceMethod yX2_countFirst, Cond.selects RX2 yX2_countFirst yX2_countFirst, Cond.code yX2_countFirst cX2_countFirst 4 (some .int), Cond.methodLink RX2 43 yX2_firstOf, Cond.instanceMethod yX2_firstOf]
def wsX5_secondPost_r2 : List Cond := [Cond.selects RX2 yX2_firstOf yX2_firstOf, Cond.code yX2_firstOf cX2_firstOf 2 (some .int)]
def wsX5_secondPost : List Cond := .code yX5_secondPost cX5_secondPost 2 (some .int) :: ((wsX5_secondPost_r1 ++ wsX5_secondPost_r2) ++ wsX50 ++ wsX20)
def wsX5_assign_r1 : List Cond := [Cond.fieldLink RX5 10 "PopularMatchings" "instance" "LPopularMatchings$Instance;", Cond.fieldLink RX5 19 "PopularMatchings" "present" "LPopularMatchings$Matching;", Cond.fieldLink RX5 65 "PopularMatchings$Instance" "capacities" "[I", Cond.fieldLink RX5 96 "PopularMatchings$Matching" "posts" "[I", Cond.fieldLink RX5 32 "PopularMatchings" "history" "LPopularMatchings$History;", Cond.fieldLink RX5 23 "PopularMatchings" "saved" "LPopularMatchings$Matching;", Cond.methodLink RX5 69 yX2_isApplicant, Cond.instanceMethod yX2_isApplicant, Cond.selects RX2 yX2_isApplicant yX2_isApplicant, Cond.initialized RX2, Cond.code yX2_isApplicant cX2_isApplicant 2 (some .boolean), Cond.fieldLink RX2 25 "PopularMatchings$Instance" "applicants" "I", Cond.methodLink RX5 61 yX2_isPost, Cond.instanceMethod yX2_isPost, Cond.selects RX2 yX2_isPost yX2_isPost, Cond.code yX2_isPost cX2_isPost 2 (some .boolean), Cond.fieldLink RX2 29 "PopularMatchings$Instance" "posts" "I", Cond.methodLink RX5 72 yX2_isListed, Cond.instanceMethod yX2_isListed, Cond.selects RX2 yX2_isListed yX2_isListed, Cond.code yX2_isListed cX2_isListed 3 (some .boolean), Cond.fieldLink RX2 15 "PopularMatchings$Instance" "lengths" "[I", Cond.methodLink RX2 32 yX2_rankOf, Cond.instanceMethod yX2_rankOf]
def wsX5_assign_r2 : List Cond := [Cond.selects RX2 yX2_rankOf yX2_rankOf, Cond.code yX2_rankOf cX2_rankOf 4 (some .int), Cond.methodLink RX2 36 yX2_listed, Cond.instanceMethod yX2_listed, Cond.selects RX2 yX2_listed yX2_listed, Cond.code yX2_listed cX2_listed 3 (some .int), Cond.fieldLink RX2 18 "PopularMatchings$Instance" "lists" "[I", Cond.methodLink RX5 93 yX3_othersAt, Cond.instanceMethod yX3_othersAt, Cond.selects RX3 yX3_othersAt yX3_othersAt, Cond.initialized RX3, Cond.code yX3_othersAt cX3_othersAt 5 (some .int), Cond.fieldLink RX3 9 "PopularMatchings$Matching" "posts" "[I", Cond.methodLink RX5 99 yX1_remember, Cond.instanceMethod yX1_remember, Cond.selects RX1 yX1_remember yX1_remember, Cond.initialized RX1, Cond.code yX1_remember cX1_remember 3 none, Cond.fieldLink RX1 9 "PopularMatchings$History" "count" "I", Cond.fieldLink RX1 17 "PopularMatchings$History" "presents" "[LPopularMatchings$Matching;", Cond.fieldLink RX1 21 "PopularMatchings$History" "saveds" "[LPopularMatchings$Matching;", Cond.methodLink RX1 25 yX1_dropOldest, Cond.instanceMethod yX1_dropOldest, Cond.selects RX1 yX1_dropOldest yX1_dropOldest]
def wsX5_assign_r3 : List Cond := [Cond.code yX1_dropOldest cX1_dropOldest 2 none, Cond.methodLink RX1 28 yX3_copyFrom, Cond.instanceMethod yX3_copyFrom, Cond.selects RX3 yX3_copyFrom yX3_copyFrom, Cond.code yX3_copyFrom cX3_copyFrom 3 none]
def wsX5_assign : List Cond := .code yX5_assign cX5_assign 4 (some .int) :: ((wsX5_assign_r1 ++ (wsX5_assign_r2 ++ wsX5_assign_r3)) ++ wsX50 ++ wsX20 ++ wsX30 ++ wsX10)
def wsX5_postOf : List Cond := .code yX5_postOf cX5_postOf 2 (some .int) :: ([.fieldLink RX5 10 "PopularMatchings" "instance" "LPopularMatchings$Instance;", .fieldLink RX5 19 "PopularMatchings" "present" "LPopularMatchings$Matching;", .fieldLink RX5 96 "PopularMatchings$Matching" "posts" "[I", .methodLink RX5 69 yX2_isApplicant, .instanceMethod yX2_isApplicant, .selects RX2 yX2_isApplicant yX2_isApplicant, .initialized RX2, .code yX2_isApplicant cX2_isApplicant 2 (some .boolean), .fieldLink RX2 25 "PopularMatchings$Instance" "applicants" "I"] ++ wsX50 ++ wsX30 ++ wsX20)
def wsX5_size : List Cond := .code yX5_size cX5_size 1 (some .int) :: ([.fieldLink RX5 19 "PopularMatchings" "present" "LPopularMatchings$Matching;", .methodLink RX5 103 yX3_countPlaced, .instanceMethod yX3_countPlaced, .selects RX3 yX3_countPlaced yX3_countPlaced, .initialized RX3, .code yX3_countPlaced cX3_countPlaced 3 (some .int), .fieldLink RX3 9 "PopularMatchings$Matching" "posts" "[I"] ++ wsX50 ++ wsX30)
def wsX5_isParetoOptimal_r1 : List Cond := [Cond.fieldLink RX5 39 "PopularMatchings" "challengers" "LPopularMatchings$ChallengerSearch;", Cond.fieldLink RX5 10 "PopularMatchings" "instance" "LPopularMatchings$Instance;", Cond.fieldLink RX5 19 "PopularMatchings" "present" "LPopularMatchings$Matching;", Cond.methodLink RX5 107 yX0_bestKey, Cond.instanceMethod yX0_bestKey, Cond.selects RX0 yX0_bestKey yX0_bestKey, Cond.initialized RX0, Cond.code yX0_bestKey cX0_bestKey 8 (some .int), Cond.fieldLink RX0 23 "PopularMatchings$ChallengerSearch" "FILL_OF_POST" "[I", Cond.fieldLink RX0 26 "PopularMatchings$Instance" "posts" "I", Cond.fieldLink RX0 15 "PopularMatchings$ChallengerSearch" "best" "[I", Cond.constant RX0 32 (-1073741824), Cond.constant RX0 18 (262143), Cond.fieldLink RX0 33 "PopularMatchings$Instance" "applicants" "I", Cond.fieldLink RX0 36 "PopularMatchings$Matching" "posts" "[I", Cond.fieldLink RX0 44 "PopularMatchings$Instance" "lengths" "[I", Cond.methodLink RX0 51 Lib.Math.max.name, Cond.static Lib.Math.max.name, Cond.initialized "java/lang/Math", Cond.code Lib.Math.max.name Lib.Math.max.code 2 (some .int), Cond.methodLink RX0 40 yX2_rankOf, Cond.instanceMethod yX2_rankOf, Cond.selects RX2 yX2_rankOf yX2_rankOf, Cond.initialized RX2]
def wsX5_isParetoOptimal_r2 : List Cond := [Cond.code yX2_rankOf cX2_rankOf 4 (some .int), Cond.fieldLink RX2 15 "PopularMatchings$Instance" "lengths" "[I", Cond.methodLink RX2 36 yX2_listed, Cond.instanceMethod yX2_listed, Cond.selects RX2 yX2_listed yX2_listed, Cond.code yX2_listed cX2_listed 3 (some .int), Cond.fieldLink RX2 18 "PopularMatchings$Instance" "lists" "[I", Cond.methodLink RX0 47 yX0_letChoose, Cond.instanceMethod yX0_letChoose, Cond.selects RX0 yX0_letChoose yX0_letChoose, Cond.code yX0_letChoose cX0_letChoose 11 none, Cond.fieldLink RX0 11 "PopularMatchings$ChallengerSearch" "placed" "[I", Cond.fieldLink RX0 66 "PopularMatchings$Instance" "capacities" "[I", Cond.methodLink RX0 56 yX2_vote, Cond.static yX2_vote, Cond.code yX2_vote cX2_vote 2 (some .int), Cond.methodLink RX0 19 yX0_placeShift, Cond.static yX0_placeShift, Cond.code yX0_placeShift cX0_placeShift 1 (some .int), Cond.methodLink RX0 59 yX0_raise, Cond.instanceMethod yX0_raise, Cond.selects RX0 yX0_raise yX0_raise, Cond.code yX0_raise cX0_raise 3 none, Cond.methodLink RX0 63 yX2_listed]
def wsX5_isParetoOptimal_r3 : List Cond := [Cond.methodLink RX5 111 yX0_marginIn, Cond.static yX0_marginIn, Cond.code yX0_marginIn cX0_marginIn 1 (some .int)]
def wsX5_isParetoOptimal : List Cond := .code yX5_isParetoOptimal cX5_isParetoOptimal 2 (some .int) :: ((wsX5_isParetoOptimal_r1 ++ (wsX5_isParetoOptimal_r2 ++ wsX5_isParetoOptimal_r3)) ++ wsX50 ++ wsX20 ++ wsX00 ++ wsX30)
def wsX5_save : List Cond := .code yX5_save cX5_save 1 (some .int) :: ([.fieldLink RX5 23 "PopularMatchings" "saved" "LPopularMatchings$Matching;", .fieldLink RX5 19 "PopularMatchings" "present" "LPopularMatchings$Matching;", .methodLink RX5 114 yX3_copyFrom, .instanceMethod yX3_copyFrom, .selects RX3 yX3_copyFrom yX3_copyFrom, .initialized RX3, .code yX3_copyFrom cX3_copyFrom 3 none, .fieldLink RX3 9 "PopularMatchings$Matching" "posts" "[I", .methodLink RX5 103 yX3_countPlaced, .instanceMethod yX3_countPlaced, .selects RX3 yX3_countPlaced yX3_countPlaced, .code yX3_countPlaced cX3_countPlaced 3 (some .int)] ++ wsX50 ++ wsX30)
def wsX5_swapSaved_r1 : List Cond := [Cond.fieldLink RX5 26 "PopularMatchings" "draft" "LPopularMatchings$Matching;", Cond.fieldLink RX5 23 "PopularMatchings" "saved" "LPopularMatchings$Matching;", Cond.fieldLink RX5 32 "PopularMatchings" "history" "LPopularMatchings$History;", Cond.fieldLink RX5 19 "PopularMatchings" "present" "LPopularMatchings$Matching;", Cond.methodLink RX5 114 yX3_copyFrom, Cond.instanceMethod yX3_copyFrom, Cond.selects RX3 yX3_copyFrom yX3_copyFrom, Cond.initialized RX3, Cond.code yX3_copyFrom cX3_copyFrom 3 none, Cond.fieldLink RX3 9 "PopularMatchings$Matching" "posts" "[I", Cond.methodLink RX5 99 yX1_remember, Cond.instanceMethod yX1_remember, Cond.selects RX1 yX1_remember yX1_remember, Cond.initialized RX1, Cond.code yX1_remember cX1_remember 3 none, Cond.fieldLink RX1 9 "PopularMatchings$History" "count" "I", Cond.fieldLink RX1 17 "PopularMatchings$History" "presents" "[LPopularMatchings$Matching;", Cond.fieldLink RX1 21 "PopularMatchings$History" "saveds" "[LPopularMatchings$Matching;", Cond.methodLink RX1 25 yX1_dropOldest, Cond.instanceMethod yX1_dropOldest, Cond.selects RX1 yX1_dropOldest yX1_dropOldest, Cond.code yX1_dropOldest cX1_dropOldest 2 none, Cond.methodLink RX1 28 yX3_copyFrom, Cond.methodLink RX5 103 yX3_countPlaced]
def wsX5_swapSaved_r2 : List Cond := [Cond.instanceMethod yX3_countPlaced, Cond.selects RX3 yX3_countPlaced yX3_countPlaced, Cond.code yX3_countPlaced cX3_countPlaced 3 (some .int)]
def wsX5_swapSaved : List Cond := .code yX5_swapSaved cX5_swapSaved 1 (some .int) :: ((wsX5_swapSaved_r1 ++ wsX5_swapSaved_r2) ++ wsX50 ++ wsX30 ++ wsX10)
def wsX5_marginOverSaved : List Cond := .code yX5_marginOverSaved cX5_marginOverSaved 5 (some .int) :: ([.fieldLink RX5 10 "PopularMatchings" "instance" "LPopularMatchings$Instance;", .fieldLink RX5 50 "PopularMatchings$Instance" "applicants" "I", .fieldLink RX5 19 "PopularMatchings" "present" "LPopularMatchings$Matching;", .fieldLink RX5 96 "PopularMatchings$Matching" "posts" "[I", .fieldLink RX5 23 "PopularMatchings" "saved" "LPopularMatchings$Matching;", .methodLink RX5 118 yX2_rankOf, .instanceMethod yX2_rankOf, .selects RX2 yX2_rankOf yX2_rankOf, .initialized RX2, .code yX2_rankOf cX2_rankOf 4 (some .int), .fieldLink RX2 15 "PopularMatchings$Instance" "lengths" "[I", .methodLink RX2 36 yX2_listed, .instanceMethod yX2_listed, .selects RX2 yX2_listed yX2_listed, .code yX2_listed cX2_listed 3 (some .int), .fieldLink RX2 18 "PopularMatchings$Instance" "lists" "[I", .methodLink RX5 121 yX2_vote, .static yX2_vote, .code yX2_vote cX2_vote 2 (some .int)] ++ wsX50 ++ wsX20 ++ wsX30)
def wsX5_unpopularityMargin_r1 : List Cond := [Cond.fieldLink RX5 39 "PopularMatchings" "challengers" "LPopularMatchings$ChallengerSearch;", Cond.fieldLink RX5 10 "PopularMatchings" "instance" "LPopularMatchings$Instance;", Cond.fieldLink RX5 19 "PopularMatchings" "present" "LPopularMatchings$Matching;", Cond.methodLink RX5 107 yX0_bestKey, Cond.instanceMethod yX0_bestKey, Cond.selects RX0 yX0_bestKey yX0_bestKey, Cond.initialized RX0, Cond.code yX0_bestKey cX0_bestKey 8 (some .int), Cond.fieldLink RX0 23 "PopularMatchings$ChallengerSearch" "FILL_OF_POST" "[I", Cond.fieldLink RX0 26 "PopularMatchings$Instance" "posts" "I", Cond.fieldLink RX0 15 "PopularMatchings$ChallengerSearch" "best" "[I", Cond.constant RX0 32 (-1073741824), Cond.constant RX0 18 (262143), Cond.fieldLink RX0 33 "PopularMatchings$Instance" "applicants" "I", Cond.fieldLink RX0 36 "PopularMatchings$Matching" "posts" "[I", Cond.fieldLink RX0 44 "PopularMatchings$Instance" "lengths" "[I", Cond.methodLink RX0 51 Lib.Math.max.name, Cond.static Lib.Math.max.name, Cond.initialized "java/lang/Math", Cond.code Lib.Math.max.name Lib.Math.max.code 2 (some .int), Cond.methodLink RX0 40 yX2_rankOf, Cond.instanceMethod yX2_rankOf, Cond.selects RX2 yX2_rankOf yX2_rankOf, Cond.initialized RX2]
def wsX5_unpopularityMargin_r2 : List Cond := [Cond.code yX2_rankOf cX2_rankOf 4 (some .int), Cond.fieldLink RX2 15 "PopularMatchings$Instance" "lengths" "[I", Cond.methodLink RX2 36 yX2_listed, Cond.instanceMethod yX2_listed, Cond.selects RX2 yX2_listed yX2_listed, Cond.code yX2_listed cX2_listed 3 (some .int), Cond.fieldLink RX2 18 "PopularMatchings$Instance" "lists" "[I", Cond.methodLink RX0 47 yX0_letChoose, Cond.instanceMethod yX0_letChoose, Cond.selects RX0 yX0_letChoose yX0_letChoose, Cond.code yX0_letChoose cX0_letChoose 11 none, Cond.fieldLink RX0 11 "PopularMatchings$ChallengerSearch" "placed" "[I", Cond.fieldLink RX0 66 "PopularMatchings$Instance" "capacities" "[I", Cond.methodLink RX0 56 yX2_vote, Cond.static yX2_vote, Cond.code yX2_vote cX2_vote 2 (some .int), Cond.methodLink RX0 19 yX0_placeShift, Cond.static yX0_placeShift, Cond.code yX0_placeShift cX0_placeShift 1 (some .int), Cond.methodLink RX0 59 yX0_raise, Cond.instanceMethod yX0_raise, Cond.selects RX0 yX0_raise yX0_raise, Cond.code yX0_raise cX0_raise 3 none, Cond.methodLink RX0 63 yX2_listed]
def wsX5_unpopularityMargin_r3 : List Cond := [Cond.methodLink RX5 111 yX0_marginIn, Cond.static yX0_marginIn, Cond.code yX0_marginIn cX0_marginIn 1 (some .int)]
def wsX5_unpopularityMargin : List Cond := .code yX5_unpopularityMargin cX5_unpopularityMargin 1 (some .int) :: ((wsX5_unpopularityMargin_r1 ++ (wsX5_unpopularityMargin_r2 ++ wsX5_unpopularityMargin_r3)) ++ wsX50 ++ wsX20 ++ wsX00 ++ wsX30)
def wsX5_challengerPost_r1 : List Cond := [Cond.fieldLink RX5 10 "PopularMatchings" "instance" "LPopularMatchings$Instance;", Cond.fieldLink RX5 39 "PopularMatchings" "challengers" "LPopularMatchings$ChallengerSearch;", Cond.fieldLink RX5 19 "PopularMatchings" "present" "LPopularMatchings$Matching;", Cond.methodLink RX5 69 yX2_isApplicant, Cond.instanceMethod yX2_isApplicant, Cond.selects RX2 yX2_isApplicant yX2_isApplicant, Cond.initialized RX2, Cond.code yX2_isApplicant cX2_isApplicant 2 (some .boolean), Cond.fieldLink RX2 25 "PopularMatchings$Instance" "applicants" "I", Cond.methodLink RX5 107 yX0_bestKey, Cond.instanceMethod yX0_bestKey, Cond.selects RX0 yX0_bestKey yX0_bestKey, Cond.initialized RX0, Cond.code yX0_bestKey cX0_bestKey 8 (some .int), Cond.fieldLink RX0 23 "PopularMatchings$ChallengerSearch" "FILL_OF_POST" "[I", Cond.fieldLink RX0 26 "PopularMatchings$Instance" "posts" "I", Cond.fieldLink RX0 15 "PopularMatchings$ChallengerSearch" "best" "[I", Cond.constant RX0 32 (-1073741824), Cond.constant RX0 18 (262143), Cond.fieldLink RX0 33 "PopularMatchings$Instance" "applicants" "I", Cond.fieldLink RX0 36 "PopularMatchings$Matching" "posts" "[I", Cond.fieldLink RX0 44 "PopularMatchings$Instance" "lengths" "[I", Cond.methodLink RX0 51 Lib.Math.max.name, Cond.static Lib.Math.max.name]
def wsX5_challengerPost_r2 : List Cond := [Cond.initialized "java/lang/Math", Cond.code Lib.Math.max.name Lib.Math.max.code 2 (some .int), Cond.methodLink RX0 40 yX2_rankOf, Cond.instanceMethod yX2_rankOf, Cond.selects RX2 yX2_rankOf yX2_rankOf, Cond.code yX2_rankOf cX2_rankOf 4 (some .int), Cond.fieldLink RX2 15 "PopularMatchings$Instance" "lengths" "[I", Cond.methodLink RX2 36 yX2_listed, Cond.instanceMethod yX2_listed, Cond.selects RX2 yX2_listed yX2_listed, Cond.code yX2_listed cX2_listed 3 (some .int), Cond.fieldLink RX2 18 "PopularMatchings$Instance" "lists" "[I", Cond.methodLink RX0 47 yX0_letChoose, Cond.instanceMethod yX0_letChoose, Cond.selects RX0 yX0_letChoose yX0_letChoose, Cond.code yX0_letChoose cX0_letChoose 11 none, Cond.fieldLink RX0 11 "PopularMatchings$ChallengerSearch" "placed" "[I", Cond.fieldLink RX0 66 "PopularMatchings$Instance" "capacities" "[I", Cond.methodLink RX0 56 yX2_vote, Cond.static yX2_vote, Cond.code yX2_vote cX2_vote 2 (some .int), Cond.methodLink RX0 19 yX0_placeShift, Cond.static yX0_placeShift, Cond.code yX0_placeShift cX0_placeShift 1 (some .int)]
def wsX5_challengerPost_r3 : List Cond := [Cond.methodLink RX0 59 yX0_raise, Cond.instanceMethod yX0_raise, Cond.selects RX0 yX0_raise yX0_raise, Cond.code yX0_raise cX0_raise 3 none, Cond.methodLink RX0 63 yX2_listed, Cond.methodLink RX5 124 yX0_postIn, Cond.static yX0_postIn, Cond.code yX0_postIn cX0_postIn 4 (some .int)]
def wsX5_challengerPost : List Cond := .code yX5_challengerPost cX5_challengerPost 2 (some .int) :: ((wsX5_challengerPost_r1 ++ (wsX5_challengerPost_r2 ++ wsX5_challengerPost_r3)) ++ wsX50 ++ wsX20 ++ wsX00 ++ wsX30)
def wsX5_adoptDraft_r1 : List Cond := [Cond.fieldLink RX5 32 "PopularMatchings" "history" "LPopularMatchings$History;", Cond.fieldLink RX5 19 "PopularMatchings" "present" "LPopularMatchings$Matching;", Cond.fieldLink RX5 23 "PopularMatchings" "saved" "LPopularMatchings$Matching;", Cond.fieldLink RX5 26 "PopularMatchings" "draft" "LPopularMatchings$Matching;", Cond.methodLink RX5 99 yX1_remember, Cond.instanceMethod yX1_remember, Cond.selects RX1 yX1_remember yX1_remember, Cond.initialized RX1, Cond.code yX1_remember cX1_remember 3 none, Cond.fieldLink RX1 9 "PopularMatchings$History" "count" "I", Cond.fieldLink RX1 17 "PopularMatchings$History" "presents" "[LPopularMatchings$Matching;", Cond.fieldLink RX1 21 "PopularMatchings$History" "saveds" "[LPopularMatchings$Matching;", Cond.methodLink RX1 25 yX1_dropOldest, Cond.instanceMethod yX1_dropOldest, Cond.selects RX1 yX1_dropOldest yX1_dropOldest, Cond.code yX1_dropOldest cX1_dropOldest 2 none, Cond.methodLink RX1 28 yX3_copyFrom, Cond.instanceMethod yX3_copyFrom, Cond.selects RX3 yX3_copyFrom yX3_copyFrom, Cond.initialized RX3, Cond.code yX3_copyFrom cX3_copyFrom 3 none, Cond.fieldLink RX3 9 "PopularMatchings$Matching" "posts" "[I", Cond.methodLink RX5 114 yX3_copyFrom, Cond.methodLink RX5 103 yX3_countPlaced]
def wsX5_adoptDraft_r2 : List Cond := [Cond.instanceMethod yX3_countPlaced, Cond.selects RX3 yX3_countPlaced yX3_countPlaced, Cond.code yX3_countPlaced cX3_countPlaced 3 (some .int)]
def wsX5_adoptDraft : List Cond := .code yX5_adoptDraft cX5_adoptDraft 1 (some .int) :: ((wsX5_adoptDraft_r1 ++ wsX5_adoptDraft_r2) ++ wsX50 ++ wsX10 ++ wsX30)
def wsX5_adoptChallenger_r1 : List Cond := [Cond.fieldLink RX5 39 "PopularMatchings" "challengers" "LPopularMatchings$ChallengerSearch;", Cond.fieldLink RX5 10 "PopularMatchings" "instance" "LPopularMatchings$Instance;", Cond.fieldLink RX5 19 "PopularMatchings" "present" "LPopularMatchings$Matching;", Cond.fieldLink RX5 26 "PopularMatchings" "draft" "LPopularMatchings$Matching;", Cond.fieldLink RX5 50 "PopularMatchings$Instance" "applicants" "I", Cond.fieldLink RX5 96 "PopularMatchings$Matching" "posts" "[I", Cond.methodLink RX5 107 yX0_bestKey, Cond.instanceMethod yX0_bestKey, Cond.selects RX0 yX0_bestKey yX0_bestKey, Cond.initialized RX0, Cond.code yX0_bestKey cX0_bestKey 8 (some .int), Cond.fieldLink RX0 23 "PopularMatchings$ChallengerSearch" "FILL_OF_POST" "[I", Cond.fieldLink RX0 26 "PopularMatchings$Instance" "posts" "I", Cond.fieldLink RX0 15 "PopularMatchings$ChallengerSearch" "best" "[I", Cond.constant RX0 32 (-1073741824), Cond.constant RX0 18 (262143), Cond.fieldLink RX0 33 "PopularMatchings$Instance" "applicants" "I", Cond.fieldLink RX0 36 "PopularMatchings$Matching" "posts" "[I", Cond.fieldLink RX0 44 "PopularMatchings$Instance" "lengths" "[I", Cond.methodLink RX0 51 Lib.Math.max.name, Cond.static Lib.Math.max.name, Cond.initialized "java/lang/Math", Cond.code Lib.Math.max.name Lib.Math.max.code 2 (some .int), Cond.methodLink RX0 40 yX2_rankOf]
def wsX5_adoptChallenger_r2 : List Cond := [Cond.instanceMethod yX2_rankOf, Cond.selects RX2 yX2_rankOf yX2_rankOf, Cond.initialized RX2, Cond.code yX2_rankOf cX2_rankOf 4 (some .int), Cond.fieldLink RX2 15 "PopularMatchings$Instance" "lengths" "[I", Cond.methodLink RX2 36 yX2_listed, Cond.instanceMethod yX2_listed, Cond.selects RX2 yX2_listed yX2_listed, Cond.code yX2_listed cX2_listed 3 (some .int), Cond.fieldLink RX2 18 "PopularMatchings$Instance" "lists" "[I", Cond.methodLink RX0 47 yX0_letChoose, Cond.instanceMethod yX0_letChoose, Cond.selects RX0 yX0_letChoose yX0_letChoose, Cond.code yX0_letChoose cX0_letChoose 11 none, Cond.fieldLink RX0 11 "PopularMatchings$ChallengerSearch" "placed" "[I", Cond.fieldLink RX0 66 "PopularMatchings$Instance" "capacities" "[I", Cond.methodLink RX0 56 yX2_vote, Cond.static yX2_vote, Cond.code yX2_vote cX2_vote 2 (some .int), Cond.methodLink RX0 19 yX0_placeShift, Cond.static yX0_placeShift, Cond.code yX0_placeShift cX0_placeShift 1 (some .int), Cond.methodLink RX0 59 yX0_raise, Cond.instanceMethod yX0_raise]
def wsX5_adoptChallenger_r3 : List Cond := [Cond.selects RX0 yX0_raise yX0_raise, Cond.code yX0_raise cX0_raise 3 none, Cond.methodLink RX0 63 yX2_listed, Cond.methodLink RX5 127 yX3_clear, Cond.instanceMethod yX3_clear, Cond.selects RX3 yX3_clear yX3_clear, Cond.initialized RX3, Cond.code yX3_clear cX3_clear 2 none, Cond.fieldLink RX3 9 "PopularMatchings$Matching" "posts" "[I", Cond.methodLink RX5 124 yX0_postIn, Cond.static yX0_postIn, Cond.code yX0_postIn cX0_postIn 4 (some .int), Cond.methodLink RX5 130 yX5_adoptDraft, Cond.instanceMethod yX5_adoptDraft, Cond.selects RX5 yX5_adoptDraft yX5_adoptDraft, Cond.initialized RX5, Cond.code yX5_adoptDraft cX5_adoptDraft 1 (some .int), Cond.fieldLink RX5 32 "PopularMatchings" "history" "LPopularMatchings$History;", Cond.fieldLink RX5 23 "PopularMatchings" "saved" "LPopularMatchings$Matching;", Cond.methodLink RX5 99 yX1_remember, Cond.instanceMethod yX1_remember, Cond.selects RX1 yX1_remember yX1_remember, Cond.initialized RX1, Cond.code yX1_remember cX1_remember 3 none]
def wsX5_adoptChallenger_r4 : List Cond := [Cond.fieldLink RX1 9 "PopularMatchings$History" "count" "I", Cond.fieldLink RX1 17 "PopularMatchings$History" "presents" "[LPopularMatchings$Matching;", Cond.fieldLink RX1 21 "PopularMatchings$History" "saveds" "[LPopularMatchings$Matching;", Cond.methodLink RX1 25 yX1_dropOldest, Cond.instanceMethod yX1_dropOldest, Cond.selects RX1 yX1_dropOldest yX1_dropOldest, Cond.code yX1_dropOldest cX1_dropOldest 2 none, Cond.methodLink RX1 28 yX3_copyFrom, Cond.instanceMethod yX3_copyFrom, Cond.selects RX3 yX3_copyFrom yX3_copyFrom, Cond.code yX3_copyFrom cX3_copyFrom 3 none, Cond.methodLink RX5 114 yX3_copyFrom, Cond.methodLink RX5 103 yX3_countPlaced, Cond.instanceMethod yX3_countPlaced, Cond.selects RX3 yX3_countPlaced yX3_countPlaced, Cond.code yX3_countPlaced cX3_countPlaced 3 (some .int), Cond.methodLink RX5 111 yX0_marginIn, Cond.static yX0_marginIn, Cond.code yX0_marginIn cX0_marginIn 1 (some .int)]
def wsX5_adoptChallenger : List Cond := .code yX5_adoptChallenger cX5_adoptChallenger 3 (some .int) :: ((wsX5_adoptChallenger_r1 ++ (wsX5_adoptChallenger_r2 ++ (wsX5_adoptChallenger_r3 ++ wsX5_adoptChallenger_r4))) ++ wsX50 ++ wsX20 ++ wsX30 ++ wsX00 ++ wsX10)
def wsX5_popularCount_r1 : List Cond := [Cond.fieldLink RX5 46 "PopularMatchings" "populars" "LPopularMatchings$PopularSearch;", Cond.fieldLink RX5 10 "PopularMatchings" "instance" "LPopularMatchings$Instance;", Cond.methodLink RX5 133 yX4_collect, Cond.instanceMethod yX4_collect, Cond.selects RX4 yX4_collect yX4_collect, Cond.initialized RX4, Cond.code yX4_collect cX4_collect 4 (some .int), Cond.fieldLink RX4 37 "PopularMatchings$Instance" "applicants" "I", Cond.fieldLink RX4 30 "PopularMatchings$PopularSearch" "found" "[I", Cond.methodLink RX4 33 yX4_prepare, Cond.instanceMethod yX4_prepare, Cond.selects RX4 yX4_prepare yX4_prepare, Cond.code yX4_prepare cX4_prepare 6 none, Cond.fieldLink RX4 9 "PopularMatchings$PopularSearch" "firsts" "[I", Cond.fieldLink RX4 15 "PopularMatchings$PopularSearch" "lower" "[I", Cond.fieldLink RX4 18 "PopularMatchings$PopularSearch" "higher" "[I", Cond.fieldLink RX4 66 "PopularMatchings$Instance" "posts" "I", Cond.fieldLink RX4 21 "PopularMatchings$PopularSearch" "wanted" "[I", Cond.fieldLink RX4 71 "PopularMatchings$Instance" "capacities" "[I", Cond.methodLink RX4 74 Lib.Math.min.name, Cond.static Lib.Math.min.name, Cond.initialized "java/lang/Math", Cond.code Lib.Math.min.name Lib.Math.min.code 2 (some .int), Cond.methodLink RX4 59 yX2_firstOf]
def wsX5_popularCount_r2 : List Cond := [Cond.instanceMethod yX2_firstOf, Cond.selects RX2 yX2_firstOf yX2_firstOf, Cond.initialized RX2, Cond.code yX2_firstOf cX2_firstOf 2 (some .int), Cond.fieldLink RX2 15 "PopularMatchings$Instance" "lengths" "[I", Cond.methodLink RX2 36 yX2_listed, Cond.instanceMethod yX2_listed, Cond.selects RX2 yX2_listed yX2_listed, Cond.code yX2_listed cX2_listed 3 (some .int), Cond.fieldLink RX2 18 "PopularMatchings$Instance" "lists" "[I", Cond.methodLink RX4 63 yX2_secondOf, Cond.instanceMethod yX2_secondOf, Cond.selects RX2 yX2_secondOf yX2_secondOf, Cond.code yX2_secondOf cX2_secondOf 4 (some .int), Cond.fieldLink RX2 9 "PopularMatchings$Instance" "capacities" "[I", Cond.methodLink RX2 39 yX2_countFirst, Cond.instanceMethod yX2_countFirst, Cond.selects RX2 yX2_countFirst yX2_countFirst, Cond.code yX2_countFirst cX2_countFirst 4 (some .int), Cond.fieldLink RX2 25 "PopularMatchings$Instance" "applicants" "I", Cond.methodLink RX2 43 yX2_firstOf, Cond.methodLink RX4 68 yX2_countFirst, Cond.methodLink RX4 43 yX4_isPopular, Cond.instanceMethod yX4_isPopular]
def wsX5_popularCount_r3 : List Cond := [Cond.selects RX4 yX4_isPopular yX4_isPopular, Cond.code yX4_isPopular cX4_isPopular 5 (some .boolean), Cond.fieldLink RX4 24 "PopularMatchings$PopularSearch" "held" "[I", Cond.fieldLink RX4 27 "PopularMatchings$PopularSearch" "heldAsFirst" "[I", Cond.methodLink RX4 80 yX4_takesHigher, Cond.static yX4_takesHigher, Cond.code yX4_takesHigher cX4_takesHigher 3 (some .boolean), Cond.methodLink RX4 55 yX4_postIn, Cond.instanceMethod yX4_postIn, Cond.selects RX4 yX4_postIn yX4_postIn, Cond.code yX4_postIn cX4_postIn 4 (some .int), Cond.methodLink RX4 84 yX4_count, Cond.instanceMethod yX4_count, Cond.selects RX4 yX4_count yX4_count, Cond.code yX4_count cX4_count 3 none]
def wsX5_popularCount : List Cond := .code yX5_popularCount cX5_popularCount 1 (some .int) :: ((wsX5_popularCount_r1 ++ (wsX5_popularCount_r2 ++ wsX5_popularCount_r3)) ++ wsX50 ++ wsX20 ++ wsX40)
def wsX5_greatestPopularSize_r1 : List Cond := [Cond.fieldLink RX5 46 "PopularMatchings" "populars" "LPopularMatchings$PopularSearch;", Cond.fieldLink RX5 10 "PopularMatchings" "instance" "LPopularMatchings$Instance;", Cond.fieldLink RX5 26 "PopularMatchings" "draft" "LPopularMatchings$Matching;", Cond.methodLink RX5 141 Lib.Math.max.name, Cond.static Lib.Math.max.name, Cond.initialized "java/lang/Math", Cond.code Lib.Math.max.name Lib.Math.max.code 2 (some .int), Cond.methodLink RX5 133 yX4_collect, Cond.instanceMethod yX4_collect, Cond.selects RX4 yX4_collect yX4_collect, Cond.initialized RX4, Cond.code yX4_collect cX4_collect 4 (some .int), Cond.fieldLink RX4 37 "PopularMatchings$Instance" "applicants" "I", Cond.fieldLink RX4 30 "PopularMatchings$PopularSearch" "found" "[I", Cond.methodLink RX4 33 yX4_prepare, Cond.instanceMethod yX4_prepare, Cond.selects RX4 yX4_prepare yX4_prepare, Cond.code yX4_prepare cX4_prepare 6 none, Cond.fieldLink RX4 9 "PopularMatchings$PopularSearch" "firsts" "[I", Cond.fieldLink RX4 15 "PopularMatchings$PopularSearch" "lower" "[I", Cond.fieldLink RX4 18 "PopularMatchings$PopularSearch" "higher" "[I", Cond.fieldLink RX4 66 "PopularMatchings$Instance" "posts" "I", Cond.fieldLink RX4 21 "PopularMatchings$PopularSearch" "wanted" "[I", Cond.fieldLink RX4 71 "PopularMatchings$Instance" "capacities" "[I"]
def wsX5_greatestPopularSize_r2 : List Cond := [Cond.methodLink RX4 74 Lib.Math.min.name, Cond.static Lib.Math.min.name, Cond.code Lib.Math.min.name Lib.Math.min.code 2 (some .int), Cond.methodLink RX4 59 yX2_firstOf, Cond.instanceMethod yX2_firstOf, Cond.selects RX2 yX2_firstOf yX2_firstOf, Cond.initialized RX2, Cond.code yX2_firstOf cX2_firstOf 2 (some .int), Cond.fieldLink RX2 15 "PopularMatchings$Instance" "lengths" "[I", Cond.methodLink RX2 36 yX2_listed, Cond.instanceMethod yX2_listed, Cond.selects RX2 yX2_listed yX2_listed, Cond.code yX2_listed cX2_listed 3 (some .int), Cond.fieldLink RX2 18 "PopularMatchings$Instance" "lists" "[I", Cond.methodLink RX4 63 yX2_secondOf, Cond.instanceMethod yX2_secondOf, Cond.selects RX2 yX2_secondOf yX2_secondOf, Cond.code yX2_secondOf cX2_secondOf 4 (some .int), Cond.fieldLink RX2 9 "PopularMatchings$Instance" "capacities" "[I", Cond.methodLink RX2 39 yX2_countFirst, Cond.instanceMethod yX2_countFirst, Cond.selects RX2 yX2_countFirst yX2_countFirst, Cond.code yX2_countFirst cX2_countFirst 4 (some .int), Cond.fieldLink RX2 25 "PopularMatchings$Instance" "applicants" "I"]
def wsX5_greatestPopularSize_r3 : List Cond := [Cond.methodLink RX2 43 yX2_firstOf, Cond.methodLink RX4 68 yX2_countFirst, Cond.methodLink RX4 43 yX4_isPopular, Cond.instanceMethod yX4_isPopular, Cond.selects RX4 yX4_isPopular yX4_isPopular, Cond.code yX4_isPopular cX4_isPopular 5 (some .boolean), Cond.fieldLink RX4 24 "PopularMatchings$PopularSearch" "held" "[I", Cond.fieldLink RX4 27 "PopularMatchings$PopularSearch" "heldAsFirst" "[I", Cond.methodLink RX4 80 yX4_takesHigher, Cond.static yX4_takesHigher, Cond.code yX4_takesHigher cX4_takesHigher 3 (some .boolean), Cond.methodLink RX4 55 yX4_postIn, Cond.instanceMethod yX4_postIn, Cond.selects RX4 yX4_postIn yX4_postIn, Cond.code yX4_postIn cX4_postIn 4 (some .int), Cond.methodLink RX4 84 yX4_count, Cond.instanceMethod yX4_count, Cond.selects RX4 yX4_count yX4_count, Cond.code yX4_count cX4_count 3 none, Cond.methodLink RX5 137 yX4_write, Cond.instanceMethod yX4_write, Cond.selects RX4 yX4_write yX4_write, Cond.code yX4_write cX4_write 5 none, Cond.fieldLink RX4 52 "PopularMatchings$Matching" "posts" "[I"]
def wsX5_greatestPopularSize_r4 : List Cond := [Cond.methodLink RX4 47 yX3_clear, Cond.instanceMethod yX3_clear, Cond.selects RX3 yX3_clear yX3_clear, Cond.initialized RX3, Cond.code yX3_clear cX3_clear 2 none, Cond.fieldLink RX3 9 "PopularMatchings$Matching" "posts" "[I", Cond.methodLink RX5 103 yX3_countPlaced, Cond.instanceMethod yX3_countPlaced, Cond.selects RX3 yX3_countPlaced yX3_countPlaced, Cond.code yX3_countPlaced cX3_countPlaced 3 (some .int)]
def wsX5_greatestPopularSize : List Cond := .code yX5_greatestPopularSize cX5_greatestPopularSize 4 (some .int) :: ((wsX5_greatestPopularSize_r1 ++ (wsX5_greatestPopularSize_r2 ++ (wsX5_greatestPopularSize_r3 ++ wsX5_greatestPopularSize_r4))) ++ wsX50 ++ wsX20 ++ wsX40 ++ wsX30)
def wsX5_adoptPopular_r1 : List Cond := [Cond.fieldLink RX5 46 "PopularMatchings" "populars" "LPopularMatchings$PopularSearch;", Cond.fieldLink RX5 10 "PopularMatchings" "instance" "LPopularMatchings$Instance;", Cond.fieldLink RX5 26 "PopularMatchings" "draft" "LPopularMatchings$Matching;", Cond.methodLink RX5 133 yX4_collect, Cond.instanceMethod yX4_collect, Cond.selects RX4 yX4_collect yX4_collect, Cond.initialized RX4, Cond.code yX4_collect cX4_collect 4 (some .int), Cond.fieldLink RX4 37 "PopularMatchings$Instance" "applicants" "I", Cond.fieldLink RX4 30 "PopularMatchings$PopularSearch" "found" "[I", Cond.methodLink RX4 33 yX4_prepare, Cond.instanceMethod yX4_prepare, Cond.selects RX4 yX4_prepare yX4_prepare, Cond.code yX4_prepare cX4_prepare 6 none, Cond.fieldLink RX4 9 "PopularMatchings$PopularSearch" "firsts" "[I", Cond.fieldLink RX4 15 "PopularMatchings$PopularSearch" "lower" "[I", Cond.fieldLink RX4 18 "PopularMatchings$PopularSearch" "higher" "[I", Cond.fieldLink RX4 66 "PopularMatchings$Instance" "posts" "I", Cond.fieldLink RX4 21 "PopularMatchings$PopularSearch" "wanted" "[I", Cond.fieldLink RX4 71 "PopularMatchings$Instance" "capacities" "[I", Cond.methodLink RX4 74 Lib.Math.min.name, Cond.static Lib.Math.min.name, Cond.initialized "java/lang/Math", Cond.code Lib.Math.min.name Lib.Math.min.code 2 (some .int)]
def wsX5_adoptPopular_r2 : List Cond := [Cond.methodLink RX4 59 yX2_firstOf, Cond.instanceMethod yX2_firstOf, Cond.selects RX2 yX2_firstOf yX2_firstOf, Cond.initialized RX2, Cond.code yX2_firstOf cX2_firstOf 2 (some .int), Cond.fieldLink RX2 15 "PopularMatchings$Instance" "lengths" "[I", Cond.methodLink RX2 36 yX2_listed, Cond.instanceMethod yX2_listed, Cond.selects RX2 yX2_listed yX2_listed, Cond.code yX2_listed cX2_listed 3 (some .int), Cond.fieldLink RX2 18 "PopularMatchings$Instance" "lists" "[I", Cond.methodLink RX4 63 yX2_secondOf, Cond.instanceMethod yX2_secondOf, Cond.selects RX2 yX2_secondOf yX2_secondOf, Cond.code yX2_secondOf cX2_secondOf 4 (some .int), Cond.fieldLink RX2 9 "PopularMatchings$Instance" "capacities" "[I", Cond.methodLink RX2 39 yX2_countFirst, Cond.instanceMethod yX2_countFirst, Cond.selects RX2 yX2_countFirst yX2_countFirst, Cond.code yX2_countFirst cX2_countFirst 4 (some .int), Cond.fieldLink RX2 25 "PopularMatchings$Instance" "applicants" "I", Cond.methodLink RX2 43 yX2_firstOf, Cond.methodLink RX4 68 yX2_countFirst, Cond.methodLink RX4 43 yX4_isPopular]
def wsX5_adoptPopular_r3 : List Cond := [Cond.instanceMethod yX4_isPopular, Cond.selects RX4 yX4_isPopular yX4_isPopular, Cond.code yX4_isPopular cX4_isPopular 5 (some .boolean), Cond.fieldLink RX4 24 "PopularMatchings$PopularSearch" "held" "[I", Cond.fieldLink RX4 27 "PopularMatchings$PopularSearch" "heldAsFirst" "[I", Cond.methodLink RX4 80 yX4_takesHigher, Cond.static yX4_takesHigher, Cond.code yX4_takesHigher cX4_takesHigher 3 (some .boolean), Cond.methodLink RX4 55 yX4_postIn, Cond.instanceMethod yX4_postIn, Cond.selects RX4 yX4_postIn yX4_postIn, Cond.code yX4_postIn cX4_postIn 4 (some .int), Cond.methodLink RX4 84 yX4_count, Cond.instanceMethod yX4_count, Cond.selects RX4 yX4_count yX4_count, Cond.code yX4_count cX4_count 3 none, Cond.methodLink RX5 137 yX4_write, Cond.instanceMethod yX4_write, Cond.selects RX4 yX4_write yX4_write, Cond.code yX4_write cX4_write 5 none, Cond.fieldLink RX4 52 "PopularMatchings$Matching" "posts" "[I", Cond.methodLink RX4 47 yX3_clear, Cond.instanceMethod yX3_clear, Cond.selects RX3 yX3_clear yX3_clear]
def wsX5_adoptPopular_r4 : List Cond := [Cond.initialized RX3, Cond.code yX3_clear cX3_clear 2 none, Cond.fieldLink RX3 9 "PopularMatchings$Matching" "posts" "[I", Cond.methodLink RX5 130 yX5_adoptDraft, Cond.instanceMethod yX5_adoptDraft, Cond.selects RX5 yX5_adoptDraft yX5_adoptDraft, Cond.initialized RX5, Cond.code yX5_adoptDraft cX5_adoptDraft 1 (some .int), Cond.fieldLink RX5 32 "PopularMatchings" "history" "LPopularMatchings$History;", Cond.fieldLink RX5 19 "PopularMatchings" "present" "LPopularMatchings$Matching;", Cond.fieldLink RX5 23 "PopularMatchings" "saved" "LPopularMatchings$Matching;", Cond.methodLink RX5 99 yX1_remember, Cond.instanceMethod yX1_remember, Cond.selects RX1 yX1_remember yX1_remember, Cond.initialized RX1, Cond.code yX1_remember cX1_remember 3 none, Cond.fieldLink RX1 9 "PopularMatchings$History" "count" "I", Cond.fieldLink RX1 17 "PopularMatchings$History" "presents" "[LPopularMatchings$Matching;", Cond.fieldLink RX1 21 "PopularMatchings$History" "saveds" "[LPopularMatchings$Matching;", Cond.methodLink RX1 25 yX1_dropOldest, Cond.instanceMethod yX1_dropOldest, Cond.selects RX1 yX1_dropOldest yX1_dropOldest, Cond.code yX1_dropOldest cX1_dropOldest 2 none, Cond.methodLink RX1 28 yX3_copyFrom]
def wsX5_adoptPopular_r5 : List Cond := [Cond.instanceMethod yX3_copyFrom, Cond.selects RX3 yX3_copyFrom yX3_copyFrom, Cond.code yX3_copyFrom cX3_copyFrom 3 none, Cond.methodLink RX5 114 yX3_copyFrom, Cond.methodLink RX5 103 yX3_countPlaced, Cond.instanceMethod yX3_countPlaced, Cond.selects RX3 yX3_countPlaced yX3_countPlaced, Cond.code yX3_countPlaced cX3_countPlaced 3 (some .int)]
def wsX5_adoptPopular : List Cond := .code yX5_adoptPopular cX5_adoptPopular 2 (some .int) :: ((wsX5_adoptPopular_r1 ++ (wsX5_adoptPopular_r2 ++ (wsX5_adoptPopular_r3 ++ (wsX5_adoptPopular_r4 ++ wsX5_adoptPopular_r5)))) ++ wsX50 ++ wsX20 ++ wsX40 ++ wsX30 ++ wsX10)
def wsX5_mostPreferredFree : List Cond := .code yX5_mostPreferredFree cX5_mostPreferredFree 4 (some .int) :: ([.fieldLink RX5 10 "PopularMatchings" "instance" "LPopularMatchings$Instance;", .fieldLink RX5 80 "PopularMatchings$Instance" "lengths" "[I", .fieldLink RX5 26 "PopularMatchings" "draft" "LPopularMatchings$Matching;", .fieldLink RX5 65 "PopularMatchings$Instance" "capacities" "[I", .methodLink RX5 83 yX2_listed, .instanceMethod yX2_listed, .selects RX2 yX2_listed yX2_listed, .initialized RX2, .code yX2_listed cX2_listed 3 (some .int), .fieldLink RX2 18 "PopularMatchings$Instance" "lists" "[I", .methodLink RX5 93 yX3_othersAt, .instanceMethod yX3_othersAt, .selects RX3 yX3_othersAt yX3_othersAt, .initialized RX3, .code yX3_othersAt cX3_othersAt 5 (some .int), .fieldLink RX3 9 "PopularMatchings$Matching" "posts" "[I"] ++ wsX50 ++ wsX20 ++ wsX30)
def wsX5_adoptSerial_r1 : List Cond := [Cond.fieldLink RX5 10 "PopularMatchings" "instance" "LPopularMatchings$Instance;", Cond.fieldLink RX5 26 "PopularMatchings" "draft" "LPopularMatchings$Matching;", Cond.fieldLink RX5 50 "PopularMatchings$Instance" "applicants" "I", Cond.fieldLink RX5 96 "PopularMatchings$Matching" "posts" "[I", Cond.methodLink RX5 69 yX2_isApplicant, Cond.instanceMethod yX2_isApplicant, Cond.selects RX2 yX2_isApplicant yX2_isApplicant, Cond.initialized RX2, Cond.code yX2_isApplicant cX2_isApplicant 2 (some .boolean), Cond.fieldLink RX2 25 "PopularMatchings$Instance" "applicants" "I", Cond.methodLink RX5 127 yX3_clear, Cond.instanceMethod yX3_clear, Cond.selects RX3 yX3_clear yX3_clear, Cond.initialized RX3, Cond.code yX3_clear cX3_clear 2 none, Cond.fieldLink RX3 9 "PopularMatchings$Matching" "posts" "[I", Cond.methodLink RX5 146 yX5_mostPreferredFree, Cond.instanceMethod yX5_mostPreferredFree, Cond.selects RX5 yX5_mostPreferredFree yX5_mostPreferredFree, Cond.initialized RX5, Cond.code yX5_mostPreferredFree cX5_mostPreferredFree 4 (some .int), Cond.fieldLink RX5 80 "PopularMatchings$Instance" "lengths" "[I", Cond.fieldLink RX5 65 "PopularMatchings$Instance" "capacities" "[I", Cond.methodLink RX5 83 yX2_listed]
def wsX5_adoptSerial_r2 : List Cond := [Cond.instanceMethod yX2_listed, Cond.selects RX2 yX2_listed yX2_listed, Cond.code yX2_listed cX2_listed 3 (some .int), Cond.fieldLink RX2 18 "PopularMatchings$Instance" "lists" "[I", Cond.methodLink RX5 93 yX3_othersAt, Cond.instanceMethod yX3_othersAt, Cond.selects RX3 yX3_othersAt yX3_othersAt, Cond.code yX3_othersAt cX3_othersAt 5 (some .int), Cond.methodLink RX5 130 yX5_adoptDraft, Cond.instanceMethod yX5_adoptDraft, Cond.selects RX5 yX5_adoptDraft yX5_adoptDraft, Cond.code yX5_adoptDraft cX5_adoptDraft 1 (some .int), Cond.fieldLink RX5 32 "PopularMatchings" "history" "LPopularMatchings$History;", Cond.fieldLink RX5 19 "PopularMatchings" "present" "LPopularMatchings$Matching;", Cond.fieldLink RX5 23 "PopularMatchings" "saved" "LPopularMatchings$Matching;", Cond.methodLink RX5 99 yX1_remember, Cond.instanceMethod yX1_remember, Cond.selects RX1 yX1_remember yX1_remember, Cond.initialized RX1, Cond.code yX1_remember cX1_remember 3 none, Cond.fieldLink RX1 9 "PopularMatchings$History" "count" "I", Cond.fieldLink RX1 17 "PopularMatchings$History" "presents" "[LPopularMatchings$Matching;", Cond.fieldLink RX1 21 "PopularMatchings$History" "saveds" "[LPopularMatchings$Matching;", Cond.methodLink RX1 25 yX1_dropOldest]
def wsX5_adoptSerial_r3 : List Cond := [Cond.instanceMethod yX1_dropOldest, Cond.selects RX1 yX1_dropOldest yX1_dropOldest, Cond.code yX1_dropOldest cX1_dropOldest 2 none, Cond.methodLink RX1 28 yX3_copyFrom, Cond.instanceMethod yX3_copyFrom, Cond.selects RX3 yX3_copyFrom yX3_copyFrom, Cond.code yX3_copyFrom cX3_copyFrom 3 none, Cond.methodLink RX5 114 yX3_copyFrom, Cond.methodLink RX5 103 yX3_countPlaced, Cond.instanceMethod yX3_countPlaced, Cond.selects RX3 yX3_countPlaced yX3_countPlaced, Cond.code yX3_countPlaced cX3_countPlaced 3 (some .int)]
def wsX5_adoptSerial : List Cond := .code yX5_adoptSerial cX5_adoptSerial 3 (some .int) :: ((wsX5_adoptSerial_r1 ++ (wsX5_adoptSerial_r2 ++ wsX5_adoptSerial_r3)) ++ wsX50 ++ wsX20 ++ wsX30 ++ wsX10)
def wsX5_undo : List Cond := .code yX5_undo cX5_undo 1 (some .int) :: ([.fieldLink RX5 32 "PopularMatchings" "history" "LPopularMatchings$History;", .fieldLink RX5 149 "PopularMatchings$History" "count" "I", .fieldLink RX5 19 "PopularMatchings" "present" "LPopularMatchings$Matching;", .fieldLink RX5 23 "PopularMatchings" "saved" "LPopularMatchings$Matching;", .methodLink RX5 152 yX1_restore, .instanceMethod yX1_restore, .selects RX1 yX1_restore yX1_restore, .initialized RX1, .code yX1_restore cX1_restore 3 none, .fieldLink RX1 9 "PopularMatchings$History" "count" "I", .fieldLink RX1 17 "PopularMatchings$History" "presents" "[LPopularMatchings$Matching;", .fieldLink RX1 21 "PopularMatchings$History" "saveds" "[LPopularMatchings$Matching;", .methodLink RX1 28 yX3_copyFrom, .instanceMethod yX3_copyFrom, .selects RX3 yX3_copyFrom yX3_copyFrom, .initialized RX3, .code yX3_copyFrom cX3_copyFrom 3 none, .fieldLink RX3 9 "PopularMatchings$Matching" "posts" "[I"] ++ wsX50 ++ wsX10 ++ wsX30)
def wsX6_clears : List Cond := .code yX6_clears cX6_clears 2 none :: ([.fieldLink RX6 26 "PopularMatchingsModel" "now" "[I", .fieldLink RX6 45 "PopularMatchingsModel" "edits" "I"] ++ wsX60)
def wsX6_builds : List Cond := .code yX6_builds cX6_builds 4 none :: ([.fieldLink RX6 7 "PopularMatchingsModel" "applicants" "I", .fieldLink RX6 13 "PopularMatchingsModel" "posts" "I", .fieldLink RX6 16 "PopularMatchingsModel" "capacity" "[I", .fieldLink RX6 20 "PopularMatchingsModel" "length" "[I", .methodLink RX6 42 yX6_clears, .instanceMethod yX6_clears, .selects RX6 yX6_clears yX6_clears, .initialized RX6, .code yX6_clears cX6_clears 2 none, .fieldLink RX6 26 "PopularMatchingsModel" "now" "[I", .fieldLink RX6 45 "PopularMatchingsModel" "edits" "I"] ++ wsX60)
def wsX6_init : List Cond := .code yX6_init cX6_init 1 none :: ([.methodLink RX6 1 objectInit, .instanceMethod objectInit, .code objectInit ⟨#[0xb1]⟩ 1 none, .fieldLink RX6 7 "PopularMatchingsModel" "applicants" "I", .fieldLink RX6 13 "PopularMatchingsModel" "posts" "I", .arrayClass .int, .fieldLink RX6 16 "PopularMatchingsModel" "capacity" "[I", .fieldLink RX6 20 "PopularMatchingsModel" "length" "[I", .fieldLink RX6 23 "PopularMatchingsModel" "list" "[I", .fieldLink RX6 26 "PopularMatchingsModel" "now" "[I", .fieldLink RX6 29 "PopularMatchingsModel" "history" "[I", .fieldLink RX6 32 "PopularMatchingsModel" "best" "[I", .fieldLink RX6 35 "PopularMatchingsModel" "found" "[I", .methodLink RX6 38 yX6_builds, .instanceMethod yX6_builds, .selects RX6 yX6_builds yX6_builds, .initialized RX6, .code yX6_builds cX6_builds 4 none, .methodLink RX6 42 yX6_clears, .instanceMethod yX6_clears, .selects RX6 yX6_clears yX6_clears, .code yX6_clears cX6_clears 2 none, .fieldLink RX6 45 "PopularMatchingsModel" "edits" "I"] ++ wsX60)
def wsX6_in : List Cond := .code yX6_in cX6_in 3 (some .boolean) :: ([])
def wsX6_isApplicant : List Cond := .code yX6_isApplicant cX6_isApplicant 2 (some .boolean) :: ([.fieldLink RX6 7 "PopularMatchingsModel" "applicants" "I", .methodLink RX6 48 yX6_in, .static yX6_in, .initialized RX6, .code yX6_in cX6_in 3 (some .boolean)] ++ wsX60)
def wsX6_isPost : List Cond := .code yX6_isPost cX6_isPost 2 (some .boolean) :: ([.fieldLink RX6 13 "PopularMatchingsModel" "posts" "I", .methodLink RX6 48 yX6_in, .static yX6_in, .initialized RX6, .code yX6_in cX6_in 3 (some .boolean)] ++ wsX60)
def wsX6_reset : List Cond := .code yX6_reset cX6_reset 4 (some .int) :: ([.fieldLink RX6 7 "PopularMatchingsModel" "applicants" "I", .methodLink RX6 48 yX6_in, .static yX6_in, .initialized RX6, .code yX6_in cX6_in 3 (some .boolean), .methodLink RX6 38 yX6_builds, .instanceMethod yX6_builds, .selects RX6 yX6_builds yX6_builds, .code yX6_builds cX6_builds 4 none, .fieldLink RX6 13 "PopularMatchingsModel" "posts" "I", .fieldLink RX6 16 "PopularMatchingsModel" "capacity" "[I", .fieldLink RX6 20 "PopularMatchingsModel" "length" "[I", .methodLink RX6 42 yX6_clears, .instanceMethod yX6_clears, .selects RX6 yX6_clears yX6_clears, .code yX6_clears cX6_clears 2 none, .fieldLink RX6 26 "PopularMatchingsModel" "now" "[I", .fieldLink RX6 45 "PopularMatchingsModel" "edits" "I"] ++ wsX60)
def wsX6_setCapacity : List Cond := .code yX6_setCapacity cX6_setCapacity 4 (some .int) :: ([.fieldLink RX6 16 "PopularMatchingsModel" "capacity" "[I", .methodLink RX6 52 yX6_isPost, .instanceMethod yX6_isPost, .selects RX6 yX6_isPost yX6_isPost, .initialized RX6, .code yX6_isPost cX6_isPost 2 (some .boolean), .fieldLink RX6 13 "PopularMatchingsModel" "posts" "I", .methodLink RX6 48 yX6_in, .static yX6_in, .code yX6_in cX6_in 3 (some .boolean), .methodLink RX6 42 yX6_clears, .instanceMethod yX6_clears, .selects RX6 yX6_clears yX6_clears, .code yX6_clears cX6_clears 2 none, .fieldLink RX6 26 "PopularMatchingsModel" "now" "[I", .fieldLink RX6 45 "PopularMatchingsModel" "edits" "I"] ++ wsX60)
def wsX6_rank : List Cond := .code yX6_rank cX6_rank 4 (some .int) :: ([.fieldLink RX6 20 "PopularMatchingsModel" "length" "[I", .fieldLink RX6 23 "PopularMatchingsModel" "list" "[I"] ++ wsX60)
def wsX6_appendPreference_r1 : List Cond := [Cond.fieldLink RX6 23 "PopularMatchingsModel" "list" "[I", Cond.fieldLink RX6 20 "PopularMatchingsModel" "length" "[I", Cond.methodLink RX6 56 yX6_isApplicant, Cond.instanceMethod yX6_isApplicant, Cond.selects RX6 yX6_isApplicant yX6_isApplicant, Cond.initialized RX6, Cond.code yX6_isApplicant cX6_isApplicant 2 (some .boolean), Cond.fieldLink RX6 7 "PopularMatchingsModel" "applicants" "I", Cond.methodLink RX6 48 yX6_in, Cond.static yX6_in, Cond.code yX6_in cX6_in 3 (some .boolean), Cond.methodLink RX6 52 yX6_isPost, Cond.instanceMethod yX6_isPost, Cond.selects RX6 yX6_isPost yX6_isPost, Cond.code yX6_isPost cX6_isPost 2 (some .boolean), Cond.fieldLink RX6 13 "PopularMatchingsModel" "posts" "I", Cond.methodLink RX6 59 yX6_rank, Cond.instanceMethod yX6_rank, Cond.selects RX6 yX6_rank yX6_rank, Cond.code yX6_rank cX6_rank 4 (some .int), Cond.methodLink RX6 42 yX6_clears, Cond.instanceMethod yX6_clears, Cond.selects RX6 yX6_clears yX6_clears, Cond.code yX6_clears cX6_clears 2 none]
def wsX6_appendPreference_r2 : List Cond := [Cond.fieldLink RX6 26 "PopularMatchingsModel" "now" "[I", Cond.fieldLink RX6 45 "PopularMatchingsModel" "edits" "I"]
def wsX6_appendPreference : List Cond := .code yX6_appendPreference cX6_appendPreference 3 (some .int) :: ((wsX6_appendPreference_r1 ++ wsX6_appendPreference_r2) ++ wsX60)
def wsX6_clearPreferences : List Cond := .code yX6_clearPreferences cX6_clearPreferences 3 (some .int) :: ([.fieldLink RX6 20 "PopularMatchingsModel" "length" "[I", .methodLink RX6 56 yX6_isApplicant, .instanceMethod yX6_isApplicant, .selects RX6 yX6_isApplicant yX6_isApplicant, .initialized RX6, .code yX6_isApplicant cX6_isApplicant 2 (some .boolean), .fieldLink RX6 7 "PopularMatchingsModel" "applicants" "I", .methodLink RX6 48 yX6_in, .static yX6_in, .code yX6_in cX6_in 3 (some .boolean), .methodLink RX6 42 yX6_clears, .instanceMethod yX6_clears, .selects RX6 yX6_clears yX6_clears, .code yX6_clears cX6_clears 2 none, .fieldLink RX6 26 "PopularMatchingsModel" "now" "[I", .fieldLink RX6 45 "PopularMatchingsModel" "edits" "I"] ++ wsX60)
def wsX6_preferenceAt : List Cond := .code yX6_preferenceAt cX6_preferenceAt 3 (some .int) :: ([.fieldLink RX6 20 "PopularMatchingsModel" "length" "[I", .fieldLink RX6 23 "PopularMatchingsModel" "list" "[I", .methodLink RX6 56 yX6_isApplicant, .instanceMethod yX6_isApplicant, .selects RX6 yX6_isApplicant yX6_isApplicant, .initialized RX6, .code yX6_isApplicant cX6_isApplicant 2 (some .boolean), .fieldLink RX6 7 "PopularMatchingsModel" "applicants" "I", .methodLink RX6 48 yX6_in, .static yX6_in, .code yX6_in cX6_in 3 (some .boolean)] ++ wsX60)
def wsX6_first : List Cond := .code yX6_first cX6_first 2 (some .int) :: ([.fieldLink RX6 20 "PopularMatchingsModel" "length" "[I", .fieldLink RX6 23 "PopularMatchingsModel" "list" "[I"] ++ wsX60)
def wsX6_firsts : List Cond := .code yX6_firsts cX6_firsts 4 (some .int) :: ([.fieldLink RX6 7 "PopularMatchingsModel" "applicants" "I", .methodLink RX6 63 yX6_first, .instanceMethod yX6_first, .selects RX6 yX6_first yX6_first, .initialized RX6, .code yX6_first cX6_first 2 (some .int), .fieldLink RX6 20 "PopularMatchingsModel" "length" "[I", .fieldLink RX6 23 "PopularMatchingsModel" "list" "[I"] ++ wsX60)
def wsX6_second : List Cond := .code yX6_second cX6_second 4 (some .int) :: ([.fieldLink RX6 20 "PopularMatchingsModel" "length" "[I", .fieldLink RX6 23 "PopularMatchingsModel" "list" "[I", .fieldLink RX6 16 "PopularMatchingsModel" "capacity" "[I", .methodLink RX6 67 yX6_firsts, .instanceMethod yX6_firsts, .selects RX6 yX6_firsts yX6_firsts, .initialized RX6, .code yX6_firsts cX6_firsts 4 (some .int), .fieldLink RX6 7 "PopularMatchingsModel" "applicants" "I", .methodLink RX6 63 yX6_first, .instanceMethod yX6_first, .selects RX6 yX6_first yX6_first, .code yX6_first cX6_first 2 (some .int)] ++ wsX60)
def wsX6_firstPost : List Cond := .code yX6_firstPost cX6_firstPost 2 (some .int) :: ([.methodLink RX6 56 yX6_isApplicant, .instanceMethod yX6_isApplicant, .selects RX6 yX6_isApplicant yX6_isApplicant, .initialized RX6, .code yX6_isApplicant cX6_isApplicant 2 (some .boolean), .fieldLink RX6 7 "PopularMatchingsModel" "applicants" "I", .methodLink RX6 48 yX6_in, .static yX6_in, .code yX6_in cX6_in 3 (some .boolean), .methodLink RX6 63 yX6_first, .instanceMethod yX6_first, .selects RX6 yX6_first yX6_first, .code yX6_first cX6_first 2 (some .int), .fieldLink RX6 20 "PopularMatchingsModel" "length" "[I", .fieldLink RX6 23 "PopularMatchingsModel" "list" "[I"] ++ wsX60)
def wsX6_secondPost : List Cond := .code yX6_secondPost cX6_secondPost 2 (some .int) :: ([.methodLink RX6 56 yX6_isApplicant, .instanceMethod yX6_isApplicant, .selects RX6 yX6_isApplicant yX6_isApplicant, .initialized RX6, .code yX6_isApplicant cX6_isApplicant 2 (some .boolean), .fieldLink RX6 7 "PopularMatchingsModel" "applicants" "I", .methodLink RX6 48 yX6_in, .static yX6_in, .code yX6_in cX6_in 3 (some .boolean), .methodLink RX6 70 yX6_second, .instanceMethod yX6_second, .selects RX6 yX6_second yX6_second, .code yX6_second cX6_second 4 (some .int), .fieldLink RX6 20 "PopularMatchingsModel" "length" "[I", .fieldLink RX6 23 "PopularMatchingsModel" "list" "[I", .fieldLink RX6 16 "PopularMatchingsModel" "capacity" "[I", .methodLink RX6 67 yX6_firsts, .instanceMethod yX6_firsts, .selects RX6 yX6_firsts yX6_firsts, .code yX6_firsts cX6_firsts 4 (some .int), .methodLink RX6 63 yX6_first, .instanceMethod yX6_first, .selects RX6 yX6_first yX6_first, .code yX6_first cX6_first 2 (some .int)] ++ wsX60)
def wsX6_edit : List Cond := .code yX6_edit cX6_edit 2 none :: ([.fieldLink RX6 45 "PopularMatchingsModel" "edits" "I", .fieldLink RX6 29 "PopularMatchingsModel" "history" "[I", .fieldLink RX6 26 "PopularMatchingsModel" "now" "[I"] ++ wsX60)
def wsX6_undo : List Cond := .code yX6_undo cX6_undo 2 (some .int) :: ([.fieldLink RX6 45 "PopularMatchingsModel" "edits" "I", .fieldLink RX6 26 "PopularMatchingsModel" "now" "[I", .fieldLink RX6 29 "PopularMatchingsModel" "history" "[I"] ++ wsX60)
def wsX6_assign : List Cond := .code yX6_assign cX6_assign 5 (some .int) :: ([.fieldLink RX6 13 "PopularMatchingsModel" "posts" "I", .fieldLink RX6 7 "PopularMatchingsModel" "applicants" "I", .fieldLink RX6 26 "PopularMatchingsModel" "now" "[I", .fieldLink RX6 16 "PopularMatchingsModel" "capacity" "[I", .methodLink RX6 56 yX6_isApplicant, .instanceMethod yX6_isApplicant, .selects RX6 yX6_isApplicant yX6_isApplicant, .initialized RX6, .code yX6_isApplicant cX6_isApplicant 2 (some .boolean), .methodLink RX6 48 yX6_in, .static yX6_in, .code yX6_in cX6_in 3 (some .boolean), .methodLink RX6 59 yX6_rank, .instanceMethod yX6_rank, .selects RX6 yX6_rank yX6_rank, .code yX6_rank cX6_rank 4 (some .int), .fieldLink RX6 20 "PopularMatchingsModel" "length" "[I", .fieldLink RX6 23 "PopularMatchingsModel" "list" "[I", .methodLink RX6 73 yX6_edit, .instanceMethod yX6_edit, .selects RX6 yX6_edit yX6_edit, .code yX6_edit cX6_edit 2 none, .fieldLink RX6 45 "PopularMatchingsModel" "edits" "I", .fieldLink RX6 29 "PopularMatchingsModel" "history" "[I"] ++ wsX60)
def wsX6_postOf : List Cond := .code yX6_postOf cX6_postOf 2 (some .int) :: ([.fieldLink RX6 26 "PopularMatchingsModel" "now" "[I", .methodLink RX6 56 yX6_isApplicant, .instanceMethod yX6_isApplicant, .selects RX6 yX6_isApplicant yX6_isApplicant, .initialized RX6, .code yX6_isApplicant cX6_isApplicant 2 (some .boolean), .fieldLink RX6 7 "PopularMatchingsModel" "applicants" "I", .methodLink RX6 48 yX6_in, .static yX6_in, .code yX6_in cX6_in 3 (some .boolean)] ++ wsX60)
def wsX6_size : List Cond := .code yX6_size cX6_size 3 (some .int) :: ([.fieldLink RX6 7 "PopularMatchingsModel" "applicants" "I", .fieldLink RX6 26 "PopularMatchingsModel" "now" "[I"] ++ wsX60)
def wsX6_vote : List Cond := .code yX6_vote cX6_vote 6 (some .int) :: ([.methodLink RX6 59 yX6_rank, .instanceMethod yX6_rank, .selects RX6 yX6_rank yX6_rank, .initialized RX6, .code yX6_rank cX6_rank 4 (some .int), .fieldLink RX6 20 "PopularMatchingsModel" "length" "[I", .fieldLink RX6 23 "PopularMatchingsModel" "list" "[I"] ++ wsX60)
def wsX6_digit : List Cond := .code yX6_digit cX6_digit 4 (some .int) :: ([])
def wsX6_power : List Cond := .code yX6_power cX6_power 3 (some .int) :: ([])
def wsX6_gives : List Cond := .code yX6_gives cX6_gives 6 (some .int) :: ([.fieldLink RX6 26 "PopularMatchingsModel" "now" "[I", .fieldLink RX6 32 "PopularMatchingsModel" "best" "[I", .fieldLink RX6 16 "PopularMatchingsModel" "capacity" "[I", .methodLink RX6 76 yX6_vote, .instanceMethod yX6_vote, .selects RX6 yX6_vote yX6_vote, .initialized RX6, .code yX6_vote cX6_vote 6 (some .int), .methodLink RX6 59 yX6_rank, .instanceMethod yX6_rank, .selects RX6 yX6_rank yX6_rank, .code yX6_rank cX6_rank 4 (some .int), .fieldLink RX6 20 "PopularMatchingsModel" "length" "[I", .fieldLink RX6 23 "PopularMatchingsModel" "list" "[I", .methodLink RX6 80 yX6_digit, .static yX6_digit, .code yX6_digit cX6_digit 4 (some .int), .methodLink RX6 83 yX6_power, .static yX6_power, .code yX6_power cX6_power 3 (some .int)] ++ wsX60)
def wsX6_margin_r1 : List Cond := [Cond.fieldLink RX6 32 "PopularMatchingsModel" "best" "[I", Cond.fieldLink RX6 7 "PopularMatchingsModel" "applicants" "I", Cond.fieldLink RX6 13 "PopularMatchingsModel" "posts" "I", Cond.methodLink RX6 86 yX6_gives, Cond.instanceMethod yX6_gives, Cond.selects RX6 yX6_gives yX6_gives, Cond.initialized RX6, Cond.code yX6_gives cX6_gives 6 (some .int), Cond.fieldLink RX6 26 "PopularMatchingsModel" "now" "[I", Cond.fieldLink RX6 16 "PopularMatchingsModel" "capacity" "[I", Cond.methodLink RX6 76 yX6_vote, Cond.instanceMethod yX6_vote, Cond.selects RX6 yX6_vote yX6_vote, Cond.code yX6_vote cX6_vote 6 (some .int), Cond.methodLink RX6 59 yX6_rank, Cond.instanceMethod yX6_rank, Cond.selects RX6 yX6_rank yX6_rank, Cond.code yX6_rank cX6_rank 4 (some .int), Cond.fieldLink RX6 20 "PopularMatchingsModel" "length" "[I", Cond.fieldLink RX6 23 "PopularMatchingsModel" "list" "[I", Cond.methodLink RX6 80 yX6_digit, Cond.static yX6_digit, Cond.code yX6_digit cX6_digit 4 (some .int), Cond.methodLink RX6 83 yX6_power]
def wsX6_margin_r2 : List Cond := [Cond.static yX6_power, Cond.code yX6_power cX6_power 3 (some .int)]
def wsX6_margin : List Cond := .code yX6_margin cX6_margin 7 (some .int) :: ((wsX6_margin_r1 ++ wsX6_margin_r2) ++ wsX60)
def wsX6_isParetoOptimal_r1 : List Cond := [Cond.methodLink RX6 90 yX6_margin, Cond.instanceMethod yX6_margin, Cond.selects RX6 yX6_margin yX6_margin, Cond.initialized RX6, Cond.code yX6_margin cX6_margin 7 (some .int), Cond.fieldLink RX6 32 "PopularMatchingsModel" "best" "[I", Cond.fieldLink RX6 7 "PopularMatchingsModel" "applicants" "I", Cond.fieldLink RX6 13 "PopularMatchingsModel" "posts" "I", Cond.methodLink RX6 86 yX6_gives, Cond.instanceMethod yX6_gives, Cond.selects RX6 yX6_gives yX6_gives, Cond.code yX6_gives cX6_gives 6 (some .int), Cond.fieldLink RX6 26 "PopularMatchingsModel" "now" "[I", Cond.fieldLink RX6 16 "PopularMatchingsModel" "capacity" "[I", Cond.methodLink RX6 76 yX6_vote, Cond.instanceMethod yX6_vote, Cond.selects RX6 yX6_vote yX6_vote, Cond.code yX6_vote cX6_vote 6 (some .int), Cond.methodLink RX6 59 yX6_rank, Cond.instanceMethod yX6_rank, Cond.selects RX6 yX6_rank yX6_rank, Cond.code yX6_rank cX6_rank 4 (some .int), Cond.fieldLink RX6 20 "PopularMatchingsModel" "length" "[I", Cond.fieldLink RX6 23 "PopularMatchingsModel" "list" "[I"]
def wsX6_isParetoOptimal_r2 : List Cond := [Cond.methodLink RX6 80 yX6_digit, Cond.static yX6_digit, Cond.code yX6_digit cX6_digit 4 (some .int), Cond.methodLink RX6 83 yX6_power, Cond.static yX6_power, Cond.code yX6_power cX6_power 3 (some .int)]
def wsX6_isParetoOptimal : List Cond := .code yX6_isParetoOptimal cX6_isParetoOptimal 1 (some .int) :: ((wsX6_isParetoOptimal_r1 ++ wsX6_isParetoOptimal_r2) ++ wsX60)
def wsX6_save : List Cond := .code yX6_save cX6_save 2 (some .int) :: ([.fieldLink RX6 26 "PopularMatchingsModel" "now" "[I", .methodLink RX6 94 yX6_size, .instanceMethod yX6_size, .selects RX6 yX6_size yX6_size, .initialized RX6, .code yX6_size cX6_size 3 (some .int), .fieldLink RX6 7 "PopularMatchingsModel" "applicants" "I"] ++ wsX60)
def wsX6_swapSaved : List Cond := .code yX6_swapSaved cX6_swapSaved 3 (some .int) :: ([.fieldLink RX6 26 "PopularMatchingsModel" "now" "[I", .methodLink RX6 73 yX6_edit, .instanceMethod yX6_edit, .selects RX6 yX6_edit yX6_edit, .initialized RX6, .code yX6_edit cX6_edit 2 none, .fieldLink RX6 45 "PopularMatchingsModel" "edits" "I", .fieldLink RX6 29 "PopularMatchingsModel" "history" "[I", .methodLink RX6 94 yX6_size, .instanceMethod yX6_size, .selects RX6 yX6_size yX6_size, .code yX6_size cX6_size 3 (some .int), .fieldLink RX6 7 "PopularMatchingsModel" "applicants" "I"] ++ wsX60)
def wsX6_marginOverSaved : List Cond := .code yX6_marginOverSaved cX6_marginOverSaved 3 (some .int) :: ([.fieldLink RX6 7 "PopularMatchingsModel" "applicants" "I", .fieldLink RX6 26 "PopularMatchingsModel" "now" "[I", .methodLink RX6 76 yX6_vote, .instanceMethod yX6_vote, .selects RX6 yX6_vote yX6_vote, .initialized RX6, .code yX6_vote cX6_vote 6 (some .int), .methodLink RX6 59 yX6_rank, .instanceMethod yX6_rank, .selects RX6 yX6_rank yX6_rank, .code yX6_rank cX6_rank 4 (some .int), .fieldLink RX6 20 "PopularMatchingsModel" "length" "[I", .fieldLink RX6 23 "PopularMatchingsModel" "list" "[I"] ++ wsX60)
def wsX6_unpopularityMargin_r1 : List Cond := [Cond.methodLink RX6 90 yX6_margin, Cond.instanceMethod yX6_margin, Cond.selects RX6 yX6_margin yX6_margin, Cond.initialized RX6, Cond.code yX6_margin cX6_margin 7 (some .int), Cond.fieldLink RX6 32 "PopularMatchingsModel" "best" "[I", Cond.fieldLink RX6 7 "PopularMatchingsModel" "applicants" "I", Cond.fieldLink RX6 13 "PopularMatchingsModel" "posts" "I", Cond.methodLink RX6 86 yX6_gives, Cond.instanceMethod yX6_gives, Cond.selects RX6 yX6_gives yX6_gives, Cond.code yX6_gives cX6_gives 6 (some .int), Cond.fieldLink RX6 26 "PopularMatchingsModel" "now" "[I", Cond.fieldLink RX6 16 "PopularMatchingsModel" "capacity" "[I", Cond.methodLink RX6 76 yX6_vote, Cond.instanceMethod yX6_vote, Cond.selects RX6 yX6_vote yX6_vote, Cond.code yX6_vote cX6_vote 6 (some .int), Cond.methodLink RX6 59 yX6_rank, Cond.instanceMethod yX6_rank, Cond.selects RX6 yX6_rank yX6_rank, Cond.code yX6_rank cX6_rank 4 (some .int), Cond.fieldLink RX6 20 "PopularMatchingsModel" "length" "[I", Cond.fieldLink RX6 23 "PopularMatchingsModel" "list" "[I"]
def wsX6_unpopularityMargin_r2 : List Cond := [Cond.methodLink RX6 80 yX6_digit, Cond.static yX6_digit, Cond.code yX6_digit cX6_digit 4 (some .int), Cond.methodLink RX6 83 yX6_power, Cond.static yX6_power, Cond.code yX6_power cX6_power 3 (some .int)]
def wsX6_unpopularityMargin : List Cond := .code yX6_unpopularityMargin cX6_unpopularityMargin 1 (some .int) :: ((wsX6_unpopularityMargin_r1 ++ wsX6_unpopularityMargin_r2) ++ wsX60)
def wsX6_challenges_r1 : List Cond := [Cond.fieldLink RX6 7 "PopularMatchingsModel" "applicants" "I", Cond.fieldLink RX6 35 "PopularMatchingsModel" "found" "[I", Cond.fieldLink RX6 13 "PopularMatchingsModel" "posts" "I", Cond.fieldLink RX6 32 "PopularMatchingsModel" "best" "[I", Cond.methodLink RX6 90 yX6_margin, Cond.instanceMethod yX6_margin, Cond.selects RX6 yX6_margin yX6_margin, Cond.initialized RX6, Cond.code yX6_margin cX6_margin 7 (some .int), Cond.methodLink RX6 86 yX6_gives, Cond.instanceMethod yX6_gives, Cond.selects RX6 yX6_gives yX6_gives, Cond.code yX6_gives cX6_gives 6 (some .int), Cond.fieldLink RX6 26 "PopularMatchingsModel" "now" "[I", Cond.fieldLink RX6 16 "PopularMatchingsModel" "capacity" "[I", Cond.methodLink RX6 76 yX6_vote, Cond.instanceMethod yX6_vote, Cond.selects RX6 yX6_vote yX6_vote, Cond.code yX6_vote cX6_vote 6 (some .int), Cond.methodLink RX6 59 yX6_rank, Cond.instanceMethod yX6_rank, Cond.selects RX6 yX6_rank yX6_rank, Cond.code yX6_rank cX6_rank 4 (some .int), Cond.fieldLink RX6 20 "PopularMatchingsModel" "length" "[I"]
def wsX6_challenges_r2 : List Cond := [Cond.fieldLink RX6 23 "PopularMatchingsModel" "list" "[I", Cond.methodLink RX6 80 yX6_digit, Cond.static yX6_digit, Cond.code yX6_digit cX6_digit 4 (some .int), Cond.methodLink RX6 83 yX6_power, Cond.static yX6_power, Cond.code yX6_power cX6_power 3 (some .int)]
def wsX6_challenges : List Cond := .code yX6_challenges cX6_challenges 5 (some .int) :: ((wsX6_challenges_r1 ++ wsX6_challenges_r2) ++ wsX60)
def wsX6_challengerPost_r1 : List Cond := [Cond.fieldLink RX6 35 "PopularMatchingsModel" "found" "[I", Cond.methodLink RX6 56 yX6_isApplicant, Cond.instanceMethod yX6_isApplicant, Cond.selects RX6 yX6_isApplicant yX6_isApplicant, Cond.initialized RX6, Cond.code yX6_isApplicant cX6_isApplicant 2 (some .boolean), Cond.fieldLink RX6 7 "PopularMatchingsModel" "applicants" "I", Cond.methodLink RX6 48 yX6_in, Cond.static yX6_in, Cond.code yX6_in cX6_in 3 (some .boolean), Cond.methodLink RX6 98 yX6_challenges, Cond.instanceMethod yX6_challenges, Cond.selects RX6 yX6_challenges yX6_challenges, Cond.code yX6_challenges cX6_challenges 5 (some .int), Cond.fieldLink RX6 13 "PopularMatchingsModel" "posts" "I", Cond.fieldLink RX6 32 "PopularMatchingsModel" "best" "[I", Cond.methodLink RX6 90 yX6_margin, Cond.instanceMethod yX6_margin, Cond.selects RX6 yX6_margin yX6_margin, Cond.code yX6_margin cX6_margin 7 (some .int), Cond.methodLink RX6 86 yX6_gives, Cond.instanceMethod yX6_gives, Cond.selects RX6 yX6_gives yX6_gives, Cond.code yX6_gives cX6_gives 6 (some .int)]
def wsX6_challengerPost_r2 : List Cond := [Cond.fieldLink RX6 26 "PopularMatchingsModel" "now" "[I", Cond.fieldLink RX6 16 "PopularMatchingsModel" "capacity" "[I", Cond.methodLink RX6 76 yX6_vote, Cond.instanceMethod yX6_vote, Cond.selects RX6 yX6_vote yX6_vote, Cond.code yX6_vote cX6_vote 6 (some .int), Cond.methodLink RX6 59 yX6_rank, Cond.instanceMethod yX6_rank, Cond.selects RX6 yX6_rank yX6_rank, Cond.code yX6_rank cX6_rank 4 (some .int), Cond.fieldLink RX6 20 "PopularMatchingsModel" "length" "[I", Cond.fieldLink RX6 23 "PopularMatchingsModel" "list" "[I", Cond.methodLink RX6 80 yX6_digit, Cond.static yX6_digit, Cond.code yX6_digit cX6_digit 4 (some .int), Cond.methodLink RX6 83 yX6_power, Cond.static yX6_power, Cond.code yX6_power cX6_power 3 (some .int)]
def wsX6_challengerPost : List Cond := .code yX6_challengerPost cX6_challengerPost 2 (some .int) :: ((wsX6_challengerPost_r1 ++ wsX6_challengerPost_r2) ++ wsX60)
def wsX6_takes : List Cond := .code yX6_takes cX6_takes 2 none :: ([.fieldLink RX6 7 "PopularMatchingsModel" "applicants" "I", .fieldLink RX6 26 "PopularMatchingsModel" "now" "[I", .fieldLink RX6 35 "PopularMatchingsModel" "found" "[I", .methodLink RX6 73 yX6_edit, .instanceMethod yX6_edit, .selects RX6 yX6_edit yX6_edit, .initialized RX6, .code yX6_edit cX6_edit 2 none, .fieldLink RX6 45 "PopularMatchingsModel" "edits" "I", .fieldLink RX6 29 "PopularMatchingsModel" "history" "[I"] ++ wsX60)
def wsX6_adoptChallenger_r1 : List Cond := [Cond.methodLink RX6 98 yX6_challenges, Cond.instanceMethod yX6_challenges, Cond.selects RX6 yX6_challenges yX6_challenges, Cond.initialized RX6, Cond.code yX6_challenges cX6_challenges 5 (some .int), Cond.fieldLink RX6 7 "PopularMatchingsModel" "applicants" "I", Cond.fieldLink RX6 35 "PopularMatchingsModel" "found" "[I", Cond.fieldLink RX6 13 "PopularMatchingsModel" "posts" "I", Cond.fieldLink RX6 32 "PopularMatchingsModel" "best" "[I", Cond.methodLink RX6 90 yX6_margin, Cond.instanceMethod yX6_margin, Cond.selects RX6 yX6_margin yX6_margin, Cond.code yX6_margin cX6_margin 7 (some .int), Cond.methodLink RX6 86 yX6_gives, Cond.instanceMethod yX6_gives, Cond.selects RX6 yX6_gives yX6_gives, Cond.code yX6_gives cX6_gives 6 (some .int), Cond.fieldLink RX6 26 "PopularMatchingsModel" "now" "[I", Cond.fieldLink RX6 16 "PopularMatchingsModel" "capacity" "[I", Cond.methodLink RX6 76 yX6_vote, Cond.instanceMethod yX6_vote, Cond.selects RX6 yX6_vote yX6_vote, Cond.code yX6_vote cX6_vote 6 (some .int), Cond.methodLink RX6 59 yX6_rank]
def wsX6_adoptChallenger_r2 : List Cond := [Cond.instanceMethod yX6_rank, Cond.selects RX6 yX6_rank yX6_rank, Cond.code yX6_rank cX6_rank 4 (some .int), Cond.fieldLink RX6 20 "PopularMatchingsModel" "length" "[I", Cond.fieldLink RX6 23 "PopularMatchingsModel" "list" "[I", Cond.methodLink RX6 80 yX6_digit, Cond.static yX6_digit, Cond.code yX6_digit cX6_digit 4 (some .int), Cond.methodLink RX6 83 yX6_power, Cond.static yX6_power, Cond.code yX6_power cX6_power 3 (some .int), Cond.methodLink RX6 101 yX6_takes, Cond.instanceMethod yX6_takes, Cond.selects RX6 yX6_takes yX6_takes, Cond.code yX6_takes cX6_takes 2 none, Cond.methodLink RX6 73 yX6_edit, Cond.instanceMethod yX6_edit, Cond.selects RX6 yX6_edit yX6_edit, Cond.code yX6_edit cX6_edit 2 none, Cond.fieldLink RX6 45 "PopularMatchingsModel" "edits" "I", Cond.fieldLink RX6 29 "PopularMatchingsModel" "history" "[I"]
def wsX6_adoptChallenger : List Cond := .code yX6_adoptChallenger cX6_adoptChallenger 2 (some .int) :: ((wsX6_adoptChallenger_r1 ++ wsX6_adoptChallenger_r2) ++ wsX60)
def wsX6_lays : List Cond := .code yX6_lays cX6_lays 7 (some .boolean) :: ([.fieldLink RX6 7 "PopularMatchingsModel" "applicants" "I", .fieldLink RX6 35 "PopularMatchingsModel" "found" "[I", .fieldLink RX6 13 "PopularMatchingsModel" "posts" "I", .fieldLink RX6 16 "PopularMatchingsModel" "capacity" "[I", .methodLink RX6 70 yX6_second, .instanceMethod yX6_second, .selects RX6 yX6_second yX6_second, .initialized RX6, .code yX6_second cX6_second 4 (some .int), .fieldLink RX6 20 "PopularMatchingsModel" "length" "[I", .fieldLink RX6 23 "PopularMatchingsModel" "list" "[I", .methodLink RX6 67 yX6_firsts, .instanceMethod yX6_firsts, .selects RX6 yX6_firsts yX6_firsts, .code yX6_firsts cX6_firsts 4 (some .int), .methodLink RX6 63 yX6_first, .instanceMethod yX6_first, .selects RX6 yX6_first yX6_first, .code yX6_first cX6_first 2 (some .int)] ++ wsX60)
def wsX6_sizeOf : List Cond := .code yX6_sizeOf cX6_sizeOf 3 (some .int) :: ([.fieldLink RX6 7 "PopularMatchingsModel" "applicants" "I", .fieldLink RX6 35 "PopularMatchingsModel" "found" "[I"] ++ wsX60)
def wsX6_code : List Cond := .code yX6_code cX6_code 3 (some .int) :: ([.fieldLink RX6 7 "PopularMatchingsModel" "applicants" "I", .fieldLink RX6 35 "PopularMatchingsModel" "found" "[I"] ++ wsX60)
def wsX6_popularCount : List Cond := .code yX6_popularCount cX6_popularCount 3 (some .int) :: ([.fieldLink RX6 7 "PopularMatchingsModel" "applicants" "I", .methodLink RX6 104 yX6_lays, .instanceMethod yX6_lays, .selects RX6 yX6_lays yX6_lays, .initialized RX6, .code yX6_lays cX6_lays 7 (some .boolean), .fieldLink RX6 35 "PopularMatchingsModel" "found" "[I", .fieldLink RX6 13 "PopularMatchingsModel" "posts" "I", .fieldLink RX6 16 "PopularMatchingsModel" "capacity" "[I", .methodLink RX6 70 yX6_second, .instanceMethod yX6_second, .selects RX6 yX6_second yX6_second, .code yX6_second cX6_second 4 (some .int), .fieldLink RX6 20 "PopularMatchingsModel" "length" "[I", .fieldLink RX6 23 "PopularMatchingsModel" "list" "[I", .methodLink RX6 67 yX6_firsts, .instanceMethod yX6_firsts, .selects RX6 yX6_firsts yX6_firsts, .code yX6_firsts cX6_firsts 4 (some .int), .methodLink RX6 63 yX6_first, .instanceMethod yX6_first, .selects RX6 yX6_first yX6_first, .code yX6_first cX6_first 2 (some .int)] ++ wsX60)
def wsX6_greatestPopularSize_r1 : List Cond := [Cond.fieldLink RX6 7 "PopularMatchingsModel" "applicants" "I", Cond.methodLink RX6 104 yX6_lays, Cond.instanceMethod yX6_lays, Cond.selects RX6 yX6_lays yX6_lays, Cond.initialized RX6, Cond.code yX6_lays cX6_lays 7 (some .boolean), Cond.fieldLink RX6 35 "PopularMatchingsModel" "found" "[I", Cond.fieldLink RX6 13 "PopularMatchingsModel" "posts" "I", Cond.fieldLink RX6 16 "PopularMatchingsModel" "capacity" "[I", Cond.methodLink RX6 70 yX6_second, Cond.instanceMethod yX6_second, Cond.selects RX6 yX6_second yX6_second, Cond.code yX6_second cX6_second 4 (some .int), Cond.fieldLink RX6 20 "PopularMatchingsModel" "length" "[I", Cond.fieldLink RX6 23 "PopularMatchingsModel" "list" "[I", Cond.methodLink RX6 67 yX6_firsts, Cond.instanceMethod yX6_firsts, Cond.selects RX6 yX6_firsts yX6_firsts, Cond.code yX6_firsts cX6_firsts 4 (some .int), Cond.methodLink RX6 63 yX6_first, Cond.instanceMethod yX6_first, Cond.selects RX6 yX6_first yX6_first, Cond.code yX6_first cX6_first 2 (some .int), Cond.methodLink RX6 107 yX6_sizeOf]
def wsX6_greatestPopularSize_r2 : List Cond := [Cond.instanceMethod yX6_sizeOf, Cond.selects RX6 yX6_sizeOf yX6_sizeOf, Cond.code yX6_sizeOf cX6_sizeOf 3 (some .int)]
def wsX6_greatestPopularSize : List Cond := .code yX6_greatestPopularSize cX6_greatestPopularSize 3 (some .int) :: ((wsX6_greatestPopularSize_r1 ++ wsX6_greatestPopularSize_r2) ++ wsX60)
def wsX6_adoptPopular_r1 : List Cond := [Cond.constant RX6 113 (99999), Cond.fieldLink RX6 7 "PopularMatchingsModel" "applicants" "I", Cond.methodLink RX6 110 yX6_popularCount, Cond.instanceMethod yX6_popularCount, Cond.selects RX6 yX6_popularCount yX6_popularCount, Cond.initialized RX6, Cond.code yX6_popularCount cX6_popularCount 3 (some .int), Cond.methodLink RX6 104 yX6_lays, Cond.instanceMethod yX6_lays, Cond.selects RX6 yX6_lays yX6_lays, Cond.code yX6_lays cX6_lays 7 (some .boolean), Cond.fieldLink RX6 35 "PopularMatchingsModel" "found" "[I", Cond.fieldLink RX6 13 "PopularMatchingsModel" "posts" "I", Cond.fieldLink RX6 16 "PopularMatchingsModel" "capacity" "[I", Cond.methodLink RX6 70 yX6_second, Cond.instanceMethod yX6_second, Cond.selects RX6 yX6_second yX6_second, Cond.code yX6_second cX6_second 4 (some .int), Cond.fieldLink RX6 20 "PopularMatchingsModel" "length" "[I", Cond.fieldLink RX6 23 "PopularMatchingsModel" "list" "[I", Cond.methodLink RX6 67 yX6_firsts, Cond.instanceMethod yX6_firsts, Cond.selects RX6 yX6_firsts yX6_firsts, Cond.code yX6_firsts cX6_firsts 4 (some .int)]
def wsX6_adoptPopular_r2 : List Cond := [Cond.methodLink RX6 63 yX6_first, Cond.instanceMethod yX6_first, Cond.selects RX6 yX6_first yX6_first, Cond.code yX6_first cX6_first 2 (some .int), Cond.methodLink RX6 114 yX6_code, Cond.instanceMethod yX6_code, Cond.selects RX6 yX6_code yX6_code, Cond.code yX6_code cX6_code 3 (some .int), Cond.methodLink RX6 101 yX6_takes, Cond.instanceMethod yX6_takes, Cond.selects RX6 yX6_takes yX6_takes, Cond.code yX6_takes cX6_takes 2 none, Cond.fieldLink RX6 26 "PopularMatchingsModel" "now" "[I", Cond.methodLink RX6 73 yX6_edit, Cond.instanceMethod yX6_edit, Cond.selects RX6 yX6_edit yX6_edit, Cond.code yX6_edit cX6_edit 2 none, Cond.fieldLink RX6 45 "PopularMatchingsModel" "edits" "I", Cond.fieldLink RX6 29 "PopularMatchingsModel" "history" "[I", Cond.methodLink RX6 107 yX6_sizeOf, Cond.instanceMethod yX6_sizeOf, Cond.selects RX6 yX6_sizeOf yX6_sizeOf, Cond.code yX6_sizeOf cX6_sizeOf 3 (some .int)]
def wsX6_adoptPopular : List Cond := .code yX6_adoptPopular cX6_adoptPopular 7 (some .int) :: ((wsX6_adoptPopular_r1 ++ wsX6_adoptPopular_r2) ++ wsX60)
def wsX6_adoptSerial_r1 : List Cond := [Cond.fieldLink RX6 7 "PopularMatchingsModel" "applicants" "I", Cond.fieldLink RX6 35 "PopularMatchingsModel" "found" "[I", Cond.fieldLink RX6 20 "PopularMatchingsModel" "length" "[I", Cond.fieldLink RX6 23 "PopularMatchingsModel" "list" "[I", Cond.fieldLink RX6 16 "PopularMatchingsModel" "capacity" "[I", Cond.methodLink RX6 56 yX6_isApplicant, Cond.instanceMethod yX6_isApplicant, Cond.selects RX6 yX6_isApplicant yX6_isApplicant, Cond.initialized RX6, Cond.code yX6_isApplicant cX6_isApplicant 2 (some .boolean), Cond.methodLink RX6 48 yX6_in, Cond.static yX6_in, Cond.code yX6_in cX6_in 3 (some .boolean), Cond.methodLink RX6 80 yX6_digit, Cond.static yX6_digit, Cond.code yX6_digit cX6_digit 4 (some .int), Cond.methodLink RX6 83 yX6_power, Cond.static yX6_power, Cond.code yX6_power cX6_power 3 (some .int), Cond.methodLink RX6 101 yX6_takes, Cond.instanceMethod yX6_takes, Cond.selects RX6 yX6_takes yX6_takes, Cond.code yX6_takes cX6_takes 2 none, Cond.fieldLink RX6 26 "PopularMatchingsModel" "now" "[I"]
def wsX6_adoptSerial_r2 : List Cond := [Cond.methodLink RX6 73 yX6_edit, Cond.instanceMethod yX6_edit, Cond.selects RX6 yX6_edit yX6_edit, Cond.code yX6_edit cX6_edit 2 none, Cond.fieldLink RX6 45 "PopularMatchingsModel" "edits" "I", Cond.fieldLink RX6 29 "PopularMatchingsModel" "history" "[I", Cond.methodLink RX6 94 yX6_size, Cond.instanceMethod yX6_size, Cond.selects RX6 yX6_size yX6_size, Cond.code yX6_size cX6_size 3 (some .int)]
def wsX6_adoptSerial : List Cond := .code yX6_adoptSerial cX6_adoptSerial 7 (some .int) :: ((wsX6_adoptSerial_r1 ++ wsX6_adoptSerial_r2) ++ wsX60)
def wsJ9_max_7cf53 : List Cond := .code yJ9_max_7cf53 cJ9_max_7cf53 2 (some .int) :: ([])
def wsJ9_min_7cf53 : List Cond := .code yJ9_min_7cf53 cJ9_min_7cf53 2 (some .int) :: ([])
def wsL_law_r1 : List Cond := [Cond.classLink RL 7 RX5, Cond.instantiable RX5 7, Cond.initialized RX5, Cond.classLink RL 10 RX6, Cond.instantiable RX6 10, Cond.initialized RX6, Cond.methodLink RL 9 yX5_init, Cond.instanceMethod yX5_init, Cond.code yX5_init cX5_init 1 none, Cond.methodLink RX5 1 objectInit, Cond.instanceMethod objectInit, Cond.code objectInit ⟨#[0xb1]⟩ 1 none, Cond.classLink RX5 7 RX2, Cond.instantiable RX2 5, Cond.initialized RX2, Cond.fieldLink RX5 10 "PopularMatchings" "instance" "LPopularMatchings$Instance;", Cond.classLink RX5 16 RX3, Cond.instantiable RX3 1, Cond.initialized RX3, Cond.fieldLink RX5 19 "PopularMatchings" "present" "LPopularMatchings$Matching;", Cond.fieldLink RX5 23 "PopularMatchings" "saved" "LPopularMatchings$Matching;", Cond.fieldLink RX5 26 "PopularMatchings" "draft" "LPopularMatchings$Matching;", Cond.classLink RX5 29 RX1, Cond.instantiable RX1 3]
def wsL_law_r2 : List Cond := [Cond.initialized RX1, Cond.fieldLink RX5 32 "PopularMatchings" "history" "LPopularMatchings$History;", Cond.classLink RX5 36 RX0, Cond.instantiable RX0 2, Cond.initialized RX0, Cond.fieldLink RX5 39 "PopularMatchings" "challengers" "LPopularMatchings$ChallengerSearch;", Cond.classLink RX5 43 RX4, Cond.instantiable RX4 7, Cond.initialized RX4, Cond.fieldLink RX5 46 "PopularMatchings" "populars" "LPopularMatchings$PopularSearch;", Cond.methodLink RX5 9 yX2_init, Cond.instanceMethod yX2_init, Cond.code yX2_init cX2_init 1 none, Cond.methodLink RX2 3 objectInit, Cond.arrayClass .int, Cond.fieldLink RX2 9 "PopularMatchings$Instance" "capacities" "[I", Cond.fieldLink RX2 15 "PopularMatchings$Instance" "lengths" "[I", Cond.fieldLink RX2 18 "PopularMatchings$Instance" "lists" "[I", Cond.methodLink RX2 21 yX2_startAnew, Cond.instanceMethod yX2_startAnew, Cond.selects RX2 yX2_startAnew yX2_startAnew, Cond.code yX2_startAnew cX2_startAnew 4 none, Cond.fieldLink RX2 25 "PopularMatchings$Instance" "applicants" "I", Cond.fieldLink RX2 29 "PopularMatchings$Instance" "posts" "I"]
def wsL_law_r3 : List Cond := [Cond.methodLink RX5 18 yX3_init, Cond.instanceMethod yX3_init, Cond.code yX3_init cX3_init 1 none, Cond.methodLink RX3 3 objectInit, Cond.fieldLink RX3 9 "PopularMatchings$Matching" "posts" "[I", Cond.methodLink RX3 15 yX3_clear, Cond.instanceMethod yX3_clear, Cond.selects RX3 yX3_clear yX3_clear, Cond.code yX3_clear cX3_clear 2 none, Cond.methodLink RX5 31 yX1_init, Cond.instanceMethod yX1_init, Cond.code yX1_init cX1_init 2 none, Cond.methodLink RX1 3 objectInit, Cond.fieldLink RX1 9 "PopularMatchings$History" "count" "I", Cond.classLink RX1 15 RX3, Cond.fieldLink RX1 17 "PopularMatchings$History" "presents" "[LPopularMatchings$Matching;", Cond.fieldLink RX1 21 "PopularMatchings$History" "saveds" "[LPopularMatchings$Matching;", Cond.methodLink RX1 24 yX3_init, Cond.methodLink RX5 38 yX0_init, Cond.instanceMethod yX0_init, Cond.code yX0_init cX0_init 4 none, Cond.methodLink RX0 5 objectInit, Cond.fieldLink RX0 11 "PopularMatchings$ChallengerSearch" "placed" "[I", Cond.fieldLink RX0 15 "PopularMatchings$ChallengerSearch" "best" "[I"]
def wsL_law_r4 : List Cond := [Cond.instanceMethod yX4_init, Cond.code yX4_init cX4_init 1 none, Cond.methodLink RX4 3 objectInit, Cond.fieldLink RX4 9 "PopularMatchings$PopularSearch" "firsts" "[I", Cond.fieldLink RX4 15 "PopularMatchings$PopularSearch" "lower" "[I", Cond.fieldLink RX4 18 "PopularMatchings$PopularSearch" "higher" "[I", Cond.fieldLink RX4 21 "PopularMatchings$PopularSearch" "wanted" "[I", Cond.fieldLink RX4 24 "PopularMatchings$PopularSearch" "held" "[I", Cond.fieldLink RX4 27 "PopularMatchings$PopularSearch" "heldAsFirst" "[I", Cond.fieldLink RX4 30 "PopularMatchings$PopularSearch" "found" "[I", Cond.methodLink RL 12 yX6_init, Cond.instanceMethod yX6_init, Cond.code yX6_init cX6_init 1 none, Cond.methodLink RX6 1 objectInit, Cond.fieldLink RX6 7 "PopularMatchingsModel" "applicants" "I", Cond.fieldLink RX6 13 "PopularMatchingsModel" "posts" "I", Cond.fieldLink RX6 16 "PopularMatchingsModel" "capacity" "[I", Cond.fieldLink RX6 20 "PopularMatchingsModel" "length" "[I", Cond.fieldLink RX6 23 "PopularMatchingsModel" "list" "[I", Cond.fieldLink RX6 26 "PopularMatchingsModel" "now" "[I", Cond.fieldLink RX6 29 "PopularMatchingsModel" "history" "[I", Cond.fieldLink RX6 32 "PopularMatchingsModel" "best" "[I", Cond.fieldLink RX6 35 "PopularMatchingsModel" "found" "[I", Cond.methodLink RX6 38 yX6_builds]
def wsL_law_r5 : List Cond := [Cond.instanceMethod yX6_builds, Cond.selects RX6 yX6_builds yX6_builds, Cond.code yX6_builds cX6_builds 4 none, Cond.methodLink RX6 42 yX6_clears, Cond.instanceMethod yX6_clears, Cond.selects RX6 yX6_clears yX6_clears, Cond.code yX6_clears cX6_clears 2 none, Cond.fieldLink RX6 45 "PopularMatchingsModel" "edits" "I", Cond.methodLink RL 13 yX5_reset, Cond.instanceMethod yX5_reset, Cond.selects RX5 yX5_reset yX5_reset, Cond.code yX5_reset cX5_reset 5 (some .int), Cond.fieldLink RX5 50 "PopularMatchings$Instance" "applicants" "I", Cond.methodLink RX5 54 yX2_startAnew, Cond.methodLink RX5 58 yX5_forgetMatchings, Cond.instanceMethod yX5_forgetMatchings, Cond.selects RX5 yX5_forgetMatchings yX5_forgetMatchings, Cond.code yX5_forgetMatchings cX5_forgetMatchings 1 none, Cond.methodLink RX5 127 yX3_clear, Cond.methodLink RX5 155 yX1_forget, Cond.instanceMethod yX1_forget, Cond.selects RX1 yX1_forget yX1_forget, Cond.code yX1_forget cX1_forget 1 none, Cond.methodLink RL 17 yX6_reset]
def wsL_law_r6 : List Cond := [Cond.instanceMethod yX6_reset, Cond.selects RX6 yX6_reset yX6_reset, Cond.code yX6_reset cX6_reset 4 (some .int), Cond.methodLink RX6 48 yX6_in, Cond.static yX6_in, Cond.code yX6_in cX6_in 3 (some .boolean), Cond.methodLink RL 18 yX5_setCapacity, Cond.instanceMethod yX5_setCapacity, Cond.selects RX5 yX5_setCapacity yX5_setCapacity, Cond.code yX5_setCapacity cX5_setCapacity 4 (some .int), Cond.fieldLink RX5 65 "PopularMatchings$Instance" "capacities" "[I", Cond.methodLink RX5 61 yX2_isPost, Cond.instanceMethod yX2_isPost, Cond.selects RX2 yX2_isPost yX2_isPost, Cond.code yX2_isPost cX2_isPost 2 (some .boolean), Cond.methodLink RL 21 yX6_setCapacity, Cond.instanceMethod yX6_setCapacity, Cond.selects RX6 yX6_setCapacity yX6_setCapacity, Cond.code yX6_setCapacity cX6_setCapacity 4 (some .int), Cond.methodLink RX6 52 yX6_isPost, Cond.instanceMethod yX6_isPost, Cond.selects RX6 yX6_isPost yX6_isPost, Cond.code yX6_isPost cX6_isPost 2 (some .boolean), Cond.methodLink RL 22 yX5_appendPreference]
def wsL_law_r7 : List Cond := [Cond.instanceMethod yX5_appendPreference, Cond.selects RX5 yX5_appendPreference yX5_appendPreference, Cond.code yX5_appendPreference cX5_appendPreference 4 (some .int), Cond.methodLink RX5 69 yX2_isApplicant, Cond.instanceMethod yX2_isApplicant, Cond.selects RX2 yX2_isApplicant yX2_isApplicant, Cond.code yX2_isApplicant cX2_isApplicant 2 (some .boolean), Cond.methodLink RX5 72 yX2_isListed, Cond.instanceMethod yX2_isListed, Cond.selects RX2 yX2_isListed yX2_isListed, Cond.code yX2_isListed cX2_isListed 3 (some .boolean), Cond.methodLink RX2 32 yX2_rankOf, Cond.instanceMethod yX2_rankOf, Cond.selects RX2 yX2_rankOf yX2_rankOf, Cond.code yX2_rankOf cX2_rankOf 4 (some .int), Cond.methodLink RX2 36 yX2_listed, Cond.instanceMethod yX2_listed, Cond.selects RX2 yX2_listed yX2_listed, Cond.code yX2_listed cX2_listed 3 (some .int), Cond.methodLink RX5 76 yX2_append, Cond.instanceMethod yX2_append, Cond.selects RX2 yX2_append yX2_append, Cond.code yX2_append cX2_append 3 (some .int), Cond.methodLink RL 25 yX6_appendPreference]
def wsL_law_r8 : List Cond := [Cond.instanceMethod yX6_appendPreference, Cond.selects RX6 yX6_appendPreference yX6_appendPreference, Cond.code yX6_appendPreference cX6_appendPreference 3 (some .int), Cond.methodLink RX6 56 yX6_isApplicant, Cond.instanceMethod yX6_isApplicant, Cond.selects RX6 yX6_isApplicant yX6_isApplicant, Cond.code yX6_isApplicant cX6_isApplicant 2 (some .boolean), Cond.methodLink RX6 59 yX6_rank, Cond.instanceMethod yX6_rank, Cond.selects RX6 yX6_rank yX6_rank, Cond.code yX6_rank cX6_rank 4 (some .int), Cond.methodLink RL 26 yX5_clearPreferences, Cond.instanceMethod yX5_clearPreferences, Cond.selects RX5 yX5_clearPreferences yX5_clearPreferences, Cond.code yX5_clearPreferences cX5_clearPreferences 3 (some .int), Cond.fieldLink RX5 80 "PopularMatchings$Instance" "lengths" "[I", Cond.methodLink RL 30 yX6_clearPreferences, Cond.instanceMethod yX6_clearPreferences, Cond.selects RX6 yX6_clearPreferences yX6_clearPreferences, Cond.code yX6_clearPreferences cX6_clearPreferences 3 (some .int), Cond.methodLink RL 31 yX5_preferenceAt, Cond.instanceMethod yX5_preferenceAt, Cond.selects RX5 yX5_preferenceAt yX5_preferenceAt, Cond.code yX5_preferenceAt cX5_preferenceAt 3 (some .int)]
def wsL_law_r9 : List Cond := [Cond.methodLink RX5 83 yX2_listed, Cond.methodLink RL 34 yX6_preferenceAt, Cond.instanceMethod yX6_preferenceAt, Cond.selects RX6 yX6_preferenceAt yX6_preferenceAt, Cond.code yX6_preferenceAt cX6_preferenceAt 3 (some .int), Cond.methodLink RL 35 yX5_firstPost, Cond.instanceMethod yX5_firstPost, Cond.selects RX5 yX5_firstPost yX5_firstPost, Cond.code yX5_firstPost cX5_firstPost 2 (some .int), Cond.methodLink RX5 86 yX2_firstOf, Cond.instanceMethod yX2_firstOf, Cond.selects RX2 yX2_firstOf yX2_firstOf, Cond.code yX2_firstOf cX2_firstOf 2 (some .int), Cond.methodLink RL 38 yX6_firstPost, Cond.instanceMethod yX6_firstPost, Cond.selects RX6 yX6_firstPost yX6_firstPost, Cond.code yX6_firstPost cX6_firstPost 2 (some .int), Cond.methodLink RX6 63 yX6_first, Cond.instanceMethod yX6_first, Cond.selects RX6 yX6_first yX6_first, Cond.code yX6_first cX6_first 2 (some .int), Cond.methodLink RL 39 yX5_secondPost, Cond.instanceMethod yX5_secondPost, Cond.selects RX5 yX5_secondPost yX5_secondPost]
def wsL_law_r10 : List Cond := [Cond.code yX5_secondPost cX5_secondPost 2 (some .int), Cond.methodLink RX5 90 yX2_secondOf, Cond.instanceMethod yX2_secondOf, Cond.selects RX2 yX2_secondOf yX2_secondOf, Cond.code yX2_secondOf cX2_secondOf 4 (some .int), Cond.methodLink RX2 39 yX2_countFirst, Cond.instanceMethod yX2_countFirst, Cond.selects RX2 yX2_countFirst yX2_countFirst, Cond.code yX2_countFirst cX2_countFirst 4 (some .int), Cond.methodLink RX2 43 yX2_firstOf, Cond.methodLink RL 42 yX6_secondPost, Cond.instanceMethod yX6_secondPost, Cond.selects RX6 yX6_secondPost yX6_secondPost, Cond.code yX6_secondPost cX6_secondPost 2 (some .int), Cond.methodLink RX6 70 yX6_second, Cond.instanceMethod yX6_second, Cond.selects RX6 yX6_second yX6_second, Cond.code yX6_second cX6_second 4 (some .int), Cond.methodLink RX6 67 yX6_firsts, Cond.instanceMethod yX6_firsts, Cond.selects RX6 yX6_firsts yX6_firsts, Cond.code yX6_firsts cX6_firsts 4 (some .int), Cond.methodLink RL 43 yX5_assign, Cond.instanceMethod yX5_assign]
def wsL_law_r11 : List Cond := [Cond.selects RX5 yX5_assign yX5_assign, Cond.code yX5_assign cX5_assign 4 (some .int), Cond.fieldLink RX5 96 "PopularMatchings$Matching" "posts" "[I", Cond.methodLink RX5 93 yX3_othersAt, Cond.instanceMethod yX3_othersAt, Cond.selects RX3 yX3_othersAt yX3_othersAt, Cond.code yX3_othersAt cX3_othersAt 5 (some .int), Cond.methodLink RX5 99 yX1_remember, Cond.instanceMethod yX1_remember, Cond.selects RX1 yX1_remember yX1_remember, Cond.code yX1_remember cX1_remember 3 none, Cond.methodLink RX1 25 yX1_dropOldest, Cond.instanceMethod yX1_dropOldest, Cond.selects RX1 yX1_dropOldest yX1_dropOldest, Cond.code yX1_dropOldest cX1_dropOldest 2 none, Cond.methodLink RX1 28 yX3_copyFrom, Cond.instanceMethod yX3_copyFrom, Cond.selects RX3 yX3_copyFrom yX3_copyFrom, Cond.code yX3_copyFrom cX3_copyFrom 3 none, Cond.methodLink RL 46 yX6_assign, Cond.instanceMethod yX6_assign, Cond.selects RX6 yX6_assign yX6_assign, Cond.code yX6_assign cX6_assign 5 (some .int), Cond.methodLink RX6 73 yX6_edit]
def wsL_law_r12 : List Cond := [Cond.instanceMethod yX6_edit, Cond.selects RX6 yX6_edit yX6_edit, Cond.code yX6_edit cX6_edit 2 none, Cond.methodLink RL 47 yX5_postOf, Cond.instanceMethod yX5_postOf, Cond.selects RX5 yX5_postOf yX5_postOf, Cond.code yX5_postOf cX5_postOf 2 (some .int), Cond.methodLink RL 50 yX6_postOf, Cond.instanceMethod yX6_postOf, Cond.selects RX6 yX6_postOf yX6_postOf, Cond.code yX6_postOf cX6_postOf 2 (some .int), Cond.methodLink RL 51 yX5_size, Cond.instanceMethod yX5_size, Cond.selects RX5 yX5_size yX5_size, Cond.code yX5_size cX5_size 1 (some .int), Cond.methodLink RX5 103 yX3_countPlaced, Cond.instanceMethod yX3_countPlaced, Cond.selects RX3 yX3_countPlaced yX3_countPlaced, Cond.code yX3_countPlaced cX3_countPlaced 3 (some .int), Cond.methodLink RL 55 yX6_size, Cond.instanceMethod yX6_size, Cond.selects RX6 yX6_size yX6_size, Cond.code yX6_size cX6_size 3 (some .int), Cond.methodLink RL 56 yX5_isParetoOptimal]
def wsL_law_r13 : List Cond := [Cond.instanceMethod yX5_isParetoOptimal, Cond.selects RX5 yX5_isParetoOptimal yX5_isParetoOptimal, Cond.code yX5_isParetoOptimal cX5_isParetoOptimal 2 (some .int), Cond.methodLink RX5 107 yX0_bestKey, Cond.instanceMethod yX0_bestKey, Cond.selects RX0 yX0_bestKey yX0_bestKey, Cond.code yX0_bestKey cX0_bestKey 8 (some .int), Cond.fieldLink RX0 23 "PopularMatchings$ChallengerSearch" "FILL_OF_POST" "[I", Cond.fieldLink RX0 26 "PopularMatchings$Instance" "posts" "I", Cond.constant RX0 32 (-1073741824), Cond.constant RX0 18 (262143), Cond.fieldLink RX0 33 "PopularMatchings$Instance" "applicants" "I", Cond.fieldLink RX0 36 "PopularMatchings$Matching" "posts" "[I", Cond.fieldLink RX0 44 "PopularMatchings$Instance" "lengths" "[I", Cond.methodLink RX0 51 Lib.Math.max.name, Cond.static Lib.Math.max.name, Cond.initialized "java/lang/Math", Cond.code Lib.Math.max.name Lib.Math.max.code 2 (some .int), Cond.methodLink RX0 40 yX2_rankOf, Cond.methodLink RX0 47 yX0_letChoose, Cond.instanceMethod yX0_letChoose, Cond.selects RX0 yX0_letChoose yX0_letChoose, Cond.code yX0_letChoose cX0_letChoose 11 none, Cond.fieldLink RX0 66 "PopularMatchings$Instance" "capacities" "[I"]
def wsL_law_r14 : List Cond := [Cond.methodLink RX0 56 yX2_vote, Cond.static yX2_vote, Cond.code yX2_vote cX2_vote 2 (some .int), Cond.methodLink RX0 19 yX0_placeShift, Cond.static yX0_placeShift, Cond.code yX0_placeShift cX0_placeShift 1 (some .int), Cond.methodLink RX0 59 yX0_raise, Cond.instanceMethod yX0_raise, Cond.selects RX0 yX0_raise yX0_raise, Cond.code yX0_raise cX0_raise 3 none, Cond.methodLink RX0 63 yX2_listed, Cond.methodLink RX5 111 yX0_marginIn, Cond.static yX0_marginIn, Cond.code yX0_marginIn cX0_marginIn 1 (some .int), Cond.methodLink RL 59 yX6_isParetoOptimal, Cond.instanceMethod yX6_isParetoOptimal, Cond.selects RX6 yX6_isParetoOptimal yX6_isParetoOptimal, Cond.code yX6_isParetoOptimal cX6_isParetoOptimal 1 (some .int), Cond.methodLink RX6 90 yX6_margin, Cond.instanceMethod yX6_margin, Cond.selects RX6 yX6_margin yX6_margin, Cond.code yX6_margin cX6_margin 7 (some .int), Cond.methodLink RX6 86 yX6_gives, Cond.instanceMethod yX6_gives]
def wsL_law_r15 : List Cond := [Cond.selects RX6 yX6_gives yX6_gives, Cond.code yX6_gives cX6_gives 6 (some .int), Cond.methodLink RX6 76 yX6_vote, Cond.instanceMethod yX6_vote, Cond.selects RX6 yX6_vote yX6_vote, Cond.code yX6_vote cX6_vote 6 (some .int), Cond.methodLink RX6 80 yX6_digit, Cond.static yX6_digit, Cond.code yX6_digit cX6_digit 4 (some .int), Cond.methodLink RX6 83 yX6_power, Cond.static yX6_power, Cond.code yX6_power cX6_power 3 (some .int), Cond.methodLink RL 60 yX5_save, Cond.instanceMethod yX5_save, Cond.selects RX5 yX5_save yX5_save, Cond.code yX5_save cX5_save 1 (some .int), Cond.methodLink RX5 114 yX3_copyFrom, Cond.methodLink RL 63 yX6_save, Cond.instanceMethod yX6_save, Cond.selects RX6 yX6_save yX6_save, Cond.code yX6_save cX6_save 2 (some .int), Cond.methodLink RX6 94 yX6_size, Cond.methodLink RL 64 yX5_swapSaved, Cond.instanceMethod yX5_swapSaved]
def wsL_law_r16 : List Cond := [Cond.selects RX5 yX5_swapSaved yX5_swapSaved, Cond.code yX5_swapSaved cX5_swapSaved 1 (some .int), Cond.methodLink RL 67 yX6_swapSaved, Cond.instanceMethod yX6_swapSaved, Cond.selects RX6 yX6_swapSaved yX6_swapSaved, Cond.code yX6_swapSaved cX6_swapSaved 3 (some .int), Cond.methodLink RL 68 yX5_marginOverSaved, Cond.instanceMethod yX5_marginOverSaved, Cond.selects RX5 yX5_marginOverSaved yX5_marginOverSaved, Cond.code yX5_marginOverSaved cX5_marginOverSaved 5 (some .int), Cond.methodLink RX5 118 yX2_rankOf, Cond.methodLink RX5 121 yX2_vote, Cond.methodLink RL 71 yX6_marginOverSaved, Cond.instanceMethod yX6_marginOverSaved, Cond.selects RX6 yX6_marginOverSaved yX6_marginOverSaved, Cond.code yX6_marginOverSaved cX6_marginOverSaved 3 (some .int), Cond.methodLink RL 72 yX5_unpopularityMargin, Cond.instanceMethod yX5_unpopularityMargin, Cond.selects RX5 yX5_unpopularityMargin yX5_unpopularityMargin, Cond.code yX5_unpopularityMargin cX5_unpopularityMargin 1 (some .int), Cond.methodLink RL 75 yX6_unpopularityMargin, Cond.instanceMethod yX6_unpopularityMargin, Cond.selects RX6 yX6_unpopularityMargin yX6_unpopularityMargin, Cond.code yX6_unpopularityMargin cX6_unpopularityMargin 1 (some .int)]
def wsL_law_r17 : List Cond := [Cond.methodLink RL 76 yX5_challengerPost, Cond.instanceMethod yX5_challengerPost, Cond.selects RX5 yX5_challengerPost yX5_challengerPost, Cond.code yX5_challengerPost cX5_challengerPost 2 (some .int), Cond.methodLink RX5 124 yX0_postIn, Cond.static yX0_postIn, Cond.code yX0_postIn cX0_postIn 4 (some .int), Cond.methodLink RL 79 yX6_challengerPost, Cond.instanceMethod yX6_challengerPost, Cond.selects RX6 yX6_challengerPost yX6_challengerPost, Cond.code yX6_challengerPost cX6_challengerPost 2 (some .int), Cond.methodLink RX6 98 yX6_challenges, Cond.instanceMethod yX6_challenges, Cond.selects RX6 yX6_challenges yX6_challenges, Cond.code yX6_challenges cX6_challenges 5 (some .int), Cond.methodLink RL 80 yX5_adoptChallenger, Cond.instanceMethod yX5_adoptChallenger, Cond.selects RX5 yX5_adoptChallenger yX5_adoptChallenger, Cond.code yX5_adoptChallenger cX5_adoptChallenger 3 (some .int), Cond.methodLink RX5 130 yX5_adoptDraft, Cond.instanceMethod yX5_adoptDraft, Cond.selects RX5 yX5_adoptDraft yX5_adoptDraft, Cond.code yX5_adoptDraft cX5_adoptDraft 1 (some .int), Cond.methodLink RL 83 yX6_adoptChallenger]
def wsL_law_r18 : List Cond := [Cond.instanceMethod yX6_adoptChallenger, Cond.selects RX6 yX6_adoptChallenger yX6_adoptChallenger, Cond.code yX6_adoptChallenger cX6_adoptChallenger 2 (some .int), Cond.methodLink RX6 101 yX6_takes, Cond.instanceMethod yX6_takes, Cond.selects RX6 yX6_takes yX6_takes, Cond.code yX6_takes cX6_takes 2 none, Cond.methodLink RL 84 yX5_popularCount, Cond.instanceMethod yX5_popularCount, Cond.selects RX5 yX5_popularCount yX5_popularCount, Cond.code yX5_popularCount cX5_popularCount 1 (some .int), Cond.methodLink RX5 133 yX4_collect, Cond.instanceMethod yX4_collect, Cond.selects RX4 yX4_collect yX4_collect, Cond.code yX4_collect cX4_collect 4 (some .int), Cond.fieldLink RX4 37 "PopularMatchings$Instance" "applicants" "I", Cond.methodLink RX4 33 yX4_prepare, Cond.instanceMethod yX4_prepare, Cond.selects RX4 yX4_prepare yX4_prepare, Cond.code yX4_prepare cX4_prepare 6 none, Cond.fieldLink RX4 66 "PopularMatchings$Instance" "posts" "I", Cond.fieldLink RX4 71 "PopularMatchings$Instance" "capacities" "[I", Cond.methodLink RX4 74 Lib.Math.min.name, Cond.static Lib.Math.min.name]
def wsL_law_r19 : List Cond := [Cond.code Lib.Math.min.name Lib.Math.min.code 2 (some .int), Cond.methodLink RX4 59 yX2_firstOf, Cond.methodLink RX4 63 yX2_secondOf, Cond.methodLink RX4 68 yX2_countFirst, Cond.methodLink RX4 43 yX4_isPopular, Cond.instanceMethod yX4_isPopular, Cond.selects RX4 yX4_isPopular yX4_isPopular, Cond.code yX4_isPopular cX4_isPopular 5 (some .boolean), Cond.methodLink RX4 80 yX4_takesHigher, Cond.static yX4_takesHigher, Cond.code yX4_takesHigher cX4_takesHigher 3 (some .boolean), Cond.methodLink RX4 55 yX4_postIn, Cond.instanceMethod yX4_postIn, Cond.selects RX4 yX4_postIn yX4_postIn, Cond.code yX4_postIn cX4_postIn 4 (some .int), Cond.methodLink RX4 84 yX4_count, Cond.instanceMethod yX4_count, Cond.selects RX4 yX4_count yX4_count, Cond.code yX4_count cX4_count 3 none, Cond.methodLink RL 87 yX6_popularCount, Cond.instanceMethod yX6_popularCount, Cond.selects RX6 yX6_popularCount yX6_popularCount, Cond.code yX6_popularCount cX6_popularCount 3 (some .int), Cond.methodLink RX6 104 yX6_lays]
def wsL_law_r20 : List Cond := [Cond.instanceMethod yX6_lays, Cond.selects RX6 yX6_lays yX6_lays, Cond.code yX6_lays cX6_lays 7 (some .boolean), Cond.methodLink RL 88 yX5_greatestPopularSize, Cond.instanceMethod yX5_greatestPopularSize, Cond.selects RX5 yX5_greatestPopularSize yX5_greatestPopularSize, Cond.code yX5_greatestPopularSize cX5_greatestPopularSize 4 (some .int), Cond.methodLink RX5 141 Lib.Math.max.name, Cond.methodLink RX5 137 yX4_write, Cond.instanceMethod yX4_write, Cond.selects RX4 yX4_write yX4_write, Cond.code yX4_write cX4_write 5 none, Cond.fieldLink RX4 52 "PopularMatchings$Matching" "posts" "[I", Cond.methodLink RX4 47 yX3_clear, Cond.methodLink RL 91 yX6_greatestPopularSize, Cond.instanceMethod yX6_greatestPopularSize, Cond.selects RX6 yX6_greatestPopularSize yX6_greatestPopularSize, Cond.code yX6_greatestPopularSize cX6_greatestPopularSize 3 (some .int), Cond.methodLink RX6 107 yX6_sizeOf, Cond.instanceMethod yX6_sizeOf, Cond.selects RX6 yX6_sizeOf yX6_sizeOf, Cond.code yX6_sizeOf cX6_sizeOf 3 (some .int), Cond.methodLink RL 92 yX5_adoptPopular, Cond.instanceMethod yX5_adoptPopular]
def wsL_law_r21 : List Cond := [Cond.selects RX5 yX5_adoptPopular yX5_adoptPopular, Cond.code yX5_adoptPopular cX5_adoptPopular 2 (some .int), Cond.methodLink RL 95 yX6_adoptPopular, Cond.instanceMethod yX6_adoptPopular, Cond.selects RX6 yX6_adoptPopular yX6_adoptPopular, Cond.code yX6_adoptPopular cX6_adoptPopular 7 (some .int), Cond.constant RX6 113 (99999), Cond.methodLink RX6 110 yX6_popularCount, Cond.methodLink RX6 114 yX6_code, Cond.instanceMethod yX6_code, Cond.selects RX6 yX6_code yX6_code, Cond.code yX6_code cX6_code 3 (some .int), Cond.methodLink RL 96 yX5_adoptSerial, Cond.instanceMethod yX5_adoptSerial, Cond.selects RX5 yX5_adoptSerial yX5_adoptSerial, Cond.code yX5_adoptSerial cX5_adoptSerial 3 (some .int), Cond.methodLink RX5 146 yX5_mostPreferredFree, Cond.instanceMethod yX5_mostPreferredFree, Cond.selects RX5 yX5_mostPreferredFree yX5_mostPreferredFree, Cond.code yX5_mostPreferredFree cX5_mostPreferredFree 4 (some .int), Cond.methodLink RL 99 yX6_adoptSerial, Cond.instanceMethod yX6_adoptSerial, Cond.selects RX6 yX6_adoptSerial yX6_adoptSerial, Cond.code yX6_adoptSerial cX6_adoptSerial 7 (some .int)]
def wsL_law_r22 : List Cond := [Cond.methodLink RL 100 yX5_undo, Cond.instanceMethod yX5_undo, Cond.selects RX5 yX5_undo yX5_undo, Cond.code yX5_undo cX5_undo 1 (some .int), Cond.fieldLink RX5 149 "PopularMatchings$History" "count" "I", Cond.methodLink RX5 152 yX1_restore, Cond.instanceMethod yX1_restore, Cond.selects RX1 yX1_restore yX1_restore, Cond.code yX1_restore cX1_restore 3 none, Cond.methodLink RL 103 yX6_undo, Cond.instanceMethod yX6_undo, Cond.selects RX6 yX6_undo yX6_undo, Cond.code yX6_undo cX6_undo 2 (some .int)]
def wsL_law : List Cond := (wsL_law_r1 ++ (wsL_law_r2 ++ (wsL_law_r3 ++ (wsL_law_r4 ++ (wsL_law_r5 ++ (wsL_law_r6 ++ (wsL_law_r7 ++ (wsL_law_r8 ++ (wsL_law_r9 ++ (wsL_law_r10 ++ (wsL_law_r11 ++ (wsL_law_r12 ++ (wsL_law_r13 ++ (wsL_law_r14 ++ (wsL_law_r15 ++ (wsL_law_r16 ++ (wsL_law_r17 ++ (wsL_law_r18 ++ (wsL_law_r19 ++ (wsL_law_r20 ++ (wsL_law_r21 ++ wsL_law_r22))))))))))))))))))))) ++ wsX50 ++ wsX60 ++ wsX20 ++ wsX30 ++ wsX10 ++ wsX00 ++ wsX40 ++ ([] : List Cond)
abbrev vwCl : List vw_C := [(RX0, TX0, 2), (RX1, TX1, 3), (RX2, TX2, 5), (RX3, TX3, 1), (RX4, TX4, 7), (RX5, TX5, 7), (RX6, TX6, 10)]
end
section
theorem dX0_init_0 : decode cX0_init 0 = .ok (.aload_n 0, 1) := by decide +kernel
theorem dX0_init_1 : decode cX0_init 1 = .ok (.invokespecial 5, 3) := by decide +kernel
theorem dX0_init_4 : decode cX0_init 4 = .ok (.aload_n 0, 1) := by decide +kernel
theorem dX0_init_5 : decode cX0_init 5 = .ok (.sipush 1215, 3) := by decide +kernel
theorem dX0_init_8 : decode cX0_init 8 = .ok (.newarray .int, 2) := by decide +kernel
theorem dX0_init_10 : decode cX0_init 10 = .ok (.putfield 11, 3) := by decide +kernel
theorem dX0_init_13 : decode cX0_init 13 = .ok (.aload_n 0, 1) := by decide +kernel
theorem dX0_init_14 : decode cX0_init 14 = .ok (.sipush 243, 3) := by decide +kernel
theorem dX0_init_17 : decode cX0_init 17 = .ok (.newarray .int, 2) := by decide +kernel
theorem dX0_init_19 : decode cX0_init 19 = .ok (.putfield 15, 3) := by decide +kernel
theorem dX0_init_22 : decode cX0_init 22 = .ok (.iconst 0, 1) := by decide +kernel
theorem dX0_init_23 : decode cX0_init 23 = .ok (.istore_n 1, 1) := by decide +kernel
theorem dX0_init_24 : decode cX0_init 24 = .ok (.iload_n 1, 1) := by decide +kernel
theorem dX0_init_25 : decode cX0_init 25 = .ok (.sipush 243, 3) := by decide +kernel
theorem dX0_init_28 : decode cX0_init 28 = .ok (.if_icmp .ge 41, 3) := by decide +kernel
theorem dX0_init_31 : decode cX0_init 31 = .ok (.iload_n 1, 1) := by decide +kernel
theorem dX0_init_32 : decode cX0_init 32 = .ok (.istore_n 2, 1) := by decide +kernel
theorem dX0_init_33 : decode cX0_init 33 = .ok (.iconst 0, 1) := by decide +kernel
theorem dX0_init_34 : decode cX0_init 34 = .ok (.istore_n 3, 1) := by decide +kernel
theorem dX0_init_35 : decode cX0_init 35 = .ok (.iload_n 3, 1) := by decide +kernel
theorem dX0_init_36 : decode cX0_init 36 = .ok (.iconst 5, 1) := by decide +kernel
theorem dX0_init_37 : decode cX0_init 37 = .ok (.if_icmp .ge 26, 3) := by decide +kernel
theorem dX0_init_40 : decode cX0_init 40 = .ok (.aload_n 0, 1) := by decide +kernel
theorem dX0_init_41 : decode cX0_init 41 = .ok (.getfield 11, 3) := by decide +kernel
theorem dX0_init_44 : decode cX0_init 44 = .ok (.iload_n 1, 1) := by decide +kernel
theorem dX0_init_45 : decode cX0_init 45 = .ok (.iconst 5, 1) := by decide +kernel
theorem dX0_init_46 : decode cX0_init 46 = .ok (.imul, 1) := by decide +kernel
theorem dX0_init_47 : decode cX0_init 47 = .ok (.iload_n 3, 1) := by decide +kernel
theorem dX0_init_48 : decode cX0_init 48 = .ok (.iadd, 1) := by decide +kernel
theorem dX0_init_49 : decode cX0_init 49 = .ok (.iload_n 2, 1) := by decide +kernel
theorem dX0_init_50 : decode cX0_init 50 = .ok (.iconst 3, 1) := by decide +kernel
theorem dX0_init_51 : decode cX0_init 51 = .ok (.irem, 1) := by decide +kernel
theorem dX0_init_52 : decode cX0_init 52 = .ok (.iastore, 1) := by decide +kernel
theorem dX0_init_53 : decode cX0_init 53 = .ok (.iload_n 2, 1) := by decide +kernel
theorem dX0_init_54 : decode cX0_init 54 = .ok (.iconst 3, 1) := by decide +kernel
theorem dX0_init_55 : decode cX0_init 55 = .ok (.idiv, 1) := by decide +kernel
theorem dX0_init_56 : decode cX0_init 56 = .ok (.istore_n 2, 1) := by decide +kernel
theorem dX0_init_57 : decode cX0_init 57 = .ok (.iinc 3 1, 3) := by decide +kernel
theorem dX0_init_60 : decode cX0_init 60 = .ok (.goto (-25), 3) := by decide +kernel
theorem dX0_init_63 : decode cX0_init 63 = .ok (.iinc 1 1, 3) := by decide +kernel
theorem dX0_init_66 : decode cX0_init 66 = .ok (.goto (-42), 3) := by decide +kernel
theorem dX0_init_69 : decode cX0_init 69 = .ok (.return_, 1) := by decide +kernel
theorem dX0_marginIn_0 : decode cX0_marginIn 0 = .ok (.iload_n 0, 1) := by decide +kernel
theorem dX0_marginIn_1 : decode cX0_marginIn 1 = .ok (.bipush 18, 2) := by decide +kernel
theorem dX0_marginIn_3 : decode cX0_marginIn 3 = .ok (.ishr, 1) := by decide +kernel
theorem dX0_marginIn_4 : decode cX0_marginIn 4 = .ok (.ireturn, 1) := by decide +kernel
set_option maxRecDepth 20000 in
theorem ggX0_postIn_X0_placeShift : GoodIn wsX0_postIn wsX0_placeShift := goodIn_r _ [5] (by decide +kernel) (by decide +kernel)
set_option maxRecDepth 20000 in
theorem gX0_postIn_X0_placeShift : GoodIn wsX0_postIn (va_wsS RX0 19 yX0_placeShift wsX0_placeShift) := goodIn_app (goodIn_of _ (by decide +kernel)) ggX0_postIn_X0_placeShift
theorem dX0_postIn_0 : decode cX0_postIn 0 = .ok (.ldc 18, 2) := by decide +kernel
theorem dX0_postIn_2 : decode cX0_postIn 2 = .ok (.iload_n 0, 1) := by decide +kernel
theorem dX0_postIn_3 : decode cX0_postIn 3 = .ok (.ldc 18, 2) := by decide +kernel
theorem dX0_postIn_5 : decode cX0_postIn 5 = .ok (.iand, 1) := by decide +kernel
theorem dX0_postIn_6 : decode cX0_postIn 6 = .ok (.isub, 1) := by decide +kernel
theorem dX0_postIn_7 : decode cX0_postIn 7 = .ok (.istore_n 2, 1) := by decide +kernel
theorem dX0_postIn_8 : decode cX0_postIn 8 = .ok (.iload_n 2, 1) := by decide +kernel
theorem dX0_postIn_9 : decode cX0_postIn 9 = .ok (.iload_n 1, 1) := by decide +kernel
theorem dX0_postIn_10 : decode cX0_postIn 10 = .ok (.invokestatic 19, 3) := by decide +kernel
theorem dX0_postIn_13 : decode cX0_postIn 13 = .ok (.ishr, 1) := by decide +kernel
theorem dX0_postIn_14 : decode cX0_postIn 14 = .ok (.bipush 7, 2) := by decide +kernel
theorem dX0_postIn_16 : decode cX0_postIn 16 = .ok (.iand, 1) := by decide +kernel
theorem dX0_postIn_17 : decode cX0_postIn 17 = .ok (.istore_n 3, 1) := by decide +kernel
theorem dX0_postIn_18 : decode cX0_postIn 18 = .ok (.iload_n 3, 1) := by decide +kernel
theorem dX0_postIn_19 : decode cX0_postIn 19 = .ok (.iconst 5, 1) := by decide +kernel
theorem dX0_postIn_20 : decode cX0_postIn 20 = .ok (.if_icmp .ne 7, 3) := by decide +kernel
theorem dX0_postIn_23 : decode cX0_postIn 23 = .ok (.iconst (-1), 1) := by decide +kernel
theorem dX0_postIn_24 : decode cX0_postIn 24 = .ok (.goto 4, 3) := by decide +kernel
theorem dX0_postIn_27 : decode cX0_postIn 27 = .ok (.iload_n 3, 1) := by decide +kernel
theorem dX0_postIn_28 : decode cX0_postIn 28 = .ok (.ireturn, 1) := by decide +kernel
theorem dX0_placeShift_0 : decode cX0_placeShift 0 = .ok (.iconst 3, 1) := by decide +kernel
theorem dX0_placeShift_1 : decode cX0_placeShift 1 = .ok (.iconst 5, 1) := by decide +kernel
theorem dX0_placeShift_2 : decode cX0_placeShift 2 = .ok (.iload_n 0, 1) := by decide +kernel
theorem dX0_placeShift_3 : decode cX0_placeShift 3 = .ok (.isub, 1) := by decide +kernel
theorem dX0_placeShift_4 : decode cX0_placeShift 4 = .ok (.imul, 1) := by decide +kernel
theorem dX0_placeShift_5 : decode cX0_placeShift 5 = .ok (.ireturn, 1) := by decide +kernel
set_option maxRecDepth 20000 in
theorem ggX0_bestKey_X2_rankOf : GoodIn wsX0_bestKey wsX2_rankOf := goodIn_r _ [17, 18, 19, 20, 21, 16, 22, 23, 42, 43, 44, 45, 46] (by decide +kernel) (by decide +kernel)
set_option maxRecDepth 20000 in
theorem gX0_bestKey_X2_rankOf : GoodIn wsX0_bestKey (wsV RX0 40 RX2 yX2_rankOf wsX2_rankOf) := goodIn_app (goodIn_of _ (by decide +kernel)) ggX0_bestKey_X2_rankOf
set_option maxRecDepth 20000 in
theorem ggX0_bestKey_X0_letChoose : GoodIn wsX0_bestKey wsX0_letChoose := goodIn_r _ [28, 1, 2, 3, 4, 8, 29, 30, 31, 32, 16, 33, 34, 35, 27, 36, 37, 38, 39, 40, 41, 20, 21, 22, 23, 42, 43, 44, 45, 46, 47, 48] (by decide +kernel) (by decide +kernel)
set_option maxRecDepth 20000 in
theorem gX0_bestKey_X0_letChoose : GoodIn wsX0_bestKey (wsV RX0 47 RX0 yX0_letChoose wsX0_letChoose) := goodIn_app (goodIn_of _ (by decide +kernel)) ggX0_bestKey_X0_letChoose
theorem dX0_bestKey_0 : decode cX0_bestKey 0 = .ok (.getstatic 23, 3) := by decide +kernel
theorem dX0_bestKey_3 : decode cX0_bestKey 3 = .ok (.aload_n 1, 1) := by decide +kernel
theorem dX0_bestKey_4 : decode cX0_bestKey 4 = .ok (.getfield 26, 3) := by decide +kernel
theorem dX0_bestKey_7 : decode cX0_bestKey 7 = .ok (.iaload, 1) := by decide +kernel
theorem dX0_bestKey_8 : decode cX0_bestKey 8 = .ok (.istore 4, 2) := by decide +kernel
theorem dX0_bestKey_10 : decode cX0_bestKey 10 = .ok (.iconst 0, 1) := by decide +kernel
theorem dX0_bestKey_11 : decode cX0_bestKey 11 = .ok (.istore 5, 2) := by decide +kernel
theorem dX0_bestKey_13 : decode cX0_bestKey 13 = .ok (.iload 5, 2) := by decide +kernel
theorem dX0_bestKey_15 : decode cX0_bestKey 15 = .ok (.iload 4, 2) := by decide +kernel
theorem dX0_bestKey_17 : decode cX0_bestKey 17 = .ok (.if_icmp .ge 18, 3) := by decide +kernel
theorem dX0_bestKey_20 : decode cX0_bestKey 20 = .ok (.aload_n 0, 1) := by decide +kernel
theorem dX0_bestKey_21 : decode cX0_bestKey 21 = .ok (.getfield 15, 3) := by decide +kernel
theorem dX0_bestKey_24 : decode cX0_bestKey 24 = .ok (.iload 5, 2) := by decide +kernel
theorem dX0_bestKey_26 : decode cX0_bestKey 26 = .ok (.ldc 32, 2) := by decide +kernel
theorem dX0_bestKey_28 : decode cX0_bestKey 28 = .ok (.iastore, 1) := by decide +kernel
theorem dX0_bestKey_29 : decode cX0_bestKey 29 = .ok (.iinc 5 1, 3) := by decide +kernel
theorem dX0_bestKey_32 : decode cX0_bestKey 32 = .ok (.goto (-19), 3) := by decide +kernel
theorem dX0_bestKey_35 : decode cX0_bestKey 35 = .ok (.aload_n 0, 1) := by decide +kernel
theorem dX0_bestKey_36 : decode cX0_bestKey 36 = .ok (.getfield 15, 3) := by decide +kernel
theorem dX0_bestKey_39 : decode cX0_bestKey 39 = .ok (.iconst 0, 1) := by decide +kernel
theorem dX0_bestKey_40 : decode cX0_bestKey 40 = .ok (.ldc 18, 2) := by decide +kernel
theorem dX0_bestKey_42 : decode cX0_bestKey 42 = .ok (.iastore, 1) := by decide +kernel
theorem dX0_bestKey_43 : decode cX0_bestKey 43 = .ok (.iconst 0, 1) := by decide +kernel
theorem dX0_bestKey_44 : decode cX0_bestKey 44 = .ok (.istore 5, 2) := by decide +kernel
theorem dX0_bestKey_46 : decode cX0_bestKey 46 = .ok (.iload 5, 2) := by decide +kernel
theorem dX0_bestKey_48 : decode cX0_bestKey 48 = .ok (.aload_n 1, 1) := by decide +kernel
theorem dX0_bestKey_49 : decode cX0_bestKey 49 = .ok (.getfield 33, 3) := by decide +kernel
theorem dX0_bestKey_52 : decode cX0_bestKey 52 = .ok (.if_icmp .ge 53, 3) := by decide +kernel
theorem dX0_bestKey_55 : decode cX0_bestKey 55 = .ok (.aload_n 1, 1) := by decide +kernel
theorem dX0_bestKey_56 : decode cX0_bestKey 56 = .ok (.iload 5, 2) := by decide +kernel
theorem dX0_bestKey_58 : decode cX0_bestKey 58 = .ok (.aload_n 2, 1) := by decide +kernel
theorem dX0_bestKey_59 : decode cX0_bestKey 59 = .ok (.getfield 36, 3) := by decide +kernel
theorem dX0_bestKey_62 : decode cX0_bestKey 62 = .ok (.iload 5, 2) := by decide +kernel
theorem dX0_bestKey_64 : decode cX0_bestKey 64 = .ok (.iaload, 1) := by decide +kernel
theorem dX0_bestKey_65 : decode cX0_bestKey 65 = .ok (.invokevirtual 40, 3) := by decide +kernel
theorem dX0_bestKey_68 : decode cX0_bestKey 68 = .ok (.istore 6, 2) := by decide +kernel
theorem dX0_bestKey_70 : decode cX0_bestKey 70 = .ok (.iload_n 3, 1) := by decide +kernel
theorem dX0_bestKey_71 : decode cX0_bestKey 71 = .ok (.ifCond .eq 13, 3) := by decide +kernel
theorem dX0_bestKey_74 : decode cX0_bestKey 74 = .ok (.aload_n 1, 1) := by decide +kernel
theorem dX0_bestKey_75 : decode cX0_bestKey 75 = .ok (.getfield 44, 3) := by decide +kernel
theorem dX0_bestKey_78 : decode cX0_bestKey 78 = .ok (.iload 5, 2) := by decide +kernel
theorem dX0_bestKey_80 : decode cX0_bestKey 80 = .ok (.iaload, 1) := by decide +kernel
theorem dX0_bestKey_81 : decode cX0_bestKey 81 = .ok (.goto 5, 3) := by decide +kernel
theorem dX0_bestKey_84 : decode cX0_bestKey 84 = .ok (.iload 6, 2) := by decide +kernel
theorem dX0_bestKey_86 : decode cX0_bestKey 86 = .ok (.istore 7, 2) := by decide +kernel
theorem dX0_bestKey_88 : decode cX0_bestKey 88 = .ok (.aload_n 0, 1) := by decide +kernel
theorem dX0_bestKey_89 : decode cX0_bestKey 89 = .ok (.aload_n 1, 1) := by decide +kernel
theorem dX0_bestKey_90 : decode cX0_bestKey 90 = .ok (.iload 5, 2) := by decide +kernel
theorem dX0_bestKey_92 : decode cX0_bestKey 92 = .ok (.iload 6, 2) := by decide +kernel
theorem dX0_bestKey_94 : decode cX0_bestKey 94 = .ok (.iload 7, 2) := by decide +kernel
theorem dX0_bestKey_96 : decode cX0_bestKey 96 = .ok (.invokevirtual 47, 3) := by decide +kernel
theorem dX0_bestKey_99 : decode cX0_bestKey 99 = .ok (.iinc 5 1, 3) := by decide +kernel
theorem dX0_bestKey_102 : decode cX0_bestKey 102 = .ok (.goto (-56), 3) := by decide +kernel
theorem dX0_bestKey_105 : decode cX0_bestKey 105 = .ok (.ldc 32, 2) := by decide +kernel
theorem dX0_bestKey_107 : decode cX0_bestKey 107 = .ok (.istore 5, 2) := by decide +kernel
theorem dX0_bestKey_109 : decode cX0_bestKey 109 = .ok (.iconst 0, 1) := by decide +kernel
theorem dX0_bestKey_110 : decode cX0_bestKey 110 = .ok (.istore 6, 2) := by decide +kernel
theorem dX0_bestKey_112 : decode cX0_bestKey 112 = .ok (.iload 6, 2) := by decide +kernel
theorem dX0_bestKey_114 : decode cX0_bestKey 114 = .ok (.iload 4, 2) := by decide +kernel
theorem dX0_bestKey_116 : decode cX0_bestKey 116 = .ok (.if_icmp .ge 23, 3) := by decide +kernel
theorem dX0_bestKey_119 : decode cX0_bestKey 119 = .ok (.iload 5, 2) := by decide +kernel
theorem dX0_bestKey_121 : decode cX0_bestKey 121 = .ok (.aload_n 0, 1) := by decide +kernel
theorem dX0_bestKey_122 : decode cX0_bestKey 122 = .ok (.getfield 15, 3) := by decide +kernel
theorem dX0_bestKey_125 : decode cX0_bestKey 125 = .ok (.iload 6, 2) := by decide +kernel
theorem dX0_bestKey_127 : decode cX0_bestKey 127 = .ok (.iaload, 1) := by decide +kernel
theorem dX0_bestKey_128 : decode cX0_bestKey 128 = .ok (.invokestatic 51, 3) := by decide +kernel
theorem dX0_bestKey_131 : decode cX0_bestKey 131 = .ok (.istore 5, 2) := by decide +kernel
theorem dX0_bestKey_133 : decode cX0_bestKey 133 = .ok (.iinc 6 1, 3) := by decide +kernel
theorem dX0_bestKey_136 : decode cX0_bestKey 136 = .ok (.goto (-24), 3) := by decide +kernel
theorem dX0_bestKey_139 : decode cX0_bestKey 139 = .ok (.iload 5, 2) := by decide +kernel
theorem dX0_bestKey_141 : decode cX0_bestKey 141 = .ok (.ireturn, 1) := by decide +kernel
set_option maxRecDepth 20000 in
theorem ggX0_letChoose_X2_vote : GoodIn wsX0_letChoose wsX2_vote := goodIn_r _ [11] (by decide +kernel) (by decide +kernel)
set_option maxRecDepth 20000 in
theorem gX0_letChoose_X2_vote : GoodIn wsX0_letChoose (va_wsS RX0 56 yX2_vote wsX2_vote) := goodIn_app (goodIn_of _ (by decide +kernel)) ggX0_letChoose_X2_vote
set_option maxRecDepth 20000 in
theorem ggX0_letChoose_X0_placeShift : GoodIn wsX0_letChoose wsX0_placeShift := goodIn_r _ [15] (by decide +kernel) (by decide +kernel)
set_option maxRecDepth 20000 in
theorem gX0_letChoose_X0_placeShift : GoodIn wsX0_letChoose (va_wsS RX0 19 yX0_placeShift wsX0_placeShift) := goodIn_app (goodIn_of _ (by decide +kernel)) ggX0_letChoose_X0_placeShift
set_option maxRecDepth 20000 in
theorem ggX0_letChoose_X0_raise : GoodIn wsX0_letChoose wsX0_raise := goodIn_r _ [19, 3, 30, 31] (by decide +kernel) (by decide +kernel)
set_option maxRecDepth 20000 in
theorem gX0_letChoose_X0_raise : GoodIn wsX0_letChoose (wsV RX0 59 RX0 yX0_raise wsX0_raise) := goodIn_app (goodIn_of _ (by decide +kernel)) ggX0_letChoose_X0_raise
set_option maxRecDepth 20000 in
theorem ggX0_letChoose_X2_listed : GoodIn wsX0_letChoose wsX2_listed := goodIn_r _ [23, 24, 25, 26, 27, 28, 29] (by decide +kernel) (by decide +kernel)
set_option maxRecDepth 20000 in
theorem gX0_letChoose_X2_listed : GoodIn wsX0_letChoose (wsV RX0 63 RX2 yX2_listed wsX2_listed) := goodIn_app (goodIn_of _ (by decide +kernel)) ggX0_letChoose_X2_listed
theorem dX0_letChoose_0 : decode cX0_letChoose 0 = .ok (.getstatic 23, 3) := by decide +kernel
theorem dX0_letChoose_3 : decode cX0_letChoose 3 = .ok (.aload_n 1, 1) := by decide +kernel
theorem dX0_letChoose_4 : decode cX0_letChoose 4 = .ok (.getfield 26, 3) := by decide +kernel
theorem dX0_letChoose_7 : decode cX0_letChoose 7 = .ok (.iaload, 1) := by decide +kernel
theorem dX0_letChoose_8 : decode cX0_letChoose 8 = .ok (.iconst 1, 1) := by decide +kernel
theorem dX0_letChoose_9 : decode cX0_letChoose 9 = .ok (.isub, 1) := by decide +kernel
theorem dX0_letChoose_10 : decode cX0_letChoose 10 = .ok (.istore 5, 2) := by decide +kernel
theorem dX0_letChoose_12 : decode cX0_letChoose 12 = .ok (.iload 5, 2) := by decide +kernel
theorem dX0_letChoose_14 : decode cX0_letChoose 14 = .ok (.ifCond .lt 151, 3) := by decide +kernel
theorem dX0_letChoose_17 : decode cX0_letChoose 17 = .ok (.aload_n 0, 1) := by decide +kernel
theorem dX0_letChoose_18 : decode cX0_letChoose 18 = .ok (.getfield 15, 3) := by decide +kernel
theorem dX0_letChoose_21 : decode cX0_letChoose 21 = .ok (.iload 5, 2) := by decide +kernel
theorem dX0_letChoose_23 : decode cX0_letChoose 23 = .ok (.iaload, 1) := by decide +kernel
theorem dX0_letChoose_24 : decode cX0_letChoose 24 = .ok (.istore 6, 2) := by decide +kernel
theorem dX0_letChoose_26 : decode cX0_letChoose 26 = .ok (.aload_n 0, 1) := by decide +kernel
theorem dX0_letChoose_27 : decode cX0_letChoose 27 = .ok (.getfield 15, 3) := by decide +kernel
theorem dX0_letChoose_30 : decode cX0_letChoose 30 = .ok (.iload 5, 2) := by decide +kernel
theorem dX0_letChoose_32 : decode cX0_letChoose 32 = .ok (.ldc 32, 2) := by decide +kernel
theorem dX0_letChoose_34 : decode cX0_letChoose 34 = .ok (.iastore, 1) := by decide +kernel
theorem dX0_letChoose_35 : decode cX0_letChoose 35 = .ok (.iconst 0, 1) := by decide +kernel
theorem dX0_letChoose_36 : decode cX0_letChoose 36 = .ok (.istore 7, 2) := by decide +kernel
theorem dX0_letChoose_38 : decode cX0_letChoose 38 = .ok (.iload 7, 2) := by decide +kernel
theorem dX0_letChoose_40 : decode cX0_letChoose 40 = .ok (.iload 4, 2) := by decide +kernel
theorem dX0_letChoose_42 : decode cX0_letChoose 42 = .ok (.if_icmp .gt 117, 3) := by decide +kernel
theorem dX0_letChoose_45 : decode cX0_letChoose 45 = .ok (.iload 6, 2) := by decide +kernel
theorem dX0_letChoose_47 : decode cX0_letChoose 47 = .ok (.ldc 32, 2) := by decide +kernel
theorem dX0_letChoose_49 : decode cX0_letChoose 49 = .ok (.if_icmp .eq 110, 3) := by decide +kernel
theorem dX0_letChoose_52 : decode cX0_letChoose 52 = .ok (.iload 7, 2) := by decide +kernel
theorem dX0_letChoose_54 : decode cX0_letChoose 54 = .ok (.iload_n 3, 1) := by decide +kernel
theorem dX0_letChoose_55 : decode cX0_letChoose 55 = .ok (.invokestatic 56, 3) := by decide +kernel
theorem dX0_letChoose_58 : decode cX0_letChoose 58 = .ok (.istore 8, 2) := by decide +kernel
theorem dX0_letChoose_60 : decode cX0_letChoose 60 = .ok (.iload 6, 2) := by decide +kernel
theorem dX0_letChoose_62 : decode cX0_letChoose 62 = .ok (.iload 8, 2) := by decide +kernel
theorem dX0_letChoose_64 : decode cX0_letChoose 64 = .ok (.bipush 18, 2) := by decide +kernel
theorem dX0_letChoose_66 : decode cX0_letChoose 66 = .ok (.ishl, 1) := by decide +kernel
theorem dX0_letChoose_67 : decode cX0_letChoose 67 = .ok (.iadd, 1) := by decide +kernel
theorem dX0_letChoose_68 : decode cX0_letChoose 68 = .ok (.istore 9, 2) := by decide +kernel
theorem dX0_letChoose_70 : decode cX0_letChoose 70 = .ok (.iload 7, 2) := by decide +kernel
theorem dX0_letChoose_72 : decode cX0_letChoose 72 = .ok (.aload_n 1, 1) := by decide +kernel
theorem dX0_letChoose_73 : decode cX0_letChoose 73 = .ok (.getfield 44, 3) := by decide +kernel
theorem dX0_letChoose_76 : decode cX0_letChoose 76 = .ok (.iload_n 2, 1) := by decide +kernel
theorem dX0_letChoose_77 : decode cX0_letChoose 77 = .ok (.iaload, 1) := by decide +kernel
theorem dX0_letChoose_78 : decode cX0_letChoose 78 = .ok (.if_icmp .ne 21, 3) := by decide +kernel
theorem dX0_letChoose_81 : decode cX0_letChoose 81 = .ok (.aload_n 0, 1) := by decide +kernel
theorem dX0_letChoose_82 : decode cX0_letChoose 82 = .ok (.iload 5, 2) := by decide +kernel
theorem dX0_letChoose_84 : decode cX0_letChoose 84 = .ok (.iload 9, 2) := by decide +kernel
theorem dX0_letChoose_86 : decode cX0_letChoose 86 = .ok (.iconst 5, 1) := by decide +kernel
theorem dX0_letChoose_87 : decode cX0_letChoose 87 = .ok (.iload_n 2, 1) := by decide +kernel
theorem dX0_letChoose_88 : decode cX0_letChoose 88 = .ok (.invokestatic 19, 3) := by decide +kernel
theorem dX0_letChoose_91 : decode cX0_letChoose 91 = .ok (.ishl, 1) := by decide +kernel
theorem dX0_letChoose_92 : decode cX0_letChoose 92 = .ok (.isub, 1) := by decide +kernel
theorem dX0_letChoose_93 : decode cX0_letChoose 93 = .ok (.invokevirtual 59, 3) := by decide +kernel
theorem dX0_letChoose_96 : decode cX0_letChoose 96 = .ok (.goto 57, 3) := by decide +kernel
theorem dX0_letChoose_99 : decode cX0_letChoose 99 = .ok (.aload_n 1, 1) := by decide +kernel
theorem dX0_letChoose_100 : decode cX0_letChoose 100 = .ok (.iload_n 2, 1) := by decide +kernel
theorem dX0_letChoose_101 : decode cX0_letChoose 101 = .ok (.iload 7, 2) := by decide +kernel
theorem dX0_letChoose_103 : decode cX0_letChoose 103 = .ok (.invokevirtual 63, 3) := by decide +kernel
theorem dX0_letChoose_106 : decode cX0_letChoose 106 = .ok (.istore 10, 2) := by decide +kernel
theorem dX0_letChoose_108 : decode cX0_letChoose 108 = .ok (.aload_n 0, 1) := by decide +kernel
theorem dX0_letChoose_109 : decode cX0_letChoose 109 = .ok (.getfield 11, 3) := by decide +kernel
theorem dX0_letChoose_112 : decode cX0_letChoose 112 = .ok (.iload 5, 2) := by decide +kernel
theorem dX0_letChoose_114 : decode cX0_letChoose 114 = .ok (.iconst 5, 1) := by decide +kernel
theorem dX0_letChoose_115 : decode cX0_letChoose 115 = .ok (.imul, 1) := by decide +kernel
theorem dX0_letChoose_116 : decode cX0_letChoose 116 = .ok (.iload 10, 2) := by decide +kernel
theorem dX0_letChoose_118 : decode cX0_letChoose 118 = .ok (.iadd, 1) := by decide +kernel
theorem dX0_letChoose_119 : decode cX0_letChoose 119 = .ok (.iaload, 1) := by decide +kernel
theorem dX0_letChoose_120 : decode cX0_letChoose 120 = .ok (.aload_n 1, 1) := by decide +kernel
theorem dX0_letChoose_121 : decode cX0_letChoose 121 = .ok (.getfield 66, 3) := by decide +kernel
theorem dX0_letChoose_124 : decode cX0_letChoose 124 = .ok (.iload 10, 2) := by decide +kernel
theorem dX0_letChoose_126 : decode cX0_letChoose 126 = .ok (.iaload, 1) := by decide +kernel
theorem dX0_letChoose_127 : decode cX0_letChoose 127 = .ok (.if_icmp .ge 26, 3) := by decide +kernel
theorem dX0_letChoose_130 : decode cX0_letChoose 130 = .ok (.aload_n 0, 1) := by decide +kernel
theorem dX0_letChoose_131 : decode cX0_letChoose 131 = .ok (.iload 5, 2) := by decide +kernel
theorem dX0_letChoose_133 : decode cX0_letChoose 133 = .ok (.getstatic 23, 3) := by decide +kernel
theorem dX0_letChoose_136 : decode cX0_letChoose 136 = .ok (.iload 10, 2) := by decide +kernel
theorem dX0_letChoose_138 : decode cX0_letChoose 138 = .ok (.iaload, 1) := by decide +kernel
theorem dX0_letChoose_139 : decode cX0_letChoose 139 = .ok (.iadd, 1) := by decide +kernel
theorem dX0_letChoose_140 : decode cX0_letChoose 140 = .ok (.iload 9, 2) := by decide +kernel
theorem dX0_letChoose_142 : decode cX0_letChoose 142 = .ok (.iload 10, 2) := by decide +kernel
theorem dX0_letChoose_144 : decode cX0_letChoose 144 = .ok (.iload_n 2, 1) := by decide +kernel
theorem dX0_letChoose_145 : decode cX0_letChoose 145 = .ok (.invokestatic 19, 3) := by decide +kernel
theorem dX0_letChoose_148 : decode cX0_letChoose 148 = .ok (.ishl, 1) := by decide +kernel
theorem dX0_letChoose_149 : decode cX0_letChoose 149 = .ok (.isub, 1) := by decide +kernel
theorem dX0_letChoose_150 : decode cX0_letChoose 150 = .ok (.invokevirtual 59, 3) := by decide +kernel
theorem dX0_letChoose_153 : decode cX0_letChoose 153 = .ok (.iinc 7 1, 3) := by decide +kernel
theorem dX0_letChoose_156 : decode cX0_letChoose 156 = .ok (.goto (-118), 3) := by decide +kernel
theorem dX0_letChoose_159 : decode cX0_letChoose 159 = .ok (.iinc 5 (-1), 3) := by decide +kernel
theorem dX0_letChoose_162 : decode cX0_letChoose 162 = .ok (.goto (-150), 3) := by decide +kernel
theorem dX0_letChoose_165 : decode cX0_letChoose 165 = .ok (.return_, 1) := by decide +kernel
theorem dX0_raise_0 : decode cX0_raise 0 = .ok (.iload_n 2, 1) := by decide +kernel
theorem dX0_raise_1 : decode cX0_raise 1 = .ok (.aload_n 0, 1) := by decide +kernel
theorem dX0_raise_2 : decode cX0_raise 2 = .ok (.getfield 15, 3) := by decide +kernel
theorem dX0_raise_5 : decode cX0_raise 5 = .ok (.iload_n 1, 1) := by decide +kernel
theorem dX0_raise_6 : decode cX0_raise 6 = .ok (.iaload, 1) := by decide +kernel
theorem dX0_raise_7 : decode cX0_raise 7 = .ok (.if_icmp .le 10, 3) := by decide +kernel
theorem dX0_raise_10 : decode cX0_raise 10 = .ok (.aload_n 0, 1) := by decide +kernel
theorem dX0_raise_11 : decode cX0_raise 11 = .ok (.getfield 15, 3) := by decide +kernel
theorem dX0_raise_14 : decode cX0_raise 14 = .ok (.iload_n 1, 1) := by decide +kernel
theorem dX0_raise_15 : decode cX0_raise 15 = .ok (.iload_n 2, 1) := by decide +kernel
theorem dX0_raise_16 : decode cX0_raise 16 = .ok (.iastore, 1) := by decide +kernel
theorem dX0_raise_17 : decode cX0_raise 17 = .ok (.return_, 1) := by decide +kernel
set_option maxRecDepth 20000 in
theorem ggX1_init_X3_init : GoodIn wsX1_init wsX3_init := goodIn_r _ [12, 13, 2, 3, 14, 15, 16, 17, 18, 9, 19, 23] (by decide +kernel) (by decide +kernel)
set_option maxRecDepth 20000 in
theorem gX1_init_X3_init : GoodIn wsX1_init (wsX3_init) := ggX1_init_X3_init
theorem dX1_init_0 : decode cX1_init 0 = .ok (.aload_n 0, 1) := by decide +kernel
theorem dX1_init_1 : decode cX1_init 1 = .ok (.invokespecial 3, 3) := by decide +kernel
theorem dX1_init_4 : decode cX1_init 4 = .ok (.aload_n 0, 1) := by decide +kernel
theorem dX1_init_5 : decode cX1_init 5 = .ok (.iconst 0, 1) := by decide +kernel
theorem dX1_init_6 : decode cX1_init 6 = .ok (.putfield 9, 3) := by decide +kernel
theorem dX1_init_9 : decode cX1_init 9 = .ok (.aload_n 0, 1) := by decide +kernel
theorem dX1_init_10 : decode cX1_init 10 = .ok (.iconst 5, 1) := by decide +kernel
theorem dX1_init_11 : decode cX1_init 11 = .ok (.anewarray 15, 3) := by decide +kernel
theorem dX1_init_14 : decode cX1_init 14 = .ok (.putfield 17, 3) := by decide +kernel
theorem dX1_init_17 : decode cX1_init 17 = .ok (.aload_n 0, 1) := by decide +kernel
theorem dX1_init_18 : decode cX1_init 18 = .ok (.iconst 5, 1) := by decide +kernel
theorem dX1_init_19 : decode cX1_init 19 = .ok (.anewarray 15, 3) := by decide +kernel
theorem dX1_init_22 : decode cX1_init 22 = .ok (.putfield 21, 3) := by decide +kernel
theorem dX1_init_25 : decode cX1_init 25 = .ok (.iconst 0, 1) := by decide +kernel
theorem dX1_init_26 : decode cX1_init 26 = .ok (.istore_n 1, 1) := by decide +kernel
theorem dX1_init_27 : decode cX1_init 27 = .ok (.iload_n 1, 1) := by decide +kernel
theorem dX1_init_28 : decode cX1_init 28 = .ok (.iconst 5, 1) := by decide +kernel
theorem dX1_init_29 : decode cX1_init 29 = .ok (.if_icmp .ge 35, 3) := by decide +kernel
theorem dX1_init_32 : decode cX1_init 32 = .ok (.aload_n 0, 1) := by decide +kernel
theorem dX1_init_33 : decode cX1_init 33 = .ok (.getfield 17, 3) := by decide +kernel
theorem dX1_init_36 : decode cX1_init 36 = .ok (.iload_n 1, 1) := by decide +kernel
theorem dX1_init_37 : decode cX1_init 37 = .ok (.new 15, 3) := by decide +kernel
theorem dX1_init_40 : decode cX1_init 40 = .ok (.dup, 1) := by decide +kernel
theorem dX1_init_41 : decode cX1_init 41 = .ok (.invokespecial 24, 3) := by decide +kernel
theorem dX1_init_44 : decode cX1_init 44 = .ok (.aastore, 1) := by decide +kernel
theorem dX1_init_45 : decode cX1_init 45 = .ok (.aload_n 0, 1) := by decide +kernel
theorem dX1_init_46 : decode cX1_init 46 = .ok (.getfield 21, 3) := by decide +kernel
theorem dX1_init_49 : decode cX1_init 49 = .ok (.iload_n 1, 1) := by decide +kernel
theorem dX1_init_50 : decode cX1_init 50 = .ok (.new 15, 3) := by decide +kernel
theorem dX1_init_53 : decode cX1_init 53 = .ok (.dup, 1) := by decide +kernel
theorem dX1_init_54 : decode cX1_init 54 = .ok (.invokespecial 24, 3) := by decide +kernel
theorem dX1_init_57 : decode cX1_init 57 = .ok (.aastore, 1) := by decide +kernel
theorem dX1_init_58 : decode cX1_init 58 = .ok (.iinc 1 1, 3) := by decide +kernel
theorem dX1_init_61 : decode cX1_init 61 = .ok (.goto (-34), 3) := by decide +kernel
theorem dX1_init_64 : decode cX1_init 64 = .ok (.return_, 1) := by decide +kernel
theorem dX1_forget_0 : decode cX1_forget 0 = .ok (.aload_n 0, 1) := by decide +kernel
theorem dX1_forget_1 : decode cX1_forget 1 = .ok (.iconst 0, 1) := by decide +kernel
theorem dX1_forget_2 : decode cX1_forget 2 = .ok (.putfield 9, 3) := by decide +kernel
theorem dX1_forget_5 : decode cX1_forget 5 = .ok (.return_, 1) := by decide +kernel
set_option maxRecDepth 20000 in
theorem ggX1_remember_X1_dropOldest : GoodIn wsX1_remember wsX1_dropOldest := goodIn_r _ [8, 2, 3, 1, 9, 10, 11, 12, 13, 14, 15, 16, 17, 18] (by decide +kernel) (by decide +kernel)
set_option maxRecDepth 20000 in
theorem gX1_remember_X1_dropOldest : GoodIn wsX1_remember (wsV RX1 25 RX1 yX1_dropOldest wsX1_dropOldest) := goodIn_app (goodIn_of _ (by decide +kernel)) ggX1_remember_X1_dropOldest
set_option maxRecDepth 20000 in
theorem ggX1_remember_X3_copyFrom : GoodIn wsX1_remember wsX3_copyFrom := goodIn_r _ [13, 14, 18] (by decide +kernel) (by decide +kernel)
set_option maxRecDepth 20000 in
theorem gX1_remember_X3_copyFrom : GoodIn wsX1_remember (wsV RX1 28 RX3 yX3_copyFrom wsX3_copyFrom) := goodIn_app (goodIn_of _ (by decide +kernel)) ggX1_remember_X3_copyFrom
theorem dX1_remember_0 : decode cX1_remember 0 = .ok (.aload_n 0, 1) := by decide +kernel
theorem dX1_remember_1 : decode cX1_remember 1 = .ok (.getfield 9, 3) := by decide +kernel
theorem dX1_remember_4 : decode cX1_remember 4 = .ok (.iconst 5, 1) := by decide +kernel
theorem dX1_remember_5 : decode cX1_remember 5 = .ok (.if_icmp .ne 7, 3) := by decide +kernel
theorem dX1_remember_8 : decode cX1_remember 8 = .ok (.aload_n 0, 1) := by decide +kernel
theorem dX1_remember_9 : decode cX1_remember 9 = .ok (.invokevirtual 25, 3) := by decide +kernel
theorem dX1_remember_12 : decode cX1_remember 12 = .ok (.aload_n 0, 1) := by decide +kernel
theorem dX1_remember_13 : decode cX1_remember 13 = .ok (.getfield 17, 3) := by decide +kernel
theorem dX1_remember_16 : decode cX1_remember 16 = .ok (.aload_n 0, 1) := by decide +kernel
theorem dX1_remember_17 : decode cX1_remember 17 = .ok (.getfield 9, 3) := by decide +kernel
theorem dX1_remember_20 : decode cX1_remember 20 = .ok (.aaload, 1) := by decide +kernel
theorem dX1_remember_21 : decode cX1_remember 21 = .ok (.aload_n 1, 1) := by decide +kernel
theorem dX1_remember_22 : decode cX1_remember 22 = .ok (.invokevirtual 28, 3) := by decide +kernel
theorem dX1_remember_25 : decode cX1_remember 25 = .ok (.aload_n 0, 1) := by decide +kernel
theorem dX1_remember_26 : decode cX1_remember 26 = .ok (.getfield 21, 3) := by decide +kernel
theorem dX1_remember_29 : decode cX1_remember 29 = .ok (.aload_n 0, 1) := by decide +kernel
theorem dX1_remember_30 : decode cX1_remember 30 = .ok (.getfield 9, 3) := by decide +kernel
theorem dX1_remember_33 : decode cX1_remember 33 = .ok (.aaload, 1) := by decide +kernel
theorem dX1_remember_34 : decode cX1_remember 34 = .ok (.aload_n 2, 1) := by decide +kernel
theorem dX1_remember_35 : decode cX1_remember 35 = .ok (.invokevirtual 28, 3) := by decide +kernel
theorem dX1_remember_38 : decode cX1_remember 38 = .ok (.aload_n 0, 1) := by decide +kernel
theorem dX1_remember_39 : decode cX1_remember 39 = .ok (.dup, 1) := by decide +kernel
theorem dX1_remember_40 : decode cX1_remember 40 = .ok (.getfield 9, 3) := by decide +kernel
theorem dX1_remember_43 : decode cX1_remember 43 = .ok (.iconst 1, 1) := by decide +kernel
theorem dX1_remember_44 : decode cX1_remember 44 = .ok (.iadd, 1) := by decide +kernel
theorem dX1_remember_45 : decode cX1_remember 45 = .ok (.putfield 9, 3) := by decide +kernel
theorem dX1_remember_48 : decode cX1_remember 48 = .ok (.return_, 1) := by decide +kernel
set_option maxRecDepth 20000 in
theorem ggX1_restore_X3_copyFrom : GoodIn wsX1_restore wsX3_copyFrom := goodIn_r _ [8, 9, 13] (by decide +kernel) (by decide +kernel)
set_option maxRecDepth 20000 in
theorem gX1_restore_X3_copyFrom : GoodIn wsX1_restore (wsV RX1 28 RX3 yX3_copyFrom wsX3_copyFrom) := goodIn_app (goodIn_of _ (by decide +kernel)) ggX1_restore_X3_copyFrom
theorem dX1_restore_0 : decode cX1_restore 0 = .ok (.aload_n 0, 1) := by decide +kernel
theorem dX1_restore_1 : decode cX1_restore 1 = .ok (.getfield 9, 3) := by decide +kernel
theorem dX1_restore_4 : decode cX1_restore 4 = .ok (.ifCond .le 39, 3) := by decide +kernel
theorem dX1_restore_7 : decode cX1_restore 7 = .ok (.aload_n 0, 1) := by decide +kernel
theorem dX1_restore_8 : decode cX1_restore 8 = .ok (.dup, 1) := by decide +kernel
theorem dX1_restore_9 : decode cX1_restore 9 = .ok (.getfield 9, 3) := by decide +kernel
theorem dX1_restore_12 : decode cX1_restore 12 = .ok (.iconst 1, 1) := by decide +kernel
theorem dX1_restore_13 : decode cX1_restore 13 = .ok (.isub, 1) := by decide +kernel
theorem dX1_restore_14 : decode cX1_restore 14 = .ok (.putfield 9, 3) := by decide +kernel
theorem dX1_restore_17 : decode cX1_restore 17 = .ok (.aload_n 1, 1) := by decide +kernel
theorem dX1_restore_18 : decode cX1_restore 18 = .ok (.aload_n 0, 1) := by decide +kernel
theorem dX1_restore_19 : decode cX1_restore 19 = .ok (.getfield 17, 3) := by decide +kernel
theorem dX1_restore_22 : decode cX1_restore 22 = .ok (.aload_n 0, 1) := by decide +kernel
theorem dX1_restore_23 : decode cX1_restore 23 = .ok (.getfield 9, 3) := by decide +kernel
theorem dX1_restore_26 : decode cX1_restore 26 = .ok (.aaload, 1) := by decide +kernel
theorem dX1_restore_27 : decode cX1_restore 27 = .ok (.invokevirtual 28, 3) := by decide +kernel
theorem dX1_restore_30 : decode cX1_restore 30 = .ok (.aload_n 2, 1) := by decide +kernel
theorem dX1_restore_31 : decode cX1_restore 31 = .ok (.aload_n 0, 1) := by decide +kernel
theorem dX1_restore_32 : decode cX1_restore 32 = .ok (.getfield 21, 3) := by decide +kernel
theorem dX1_restore_35 : decode cX1_restore 35 = .ok (.aload_n 0, 1) := by decide +kernel
theorem dX1_restore_36 : decode cX1_restore 36 = .ok (.getfield 9, 3) := by decide +kernel
theorem dX1_restore_39 : decode cX1_restore 39 = .ok (.aaload, 1) := by decide +kernel
theorem dX1_restore_40 : decode cX1_restore 40 = .ok (.invokevirtual 28, 3) := by decide +kernel
theorem dX1_restore_43 : decode cX1_restore 43 = .ok (.return_, 1) := by decide +kernel
set_option maxRecDepth 20000 in
theorem ggX1_dropOldest_X3_copyFrom : GoodIn wsX1_dropOldest wsX3_copyFrom := goodIn_r _ [8, 9, 13] (by decide +kernel) (by decide +kernel)
set_option maxRecDepth 20000 in
theorem gX1_dropOldest_X3_copyFrom : GoodIn wsX1_dropOldest (wsV RX1 28 RX3 yX3_copyFrom wsX3_copyFrom) := goodIn_app (goodIn_of _ (by decide +kernel)) ggX1_dropOldest_X3_copyFrom
theorem dX1_dropOldest_0 : decode cX1_dropOldest 0 = .ok (.iconst 1, 1) := by decide +kernel
theorem dX1_dropOldest_1 : decode cX1_dropOldest 1 = .ok (.istore_n 1, 1) := by decide +kernel
theorem dX1_dropOldest_2 : decode cX1_dropOldest 2 = .ok (.iload_n 1, 1) := by decide +kernel
theorem dX1_dropOldest_3 : decode cX1_dropOldest 3 = .ok (.iconst 5, 1) := by decide +kernel
theorem dX1_dropOldest_4 : decode cX1_dropOldest 4 = .ok (.if_icmp .ge 43, 3) := by decide +kernel
theorem dX1_dropOldest_7 : decode cX1_dropOldest 7 = .ok (.aload_n 0, 1) := by decide +kernel
theorem dX1_dropOldest_8 : decode cX1_dropOldest 8 = .ok (.getfield 17, 3) := by decide +kernel
theorem dX1_dropOldest_11 : decode cX1_dropOldest 11 = .ok (.iload_n 1, 1) := by decide +kernel
theorem dX1_dropOldest_12 : decode cX1_dropOldest 12 = .ok (.iconst 1, 1) := by decide +kernel
theorem dX1_dropOldest_13 : decode cX1_dropOldest 13 = .ok (.isub, 1) := by decide +kernel
theorem dX1_dropOldest_14 : decode cX1_dropOldest 14 = .ok (.aaload, 1) := by decide +kernel
theorem dX1_dropOldest_15 : decode cX1_dropOldest 15 = .ok (.aload_n 0, 1) := by decide +kernel
theorem dX1_dropOldest_16 : decode cX1_dropOldest 16 = .ok (.getfield 17, 3) := by decide +kernel
theorem dX1_dropOldest_19 : decode cX1_dropOldest 19 = .ok (.iload_n 1, 1) := by decide +kernel
theorem dX1_dropOldest_20 : decode cX1_dropOldest 20 = .ok (.aaload, 1) := by decide +kernel
theorem dX1_dropOldest_21 : decode cX1_dropOldest 21 = .ok (.invokevirtual 28, 3) := by decide +kernel
theorem dX1_dropOldest_24 : decode cX1_dropOldest 24 = .ok (.aload_n 0, 1) := by decide +kernel
theorem dX1_dropOldest_25 : decode cX1_dropOldest 25 = .ok (.getfield 21, 3) := by decide +kernel
theorem dX1_dropOldest_28 : decode cX1_dropOldest 28 = .ok (.iload_n 1, 1) := by decide +kernel
theorem dX1_dropOldest_29 : decode cX1_dropOldest 29 = .ok (.iconst 1, 1) := by decide +kernel
theorem dX1_dropOldest_30 : decode cX1_dropOldest 30 = .ok (.isub, 1) := by decide +kernel
theorem dX1_dropOldest_31 : decode cX1_dropOldest 31 = .ok (.aaload, 1) := by decide +kernel
theorem dX1_dropOldest_32 : decode cX1_dropOldest 32 = .ok (.aload_n 0, 1) := by decide +kernel
theorem dX1_dropOldest_33 : decode cX1_dropOldest 33 = .ok (.getfield 21, 3) := by decide +kernel
theorem dX1_dropOldest_36 : decode cX1_dropOldest 36 = .ok (.iload_n 1, 1) := by decide +kernel
theorem dX1_dropOldest_37 : decode cX1_dropOldest 37 = .ok (.aaload, 1) := by decide +kernel
theorem dX1_dropOldest_38 : decode cX1_dropOldest 38 = .ok (.invokevirtual 28, 3) := by decide +kernel
theorem dX1_dropOldest_41 : decode cX1_dropOldest 41 = .ok (.iinc 1 1, 3) := by decide +kernel
theorem dX1_dropOldest_44 : decode cX1_dropOldest 44 = .ok (.goto (-42), 3) := by decide +kernel
theorem dX1_dropOldest_47 : decode cX1_dropOldest 47 = .ok (.aload_n 0, 1) := by decide +kernel
theorem dX1_dropOldest_48 : decode cX1_dropOldest 48 = .ok (.iconst 4, 1) := by decide +kernel
theorem dX1_dropOldest_49 : decode cX1_dropOldest 49 = .ok (.putfield 9, 3) := by decide +kernel
theorem dX1_dropOldest_52 : decode cX1_dropOldest 52 = .ok (.return_, 1) := by decide +kernel
set_option maxRecDepth 20000 in
theorem ggX2_init_X2_startAnew : GoodIn wsX2_init wsX2_startAnew := goodIn_r _ [12, 13, 14, 5, 6, 15, 16, 17, 18, 19] (by decide +kernel) (by decide +kernel)
set_option maxRecDepth 20000 in
theorem gX2_init_X2_startAnew : GoodIn wsX2_init (wsV RX2 21 RX2 yX2_startAnew wsX2_startAnew) := goodIn_app (goodIn_of _ (by decide +kernel)) ggX2_init_X2_startAnew
theorem dX2_init_0 : decode cX2_init 0 = .ok (.aload_n 0, 1) := by decide +kernel
theorem dX2_init_1 : decode cX2_init 1 = .ok (.invokespecial 3, 3) := by decide +kernel
theorem dX2_init_4 : decode cX2_init 4 = .ok (.aload_n 0, 1) := by decide +kernel
theorem dX2_init_5 : decode cX2_init 5 = .ok (.iconst 5, 1) := by decide +kernel
theorem dX2_init_6 : decode cX2_init 6 = .ok (.newarray .int, 2) := by decide +kernel
theorem dX2_init_8 : decode cX2_init 8 = .ok (.putfield 9, 3) := by decide +kernel
theorem dX2_init_11 : decode cX2_init 11 = .ok (.aload_n 0, 1) := by decide +kernel
theorem dX2_init_12 : decode cX2_init 12 = .ok (.bipush 6, 2) := by decide +kernel
theorem dX2_init_14 : decode cX2_init 14 = .ok (.newarray .int, 2) := by decide +kernel
theorem dX2_init_16 : decode cX2_init 16 = .ok (.putfield 15, 3) := by decide +kernel
theorem dX2_init_19 : decode cX2_init 19 = .ok (.aload_n 0, 1) := by decide +kernel
theorem dX2_init_20 : decode cX2_init 20 = .ok (.bipush 30, 2) := by decide +kernel
theorem dX2_init_22 : decode cX2_init 22 = .ok (.newarray .int, 2) := by decide +kernel
theorem dX2_init_24 : decode cX2_init 24 = .ok (.putfield 18, 3) := by decide +kernel
theorem dX2_init_27 : decode cX2_init 27 = .ok (.aload_n 0, 1) := by decide +kernel
theorem dX2_init_28 : decode cX2_init 28 = .ok (.iconst 4, 1) := by decide +kernel
theorem dX2_init_29 : decode cX2_init 29 = .ok (.iconst 3, 1) := by decide +kernel
theorem dX2_init_30 : decode cX2_init 30 = .ok (.invokevirtual 21, 3) := by decide +kernel
theorem dX2_init_33 : decode cX2_init 33 = .ok (.return_, 1) := by decide +kernel
theorem dX2_startAnew_0 : decode cX2_startAnew 0 = .ok (.aload_n 0, 1) := by decide +kernel
theorem dX2_startAnew_1 : decode cX2_startAnew 1 = .ok (.iload_n 1, 1) := by decide +kernel
theorem dX2_startAnew_2 : decode cX2_startAnew 2 = .ok (.putfield 25, 3) := by decide +kernel
theorem dX2_startAnew_5 : decode cX2_startAnew 5 = .ok (.aload_n 0, 1) := by decide +kernel
theorem dX2_startAnew_6 : decode cX2_startAnew 6 = .ok (.iload_n 2, 1) := by decide +kernel
theorem dX2_startAnew_7 : decode cX2_startAnew 7 = .ok (.putfield 29, 3) := by decide +kernel
theorem dX2_startAnew_10 : decode cX2_startAnew 10 = .ok (.iconst 0, 1) := by decide +kernel
theorem dX2_startAnew_11 : decode cX2_startAnew 11 = .ok (.istore_n 3, 1) := by decide +kernel
theorem dX2_startAnew_12 : decode cX2_startAnew 12 = .ok (.iload_n 3, 1) := by decide +kernel
theorem dX2_startAnew_13 : decode cX2_startAnew 13 = .ok (.iconst 5, 1) := by decide +kernel
theorem dX2_startAnew_14 : decode cX2_startAnew 14 = .ok (.if_icmp .ge 16, 3) := by decide +kernel
theorem dX2_startAnew_17 : decode cX2_startAnew 17 = .ok (.aload_n 0, 1) := by decide +kernel
theorem dX2_startAnew_18 : decode cX2_startAnew 18 = .ok (.getfield 9, 3) := by decide +kernel
theorem dX2_startAnew_21 : decode cX2_startAnew 21 = .ok (.iload_n 3, 1) := by decide +kernel
theorem dX2_startAnew_22 : decode cX2_startAnew 22 = .ok (.iconst 1, 1) := by decide +kernel
theorem dX2_startAnew_23 : decode cX2_startAnew 23 = .ok (.iastore, 1) := by decide +kernel
theorem dX2_startAnew_24 : decode cX2_startAnew 24 = .ok (.iinc 3 1, 3) := by decide +kernel
theorem dX2_startAnew_27 : decode cX2_startAnew 27 = .ok (.goto (-15), 3) := by decide +kernel
theorem dX2_startAnew_30 : decode cX2_startAnew 30 = .ok (.iconst 0, 1) := by decide +kernel
theorem dX2_startAnew_31 : decode cX2_startAnew 31 = .ok (.istore_n 3, 1) := by decide +kernel
theorem dX2_startAnew_32 : decode cX2_startAnew 32 = .ok (.iload_n 3, 1) := by decide +kernel
theorem dX2_startAnew_33 : decode cX2_startAnew 33 = .ok (.bipush 6, 2) := by decide +kernel
theorem dX2_startAnew_35 : decode cX2_startAnew 35 = .ok (.if_icmp .ge 16, 3) := by decide +kernel
theorem dX2_startAnew_38 : decode cX2_startAnew 38 = .ok (.aload_n 0, 1) := by decide +kernel
theorem dX2_startAnew_39 : decode cX2_startAnew 39 = .ok (.getfield 15, 3) := by decide +kernel
theorem dX2_startAnew_42 : decode cX2_startAnew 42 = .ok (.iload_n 3, 1) := by decide +kernel
theorem dX2_startAnew_43 : decode cX2_startAnew 43 = .ok (.iconst 0, 1) := by decide +kernel
theorem dX2_startAnew_44 : decode cX2_startAnew 44 = .ok (.iastore, 1) := by decide +kernel
theorem dX2_startAnew_45 : decode cX2_startAnew 45 = .ok (.iinc 3 1, 3) := by decide +kernel
theorem dX2_startAnew_48 : decode cX2_startAnew 48 = .ok (.goto (-16), 3) := by decide +kernel
theorem dX2_startAnew_51 : decode cX2_startAnew 51 = .ok (.return_, 1) := by decide +kernel
theorem dX2_isApplicant_0 : decode cX2_isApplicant 0 = .ok (.iload_n 1, 1) := by decide +kernel
theorem dX2_isApplicant_1 : decode cX2_isApplicant 1 = .ok (.ifCond .lt 15, 3) := by decide +kernel
theorem dX2_isApplicant_4 : decode cX2_isApplicant 4 = .ok (.iload_n 1, 1) := by decide +kernel
theorem dX2_isApplicant_5 : decode cX2_isApplicant 5 = .ok (.aload_n 0, 1) := by decide +kernel
theorem dX2_isApplicant_6 : decode cX2_isApplicant 6 = .ok (.getfield 25, 3) := by decide +kernel
theorem dX2_isApplicant_9 : decode cX2_isApplicant 9 = .ok (.if_icmp .ge 7, 3) := by decide +kernel
theorem dX2_isApplicant_12 : decode cX2_isApplicant 12 = .ok (.iconst 1, 1) := by decide +kernel
theorem dX2_isApplicant_13 : decode cX2_isApplicant 13 = .ok (.goto 4, 3) := by decide +kernel
theorem dX2_isApplicant_16 : decode cX2_isApplicant 16 = .ok (.iconst 0, 1) := by decide +kernel
theorem dX2_isApplicant_17 : decode cX2_isApplicant 17 = .ok (.ireturn, 1) := by decide +kernel
theorem dX2_isPost_0 : decode cX2_isPost 0 = .ok (.iload_n 1, 1) := by decide +kernel
theorem dX2_isPost_1 : decode cX2_isPost 1 = .ok (.ifCond .lt 15, 3) := by decide +kernel
theorem dX2_isPost_4 : decode cX2_isPost 4 = .ok (.iload_n 1, 1) := by decide +kernel
theorem dX2_isPost_5 : decode cX2_isPost 5 = .ok (.aload_n 0, 1) := by decide +kernel
theorem dX2_isPost_6 : decode cX2_isPost 6 = .ok (.getfield 29, 3) := by decide +kernel
theorem dX2_isPost_9 : decode cX2_isPost 9 = .ok (.if_icmp .ge 7, 3) := by decide +kernel
theorem dX2_isPost_12 : decode cX2_isPost 12 = .ok (.iconst 1, 1) := by decide +kernel
theorem dX2_isPost_13 : decode cX2_isPost 13 = .ok (.goto 4, 3) := by decide +kernel
theorem dX2_isPost_16 : decode cX2_isPost 16 = .ok (.iconst 0, 1) := by decide +kernel
theorem dX2_isPost_17 : decode cX2_isPost 17 = .ok (.ireturn, 1) := by decide +kernel
theorem dX2_listed_0 : decode cX2_listed 0 = .ok (.aload_n 0, 1) := by decide +kernel
theorem dX2_listed_1 : decode cX2_listed 1 = .ok (.getfield 18, 3) := by decide +kernel
theorem dX2_listed_4 : decode cX2_listed 4 = .ok (.iload_n 1, 1) := by decide +kernel
theorem dX2_listed_5 : decode cX2_listed 5 = .ok (.iconst 5, 1) := by decide +kernel
theorem dX2_listed_6 : decode cX2_listed 6 = .ok (.imul, 1) := by decide +kernel
theorem dX2_listed_7 : decode cX2_listed 7 = .ok (.iload_n 2, 1) := by decide +kernel
theorem dX2_listed_8 : decode cX2_listed 8 = .ok (.iadd, 1) := by decide +kernel
theorem dX2_listed_9 : decode cX2_listed 9 = .ok (.iaload, 1) := by decide +kernel
theorem dX2_listed_10 : decode cX2_listed 10 = .ok (.ireturn, 1) := by decide +kernel
set_option maxRecDepth 20000 in
theorem ggX2_isListed_X2_rankOf : GoodIn wsX2_isListed wsX2_rankOf := goodIn_r _ [6, 1, 7, 8, 9, 5, 10, 11, 12, 13, 14, 15, 16] (by decide +kernel) (by decide +kernel)
set_option maxRecDepth 20000 in
theorem gX2_isListed_X2_rankOf : GoodIn wsX2_isListed (wsV RX2 32 RX2 yX2_rankOf wsX2_rankOf) := goodIn_app (goodIn_of _ (by decide +kernel)) ggX2_isListed_X2_rankOf
theorem dX2_isListed_0 : decode cX2_isListed 0 = .ok (.aload_n 0, 1) := by decide +kernel
theorem dX2_isListed_1 : decode cX2_isListed 1 = .ok (.iload_n 1, 1) := by decide +kernel
theorem dX2_isListed_2 : decode cX2_isListed 2 = .ok (.iload_n 2, 1) := by decide +kernel
theorem dX2_isListed_3 : decode cX2_isListed 3 = .ok (.invokevirtual 32, 3) := by decide +kernel
theorem dX2_isListed_6 : decode cX2_isListed 6 = .ok (.aload_n 0, 1) := by decide +kernel
theorem dX2_isListed_7 : decode cX2_isListed 7 = .ok (.getfield 15, 3) := by decide +kernel
theorem dX2_isListed_10 : decode cX2_isListed 10 = .ok (.iload_n 1, 1) := by decide +kernel
theorem dX2_isListed_11 : decode cX2_isListed 11 = .ok (.iaload, 1) := by decide +kernel
theorem dX2_isListed_12 : decode cX2_isListed 12 = .ok (.if_icmp .ge 7, 3) := by decide +kernel
theorem dX2_isListed_15 : decode cX2_isListed 15 = .ok (.iconst 1, 1) := by decide +kernel
theorem dX2_isListed_16 : decode cX2_isListed 16 = .ok (.goto 4, 3) := by decide +kernel
theorem dX2_isListed_19 : decode cX2_isListed 19 = .ok (.iconst 0, 1) := by decide +kernel
theorem dX2_isListed_20 : decode cX2_isListed 20 = .ok (.ireturn, 1) := by decide +kernel
theorem dX2_append_0 : decode cX2_append 0 = .ok (.aload_n 0, 1) := by decide +kernel
theorem dX2_append_1 : decode cX2_append 1 = .ok (.getfield 18, 3) := by decide +kernel
theorem dX2_append_4 : decode cX2_append 4 = .ok (.iload_n 1, 1) := by decide +kernel
theorem dX2_append_5 : decode cX2_append 5 = .ok (.iconst 5, 1) := by decide +kernel
theorem dX2_append_6 : decode cX2_append 6 = .ok (.imul, 1) := by decide +kernel
theorem dX2_append_7 : decode cX2_append 7 = .ok (.aload_n 0, 1) := by decide +kernel
theorem dX2_append_8 : decode cX2_append 8 = .ok (.getfield 15, 3) := by decide +kernel
theorem dX2_append_11 : decode cX2_append 11 = .ok (.iload_n 1, 1) := by decide +kernel
theorem dX2_append_12 : decode cX2_append 12 = .ok (.iaload, 1) := by decide +kernel
theorem dX2_append_13 : decode cX2_append 13 = .ok (.iadd, 1) := by decide +kernel
theorem dX2_append_14 : decode cX2_append 14 = .ok (.iload_n 2, 1) := by decide +kernel
theorem dX2_append_15 : decode cX2_append 15 = .ok (.iastore, 1) := by decide +kernel
theorem dX2_append_16 : decode cX2_append 16 = .ok (.aload_n 0, 1) := by decide +kernel
theorem dX2_append_17 : decode cX2_append 17 = .ok (.getfield 15, 3) := by decide +kernel
theorem dX2_append_20 : decode cX2_append 20 = .ok (.iload_n 1, 1) := by decide +kernel
theorem dX2_append_21 : decode cX2_append 21 = .ok (.dup2, 1) := by decide +kernel
theorem dX2_append_22 : decode cX2_append 22 = .ok (.iaload, 1) := by decide +kernel
theorem dX2_append_23 : decode cX2_append 23 = .ok (.iconst 1, 1) := by decide +kernel
theorem dX2_append_24 : decode cX2_append 24 = .ok (.iadd, 1) := by decide +kernel
theorem dX2_append_25 : decode cX2_append 25 = .ok (.iastore, 1) := by decide +kernel
theorem dX2_append_26 : decode cX2_append 26 = .ok (.aload_n 0, 1) := by decide +kernel
theorem dX2_append_27 : decode cX2_append 27 = .ok (.getfield 15, 3) := by decide +kernel
theorem dX2_append_30 : decode cX2_append 30 = .ok (.iload_n 1, 1) := by decide +kernel
theorem dX2_append_31 : decode cX2_append 31 = .ok (.iaload, 1) := by decide +kernel
theorem dX2_append_32 : decode cX2_append 32 = .ok (.ireturn, 1) := by decide +kernel
set_option maxRecDepth 20000 in
theorem ggX2_rankOf_X2_listed : GoodIn wsX2_rankOf wsX2_listed := goodIn_r _ [6, 7, 8, 9, 10, 11, 12] (by decide +kernel) (by decide +kernel)
set_option maxRecDepth 20000 in
theorem gX2_rankOf_X2_listed : GoodIn wsX2_rankOf (wsV RX2 36 RX2 yX2_listed wsX2_listed) := goodIn_app (goodIn_of _ (by decide +kernel)) ggX2_rankOf_X2_listed
theorem dX2_rankOf_0 : decode cX2_rankOf 0 = .ok (.iconst 0, 1) := by decide +kernel
theorem dX2_rankOf_1 : decode cX2_rankOf 1 = .ok (.istore_n 3, 1) := by decide +kernel
theorem dX2_rankOf_2 : decode cX2_rankOf 2 = .ok (.iload_n 3, 1) := by decide +kernel
theorem dX2_rankOf_3 : decode cX2_rankOf 3 = .ok (.aload_n 0, 1) := by decide +kernel
theorem dX2_rankOf_4 : decode cX2_rankOf 4 = .ok (.getfield 15, 3) := by decide +kernel
theorem dX2_rankOf_7 : decode cX2_rankOf 7 = .ok (.iload_n 1, 1) := by decide +kernel
theorem dX2_rankOf_8 : decode cX2_rankOf 8 = .ok (.iaload, 1) := by decide +kernel
theorem dX2_rankOf_9 : decode cX2_rankOf 9 = .ok (.if_icmp .ge 21, 3) := by decide +kernel
theorem dX2_rankOf_12 : decode cX2_rankOf 12 = .ok (.aload_n 0, 1) := by decide +kernel
theorem dX2_rankOf_13 : decode cX2_rankOf 13 = .ok (.iload_n 1, 1) := by decide +kernel
theorem dX2_rankOf_14 : decode cX2_rankOf 14 = .ok (.iload_n 3, 1) := by decide +kernel
theorem dX2_rankOf_15 : decode cX2_rankOf 15 = .ok (.invokevirtual 36, 3) := by decide +kernel
theorem dX2_rankOf_18 : decode cX2_rankOf 18 = .ok (.iload_n 2, 1) := by decide +kernel
theorem dX2_rankOf_19 : decode cX2_rankOf 19 = .ok (.if_icmp .ne 5, 3) := by decide +kernel
theorem dX2_rankOf_22 : decode cX2_rankOf 22 = .ok (.iload_n 3, 1) := by decide +kernel
theorem dX2_rankOf_23 : decode cX2_rankOf 23 = .ok (.ireturn, 1) := by decide +kernel
theorem dX2_rankOf_24 : decode cX2_rankOf 24 = .ok (.iinc 3 1, 3) := by decide +kernel
theorem dX2_rankOf_27 : decode cX2_rankOf 27 = .ok (.goto (-25), 3) := by decide +kernel
theorem dX2_rankOf_30 : decode cX2_rankOf 30 = .ok (.aload_n 0, 1) := by decide +kernel
theorem dX2_rankOf_31 : decode cX2_rankOf 31 = .ok (.getfield 15, 3) := by decide +kernel
theorem dX2_rankOf_34 : decode cX2_rankOf 34 = .ok (.iload_n 1, 1) := by decide +kernel
theorem dX2_rankOf_35 : decode cX2_rankOf 35 = .ok (.iaload, 1) := by decide +kernel
theorem dX2_rankOf_36 : decode cX2_rankOf 36 = .ok (.ireturn, 1) := by decide +kernel
theorem dX2_vote_0 : decode cX2_vote 0 = .ok (.iload_n 0, 1) := by decide +kernel
theorem dX2_vote_1 : decode cX2_vote 1 = .ok (.iload_n 1, 1) := by decide +kernel
theorem dX2_vote_2 : decode cX2_vote 2 = .ok (.if_icmp .ne 5, 3) := by decide +kernel
theorem dX2_vote_5 : decode cX2_vote 5 = .ok (.iconst 0, 1) := by decide +kernel
theorem dX2_vote_6 : decode cX2_vote 6 = .ok (.ireturn, 1) := by decide +kernel
theorem dX2_vote_7 : decode cX2_vote 7 = .ok (.iload_n 0, 1) := by decide +kernel
theorem dX2_vote_8 : decode cX2_vote 8 = .ok (.iload_n 1, 1) := by decide +kernel
theorem dX2_vote_9 : decode cX2_vote 9 = .ok (.if_icmp .ge 7, 3) := by decide +kernel
theorem dX2_vote_12 : decode cX2_vote 12 = .ok (.iconst 1, 1) := by decide +kernel
theorem dX2_vote_13 : decode cX2_vote 13 = .ok (.goto 4, 3) := by decide +kernel
theorem dX2_vote_16 : decode cX2_vote 16 = .ok (.iconst (-1), 1) := by decide +kernel
theorem dX2_vote_17 : decode cX2_vote 17 = .ok (.ireturn, 1) := by decide +kernel
set_option maxRecDepth 20000 in
theorem ggX2_firstOf_X2_listed : GoodIn wsX2_firstOf wsX2_listed := goodIn_r _ [6, 7, 8, 9, 10, 11, 12] (by decide +kernel) (by decide +kernel)
set_option maxRecDepth 20000 in
theorem gX2_firstOf_X2_listed : GoodIn wsX2_firstOf (wsV RX2 36 RX2 yX2_listed wsX2_listed) := goodIn_app (goodIn_of _ (by decide +kernel)) ggX2_firstOf_X2_listed
theorem dX2_firstOf_0 : decode cX2_firstOf 0 = .ok (.aload_n 0, 1) := by decide +kernel
theorem dX2_firstOf_1 : decode cX2_firstOf 1 = .ok (.getfield 15, 3) := by decide +kernel
theorem dX2_firstOf_4 : decode cX2_firstOf 4 = .ok (.iload_n 1, 1) := by decide +kernel
theorem dX2_firstOf_5 : decode cX2_firstOf 5 = .ok (.iaload, 1) := by decide +kernel
theorem dX2_firstOf_6 : decode cX2_firstOf 6 = .ok (.ifCond .ne 7, 3) := by decide +kernel
theorem dX2_firstOf_9 : decode cX2_firstOf 9 = .ok (.iconst (-1), 1) := by decide +kernel
theorem dX2_firstOf_10 : decode cX2_firstOf 10 = .ok (.goto 9, 3) := by decide +kernel
theorem dX2_firstOf_13 : decode cX2_firstOf 13 = .ok (.aload_n 0, 1) := by decide +kernel
theorem dX2_firstOf_14 : decode cX2_firstOf 14 = .ok (.iload_n 1, 1) := by decide +kernel
theorem dX2_firstOf_15 : decode cX2_firstOf 15 = .ok (.iconst 0, 1) := by decide +kernel
theorem dX2_firstOf_16 : decode cX2_firstOf 16 = .ok (.invokevirtual 36, 3) := by decide +kernel
theorem dX2_firstOf_19 : decode cX2_firstOf 19 = .ok (.ireturn, 1) := by decide +kernel
set_option maxRecDepth 20000 in
theorem ggX2_secondOf_X2_listed : GoodIn wsX2_secondOf wsX2_listed := goodIn_r _ [7, 8, 18, 19, 20, 21, 22] (by decide +kernel) (by decide +kernel)
set_option maxRecDepth 20000 in
theorem gX2_secondOf_X2_listed : GoodIn wsX2_secondOf (wsV RX2 36 RX2 yX2_listed wsX2_listed) := goodIn_app (goodIn_of _ (by decide +kernel)) ggX2_secondOf_X2_listed
set_option maxRecDepth 20000 in
theorem ggX2_secondOf_X2_countFirst : GoodIn wsX2_secondOf wsX2_countFirst := goodIn_r _ [12, 13, 14, 15, 16, 6, 17, 1, 3, 4, 5, 7, 8, 18, 19, 20, 21, 22] (by decide +kernel) (by decide +kernel)
set_option maxRecDepth 20000 in
theorem gX2_secondOf_X2_countFirst : GoodIn wsX2_secondOf (wsV RX2 39 RX2 yX2_countFirst wsX2_countFirst) := goodIn_app (goodIn_of _ (by decide +kernel)) ggX2_secondOf_X2_countFirst
theorem dX2_secondOf_0 : decode cX2_secondOf 0 = .ok (.iconst 1, 1) := by decide +kernel
theorem dX2_secondOf_1 : decode cX2_secondOf 1 = .ok (.istore_n 2, 1) := by decide +kernel
theorem dX2_secondOf_2 : decode cX2_secondOf 2 = .ok (.iload_n 2, 1) := by decide +kernel
theorem dX2_secondOf_3 : decode cX2_secondOf 3 = .ok (.aload_n 0, 1) := by decide +kernel
theorem dX2_secondOf_4 : decode cX2_secondOf 4 = .ok (.getfield 15, 3) := by decide +kernel
theorem dX2_secondOf_7 : decode cX2_secondOf 7 = .ok (.iload_n 1, 1) := by decide +kernel
theorem dX2_secondOf_8 : decode cX2_secondOf 8 = .ok (.iaload, 1) := by decide +kernel
theorem dX2_secondOf_9 : decode cX2_secondOf 9 = .ok (.if_icmp .ge 32, 3) := by decide +kernel
theorem dX2_secondOf_12 : decode cX2_secondOf 12 = .ok (.aload_n 0, 1) := by decide +kernel
theorem dX2_secondOf_13 : decode cX2_secondOf 13 = .ok (.iload_n 1, 1) := by decide +kernel
theorem dX2_secondOf_14 : decode cX2_secondOf 14 = .ok (.iload_n 2, 1) := by decide +kernel
theorem dX2_secondOf_15 : decode cX2_secondOf 15 = .ok (.invokevirtual 36, 3) := by decide +kernel
theorem dX2_secondOf_18 : decode cX2_secondOf 18 = .ok (.istore_n 3, 1) := by decide +kernel
theorem dX2_secondOf_19 : decode cX2_secondOf 19 = .ok (.aload_n 0, 1) := by decide +kernel
theorem dX2_secondOf_20 : decode cX2_secondOf 20 = .ok (.iload_n 3, 1) := by decide +kernel
theorem dX2_secondOf_21 : decode cX2_secondOf 21 = .ok (.invokevirtual 39, 3) := by decide +kernel
theorem dX2_secondOf_24 : decode cX2_secondOf 24 = .ok (.aload_n 0, 1) := by decide +kernel
theorem dX2_secondOf_25 : decode cX2_secondOf 25 = .ok (.getfield 9, 3) := by decide +kernel
theorem dX2_secondOf_28 : decode cX2_secondOf 28 = .ok (.iload_n 3, 1) := by decide +kernel
theorem dX2_secondOf_29 : decode cX2_secondOf 29 = .ok (.iaload, 1) := by decide +kernel
theorem dX2_secondOf_30 : decode cX2_secondOf 30 = .ok (.if_icmp .ge 5, 3) := by decide +kernel
theorem dX2_secondOf_33 : decode cX2_secondOf 33 = .ok (.iload_n 3, 1) := by decide +kernel
theorem dX2_secondOf_34 : decode cX2_secondOf 34 = .ok (.ireturn, 1) := by decide +kernel
theorem dX2_secondOf_35 : decode cX2_secondOf 35 = .ok (.iinc 2 1, 3) := by decide +kernel
theorem dX2_secondOf_38 : decode cX2_secondOf 38 = .ok (.goto (-36), 3) := by decide +kernel
theorem dX2_secondOf_41 : decode cX2_secondOf 41 = .ok (.iconst (-1), 1) := by decide +kernel
theorem dX2_secondOf_42 : decode cX2_secondOf 42 = .ok (.ireturn, 1) := by decide +kernel
set_option maxRecDepth 20000 in
theorem ggX2_countFirst_X2_firstOf : GoodIn wsX2_countFirst wsX2_firstOf := goodIn_r _ [6, 7, 8, 9, 10, 5, 11, 12, 13, 14, 15, 16, 17] (by decide +kernel) (by decide +kernel)
set_option maxRecDepth 20000 in
theorem gX2_countFirst_X2_firstOf : GoodIn wsX2_countFirst (wsV RX2 43 RX2 yX2_firstOf wsX2_firstOf) := goodIn_app (goodIn_of _ (by decide +kernel)) ggX2_countFirst_X2_firstOf
theorem dX2_countFirst_0 : decode cX2_countFirst 0 = .ok (.iconst 0, 1) := by decide +kernel
theorem dX2_countFirst_1 : decode cX2_countFirst 1 = .ok (.istore_n 2, 1) := by decide +kernel
theorem dX2_countFirst_2 : decode cX2_countFirst 2 = .ok (.iconst 0, 1) := by decide +kernel
theorem dX2_countFirst_3 : decode cX2_countFirst 3 = .ok (.istore_n 3, 1) := by decide +kernel
theorem dX2_countFirst_4 : decode cX2_countFirst 4 = .ok (.iload_n 3, 1) := by decide +kernel
theorem dX2_countFirst_5 : decode cX2_countFirst 5 = .ok (.aload_n 0, 1) := by decide +kernel
theorem dX2_countFirst_6 : decode cX2_countFirst 6 = .ok (.getfield 25, 3) := by decide +kernel
theorem dX2_countFirst_9 : decode cX2_countFirst 9 = .ok (.if_icmp .ge 21, 3) := by decide +kernel
theorem dX2_countFirst_12 : decode cX2_countFirst 12 = .ok (.aload_n 0, 1) := by decide +kernel
theorem dX2_countFirst_13 : decode cX2_countFirst 13 = .ok (.iload_n 3, 1) := by decide +kernel
theorem dX2_countFirst_14 : decode cX2_countFirst 14 = .ok (.invokevirtual 43, 3) := by decide +kernel
theorem dX2_countFirst_17 : decode cX2_countFirst 17 = .ok (.iload_n 1, 1) := by decide +kernel
theorem dX2_countFirst_18 : decode cX2_countFirst 18 = .ok (.if_icmp .ne 6, 3) := by decide +kernel
theorem dX2_countFirst_21 : decode cX2_countFirst 21 = .ok (.iinc 2 1, 3) := by decide +kernel
theorem dX2_countFirst_24 : decode cX2_countFirst 24 = .ok (.iinc 3 1, 3) := by decide +kernel
theorem dX2_countFirst_27 : decode cX2_countFirst 27 = .ok (.goto (-23), 3) := by decide +kernel
theorem dX2_countFirst_30 : decode cX2_countFirst 30 = .ok (.iload_n 2, 1) := by decide +kernel
theorem dX2_countFirst_31 : decode cX2_countFirst 31 = .ok (.ireturn, 1) := by decide +kernel
set_option maxRecDepth 20000 in
theorem ggX3_init_X3_clear : GoodIn wsX3_init wsX3_clear := goodIn_r _ [10, 5, 11] (by decide +kernel) (by decide +kernel)
set_option maxRecDepth 20000 in
theorem gX3_init_X3_clear : GoodIn wsX3_init (wsV RX3 15 RX3 yX3_clear wsX3_clear) := goodIn_app (goodIn_of _ (by decide +kernel)) ggX3_init_X3_clear
theorem dX3_init_0 : decode cX3_init 0 = .ok (.aload_n 0, 1) := by decide +kernel
theorem dX3_init_1 : decode cX3_init 1 = .ok (.invokespecial 3, 3) := by decide +kernel
theorem dX3_init_4 : decode cX3_init 4 = .ok (.aload_n 0, 1) := by decide +kernel
theorem dX3_init_5 : decode cX3_init 5 = .ok (.bipush 6, 2) := by decide +kernel
theorem dX3_init_7 : decode cX3_init 7 = .ok (.newarray .int, 2) := by decide +kernel
theorem dX3_init_9 : decode cX3_init 9 = .ok (.putfield 9, 3) := by decide +kernel
theorem dX3_init_12 : decode cX3_init 12 = .ok (.aload_n 0, 1) := by decide +kernel
theorem dX3_init_13 : decode cX3_init 13 = .ok (.invokevirtual 15, 3) := by decide +kernel
theorem dX3_init_16 : decode cX3_init 16 = .ok (.return_, 1) := by decide +kernel
theorem dX3_clear_0 : decode cX3_clear 0 = .ok (.iconst 0, 1) := by decide +kernel
theorem dX3_clear_1 : decode cX3_clear 1 = .ok (.istore_n 1, 1) := by decide +kernel
theorem dX3_clear_2 : decode cX3_clear 2 = .ok (.iload_n 1, 1) := by decide +kernel
theorem dX3_clear_3 : decode cX3_clear 3 = .ok (.bipush 6, 2) := by decide +kernel
theorem dX3_clear_5 : decode cX3_clear 5 = .ok (.if_icmp .ge 16, 3) := by decide +kernel
theorem dX3_clear_8 : decode cX3_clear 8 = .ok (.aload_n 0, 1) := by decide +kernel
theorem dX3_clear_9 : decode cX3_clear 9 = .ok (.getfield 9, 3) := by decide +kernel
theorem dX3_clear_12 : decode cX3_clear 12 = .ok (.iload_n 1, 1) := by decide +kernel
theorem dX3_clear_13 : decode cX3_clear 13 = .ok (.iconst (-1), 1) := by decide +kernel
theorem dX3_clear_14 : decode cX3_clear 14 = .ok (.iastore, 1) := by decide +kernel
theorem dX3_clear_15 : decode cX3_clear 15 = .ok (.iinc 1 1, 3) := by decide +kernel
theorem dX3_clear_18 : decode cX3_clear 18 = .ok (.goto (-16), 3) := by decide +kernel
theorem dX3_clear_21 : decode cX3_clear 21 = .ok (.return_, 1) := by decide +kernel
theorem dX3_copyFrom_0 : decode cX3_copyFrom 0 = .ok (.iconst 0, 1) := by decide +kernel
theorem dX3_copyFrom_1 : decode cX3_copyFrom 1 = .ok (.istore_n 2, 1) := by decide +kernel
theorem dX3_copyFrom_2 : decode cX3_copyFrom 2 = .ok (.iload_n 2, 1) := by decide +kernel
theorem dX3_copyFrom_3 : decode cX3_copyFrom 3 = .ok (.bipush 6, 2) := by decide +kernel
theorem dX3_copyFrom_5 : decode cX3_copyFrom 5 = .ok (.if_icmp .ge 21, 3) := by decide +kernel
theorem dX3_copyFrom_8 : decode cX3_copyFrom 8 = .ok (.aload_n 0, 1) := by decide +kernel
theorem dX3_copyFrom_9 : decode cX3_copyFrom 9 = .ok (.getfield 9, 3) := by decide +kernel
theorem dX3_copyFrom_12 : decode cX3_copyFrom 12 = .ok (.iload_n 2, 1) := by decide +kernel
theorem dX3_copyFrom_13 : decode cX3_copyFrom 13 = .ok (.aload_n 1, 1) := by decide +kernel
theorem dX3_copyFrom_14 : decode cX3_copyFrom 14 = .ok (.getfield 9, 3) := by decide +kernel
theorem dX3_copyFrom_17 : decode cX3_copyFrom 17 = .ok (.iload_n 2, 1) := by decide +kernel
theorem dX3_copyFrom_18 : decode cX3_copyFrom 18 = .ok (.iaload, 1) := by decide +kernel
theorem dX3_copyFrom_19 : decode cX3_copyFrom 19 = .ok (.iastore, 1) := by decide +kernel
theorem dX3_copyFrom_20 : decode cX3_copyFrom 20 = .ok (.iinc 2 1, 3) := by decide +kernel
theorem dX3_copyFrom_23 : decode cX3_copyFrom 23 = .ok (.goto (-21), 3) := by decide +kernel
theorem dX3_copyFrom_26 : decode cX3_copyFrom 26 = .ok (.return_, 1) := by decide +kernel
theorem dX3_countPlaced_0 : decode cX3_countPlaced 0 = .ok (.iconst 0, 1) := by decide +kernel
theorem dX3_countPlaced_1 : decode cX3_countPlaced 1 = .ok (.istore_n 1, 1) := by decide +kernel
theorem dX3_countPlaced_2 : decode cX3_countPlaced 2 = .ok (.iconst 0, 1) := by decide +kernel
theorem dX3_countPlaced_3 : decode cX3_countPlaced 3 = .ok (.istore_n 2, 1) := by decide +kernel
theorem dX3_countPlaced_4 : decode cX3_countPlaced 4 = .ok (.iload_n 2, 1) := by decide +kernel
theorem dX3_countPlaced_5 : decode cX3_countPlaced 5 = .ok (.bipush 6, 2) := by decide +kernel
theorem dX3_countPlaced_7 : decode cX3_countPlaced 7 = .ok (.if_icmp .ge 22, 3) := by decide +kernel
theorem dX3_countPlaced_10 : decode cX3_countPlaced 10 = .ok (.aload_n 0, 1) := by decide +kernel
theorem dX3_countPlaced_11 : decode cX3_countPlaced 11 = .ok (.getfield 9, 3) := by decide +kernel
theorem dX3_countPlaced_14 : decode cX3_countPlaced 14 = .ok (.iload_n 2, 1) := by decide +kernel
theorem dX3_countPlaced_15 : decode cX3_countPlaced 15 = .ok (.iaload, 1) := by decide +kernel
theorem dX3_countPlaced_16 : decode cX3_countPlaced 16 = .ok (.iconst (-1), 1) := by decide +kernel
theorem dX3_countPlaced_17 : decode cX3_countPlaced 17 = .ok (.if_icmp .eq 6, 3) := by decide +kernel
theorem dX3_countPlaced_20 : decode cX3_countPlaced 20 = .ok (.iinc 1 1, 3) := by decide +kernel
theorem dX3_countPlaced_23 : decode cX3_countPlaced 23 = .ok (.iinc 2 1, 3) := by decide +kernel
theorem dX3_countPlaced_26 : decode cX3_countPlaced 26 = .ok (.goto (-22), 3) := by decide +kernel
theorem dX3_countPlaced_29 : decode cX3_countPlaced 29 = .ok (.iload_n 1, 1) := by decide +kernel
theorem dX3_countPlaced_30 : decode cX3_countPlaced 30 = .ok (.ireturn, 1) := by decide +kernel
theorem dX3_othersAt_0 : decode cX3_othersAt 0 = .ok (.iconst 0, 1) := by decide +kernel
theorem dX3_othersAt_1 : decode cX3_othersAt 1 = .ok (.istore_n 3, 1) := by decide +kernel
theorem dX3_othersAt_2 : decode cX3_othersAt 2 = .ok (.iconst 0, 1) := by decide +kernel
theorem dX3_othersAt_3 : decode cX3_othersAt 3 = .ok (.istore 4, 2) := by decide +kernel
theorem dX3_othersAt_5 : decode cX3_othersAt 5 = .ok (.iload 4, 2) := by decide +kernel
theorem dX3_othersAt_7 : decode cX3_othersAt 7 = .ok (.bipush 6, 2) := by decide +kernel
theorem dX3_othersAt_9 : decode cX3_othersAt 9 = .ok (.if_icmp .ge 29, 3) := by decide +kernel
theorem dX3_othersAt_12 : decode cX3_othersAt 12 = .ok (.iload 4, 2) := by decide +kernel
theorem dX3_othersAt_14 : decode cX3_othersAt 14 = .ok (.iload_n 2, 1) := by decide +kernel
theorem dX3_othersAt_15 : decode cX3_othersAt 15 = .ok (.if_icmp .eq 17, 3) := by decide +kernel
theorem dX3_othersAt_18 : decode cX3_othersAt 18 = .ok (.aload_n 0, 1) := by decide +kernel
theorem dX3_othersAt_19 : decode cX3_othersAt 19 = .ok (.getfield 9, 3) := by decide +kernel
theorem dX3_othersAt_22 : decode cX3_othersAt 22 = .ok (.iload 4, 2) := by decide +kernel
theorem dX3_othersAt_24 : decode cX3_othersAt 24 = .ok (.iaload, 1) := by decide +kernel
theorem dX3_othersAt_25 : decode cX3_othersAt 25 = .ok (.iload_n 1, 1) := by decide +kernel
theorem dX3_othersAt_26 : decode cX3_othersAt 26 = .ok (.if_icmp .ne 6, 3) := by decide +kernel
theorem dX3_othersAt_29 : decode cX3_othersAt 29 = .ok (.iinc 3 1, 3) := by decide +kernel
theorem dX3_othersAt_32 : decode cX3_othersAt 32 = .ok (.iinc 4 1, 3) := by decide +kernel
theorem dX3_othersAt_35 : decode cX3_othersAt 35 = .ok (.goto (-30), 3) := by decide +kernel
theorem dX3_othersAt_38 : decode cX3_othersAt 38 = .ok (.iload_n 3, 1) := by decide +kernel
theorem dX3_othersAt_39 : decode cX3_othersAt 39 = .ok (.ireturn, 1) := by decide +kernel
end
section
-- ===== 03 base: ints as Int, worlds as lists, one judgement G, contracts Con =====
def iI (x : Int) : Int32 := Int32.ofInt x
theorem iI_add (a b : Int) : iI a + iI b = iI (a + b) := (Int32.ofInt_add a b).symm
theorem iI_sub (a b : Int) : iI a - iI b = iI (a - b) := (Int32.ofInt_sub a b).symm
theorem iI_mul (a b : Int) : iI a * iI b = iI (a * b) := (Int32.ofInt_mul a b).symm
theorem iI_toInt {a : Int} (h1 : -2147483648 ≤ a) (h2 : a < 2147483648) : (iI a).toInt = a := Int32.toInt_ofInt_of_le (by omega) (by omega)
theorem iI_of (x : Int32) : iI x.toInt = x := Int32.ofInt_toInt x
theorem iI_bd (x : Int32) : -2147483648 ≤ x.toInt ∧ x.toInt < 2147483648 := ⟨by have := x.le_toInt; omega, by have := x.toInt_lt; omega⟩
theorem iI_eq {a b : Int} (h : -2147483648 ≤ a ∧ a < 2147483648 ∧ -2147483648 ≤ b ∧ b < 2147483648) : iI a = iI b ↔ a = b := by
  constructor
  · intro e
    have e2 := congrArg Int32.toInt e
    rwa [iI_toInt h.1 h.2.1, iI_toInt h.2.2.1 h.2.2.2] at e2
  · intro e
    rw [e]
theorem iI_lt {a b : Int} (h : -2147483648 ≤ a ∧ a < 2147483648 ∧ -2147483648 ≤ b ∧ b < 2147483648) : iI a < iI b ↔ a < b := by
  rw [Int32.lt_iff_toInt_lt, iI_toInt h.1 h.2.1, iI_toInt h.2.2.1 h.2.2.2]
theorem iI_le {a b : Int} (h : -2147483648 ≤ a ∧ a < 2147483648 ∧ -2147483648 ≤ b ∧ b < 2147483648) : iI a ≤ iI b ↔ a ≤ b := by
  rw [Int32.le_iff_toInt_le, iI_toInt h.1 h.2.1, iI_toInt h.2.2.1 h.2.2.2]
theorem iI_cl {i : Int} (h1 : -2147483648 ≤ i) (h2 : i < 2147483648) : (iI i).toNatClampNeg = i.toNat := by
  show (iI i).toInt.toNat = i.toNat
  rw [iI_toInt h1 h2]
theorem iI_in {i : Int} {n : Nat} (hn : n < 2147483648) (h : 0 ≤ i ∧ i < (n : Int)) : vp_in (iI i) n := by
  rw [vp_in_iff, iI_toInt (by omega) (by omega)]
  exact h
theorem iI_nI (n : Nat) : iI (n : Int) = nI n := Int32.ofInt_eq_ofNat
theorem iI_zero : iI 0 = 0 := rfl
theorem iI_inc (a : Int) (c : Int) : iI a + Int32.ofInt c = iI (a + c) := iI_add a c
/-- a power of two -/
def p2 (n : Int) : Int := 2 ^ n.toNat
theorem iI_tn (a : Int) : (iI a).toBitVec.toNat = (a % 4294967296).toNat := by
  show (BitVec.ofInt 32 a).toNat = _
  rw [BitVec.toNat_ofInt]
  rfl
theorem iI_sh : ∀ n : Nat, n < 32 → ((iI (n : Int) &&& 31).toBitVec.smod 32).toNat = n := by decide +kernel
theorem iI_inj_tn {x y : Int32} (h : x.toBitVec.toNat = y.toBitVec.toNat) : x = y := Int32.toBitVec.inj (BitVec.eq_of_toNat_eq h)
theorem iI_shl {a n : Int} (h : 0 ≤ n ∧ n < 32) : iI a <<< (iI n &&& 31) = iI (a * p2 n) := by
  obtain ⟨k, rfl⟩ : ∃ k : Nat, n = (k : Int) := ⟨n.toNat, by omega⟩
  apply iI_inj_tn
  rw [pk_shl (iI a) _ k (iI_sh k (by omega)), iI_tn, iI_tn]
  have e : p2 (k : Int) = ((2 ^ k : Nat) : Int) := by
    show (2 : Int) ^ k = _
    rw [Int.natCast_pow]
    rfl
  rw [e]
  generalize (2 ^ k : Nat) = w
  have h1 : ((a % 4294967296).toNat : Int) = a % 4294967296 := Int.toNat_of_nonneg (Int.emod_nonneg _ (by decide))
  apply Int.ofNat.inj
  show (((a % 4294967296).toNat * w % 2 ^ 32 : Nat) : Int) = (((a * (w : Int)) % 4294967296).toNat : Int)
  rw [Int.toNat_of_nonneg (Int.emod_nonneg _ (by decide)), Int.natCast_emod, Int.natCast_mul, h1]
  show (a % 4294967296 * (w : Int)) % 4294967296 = _
  rw [Int.mul_emod, Int.emod_emod_of_dvd _ (Int.dvd_refl _), ← Int.mul_emod]
theorem iI_shr {a n : Int} (ha : -2147483648 ≤ a ∧ a < 2147483648) (h : 0 ≤ n ∧ n < 32) : iI a >>> (iI n &&& 31) = iI (a / p2 n) := by
  obtain ⟨k, rfl⟩ : ∃ k : Nat, n = (k : Int) := ⟨n.toNat, by omega⟩
  have h1 := pk_shr (iI a) (iI (k : Int) &&& 31) k (iI_sh k (by omega))
  rw [iI_toInt ha.1 ha.2, Int.shiftRight_eq_div_pow] at h1
  have h2 := congrArg iI h1
  rw [iI_of] at h2
  rw [h2]
  congr 2
theorem iI_and {a : Int} {m : Int} (k : Nat) (hk : k ≤ 31) (hm : (iI m).toBitVec.toNat = 2 ^ k - 1) : iI a &&& iI m = iI (a % (2 ^ k : Nat)) := by
  rw [pk_and (iI a) k hm, iI_tn, ← iI_nI]
  congr 1
  rw [Int.natCast_emod, Int.toNat_of_nonneg (Int.emod_nonneg _ (by decide))]
  have hd : ((2 ^ k : Nat) : Int) ∣ 4294967296 := by
    refine ⟨((2 ^ (32 - k) : Nat) : Int), ?_⟩
    rw [← Int.natCast_mul, ← Nat.pow_add, show k + (32 - k) = 32 by omega]
    rfl
  exact Int.emod_emod_of_dvd a hd
theorem iI_div {a b : Int} (ha : 0 ≤ a ∧ a < 2147483648) (hb : 0 < b ∧ b < 2147483648) : iI a / iI b = iI (a / b) := by
  apply Int32.toInt.inj
  rw [Int32.toInt_div_of_ne_right _ _ (fun e => by
    have e2 := congrArg Int32.toInt e
    rw [iI_toInt (by omega) (by omega)] at e2
    have : (-1 : Int32).toInt = -1 := by decide
    omega), iI_toInt (by omega) (by omega), iI_toInt (by omega) (by omega), Int.tdiv_eq_ediv_of_nonneg ha.1]
  have h1 : 0 ≤ a / b := Int.ediv_nonneg ha.1 (by omega)
  have h2 : a / b ≤ a := Int.ediv_le_self b ha.1
  rw [iI_toInt (by omega) (by omega)]
theorem iI_rem {a b : Int} (ha : 0 ≤ a ∧ a < 2147483648) (hb : 0 < b ∧ b < 2147483648) : iI a - iI a / iI b * iI b = iI (a % b) := by
  rw [iI_div ha hb, iI_mul, iI_sub]
  congr 1
  have := Int.emod_add_mul_ediv a b
  rw [Int.mul_comm] at this
  omega
theorem iI_max {a b : Int} (h : -2147483648 ≤ a ∧ a < 2147483648 ∧ -2147483648 ≤ b ∧ b < 2147483648) : (if iI a < iI b then iI b else iI a) = iI (if a < b then b else a) := by
  by_cases c : a < b
  · rw [if_pos c, if_pos ((iI_lt h).mpr c)]
  · rw [if_neg c, if_neg (fun q => c ((iI_lt h).mp q))]
theorem iI_min {a b : Int} (h : -2147483648 ≤ a ∧ a < 2147483648 ∧ -2147483648 ≤ b ∧ b < 2147483648) : (if iI b < iI a then iI b else iI a) = iI (if b < a then b else a) := by
  have h' : -2147483648 ≤ b ∧ b < 2147483648 ∧ -2147483648 ≤ a ∧ a < 2147483648 := ⟨h.2.2.1, h.2.2.2, h.1, h.2.1⟩
  by_cases c : b < a
  · rw [if_pos c, if_pos ((iI_lt h').mpr c)]
  · rw [if_neg c, if_neg (fun q => c ((iI_lt h').mp q))]
-- arrays of ints: a function of Int
def ar (f : Int → Int) : Nat → Int32 := fun k => iI (f (k : Int))
def up (f : Int → Int) (i x : Int) : Int → Int := fun j => if j = i then x else f j
theorem up_s (f : Int → Int) (i x : Int) : up f i x i = x := by simp [up]
theorem up_n {f : Int → Int} {i x j : Int} (h : j ≠ i) : up f i x j = f j := by simp [up, h]
theorem ar_up (f : Int → Int) {i : Int} (x : Int) (hi : 0 ≤ i) : upd (ar f) i.toNat (iI x) = ar (up f i x) := by
  funext k
  by_cases h : k = i.toNat
  · subst h
    simp [upd, ar, up, Int.toNat_of_nonneg hi]
  · have h2 : ¬ (k : Int) = i := fun e => h (by omega)
    simp [upd, ar, up, h, h2]
/-- what a contract knows of the launch: the classes, the class of int[], that of Matching[], the static table's address -/
abbrev DD : Type := va_G × ClassId × ClassId × Nat
abbrev ca (D : DD) (n : Nat) (f : Int → Int) : va_E := .inl (D.2.1, n, .inl (ar f))
abbrev cq (D : DD) (n : Nat) (f : Nat → Option Nat) : va_E := .inl (D.2.2.1, n, .inr (.inr (.inr (.inr f))))
abbrev co (ci : Nat) (fs : List Value) : va_E := .inr (ci, fs)
abbrev vi (x : Int) : Value := .int (iI x)
def pw3 (k : Int) : Int := 3 ^ k.toNat
def KX (D : DD) (A : Nat → Prop) (U : State) : Prop :=
  va_K D.1 vwCl [(D.2.1, .int), (D.2.2.1, .object "PopularMatchings$Matching")] U ∧ va_Z "PopularMatchings$ChallengerSearch" "FILL_OF_POST" "[I" (.ref D.2.2.2) A U U.heap ∧ va_T .int D.2.2.2 6 (fun j => vi (pw3 (j : Int))) A U U.heap ∧ va_AO "PopularMatchings$Matching" U ∧ va_Nw (.methodLinkNest "PopularMatchings" 45 yX4_init "PopularMatchings") U
theorem KX.pass {D : DD} {A B : Nat → Prop} {s U : State} {H : Heap} {locs : List Loc} (h : KX D A s) (hS : va_S A s.heap H locs) (hU : U.heap = H) (hW : s.WarmedH U.vm) (hAB : ∀ q, B q → A q) : KX D B U := by
  obtain ⟨h1, h2, h3, h4, h5⟩ := h
  refine ⟨va_K.moved hW.alike h1, ?_, ?_, va_AO.moved hW.alike h4, va_Nw.warmM hW h5⟩
  · rw [hU]
    exact (va_Z.moved hW.alike (va_Z.kept h2 hS.2.1)).narrow hAB
  · rw [hU]
    exact (va_T.moved hW.alike (va_T.kept h3 hS.2.1)).narrow hAB
theorem KX.call {D : DD} {A : Nat → Prop} {U : State} {g : JFrame} {mk : MethodId} {a : Array Value} (h : KX D A U) : KX D A (U.calling g mk a) := by
  obtain ⟨h1, h2, h3, h4, h5⟩ := h
  exact ⟨va_K.moved (u := U) (U := U.calling g mk a) (Vm.Alike.refl U.vm) h1, va_Z.moved (u := U) (U := U.calling g mk a) (Vm.Alike.refl U.vm) h2, va_T.moved (u := U) (U := U.calling g mk a) (Vm.Alike.refl U.vm) h3, va_AO.moved (u := U) (U := U.calling g mk a) (Vm.Alike.refl U.vm) h4, va_Nw.same (u := U) (U := U.calling g mk a) rfl rfl h5⟩
-- the constant part of a walk
abbrev CX : Type := Program × Launch × Env × Room × State × MethodId × Array Value × List Frame × Method × Code
def Ok (X : CX) (D : DD) (A : Nat → Prop) (cc : ByteArray) (nL : Nat) (own : String) (Ts : List Cond) (ret : Option FieldType) (rm : Room) : Prop :=
  CallFix X.1 X.2.2.2.2.2.1 X.2.2.2.2.2.2.2.2.2 cc nL X.2.2.2.2.1 X.2.2.2.2.2.2.1 Ts own ∧ KX D A X.2.2.2.2.1 ∧ (∀ q, X.2.2.2.2.1.heap.size ≤ q → A q) ∧ X.2.2.2.2.2.2.2.2.1.locks = false ∧ X.2.2.2.2.2.2.2.2.1.sig.returnType = ret ∧ X.2.2.2.1 = rm
def G (X : CX) (D : DD) (A : Nat → Prop) (nL : Nat) (Q : State → Prop) (cs ss pc : Nat) (L : List (Nat × Value)) (st : List Value) (ws : va_W) : Prop :=
  ∀ (H : Heap) (locs : List Loc) (ls : Array Slot), va_P D.1 vwCl ws H → va_D A ws → va_S A X.2.2.2.2.1.heap H locs → lv_has ls nL L →
    W X.1 X.2.1 X.2.2.1 X.2.2.2.1 X.2.2.2.2.1 X.2.2.2.2.2.1 X.2.2.2.2.2.2.1 X.2.2.2.2.2.2.2.1 X.2.2.2.2.2.2.2.2.1 X.2.2.2.2.2.2.2.2.2 H locs cs ss Q (F0 X.2.2.2.2.2.1 pc ls st)
-- locals, kept in their order
def stL (i : Nat) (v : Value) : List (Nat × Value) → List (Nat × Value)
  | [] => [(i, v)]
  | q :: l => if q.1 == i then (i, v) :: l.filter (fun q => !(q.1 == i) && !(q.1 + 1 == i && q.2.category == 2)) else if (!(q.1 == i) && !(q.1 + 1 == i && q.2.category == 2)) then q :: stL i v l else stL i v l
theorem stL_mem {i : Nat} {v : Value} : ∀ {l : List (Nat × Value)} {q : Nat × Value}, q ∈ stL i v l → q ∈ (i, v) :: l.filter (fun q => !(q.1 == i) && !(q.1 + 1 == i && q.2.category == 2))
  | [], q, h => h
  | x :: l, q, h => by
    unfold stL at h
    by_cases h1 : (x.1 == i) = true
    · rw [if_pos h1] at h
      rcases List.mem_cons.mp h with h | h
      · rw [h]; exact List.mem_cons_self
      · refine List.mem_cons_of_mem _ ?_
        rw [List.mem_filter] at h ⊢
        exact ⟨List.mem_cons_of_mem _ h.1, h.2⟩
    · rw [if_neg h1] at h
      by_cases h2 : (!(x.1 == i) && !(x.1 + 1 == i && x.2.category == 2)) = true
      · rw [if_pos h2] at h
        rcases List.mem_cons.mp h with h | h
        · refine List.mem_cons_of_mem _ ?_
          rw [h, List.mem_filter]
          exact ⟨List.mem_cons_self, h2⟩
        · rcases List.mem_cons.mp (stL_mem h) with h3 | h3
          · rw [h3]; exact List.mem_cons_self
          · refine List.mem_cons_of_mem _ ?_
            rw [List.mem_filter] at h3 ⊢
            exact ⟨List.mem_cons_of_mem _ h3.1, h3.2⟩
      · rw [if_neg h2] at h
        rcases List.mem_cons.mp (stL_mem h) with h3 | h3
        · rw [h3]; exact List.mem_cons_self
        · refine List.mem_cons_of_mem _ ?_
          rw [List.mem_filter] at h3 ⊢
          exact ⟨List.mem_cons_of_mem _ h3.1, h3.2⟩
theorem stL_has {ls : Array Slot} {n i : Nat} {v : Value} {l : List (Nat × Value)} (h : lv_has ls n ((i, v) :: l.filter (fun q => !(q.1 == i) && !(q.1 + 1 == i && q.2.category == 2)))) : lv_has ls n (stL i v l) := ⟨h.1, h.2.1, fun q hq => h.2.2 q (stL_mem hq)⟩
section GRules
variable {X : CX} {D : DD} {A : Nat → Prop} {cc : ByteArray} {nL : Nat} {own : String} {Ts : List Cond} {ret : Option FieldType} {rm : Room} {Q : State → Prop} {cs ss pc : Nat} {L : List (Nat × Value)} {st : List Value} {ws : va_W}
theorem g_iconst (O : Ok X D A cc nL own Ts ret rm) {k : Int} (hd : decode cc pc = .ok (.iconst k, 1)) (n : Nat) (hn : pc + 1 = n) (kk : G X D A nL Q cs ss n L (vi k :: st) ws) : G X D A nL Q cs ss pc L st ws := by
  subst hn; intro H locs ls hP hD hS hl
  exact lv_iconst O.1.1 O.1.2.1 hd rfl (kk H locs ls hP hD hS hl)
theorem g_bipush (O : Ok X D A cc nL own Ts ret rm) {k : Int} (hd : decode cc pc = .ok (.bipush k, 2)) (n : Nat) (hn : pc + 2 = n) (hv : (Int8.ofInt k).toInt32 = iI k) (kk : G X D A nL Q cs ss n L (vi k :: st) ws) : G X D A nL Q cs ss pc L st ws := by
  subst hn; intro H locs ls hP hD hS hl
  exact lv_bipush O.1.1 O.1.2.1 hd hv (kk H locs ls hP hD hS hl)
theorem g_sipush (O : Ok X D A cc nL own Ts ret rm) {k : Int} (hd : decode cc pc = .ok (.sipush k, 3)) (n : Nat) (hn : pc + 3 = n) (hv : (Int16.ofInt k).toInt32 = iI k) (kk : G X D A nL Q cs ss n L (vi k :: st) ws) : G X D A nL Q cs ss pc L st ws := by
  subst hn; intro H locs ls hP hD hS hl
  exact lv_sipush O.1.1 O.1.2.1 hd hv (kk H locs ls hP hD hS hl)
theorem g_ldc (O : Ok X D A cc nL own Ts ret rm) {index : Nat} (hd : decode cc pc = .ok (.ldc index, 2)) (n : Nat) (hn : pc + 2 = n) (k : Int) (hc : Cond.constant own index (iI k) ∈ Ts) (kk : G X D A nL Q cs ss n L (vi k :: st) ws) : G X D A nL Q cs ss pc L st ws := by
  subst hn; intro H locs ls hP hD hS hl
  exact lv_ldc O.1.1 O.1.2.1 O.1.2.2.2.1 (O.1.2.2.2.2 _ hc) hd (kk H locs ls hP hD hS hl)
theorem g_iload_n (O : Ok X D A cc nL own Ts ret rm) {k : Fin 4} {x : Int32} (hd : decode cc pc = .ok (.iload_n k, 1)) (n j : Nat) (hn : pc + 1 = n) (hj : L[j]? = some ((k : Nat), .int x)) (kk : G X D A nL Q cs ss n L (.int x :: st) ws) : G X D A nL Q cs ss pc L st ws := by
  subst hn; intro H locs ls hP hD hS hl
  exact lv_iload_n O.1.1 O.1.2.1 hd rfl (lv_at hl j hj) (kk H locs ls hP hD hS hl)
theorem g_iload (O : Ok X D A cc nL own Ts ret rm) {k : Nat} {x : Int32} (hd : decode cc pc = .ok (.iload k, 2)) (n j : Nat) (hn : pc + 2 = n) (hj : L[j]? = some (k, .int x)) (kk : G X D A nL Q cs ss n L (.int x :: st) ws) : G X D A nL Q cs ss pc L st ws := by
  subst hn; intro H locs ls hP hD hS hl
  exact lv_iload O.1.1 O.1.2.1 hd (lv_at hl j hj) (kk H locs ls hP hD hS hl)
theorem g_aload_n (O : Ok X D A cc nL own Ts ret rm) {k : Fin 4} {x : Nat} (hd : decode cc pc = .ok (.aload_n k, 1)) (n j : Nat) (hn : pc + 1 = n) (hj : L[j]? = some ((k : Nat), .ref x)) (kk : G X D A nL Q cs ss n L (.ref x :: st) ws) : G X D A nL Q cs ss pc L st ws := by
  subst hn; intro H locs ls hP hD hS hl
  exact lv_aload_n O.1.1 O.1.2.1 hd rfl (lv_at hl j hj) (kk H locs ls hP hD hS hl)
theorem g_istore_n (O : Ok X D A cc nL own Ts ret rm) {k : Fin 4} {x : Int32} (hd : decode cc pc = .ok (.istore_n k, 1)) (n : Nat) (L' : List (Nat × Value)) (hn : pc + 1 = n) (hk : (k : Nat) < nL) (hL : stL (k : Nat) (.int x) L = L') (kk : G X D A nL Q cs ss n L' st ws) : G X D A nL Q cs ss pc L (.int x :: st) ws := by
  subst hn; subst hL; intro H locs ls hP hD hS hl
  exact lv_istore_n O.1.1 O.1.2.1 hd rfl hl hk rfl (fun ls' hl' => kk H locs ls' hP hD hS (stL_has hl'))
theorem g_istore (O : Ok X D A cc nL own Ts ret rm) {k : Nat} {x : Int32} (hd : decode cc pc = .ok (.istore k, 2)) (n : Nat) (L' : List (Nat × Value)) (hn : pc + 2 = n) (hk : k < nL) (hL : stL k (.int x) L = L') (kk : G X D A nL Q cs ss n L' st ws) : G X D A nL Q cs ss pc L (.int x :: st) ws := by
  subst hn; subst hL; intro H locs ls hP hD hS hl
  exact lv_istore O.1.1 O.1.2.1 hd hl hk rfl (fun ls' hl' => kk H locs ls' hP hD hS (stL_has hl'))
theorem g_astore_n (O : Ok X D A cc nL own Ts ret rm) {k : Fin 4} {x : Nat} (hd : decode cc pc = .ok (.astore_n k, 1)) (n : Nat) (L' : List (Nat × Value)) (hn : pc + 1 = n) (hk : (k : Nat) < nL) (hL : stL (k : Nat) (.ref x) L = L') (kk : G X D A nL Q cs ss n L' st ws) : G X D A nL Q cs ss pc L (.ref x :: st) ws := by
  subst hn; subst hL; intro H locs ls hP hD hS hl
  exact lv_astore_n O.1.1 O.1.2.1 hd rfl hl hk rfl (fun ls' hl' => kk H locs ls' hP hD hS (stL_has hl'))
theorem g_iinc (O : Ok X D A cc nL own Ts ret rm) {k : Nat} {c a : Int} (hd : decode cc pc = .ok (.iinc k c, 3)) (n j : Nat) (L' : List (Nat × Value)) (hn : pc + 3 = n) (hk : k < nL) (hj : L[j]? = some (k, vi a)) (hL : stL k (vi (a + c)) L = L') (kk : G X D A nL Q cs ss n L' st ws) : G X D A nL Q cs ss pc L st ws := by
  subst hn; subst hL; intro H locs ls hP hD hS hl
  exact lv_iinc O.1.1 O.1.2.1 hd hl hj (iI_inc a c) hk rfl (fun ls' hl' => kk H locs ls' hP hD hS (stL_has hl'))
theorem g_iadd (O : Ok X D A cc nL own Ts ret rm) {a b : Int} (hd : decode cc pc = .ok (.iadd, 1)) (n : Nat) (hn : pc + 1 = n) (kk : G X D A nL Q cs ss n L (vi (a + b) :: st) ws) : G X D A nL Q cs ss pc L (vi b :: vi a :: st) ws := by
  subst hn; intro H locs ls hP hD hS hl
  exact lv_iadd O.1.1 O.1.2.1 hd (by rw [iI_add]; exact kk H locs ls hP hD hS hl)
theorem g_isub (O : Ok X D A cc nL own Ts ret rm) {a b : Int} (hd : decode cc pc = .ok (.isub, 1)) (n : Nat) (hn : pc + 1 = n) (kk : G X D A nL Q cs ss n L (vi (a - b) :: st) ws) : G X D A nL Q cs ss pc L (vi b :: vi a :: st) ws := by
  subst hn; intro H locs ls hP hD hS hl
  exact lv_isub O.1.1 O.1.2.1 hd (by rw [iI_sub]; exact kk H locs ls hP hD hS hl)
theorem g_imul (O : Ok X D A cc nL own Ts ret rm) {a b : Int} (hd : decode cc pc = .ok (.imul, 1)) (n : Nat) (hn : pc + 1 = n) (kk : G X D A nL Q cs ss n L (vi (a * b) :: st) ws) : G X D A nL Q cs ss pc L (vi b :: vi a :: st) ws := by
  subst hn; intro H locs ls hP hD hS hl
  exact lv_imul O.1.1 O.1.2.1 hd (by rw [iI_mul]; exact kk H locs ls hP hD hS hl)
theorem g_ishl (O : Ok X D A cc nL own Ts ret rm) {a b : Int} (hd : decode cc pc = .ok (.ishl, 1)) (n : Nat) (hn : pc + 1 = n) (hb : 0 ≤ b ∧ b < 32) (kk : G X D A nL Q cs ss n L (vi (a * p2 b) :: st) ws) : G X D A nL Q cs ss pc L (vi b :: vi a :: st) ws := by
  subst hn; intro H locs ls hP hD hS hl
  exact lv_ishl O.1.1 O.1.2.1 hd (by rw [iI_shl hb]; exact kk H locs ls hP hD hS hl)
theorem g_ishr (O : Ok X D A cc nL own Ts ret rm) {a b : Int} (hd : decode cc pc = .ok (.ishr, 1)) (n : Nat) (hn : pc + 1 = n) (hb : -2147483648 ≤ a ∧ a < 2147483648 ∧ 0 ≤ b ∧ b < 32) (kk : G X D A nL Q cs ss n L (vi (a / p2 b) :: st) ws) : G X D A nL Q cs ss pc L (vi b :: vi a :: st) ws := by
  subst hn; intro H locs ls hP hD hS hl
  exact lv_ishr O.1.1 O.1.2.1 hd (by rw [iI_shr ⟨hb.1, hb.2.1⟩ hb.2.2]; exact kk H locs ls hP hD hS hl)
theorem g_iand (O : Ok X D A cc nL own Ts ret rm) {a m : Int} (hd : decode cc pc = .ok (.iand, 1)) (n : Nat) (hn : pc + 1 = n) (k : Nat) (hk : k ≤ 31) (hm : (iI m).toBitVec.toNat = 2 ^ k - 1) (w : Int) (hw : w = ((2 ^ k : Nat) : Int)) (kk : G X D A nL Q cs ss n L (vi (a % w) :: st) ws) : G X D A nL Q cs ss pc L (vi m :: vi a :: st) ws := by
  subst hn; subst hw; intro H locs ls hP hD hS hl
  exact lv_iand O.1.1 O.1.2.1 hd (by rw [iI_and k hk hm]; exact kk H locs ls hP hD hS hl)
theorem g_idiv (O : Ok X D A cc nL own Ts ret rm) {a b : Int} (hd : decode cc pc = .ok (.idiv, 1)) (n : Nat) (hn : pc + 1 = n) (hb : 0 ≤ a ∧ a < 2147483648 ∧ 0 < b ∧ b < 2147483648) (kk : G X D A nL Q cs ss n L (vi (a / b) :: st) ws) : G X D A nL Q cs ss pc L (vi b :: vi a :: st) ws := by
  subst hn; intro H locs ls hP hD hS hl
  exact lv_idiv O.1.1 O.1.2.1 hd (fun e => by rw [← iI_zero, iI_eq (by omega)] at e; omega) (by rw [iI_div ⟨hb.1, hb.2.1⟩ hb.2.2]; exact kk H locs ls hP hD hS hl)
theorem g_irem (O : Ok X D A cc nL own Ts ret rm) {a b : Int} (hd : decode cc pc = .ok (.irem, 1)) (n : Nat) (hn : pc + 1 = n) (hb : 0 ≤ a ∧ a < 2147483648 ∧ 0 < b ∧ b < 2147483648) (kk : G X D A nL Q cs ss n L (vi (a % b) :: st) ws) : G X D A nL Q cs ss pc L (vi b :: vi a :: st) ws := by
  subst hn; intro H locs ls hP hD hS hl
  exact lv_irem O.1.1 O.1.2.1 hd (fun e => by rw [← iI_zero, iI_eq (by omega)] at e; omega) (by rw [iI_rem ⟨hb.1, hb.2.1⟩ hb.2.2]; exact kk H locs ls hP hD hS hl)
theorem g_dup (O : Ok X D A cc nL own Ts ret rm) {v : Value} (hd : decode cc pc = .ok (.dup, 1)) (n : Nat) (hn : pc + 1 = n) (hv : v.category = 1) (kk : G X D A nL Q cs ss n L (v :: v :: st) ws) : G X D A nL Q cs ss pc L (v :: st) ws := by
  subst hn; intro H locs ls hP hD hS hl
  exact lv_dup O.1.1 O.1.2.1 hd hv (kk H locs ls hP hD hS hl)
theorem g_pop (O : Ok X D A cc nL own Ts ret rm) {v : Value} (hd : decode cc pc = .ok (.pop, 1)) (n : Nat) (hn : pc + 1 = n) (hv : v.category = 1) (kk : G X D A nL Q cs ss n L st ws) : G X D A nL Q cs ss pc L (v :: st) ws := by
  subst hn; intro H locs ls hP hD hS hl
  exact lv_pop O.1.1 O.1.2.1 hd hv (kk H locs ls hP hD hS hl)
theorem g_dup2 (O : Ok X D A cc nL own Ts ret rm) {v w : Value} (hd : decode cc pc = .ok (.dup2, 1)) (n : Nat) (hn : pc + 1 = n) (hv : v.category = 1) (hw : w.category = 1) (kk : G X D A nL Q cs ss n L (v :: w :: v :: w :: st) ws) : G X D A nL Q cs ss pc L (v :: w :: st) ws := by
  subst hn; intro H locs ls hP hD hS hl
  exact lv_dup2_11 O.1.1 O.1.2.1 hd hv hw (kk H locs ls hP hD hS hl)
theorem g_goto (O : Ok X D A cc nL own Ts ret rm) {off : Int} (hd : decode cc pc = .ok (.goto off, 3)) (t : Nat) (ht : (pc : Int) + off = (t : Int)) (kk : G X D A nL Q cs ss t L st ws) : G X D A nL Q cs ss pc L st ws := by
  intro H locs ls hP hD hS hl
  exact lv_goto O.1.1 O.1.2.1 hd ht (kk H locs ls hP hD hS hl)
end GRules
section GBranch
variable {X : CX} {D : DD} {A : Nat → Prop} {cc : ByteArray} {nL : Nat} {own : String} {Ts : List Cond} {ret : Option FieldType} {rm : Room} {Q : State → Prop} {cs ss pc : Nat} {L : List (Nat × Value)} {st : List Value} {ws : va_W}
theorem g_icmp_eq (O : Ok X D A cc nL own Ts ret rm) {off : Int} {a b : Int} (hd : decode cc pc = .ok (.if_icmp .eq off, 3)) (n t : Nat) (hn : pc + 3 = n) (ht : (pc : Int) + off = (t : Int)) (hb : -2147483648 ≤ a ∧ a < 2147483648 ∧ -2147483648 ≤ b ∧ b < 2147483648) (kt : a = b → G X D A nL Q cs ss t L st ws) (kf : ¬ a = b → G X D A nL Q cs ss n L st ws) : G X D A nL Q cs ss pc L (vi b :: vi a :: st) ws := by
  subst hn
  have hb0 := hb
  have hb1 : -2147483648 ≤ b ∧ b < 2147483648 ∧ -2147483648 ≤ a ∧ a < 2147483648 := ⟨hb.2.2.1, hb.2.2.2, hb.1, hb.2.1⟩
  intro H locs ls hP hD hS hl
  exact lv_icmp_eq O.1.1 O.1.2.1 hd ht (fun h => kt ((iI_eq hb0).mp h) H locs ls hP hD hS hl) (fun h => kf (fun e => h ((iI_eq hb0).mpr e)) H locs ls hP hD hS hl)
theorem g_if_eq (O : Ok X D A cc nL own Ts ret rm) {off : Int} {a : Int} (hd : decode cc pc = .ok (.ifCond .eq off, 3)) (n t : Nat) (hn : pc + 3 = n) (ht : (pc : Int) + off = (t : Int)) (hb : -2147483648 ≤ a ∧ a < 2147483648) (kt : a = 0 → G X D A nL Q cs ss t L st ws) (kf : ¬ a = 0 → G X D A nL Q cs ss n L st ws) : G X D A nL Q cs ss pc L (vi a :: st) ws := by
  subst hn
  have hb0 : -2147483648 ≤ a ∧ a < 2147483648 ∧ -2147483648 ≤ (0 : Int) ∧ (0 : Int) < 2147483648 := ⟨hb.1, hb.2, by decide, by decide⟩
  have hb1 : -2147483648 ≤ (0 : Int) ∧ (0 : Int) < 2147483648 ∧ -2147483648 ≤ a ∧ a < 2147483648 := ⟨by decide, by decide, hb.1, hb.2⟩
  intro H locs ls hP hD hS hl
  exact lv_if_eq O.1.1 O.1.2.1 hd ht (fun h => kt ((iI_eq hb0).mp h) H locs ls hP hD hS hl) (fun h => kf (fun e => h ((iI_eq hb0).mpr e)) H locs ls hP hD hS hl)
theorem g_icmp_ne (O : Ok X D A cc nL own Ts ret rm) {off : Int} {a b : Int} (hd : decode cc pc = .ok (.if_icmp .ne off, 3)) (n t : Nat) (hn : pc + 3 = n) (ht : (pc : Int) + off = (t : Int)) (hb : -2147483648 ≤ a ∧ a < 2147483648 ∧ -2147483648 ≤ b ∧ b < 2147483648) (kt : ¬ a = b → G X D A nL Q cs ss t L st ws) (kf : a = b → G X D A nL Q cs ss n L st ws) : G X D A nL Q cs ss pc L (vi b :: vi a :: st) ws := by
  subst hn
  have hb0 := hb
  have hb1 : -2147483648 ≤ b ∧ b < 2147483648 ∧ -2147483648 ≤ a ∧ a < 2147483648 := ⟨hb.2.2.1, hb.2.2.2, hb.1, hb.2.1⟩
  intro H locs ls hP hD hS hl
  exact lv_icmp_ne O.1.1 O.1.2.1 hd ht (fun h => kt (fun e => h ((iI_eq hb0).mpr e)) H locs ls hP hD hS hl) (fun h => kf ((iI_eq hb0).mp h) H locs ls hP hD hS hl)
theorem g_if_ne (O : Ok X D A cc nL own Ts ret rm) {off : Int} {a : Int} (hd : decode cc pc = .ok (.ifCond .ne off, 3)) (n t : Nat) (hn : pc + 3 = n) (ht : (pc : Int) + off = (t : Int)) (hb : -2147483648 ≤ a ∧ a < 2147483648) (kt : ¬ a = 0 → G X D A nL Q cs ss t L st ws) (kf : a = 0 → G X D A nL Q cs ss n L st ws) : G X D A nL Q cs ss pc L (vi a :: st) ws := by
  subst hn
  have hb0 : -2147483648 ≤ a ∧ a < 2147483648 ∧ -2147483648 ≤ (0 : Int) ∧ (0 : Int) < 2147483648 := ⟨hb.1, hb.2, by decide, by decide⟩
  have hb1 : -2147483648 ≤ (0 : Int) ∧ (0 : Int) < 2147483648 ∧ -2147483648 ≤ a ∧ a < 2147483648 := ⟨by decide, by decide, hb.1, hb.2⟩
  intro H locs ls hP hD hS hl
  exact lv_if_ne O.1.1 O.1.2.1 hd ht (fun h => kt (fun e => h ((iI_eq hb0).mpr e)) H locs ls hP hD hS hl) (fun h => kf ((iI_eq hb0).mp h) H locs ls hP hD hS hl)
theorem g_icmp_lt (O : Ok X D A cc nL own Ts ret rm) {off : Int} {a b : Int} (hd : decode cc pc = .ok (.if_icmp .lt off, 3)) (n t : Nat) (hn : pc + 3 = n) (ht : (pc : Int) + off = (t : Int)) (hb : -2147483648 ≤ a ∧ a < 2147483648 ∧ -2147483648 ≤ b ∧ b < 2147483648) (kt : a < b → G X D A nL Q cs ss t L st ws) (kf : b ≤ a → G X D A nL Q cs ss n L st ws) : G X D A nL Q cs ss pc L (vi b :: vi a :: st) ws := by
  subst hn
  have hb0 := hb
  have hb1 : -2147483648 ≤ b ∧ b < 2147483648 ∧ -2147483648 ≤ a ∧ a < 2147483648 := ⟨hb.2.2.1, hb.2.2.2, hb.1, hb.2.1⟩
  intro H locs ls hP hD hS hl
  exact lv_icmp_lt O.1.1 O.1.2.1 hd ht (fun h => kt ((iI_lt hb0).mp h) H locs ls hP hD hS hl) (fun h => kf (Int.not_lt.mp (fun e => h ((iI_lt hb0).mpr e))) H locs ls hP hD hS hl)
theorem g_if_lt (O : Ok X D A cc nL own Ts ret rm) {off : Int} {a : Int} (hd : decode cc pc = .ok (.ifCond .lt off, 3)) (n t : Nat) (hn : pc + 3 = n) (ht : (pc : Int) + off = (t : Int)) (hb : -2147483648 ≤ a ∧ a < 2147483648) (kt : a < 0 → G X D A nL Q cs ss t L st ws) (kf : 0 ≤ a → G X D A nL Q cs ss n L st ws) : G X D A nL Q cs ss pc L (vi a :: st) ws := by
  subst hn
  have hb0 : -2147483648 ≤ a ∧ a < 2147483648 ∧ -2147483648 ≤ (0 : Int) ∧ (0 : Int) < 2147483648 := ⟨hb.1, hb.2, by decide, by decide⟩
  have hb1 : -2147483648 ≤ (0 : Int) ∧ (0 : Int) < 2147483648 ∧ -2147483648 ≤ a ∧ a < 2147483648 := ⟨by decide, by decide, hb.1, hb.2⟩
  intro H locs ls hP hD hS hl
  exact lv_if_lt O.1.1 O.1.2.1 hd ht (fun h => kt ((iI_lt hb0).mp h) H locs ls hP hD hS hl) (fun h => kf (Int.not_lt.mp (fun e => h ((iI_lt hb0).mpr e))) H locs ls hP hD hS hl)
theorem g_icmp_ge (O : Ok X D A cc nL own Ts ret rm) {off : Int} {a b : Int} (hd : decode cc pc = .ok (.if_icmp .ge off, 3)) (n t : Nat) (hn : pc + 3 = n) (ht : (pc : Int) + off = (t : Int)) (hb : -2147483648 ≤ a ∧ a < 2147483648 ∧ -2147483648 ≤ b ∧ b < 2147483648) (kt : b ≤ a → G X D A nL Q cs ss t L st ws) (kf : a < b → G X D A nL Q cs ss n L st ws) : G X D A nL Q cs ss pc L (vi b :: vi a :: st) ws := by
  subst hn
  have hb0 := hb
  have hb1 : -2147483648 ≤ b ∧ b < 2147483648 ∧ -2147483648 ≤ a ∧ a < 2147483648 := ⟨hb.2.2.1, hb.2.2.2, hb.1, hb.2.1⟩
  intro H locs ls hP hD hS hl
  exact lv_icmp_ge O.1.1 O.1.2.1 hd ht (fun h => kt ((iI_le hb1).mp h) H locs ls hP hD hS hl) (fun h => kf (Int.not_le.mp (fun e => h ((iI_le hb1).mpr e))) H locs ls hP hD hS hl)
theorem g_if_ge (O : Ok X D A cc nL own Ts ret rm) {off : Int} {a : Int} (hd : decode cc pc = .ok (.ifCond .ge off, 3)) (n t : Nat) (hn : pc + 3 = n) (ht : (pc : Int) + off = (t : Int)) (hb : -2147483648 ≤ a ∧ a < 2147483648) (kt : 0 ≤ a → G X D A nL Q cs ss t L st ws) (kf : a < 0 → G X D A nL Q cs ss n L st ws) : G X D A nL Q cs ss pc L (vi a :: st) ws := by
  subst hn
  have hb0 : -2147483648 ≤ a ∧ a < 2147483648 ∧ -2147483648 ≤ (0 : Int) ∧ (0 : Int) < 2147483648 := ⟨hb.1, hb.2, by decide, by decide⟩
  have hb1 : -2147483648 ≤ (0 : Int) ∧ (0 : Int) < 2147483648 ∧ -2147483648 ≤ a ∧ a < 2147483648 := ⟨by decide, by decide, hb.1, hb.2⟩
  intro H locs ls hP hD hS hl
  exact lv_if_ge O.1.1 O.1.2.1 hd ht (fun h => kt ((iI_le hb1).mp h) H locs ls hP hD hS hl) (fun h => kf (Int.not_le.mp (fun e => h ((iI_le hb1).mpr e))) H locs ls hP hD hS hl)
theorem g_icmp_gt (O : Ok X D A cc nL own Ts ret rm) {off : Int} {a b : Int} (hd : decode cc pc = .ok (.if_icmp .gt off, 3)) (n t : Nat) (hn : pc + 3 = n) (ht : (pc : Int) + off = (t : Int)) (hb : -2147483648 ≤ a ∧ a < 2147483648 ∧ -2147483648 ≤ b ∧ b < 2147483648) (kt : b < a → G X D A nL Q cs ss t L st ws) (kf : a ≤ b → G X D A nL Q cs ss n L st ws) : G X D A nL Q cs ss pc L (vi b :: vi a :: st) ws := by
  subst hn
  have hb0 := hb
  have hb1 : -2147483648 ≤ b ∧ b < 2147483648 ∧ -2147483648 ≤ a ∧ a < 2147483648 := ⟨hb.2.2.1, hb.2.2.2, hb.1, hb.2.1⟩
  intro H locs ls hP hD hS hl
  exact lv_icmp_gt O.1.1 O.1.2.1 hd ht (fun h => kt ((iI_lt hb1).mp h) H locs ls hP hD hS hl) (fun h => kf (Int.not_lt.mp (fun e => h ((iI_lt hb1).mpr e))) H locs ls hP hD hS hl)
theorem g_if_gt (O : Ok X D A cc nL own Ts ret rm) {off : Int} {a : Int} (hd : decode cc pc = .ok (.ifCond .gt off, 3)) (n t : Nat) (hn : pc + 3 = n) (ht : (pc : Int) + off = (t : Int)) (hb : -2147483648 ≤ a ∧ a < 2147483648) (kt : 0 < a → G X D A nL Q cs ss t L st ws) (kf : a ≤ 0 → G X D A nL Q cs ss n L st ws) : G X D A nL Q cs ss pc L (vi a :: st) ws := by
  subst hn
  have hb0 : -2147483648 ≤ a ∧ a < 2147483648 ∧ -2147483648 ≤ (0 : Int) ∧ (0 : Int) < 2147483648 := ⟨hb.1, hb.2, by decide, by decide⟩
  have hb1 : -2147483648 ≤ (0 : Int) ∧ (0 : Int) < 2147483648 ∧ -2147483648 ≤ a ∧ a < 2147483648 := ⟨by decide, by decide, hb.1, hb.2⟩
  intro H locs ls hP hD hS hl
  exact lv_if_gt O.1.1 O.1.2.1 hd ht (fun h => kt ((iI_lt hb1).mp h) H locs ls hP hD hS hl) (fun h => kf (Int.not_lt.mp (fun e => h ((iI_lt hb1).mpr e))) H locs ls hP hD hS hl)
theorem g_icmp_le (O : Ok X D A cc nL own Ts ret rm) {off : Int} {a b : Int} (hd : decode cc pc = .ok (.if_icmp .le off, 3)) (n t : Nat) (hn : pc + 3 = n) (ht : (pc : Int) + off = (t : Int)) (hb : -2147483648 ≤ a ∧ a < 2147483648 ∧ -2147483648 ≤ b ∧ b < 2147483648) (kt : a ≤ b → G X D A nL Q cs ss t L st ws) (kf : b < a → G X D A nL Q cs ss n L st ws) : G X D A nL Q cs ss pc L (vi b :: vi a :: st) ws := by
  subst hn
  have hb0 := hb
  have hb1 : -2147483648 ≤ b ∧ b < 2147483648 ∧ -2147483648 ≤ a ∧ a < 2147483648 := ⟨hb.2.2.1, hb.2.2.2, hb.1, hb.2.1⟩
  intro H locs ls hP hD hS hl
  exact lv_icmp_le O.1.1 O.1.2.1 hd ht (fun h => kt ((iI_le hb0).mp h) H locs ls hP hD hS hl) (fun h => kf (Int.not_le.mp (fun e => h ((iI_le hb0).mpr e))) H locs ls hP hD hS hl)
theorem g_if_le (O : Ok X D A cc nL own Ts ret rm) {off : Int} {a : Int} (hd : decode cc pc = .ok (.ifCond .le off, 3)) (n t : Nat) (hn : pc + 3 = n) (ht : (pc : Int) + off = (t : Int)) (hb : -2147483648 ≤ a ∧ a < 2147483648) (kt : a ≤ 0 → G X D A nL Q cs ss t L st ws) (kf : 0 < a → G X D A nL Q cs ss n L st ws) : G X D A nL Q cs ss pc L (vi a :: st) ws := by
  subst hn
  have hb0 : -2147483648 ≤ a ∧ a < 2147483648 ∧ -2147483648 ≤ (0 : Int) ∧ (0 : Int) < 2147483648 := ⟨hb.1, hb.2, by decide, by decide⟩
  have hb1 : -2147483648 ≤ (0 : Int) ∧ (0 : Int) < 2147483648 ∧ -2147483648 ≤ a ∧ a < 2147483648 := ⟨by decide, by decide, hb.1, hb.2⟩
  intro H locs ls hP hD hS hl
  exact lv_if_le O.1.1 O.1.2.1 hd ht (fun h => kt ((iI_le hb0).mp h) H locs ls hP hD hS hl) (fun h => kf (Int.not_le.mp (fun e => h ((iI_le hb0).mpr e))) H locs ls hP hD hS hl)
end GBranch
section GMem
variable {X : CX} {D : DD} {A : Nat → Prop} {cc : ByteArray} {nL : Nat} {own : String} {Ts : List Cond} {ret : Option FieldType} {rm : Room} {Q : State → Prop} {cs ss pc : Nat} {L : List (Nat × Value)} {st : List Value} {ws : va_W}
/-- a field's link in a method's words: class ci of vwCl, its field k, the pool's place index -/
def FK (own : String) (Ts : List Cond) (index ci k : Nat) : Prop := ∃ (C : String) (T : u_T) (N : Nat), vwCl[ci]? = some (C, T, N) ∧ (∀ w ∈ u_ws C T N, w ∈ Ts) ∧ k < N ∧ Cond.fieldLink own index (T k).1 (T k).2.1 (T k).2.2.1 ∈ Ts
/-- what a class says of its field k: its type, and whether it is final -/
def FP (ci k : Nat) (fin : Bool) (ty : FieldType) : Prop := ∃ (C : String) (T : u_T) (N : Nat) (ty0 : Nat → FieldType), vwCl[ci]? = some (C, T, N) ∧ (∀ j, j < N → parseFieldDescriptor (T j).2.2.1 = some (ty0 j)) ∧ (∀ a, a < N → ∀ b, b < N → a ≠ b → (T a).2.1 ≠ (T b).2.1) ∧ (T k).2.2.2 = fin ∧ parseFieldDescriptor (T k).2.2.1 = some ty
theorem g_get (O : Ok X D A cc nL own Ts ret rm) {index a : Nat} (hd : decode cc pc = .ok (.getfield index, 3)) (n : Nat) (hn : pc + 3 = n) {ci k : Nat} (hf : FK own Ts index ci k) (q0 : Nat) {fs : List Value} {v : Value} (hq : ws[q0]? = some (a, co ci fs)) (hv : fs[k]? = some v) (kk : G X D A nL Q cs ss n L (v :: st) ws) : G X D A nL Q cs ss pc L (.ref a :: st) ws := by
  subst hn; intro H locs ls hP hD hS hl
  obtain ⟨C, T, N, h1, h2, h3, h4⟩ := hf
  exact va_get (D := D.1) (ci := ci) (v := v) (C := C) (T := T) (N := N) O.1.1 O.1.2.1 O.1.2.2.2.2 h2 O.1.2.2.2.1 O.2.1.1 hP q0 hq h1 k h3 (O.1.2.2.2.2 _ h4) (fun _ h => h) hv hd (kk H locs ls hP hD hS hl)
theorem g_put (O : Ok X D A cc nL own Ts ret rm) {index a : Nat} (hd : decode cc pc = .ok (.putfield index, 3)) (n : Nat) (hn : pc + 3 = n) {ci k : Nat} (hf : FK own Ts index ci k) {ty : FieldType} (hp : FP ci k false ty) (q0 : Nat) {fs : List Value} {v : Value} (hq : ws[q0]? = some (a, co ci fs)) (hnr : narrow ty v = v) (hft : fits ty v = true) (hk : k < fs.length) (ws' : va_W) (hw : ws.set q0 (a, co ci (fs.set k v)) = ws') (kk : G X D A nL Q cs ss n L st ws') : G X D A nL Q cs ss pc L (v :: .ref a :: st) ws := by
  subst hn; subst hw; intro H locs ls hP hD hS hl
  obtain ⟨C, T, N, h1, h2, h3, h4⟩ := hf
  obtain ⟨C', T', N', ty0, g1, g2, g3, g4, g5⟩ := hp
  cases h1.symm.trans g1
  exact va_put (D := D.1) (ci := ci) (v := v) (ty := ty) (C := C) (T := T) (N := N) O.1.1 O.1.2.1 O.1.2.2.2.2 h2 ty0 g2 g3 O.1.2.2.2.1 O.2.1.1 hP hD hS q0 hq h1 k h3 (O.1.2.2.2.2 _ h4) (fun _ h => h) g4 g5 hnr hft hk hd (fun H locs hP hD hS => kk H locs ls hP hD hS hl)
theorem g_putF (O : Ok X D A cc nL own Ts ret rm) (hin : X.2.2.2.2.2.2.2.2.1.name = "<init>") {index a : Nat} (hd : decode cc pc = .ok (.putfield index, 3)) (n : Nat) (hn : pc + 3 = n) {ci k : Nat} (hf : FK own Ts index ci k) {ty : FieldType} (hp : FP ci k true ty) (ho : ∀ C T N, vwCl[ci]? = some (C, T, N) → (T k).1 = own) (q0 : Nat) {fs : List Value} {v : Value} (hq : ws[q0]? = some (a, co ci fs)) (hnr : narrow ty v = v) (hft : fits ty v = true) (hk : k < fs.length) (ws' : va_W) (hw : ws.set q0 (a, co ci (fs.set k v)) = ws') (kk : G X D A nL Q cs ss n L st ws') : G X D A nL Q cs ss pc L (v :: .ref a :: st) ws := by
  subst hn; subst hw; intro H locs ls hP hD hS hl
  obtain ⟨C, T, N, h1, h2, h3, h4⟩ := hf
  obtain ⟨C', T', N', ty0, g1, g2, g3, g4, g5⟩ := hp
  cases h1.symm.trans g1
  exact va_putF (D := D.1) (ci := ci) (v := v) (ty := ty) (C := C) (T := T) (N := N) O.1.1 O.1.2.1 O.1.2.2.2.2 h2 ty0 g2 g3 O.1.2.2.2.1 O.2.1.1 hP hD hS q0 hq h1 k h3 (O.1.2.2.2.2 _ h4) (fun _ h => h) g4 hin (ho _ _ _ h1) g5 hnr hft hk hd (fun H locs hP hD hS => kk H locs ls hP hD hS hl)
theorem g_iald (O : Ok X D A cc nL own Ts ret rm) {a z : Nat} {i : Int} {f : Int → Int} (hd : decode cc pc = .ok (.iaload, 1)) (n : Nat) (hn : pc + 1 = n) (q0 : Nat) (hq : ws[q0]? = some (a, ca D z f)) (hz : z < 2147483648) (hi : 0 ≤ i ∧ i < (z : Int)) (kk : G X D A nL Q cs ss n L (vi (f i) :: st) ws) : G X D A nL Q cs ss pc L (vi i :: .ref a :: st) ws := by
  subst hn; intro H locs ls hP hD hS hl
  refine va_iald O.1.1 O.1.2.1 O.2.1.1 hP q0 0 hq rfl (iI_in hz hi) hd ?_
  rw [iI_cl (by omega) (by omega), show ar f i.toNat = iI (f i) by rw [ar, Int.toNat_of_nonneg hi.1]]
  exact kk H locs ls hP hD hS hl
theorem g_iast (O : Ok X D A cc nL own Ts ret rm) {a z : Nat} {i x : Int} {f : Int → Int} (hd : decode cc pc = .ok (.iastore, 1)) (n : Nat) (hn : pc + 1 = n) (q0 : Nat) (hq : ws[q0]? = some (a, ca D z f)) (hz : z < 2147483648) (hi : 0 ≤ i ∧ i < (z : Int)) (ws' : va_W) (hw : ws.set q0 (a, ca D z (up f i x)) = ws') (kk : G X D A nL Q cs ss n L st ws') : G X D A nL Q cs ss pc L (vi x :: vi i :: .ref a :: st) ws := by
  subst hn; subst hw; intro H locs ls hP hD hS hl
  refine va_iast O.1.1 O.1.2.1 O.2.1.1 hP hD hS q0 0 hq rfl (iI_in hz hi) hd (fun H locs hP hD hS => ?_)
  rw [iI_cl (by omega) (by omega), ar_up f x hi.1] at hP hD
  exact kk H locs ls hP hD hS hl
theorem g_aald (O : Ok X D A cc nL own Ts ret rm) {a z : Nat} {i : Int} {f : Nat → Option Nat} (hd : decode cc pc = .ok (.aaload, 1)) (n : Nat) (hn : pc + 1 = n) (q0 : Nat) (hq : ws[q0]? = some (a, cq D z f)) (hz : z < 2147483648) (hi : 0 ≤ i ∧ i < (z : Int)) (b : Nat) (hb : f i.toNat = some b) (kk : G X D A nL Q cs ss n L (.ref b :: st) ws) : G X D A nL Q cs ss pc L (vi i :: .ref a :: st) ws := by
  subst hn; intro H locs ls hP hD hS hl
  refine va_aldq O.1.1 O.1.2.1 O.2.1.1 hP q0 1 hq rfl (iI_in hz hi) hd ?_
  rw [iI_cl (by omega) (by omega), hb]
  exact kk H locs ls hP hD hS hl
theorem g_aast (O : Ok X D A cc nL own Ts ret rm) {a z : Nat} {i : Int} {f : Nat → Option Nat} {b : Nat} (hd : decode cc pc = .ok (.aastore, 1)) (n : Nat) (hn : pc + 1 = n) (q0 qk : Nat) (hq : ws[q0]? = some (a, cq D z f)) {vs : List Value} (hv : ws[qk]? = some (b, co 3 vs)) (hz : z < 2147483648) (hi : 0 ≤ i ∧ i < (z : Int)) (f' : Nat → Option Nat) (hf : va_up f i.toNat (some b) = f') (ws' : va_W) (hw : ws.set q0 (a, cq D z f') = ws') (kk : G X D A nL Q cs ss n L st ws') : G X D A nL Q cs ss pc L (.ref b :: vi i :: .ref a :: st) ws := by
  subst hn; subst hw; subst hf; intro H locs ls hP hD hS hl
  refine va_astq O.1.1 O.1.2.1 O.2.1.1 hP hD hS q0 1 qk 3 (r := (RX3, TX3, 1)) hq rfl hv rfl (iI_in hz hi) hd (fun H locs hP hD hS => ?_)
  rw [iI_cl (by omega) (by omega)] at hP hD
  exact kk H locs ls hP hD hS hl
/-- the static table -/
theorem g_getsT (O : Ok X D A cc nL own Ts ret rm) {index : Nat} (hd : decode cc pc = .ok (.getstatic index, 3)) (n : Nat) (hn : pc + 3 = n) (hl0 : Cond.fieldLink own index "PopularMatchings$ChallengerSearch" "FILL_OF_POST" "[I" ∈ Ts) (kk : G X D A nL Q cs ss n L (.ref D.2.2.2 :: st) ws) : G X D A nL Q cs ss pc L st ws := by
  subst hn; intro H locs ls hP hD hS hl
  exact va_gets O.1.1 O.1.2.1 O.2.1.2.1 hS O.1.2.2.2.1 (O.1.2.2.2.2 _ hl0) (fun _ h => h) hd (kk H locs ls hP hD hS hl)
theorem g_ialdT (O : Ok X D A cc nL own Ts ret rm) {i : Int} (hd : decode cc pc = .ok (.iaload, 1)) (n : Nat) (hn : pc + 1 = n) (hi : 0 ≤ i ∧ i < 6) (kk : G X D A nL Q cs ss n L (vi (pw3 i) :: st) ws) : G X D A nL Q cs ss pc L (vi i :: .ref D.2.2.2 :: st) ws := by
  subst hn; intro H locs ls hP hD hS hl
  refine va_ti O.1.1 O.1.2.1 O.2.1.2.2.1 hS (iI_in (n := 6) (by decide) (by simpa using hi)) (v := vi (pw3 i)) ?_ hd (kk H locs ls hP hD hS hl)
  show vi (pw3 ((iI i).toNatClampNeg : Int)) = _
  rw [iI_cl (by omega) (by omega), Int.toNat_of_nonneg hi.1]
/-- an array's contents by another function that agrees on its places -/
theorem ca_eq {D : DD} {z : Nat} {f g : Int → Int} (h : ∀ k : Int, 0 ≤ k → k < (z : Int) → f k = g k) : vp_cell D.2.1 (z, .inl (ar f)) = vp_cell D.2.1 (z, .inl (ar g)) := by
  rw [vp_cell_i, vp_cell_i, arrV, arrV]
  congr 1
  apply Array.ext
  · simp
  · intro j h1 h2
    have hj : j < z := by simpa using h1
    simp [ar, h (j : Int) (by omega) (by omega)]
theorem g_arr (q0 : Nat) {a z : Nat} {f : Int → Int} (g : Int → Int) (hq : ws[q0]? = some (a, ca D z f)) (h : ∀ k : Int, 0 ≤ k → k < (z : Int) → f k = g k) (ws' : va_W) (hw : ws.set q0 (a, ca D z g) = ws') (kk : G X D A nL Q cs ss pc L st ws') : G X D A nL Q cs ss pc L st ws := by
  subst hw; intro H locs ls hP hD hS hl
  refine kk H locs ls (hP.set hD hq ?_ (fun _ _ => rfl)) (hD.set hq) hS hl
  show H[a]? = some (vp_cell D.2.1 (z, .inl (ar g)))
  rw [← ca_eq h]
  exact hP q0 _ hq
/-- fewer locals, in any order -/
theorem g_loc {L' : List (Nat × Value)} (ks : List Nat) (hL : lv_pick L ks = L') (kk : G X D A nL Q cs ss pc L' st ws) : G X D A nL Q cs ss pc L st ws := by
  intro H locs ls hP hD hS hl
  exact kk H locs ls hP hD hS (lv_sub hl ks hL)
theorem g_widen (cs' ss' : Nat) (h1 : cs ≤ cs') (h2 : ss ≤ ss') (kk : G X D A nL Q cs' ss' pc L st ws) : G X D A nL Q cs ss pc L st ws := by
  intro H locs ls hP hD hS hl
  exact W.widen h1 h2 (kk H locs ls hP hD hS hl)
theorem g_max (O : Ok X D A cc nL own Ts ret rm) {index : Nat} {a b : Int} (hd : decode cc pc = .ok (.invokestatic index, 3)) (n : Nat) (hn : pc + 3 = n) (h1 : Cond.methodLink own index Lib.Math.max.name ∈ Ts) (h2 : Cond.static Lib.Math.max.name ∈ Ts) (h3 : Cond.initialized "java/lang/Math" ∈ Ts) (h4 : Cond.code Lib.Math.max.name Lib.Math.max.code 2 (some .int) ∈ Ts) (hfr : 1 ≤ rm.frames) (hlo : (st.map fun v => v.category).sum + 13 ≤ rm.locals) (hcs : cs ≤ rm.cells) (hss : ss ≤ rm.slots) (hb : -2147483648 ≤ a ∧ a < 2147483648 ∧ -2147483648 ≤ b ∧ b < 2147483648) (kk : G X D A nL Q cs ss n L (vi (if a < b then b else a) :: st) ws) : G X D A nL Q cs ss pc L (vi b :: vi a :: st) ws := by
  subst hn; intro H locs ls hP hD hS hl
  have hR : X.2.2.2.1 = rm := O.2.2.2.2.2
  exact va_mmax O.1.1 O.1.2.1 (O.1.2.2.1.trans hl.1.symm) O.1.2.2.2.1 (O.1.2.2.2.2 _ h1) (O.1.2.2.2.2 _ h2) (O.1.2.2.2.2 _ h3) (O.1.2.2.2.2 _ h4) (by rw [hR]; exact hfr) (by rw [hR]; exact hlo) (by rw [hR]; exact hcs) (by rw [hR]; exact hss) hd (by rw [iI_max hb]; exact kk H locs ls hP hD hS hl)
theorem g_min (O : Ok X D A cc nL own Ts ret rm) {index : Nat} {a b : Int} (hd : decode cc pc = .ok (.invokestatic index, 3)) (n : Nat) (hn : pc + 3 = n) (h1 : Cond.methodLink own index Lib.Math.min.name ∈ Ts) (h2 : Cond.static Lib.Math.min.name ∈ Ts) (h3 : Cond.initialized "java/lang/Math" ∈ Ts) (h4 : Cond.code Lib.Math.min.name Lib.Math.min.code 2 (some .int) ∈ Ts) (hfr : 1 ≤ rm.frames) (hlo : (st.map fun v => v.category).sum + 13 ≤ rm.locals) (hcs : cs ≤ rm.cells) (hss : ss ≤ rm.slots) (hb : -2147483648 ≤ a ∧ a < 2147483648 ∧ -2147483648 ≤ b ∧ b < 2147483648) (kk : G X D A nL Q cs ss n L (vi (if b < a then b else a) :: st) ws) : G X D A nL Q cs ss pc L (vi b :: vi a :: st) ws := by
  subst hn; intro H locs ls hP hD hS hl
  have hR : X.2.2.2.1 = rm := O.2.2.2.2.2
  exact va_mmin O.1.1 O.1.2.1 (O.1.2.2.1.trans hl.1.symm) O.1.2.2.2.1 (O.1.2.2.2.2 _ h1) (O.1.2.2.2.2 _ h2) (O.1.2.2.2.2 _ h3) (O.1.2.2.2.2 _ h4) (by rw [hR]; exact hfr) (by rw [hR]; exact hlo) (by rw [hR]; exact hcs) (by rw [hR]; exact hss) hd (by rw [iI_min hb]; exact kk H locs ls hP hD hS hl)
theorem g_obj (O : Ok X D A cc nL own Ts ret rm) {index a : Nat} (hd : decode cc pc = .ok (.invokespecial index, 3)) (n : Nat) (hn : pc + 3 = n) (h1 : Cond.methodLink own index objectInit ∈ Ts) (h2 : Cond.instanceMethod objectInit ∈ Ts) (h3 : Cond.code objectInit ⟨#[0xb1]⟩ 1 none ∈ Ts) (hfr : 1 ≤ rm.frames) (hlo : (st.map fun v => v.category).sum + 12 ≤ rm.locals) (kk : G X D A nL Q cs ss n L st ws) : G X D A nL Q cs ss pc L (.ref a :: st) ws := by
  subst hn; intro H locs ls hP hD hS hl
  have hR : X.2.2.2.1 = rm := O.2.2.2.2.2
  refine W.objInit O.1.1 O.1.2.1 O.1.2.2.2.1 (O.1.2.2.2.2 _ h1) (O.1.2.2.2.2 _ h2) (O.1.2.2.2.2 _ h3) rfl (by rw [O.1.2.2.1]; exact hl.1) rfl hd (by rw [hR]; exact hfr) (by rw [hR]; show 2 * 0 + _ + 12 ≤ _; omega) ?_
  exact kk H locs ls hP hD hS hl
end GMem
-- ===== contracts =====
def PB (D : DD) (w0 : va_W) (sz : Nat) (U : State) : Prop := U.heap.size = sz ∧ va_P D.1 vwCl w0 U.heap ∧ KX D (va_A w0 sz) U ∧ va_D (fun _ => True) w0
def QX {S : Type} (D : DD) (A : Nat → Prop) (rv : S → Option Value) (phi : S → Prop) (w1 : S → va_W) : Array Value → State → Outcome → State → Prop :=
  fun _ st oc t => (∃ u : S, oc = .returned (rv u) ∧ phi u ∧ va_P D.1 vwCl (w1 u) t.heap ∧ va_D A (w1 u)) ∧ va_F A st t
def Con {S : Type} (D : DD) (y : MethodName) (wsc : List Cond) (rm : Room) (mc ms : Nat) (av : List Value) (w0 : va_W) (rv : S → Option Value) (phi : S → Prop) (w1 : S → va_W) : Prop :=
  ∀ (l : Launch) (sz : Nat), Met l y wsc rm (va_Pc av (PB D w0 sz)) (QX D (va_A w0 sz) rv phi w1) mc ms (va_A w0 sz)
def RQ {S : Type} (X : CX) (D : DD) (A : Nat → Prop) (rv : S → Option Value) (phi : S → Prop) (w1 : S → va_W) (mc ms : Nat) : State → Prop :=
  MQ X.2.2.2.2.2.2.2.1 (QX D A rv phi w1) X.2.2.2.2.2.2.1 X.2.2.2.2.1 mc ms A
theorem Con.of {S : Type} {D : DD} {y : MethodName} {wsc ws' : List Cond} {rm : Room} {mc ms : Nat} {av : List Value} {w0 : va_W} {rv : S → Option Value} {phi : S → Prop} {w1 : S → va_W} {cc : ByteArray} {nL : Nat} {ret : Option FieldType}
    (hw : wsc = Cond.code y cc nL ret :: ws') (hpl : plainName y.cls = true) (hn : (lg_sl av).length ≤ nL)
    (body : ∀ (X : CX) (A : Nat → Prop) (Q : State → Prop), Ok X D A cc nL y.cls wsc ret rm → Q = RQ X D A rv phi w1 mc ms → X.2.2.2.2.2.2.2.2.1.name = y.name → G X D A nL Q 0 0 0 (lv_args 0 av) [] w0) : Con D y wsc rm mc ms av w0 rv phi w1 := by
  intro l sz
  refine Met.ofW (cc := cc) (maxL := nL) (ret := ret) hpl hw ?_
  intro p e s m args below meth c s₁ B hml hv
  obtain ⟨rfl, hsz, hP, hK, hD0⟩ := hv
  subst hsz
  have hl := lv_entry av hn
  rw [lg_entry_eq]
  have hts := atoms_spec (ws := wsc) B.pre
  refine body (p, l, e, (headSpec wsc rm).room, s, m, av.toArray, below, meth, c) (va_A w0 s.heap.size) _ ⟨⟨B.exec, B.bytes, hml, findClass_of_methodNamed B.named, hts⟩, hK, fun q h => Or.inr h, B.notSynchronized, B.returns, rfl⟩ rfl (name_of_methodNamed B.named B.method).1 s.heap [] _ hP hD0.self va_S.rf hl
section GRet
variable {X : CX} {D : DD} {A : Nat → Prop} {cc : ByteArray} {nL : Nat} {own : String} {Ts : List Cond} {rm : Room} {Q : State → Prop} {cs ss pc : Nat} {L : List (Nat × Value)} {ws : va_W} {S : Type} {rv : S → Option Value} {phi : S → Prop} {w1 : S → va_W} {mc ms : Nat}
theorem g_iret (O : Ok X D A cc nL own Ts (some .int) rm) (hQ : Q = RQ X D A rv phi w1 mc ms) {x : Int} (hd : decode cc pc = .ok (.ireturn, 1)) (u : S) (hv : rv u = some (vi x)) (hw : w1 u = ws) (hp : phi u) (hm : cs ≤ mc ∧ ss ≤ ms) : G X D A nL Q cs ss pc L [vi x] ws := by
  subst hQ; subst hw; intro H locs ls hP hD hS hl
  refine W.widen hm.1 hm.2 ?_
  exact W.iret (v := iI x) O.1.1 O.1.2.1 O.2.2.2.2.1 (fun t ht hW => ⟨⟨u, by rw [hv], hp, by rw [ht]; exact hP, hD⟩, hS.F ht⟩) hS.2.2 hd O.2.2.2.1
theorem g_zret (O : Ok X D A cc nL own Ts (some .boolean) rm) (hQ : Q = RQ X D A rv phi w1 mc ms) {x : Int} (hd : decode cc pc = .ok (.ireturn, 1)) (hx : narrow .boolean (vi x) = vi x) (u : S) (hv : rv u = some (vi x)) (hw : w1 u = ws) (hp : phi u) (hm : cs ≤ mc ∧ ss ≤ ms) : G X D A nL Q cs ss pc L [vi x] ws := by
  subst hQ; subst hw; intro H locs ls hP hD hS hl
  refine W.widen hm.1 hm.2 ?_
  exact W.zret (v := iI x) (ty := .boolean) O.1.1 O.1.2.1 O.2.2.2.2.1 hx (fun t ht hW => ⟨⟨u, by rw [hv], hp, by rw [ht]; exact hP, hD⟩, hS.F ht⟩) hS.2.2 hd O.2.2.2.1
theorem g_vret (O : Ok X D A cc nL own Ts none rm) (hQ : Q = RQ X D A rv phi w1 mc ms) (hd : decode cc pc = .ok (.return_, 1)) (u : S) (hv : rv u = none) (hw : w1 u = ws) (hp : phi u) (hm : cs ≤ mc ∧ ss ≤ ms) : G X D A nL Q cs ss pc L [] ws := by
  subst hQ; subst hw; intro H locs ls hP hD hS hl
  refine W.widen hm.1 hm.2 ?_
  exact W.vret O.1.1 O.1.2.1 O.2.2.2.2.1 (fun t ht hW => ⟨⟨u, by rw [hv], hp, by rw [ht]; exact hP, hD⟩, hS.F ht⟩) hS.2.2 hd O.2.2.2.1
end GRet
-- ===== a callee's world put back into the caller's =====
def wpk : List Nat → va_W → Nat → (Nat × va_E) → (Nat × va_E)
  | [], _, _, q => q
  | _ :: _, [], _, q => q
  | j :: is, x :: w, i, q => cond (Nat.beq j i) x (wpk is w i q)
def wpa (is : List Nat) (w : va_W) : Nat → va_W → va_W
  | _, [] => w.drop is.length
  | i, q :: ws => wpk is w i q :: wpa is w (i + 1) ws
def wput (ws : va_W) (is : List Nat) (w : va_W) : va_W := wpa is w 0 ws
theorem wpk_or : ∀ {is : List Nat} {w : va_W} {i : Nat} {q : Nat × va_E}, is.length ≤ w.length → wpk is w i q ∈ w ∨ (wpk is w i q = q ∧ i ∉ is)
  | [], w, i, q, _ => Or.inr ⟨by cases w <;> rfl, List.not_mem_nil⟩
  | j :: is, [], i, q, h => by simp at h
  | j :: is, x :: w, i, q, h => by
    by_cases e : j = i
    · subst e
      left
      show cond (Nat.beq j j) x _ ∈ _
      rw [Nat.beq_refl]
      exact List.mem_cons_self
    · have hb : Nat.beq j i = false := by
        cases hc : Nat.beq j i with
        | false => rfl
        | true => exact absurd (Nat.eq_of_beq_eq_true hc) e
      have hw : wpk (j :: is) (x :: w) i q = wpk is w i q := by
        show cond (Nat.beq j i) x _ = _
        rw [hb]
        rfl
      rw [hw]
      rcases wpk_or (is := is) (w := w) (i := i) (q := q) (by simpa using h) with h1 | ⟨h1, h2⟩
      · exact Or.inl (List.mem_cons_of_mem _ h1)
      · refine Or.inr ⟨h1, fun z => ?_⟩
        rcases List.mem_cons.mp z with z | z
        · exact e z.symm
        · exact h2 z
theorem wpk_fst : ∀ {is : List Nat} {w : va_W} {i : Nat} {q : Nat × va_E}, (∀ (j : Nat) (x : Nat × va_E), is[j]? = some i → w[j]? = some x → x.1 = q.1) → (wpk is w i q).1 = q.1
  | [], w, i, q, _ => by cases w <;> rfl
  | j :: is, [], i, q, h => rfl
  | j :: is, x :: w, i, q, h => by
    by_cases e : j = i
    · subst e
      show (cond (Nat.beq j j) x _).1 = _
      rw [Nat.beq_refl]
      exact h 0 x rfl rfl
    · have hb : Nat.beq j i = false := by
        cases hc : Nat.beq j i with
        | false => rfl
        | true => exact absurd (Nat.eq_of_beq_eq_true hc) e
      show (cond (Nat.beq j i) x _).1 = _
      rw [hb]
      exact wpk_fst (fun j' x' h1 h2 => h (j' + 1) x' h1 h2)
theorem wpa_mem {is : List Nat} {w : va_W} (hl : is.length ≤ w.length) : ∀ {ws : va_W} {i : Nat} {x : Nat × va_E}, x ∈ wpa is w i ws → x ∈ w ∨ ∃ k, i + k ∉ is ∧ ws[k]? = some x
  | [], i, x, h => Or.inl (List.mem_of_mem_drop h)
  | q :: ws, i, x, h => by
    rcases List.mem_cons.mp (show x ∈ wpk is w i q :: wpa is w (i + 1) ws from h) with h | h
    · rcases wpk_or (is := is) (w := w) (i := i) (q := q) hl with h1 | ⟨h1, h2⟩
      · exact Or.inl (h ▸ h1)
      · exact Or.inr ⟨0, h2, by rw [h, h1]; rfl⟩
    · rcases wpa_mem hl h with h1 | ⟨k, h1, h2⟩
      · exact Or.inl h1
      · exact Or.inr ⟨k + 1, by rwa [show i + (k + 1) = i + 1 + k by omega], h2⟩
theorem wpa_fst {is : List Nat} {w : va_W} : ∀ {ws : va_W} {i : Nat}, (∀ (k : Nat) (q : Nat × va_E), ws[k]? = some q → ∀ (j : Nat) (x : Nat × va_E), is[j]? = some (i + k) → w[j]? = some x → x.1 = q.1) → (wpa is w i ws).map (·.1) = ws.map (·.1) ++ (w.drop is.length).map (·.1)
  | [], i, _ => rfl
  | q :: ws, i, h => by
    show (wpk is w i q).1 :: (wpa is w (i + 1) ws).map (·.1) = q.1 :: (ws.map (·.1) ++ (w.drop is.length).map (·.1))
    rw [show (wpk is w i q).1 = q.1 from wpk_fst (h 0 q rfl), wpa_fst (fun k q' h1 j x h2 h3 => h (k + 1) q' h1 j x (by rw [h2]; congr 1; omega) h3)]
theorem wput_mem {is : List Nat} {ws w : va_W} {q : Nat × va_E} (hl : is.length ≤ w.length) (h : q ∈ wput ws is w) : q ∈ w ∨ ∃ k, k ∉ is ∧ ws[k]? = some q := by
  rcases wpa_mem hl h with h | ⟨k, h1, h2⟩
  · exact Or.inl h
  · exact Or.inr ⟨k, by simpa using h1, h2⟩
theorem wput_fst {is : List Nat} {ws w : va_W} (h : ∀ (j i : Nat) (x q : Nat × va_E), is[j]? = some i → w[j]? = some x → ws[i]? = some q → x.1 = q.1) : (wput ws is w).map (·.1) = ws.map (·.1) ++ (w.drop is.length).map (·.1) :=
  wpa_fst (fun k q h1 j x h2 h3 => h j k x q (by rw [h2]; congr 1; omega) h3 h1)
def aD (A : Nat → Prop) (l : List Nat) : Prop := (∀ i j a : Nat, l[i]? = some a → l[j]? = some a → i = j) ∧ ∀ a ∈ l, A a
theorem va_D_aD {A : Nat → Prop} {ws : va_W} : va_D A ws ↔ aD A (ws.map (·.1)) := by
  constructor
  · intro h
    refine ⟨fun i j a hi hj => ?_, fun a ha => ?_⟩
    · rw [List.getElem?_map] at hi hj
      cases h1 : ws[i]? with
      | none => rw [h1] at hi; cases hi
      | some x =>
        cases h2 : ws[j]? with
        | none => rw [h2] at hj; cases hj
        | some y =>
          rw [h1] at hi; rw [h2] at hj
          exact h.1 i j x y h1 h2 ((Option.some.inj hi).trans (Option.some.inj hj).symm)
    · obtain ⟨x, hx, rfl⟩ := List.mem_map.mp ha
      obtain ⟨k, hk⟩ := List.getElem?_of_mem hx
      exact h.2 k x hk
  · intro h
    refine ⟨fun i j x y hi hj hxy => h.1 i j x.1 (by rw [List.getElem?_map, hi]; rfl) (by rw [List.getElem?_map, hj, hxy]; rfl), fun k x hk => h.2 x.1 (List.mem_map.mpr ⟨x, List.mem_of_getElem? hk, rfl⟩)⟩
theorem map_some_at {is : List Nat} {ws wc : va_W} (h : is.map (fun i => ws[i]?) = wc.map some) {j : Nat} {q : Nat × va_E} (hq : wc[j]? = some q) : ∃ i, is[j]? = some i ∧ ws[i]? = some q := by
  have h1 : (is.map (fun i => ws[i]?))[j]? = some (some q) := by rw [h, List.getElem?_map, hq]; rfl
  rw [List.getElem?_map] at h1
  cases hi : is[j]? with
  | none => rw [hi] at h1; cases h1
  | some i => rw [hi] at h1; exact ⟨i, rfl, Option.some.inj h1⟩
theorem map_some_at' {is : List Nat} {ws wc : va_W} (h : is.map (fun i => ws[i]?) = wc.map some) {j i : Nat} (hi : is[j]? = some i) : ∃ q, wc[j]? = some q ∧ ws[i]? = some q := by
  have h1 : (wc.map some)[j]? = some (ws[i]?) := by rw [← h, List.getElem?_map, hi]; rfl
  rw [List.getElem?_map] at h1
  cases hq : wc[j]? with
  | none => rw [hq] at h1; cases h1
  | some q => rw [hq] at h1; exact ⟨q, rfl, (Option.some.inj h1).symm⟩
/-- behind a call: the callee's cells are put back in their places, its new cells behind all -/
theorem w_join {A : Nat → Prop} {D : DD} {ws wc w1 : va_W} {H H1 : Heap} (hP : va_P D.1 vwCl ws H) (hD : va_D A ws) (is : List Nat) (hC : is.map (fun i => ws[i]?) = wc.map some) (hs : (w1.map (·.1)).take wc.length = wc.map (·.1))
    (hk : ∀ q : Nat, q < H.size → ¬ va_A wc H.size q → H1[q]? = H[q]?) (hF : ∀ q, va_A wc H.size q → A q) (hP1 : va_P D.1 vwCl w1 H1) (hD1 : va_D (va_A wc H.size) w1) : va_P D.1 vwCl (wput ws is w1) H1 ∧ va_D A (wput ws is w1) := by
  have hlen : is.length = wc.length := by simpa using congrArg List.length hC
  have hlen1 : wc.length ≤ w1.length := by
    have h := congrArg List.length hs
    simp at h
    omega
  have hfst : ∀ (j : Nat) (q x : Nat × va_E), wc[j]? = some q → w1[j]? = some x → x.1 = q.1 := by
    intro j q x hq hx
    have hj : j < wc.length := (List.getElem?_eq_some_iff.mp hq).1
    have h1 : ((w1.map (·.1)).take wc.length)[j]? = some x.1 := by
      rw [List.getElem?_take, if_pos hj, List.getElem?_map, hx]; rfl
    rw [hs, List.getElem?_map, hq] at h1
    exact (Option.some.inj h1).symm
  constructor
  · intro k q hq
    rcases wput_mem (by omega) (List.mem_of_getElem? hq) with h | ⟨k', hnot, h⟩
    · obtain ⟨j, hj⟩ := List.getElem?_of_mem h
      exact hP1 j q hj
    · have hl := (hP k' q h).lt
      refine (hP k' q h).kept (hk q.1 hl (fun z => ?_))
      rcases z with ⟨j, e, hj⟩ | z
      · obtain ⟨i, hi, hwi⟩ := map_some_at hC hj
        have := hD.1 k' i q (q.1, e) h hwi rfl
        exact hnot (this ▸ List.mem_of_getElem? hi)
      · omega
  · rw [va_D_aD, wput_fst (fun j i x q' hj hx hq' => by
      obtain ⟨q, hq, hwq⟩ := map_some_at' hC hj
      rw [hwq] at hq'
      rw [← Option.some.inj hq']
      exact hfst j q x hq hx)]
    have hDa := va_D_aD.mp hD
    have hD1a := va_D_aD.mp hD1
    have hnew : ∀ j a : Nat, ((w1.drop is.length).map (·.1))[j]? = some a → (w1.map (·.1))[is.length + j]? = some a := by
      intro j a h
      rw [List.getElem?_map, List.getElem?_drop] at h
      rw [List.getElem?_map]
      exact h
    have hnew2 : ∀ j a : Nat, ((w1.drop is.length).map (·.1))[j]? = some a → H.size ≤ a := by
      intro j a h
      have h2 := hnew j a h
      rcases hD1a.2 a (List.mem_of_getElem? h2) with ⟨k, e, hk'⟩ | z
      · have hkl : k < wc.length := (List.getElem?_eq_some_iff.mp hk').1
        have h3 : ((w1.map (·.1)).take wc.length)[k]? = some a := by rw [hs, List.getElem?_map, hk']; rfl
        rw [List.getElem?_take, if_pos hkl] at h3
        have := hD1a.1 _ _ a h2 h3
        omega
      · exact z
    have hold : ∀ j a : Nat, (ws.map (·.1))[j]? = some a → a < H.size := by
      intro j a h
      rw [List.getElem?_map] at h
      cases hq : ws[j]? with
      | none => rw [hq] at h; cases h
      | some q =>
        rw [hq] at h
        have := (hP j q hq).lt
        cases h
        exact this
    refine ⟨fun i j a hi hj => ?_, fun a ha => ?_⟩
    · rcases Nat.lt_or_ge i (ws.map (·.1)).length with li | li <;> rcases Nat.lt_or_ge j (ws.map (·.1)).length with lj | lj
      · rw [List.getElem?_append_left li] at hi
        rw [List.getElem?_append_left lj] at hj
        exact hDa.1 i j a hi hj
      · rw [List.getElem?_append_left li] at hi
        rw [List.getElem?_append_right lj] at hj
        have := hold _ _ hi
        have := hnew2 _ _ hj
        omega
      · rw [List.getElem?_append_right li] at hi
        rw [List.getElem?_append_left lj] at hj
        have := hold _ _ hj
        have := hnew2 _ _ hi
        omega
      · rw [List.getElem?_append_right li] at hi
        rw [List.getElem?_append_right lj] at hj
        have := hD1a.1 _ _ a (hnew _ _ hi) (hnew _ _ hj)
        omega
    · rcases List.mem_append.mp ha with h | h
      · exact hDa.2 a h
      · obtain ⟨j, hj⟩ := List.getElem?_of_mem h
        exact hF a (Or.inr (hnew2 j a hj))
section GCall
variable {X : CX} {D : DD} {A : Nat → Prop} {cc : ByteArray} {nL : Nat} {own : String} {Ts : List Cond} {ret : Option FieldType} {rm : Room} {Q : State → Prop} {cs ss pc : Nat} {L : List (Nat × Value)} {ws : va_W} {S : Type} {rv : S → Option Value} {phi : S → Prop} {w1 : S → va_W} {mc ms : Nat}
variable {y : MethodName} {wsc wsc' : List Cond} {rmc : Room} {bytes : ByteArray} {maxL na index : Nat} {retc : Option FieldType} {wc : va_W} {As rest st0 : List Value}
theorem g_run {av : List Value} (O : Ok X D A cc nL own Ts ret rm) (is : List Nat) (hnd : va_nd is = true) (hC : is.map (fun i => ws[i]?) = wc.map some) (hs : ∀ u, ((w1 u).map (·.1)).take wc.length = wc.map (·.1))
    (ws1 : S → va_W) (hws : ∀ u, wput ws is (w1 u) = ws1 u) (n : Nat) (hn : pc + 3 = n)
    (run : ∀ (H : Heap) (locs : List Loc) (ls : Array Slot), lv_has ls nL L → va_P D.1 vwCl ws H → FrameBlind (va_Pc av (PB D wc H.size)) → (∀ U : State, U.heap = H → X.2.2.2.2.1.WarmedH U.vm → va_Pc av (PB D wc H.size) av.toArray U) → va_Run X.1 X.2.1 X.2.2.1 X.2.2.2.1 X.2.2.2.2.1 X.2.2.2.2.2.1 X.2.2.2.2.2.2.1 X.2.2.2.2.2.2.2.1 X.2.2.2.2.2.2.2.2.1 X.2.2.2.2.2.2.2.2.2 H locs cs ss mc ms (F0 X.2.2.2.2.2.1 pc ls st0) rest (QX D (va_A wc H.size) rv phi w1 av.toArray) (va_A wc H.size))
    (kk : ∀ u, phi u → G X D A nL Q (cs + mc) (ss + ms) n L ((rv u).toList ++ rest) (ws1 u)) : G X D A nL Q cs ss pc L st0 ws := by
  subst hn
  intro H locs ls hP hD hS hl
  have hF : ∀ q, va_A wc H.size q → A q := va_free hD hS O.2.2.1 is hC
  have hPc : va_P D.1 vwCl wc H := by
    intro k q hk
    obtain ⟨i, -, hi⟩ := map_some_at hC hk
    exact hP i q hi
  have hDc : va_D (fun _ => True) wc := (hD.sub is hnd hC).weaken (fun _ _ _ _ => trivial)
  intro T hT XX
  obtain ⟨v, st₀, t, T', L', h0, X', hL, e1, e2, ⟨⟨u, hv, hp, hP1, hD1⟩, hz, hk⟩, st⟩ := run H locs ls hl hP (fun a U g mk q => by
      obtain ⟨q0, q1, qP, qK, qD⟩ := q
      exact ⟨q0, q1, qP, qK.call, qD⟩) (fun U hU hW => ⟨rfl, by rw [hU], by rw [hU]; exact hPc, O.2.1.pass hS hU hW hF, hDc⟩) T hT XX
  cases hv
  rw [h0] at hz hk
  obtain ⟨hP2, hD2⟩ := w_join hP hD is hC (hs u) hk hF hP1 hD1
  rw [hws u] at hP2 hD2
  obtain ⟨t2, a1, b1⟩ := kk u hp T'.heap (locs ++ L') ls (by rw [e1]; exact hP2) hD2
    ⟨Nat.le_trans hS.1 (by rw [e1]; exact hz), fun q h1 h2 => by rw [e1, hk q (Nat.lt_of_lt_of_le h1 hS.1) (fun z => h2 (hF q z))]; exact hS.2.1 q h1 h2, fun q hq => by
      rcases List.mem_append.mp hq with h | h
      · exact hS.2.2 q h
      · exact hF _ (hL q h)⟩ hl T' rfl X'
  exact ⟨t2, st t2 a1, b1⟩
theorem g_callV {b q0 ci N : Nat} {fs : List Value} {C : String} {T : u_T} (O : Ok X D A cc nL own Ts ret rm) (hM : Con D y wsc rmc mc ms (.ref b :: As) wc rv phi w1) (hd : decode cc pc = .ok (.invokevirtual index, 3)) (hG : GoodIn Ts (wsV own index C y wsc)) (hw : wsc = Cond.code y bytes maxL retc :: wsc') (hrc : rmc.cells = mc ∧ rmc.slots = ms)
    (hdd : y.cls = C ∧ y.cls ≠ "java/lang/invoke/MethodHandle" ∧ y.cls ≠ "java/lang/invoke/VarHandle" ∧ (parseMethodDescriptor y.desc).map (fun d => d.parameters.length) = some na) (hna : As.length = na) (hR : rmc.frames + 1 ≤ rm.frames ∧ 8 + (maxL + 11) + rmc.locals ≤ rm.locals) (hf : cs + mc ≤ rm.cells ∧ ss + ms ≤ rm.slots)
    (hst : st0 = As.reverse ++ .ref b :: rest) (hrest : (rest.map fun v => v.category).sum ≤ 8) (hq : ws[q0]? = some (b, co ci fs)) (hc : vwCl[ci]? = some (C, T, N)) (is : List Nat) (hnd : va_nd is = true) (hC : is.map (fun i => ws[i]?) = wc.map some) (hs : ∀ u, ((w1 u).map (·.1)).take wc.length = wc.map (·.1))
    (ws1 : S → va_W) (hws : ∀ u, wput ws is (w1 u) = ws1 u) (n : Nat) (hn : pc + 3 = n)
    (kk : ∀ u, phi u → G X D A nL Q (cs + mc) (ss + ms) n L ((rv u).toList ++ rest) (ws1 u)) : G X D A nL Q cs ss pc L st0 ws := by
  have hRR : X.2.2.2.1 = rm := O.2.2.2.2.2
  refine g_run (av := .ref b :: As) O is hnd hC hs ws1 hws n hn (fun H locs ls hl hP hB hU => ?_) kk
  exact va_runV (As := As) (rest := rest) O.1 (hM X.2.1 H.size) (cwV na O.1.2.2.2.2 hG hw hrc.1 hrc.2 hdd (by rw [hRR]; exact hR)) ⟨hB, va_recv O.2.1.1 hP hc hq, hU⟩ rfl hna hl.1 hst (lv_room hrest) hd (by rw [hRR]; exact hf)
theorem g_callS (O : Ok X D A cc nL own Ts ret rm) (hM : Con D y wsc rmc mc ms As wc rv phi w1) (hd : decode cc pc = .ok (.invokestatic index, 3)) (hG : GoodIn Ts (va_wsS own index y wsc)) (hw : wsc = Cond.code y bytes maxL retc :: wsc') (hrc : rmc.cells = mc ∧ rmc.slots = ms)
    (hdd : y.cls ≠ "java/lang/invoke/MethodHandle" ∧ y.cls ≠ "java/lang/invoke/VarHandle" ∧ (parseMethodDescriptor y.desc).map (fun d => d.parameters.length) = some na) (hna : As.length = na) (hR : rmc.frames + 1 ≤ rm.frames ∧ 8 + (maxL + 11) + rmc.locals ≤ rm.locals) (hf : cs + mc ≤ rm.cells ∧ ss + ms ≤ rm.slots)
    (hst : st0 = As.reverse ++ rest) (hrest : (rest.map fun v => v.category).sum ≤ 8) (is : List Nat) (hnd : va_nd is = true) (hC : is.map (fun i => ws[i]?) = wc.map some) (hs : ∀ u, ((w1 u).map (·.1)).take wc.length = wc.map (·.1))
    (ws1 : S → va_W) (hws : ∀ u, wput ws is (w1 u) = ws1 u) (n : Nat) (hn : pc + 3 = n)
    (kk : ∀ u, phi u → G X D A nL Q (cs + mc) (ss + ms) n L ((rv u).toList ++ rest) (ws1 u)) : G X D A nL Q cs ss pc L st0 ws := by
  have hRR : X.2.2.2.1 = rm := O.2.2.2.2.2
  refine g_run (av := As) O is hnd hC hs ws1 hws n hn (fun H locs ls hl hP hB hU => ?_) kk
  exact va_runS (As := As) (rest := rest) O.1 (hM X.2.1 H.size) (va_cwS na O.1.2.2.2.2 hG hw hrc.1 hrc.2 hdd (by rw [hRR]; exact hR)) ⟨hB, hU⟩ rfl hna hl.1 hst (lv_room hrest) hd (by rw [hRR]; exact hf)
theorem g_callI {b : Nat} (O : Ok X D A cc nL own Ts ret rm) (hM : Con D y wsc rmc mc ms (.ref b :: As) wc rv phi w1) (hd : decode cc pc = .ok (.invokespecial index, 3)) (hG : GoodIn Ts wsc) (hw : wsc = Cond.code y bytes maxL none :: wsc') (hrc : rmc.cells = mc ∧ rmc.slots = ms) (hi1 : Cond.initialized y.cls ∈ Ts) (hi2 : Cond.methodLink own index y ∈ Ts) (hi3 : Cond.instanceMethod y ∈ Ts) (hy : y.name = "<init>")
    (hdd : y.cls ≠ "java/lang/invoke/MethodHandle" ∧ y.cls ≠ "java/lang/invoke/VarHandle" ∧ (parseMethodDescriptor y.desc).map (fun d => d.parameters.length) = some na) (hna : As.length = na) (hR : rmc.frames + 1 ≤ rm.frames ∧ 8 + (maxL + 11) + rmc.locals ≤ rm.locals) (hf : cs + mc ≤ rm.cells ∧ ss + ms ≤ rm.slots)
    (hst : st0 = As.reverse ++ .ref b :: rest) (hrest : (rest.map fun v => v.category).sum ≤ 8) (is : List Nat) (hnd : va_nd is = true) (hC : is.map (fun i => ws[i]?) = wc.map some) (hs : ∀ u, ((w1 u).map (·.1)).take wc.length = wc.map (·.1))
    (ws1 : S → va_W) (hws : ∀ u, wput ws is (w1 u) = ws1 u) (n : Nat) (hn : pc + 3 = n)
    (kk : ∀ u, phi u → G X D A nL Q (cs + mc) (ss + ms) n L ((rv u).toList ++ rest) (ws1 u)) : G X D A nL Q cs ss pc L st0 ws := by
  have hRR : X.2.2.2.1 = rm := O.2.2.2.2.2
  refine g_run (av := .ref b :: As) O is hnd hC hs ws1 hws n hn (fun H locs ls hl hP hB hU => ?_) kk
  exact va_runI (As := As) (rest := rest) O.1 (hM X.2.1 H.size) (cwI na O.1.2.2.2.2 hG hw hrc.1 hrc.2 (O.1.2.2.2.2 _ hi1) (O.1.2.2.2.2 _ hi2) (O.1.2.2.2.2 _ hi3) hy hdd (by rw [hRR]; exact hR)) ⟨hB, hU⟩ rfl hna hl.1 hst (lv_room hrest) hd (by rw [hRR]; exact hf)
/-- the nest mate's private constructor -/
theorem g_callN {b : Nat} {own' : String} (ho : own = own') (O : Ok X D A cc nL own Ts ret rm) (hM : Con D y wsc rmc mc ms (.ref b :: As) wc rv phi w1) (hd : decode cc pc = .ok (.invokespecial index, 3)) (hl0 : va_Nw (.methodLinkNest own' index y "PopularMatchings") X.2.2.2.2.1) (hG : GoodIn Ts wsc) (hw : wsc = Cond.code y bytes maxL none :: wsc') (hrc : rmc.cells = mc ∧ rmc.slots = ms) (hi1 : Cond.initialized y.cls ∈ Ts) (hi3 : Cond.instanceMethod y ∈ Ts) (hy : y.name = "<init>")
    (hdd : y.cls ≠ "java/lang/invoke/MethodHandle" ∧ y.cls ≠ "java/lang/invoke/VarHandle" ∧ (parseMethodDescriptor y.desc).map (fun d => d.parameters.length) = some na) (hna : As.length = na) (hR : rmc.frames + 1 ≤ rm.frames ∧ 8 + (maxL + 11) + rmc.locals ≤ rm.locals) (hf : cs + mc ≤ rm.cells ∧ ss + ms ≤ rm.slots)
    (hst : st0 = As.reverse ++ .ref b :: rest) (hrest : (rest.map fun v => v.category).sum ≤ 8) (is : List Nat) (hnd : va_nd is = true) (hC : is.map (fun i => ws[i]?) = wc.map some) (hs : ∀ u, ((w1 u).map (·.1)).take wc.length = wc.map (·.1))
    (ws1 : S → va_W) (hws : ∀ u, wput ws is (w1 u) = ws1 u) (n : Nat) (hn : pc + 3 = n)
    (kk : ∀ u, phi u → G X D A nL Q (cs + mc) (ss + ms) n L ((rv u).toList ++ rest) (ws1 u)) : G X D A nL Q cs ss pc L st0 ws := by
  subst ho
  have hRR : X.2.2.2.1 = rm := O.2.2.2.2.2
  refine g_run (av := .ref b :: As) O is hnd hC hs ws1 hws n hn (fun H locs ls hl hP hB hU => ?_) kk
  exact va_runIN (As := As) (rest := rest) O.1 (hM X.2.1 H.size) ⟨va_cnB na O.1.2.2.2.2 hG hw hrc.1 hrc.2 hl0 (O.1.2.2.2.2 _ hi1) hdd (by rw [hRR]; exact hR), hy, O.1.2.2.2.2 _ hi3⟩ ⟨hB, hU⟩ rfl hna hl.1 hst (lv_room hrest) hd (by rw [hRR]; exact hf)
/-- a new object; its cell stands behind all -/
theorem g_new (O : Ok X D A cc nL own Ts ret rm) {C : String} {T : u_T} {N ci : Nat} (ty : Nat → FieldType) (hd : decode cc pc = .ok (.new index, 3)) (hin : ∀ w ∈ u_ws C T N, w ∈ Ts) (hty : ∀ k, k < N → parseFieldDescriptor (T k).2.2.1 = some (ty k)) (h1 : Cond.classLink own index C ∈ Ts) (h2 : Cond.instantiable C N ∈ Ts) (h3 : Cond.initialized C ∈ Ts) (hc : vwCl[ci]? = some (C, T, N)) (fs : List Value) (hfs : ∀ j, j < N → defaultValue (ty j) = vp_V fs j) (hcs : cs + 1 ≤ rm.cells) (hss : ss + N ≤ rm.slots) (n : Nat) (hn : pc + 3 = n)
    (kk : ∀ q : Nat, G X D A nL Q (cs + 1) (ss + N) n L (.ref q :: rest) (ws ++ [(q, co ci fs)])) : G X D A nL Q cs ss pc L rest ws := by
  have hRR : X.2.2.2.1 = rm := O.2.2.2.2.2
  subst hn; intro H locs ls hP hD hS hl
  exact va_new (ci := ci) (fs := fs) (C := C) (T := T) (N := N) O.1.1 O.1.2.1 O.1.2.2.2.2 hin ty hty O.1.2.2.2.1 (O.1.2.2.2.2 _ h1) (O.1.2.2.2.2 _ h2) (O.1.2.2.2.2 _ h3) O.2.1.1 hP hD hS O.2.2.1 hc hfs (by rw [hRR]; exact hcs) (by rw [hRR]; exact hss) hd (fun q H1 hP1 hD1 hS1 => kk q H1 locs ls hP1 hD1 hS1 hl)
/-- a new int[] -/
theorem g_newa (O : Ok X D A cc nL own Ts ret rm) {z : Int} (hd : decode cc pc = .ok (.newarray .int, 2)) (h1 : Cond.arrayClass .int ∈ Ts) (N : Nat) (hz : z = (N : Int) ∧ N ≤ 100000) (hcs : cs + 1 ≤ rm.cells) (hss : ss + N ≤ rm.slots) (n : Nat) (hn : pc + 2 = n)
    (kk : ∀ q : Nat, G X D A nL Q (cs + 1) (ss + N) n L (.ref q :: rest) (ws ++ [(q, ca D N (fun _ => 0))])) : G X D A nL Q cs ss pc L (vi z :: rest) ws := by
  have hRR : X.2.2.2.1 = rm := O.2.2.2.2.2
  subst hn; intro H locs ls hP hD hS hl
  obtain ⟨rfl, hN⟩ := hz
  refine va_newa (atype := .int) (ty := .int) (N' := N) (a0 := (N, .inl (ar (fun _ => 0)))) O.1.1 O.1.2.1 (O.1.2.2.2.2 _ h1) rfl O.2.1.1 hP hD hS O.2.2.1 (fun cA => by rw [vp_cell_i]; rfl) (fun q => by rw [← iI_zero, iI_lt (by omega)] at q; omega) (by rw [iI_cl (by omega) (by omega)]; omega) (by show N * 4 ≤ _; omega) (by rw [hRR]; exact hcs) (by rw [hRR]; exact hss) hd (fun q cA H1 hK1 hP1 hD1 hS1 => ?_)
  have e : cA = D.2.1 := by
    have a1 := (hK1.2 2 (cA, .int) rfl).2
    have a2 := (O.2.1.1.2 0 (D.2.1, .int) rfl).2
    exact Option.some.inj (a1.symm.trans a2)
  subst e
  exact kk q H1 locs ls hP1 hD1 hS1 hl
/-- a new Matching[] -/
theorem g_newq (O : Ok X D A cc nL own Ts ret rm) {z : Int} (hd : decode cc pc = .ok (.anewarray index, 3)) (h1 : Cond.classLink own index "PopularMatchings$Matching" ∈ Ts) (N : Nat) (hz : z = (N : Int) ∧ N ≤ 100000) (hcs : cs + 1 ≤ rm.cells) (hss : ss + N ≤ rm.slots) (n : Nat) (hn : pc + 3 = n)
    (kk : ∀ q : Nat, G X D A nL Q (cs + 1) (ss + N) n L (.ref q :: rest) (ws ++ [(q, cq D N (fun _ => none))])) : G X D A nL Q cs ss pc L (vi z :: rest) ws := by
  have hRR : X.2.2.2.1 = rm := O.2.2.2.2.2
  subst hn; intro H locs ls hP hD hS hl
  obtain ⟨rfl, hN⟩ := hz
  refine va_newq (N' := N) O.1.1 O.1.2.1 O.1.2.2.2.1 (O.1.2.2.2.2 _ h1) O.2.1.2.2.2.1 O.2.1.1 hP hD hS O.2.2.1 (fun q => by rw [← iI_zero, iI_lt (by omega)] at q; omega) (by rw [iI_cl (by omega) (by omega)]; omega) (by omega) (by rw [hRR]; exact hcs) (by rw [hRR]; exact hss) hd (fun q cA H1 hK1 hP1 hD1 hS1 => ?_)
  have e : cA = D.2.2.1 := by
    obtain ⟨-, -, -, -, -, a1⟩ := (hK1.2 2 (cA, .object "PopularMatchings$Matching") rfl).2
    obtain ⟨-, -, -, -, -, a2⟩ := (O.2.1.1.2 1 (D.2.2.1, .object "PopularMatchings$Matching") rfl).2
    exact Option.some.inj (a1.symm.trans a2)
  subst e
  exact kk q H1 locs ls hP1 hD1 hS1 hl
end GCall
section GMore
variable {X : CX} {D : DD} {A : Nat → Prop} {nL : Nat} {Q : State → Prop} {cs ss pc : Nat} {L : List (Nat × Value)} {st : List Value} {ws : va_W}
theorem g_top {x : Int} (kk : ∀ y : Int, y = x → G X D A nL Q cs ss pc L (vi y :: st) ws) : G X D A nL Q cs ss pc L (vi x :: st) ws := kk x rfl
theorem g_q0 {a z : Nat} (q0 : Nat) (hq : ws[q0]? = some (a, cq D z (fun _ => none))) (g : Nat → Option Nat) (ws' : va_W) (hg : g = fun _ => none) (hw : ws.set q0 (a, cq D z g) = ws') (kk : G X D A nL Q cs ss pc L st ws') : G X D A nL Q cs ss pc L st ws := by
  subst hw; subst hg; intro H locs ls hP hD hS hl
  exact kk H locs ls (hP.set hD hq (hP q0 _ hq) (fun _ _ => rfl)) (hD.set hq) hS hl
end GMore
theorem vi_eq {a b : Int} (h : a = b) : some (vi a) = some (vi b) := by rw [h]
/-- a row of addresses -/
def qf (l : List (Option Nat)) : Nat → Option Nat := fun j => (l[j]?).join
theorem qf_none (n : Nat) : qf (List.replicate n none) = fun _ => none := by
  funext j
  unfold qf
  by_cases h : j < n
  · simp [h]
  · simp [h]
theorem qf_up (l : List (Option Nat)) (i : Nat) (b : Nat) (l' : List (Option Nat)) (h : (decide (i < l.length), l.set i (some b)) = (true, l')) : va_up (qf l) i (some b) = qf l' := by
  have h1 := congrArg Prod.fst h
  have h2 := congrArg Prod.snd h
  simp at h1 h2
  subst h2
  funext j
  by_cases e : j = i
  · subst e
    simp [va_up, qf, h1]
  · simp [va_up, qf, e, Ne.symm e]
theorem g_cv {X : CX} {D : DD} {A : Nat → Prop} {nL : Nat} {Q : State → Prop} {cs ss pc : Nat} {L : List (Nat × Value)} {st : List Value} {ws : va_W} {x y : Int} (h : x = y) (kk : G X D A nL Q cs ss pc L (vi y :: st) ws) : G X D A nL Q cs ss pc L (vi x :: st) ws := by rw [h]; exact kk
/-- the same cells in another order -/
theorem g_ws {X : CX} {D : DD} {A : Nat → Prop} {nL : Nat} {Q : State → Prop} {cs ss pc : Nat} {L : List (Nat × Value)} {st : List Value} {ws ws' : va_W} (is : List Nat) (hn : va_nd is = true) (h : is.map (fun i => ws[i]?) = ws'.map some) (kk : G X D A nL Q cs ss pc L st ws') : G X D A nL Q cs ss pc L st ws := by
  intro H locs ls hP hD hS hl
  refine kk H locs ls (fun k q hk => ?_) (hD.sub is hn h) hS hl
  obtain ⟨i, -, hi⟩ := map_some_at h hk
  exact hP i q hi
end
section
-- ===== 04 pure: what the methods compute, over Int =====
/-- the least place below n at which g is p, or n -/
def fnd (g : Int → Int) (p : Int) : Nat → Nat
  | 0 => 0
  | n + 1 => if fnd g p n < n then fnd g p n else if g (n : Int) = p then n else n + 1
theorem fnd_le (g : Int → Int) (p : Int) : ∀ n, fnd g p n ≤ n
  | 0 => Nat.le_refl 0
  | n + 1 => by
    have := fnd_le g p n
    unfold fnd
    split
    · omega
    · split <;> omega
theorem fnd_ne (g : Int → Int) (p : Int) : ∀ (n k : Nat), k < fnd g p n → g (k : Int) ≠ p
  | 0, k, h => absurd h (Nat.not_lt_zero k)
  | n + 1, k, h => by
    have hl := fnd_le g p n
    unfold fnd at h
    split at h
    · exact fnd_ne g p n k h
    · split at h
      · exact fnd_ne g p n k (by omega)
      · rcases Nat.lt_or_ge k n with q | q
        · exact fnd_ne g p n k (by omega)
        · have e : k = n := by omega
          subst e
          assumption
theorem fnd_at (g : Int → Int) (p : Int) : ∀ n : Nat, fnd g p n < n → g (fnd g p n : Int) = p
  | 0, h => absurd h (Nat.not_lt_zero _)
  | n + 1, h => by
    unfold fnd at h ⊢
    split at h
    · rename_i c
      rw [if_pos c]
      exact fnd_at g p n c
    · rename_i c
      rw [if_neg c]
      split at h
      · rename_i c2
        rw [if_pos c2]
        exact c2
      · omega
def rk (g : Int → Int) (p n : Int) : Int := (fnd g p n.toNat : Int)
theorem rk_le (g : Int → Int) (p : Int) {n : Int} (hn : 0 ≤ n) : 0 ≤ rk g p n ∧ rk g p n ≤ n := by
  have := fnd_le g p n.toNat
  unfold rk
  omega
theorem rk_ne {g : Int → Int} {p n k : Int} (h0 : 0 ≤ k) (h : k < rk g p n) : g k ≠ p := by
  have := fnd_ne g p n.toNat k.toNat (by unfold rk at h; omega)
  rwa [Int.toNat_of_nonneg h0] at this
theorem rk_at {g : Int → Int} {p n : Int} (hn : 0 ≤ n) (h : rk g p n < n) : g (rk g p n) = p := fnd_at g p n.toNat (by unfold rk at h; omega)
theorem rk_uniq {g : Int → Int} {p n r : Int} (h0 : 0 ≤ r) (h1 : r ≤ n) (h2 : ∀ k, 0 ≤ k → k < r → g k ≠ p) (h3 : r < n → g r = p) : r = rk g p n := by
  have hl := rk_le g p (n := n) (by omega)
  rcases Int.lt_trichotomy r (rk g p n) with q | q | q
  · exact absurd (h3 (by omega)) (rk_ne h0 q)
  · exact q
  · exact absurd (rk_at (by omega) (by omega)) (h2 _ hl.1 q)
/-- a list's place -/
def row (lst : Int → Int) (a k : Int) : Int := lst (a * 5 + k)
/-- sums -/
def smN (g : Int → Int) : Nat → Int
  | 0 => 0
  | n + 1 => smN g n + g (n : Int)
def sm (g : Int → Int) (i : Int) : Int := smN g i.toNat
theorem sm_0 (g : Int → Int) : sm g 0 = 0 := rfl
theorem sm_s (g : Int → Int) {i : Int} (h : 0 ≤ i) : sm g (i + 1) = sm g i + g i := by
  unfold sm
  rw [show (i + 1).toNat = i.toNat + 1 by omega]
  show smN g i.toNat + g (i.toNat : Int) = _
  rw [Int.toNat_of_nonneg h]
theorem smN_congr {g h : Int → Int} : ∀ n : Nat, (∀ k : Nat, k < n → g (k : Int) = h (k : Int)) → smN g n = smN h n
  | 0, _ => rfl
  | n + 1, e => by
    show smN g n + _ = smN h n + _
    rw [smN_congr n (fun k hk => e k (by omega)), e n (by omega)]
theorem sm_congr {g h : Int → Int} {i : Int} (e : ∀ k, 0 ≤ k → k < i → g k = h k) : sm g i = sm h i := smN_congr _ (fun k hk => e k (by omega) (by omega))
theorem smN_bd {g : Int → Int} (h : ∀ k, 0 ≤ g k ∧ g k ≤ 1) : ∀ n : Nat, 0 ≤ smN g n ∧ smN g n ≤ n
  | 0 => ⟨Int.le_refl 0, Int.le_refl 0⟩
  | n + 1 => by
    have h1 := smN_bd h n
    have h2 := h (n : Int)
    show 0 ≤ smN g n + g (n : Int) ∧ smN g n + g (n : Int) ≤ ((n + 1 : Nat) : Int)
    omega
theorem sm_bd {g : Int → Int} (h : ∀ k, 0 ≤ g k ∧ g k ≤ 1) {i : Int} (hi : 0 ≤ i) : 0 ≤ sm g i ∧ sm g i ≤ i := by
  have := smN_bd h i.toNat
  unfold sm
  omega
/-- what stays of an instance: its numbers are in range, its lists hold different posts -/
def WI (N P : Int) (cap len lst : Int → Int) : Prop :=
  (1 ≤ N ∧ N ≤ 6 ∧ 1 ≤ P ∧ P ≤ 5) ∧ (∀ k, 0 ≤ k → k < 5 → 1 ≤ cap k ∧ cap k ≤ 2) ∧ (∀ a, 0 ≤ a → a < 6 → 0 ≤ len a ∧ len a ≤ P) ∧ (∀ a k, 0 ≤ a → a < 6 → 0 ≤ k → k < len a → 0 ≤ row lst a k ∧ row lst a k < P) ∧ (∀ a j k, 0 ≤ a → a < 6 → 0 ≤ j → j < k → k < len a → row lst a j ≠ row lst a k)
def vt (a b : Int) : Int := if a = b then 0 else if a < b then 1 else -1
theorem vt_bd (a b : Int) : -1 ≤ vt a b ∧ vt a b ≤ 1 := by
  unfold vt
  split
  · omega
  · split <;> omega
def fp (len lst : Int → Int) (a : Int) : Int := if len a = 0 then -1 else row lst a 0
theorem fp_bd {N P : Int} {cap len lst : Int → Int} (hW : WI N P cap len lst) {a : Int} (h0 : 0 ≤ a) (h1 : a < 6) : -1 ≤ fp len lst a ∧ fp len lst a < P := by
  obtain ⟨hN, hcap, hlen, hlst, hdis⟩ := hW
  unfold fp
  split
  · omega
  · have := hlen a h0 h1
    have := hlst a 0 h0 h1 (by omega) (by omega)
    omega
def cfi (len lst : Int → Int) (p : Int) (a : Int) : Int := if fp len lst a = p then 1 else 0
def cf (N : Int) (len lst : Int → Int) (p : Int) : Int := sm (cfi len lst p) N
theorem cf_bd (N : Int) (len lst : Int → Int) (p : Int) (h : 0 ≤ N) : 0 ≤ cf N len lst p ∧ cf N len lst p ≤ N := sm_bd (fun k => by unfold cfi; split <;> omega) h
/-- the second post: the first place from 1 on whose post has room -/
def spg (N : Int) (cap len lst : Int → Int) (a k : Int) : Int := if cf N len lst (row lst a (k + 1)) < cap (row lst a (k + 1)) then 1 else 0
theorem spg_1 {N : Int} {cap len lst : Int → Int} {a k : Int} (h : spg N cap len lst a k = 1) : cf N len lst (row lst a (k + 1)) < cap (row lst a (k + 1)) := by
  unfold spg at h
  split at h
  · assumption
  · omega
def sp (N : Int) (cap len lst : Int → Int) (a : Int) : Int := if rk (spg N cap len lst a) 1 (len a - 1) < len a - 1 then row lst a (rk (spg N cap len lst a) 1 (len a - 1) + 1) else -1
theorem sp_at {N : Int} {cap len lst : Int → Int} {a i : Int} (h1 : 1 ≤ i) (h2 : i < len a) (h3 : ∀ k, 1 ≤ k → k < i → ¬ cf N len lst (row lst a k) < cap (row lst a k)) (h4 : cf N len lst (row lst a i) < cap (row lst a i)) : sp N cap len lst a = row lst a i := by
  have e : i - 1 = rk (spg N cap len lst a) 1 (len a - 1) := by
    refine rk_uniq (by omega) (by omega) (fun k q1 q2 => ?_) (fun _ => ?_)
    · unfold spg
      rw [if_neg (h3 (k + 1) (by omega) (by omega))]
      omega
    · unfold spg
      rw [show i - 1 + 1 = i by omega, if_pos h4]
  unfold sp
  rw [← e, if_pos (by omega), show i - 1 + 1 = i by omega]
theorem sp_no {N : Int} {cap len lst : Int → Int} {a : Int} (h3 : ∀ k, 1 ≤ k → k < len a → ¬ cf N len lst (row lst a k) < cap (row lst a k)) : sp N cap len lst a = -1 := by
  unfold sp
  split
  · rename_i c
    by_cases h : 0 ≤ len a - 1
    · have h5 := rk_le (spg N cap len lst a) 1 h
      have h6 := spg_1 (rk_at h c)
      exact absurd h6 (h3 _ (by omega) (by omega))
    · have : (len a - 1).toNat = 0 := by omega
      unfold rk at c
      rw [this] at c
      simp [fnd] at c
      omega
  · rfl
theorem sp_bd {N P : Int} {cap len lst : Int → Int} (hW : WI N P cap len lst) {a : Int} (h0 : 0 ≤ a) (h1 : a < 6) : -1 ≤ sp N cap len lst a ∧ sp N cap len lst a < P := by
  obtain ⟨hN, hcap, hlen, hlst, hdis⟩ := hW
  unfold sp
  split
  · rename_i c
    have hl := hlen a h0 h1
    by_cases h : 0 ≤ len a - 1
    · have h5 := rk_le (spg N cap len lst a) 1 h
      have := hlst a (rk (spg N cap len lst a) 1 (len a - 1) + 1) h0 h1 (by omega) (by omega)
      omega
    · have : (len a - 1).toNat = 0 := by omega
      unfold rk at c
      rw [this] at c
      simp [fnd] at c
      omega
  · omega
/-- a matching's placed applicants, and those at a post -/
def plc (m : Int → Int) (k : Int) : Int := if m k = -1 then 0 else 1
def oth (m : Int → Int) (p x : Int) (k : Int) : Int := if ¬ k = x ∧ m k = p then 1 else 0
theorem up_inv {f : Int → Int} {i c : Int} (h : ∀ k, 0 ≤ k → k < i → f k = c) : ∀ k, 0 ≤ k → k < i + 1 → up f i c k = c := by
  intro k h0 h1
  unfold up
  split
  · rfl
  · exact h k h0 (by omega)
theorem up_inv2 {f g : Int → Int} {i : Int} (h : ∀ k, 0 ≤ k → k < i → f k = g k) : ∀ k, 0 ≤ k → k < i + 1 → up f i (g i) k = g k := by
  intro k h0 h1
  unfold up
  split
  · rename_i e
    rw [e]
  · exact h k h0 (by omega)
end
section
theorem pF0_0 : FP 0 0 true (.array .int) := ⟨RX0, TX0, 2, tyX0, rfl, tyX0_ok, nmX0, rfl, by decide +kernel⟩
theorem pF0_1 : FP 0 1 true (.array .int) := ⟨RX0, TX0, 2, tyX0, rfl, tyX0_ok, nmX0, rfl, by decide +kernel⟩
theorem pF1_0 : FP 1 0 false .int := ⟨RX1, TX1, 3, tyX1, rfl, tyX1_ok, nmX1, rfl, by decide +kernel⟩
theorem pF1_1 : FP 1 1 true (.array (.object "PopularMatchings$Matching")) := ⟨RX1, TX1, 3, tyX1, rfl, tyX1_ok, nmX1, rfl, by decide +kernel⟩
theorem pF1_2 : FP 1 2 true (.array (.object "PopularMatchings$Matching")) := ⟨RX1, TX1, 3, tyX1, rfl, tyX1_ok, nmX1, rfl, by decide +kernel⟩
theorem pF2_0 : FP 2 0 false .int := ⟨RX2, TX2, 5, tyX2, rfl, tyX2_ok, nmX2, rfl, by decide +kernel⟩
theorem pF2_1 : FP 2 1 false .int := ⟨RX2, TX2, 5, tyX2, rfl, tyX2_ok, nmX2, rfl, by decide +kernel⟩
theorem pF2_2 : FP 2 2 true (.array .int) := ⟨RX2, TX2, 5, tyX2, rfl, tyX2_ok, nmX2, rfl, by decide +kernel⟩
theorem pF2_3 : FP 2 3 true (.array .int) := ⟨RX2, TX2, 5, tyX2, rfl, tyX2_ok, nmX2, rfl, by decide +kernel⟩
theorem pF2_4 : FP 2 4 true (.array .int) := ⟨RX2, TX2, 5, tyX2, rfl, tyX2_ok, nmX2, rfl, by decide +kernel⟩
theorem pF3_0 : FP 3 0 true (.array .int) := ⟨RX3, TX3, 1, tyX3, rfl, tyX3_ok, nmX3, rfl, by decide +kernel⟩
theorem pF4_0 : FP 4 0 true (.array .int) := ⟨RX4, TX4, 7, tyX4, rfl, tyX4_ok, nmX4, rfl, by decide +kernel⟩
theorem pF4_1 : FP 4 1 true (.array .int) := ⟨RX4, TX4, 7, tyX4, rfl, tyX4_ok, nmX4, rfl, by decide +kernel⟩
theorem pF4_2 : FP 4 2 true (.array .int) := ⟨RX4, TX4, 7, tyX4, rfl, tyX4_ok, nmX4, rfl, by decide +kernel⟩
theorem pF4_3 : FP 4 3 true (.array .int) := ⟨RX4, TX4, 7, tyX4, rfl, tyX4_ok, nmX4, rfl, by decide +kernel⟩
theorem pF4_4 : FP 4 4 true (.array .int) := ⟨RX4, TX4, 7, tyX4, rfl, tyX4_ok, nmX4, rfl, by decide +kernel⟩
theorem pF4_5 : FP 4 5 true (.array .int) := ⟨RX4, TX4, 7, tyX4, rfl, tyX4_ok, nmX4, rfl, by decide +kernel⟩
theorem pF4_6 : FP 4 6 true (.array .int) := ⟨RX4, TX4, 7, tyX4, rfl, tyX4_ok, nmX4, rfl, by decide +kernel⟩
theorem pF5_0 : FP 5 0 true (.object "PopularMatchings$Instance") := ⟨RX5, TX5, 7, tyX5, rfl, tyX5_ok, nmX5, rfl, by decide +kernel⟩
theorem pF5_1 : FP 5 1 true (.object "PopularMatchings$Matching") := ⟨RX5, TX5, 7, tyX5, rfl, tyX5_ok, nmX5, rfl, by decide +kernel⟩
theorem pF5_2 : FP 5 2 true (.object "PopularMatchings$Matching") := ⟨RX5, TX5, 7, tyX5, rfl, tyX5_ok, nmX5, rfl, by decide +kernel⟩
theorem pF5_3 : FP 5 3 true (.object "PopularMatchings$Matching") := ⟨RX5, TX5, 7, tyX5, rfl, tyX5_ok, nmX5, rfl, by decide +kernel⟩
theorem pF5_4 : FP 5 4 true (.object "PopularMatchings$History") := ⟨RX5, TX5, 7, tyX5, rfl, tyX5_ok, nmX5, rfl, by decide +kernel⟩
theorem pF5_5 : FP 5 5 true (.object "PopularMatchings$ChallengerSearch") := ⟨RX5, TX5, 7, tyX5, rfl, tyX5_ok, nmX5, rfl, by decide +kernel⟩
theorem pF5_6 : FP 5 6 true (.object "PopularMatchings$PopularSearch") := ⟨RX5, TX5, 7, tyX5, rfl, tyX5_ok, nmX5, rfl, by decide +kernel⟩
theorem pF6_0 : FP 6 0 false .int := ⟨RX6, TX6, 10, tyX6, rfl, tyX6_ok, nmX6, rfl, by decide +kernel⟩
theorem pF6_1 : FP 6 1 false .int := ⟨RX6, TX6, 10, tyX6, rfl, tyX6_ok, nmX6, rfl, by decide +kernel⟩
theorem pF6_2 : FP 6 2 true (.array .int) := ⟨RX6, TX6, 10, tyX6, rfl, tyX6_ok, nmX6, rfl, by decide +kernel⟩
theorem pF6_3 : FP 6 3 true (.array .int) := ⟨RX6, TX6, 10, tyX6, rfl, tyX6_ok, nmX6, rfl, by decide +kernel⟩
theorem pF6_4 : FP 6 4 true (.array .int) := ⟨RX6, TX6, 10, tyX6, rfl, tyX6_ok, nmX6, rfl, by decide +kernel⟩
theorem pF6_5 : FP 6 5 true (.array .int) := ⟨RX6, TX6, 10, tyX6, rfl, tyX6_ok, nmX6, rfl, by decide +kernel⟩
theorem pF6_6 : FP 6 6 true (.array .int) := ⟨RX6, TX6, 10, tyX6, rfl, tyX6_ok, nmX6, rfl, by decide +kernel⟩
theorem pF6_7 : FP 6 7 false .int := ⟨RX6, TX6, 10, tyX6, rfl, tyX6_ok, nmX6, rfl, by decide +kernel⟩
theorem pF6_8 : FP 6 8 true (.array .int) := ⟨RX6, TX6, 10, tyX6, rfl, tyX6_ok, nmX6, rfl, by decide +kernel⟩
theorem pF6_9 : FP 6 9 true (.array .int) := ⟨RX6, TX6, 10, tyX6, rfl, tyX6_ok, nmX6, rfl, by decide +kernel⟩
theorem sX2_isApplicant_2 : ∀ w ∈ wsX20, w ∈ wsX2_isApplicant := by decide +kernel
theorem fX2_isApplicant_25 : FK RX2 wsX2_isApplicant 25 2 0 := ⟨RX2, TX2, 5, rfl, sX2_isApplicant_2, by decide, List.mem_of_getElem? (i := 1) rfl⟩
set_option maxHeartbeats 4000000 in
set_option maxRecDepth 100000 in
theorem k_X2_isApplicant (D : DD) (o c l t : Nat) (N P : Int) (cap len lst : Int → Int) (a : Int) (hW : WI N P cap len lst) (ha : -2147483648 ≤ a ∧ a < 2147483648) : Con (S := Int) D yX2_isApplicant wsX2_isApplicant ({ frames := 0, cells := 0, slots := 0, locals := 0 }) 0 0 [.ref o, vi a] [(o, co 2 [vi N, vi P, .ref c, .ref l, .ref t]), (c, ca D 5 cap), (l, ca D 6 len), (t, ca D 30 lst)] (fun u => some (vi u)) (fun u => ((u = 1 ∧ (0 ≤ a ∧ a < N)) ∨ (u = 0 ∧ ¬ (0 ≤ a ∧ a < N)))) (fun u => [(o, co 2 [vi N, vi P, .ref c, .ref l, .ref t]), (c, ca D 5 cap), (l, ca D 6 len), (t, ca D 30 lst)]) := by
  refine Con.of (cc := cX2_isApplicant) (nL := 2) (ret := (some .boolean)) rfl (by decide +kernel) (Nat.le_of_ble_eq_true rfl) ?_
  intro X A Q O hQ hin
  show G X D A 2 Q 0 0 0 [(0, .ref o), (1, vi a)] [] [(o, co 2 [vi N, vi P, .ref c, .ref l, .ref t]), (c, ca D 5 cap), (l, ca D 6 len), (t, ca D 30 lst)]
  obtain ⟨hN, hcap, hlen, hlst, hdis⟩ := id hW
  refine g_iload_n O dX2_isApplicant_0 1 1 rfl rfl ?_
  refine g_if_lt O dX2_isApplicant_1 4 16 rfl rfl (by omega) (fun h1 => ?_) (fun h1 => ?_)
  · skip
    refine g_iconst O dX2_isApplicant_16 17 rfl ?_
    exact g_zret O hQ dX2_isApplicant_17 (by decide +kernel) 0 rfl rfl (Or.inr ⟨rfl, by first | assumption | omega⟩) ⟨by decide, by decide⟩
  · skip
    refine g_iload_n O dX2_isApplicant_4 5 1 rfl rfl ?_
    refine g_aload_n O dX2_isApplicant_5 6 0 rfl rfl ?_
    refine g_get O dX2_isApplicant_6 9 rfl fX2_isApplicant_25 0 rfl rfl ?_
    refine g_icmp_ge O dX2_isApplicant_9 12 16 rfl rfl (by omega) (fun h9 => ?_) (fun h9 => ?_)
    · skip
      refine g_iconst O dX2_isApplicant_16 17 rfl ?_
      exact g_zret O hQ dX2_isApplicant_17 (by decide +kernel) 0 rfl rfl (Or.inr ⟨rfl, by first | assumption | omega⟩) ⟨by decide, by decide⟩
    · skip
      refine g_iconst O dX2_isApplicant_12 13 rfl ?_
      refine g_goto O dX2_isApplicant_13 17 rfl ?_
      exact g_zret O hQ dX2_isApplicant_17 (by decide +kernel) 1 rfl rfl (Or.inl ⟨rfl, by first | assumption | omega⟩) ⟨by decide, by decide⟩
theorem sX2_isPost_2 : ∀ w ∈ wsX20, w ∈ wsX2_isPost := by decide +kernel
theorem fX2_isPost_29 : FK RX2 wsX2_isPost 29 2 1 := ⟨RX2, TX2, 5, rfl, sX2_isPost_2, by decide, List.mem_of_getElem? (i := 1) rfl⟩
set_option maxHeartbeats 4000000 in
set_option maxRecDepth 100000 in
theorem k_X2_isPost (D : DD) (o c l t : Nat) (N P : Int) (cap len lst : Int → Int) (a : Int) (hW : WI N P cap len lst) (ha : -2147483648 ≤ a ∧ a < 2147483648) : Con (S := Int) D yX2_isPost wsX2_isPost ({ frames := 0, cells := 0, slots := 0, locals := 0 }) 0 0 [.ref o, vi a] [(o, co 2 [vi N, vi P, .ref c, .ref l, .ref t]), (c, ca D 5 cap), (l, ca D 6 len), (t, ca D 30 lst)] (fun u => some (vi u)) (fun u => ((u = 1 ∧ (0 ≤ a ∧ a < P)) ∨ (u = 0 ∧ ¬ (0 ≤ a ∧ a < P)))) (fun u => [(o, co 2 [vi N, vi P, .ref c, .ref l, .ref t]), (c, ca D 5 cap), (l, ca D 6 len), (t, ca D 30 lst)]) := by
  refine Con.of (cc := cX2_isPost) (nL := 2) (ret := (some .boolean)) rfl (by decide +kernel) (Nat.le_of_ble_eq_true rfl) ?_
  intro X A Q O hQ hin
  show G X D A 2 Q 0 0 0 [(0, .ref o), (1, vi a)] [] [(o, co 2 [vi N, vi P, .ref c, .ref l, .ref t]), (c, ca D 5 cap), (l, ca D 6 len), (t, ca D 30 lst)]
  obtain ⟨hN, hcap, hlen, hlst, hdis⟩ := id hW
  refine g_iload_n O dX2_isPost_0 1 1 rfl rfl ?_
  refine g_if_lt O dX2_isPost_1 4 16 rfl rfl (by omega) (fun h1 => ?_) (fun h1 => ?_)
  · skip
    refine g_iconst O dX2_isPost_16 17 rfl ?_
    exact g_zret O hQ dX2_isPost_17 (by decide +kernel) 0 rfl rfl (Or.inr ⟨rfl, by first | assumption | omega⟩) ⟨by decide, by decide⟩
  · skip
    refine g_iload_n O dX2_isPost_4 5 1 rfl rfl ?_
    refine g_aload_n O dX2_isPost_5 6 0 rfl rfl ?_
    refine g_get O dX2_isPost_6 9 rfl fX2_isPost_29 0 rfl rfl ?_
    refine g_icmp_ge O dX2_isPost_9 12 16 rfl rfl (by omega) (fun h9 => ?_) (fun h9 => ?_)
    · skip
      refine g_iconst O dX2_isPost_16 17 rfl ?_
      exact g_zret O hQ dX2_isPost_17 (by decide +kernel) 0 rfl rfl (Or.inr ⟨rfl, by first | assumption | omega⟩) ⟨by decide, by decide⟩
    · skip
      refine g_iconst O dX2_isPost_12 13 rfl ?_
      refine g_goto O dX2_isPost_13 17 rfl ?_
      exact g_zret O hQ dX2_isPost_17 (by decide +kernel) 1 rfl rfl (Or.inl ⟨rfl, by first | assumption | omega⟩) ⟨by decide, by decide⟩
theorem sX2_listed_2 : ∀ w ∈ wsX20, w ∈ wsX2_listed := by decide +kernel
theorem fX2_listed_18 : FK RX2 wsX2_listed 18 2 4 := ⟨RX2, TX2, 5, rfl, sX2_listed_2, by decide, List.mem_of_getElem? (i := 1) rfl⟩
set_option maxHeartbeats 4000000 in
set_option maxRecDepth 100000 in
theorem k_X2_listed (D : DD) (o c l t : Nat) (N P : Int) (cap len lst : Int → Int) (a i : Int) (ha : 0 ≤ a ∧ a < 6) (hi : 0 ≤ i ∧ i < 5) : Con (S := Unit) D yX2_listed wsX2_listed ({ frames := 0, cells := 0, slots := 0, locals := 0 }) 0 0 [.ref o, vi a, vi i] [(o, co 2 [vi N, vi P, .ref c, .ref l, .ref t]), (c, ca D 5 cap), (l, ca D 6 len), (t, ca D 30 lst)] (fun u => some (vi (row lst a i))) (fun u => True) (fun u => [(o, co 2 [vi N, vi P, .ref c, .ref l, .ref t]), (c, ca D 5 cap), (l, ca D 6 len), (t, ca D 30 lst)]) := by
  refine Con.of (cc := cX2_listed) (nL := 3) (ret := (some .int)) rfl (by decide +kernel) (Nat.le_of_ble_eq_true rfl) ?_
  intro X A Q O hQ hin
  show G X D A 3 Q 0 0 0 [(0, .ref o), (1, vi a), (2, vi i)] [] [(o, co 2 [vi N, vi P, .ref c, .ref l, .ref t]), (c, ca D 5 cap), (l, ca D 6 len), (t, ca D 30 lst)]
  refine g_aload_n O dX2_listed_0 1 0 rfl rfl ?_
  refine g_get O dX2_listed_1 4 rfl fX2_listed_18 0 rfl rfl ?_
  refine g_iload_n O dX2_listed_4 5 1 rfl rfl ?_
  refine g_iconst O dX2_listed_5 6 rfl ?_
  refine g_imul O dX2_listed_6 7 rfl ?_
  refine g_iload_n O dX2_listed_7 8 2 rfl rfl ?_
  refine g_iadd O dX2_listed_8 9 rfl ?_
  refine g_iald O dX2_listed_9 10 rfl 3 rfl (by decide) (by omega) ?_
  exact g_iret O hQ dX2_listed_10 () (vi_eq (by first | rfl | omega)) rfl trivial ⟨by decide, by decide⟩
theorem sX2_rankOf_2 : ∀ w ∈ wsX20, w ∈ wsX2_rankOf := by decide +kernel
theorem fX2_rankOf_15 : FK RX2 wsX2_rankOf 15 2 3 := ⟨RX2, TX2, 5, rfl, sX2_rankOf_2, by decide, List.mem_of_getElem? (i := 1) rfl⟩
set_option maxHeartbeats 4000000 in
set_option maxRecDepth 100000 in
theorem k_X2_rankOf (D : DD) (o c l t : Nat) (N P : Int) (cap len lst : Int → Int) (a p : Int) (hW : WI N P cap len lst) (ha : 0 ≤ a ∧ a < 6) (hp : -2147483648 ≤ p ∧ p < 2147483648) : Con (S := Unit) D yX2_rankOf wsX2_rankOf ({ frames := 1, cells := 0, slots := 0, locals := 22 }) 0 0 [.ref o, vi a, vi p] [(o, co 2 [vi N, vi P, .ref c, .ref l, .ref t]), (c, ca D 5 cap), (l, ca D 6 len), (t, ca D 30 lst)] (fun u => some (vi (rk (row lst a) p (len a)))) (fun u => True) (fun u => [(o, co 2 [vi N, vi P, .ref c, .ref l, .ref t]), (c, ca D 5 cap), (l, ca D 6 len), (t, ca D 30 lst)]) := by
  refine Con.of (cc := cX2_rankOf) (nL := 4) (ret := (some .int)) rfl (by decide +kernel) (Nat.le_of_ble_eq_true rfl) ?_
  intro X A Q O hQ hin
  show G X D A 4 Q 0 0 0 [(0, .ref o), (1, vi a), (2, vi p)] [] [(o, co 2 [vi N, vi P, .ref c, .ref l, .ref t]), (c, ca D 5 cap), (l, ca D 6 len), (t, ca D 30 lst)]
  obtain ⟨hN, hcap, hlen, hlst, hdis⟩ := id hW
  have hla := hlen a (by omega) (by omega)
  refine g_iconst O dX2_rankOf_0 1 rfl ?_
  refine g_istore_n O dX2_rankOf_1 2 [(0, .ref o), (1, vi a), (2, vi p), (3, vi 0)] rfl (by decide) rfl ?_
  have lp2 : ∀ (nn : Nat) (i : Int), (0 ≤ i ∧ i ≤ len a) → (∀ kk, 0 ≤ kk → kk < i → row lst a kk ≠ p) → (len a - i < (nn : Int)) → G X D A 4 Q 0 0 2 [(0, .ref o), (1, vi a), (2, vi p), (3, vi i)] [] [(o, co 2 [vi N, vi P, .ref c, .ref l, .ref t]), (c, ca D 5 cap), (l, ca D 6 len), (t, ca D 30 lst)] := by
    intro nn
    induction nn with
    | zero =>
      intro i h1 h2 hm2
      exact absurd hm2 (by omega)
    | succ nn ih2 =>
      intro i h1 h2 hm2
      refine g_iload_n O dX2_rankOf_2 3 3 rfl rfl ?_
      refine g_aload_n O dX2_rankOf_3 4 0 rfl rfl ?_
      refine g_get O dX2_rankOf_4 7 rfl fX2_rankOf_15 0 rfl rfl ?_
      refine g_iload_n O dX2_rankOf_7 8 1 rfl rfl ?_
      refine g_iald O dX2_rankOf_8 9 rfl 2 rfl (by decide) (by omega) ?_
      refine g_icmp_ge O dX2_rankOf_9 12 30 rfl rfl (by omega) (fun h9 => ?_) (fun h9 => ?_)
      · skip
        refine g_aload_n O dX2_rankOf_30 31 0 rfl rfl ?_
        refine g_get O dX2_rankOf_31 34 rfl fX2_rankOf_15 0 rfl rfl ?_
        refine g_iload_n O dX2_rankOf_34 35 1 rfl rfl ?_
        refine g_iald O dX2_rankOf_35 36 rfl 2 rfl (by decide) (by omega) ?_
        exact g_iret O hQ dX2_rankOf_36 () (vi_eq (rk_uniq (by omega) (by omega) (fun kk q1 q2 => h2 kk q1 (by omega)) (fun q => absurd q (by omega))).symm) rfl trivial ⟨by decide, by decide⟩
      · skip
        have hli := hlst a i (by omega) (by omega) (by omega) (by omega)
        refine g_aload_n O dX2_rankOf_12 13 0 rfl rfl ?_
        refine g_iload_n O dX2_rankOf_13 14 1 rfl rfl ?_
        refine g_iload_n O dX2_rankOf_14 15 3 rfl rfl ?_
        refine g_callV (As := [vi a, vi i]) (rest := []) (na := 2) O (k_X2_listed D o c l t N P cap len lst a i (by omega) (by omega)) dX2_rankOf_15 gX2_rankOf_X2_listed rfl ⟨rfl, rfl⟩ (by decide +kernel) rfl (by decide) (by decide) rfl (by decide) (q0 := 0) (ci := 2) rfl rfl [0, 1, 2, 3] (by decide) rfl (fun _ => rfl) (fun _ => [(o, co 2 [vi N, vi P, .ref c, .ref l, .ref t]), (c, ca D 5 cap), (l, ca D 6 len), (t, ca D 30 lst)]) (fun _ => rfl) 18 rfl (fun _ _ => ?_)
        show G X D A 4 Q 0 0 18 [(0, .ref o), (1, vi a), (2, vi p), (3, vi i)] [vi (row lst a i)] [(o, co 2 [vi N, vi P, .ref c, .ref l, .ref t]), (c, ca D 5 cap), (l, ca D 6 len), (t, ca D 30 lst)]
        have hrow : 0 ≤ row lst a i ∧ row lst a i < P := hli
        refine g_iload_n O dX2_rankOf_18 19 2 rfl rfl ?_
        refine g_icmp_ne O dX2_rankOf_19 22 24 rfl rfl (by omega) (fun h19 => ?_) (fun h19 => ?_)
        · skip
          refine g_iinc O dX2_rankOf_24 27 3 [(0, .ref o), (1, vi a), (2, vi p), (3, vi (i + 1))] rfl (by decide) rfl rfl ?_
          refine g_goto O dX2_rankOf_27 2 rfl ?_
          exact ih2 (i + 1) (by omega) (fun kk q1 q2 => by rcases (show kk < i ∨ kk = i by omega) with q | q; exact h2 kk q1 q; rw [q]; exact h19) (by omega)
        · skip
          refine g_iload_n O dX2_rankOf_22 23 3 rfl rfl ?_
          exact g_iret O hQ dX2_rankOf_23 () (vi_eq (rk_uniq (by omega) (by omega) h2 (fun _ => h19)).symm) rfl trivial ⟨by decide, by decide⟩
  exact lp2 1000 0 (by omega) (fun kk q1 q2 => absurd q2 (by omega)) (by omega)
theorem sX2_isListed_2 : ∀ w ∈ wsX20, w ∈ wsX2_isListed := by decide +kernel
theorem fX2_isListed_15 : FK RX2 wsX2_isListed 15 2 3 := ⟨RX2, TX2, 5, rfl, sX2_isListed_2, by decide, List.mem_of_getElem? (i := 1) rfl⟩
set_option maxHeartbeats 4000000 in
set_option maxRecDepth 100000 in
theorem k_X2_isListed (D : DD) (o c l t : Nat) (N P : Int) (cap len lst : Int → Int) (a p : Int) (hW : WI N P cap len lst) (ha : 0 ≤ a ∧ a < 6) (hp : -2147483648 ≤ p ∧ p < 2147483648) : Con (S := Int) D yX2_isListed wsX2_isListed ({ frames := 2, cells := 0, slots := 0, locals := 45 }) 0 0 [.ref o, vi a, vi p] [(o, co 2 [vi N, vi P, .ref c, .ref l, .ref t]), (c, ca D 5 cap), (l, ca D 6 len), (t, ca D 30 lst)] (fun u => some (vi u)) (fun u => ((u = 1 ∧ (rk (row lst a) p (len a) < len a)) ∨ (u = 0 ∧ ¬ (rk (row lst a) p (len a) < len a)))) (fun u => [(o, co 2 [vi N, vi P, .ref c, .ref l, .ref t]), (c, ca D 5 cap), (l, ca D 6 len), (t, ca D 30 lst)]) := by
  refine Con.of (cc := cX2_isListed) (nL := 3) (ret := (some .boolean)) rfl (by decide +kernel) (Nat.le_of_ble_eq_true rfl) ?_
  intro X A Q O hQ hin
  show G X D A 3 Q 0 0 0 [(0, .ref o), (1, vi a), (2, vi p)] [] [(o, co 2 [vi N, vi P, .ref c, .ref l, .ref t]), (c, ca D 5 cap), (l, ca D 6 len), (t, ca D 30 lst)]
  obtain ⟨hN, hcap, hlen, hlst, hdis⟩ := id hW
  have hla := hlen a (by omega) (by omega)
  have hrk := rk_le (row lst a) p (n := len a) (by omega)
  refine g_aload_n O dX2_isListed_0 1 0 rfl rfl ?_
  refine g_iload_n O dX2_isListed_1 2 1 rfl rfl ?_
  refine g_iload_n O dX2_isListed_2 3 2 rfl rfl ?_
  refine g_callV (As := [vi a, vi p]) (rest := []) (na := 2) O (k_X2_rankOf D o c l t N P cap len lst a p hW (by omega) (by omega)) dX2_isListed_3 gX2_isListed_X2_rankOf rfl ⟨rfl, rfl⟩ (by decide +kernel) rfl (by decide) (by decide) rfl (by decide) (q0 := 0) (ci := 2) rfl rfl [0, 1, 2, 3] (by decide) rfl (fun _ => rfl) (fun _ => [(o, co 2 [vi N, vi P, .ref c, .ref l, .ref t]), (c, ca D 5 cap), (l, ca D 6 len), (t, ca D 30 lst)]) (fun _ => rfl) 6 rfl (fun _ _ => ?_)
  show G X D A 3 Q 0 0 6 [(0, .ref o), (1, vi a), (2, vi p)] [vi (rk (row lst a) p (len a))] [(o, co 2 [vi N, vi P, .ref c, .ref l, .ref t]), (c, ca D 5 cap), (l, ca D 6 len), (t, ca D 30 lst)]
  refine g_aload_n O dX2_isListed_6 7 0 rfl rfl ?_
  refine g_get O dX2_isListed_7 10 rfl fX2_isListed_15 0 rfl rfl ?_
  refine g_iload_n O dX2_isListed_10 11 1 rfl rfl ?_
  refine g_iald O dX2_isListed_11 12 rfl 2 rfl (by decide) (by omega) ?_
  refine g_icmp_ge O dX2_isListed_12 15 19 rfl rfl (by omega) (fun h12 => ?_) (fun h12 => ?_)
  · skip
    refine g_iconst O dX2_isListed_19 20 rfl ?_
    exact g_zret O hQ dX2_isListed_20 (by decide +kernel) 0 rfl rfl (Or.inr ⟨rfl, by first | assumption | omega⟩) ⟨by decide, by decide⟩
  · skip
    refine g_iconst O dX2_isListed_15 16 rfl ?_
    refine g_goto O dX2_isListed_16 20 rfl ?_
    exact g_zret O hQ dX2_isListed_20 (by decide +kernel) 1 rfl rfl (Or.inl ⟨rfl, by first | assumption | omega⟩) ⟨by decide, by decide⟩
theorem sX2_append_2 : ∀ w ∈ wsX20, w ∈ wsX2_append := by decide +kernel
theorem fX2_append_15 : FK RX2 wsX2_append 15 2 3 := ⟨RX2, TX2, 5, rfl, sX2_append_2, by decide, List.mem_of_getElem? (i := 2) rfl⟩
theorem fX2_append_18 : FK RX2 wsX2_append 18 2 4 := ⟨RX2, TX2, 5, rfl, sX2_append_2, by decide, List.mem_of_getElem? (i := 1) rfl⟩
set_option maxHeartbeats 4000000 in
set_option maxRecDepth 100000 in
theorem k_X2_append (D : DD) (o c l t : Nat) (N P : Int) (cap len lst : Int → Int) (a p : Int) (hW : WI N P cap len lst) (ha : 0 ≤ a ∧ a < 6) (hl5 : len a < 5) : Con (S := Unit) D yX2_append wsX2_append ({ frames := 0, cells := 0, slots := 0, locals := 0 }) 0 0 [.ref o, vi a, vi p] [(o, co 2 [vi N, vi P, .ref c, .ref l, .ref t]), (c, ca D 5 cap), (l, ca D 6 len), (t, ca D 30 lst)] (fun u => some (vi (len a + 1))) (fun u => True) (fun u => [(o, co 2 [vi N, vi P, .ref c, .ref l, .ref t]), (c, ca D 5 cap), (l, ca D 6 (up len a (len a + 1))), (t, ca D 30 (up lst (a * 5 + len a) p))]) := by
  refine Con.of (cc := cX2_append) (nL := 3) (ret := (some .int)) rfl (by decide +kernel) (Nat.le_of_ble_eq_true rfl) ?_
  intro X A Q O hQ hin
  show G X D A 3 Q 0 0 0 [(0, .ref o), (1, vi a), (2, vi p)] [] [(o, co 2 [vi N, vi P, .ref c, .ref l, .ref t]), (c, ca D 5 cap), (l, ca D 6 len), (t, ca D 30 lst)]
  obtain ⟨hN, hcap, hlen, hlst, hdis⟩ := id hW
  have hla := hlen a (by omega) (by omega)
  refine g_aload_n O dX2_append_0 1 0 rfl rfl ?_
  refine g_get O dX2_append_1 4 rfl fX2_append_18 0 rfl rfl ?_
  refine g_iload_n O dX2_append_4 5 1 rfl rfl ?_
  refine g_iconst O dX2_append_5 6 rfl ?_
  refine g_imul O dX2_append_6 7 rfl ?_
  refine g_aload_n O dX2_append_7 8 0 rfl rfl ?_
  refine g_get O dX2_append_8 11 rfl fX2_append_15 0 rfl rfl ?_
  refine g_iload_n O dX2_append_11 12 1 rfl rfl ?_
  refine g_iald O dX2_append_12 13 rfl 2 rfl (by decide) (by omega) ?_
  refine g_iadd O dX2_append_13 14 rfl ?_
  refine g_iload_n O dX2_append_14 15 2 rfl rfl ?_
  refine g_iast O dX2_append_15 16 rfl 3 rfl (by decide) (by omega) [(o, co 2 [vi N, vi P, .ref c, .ref l, .ref t]), (c, ca D 5 cap), (l, ca D 6 len), (t, ca D 30 (up lst ((a * 5) + (len a)) p))] rfl ?_
  refine g_aload_n O dX2_append_16 17 0 rfl rfl ?_
  refine g_get O dX2_append_17 20 rfl fX2_append_15 0 rfl rfl ?_
  refine g_iload_n O dX2_append_20 21 1 rfl rfl ?_
  refine g_dup2 O dX2_append_21 22 rfl rfl rfl ?_
  refine g_iald O dX2_append_22 23 rfl 2 rfl (by decide) (by omega) ?_
  refine g_iconst O dX2_append_23 24 rfl ?_
  refine g_iadd O dX2_append_24 25 rfl ?_
  refine g_iast O dX2_append_25 26 rfl 2 rfl (by decide) (by omega) [(o, co 2 [vi N, vi P, .ref c, .ref l, .ref t]), (c, ca D 5 cap), (l, ca D 6 (up len a ((len a) + 1))), (t, ca D 30 (up lst ((a * 5) + (len a)) p))] rfl ?_
  refine g_aload_n O dX2_append_26 27 0 rfl rfl ?_
  refine g_get O dX2_append_27 30 rfl fX2_append_15 0 rfl rfl ?_
  refine g_iload_n O dX2_append_30 31 1 rfl rfl ?_
  refine g_iald O dX2_append_31 32 rfl 2 rfl (by decide) (by omega) ?_
  exact g_iret O hQ dX2_append_32 () (vi_eq (up_s _ _ _).symm) rfl trivial ⟨by decide, by decide⟩
set_option maxHeartbeats 4000000 in
set_option maxRecDepth 100000 in
theorem k_X2_vote (D : DD) (a b : Int) (ha : -2147483648 ≤ a ∧ a < 2147483648) (hb : -2147483648 ≤ b ∧ b < 2147483648) : Con (S := Unit) D yX2_vote wsX2_vote ({ frames := 0, cells := 0, slots := 0, locals := 0 }) 0 0 [vi a, vi b] [] (fun u => some (vi (vt a b))) (fun u => True) (fun u => []) := by
  refine Con.of (cc := cX2_vote) (nL := 2) (ret := (some .int)) rfl (by decide +kernel) (Nat.le_of_ble_eq_true rfl) ?_
  intro X A Q O hQ hin
  show G X D A 2 Q 0 0 0 [(0, vi a), (1, vi b)] [] []
  refine g_iload_n O dX2_vote_0 1 0 rfl rfl ?_
  refine g_iload_n O dX2_vote_1 2 1 rfl rfl ?_
  refine g_icmp_ne O dX2_vote_2 5 7 rfl rfl (by omega) (fun h2 => ?_) (fun h2 => ?_)
  · skip
    refine g_iload_n O dX2_vote_7 8 0 rfl rfl ?_
    refine g_iload_n O dX2_vote_8 9 1 rfl rfl ?_
    refine g_icmp_ge O dX2_vote_9 12 16 rfl rfl (by omega) (fun h9 => ?_) (fun h9 => ?_)
    · skip
      refine g_iconst O dX2_vote_16 17 rfl ?_
      exact g_iret O hQ dX2_vote_17 () (vi_eq (by first | (rw [vt, if_neg (by omega), if_pos (by omega)]) | (rw [vt, if_neg (by omega), if_neg (by omega)]))) rfl trivial ⟨by decide, by decide⟩
    · skip
      refine g_iconst O dX2_vote_12 13 rfl ?_
      refine g_goto O dX2_vote_13 17 rfl ?_
      exact g_iret O hQ dX2_vote_17 () (vi_eq (by first | (rw [vt, if_neg (by omega), if_pos (by omega)]) | (rw [vt, if_neg (by omega), if_neg (by omega)]))) rfl trivial ⟨by decide, by decide⟩
  · skip
    refine g_iconst O dX2_vote_5 6 rfl ?_
    exact g_iret O hQ dX2_vote_6 () (vi_eq (by simp [vt, h2])) rfl trivial ⟨by decide, by decide⟩
theorem sX2_firstOf_2 : ∀ w ∈ wsX20, w ∈ wsX2_firstOf := by decide +kernel
theorem fX2_firstOf_15 : FK RX2 wsX2_firstOf 15 2 3 := ⟨RX2, TX2, 5, rfl, sX2_firstOf_2, by decide, List.mem_of_getElem? (i := 1) rfl⟩
set_option maxHeartbeats 4000000 in
set_option maxRecDepth 100000 in
theorem k_X2_firstOf (D : DD) (o c l t : Nat) (N P : Int) (cap len lst : Int → Int) (a : Int) (hW : WI N P cap len lst) (ha : 0 ≤ a ∧ a < 6) : Con (S := Unit) D yX2_firstOf wsX2_firstOf ({ frames := 1, cells := 0, slots := 0, locals := 22 }) 0 0 [.ref o, vi a] [(o, co 2 [vi N, vi P, .ref c, .ref l, .ref t]), (c, ca D 5 cap), (l, ca D 6 len), (t, ca D 30 lst)] (fun u => some (vi (fp len lst a))) (fun u => True) (fun u => [(o, co 2 [vi N, vi P, .ref c, .ref l, .ref t]), (c, ca D 5 cap), (l, ca D 6 len), (t, ca D 30 lst)]) := by
  refine Con.of (cc := cX2_firstOf) (nL := 2) (ret := (some .int)) rfl (by decide +kernel) (Nat.le_of_ble_eq_true rfl) ?_
  intro X A Q O hQ hin
  show G X D A 2 Q 0 0 0 [(0, .ref o), (1, vi a)] [] [(o, co 2 [vi N, vi P, .ref c, .ref l, .ref t]), (c, ca D 5 cap), (l, ca D 6 len), (t, ca D 30 lst)]
  obtain ⟨hN, hcap, hlen, hlst, hdis⟩ := id hW
  have hla := hlen a (by omega) (by omega)
  refine g_aload_n O dX2_firstOf_0 1 0 rfl rfl ?_
  refine g_get O dX2_firstOf_1 4 rfl fX2_firstOf_15 0 rfl rfl ?_
  refine g_iload_n O dX2_firstOf_4 5 1 rfl rfl ?_
  refine g_iald O dX2_firstOf_5 6 rfl 2 rfl (by decide) (by omega) ?_
  refine g_if_ne O dX2_firstOf_6 9 13 rfl rfl (by omega) (fun h6 => ?_) (fun h6 => ?_)
  · skip
    refine g_aload_n O dX2_firstOf_13 14 0 rfl rfl ?_
    refine g_iload_n O dX2_firstOf_14 15 1 rfl rfl ?_
    refine g_iconst O dX2_firstOf_15 16 rfl ?_
    refine g_callV (As := [vi a, vi 0]) (rest := []) (na := 2) O (k_X2_listed D o c l t N P cap len lst a 0 (by omega) (by omega)) dX2_firstOf_16 gX2_firstOf_X2_listed rfl ⟨rfl, rfl⟩ (by decide +kernel) rfl (by decide) (by decide) rfl (by decide) (q0 := 0) (ci := 2) rfl rfl [0, 1, 2, 3] (by decide) rfl (fun _ => rfl) (fun _ => [(o, co 2 [vi N, vi P, .ref c, .ref l, .ref t]), (c, ca D 5 cap), (l, ca D 6 len), (t, ca D 30 lst)]) (fun _ => rfl) 19 rfl (fun _ _ => ?_)
    show G X D A 2 Q 0 0 19 [(0, .ref o), (1, vi a)] [vi (row lst a 0)] [(o, co 2 [vi N, vi P, .ref c, .ref l, .ref t]), (c, ca D 5 cap), (l, ca D 6 len), (t, ca D 30 lst)]
    exact g_iret O hQ dX2_firstOf_19 () (vi_eq (by first | (rw [fp, if_neg h6]) | (rw [fp, if_pos h6]))) rfl trivial ⟨by decide, by decide⟩
  · skip
    refine g_iconst O dX2_firstOf_9 10 rfl ?_
    refine g_goto O dX2_firstOf_10 19 rfl ?_
    exact g_iret O hQ dX2_firstOf_19 () (vi_eq (by first | (rw [fp, if_neg h6]) | (rw [fp, if_pos h6]))) rfl trivial ⟨by decide, by decide⟩
theorem sX2_countFirst_2 : ∀ w ∈ wsX20, w ∈ wsX2_countFirst := by decide +kernel
theorem fX2_countFirst_25 : FK RX2 wsX2_countFirst 25 2 0 := ⟨RX2, TX2, 5, rfl, sX2_countFirst_2, by decide, List.mem_of_getElem? (i := 1) rfl⟩
set_option maxHeartbeats 4000000 in
set_option maxRecDepth 100000 in
theorem k_X2_countFirst (D : DD) (o c l t : Nat) (N P : Int) (cap len lst : Int → Int) (p : Int) (hW : WI N P cap len lst) (hp : -2147483648 ≤ p ∧ p < 2147483648) : Con (S := Unit) D yX2_countFirst wsX2_countFirst ({ frames := 2, cells := 0, slots := 0, locals := 43 }) 0 0 [.ref o, vi p] [(o, co 2 [vi N, vi P, .ref c, .ref l, .ref t]), (c, ca D 5 cap), (l, ca D 6 len), (t, ca D 30 lst)] (fun u => some (vi (cf N len lst p))) (fun u => True) (fun u => [(o, co 2 [vi N, vi P, .ref c, .ref l, .ref t]), (c, ca D 5 cap), (l, ca D 6 len), (t, ca D 30 lst)]) := by
  refine Con.of (cc := cX2_countFirst) (nL := 4) (ret := (some .int)) rfl (by decide +kernel) (Nat.le_of_ble_eq_true rfl) ?_
  intro X A Q O hQ hin
  show G X D A 4 Q 0 0 0 [(0, .ref o), (1, vi p)] [] [(o, co 2 [vi N, vi P, .ref c, .ref l, .ref t]), (c, ca D 5 cap), (l, ca D 6 len), (t, ca D 30 lst)]
  obtain ⟨hN, hcap, hlen, hlst, hdis⟩ := id hW
  refine g_iconst O dX2_countFirst_0 1 rfl ?_
  refine g_istore_n O dX2_countFirst_1 2 [(0, .ref o), (1, vi p), (2, vi 0)] rfl (by decide) rfl ?_
  refine g_iconst O dX2_countFirst_2 3 rfl ?_
  refine g_istore_n O dX2_countFirst_3 4 [(0, .ref o), (1, vi p), (2, vi 0), (3, vi 0)] rfl (by decide) rfl ?_
  have lp4 : ∀ (nn : Nat) (i : Int) (s : Int), (0 ≤ i ∧ i ≤ N) → (s = sm (cfi len lst p) i) → (N - i < (nn : Int)) → G X D A 4 Q 0 0 4 [(0, .ref o), (1, vi p), (2, vi s), (3, vi i)] [] [(o, co 2 [vi N, vi P, .ref c, .ref l, .ref t]), (c, ca D 5 cap), (l, ca D 6 len), (t, ca D 30 lst)] := by
    intro nn
    induction nn with
    | zero =>
      intro i s h1 h2 hm4
      exact absurd hm4 (by omega)
    | succ nn ih4 =>
      intro i s h1 h2 hm4
      refine g_iload_n O dX2_countFirst_4 5 3 rfl rfl ?_
      refine g_aload_n O dX2_countFirst_5 6 0 rfl rfl ?_
      refine g_get O dX2_countFirst_6 9 rfl fX2_countFirst_25 0 rfl rfl ?_
      refine g_icmp_ge O dX2_countFirst_9 12 30 rfl rfl (by omega) (fun h9 => ?_) (fun h9 => ?_)
      · skip
        refine g_iload_n O dX2_countFirst_30 31 2 rfl rfl ?_
        exact g_iret O hQ dX2_countFirst_31 () (vi_eq (by rw [h2, show i = N by omega]; rfl)) rfl trivial ⟨by decide, by decide⟩
      · skip
        refine g_aload_n O dX2_countFirst_12 13 0 rfl rfl ?_
        refine g_iload_n O dX2_countFirst_13 14 3 rfl rfl ?_
        refine g_callV (As := [vi i]) (rest := []) (na := 1) O (k_X2_firstOf D o c l t N P cap len lst i hW (by omega)) dX2_countFirst_14 gX2_countFirst_X2_firstOf rfl ⟨rfl, rfl⟩ (by decide +kernel) rfl (by decide) (by decide) rfl (by decide) (q0 := 0) (ci := 2) rfl rfl [0, 1, 2, 3] (by decide) rfl (fun _ => rfl) (fun _ => [(o, co 2 [vi N, vi P, .ref c, .ref l, .ref t]), (c, ca D 5 cap), (l, ca D 6 len), (t, ca D 30 lst)]) (fun _ => rfl) 17 rfl (fun _ _ => ?_)
        show G X D A 4 Q 0 0 17 [(0, .ref o), (1, vi p), (2, vi s), (3, vi i)] [vi (fp len lst i)] [(o, co 2 [vi N, vi P, .ref c, .ref l, .ref t]), (c, ca D 5 cap), (l, ca D 6 len), (t, ca D 30 lst)]
        have hfp := fp_bd hW (a := i) (by omega) (by omega)
        refine g_iload_n O dX2_countFirst_17 18 1 rfl rfl ?_
        refine g_icmp_ne O dX2_countFirst_18 21 24 rfl rfl (by omega) (fun h18 => ?_) (fun h18 => ?_)
        · skip
          refine g_iinc O dX2_countFirst_24 27 3 [(0, .ref o), (1, vi p), (2, vi s), (3, vi (i + 1))] rfl (by decide) rfl rfl ?_
          refine g_goto O dX2_countFirst_27 4 rfl ?_
          exact ih4 (i + 1) s (by omega) (by rw [sm_s _ h1.1, ← h2]; unfold cfi; split <;> omega) (by omega)
        · skip
          refine g_iinc O dX2_countFirst_21 24 2 [(0, .ref o), (1, vi p), (2, vi (s + 1)), (3, vi i)] rfl (by decide) rfl rfl ?_
          refine g_iinc O dX2_countFirst_24 27 3 [(0, .ref o), (1, vi p), (2, vi (s + 1)), (3, vi (i + 1))] rfl (by decide) rfl rfl ?_
          refine g_goto O dX2_countFirst_27 4 rfl ?_
          exact ih4 (i + 1) (s + 1) (by omega) (by rw [sm_s _ h1.1, ← h2]; unfold cfi; split <;> omega) (by omega)
  exact lp4 1000 0 0 (by omega) (sm_0 _).symm (by omega)
theorem sX2_secondOf_2 : ∀ w ∈ wsX20, w ∈ wsX2_secondOf := by decide +kernel
theorem fX2_secondOf_15 : FK RX2 wsX2_secondOf 15 2 3 := ⟨RX2, TX2, 5, rfl, sX2_secondOf_2, by decide, List.mem_of_getElem? (i := 1) rfl⟩
theorem fX2_secondOf_9 : FK RX2 wsX2_secondOf 9 2 2 := ⟨RX2, TX2, 5, rfl, sX2_secondOf_2, by decide, List.mem_of_getElem? (i := 2) rfl⟩
set_option maxHeartbeats 4000000 in
set_option maxRecDepth 100000 in
theorem k_X2_secondOf (D : DD) (o c l t : Nat) (N P : Int) (cap len lst : Int → Int) (a : Int) (hW : WI N P cap len lst) (ha : 0 ≤ a ∧ a < 6) : Con (S := Unit) D yX2_secondOf wsX2_secondOf ({ frames := 3, cells := 0, slots := 0, locals := 66 }) 0 0 [.ref o, vi a] [(o, co 2 [vi N, vi P, .ref c, .ref l, .ref t]), (c, ca D 5 cap), (l, ca D 6 len), (t, ca D 30 lst)] (fun u => some (vi (sp N cap len lst a))) (fun u => True) (fun u => [(o, co 2 [vi N, vi P, .ref c, .ref l, .ref t]), (c, ca D 5 cap), (l, ca D 6 len), (t, ca D 30 lst)]) := by
  refine Con.of (cc := cX2_secondOf) (nL := 4) (ret := (some .int)) rfl (by decide +kernel) (Nat.le_of_ble_eq_true rfl) ?_
  intro X A Q O hQ hin
  show G X D A 4 Q 0 0 0 [(0, .ref o), (1, vi a)] [] [(o, co 2 [vi N, vi P, .ref c, .ref l, .ref t]), (c, ca D 5 cap), (l, ca D 6 len), (t, ca D 30 lst)]
  obtain ⟨hN, hcap, hlen, hlst, hdis⟩ := id hW
  have hla := hlen a (by omega) (by omega)
  refine g_iconst O dX2_secondOf_0 1 rfl ?_
  refine g_istore_n O dX2_secondOf_1 2 [(0, .ref o), (1, vi a), (2, vi 1)] rfl (by decide) rfl ?_
  have lp2 : ∀ (nn : Nat) (i : Int), (1 ≤ i ∧ (i ≤ len a ∨ i = 1)) → (∀ kk, 1 ≤ kk → kk < i → ¬ cf N len lst (row lst a kk) < cap (row lst a kk)) → (7 - i < (nn : Int)) → G X D A 4 Q 0 0 2 [(0, .ref o), (1, vi a), (2, vi i)] [] [(o, co 2 [vi N, vi P, .ref c, .ref l, .ref t]), (c, ca D 5 cap), (l, ca D 6 len), (t, ca D 30 lst)] := by
    intro nn
    induction nn with
    | zero =>
      intro i h1 h2 hm2
      exact absurd hm2 (by omega)
    | succ nn ih2 =>
      intro i h1 h2 hm2
      refine g_iload_n O dX2_secondOf_2 3 2 rfl rfl ?_
      refine g_aload_n O dX2_secondOf_3 4 0 rfl rfl ?_
      refine g_get O dX2_secondOf_4 7 rfl fX2_secondOf_15 0 rfl rfl ?_
      refine g_iload_n O dX2_secondOf_7 8 1 rfl rfl ?_
      refine g_iald O dX2_secondOf_8 9 rfl 2 rfl (by decide) (by omega) ?_
      refine g_icmp_ge O dX2_secondOf_9 12 41 rfl rfl (by omega) (fun h9 => ?_) (fun h9 => ?_)
      · skip
        refine g_iconst O dX2_secondOf_41 42 rfl ?_
        exact g_iret O hQ dX2_secondOf_42 () (vi_eq (sp_no (fun kk q1 q2 => h2 kk q1 (by omega)))) rfl trivial ⟨by decide, by decide⟩
      · skip
        have hli : 0 ≤ row lst a i ∧ row lst a i < P := hlst a i (by omega) (by omega) (by omega) (by omega)
        have hci := hcap (row lst a i) (by omega) (by omega)
        have hcf := cf_bd N len lst (row lst a i) (by omega)
        refine g_aload_n O dX2_secondOf_12 13 0 rfl rfl ?_
        refine g_iload_n O dX2_secondOf_13 14 1 rfl rfl ?_
        refine g_iload_n O dX2_secondOf_14 15 2 rfl rfl ?_
        refine g_callV (As := [vi a, vi i]) (rest := []) (na := 2) O (k_X2_listed D o c l t N P cap len lst a i (by omega) (by omega)) dX2_secondOf_15 gX2_secondOf_X2_listed rfl ⟨rfl, rfl⟩ (by decide +kernel) rfl (by decide) (by decide) rfl (by decide) (q0 := 0) (ci := 2) rfl rfl [0, 1, 2, 3] (by decide) rfl (fun _ => rfl) (fun _ => [(o, co 2 [vi N, vi P, .ref c, .ref l, .ref t]), (c, ca D 5 cap), (l, ca D 6 len), (t, ca D 30 lst)]) (fun _ => rfl) 18 rfl (fun _ _ => ?_)
        show G X D A 4 Q 0 0 18 [(0, .ref o), (1, vi a), (2, vi i)] [vi (row lst a i)] [(o, co 2 [vi N, vi P, .ref c, .ref l, .ref t]), (c, ca D 5 cap), (l, ca D 6 len), (t, ca D 30 lst)]
        refine g_istore_n O dX2_secondOf_18 19 [(0, .ref o), (1, vi a), (2, vi i), (3, vi (row lst a i))] rfl (by decide) rfl ?_
        refine g_aload_n O dX2_secondOf_19 20 0 rfl rfl ?_
        refine g_iload_n O dX2_secondOf_20 21 3 rfl rfl ?_
        refine g_callV (As := [vi (row lst a i)]) (rest := []) (na := 1) O (k_X2_countFirst D o c l t N P cap len lst (row lst a i) hW (by omega)) dX2_secondOf_21 gX2_secondOf_X2_countFirst rfl ⟨rfl, rfl⟩ (by decide +kernel) rfl (by decide) (by decide) rfl (by decide) (q0 := 0) (ci := 2) rfl rfl [0, 1, 2, 3] (by decide) rfl (fun _ => rfl) (fun _ => [(o, co 2 [vi N, vi P, .ref c, .ref l, .ref t]), (c, ca D 5 cap), (l, ca D 6 len), (t, ca D 30 lst)]) (fun _ => rfl) 24 rfl (fun _ _ => ?_)
        show G X D A 4 Q 0 0 24 [(0, .ref o), (1, vi a), (2, vi i), (3, vi (row lst a i))] [vi (cf N len lst (row lst a i))] [(o, co 2 [vi N, vi P, .ref c, .ref l, .ref t]), (c, ca D 5 cap), (l, ca D 6 len), (t, ca D 30 lst)]
        refine g_aload_n O dX2_secondOf_24 25 0 rfl rfl ?_
        refine g_get O dX2_secondOf_25 28 rfl fX2_secondOf_9 0 rfl rfl ?_
        refine g_iload_n O dX2_secondOf_28 29 3 rfl rfl ?_
        refine g_iald O dX2_secondOf_29 30 rfl 1 rfl (by decide) (by omega) ?_
        refine g_icmp_ge O dX2_secondOf_30 33 35 rfl rfl (by omega) (fun h30 => ?_) (fun h30 => ?_)
        · skip
          refine g_iinc O dX2_secondOf_35 38 2 [(0, .ref o), (1, vi a), (2, vi (i + 1)), (3, vi (row lst a i))] rfl (by decide) rfl rfl ?_
          refine g_goto O dX2_secondOf_38 2 rfl ?_
          refine g_loc (L' := [(0, .ref o), (1, vi a), (2, vi (i + 1))]) [0, 1, 2] rfl ?_
          exact ih2 (i + 1) (by omega) (fun kk q1 q2 => by rcases (show kk < i ∨ kk = i by omega) with q | q; exact h2 kk q1 q; rw [q]; omega) (by omega)
        · skip
          refine g_iload_n O dX2_secondOf_33 34 3 rfl rfl ?_
          exact g_iret O hQ dX2_secondOf_34 () (vi_eq (sp_at (by omega) (by omega) h2 h30)) rfl trivial ⟨by decide, by decide⟩
  exact lp2 1000 1 (by omega) (fun kk q1 q2 => absurd q2 (by omega)) (by omega)
theorem sX2_startAnew_2 : ∀ w ∈ wsX20, w ∈ wsX2_startAnew := by decide +kernel
theorem fX2_startAnew_15 : FK RX2 wsX2_startAnew 15 2 3 := ⟨RX2, TX2, 5, rfl, sX2_startAnew_2, by decide, List.mem_of_getElem? (i := 4) rfl⟩
theorem fX2_startAnew_25 : FK RX2 wsX2_startAnew 25 2 0 := ⟨RX2, TX2, 5, rfl, sX2_startAnew_2, by decide, List.mem_of_getElem? (i := 1) rfl⟩
theorem fX2_startAnew_29 : FK RX2 wsX2_startAnew 29 2 1 := ⟨RX2, TX2, 5, rfl, sX2_startAnew_2, by decide, List.mem_of_getElem? (i := 2) rfl⟩
theorem fX2_startAnew_9 : FK RX2 wsX2_startAnew 9 2 2 := ⟨RX2, TX2, 5, rfl, sX2_startAnew_2, by decide, List.mem_of_getElem? (i := 3) rfl⟩
set_option maxHeartbeats 4000000 in
set_option maxRecDepth 100000 in
theorem k_X2_startAnew (D : DD) (o c l t : Nat) (N P : Int) (cap len lst : Int → Int) (n p : Int) : Con (S := Unit) D yX2_startAnew wsX2_startAnew ({ frames := 0, cells := 0, slots := 0, locals := 0 }) 0 0 [.ref o, vi n, vi p] [(o, co 2 [vi N, vi P, .ref c, .ref l, .ref t]), (c, ca D 5 cap), (l, ca D 6 len), (t, ca D 30 lst)] (fun u => none) (fun u => True) (fun u => [(o, co 2 [vi n, vi p, .ref c, .ref l, .ref t]), (c, ca D 5 (fun _ => 1)), (l, ca D 6 (fun _ => 0)), (t, ca D 30 lst)]) := by
  refine Con.of (cc := cX2_startAnew) (nL := 4) (ret := none) rfl (by decide +kernel) (Nat.le_of_ble_eq_true rfl) ?_
  intro X A Q O hQ hin
  show G X D A 4 Q 0 0 0 [(0, .ref o), (1, vi n), (2, vi p)] [] [(o, co 2 [vi N, vi P, .ref c, .ref l, .ref t]), (c, ca D 5 cap), (l, ca D 6 len), (t, ca D 30 lst)]
  refine g_aload_n O dX2_startAnew_0 1 0 rfl rfl ?_
  refine g_iload_n O dX2_startAnew_1 2 1 rfl rfl ?_
  refine g_put O dX2_startAnew_2 5 rfl fX2_startAnew_25 pF2_0 0 rfl rfl rfl (Nat.le_of_ble_eq_true rfl) [(o, co 2 [vi n, vi P, .ref c, .ref l, .ref t]), (c, ca D 5 cap), (l, ca D 6 len), (t, ca D 30 lst)] rfl ?_
  refine g_aload_n O dX2_startAnew_5 6 0 rfl rfl ?_
  refine g_iload_n O dX2_startAnew_6 7 2 rfl rfl ?_
  refine g_put O dX2_startAnew_7 10 rfl fX2_startAnew_29 pF2_1 0 rfl rfl rfl (Nat.le_of_ble_eq_true rfl) [(o, co 2 [vi n, vi p, .ref c, .ref l, .ref t]), (c, ca D 5 cap), (l, ca D 6 len), (t, ca D 30 lst)] rfl ?_
  refine g_iconst O dX2_startAnew_10 11 rfl ?_
  refine g_istore_n O dX2_startAnew_11 12 [(0, .ref o), (1, vi n), (2, vi p), (3, vi 0)] rfl (by decide) rfl ?_
  have lp12 : ∀ (nn : Nat) (i : Int) (f : Int → Int), (0 ≤ i ∧ i ≤ 5) → (∀ kk, 0 ≤ kk → kk < i → f kk = 1) → (5 - i < (nn : Int)) → G X D A 4 Q 0 0 12 [(0, .ref o), (1, vi n), (2, vi p), (3, vi i)] [] [(o, co 2 [vi n, vi p, .ref c, .ref l, .ref t]), (c, ca D 5 f), (l, ca D 6 len), (t, ca D 30 lst)] := by
    intro nn
    induction nn with
    | zero =>
      intro i f h1 h2 hm12
      exact absurd hm12 (by omega)
    | succ nn ih12 =>
      intro i f h1 h2 hm12
      refine g_iload_n O dX2_startAnew_12 13 3 rfl rfl ?_
      refine g_iconst O dX2_startAnew_13 14 rfl ?_
      refine g_icmp_ge O dX2_startAnew_14 17 30 rfl rfl (by omega) (fun h14 => ?_) (fun h14 => ?_)
      · skip
        refine g_arr 1 (fun _ => 1) rfl (fun kk q1 q2 => h2 kk q1 (by omega)) [(o, co 2 [vi n, vi p, .ref c, .ref l, .ref t]), (c, ca D 5 (fun _ => 1)), (l, ca D 6 len), (t, ca D 30 lst)] rfl ?_
        refine g_iconst O dX2_startAnew_30 31 rfl ?_
        refine g_istore_n O dX2_startAnew_31 32 [(0, .ref o), (1, vi n), (2, vi p), (3, vi 0)] rfl (by decide) rfl ?_
        have lp32 : ∀ (nn : Nat) (i : Int) (g : Int → Int), (0 ≤ i ∧ i ≤ 6) → (∀ kk, 0 ≤ kk → kk < i → g kk = 0) → (6 - i < (nn : Int)) → G X D A 4 Q 0 0 32 [(0, .ref o), (1, vi n), (2, vi p), (3, vi i)] [] [(o, co 2 [vi n, vi p, .ref c, .ref l, .ref t]), (c, ca D 5 (fun _ => 1)), (l, ca D 6 g), (t, ca D 30 lst)] := by
          intro nn
          induction nn with
          | zero =>
            intro i g h1 h2 hm32
            exact absurd hm32 (by omega)
          | succ nn ih32 =>
            intro i g h1 h2 hm32
            refine g_iload_n O dX2_startAnew_32 33 3 rfl rfl ?_
            refine g_bipush O dX2_startAnew_33 35 rfl (by decide) ?_
            refine g_icmp_ge O dX2_startAnew_35 38 51 rfl rfl (by omega) (fun h35 => ?_) (fun h35 => ?_)
            · skip
              refine g_arr 2 (fun _ => 0) rfl (fun kk q1 q2 => h2 kk q1 (by omega)) [(o, co 2 [vi n, vi p, .ref c, .ref l, .ref t]), (c, ca D 5 (fun _ => 1)), (l, ca D 6 (fun _ => 0)), (t, ca D 30 lst)] rfl ?_
              exact g_vret O hQ dX2_startAnew_51 () rfl rfl trivial ⟨by decide, by decide⟩
            · skip
              refine g_aload_n O dX2_startAnew_38 39 0 rfl rfl ?_
              refine g_get O dX2_startAnew_39 42 rfl fX2_startAnew_15 0 rfl rfl ?_
              refine g_iload_n O dX2_startAnew_42 43 3 rfl rfl ?_
              refine g_iconst O dX2_startAnew_43 44 rfl ?_
              refine g_iast O dX2_startAnew_44 45 rfl 2 rfl (by decide) (by omega) [(o, co 2 [vi n, vi p, .ref c, .ref l, .ref t]), (c, ca D 5 (fun _ => 1)), (l, ca D 6 (up g i 0)), (t, ca D 30 lst)] rfl ?_
              refine g_iinc O dX2_startAnew_45 48 3 [(0, .ref o), (1, vi n), (2, vi p), (3, vi (i + 1))] rfl (by decide) rfl rfl ?_
              refine g_goto O dX2_startAnew_48 32 rfl ?_
              exact ih32 (i + 1) (up g i 0) (by omega) (up_inv h2) (by omega)
        exact lp32 1000 0 len (by omega) (fun kk q1 q2 => absurd q2 (by omega)) (by omega)
      · skip
        refine g_aload_n O dX2_startAnew_17 18 0 rfl rfl ?_
        refine g_get O dX2_startAnew_18 21 rfl fX2_startAnew_9 0 rfl rfl ?_
        refine g_iload_n O dX2_startAnew_21 22 3 rfl rfl ?_
        refine g_iconst O dX2_startAnew_22 23 rfl ?_
        refine g_iast O dX2_startAnew_23 24 rfl 1 rfl (by decide) (by omega) [(o, co 2 [vi n, vi p, .ref c, .ref l, .ref t]), (c, ca D 5 (up f i 1)), (l, ca D 6 len), (t, ca D 30 lst)] rfl ?_
        refine g_iinc O dX2_startAnew_24 27 3 [(0, .ref o), (1, vi n), (2, vi p), (3, vi (i + 1))] rfl (by decide) rfl rfl ?_
        refine g_goto O dX2_startAnew_27 12 rfl ?_
        exact ih12 (i + 1) (up f i 1) (by omega) (up_inv h2) (by omega)
  exact lp12 1000 0 cap (by omega) (fun kk q1 q2 => absurd q2 (by omega)) (by omega)
theorem sX3_clear_3 : ∀ w ∈ wsX30, w ∈ wsX3_clear := by decide +kernel
theorem fX3_clear_9 : FK RX3 wsX3_clear 9 3 0 := ⟨RX3, TX3, 1, rfl, sX3_clear_3, by decide, List.mem_of_getElem? (i := 1) rfl⟩
set_option maxHeartbeats 4000000 in
set_option maxRecDepth 100000 in
theorem k_X3_clear (D : DD) (o b : Nat) (m : Int → Int) : Con (S := Unit) D yX3_clear wsX3_clear ({ frames := 0, cells := 0, slots := 0, locals := 0 }) 0 0 [.ref o] [(o, co 3 [.ref b]), (b, ca D 6 m)] (fun u => none) (fun u => True) (fun u => [(o, co 3 [.ref b]), (b, ca D 6 (fun _ => -1))]) := by
  refine Con.of (cc := cX3_clear) (nL := 2) (ret := none) rfl (by decide +kernel) (Nat.le_of_ble_eq_true rfl) ?_
  intro X A Q O hQ hin
  show G X D A 2 Q 0 0 0 [(0, .ref o)] [] [(o, co 3 [.ref b]), (b, ca D 6 m)]
  refine g_iconst O dX3_clear_0 1 rfl ?_
  refine g_istore_n O dX3_clear_1 2 [(0, .ref o), (1, vi 0)] rfl (by decide) rfl ?_
  have lp2 : ∀ (nn : Nat) (i : Int) (f : Int → Int), (0 ≤ i ∧ i ≤ 6) → (∀ kk, 0 ≤ kk → kk < i → f kk = -1) → (6 - i < (nn : Int)) → G X D A 2 Q 0 0 2 [(0, .ref o), (1, vi i)] [] [(o, co 3 [.ref b]), (b, ca D 6 f)] := by
    intro nn
    induction nn with
    | zero =>
      intro i f h1 h2 hm2
      exact absurd hm2 (by omega)
    | succ nn ih2 =>
      intro i f h1 h2 hm2
      refine g_iload_n O dX3_clear_2 3 1 rfl rfl ?_
      refine g_bipush O dX3_clear_3 5 rfl (by decide) ?_
      refine g_icmp_ge O dX3_clear_5 8 21 rfl rfl (by omega) (fun h5 => ?_) (fun h5 => ?_)
      · skip
        refine g_arr 1 (fun _ => -1) rfl (fun kk q1 q2 => h2 kk q1 (by omega)) [(o, co 3 [.ref b]), (b, ca D 6 (fun _ => -1))] rfl ?_
        exact g_vret O hQ dX3_clear_21 () rfl rfl trivial ⟨by decide, by decide⟩
      · skip
        refine g_aload_n O dX3_clear_8 9 0 rfl rfl ?_
        refine g_get O dX3_clear_9 12 rfl fX3_clear_9 0 rfl rfl ?_
        refine g_iload_n O dX3_clear_12 13 1 rfl rfl ?_
        refine g_iconst O dX3_clear_13 14 rfl ?_
        refine g_iast O dX3_clear_14 15 rfl 1 rfl (by decide) (by omega) [(o, co 3 [.ref b]), (b, ca D 6 (up f i (-1)))] rfl ?_
        refine g_iinc O dX3_clear_15 18 1 [(0, .ref o), (1, vi (i + 1))] rfl (by decide) rfl rfl ?_
        refine g_goto O dX3_clear_18 2 rfl ?_
        exact ih2 (i + 1) (up f i (-1)) (by omega) (up_inv h2) (by omega)
  exact lp2 1000 0 m (by omega) (fun kk q1 q2 => absurd q2 (by omega)) (by omega)
theorem sX3_copyFrom_3 : ∀ w ∈ wsX30, w ∈ wsX3_copyFrom := by decide +kernel
theorem fX3_copyFrom_9 : FK RX3 wsX3_copyFrom 9 3 0 := ⟨RX3, TX3, 1, rfl, sX3_copyFrom_3, by decide, List.mem_of_getElem? (i := 1) rfl⟩
set_option maxHeartbeats 4000000 in
set_option maxRecDepth 100000 in
theorem k_X3_copyFrom (D : DD) (o b o2 b2 : Nat) (m m2 : Int → Int) : Con (S := Unit) D yX3_copyFrom wsX3_copyFrom ({ frames := 0, cells := 0, slots := 0, locals := 0 }) 0 0 [.ref o, .ref o2] [(o, co 3 [.ref b]), (b, ca D 6 m), (o2, co 3 [.ref b2]), (b2, ca D 6 m2)] (fun u => none) (fun u => True) (fun u => [(o, co 3 [.ref b]), (b, ca D 6 m2), (o2, co 3 [.ref b2]), (b2, ca D 6 m2)]) := by
  refine Con.of (cc := cX3_copyFrom) (nL := 3) (ret := none) rfl (by decide +kernel) (Nat.le_of_ble_eq_true rfl) ?_
  intro X A Q O hQ hin
  show G X D A 3 Q 0 0 0 [(0, .ref o), (1, .ref o2)] [] [(o, co 3 [.ref b]), (b, ca D 6 m), (o2, co 3 [.ref b2]), (b2, ca D 6 m2)]
  refine g_iconst O dX3_copyFrom_0 1 rfl ?_
  refine g_istore_n O dX3_copyFrom_1 2 [(0, .ref o), (1, .ref o2), (2, vi 0)] rfl (by decide) rfl ?_
  have lp2 : ∀ (nn : Nat) (i : Int) (f : Int → Int), (0 ≤ i ∧ i ≤ 6) → (∀ kk, 0 ≤ kk → kk < i → f kk = m2 kk) → (6 - i < (nn : Int)) → G X D A 3 Q 0 0 2 [(0, .ref o), (1, .ref o2), (2, vi i)] [] [(o, co 3 [.ref b]), (b, ca D 6 f), (o2, co 3 [.ref b2]), (b2, ca D 6 m2)] := by
    intro nn
    induction nn with
    | zero =>
      intro i f h1 h2 hm2
      exact absurd hm2 (by omega)
    | succ nn ih2 =>
      intro i f h1 h2 hm2
      refine g_iload_n O dX3_copyFrom_2 3 2 rfl rfl ?_
      refine g_bipush O dX3_copyFrom_3 5 rfl (by decide) ?_
      refine g_icmp_ge O dX3_copyFrom_5 8 26 rfl rfl (by omega) (fun h5 => ?_) (fun h5 => ?_)
      · skip
        refine g_arr 1 m2 rfl (fun kk q1 q2 => h2 kk q1 (by omega)) [(o, co 3 [.ref b]), (b, ca D 6 m2), (o2, co 3 [.ref b2]), (b2, ca D 6 m2)] rfl ?_
        exact g_vret O hQ dX3_copyFrom_26 () rfl rfl trivial ⟨by decide, by decide⟩
      · skip
        refine g_aload_n O dX3_copyFrom_8 9 0 rfl rfl ?_
        refine g_get O dX3_copyFrom_9 12 rfl fX3_copyFrom_9 0 rfl rfl ?_
        refine g_iload_n O dX3_copyFrom_12 13 2 rfl rfl ?_
        refine g_aload_n O dX3_copyFrom_13 14 1 rfl rfl ?_
        refine g_get O dX3_copyFrom_14 17 rfl fX3_copyFrom_9 2 rfl rfl ?_
        refine g_iload_n O dX3_copyFrom_17 18 2 rfl rfl ?_
        refine g_iald O dX3_copyFrom_18 19 rfl 3 rfl (by decide) (by omega) ?_
        refine g_iast O dX3_copyFrom_19 20 rfl 1 rfl (by decide) (by omega) [(o, co 3 [.ref b]), (b, ca D 6 (up f i (m2 i))), (o2, co 3 [.ref b2]), (b2, ca D 6 m2)] rfl ?_
        refine g_iinc O dX3_copyFrom_20 23 2 [(0, .ref o), (1, .ref o2), (2, vi (i + 1))] rfl (by decide) rfl rfl ?_
        refine g_goto O dX3_copyFrom_23 2 rfl ?_
        exact ih2 (i + 1) (up f i (m2 i)) (by omega) (up_inv2 h2) (by omega)
  exact lp2 1000 0 m (by omega) (fun kk q1 q2 => absurd q2 (by omega)) (by omega)
theorem sX3_countPlaced_3 : ∀ w ∈ wsX30, w ∈ wsX3_countPlaced := by decide +kernel
theorem fX3_countPlaced_9 : FK RX3 wsX3_countPlaced 9 3 0 := ⟨RX3, TX3, 1, rfl, sX3_countPlaced_3, by decide, List.mem_of_getElem? (i := 1) rfl⟩
set_option maxHeartbeats 4000000 in
set_option maxRecDepth 100000 in
theorem k_X3_countPlaced (D : DD) (o b : Nat) (m : Int → Int) (hm : ∀ kk, 0 ≤ kk → kk < 6 → -1 ≤ m kk ∧ m kk < 5) : Con (S := Unit) D yX3_countPlaced wsX3_countPlaced ({ frames := 0, cells := 0, slots := 0, locals := 0 }) 0 0 [.ref o] [(o, co 3 [.ref b]), (b, ca D 6 m)] (fun u => some (vi (sm (plc m) 6))) (fun u => True) (fun u => [(o, co 3 [.ref b]), (b, ca D 6 m)]) := by
  refine Con.of (cc := cX3_countPlaced) (nL := 3) (ret := (some .int)) rfl (by decide +kernel) (Nat.le_of_ble_eq_true rfl) ?_
  intro X A Q O hQ hin
  show G X D A 3 Q 0 0 0 [(0, .ref o)] [] [(o, co 3 [.ref b]), (b, ca D 6 m)]
  refine g_iconst O dX3_countPlaced_0 1 rfl ?_
  refine g_istore_n O dX3_countPlaced_1 2 [(0, .ref o), (1, vi 0)] rfl (by decide) rfl ?_
  refine g_iconst O dX3_countPlaced_2 3 rfl ?_
  refine g_istore_n O dX3_countPlaced_3 4 [(0, .ref o), (1, vi 0), (2, vi 0)] rfl (by decide) rfl ?_
  have lp4 : ∀ (nn : Nat) (i : Int) (s : Int), (0 ≤ i ∧ i ≤ 6) → (s = sm (plc m) i) → (6 - i < (nn : Int)) → G X D A 3 Q 0 0 4 [(0, .ref o), (1, vi s), (2, vi i)] [] [(o, co 3 [.ref b]), (b, ca D 6 m)] := by
    intro nn
    induction nn with
    | zero =>
      intro i s h1 h2 hm4
      exact absurd hm4 (by omega)
    | succ nn ih4 =>
      intro i s h1 h2 hm4
      refine g_iload_n O dX3_countPlaced_4 5 2 rfl rfl ?_
      refine g_bipush O dX3_countPlaced_5 7 rfl (by decide) ?_
      refine g_icmp_ge O dX3_countPlaced_7 10 29 rfl rfl (by omega) (fun h7 => ?_) (fun h7 => ?_)
      · skip
        refine g_iload_n O dX3_countPlaced_29 30 1 rfl rfl ?_
        exact g_iret O hQ dX3_countPlaced_30 () (vi_eq (by rw [h2, show i = 6 by omega])) rfl trivial ⟨by decide, by decide⟩
      · skip
        have hmi := hm i (by omega) (by omega)
        refine g_aload_n O dX3_countPlaced_10 11 0 rfl rfl ?_
        refine g_get O dX3_countPlaced_11 14 rfl fX3_countPlaced_9 0 rfl rfl ?_
        refine g_iload_n O dX3_countPlaced_14 15 2 rfl rfl ?_
        refine g_iald O dX3_countPlaced_15 16 rfl 1 rfl (by decide) (by omega) ?_
        refine g_iconst O dX3_countPlaced_16 17 rfl ?_
        refine g_icmp_eq O dX3_countPlaced_17 20 23 rfl rfl (by omega) (fun h17 => ?_) (fun h17 => ?_)
        · skip
          refine g_iinc O dX3_countPlaced_23 26 2 [(0, .ref o), (1, vi s), (2, vi (i + 1))] rfl (by decide) rfl rfl ?_
          refine g_goto O dX3_countPlaced_26 4 rfl ?_
          exact ih4 (i + 1) s (by omega) (by rw [sm_s _ h1.1, ← h2]; unfold plc; split <;> omega) (by omega)
        · skip
          refine g_iinc O dX3_countPlaced_20 23 1 [(0, .ref o), (1, vi (s + 1)), (2, vi i)] rfl (by decide) rfl rfl ?_
          refine g_iinc O dX3_countPlaced_23 26 2 [(0, .ref o), (1, vi (s + 1)), (2, vi (i + 1))] rfl (by decide) rfl rfl ?_
          refine g_goto O dX3_countPlaced_26 4 rfl ?_
          exact ih4 (i + 1) (s + 1) (by omega) (by rw [sm_s _ h1.1, ← h2]; unfold plc; split <;> omega) (by omega)
  exact lp4 1000 0 0 (by omega) (sm_0 _).symm (by omega)
theorem sX3_othersAt_3 : ∀ w ∈ wsX30, w ∈ wsX3_othersAt := by decide +kernel
theorem fX3_othersAt_9 : FK RX3 wsX3_othersAt 9 3 0 := ⟨RX3, TX3, 1, rfl, sX3_othersAt_3, by decide, List.mem_of_getElem? (i := 1) rfl⟩
set_option maxHeartbeats 4000000 in
set_option maxRecDepth 100000 in
theorem k_X3_othersAt (D : DD) (o b : Nat) (m : Int → Int) (p x : Int) (hm : ∀ kk, 0 ≤ kk → kk < 6 → -1 ≤ m kk ∧ m kk < 5) (hp : -2147483648 ≤ p ∧ p < 2147483648) (hx : -2147483648 ≤ x ∧ x < 2147483648) : Con (S := Unit) D yX3_othersAt wsX3_othersAt ({ frames := 0, cells := 0, slots := 0, locals := 0 }) 0 0 [.ref o, vi p, vi x] [(o, co 3 [.ref b]), (b, ca D 6 m)] (fun u => some (vi (sm (oth m p x) 6))) (fun u => True) (fun u => [(o, co 3 [.ref b]), (b, ca D 6 m)]) := by
  refine Con.of (cc := cX3_othersAt) (nL := 5) (ret := (some .int)) rfl (by decide +kernel) (Nat.le_of_ble_eq_true rfl) ?_
  intro X A Q O hQ hin
  show G X D A 5 Q 0 0 0 [(0, .ref o), (1, vi p), (2, vi x)] [] [(o, co 3 [.ref b]), (b, ca D 6 m)]
  refine g_iconst O dX3_othersAt_0 1 rfl ?_
  refine g_istore_n O dX3_othersAt_1 2 [(0, .ref o), (1, vi p), (2, vi x), (3, vi 0)] rfl (by decide) rfl ?_
  refine g_iconst O dX3_othersAt_2 3 rfl ?_
  refine g_istore O dX3_othersAt_3 5 [(0, .ref o), (1, vi p), (2, vi x), (3, vi 0), (4, vi 0)] rfl (by decide) rfl ?_
  have lp5 : ∀ (nn : Nat) (i : Int) (s : Int), (0 ≤ i ∧ i ≤ 6) → (s = sm (oth m p x) i) → (6 - i < (nn : Int)) → G X D A 5 Q 0 0 5 [(0, .ref o), (1, vi p), (2, vi x), (3, vi s), (4, vi i)] [] [(o, co 3 [.ref b]), (b, ca D 6 m)] := by
    intro nn
    induction nn with
    | zero =>
      intro i s h1 h2 hm5
      exact absurd hm5 (by omega)
    | succ nn ih5 =>
      intro i s h1 h2 hm5
      refine g_iload O dX3_othersAt_5 7 4 rfl rfl ?_
      refine g_bipush O dX3_othersAt_7 9 rfl (by decide) ?_
      refine g_icmp_ge O dX3_othersAt_9 12 38 rfl rfl (by omega) (fun h9 => ?_) (fun h9 => ?_)
      · skip
        refine g_iload_n O dX3_othersAt_38 39 3 rfl rfl ?_
        exact g_iret O hQ dX3_othersAt_39 () (vi_eq (by rw [h2, show i = 6 by omega])) rfl trivial ⟨by decide, by decide⟩
      · skip
        refine g_iload O dX3_othersAt_12 14 4 rfl rfl ?_
        refine g_iload_n O dX3_othersAt_14 15 2 rfl rfl ?_
        refine g_icmp_eq O dX3_othersAt_15 18 32 rfl rfl (by omega) (fun h15 => ?_) (fun h15 => ?_)
        · skip
          refine g_iinc O dX3_othersAt_32 35 4 [(0, .ref o), (1, vi p), (2, vi x), (3, vi s), (4, vi (i + 1))] rfl (by decide) rfl rfl ?_
          refine g_goto O dX3_othersAt_35 5 rfl ?_
          exact ih5 (i + 1) s (by omega) (by rw [sm_s _ h1.1, ← h2]; unfold oth; split <;> omega) (by omega)
        · skip
          have hmi := hm i (by omega) (by omega)
          refine g_aload_n O dX3_othersAt_18 19 0 rfl rfl ?_
          refine g_get O dX3_othersAt_19 22 rfl fX3_othersAt_9 0 rfl rfl ?_
          refine g_iload O dX3_othersAt_22 24 4 rfl rfl ?_
          refine g_iald O dX3_othersAt_24 25 rfl 1 rfl (by decide) (by omega) ?_
          refine g_iload_n O dX3_othersAt_25 26 1 rfl rfl ?_
          refine g_icmp_ne O dX3_othersAt_26 29 32 rfl rfl (by omega) (fun h26 => ?_) (fun h26 => ?_)
          · skip
            refine g_iinc O dX3_othersAt_32 35 4 [(0, .ref o), (1, vi p), (2, vi x), (3, vi s), (4, vi (i + 1))] rfl (by decide) rfl rfl ?_
            refine g_goto O dX3_othersAt_35 5 rfl ?_
            exact ih5 (i + 1) s (by omega) (by rw [sm_s _ h1.1, ← h2]; unfold oth; split <;> omega) (by omega)
          · skip
            refine g_iinc O dX3_othersAt_29 32 3 [(0, .ref o), (1, vi p), (2, vi x), (3, vi (s + 1)), (4, vi i)] rfl (by decide) rfl rfl ?_
            refine g_iinc O dX3_othersAt_32 35 4 [(0, .ref o), (1, vi p), (2, vi x), (3, vi (s + 1)), (4, vi (i + 1))] rfl (by decide) rfl rfl ?_
            refine g_goto O dX3_othersAt_35 5 rfl ?_
            exact ih5 (i + 1) (s + 1) (by omega) (by rw [sm_s _ h1.1, ← h2]; unfold oth; split <;> omega) (by omega)
  exact lp5 1000 0 0 (by omega) (sm_0 _).symm (by omega)
end
section
/-- what the history holds behind an edit -/
def hpc (cnt : Int) : Int := if cnt = 5 then 5 else cnt + 1
def hpu (cnt : Int) (hp : Int → Int → Int) (v : Int → Int) (e : Int) : Int → Int := if cnt = 5 then (if e = 4 then v else hp (e + 1)) else if e = cnt then v else hp e
theorem sX1_forget_1 : ∀ w ∈ wsX10, w ∈ wsX1_forget := by decide +kernel
theorem fX1_forget_9 : FK RX1 wsX1_forget 9 1 0 := ⟨RX1, TX1, 3, rfl, sX1_forget_1, by decide, List.mem_of_getElem? (i := 1) rfl⟩
set_option maxHeartbeats 4000000 in
set_option maxRecDepth 100000 in
theorem k_X1_forget (D : DD) (ad : Nat → Nat) (cnt : Int) (hp hs : Int → Int → Int) : Con (S := Unit) D yX1_forget wsX1_forget ({ frames := 0, cells := 0, slots := 0, locals := 0 }) 0 0 [.ref (ad 11)] [(ad 11, co 1 [vi cnt, .ref (ad 12), .ref (ad 13)]), (ad 12, cq D 5 (qf [some (ad 14), some (ad 16), some (ad 18), some (ad 20), some (ad 22)])), (ad 13, cq D 5 (qf [some (ad 24), some (ad 26), some (ad 28), some (ad 30), some (ad 32)])), (ad 14, co 3 [.ref (ad 15)]), (ad 15, ca D 6 (hp 0)), (ad 16, co 3 [.ref (ad 17)]), (ad 17, ca D 6 (hp 1)), (ad 18, co 3 [.ref (ad 19)]), (ad 19, ca D 6 (hp 2)), (ad 20, co 3 [.ref (ad 21)]), (ad 21, ca D 6 (hp 3)), (ad 22, co 3 [.ref (ad 23)]), (ad 23, ca D 6 (hp 4)), (ad 24, co 3 [.ref (ad 25)]), (ad 25, ca D 6 (hs 0)), (ad 26, co 3 [.ref (ad 27)]), (ad 27, ca D 6 (hs 1)), (ad 28, co 3 [.ref (ad 29)]), (ad 29, ca D 6 (hs 2)), (ad 30, co 3 [.ref (ad 31)]), (ad 31, ca D 6 (hs 3)), (ad 32, co 3 [.ref (ad 33)]), (ad 33, ca D 6 (hs 4))] (fun u => none) (fun u => True) (fun u => [(ad 11, co 1 [vi 0, .ref (ad 12), .ref (ad 13)]), (ad 12, cq D 5 (qf [some (ad 14), some (ad 16), some (ad 18), some (ad 20), some (ad 22)])), (ad 13, cq D 5 (qf [some (ad 24), some (ad 26), some (ad 28), some (ad 30), some (ad 32)])), (ad 14, co 3 [.ref (ad 15)]), (ad 15, ca D 6 (hp 0)), (ad 16, co 3 [.ref (ad 17)]), (ad 17, ca D 6 (hp 1)), (ad 18, co 3 [.ref (ad 19)]), (ad 19, ca D 6 (hp 2)), (ad 20, co 3 [.ref (ad 21)]), (ad 21, ca D 6 (hp 3)), (ad 22, co 3 [.ref (ad 23)]), (ad 23, ca D 6 (hp 4)), (ad 24, co 3 [.ref (ad 25)]), (ad 25, ca D 6 (hs 0)), (ad 26, co 3 [.ref (ad 27)]), (ad 27, ca D 6 (hs 1)), (ad 28, co 3 [.ref (ad 29)]), (ad 29, ca D 6 (hs 2)), (ad 30, co 3 [.ref (ad 31)]), (ad 31, ca D 6 (hs 3)), (ad 32, co 3 [.ref (ad 33)]), (ad 33, ca D 6 (hs 4))]) := by
  refine Con.of (cc := cX1_forget) (nL := 1) (ret := none) rfl (by decide +kernel) (Nat.le_of_ble_eq_true rfl) ?_
  intro X A Q O hQ hin
  show G X D A 1 Q 0 0 0 [(0, .ref (ad 11))] [] [(ad 11, co 1 [vi cnt, .ref (ad 12), .ref (ad 13)]), (ad 12, cq D 5 (qf [some (ad 14), some (ad 16), some (ad 18), some (ad 20), some (ad 22)])), (ad 13, cq D 5 (qf [some (ad 24), some (ad 26), some (ad 28), some (ad 30), some (ad 32)])), (ad 14, co 3 [.ref (ad 15)]), (ad 15, ca D 6 (hp 0)), (ad 16, co 3 [.ref (ad 17)]), (ad 17, ca D 6 (hp 1)), (ad 18, co 3 [.ref (ad 19)]), (ad 19, ca D 6 (hp 2)), (ad 20, co 3 [.ref (ad 21)]), (ad 21, ca D 6 (hp 3)), (ad 22, co 3 [.ref (ad 23)]), (ad 23, ca D 6 (hp 4)), (ad 24, co 3 [.ref (ad 25)]), (ad 25, ca D 6 (hs 0)), (ad 26, co 3 [.ref (ad 27)]), (ad 27, ca D 6 (hs 1)), (ad 28, co 3 [.ref (ad 29)]), (ad 29, ca D 6 (hs 2)), (ad 30, co 3 [.ref (ad 31)]), (ad 31, ca D 6 (hs 3)), (ad 32, co 3 [.ref (ad 33)]), (ad 33, ca D 6 (hs 4))]
  refine g_aload_n O dX1_forget_0 1 0 rfl rfl ?_
  refine g_iconst O dX1_forget_1 2 rfl ?_
  refine g_put O dX1_forget_2 5 rfl fX1_forget_9 pF1_0 0 rfl rfl rfl (Nat.le_of_ble_eq_true rfl) [(ad 11, co 1 [vi 0, .ref (ad 12), .ref (ad 13)]), (ad 12, cq D 5 (qf [some (ad 14), some (ad 16), some (ad 18), some (ad 20), some (ad 22)])), (ad 13, cq D 5 (qf [some (ad 24), some (ad 26), some (ad 28), some (ad 30), some (ad 32)])), (ad 14, co 3 [.ref (ad 15)]), (ad 15, ca D 6 (hp 0)), (ad 16, co 3 [.ref (ad 17)]), (ad 17, ca D 6 (hp 1)), (ad 18, co 3 [.ref (ad 19)]), (ad 19, ca D 6 (hp 2)), (ad 20, co 3 [.ref (ad 21)]), (ad 21, ca D 6 (hp 3)), (ad 22, co 3 [.ref (ad 23)]), (ad 23, ca D 6 (hp 4)), (ad 24, co 3 [.ref (ad 25)]), (ad 25, ca D 6 (hs 0)), (ad 26, co 3 [.ref (ad 27)]), (ad 27, ca D 6 (hs 1)), (ad 28, co 3 [.ref (ad 29)]), (ad 29, ca D 6 (hs 2)), (ad 30, co 3 [.ref (ad 31)]), (ad 31, ca D 6 (hs 3)), (ad 32, co 3 [.ref (ad 33)]), (ad 33, ca D 6 (hs 4))] rfl ?_
  exact g_vret O hQ dX1_forget_5 () rfl rfl trivial ⟨by decide, by decide⟩
theorem sX1_dropOldest_1 : ∀ w ∈ wsX10, w ∈ wsX1_dropOldest := by decide +kernel
theorem fX1_dropOldest_17 : FK RX1 wsX1_dropOldest 17 1 1 := ⟨RX1, TX1, 3, rfl, sX1_dropOldest_1, by decide, List.mem_of_getElem? (i := 1) rfl⟩
theorem fX1_dropOldest_21 : FK RX1 wsX1_dropOldest 21 1 2 := ⟨RX1, TX1, 3, rfl, sX1_dropOldest_1, by decide, List.mem_of_getElem? (i := 2) rfl⟩
theorem fX1_dropOldest_9 : FK RX1 wsX1_dropOldest 9 1 0 := ⟨RX1, TX1, 3, rfl, sX1_dropOldest_1, by decide, List.mem_of_getElem? (i := 3) rfl⟩
set_option maxHeartbeats 4000000 in
set_option maxRecDepth 100000 in
theorem k_X1_dropOldest (D : DD) (ad : Nat → Nat) (cnt : Int) (hp hs : Int → Int → Int) : Con (S := Unit) D yX1_dropOldest wsX1_dropOldest ({ frames := 1, cells := 0, slots := 0, locals := 22 }) 0 0 [.ref (ad 11)] [(ad 11, co 1 [vi cnt, .ref (ad 12), .ref (ad 13)]), (ad 12, cq D 5 (qf [some (ad 14), some (ad 16), some (ad 18), some (ad 20), some (ad 22)])), (ad 13, cq D 5 (qf [some (ad 24), some (ad 26), some (ad 28), some (ad 30), some (ad 32)])), (ad 14, co 3 [.ref (ad 15)]), (ad 15, ca D 6 (hp 0)), (ad 16, co 3 [.ref (ad 17)]), (ad 17, ca D 6 (hp 1)), (ad 18, co 3 [.ref (ad 19)]), (ad 19, ca D 6 (hp 2)), (ad 20, co 3 [.ref (ad 21)]), (ad 21, ca D 6 (hp 3)), (ad 22, co 3 [.ref (ad 23)]), (ad 23, ca D 6 (hp 4)), (ad 24, co 3 [.ref (ad 25)]), (ad 25, ca D 6 (hs 0)), (ad 26, co 3 [.ref (ad 27)]), (ad 27, ca D 6 (hs 1)), (ad 28, co 3 [.ref (ad 29)]), (ad 29, ca D 6 (hs 2)), (ad 30, co 3 [.ref (ad 31)]), (ad 31, ca D 6 (hs 3)), (ad 32, co 3 [.ref (ad 33)]), (ad 33, ca D 6 (hs 4))] (fun u => none) (fun u => True) (fun u => [(ad 11, co 1 [vi 4, .ref (ad 12), .ref (ad 13)]), (ad 12, cq D 5 (qf [some (ad 14), some (ad 16), some (ad 18), some (ad 20), some (ad 22)])), (ad 13, cq D 5 (qf [some (ad 24), some (ad 26), some (ad 28), some (ad 30), some (ad 32)])), (ad 14, co 3 [.ref (ad 15)]), (ad 15, ca D 6 (hp 1)), (ad 16, co 3 [.ref (ad 17)]), (ad 17, ca D 6 (hp 2)), (ad 18, co 3 [.ref (ad 19)]), (ad 19, ca D 6 (hp 3)), (ad 20, co 3 [.ref (ad 21)]), (ad 21, ca D 6 (hp 4)), (ad 22, co 3 [.ref (ad 23)]), (ad 23, ca D 6 (hp 4)), (ad 24, co 3 [.ref (ad 25)]), (ad 25, ca D 6 (hs 1)), (ad 26, co 3 [.ref (ad 27)]), (ad 27, ca D 6 (hs 2)), (ad 28, co 3 [.ref (ad 29)]), (ad 29, ca D 6 (hs 3)), (ad 30, co 3 [.ref (ad 31)]), (ad 31, ca D 6 (hs 4)), (ad 32, co 3 [.ref (ad 33)]), (ad 33, ca D 6 (hs 4))]) := by
  refine Con.of (cc := cX1_dropOldest) (nL := 2) (ret := none) rfl (by decide +kernel) (Nat.le_of_ble_eq_true rfl) ?_
  intro X A Q O hQ hin
  show G X D A 2 Q 0 0 0 [(0, .ref (ad 11))] [] [(ad 11, co 1 [vi cnt, .ref (ad 12), .ref (ad 13)]), (ad 12, cq D 5 (qf [some (ad 14), some (ad 16), some (ad 18), some (ad 20), some (ad 22)])), (ad 13, cq D 5 (qf [some (ad 24), some (ad 26), some (ad 28), some (ad 30), some (ad 32)])), (ad 14, co 3 [.ref (ad 15)]), (ad 15, ca D 6 (hp 0)), (ad 16, co 3 [.ref (ad 17)]), (ad 17, ca D 6 (hp 1)), (ad 18, co 3 [.ref (ad 19)]), (ad 19, ca D 6 (hp 2)), (ad 20, co 3 [.ref (ad 21)]), (ad 21, ca D 6 (hp 3)), (ad 22, co 3 [.ref (ad 23)]), (ad 23, ca D 6 (hp 4)), (ad 24, co 3 [.ref (ad 25)]), (ad 25, ca D 6 (hs 0)), (ad 26, co 3 [.ref (ad 27)]), (ad 27, ca D 6 (hs 1)), (ad 28, co 3 [.ref (ad 29)]), (ad 29, ca D 6 (hs 2)), (ad 30, co 3 [.ref (ad 31)]), (ad 31, ca D 6 (hs 3)), (ad 32, co 3 [.ref (ad 33)]), (ad 33, ca D 6 (hs 4))]
  refine g_iconst O dX1_dropOldest_0 1 rfl ?_
  refine g_istore_n O dX1_dropOldest_1 2 [(0, .ref (ad 11)), (1, vi 1)] rfl (by decide) rfl ?_
  refine g_iload_n O dX1_dropOldest_2 3 1 rfl rfl ?_
  refine g_iconst O dX1_dropOldest_3 4 rfl ?_
  refine g_icmp_ge O dX1_dropOldest_4 7 47 rfl rfl (by omega) (fun h => absurd h (by decide)) (fun _ => ?_)
  refine g_aload_n O dX1_dropOldest_7 8 0 rfl rfl ?_
  refine g_get O dX1_dropOldest_8 11 rfl fX1_dropOldest_17 0 rfl rfl ?_
  refine g_iload_n O dX1_dropOldest_11 12 1 rfl rfl ?_
  refine g_iconst O dX1_dropOldest_12 13 rfl ?_
  refine g_isub O dX1_dropOldest_13 14 rfl ?_
  refine g_aald O dX1_dropOldest_14 15 rfl 1 rfl (by decide) (by decide) (ad 14) rfl ?_
  refine g_aload_n O dX1_dropOldest_15 16 0 rfl rfl ?_
  refine g_get O dX1_dropOldest_16 19 rfl fX1_dropOldest_17 0 rfl rfl ?_
  refine g_iload_n O dX1_dropOldest_19 20 1 rfl rfl ?_
  refine g_aald O dX1_dropOldest_20 21 rfl 1 rfl (by decide) (by decide) (ad 16) rfl ?_
  refine g_callV (As := [.ref (ad 16)]) (rest := []) (na := 1) O (k_X3_copyFrom D (ad 14) (ad 15) (ad 16) (ad 17) (hp 0) (hp 1)) dX1_dropOldest_21 gX1_dropOldest_X3_copyFrom rfl ⟨rfl, rfl⟩ (by decide +kernel) rfl (by decide) (by decide) rfl (by decide) (q0 := 3) (ci := 3) rfl rfl [3, 4, 5, 6] (by decide) rfl (fun _ => rfl) (fun _ => [(ad 11, co 1 [vi cnt, .ref (ad 12), .ref (ad 13)]), (ad 12, cq D 5 (qf [some (ad 14), some (ad 16), some (ad 18), some (ad 20), some (ad 22)])), (ad 13, cq D 5 (qf [some (ad 24), some (ad 26), some (ad 28), some (ad 30), some (ad 32)])), (ad 14, co 3 [.ref (ad 15)]), (ad 15, ca D 6 (hp 1)), (ad 16, co 3 [.ref (ad 17)]), (ad 17, ca D 6 (hp 1)), (ad 18, co 3 [.ref (ad 19)]), (ad 19, ca D 6 (hp 2)), (ad 20, co 3 [.ref (ad 21)]), (ad 21, ca D 6 (hp 3)), (ad 22, co 3 [.ref (ad 23)]), (ad 23, ca D 6 (hp 4)), (ad 24, co 3 [.ref (ad 25)]), (ad 25, ca D 6 (hs 0)), (ad 26, co 3 [.ref (ad 27)]), (ad 27, ca D 6 (hs 1)), (ad 28, co 3 [.ref (ad 29)]), (ad 29, ca D 6 (hs 2)), (ad 30, co 3 [.ref (ad 31)]), (ad 31, ca D 6 (hs 3)), (ad 32, co 3 [.ref (ad 33)]), (ad 33, ca D 6 (hs 4))]) (fun _ => rfl) 24 rfl (fun _ _ => ?_)
  show G X D A 2 Q 0 0 24 [(0, .ref (ad 11)), (1, vi 1)] [] [(ad 11, co 1 [vi cnt, .ref (ad 12), .ref (ad 13)]), (ad 12, cq D 5 (qf [some (ad 14), some (ad 16), some (ad 18), some (ad 20), some (ad 22)])), (ad 13, cq D 5 (qf [some (ad 24), some (ad 26), some (ad 28), some (ad 30), some (ad 32)])), (ad 14, co 3 [.ref (ad 15)]), (ad 15, ca D 6 (hp 1)), (ad 16, co 3 [.ref (ad 17)]), (ad 17, ca D 6 (hp 1)), (ad 18, co 3 [.ref (ad 19)]), (ad 19, ca D 6 (hp 2)), (ad 20, co 3 [.ref (ad 21)]), (ad 21, ca D 6 (hp 3)), (ad 22, co 3 [.ref (ad 23)]), (ad 23, ca D 6 (hp 4)), (ad 24, co 3 [.ref (ad 25)]), (ad 25, ca D 6 (hs 0)), (ad 26, co 3 [.ref (ad 27)]), (ad 27, ca D 6 (hs 1)), (ad 28, co 3 [.ref (ad 29)]), (ad 29, ca D 6 (hs 2)), (ad 30, co 3 [.ref (ad 31)]), (ad 31, ca D 6 (hs 3)), (ad 32, co 3 [.ref (ad 33)]), (ad 33, ca D 6 (hs 4))]
  refine g_aload_n O dX1_dropOldest_24 25 0 rfl rfl ?_
  refine g_get O dX1_dropOldest_25 28 rfl fX1_dropOldest_21 0 rfl rfl ?_
  refine g_iload_n O dX1_dropOldest_28 29 1 rfl rfl ?_
  refine g_iconst O dX1_dropOldest_29 30 rfl ?_
  refine g_isub O dX1_dropOldest_30 31 rfl ?_
  refine g_aald O dX1_dropOldest_31 32 rfl 2 rfl (by decide) (by decide) (ad 24) rfl ?_
  refine g_aload_n O dX1_dropOldest_32 33 0 rfl rfl ?_
  refine g_get O dX1_dropOldest_33 36 rfl fX1_dropOldest_21 0 rfl rfl ?_
  refine g_iload_n O dX1_dropOldest_36 37 1 rfl rfl ?_
  refine g_aald O dX1_dropOldest_37 38 rfl 2 rfl (by decide) (by decide) (ad 26) rfl ?_
  refine g_callV (As := [.ref (ad 26)]) (rest := []) (na := 1) O (k_X3_copyFrom D (ad 24) (ad 25) (ad 26) (ad 27) (hs 0) (hs 1)) dX1_dropOldest_38 gX1_dropOldest_X3_copyFrom rfl ⟨rfl, rfl⟩ (by decide +kernel) rfl (by decide) (by decide) rfl (by decide) (q0 := 13) (ci := 3) rfl rfl [13, 14, 15, 16] (by decide) rfl (fun _ => rfl) (fun _ => [(ad 11, co 1 [vi cnt, .ref (ad 12), .ref (ad 13)]), (ad 12, cq D 5 (qf [some (ad 14), some (ad 16), some (ad 18), some (ad 20), some (ad 22)])), (ad 13, cq D 5 (qf [some (ad 24), some (ad 26), some (ad 28), some (ad 30), some (ad 32)])), (ad 14, co 3 [.ref (ad 15)]), (ad 15, ca D 6 (hp 1)), (ad 16, co 3 [.ref (ad 17)]), (ad 17, ca D 6 (hp 1)), (ad 18, co 3 [.ref (ad 19)]), (ad 19, ca D 6 (hp 2)), (ad 20, co 3 [.ref (ad 21)]), (ad 21, ca D 6 (hp 3)), (ad 22, co 3 [.ref (ad 23)]), (ad 23, ca D 6 (hp 4)), (ad 24, co 3 [.ref (ad 25)]), (ad 25, ca D 6 (hs 1)), (ad 26, co 3 [.ref (ad 27)]), (ad 27, ca D 6 (hs 1)), (ad 28, co 3 [.ref (ad 29)]), (ad 29, ca D 6 (hs 2)), (ad 30, co 3 [.ref (ad 31)]), (ad 31, ca D 6 (hs 3)), (ad 32, co 3 [.ref (ad 33)]), (ad 33, ca D 6 (hs 4))]) (fun _ => rfl) 41 rfl (fun _ _ => ?_)
  show G X D A 2 Q 0 0 41 [(0, .ref (ad 11)), (1, vi 1)] [] [(ad 11, co 1 [vi cnt, .ref (ad 12), .ref (ad 13)]), (ad 12, cq D 5 (qf [some (ad 14), some (ad 16), some (ad 18), some (ad 20), some (ad 22)])), (ad 13, cq D 5 (qf [some (ad 24), some (ad 26), some (ad 28), some (ad 30), some (ad 32)])), (ad 14, co 3 [.ref (ad 15)]), (ad 15, ca D 6 (hp 1)), (ad 16, co 3 [.ref (ad 17)]), (ad 17, ca D 6 (hp 1)), (ad 18, co 3 [.ref (ad 19)]), (ad 19, ca D 6 (hp 2)), (ad 20, co 3 [.ref (ad 21)]), (ad 21, ca D 6 (hp 3)), (ad 22, co 3 [.ref (ad 23)]), (ad 23, ca D 6 (hp 4)), (ad 24, co 3 [.ref (ad 25)]), (ad 25, ca D 6 (hs 1)), (ad 26, co 3 [.ref (ad 27)]), (ad 27, ca D 6 (hs 1)), (ad 28, co 3 [.ref (ad 29)]), (ad 29, ca D 6 (hs 2)), (ad 30, co 3 [.ref (ad 31)]), (ad 31, ca D 6 (hs 3)), (ad 32, co 3 [.ref (ad 33)]), (ad 33, ca D 6 (hs 4))]
  refine g_iinc O dX1_dropOldest_41 44 1 [(0, .ref (ad 11)), (1, vi 2)] rfl (by decide) rfl rfl ?_
  refine g_goto O dX1_dropOldest_44 2 rfl ?_
  refine g_iload_n O dX1_dropOldest_2 3 1 rfl rfl ?_
  refine g_iconst O dX1_dropOldest_3 4 rfl ?_
  refine g_icmp_ge O dX1_dropOldest_4 7 47 rfl rfl (by omega) (fun h => absurd h (by decide)) (fun _ => ?_)
  refine g_aload_n O dX1_dropOldest_7 8 0 rfl rfl ?_
  refine g_get O dX1_dropOldest_8 11 rfl fX1_dropOldest_17 0 rfl rfl ?_
  refine g_iload_n O dX1_dropOldest_11 12 1 rfl rfl ?_
  refine g_iconst O dX1_dropOldest_12 13 rfl ?_
  refine g_isub O dX1_dropOldest_13 14 rfl ?_
  refine g_aald O dX1_dropOldest_14 15 rfl 1 rfl (by decide) (by decide) (ad 16) rfl ?_
  refine g_aload_n O dX1_dropOldest_15 16 0 rfl rfl ?_
  refine g_get O dX1_dropOldest_16 19 rfl fX1_dropOldest_17 0 rfl rfl ?_
  refine g_iload_n O dX1_dropOldest_19 20 1 rfl rfl ?_
  refine g_aald O dX1_dropOldest_20 21 rfl 1 rfl (by decide) (by decide) (ad 18) rfl ?_
  refine g_callV (As := [.ref (ad 18)]) (rest := []) (na := 1) O (k_X3_copyFrom D (ad 16) (ad 17) (ad 18) (ad 19) (hp 1) (hp 2)) dX1_dropOldest_21 gX1_dropOldest_X3_copyFrom rfl ⟨rfl, rfl⟩ (by decide +kernel) rfl (by decide) (by decide) rfl (by decide) (q0 := 5) (ci := 3) rfl rfl [5, 6, 7, 8] (by decide) rfl (fun _ => rfl) (fun _ => [(ad 11, co 1 [vi cnt, .ref (ad 12), .ref (ad 13)]), (ad 12, cq D 5 (qf [some (ad 14), some (ad 16), some (ad 18), some (ad 20), some (ad 22)])), (ad 13, cq D 5 (qf [some (ad 24), some (ad 26), some (ad 28), some (ad 30), some (ad 32)])), (ad 14, co 3 [.ref (ad 15)]), (ad 15, ca D 6 (hp 1)), (ad 16, co 3 [.ref (ad 17)]), (ad 17, ca D 6 (hp 2)), (ad 18, co 3 [.ref (ad 19)]), (ad 19, ca D 6 (hp 2)), (ad 20, co 3 [.ref (ad 21)]), (ad 21, ca D 6 (hp 3)), (ad 22, co 3 [.ref (ad 23)]), (ad 23, ca D 6 (hp 4)), (ad 24, co 3 [.ref (ad 25)]), (ad 25, ca D 6 (hs 1)), (ad 26, co 3 [.ref (ad 27)]), (ad 27, ca D 6 (hs 1)), (ad 28, co 3 [.ref (ad 29)]), (ad 29, ca D 6 (hs 2)), (ad 30, co 3 [.ref (ad 31)]), (ad 31, ca D 6 (hs 3)), (ad 32, co 3 [.ref (ad 33)]), (ad 33, ca D 6 (hs 4))]) (fun _ => rfl) 24 rfl (fun _ _ => ?_)
  show G X D A 2 Q 0 0 24 [(0, .ref (ad 11)), (1, vi 2)] [] [(ad 11, co 1 [vi cnt, .ref (ad 12), .ref (ad 13)]), (ad 12, cq D 5 (qf [some (ad 14), some (ad 16), some (ad 18), some (ad 20), some (ad 22)])), (ad 13, cq D 5 (qf [some (ad 24), some (ad 26), some (ad 28), some (ad 30), some (ad 32)])), (ad 14, co 3 [.ref (ad 15)]), (ad 15, ca D 6 (hp 1)), (ad 16, co 3 [.ref (ad 17)]), (ad 17, ca D 6 (hp 2)), (ad 18, co 3 [.ref (ad 19)]), (ad 19, ca D 6 (hp 2)), (ad 20, co 3 [.ref (ad 21)]), (ad 21, ca D 6 (hp 3)), (ad 22, co 3 [.ref (ad 23)]), (ad 23, ca D 6 (hp 4)), (ad 24, co 3 [.ref (ad 25)]), (ad 25, ca D 6 (hs 1)), (ad 26, co 3 [.ref (ad 27)]), (ad 27, ca D 6 (hs 1)), (ad 28, co 3 [.ref (ad 29)]), (ad 29, ca D 6 (hs 2)), (ad 30, co 3 [.ref (ad 31)]), (ad 31, ca D 6 (hs 3)), (ad 32, co 3 [.ref (ad 33)]), (ad 33, ca D 6 (hs 4))]
  refine g_aload_n O dX1_dropOldest_24 25 0 rfl rfl ?_
  refine g_get O dX1_dropOldest_25 28 rfl fX1_dropOldest_21 0 rfl rfl ?_
  refine g_iload_n O dX1_dropOldest_28 29 1 rfl rfl ?_
  refine g_iconst O dX1_dropOldest_29 30 rfl ?_
  refine g_isub O dX1_dropOldest_30 31 rfl ?_
  refine g_aald O dX1_dropOldest_31 32 rfl 2 rfl (by decide) (by decide) (ad 26) rfl ?_
  refine g_aload_n O dX1_dropOldest_32 33 0 rfl rfl ?_
  refine g_get O dX1_dropOldest_33 36 rfl fX1_dropOldest_21 0 rfl rfl ?_
  refine g_iload_n O dX1_dropOldest_36 37 1 rfl rfl ?_
  refine g_aald O dX1_dropOldest_37 38 rfl 2 rfl (by decide) (by decide) (ad 28) rfl ?_
  refine g_callV (As := [.ref (ad 28)]) (rest := []) (na := 1) O (k_X3_copyFrom D (ad 26) (ad 27) (ad 28) (ad 29) (hs 1) (hs 2)) dX1_dropOldest_38 gX1_dropOldest_X3_copyFrom rfl ⟨rfl, rfl⟩ (by decide +kernel) rfl (by decide) (by decide) rfl (by decide) (q0 := 15) (ci := 3) rfl rfl [15, 16, 17, 18] (by decide) rfl (fun _ => rfl) (fun _ => [(ad 11, co 1 [vi cnt, .ref (ad 12), .ref (ad 13)]), (ad 12, cq D 5 (qf [some (ad 14), some (ad 16), some (ad 18), some (ad 20), some (ad 22)])), (ad 13, cq D 5 (qf [some (ad 24), some (ad 26), some (ad 28), some (ad 30), some (ad 32)])), (ad 14, co 3 [.ref (ad 15)]), (ad 15, ca D 6 (hp 1)), (ad 16, co 3 [.ref (ad 17)]), (ad 17, ca D 6 (hp 2)), (ad 18, co 3 [.ref (ad 19)]), (ad 19, ca D 6 (hp 2)), (ad 20, co 3 [.ref (ad 21)]), (ad 21, ca D 6 (hp 3)), (ad 22, co 3 [.ref (ad 23)]), (ad 23, ca D 6 (hp 4)), (ad 24, co 3 [.ref (ad 25)]), (ad 25, ca D 6 (hs 1)), (ad 26, co 3 [.ref (ad 27)]), (ad 27, ca D 6 (hs 2)), (ad 28, co 3 [.ref (ad 29)]), (ad 29, ca D 6 (hs 2)), (ad 30, co 3 [.ref (ad 31)]), (ad 31, ca D 6 (hs 3)), (ad 32, co 3 [.ref (ad 33)]), (ad 33, ca D 6 (hs 4))]) (fun _ => rfl) 41 rfl (fun _ _ => ?_)
  show G X D A 2 Q 0 0 41 [(0, .ref (ad 11)), (1, vi 2)] [] [(ad 11, co 1 [vi cnt, .ref (ad 12), .ref (ad 13)]), (ad 12, cq D 5 (qf [some (ad 14), some (ad 16), some (ad 18), some (ad 20), some (ad 22)])), (ad 13, cq D 5 (qf [some (ad 24), some (ad 26), some (ad 28), some (ad 30), some (ad 32)])), (ad 14, co 3 [.ref (ad 15)]), (ad 15, ca D 6 (hp 1)), (ad 16, co 3 [.ref (ad 17)]), (ad 17, ca D 6 (hp 2)), (ad 18, co 3 [.ref (ad 19)]), (ad 19, ca D 6 (hp 2)), (ad 20, co 3 [.ref (ad 21)]), (ad 21, ca D 6 (hp 3)), (ad 22, co 3 [.ref (ad 23)]), (ad 23, ca D 6 (hp 4)), (ad 24, co 3 [.ref (ad 25)]), (ad 25, ca D 6 (hs 1)), (ad 26, co 3 [.ref (ad 27)]), (ad 27, ca D 6 (hs 2)), (ad 28, co 3 [.ref (ad 29)]), (ad 29, ca D 6 (hs 2)), (ad 30, co 3 [.ref (ad 31)]), (ad 31, ca D 6 (hs 3)), (ad 32, co 3 [.ref (ad 33)]), (ad 33, ca D 6 (hs 4))]
  refine g_iinc O dX1_dropOldest_41 44 1 [(0, .ref (ad 11)), (1, vi 3)] rfl (by decide) rfl rfl ?_
  refine g_goto O dX1_dropOldest_44 2 rfl ?_
  refine g_iload_n O dX1_dropOldest_2 3 1 rfl rfl ?_
  refine g_iconst O dX1_dropOldest_3 4 rfl ?_
  refine g_icmp_ge O dX1_dropOldest_4 7 47 rfl rfl (by omega) (fun h => absurd h (by decide)) (fun _ => ?_)
  refine g_aload_n O dX1_dropOldest_7 8 0 rfl rfl ?_
  refine g_get O dX1_dropOldest_8 11 rfl fX1_dropOldest_17 0 rfl rfl ?_
  refine g_iload_n O dX1_dropOldest_11 12 1 rfl rfl ?_
  refine g_iconst O dX1_dropOldest_12 13 rfl ?_
  refine g_isub O dX1_dropOldest_13 14 rfl ?_
  refine g_aald O dX1_dropOldest_14 15 rfl 1 rfl (by decide) (by decide) (ad 18) rfl ?_
  refine g_aload_n O dX1_dropOldest_15 16 0 rfl rfl ?_
  refine g_get O dX1_dropOldest_16 19 rfl fX1_dropOldest_17 0 rfl rfl ?_
  refine g_iload_n O dX1_dropOldest_19 20 1 rfl rfl ?_
  refine g_aald O dX1_dropOldest_20 21 rfl 1 rfl (by decide) (by decide) (ad 20) rfl ?_
  refine g_callV (As := [.ref (ad 20)]) (rest := []) (na := 1) O (k_X3_copyFrom D (ad 18) (ad 19) (ad 20) (ad 21) (hp 2) (hp 3)) dX1_dropOldest_21 gX1_dropOldest_X3_copyFrom rfl ⟨rfl, rfl⟩ (by decide +kernel) rfl (by decide) (by decide) rfl (by decide) (q0 := 7) (ci := 3) rfl rfl [7, 8, 9, 10] (by decide) rfl (fun _ => rfl) (fun _ => [(ad 11, co 1 [vi cnt, .ref (ad 12), .ref (ad 13)]), (ad 12, cq D 5 (qf [some (ad 14), some (ad 16), some (ad 18), some (ad 20), some (ad 22)])), (ad 13, cq D 5 (qf [some (ad 24), some (ad 26), some (ad 28), some (ad 30), some (ad 32)])), (ad 14, co 3 [.ref (ad 15)]), (ad 15, ca D 6 (hp 1)), (ad 16, co 3 [.ref (ad 17)]), (ad 17, ca D 6 (hp 2)), (ad 18, co 3 [.ref (ad 19)]), (ad 19, ca D 6 (hp 3)), (ad 20, co 3 [.ref (ad 21)]), (ad 21, ca D 6 (hp 3)), (ad 22, co 3 [.ref (ad 23)]), (ad 23, ca D 6 (hp 4)), (ad 24, co 3 [.ref (ad 25)]), (ad 25, ca D 6 (hs 1)), (ad 26, co 3 [.ref (ad 27)]), (ad 27, ca D 6 (hs 2)), (ad 28, co 3 [.ref (ad 29)]), (ad 29, ca D 6 (hs 2)), (ad 30, co 3 [.ref (ad 31)]), (ad 31, ca D 6 (hs 3)), (ad 32, co 3 [.ref (ad 33)]), (ad 33, ca D 6 (hs 4))]) (fun _ => rfl) 24 rfl (fun _ _ => ?_)
  show G X D A 2 Q 0 0 24 [(0, .ref (ad 11)), (1, vi 3)] [] [(ad 11, co 1 [vi cnt, .ref (ad 12), .ref (ad 13)]), (ad 12, cq D 5 (qf [some (ad 14), some (ad 16), some (ad 18), some (ad 20), some (ad 22)])), (ad 13, cq D 5 (qf [some (ad 24), some (ad 26), some (ad 28), some (ad 30), some (ad 32)])), (ad 14, co 3 [.ref (ad 15)]), (ad 15, ca D 6 (hp 1)), (ad 16, co 3 [.ref (ad 17)]), (ad 17, ca D 6 (hp 2)), (ad 18, co 3 [.ref (ad 19)]), (ad 19, ca D 6 (hp 3)), (ad 20, co 3 [.ref (ad 21)]), (ad 21, ca D 6 (hp 3)), (ad 22, co 3 [.ref (ad 23)]), (ad 23, ca D 6 (hp 4)), (ad 24, co 3 [.ref (ad 25)]), (ad 25, ca D 6 (hs 1)), (ad 26, co 3 [.ref (ad 27)]), (ad 27, ca D 6 (hs 2)), (ad 28, co 3 [.ref (ad 29)]), (ad 29, ca D 6 (hs 2)), (ad 30, co 3 [.ref (ad 31)]), (ad 31, ca D 6 (hs 3)), (ad 32, co 3 [.ref (ad 33)]), (ad 33, ca D 6 (hs 4))]
  refine g_aload_n O dX1_dropOldest_24 25 0 rfl rfl ?_
  refine g_get O dX1_dropOldest_25 28 rfl fX1_dropOldest_21 0 rfl rfl ?_
  refine g_iload_n O dX1_dropOldest_28 29 1 rfl rfl ?_
  refine g_iconst O dX1_dropOldest_29 30 rfl ?_
  refine g_isub O dX1_dropOldest_30 31 rfl ?_
  refine g_aald O dX1_dropOldest_31 32 rfl 2 rfl (by decide) (by decide) (ad 28) rfl ?_
  refine g_aload_n O dX1_dropOldest_32 33 0 rfl rfl ?_
  refine g_get O dX1_dropOldest_33 36 rfl fX1_dropOldest_21 0 rfl rfl ?_
  refine g_iload_n O dX1_dropOldest_36 37 1 rfl rfl ?_
  refine g_aald O dX1_dropOldest_37 38 rfl 2 rfl (by decide) (by decide) (ad 30) rfl ?_
  refine g_callV (As := [.ref (ad 30)]) (rest := []) (na := 1) O (k_X3_copyFrom D (ad 28) (ad 29) (ad 30) (ad 31) (hs 2) (hs 3)) dX1_dropOldest_38 gX1_dropOldest_X3_copyFrom rfl ⟨rfl, rfl⟩ (by decide +kernel) rfl (by decide) (by decide) rfl (by decide) (q0 := 17) (ci := 3) rfl rfl [17, 18, 19, 20] (by decide) rfl (fun _ => rfl) (fun _ => [(ad 11, co 1 [vi cnt, .ref (ad 12), .ref (ad 13)]), (ad 12, cq D 5 (qf [some (ad 14), some (ad 16), some (ad 18), some (ad 20), some (ad 22)])), (ad 13, cq D 5 (qf [some (ad 24), some (ad 26), some (ad 28), some (ad 30), some (ad 32)])), (ad 14, co 3 [.ref (ad 15)]), (ad 15, ca D 6 (hp 1)), (ad 16, co 3 [.ref (ad 17)]), (ad 17, ca D 6 (hp 2)), (ad 18, co 3 [.ref (ad 19)]), (ad 19, ca D 6 (hp 3)), (ad 20, co 3 [.ref (ad 21)]), (ad 21, ca D 6 (hp 3)), (ad 22, co 3 [.ref (ad 23)]), (ad 23, ca D 6 (hp 4)), (ad 24, co 3 [.ref (ad 25)]), (ad 25, ca D 6 (hs 1)), (ad 26, co 3 [.ref (ad 27)]), (ad 27, ca D 6 (hs 2)), (ad 28, co 3 [.ref (ad 29)]), (ad 29, ca D 6 (hs 3)), (ad 30, co 3 [.ref (ad 31)]), (ad 31, ca D 6 (hs 3)), (ad 32, co 3 [.ref (ad 33)]), (ad 33, ca D 6 (hs 4))]) (fun _ => rfl) 41 rfl (fun _ _ => ?_)
  show G X D A 2 Q 0 0 41 [(0, .ref (ad 11)), (1, vi 3)] [] [(ad 11, co 1 [vi cnt, .ref (ad 12), .ref (ad 13)]), (ad 12, cq D 5 (qf [some (ad 14), some (ad 16), some (ad 18), some (ad 20), some (ad 22)])), (ad 13, cq D 5 (qf [some (ad 24), some (ad 26), some (ad 28), some (ad 30), some (ad 32)])), (ad 14, co 3 [.ref (ad 15)]), (ad 15, ca D 6 (hp 1)), (ad 16, co 3 [.ref (ad 17)]), (ad 17, ca D 6 (hp 2)), (ad 18, co 3 [.ref (ad 19)]), (ad 19, ca D 6 (hp 3)), (ad 20, co 3 [.ref (ad 21)]), (ad 21, ca D 6 (hp 3)), (ad 22, co 3 [.ref (ad 23)]), (ad 23, ca D 6 (hp 4)), (ad 24, co 3 [.ref (ad 25)]), (ad 25, ca D 6 (hs 1)), (ad 26, co 3 [.ref (ad 27)]), (ad 27, ca D 6 (hs 2)), (ad 28, co 3 [.ref (ad 29)]), (ad 29, ca D 6 (hs 3)), (ad 30, co 3 [.ref (ad 31)]), (ad 31, ca D 6 (hs 3)), (ad 32, co 3 [.ref (ad 33)]), (ad 33, ca D 6 (hs 4))]
  refine g_iinc O dX1_dropOldest_41 44 1 [(0, .ref (ad 11)), (1, vi 4)] rfl (by decide) rfl rfl ?_
  refine g_goto O dX1_dropOldest_44 2 rfl ?_
  refine g_iload_n O dX1_dropOldest_2 3 1 rfl rfl ?_
  refine g_iconst O dX1_dropOldest_3 4 rfl ?_
  refine g_icmp_ge O dX1_dropOldest_4 7 47 rfl rfl (by omega) (fun h => absurd h (by decide)) (fun _ => ?_)
  refine g_aload_n O dX1_dropOldest_7 8 0 rfl rfl ?_
  refine g_get O dX1_dropOldest_8 11 rfl fX1_dropOldest_17 0 rfl rfl ?_
  refine g_iload_n O dX1_dropOldest_11 12 1 rfl rfl ?_
  refine g_iconst O dX1_dropOldest_12 13 rfl ?_
  refine g_isub O dX1_dropOldest_13 14 rfl ?_
  refine g_aald O dX1_dropOldest_14 15 rfl 1 rfl (by decide) (by decide) (ad 20) rfl ?_
  refine g_aload_n O dX1_dropOldest_15 16 0 rfl rfl ?_
  refine g_get O dX1_dropOldest_16 19 rfl fX1_dropOldest_17 0 rfl rfl ?_
  refine g_iload_n O dX1_dropOldest_19 20 1 rfl rfl ?_
  refine g_aald O dX1_dropOldest_20 21 rfl 1 rfl (by decide) (by decide) (ad 22) rfl ?_
  refine g_callV (As := [.ref (ad 22)]) (rest := []) (na := 1) O (k_X3_copyFrom D (ad 20) (ad 21) (ad 22) (ad 23) (hp 3) (hp 4)) dX1_dropOldest_21 gX1_dropOldest_X3_copyFrom rfl ⟨rfl, rfl⟩ (by decide +kernel) rfl (by decide) (by decide) rfl (by decide) (q0 := 9) (ci := 3) rfl rfl [9, 10, 11, 12] (by decide) rfl (fun _ => rfl) (fun _ => [(ad 11, co 1 [vi cnt, .ref (ad 12), .ref (ad 13)]), (ad 12, cq D 5 (qf [some (ad 14), some (ad 16), some (ad 18), some (ad 20), some (ad 22)])), (ad 13, cq D 5 (qf [some (ad 24), some (ad 26), some (ad 28), some (ad 30), some (ad 32)])), (ad 14, co 3 [.ref (ad 15)]), (ad 15, ca D 6 (hp 1)), (ad 16, co 3 [.ref (ad 17)]), (ad 17, ca D 6 (hp 2)), (ad 18, co 3 [.ref (ad 19)]), (ad 19, ca D 6 (hp 3)), (ad 20, co 3 [.ref (ad 21)]), (ad 21, ca D 6 (hp 4)), (ad 22, co 3 [.ref (ad 23)]), (ad 23, ca D 6 (hp 4)), (ad 24, co 3 [.ref (ad 25)]), (ad 25, ca D 6 (hs 1)), (ad 26, co 3 [.ref (ad 27)]), (ad 27, ca D 6 (hs 2)), (ad 28, co 3 [.ref (ad 29)]), (ad 29, ca D 6 (hs 3)), (ad 30, co 3 [.ref (ad 31)]), (ad 31, ca D 6 (hs 3)), (ad 32, co 3 [.ref (ad 33)]), (ad 33, ca D 6 (hs 4))]) (fun _ => rfl) 24 rfl (fun _ _ => ?_)
  show G X D A 2 Q 0 0 24 [(0, .ref (ad 11)), (1, vi 4)] [] [(ad 11, co 1 [vi cnt, .ref (ad 12), .ref (ad 13)]), (ad 12, cq D 5 (qf [some (ad 14), some (ad 16), some (ad 18), some (ad 20), some (ad 22)])), (ad 13, cq D 5 (qf [some (ad 24), some (ad 26), some (ad 28), some (ad 30), some (ad 32)])), (ad 14, co 3 [.ref (ad 15)]), (ad 15, ca D 6 (hp 1)), (ad 16, co 3 [.ref (ad 17)]), (ad 17, ca D 6 (hp 2)), (ad 18, co 3 [.ref (ad 19)]), (ad 19, ca D 6 (hp 3)), (ad 20, co 3 [.ref (ad 21)]), (ad 21, ca D 6 (hp 4)), (ad 22, co 3 [.ref (ad 23)]), (ad 23, ca D 6 (hp 4)), (ad 24, co 3 [.ref (ad 25)]), (ad 25, ca D 6 (hs 1)), (ad 26, co 3 [.ref (ad 27)]), (ad 27, ca D 6 (hs 2)), (ad 28, co 3 [.ref (ad 29)]), (ad 29, ca D 6 (hs 3)), (ad 30, co 3 [.ref (ad 31)]), (ad 31, ca D 6 (hs 3)), (ad 32, co 3 [.ref (ad 33)]), (ad 33, ca D 6 (hs 4))]
  refine g_aload_n O dX1_dropOldest_24 25 0 rfl rfl ?_
  refine g_get O dX1_dropOldest_25 28 rfl fX1_dropOldest_21 0 rfl rfl ?_
  refine g_iload_n O dX1_dropOldest_28 29 1 rfl rfl ?_
  refine g_iconst O dX1_dropOldest_29 30 rfl ?_
  refine g_isub O dX1_dropOldest_30 31 rfl ?_
  refine g_aald O dX1_dropOldest_31 32 rfl 2 rfl (by decide) (by decide) (ad 30) rfl ?_
  refine g_aload_n O dX1_dropOldest_32 33 0 rfl rfl ?_
  refine g_get O dX1_dropOldest_33 36 rfl fX1_dropOldest_21 0 rfl rfl ?_
  refine g_iload_n O dX1_dropOldest_36 37 1 rfl rfl ?_
  refine g_aald O dX1_dropOldest_37 38 rfl 2 rfl (by decide) (by decide) (ad 32) rfl ?_
  refine g_callV (As := [.ref (ad 32)]) (rest := []) (na := 1) O (k_X3_copyFrom D (ad 30) (ad 31) (ad 32) (ad 33) (hs 3) (hs 4)) dX1_dropOldest_38 gX1_dropOldest_X3_copyFrom rfl ⟨rfl, rfl⟩ (by decide +kernel) rfl (by decide) (by decide) rfl (by decide) (q0 := 19) (ci := 3) rfl rfl [19, 20, 21, 22] (by decide) rfl (fun _ => rfl) (fun _ => [(ad 11, co 1 [vi cnt, .ref (ad 12), .ref (ad 13)]), (ad 12, cq D 5 (qf [some (ad 14), some (ad 16), some (ad 18), some (ad 20), some (ad 22)])), (ad 13, cq D 5 (qf [some (ad 24), some (ad 26), some (ad 28), some (ad 30), some (ad 32)])), (ad 14, co 3 [.ref (ad 15)]), (ad 15, ca D 6 (hp 1)), (ad 16, co 3 [.ref (ad 17)]), (ad 17, ca D 6 (hp 2)), (ad 18, co 3 [.ref (ad 19)]), (ad 19, ca D 6 (hp 3)), (ad 20, co 3 [.ref (ad 21)]), (ad 21, ca D 6 (hp 4)), (ad 22, co 3 [.ref (ad 23)]), (ad 23, ca D 6 (hp 4)), (ad 24, co 3 [.ref (ad 25)]), (ad 25, ca D 6 (hs 1)), (ad 26, co 3 [.ref (ad 27)]), (ad 27, ca D 6 (hs 2)), (ad 28, co 3 [.ref (ad 29)]), (ad 29, ca D 6 (hs 3)), (ad 30, co 3 [.ref (ad 31)]), (ad 31, ca D 6 (hs 4)), (ad 32, co 3 [.ref (ad 33)]), (ad 33, ca D 6 (hs 4))]) (fun _ => rfl) 41 rfl (fun _ _ => ?_)
  show G X D A 2 Q 0 0 41 [(0, .ref (ad 11)), (1, vi 4)] [] [(ad 11, co 1 [vi cnt, .ref (ad 12), .ref (ad 13)]), (ad 12, cq D 5 (qf [some (ad 14), some (ad 16), some (ad 18), some (ad 20), some (ad 22)])), (ad 13, cq D 5 (qf [some (ad 24), some (ad 26), some (ad 28), some (ad 30), some (ad 32)])), (ad 14, co 3 [.ref (ad 15)]), (ad 15, ca D 6 (hp 1)), (ad 16, co 3 [.ref (ad 17)]), (ad 17, ca D 6 (hp 2)), (ad 18, co 3 [.ref (ad 19)]), (ad 19, ca D 6 (hp 3)), (ad 20, co 3 [.ref (ad 21)]), (ad 21, ca D 6 (hp 4)), (ad 22, co 3 [.ref (ad 23)]), (ad 23, ca D 6 (hp 4)), (ad 24, co 3 [.ref (ad 25)]), (ad 25, ca D 6 (hs 1)), (ad 26, co 3 [.ref (ad 27)]), (ad 27, ca D 6 (hs 2)), (ad 28, co 3 [.ref (ad 29)]), (ad 29, ca D 6 (hs 3)), (ad 30, co 3 [.ref (ad 31)]), (ad 31, ca D 6 (hs 4)), (ad 32, co 3 [.ref (ad 33)]), (ad 33, ca D 6 (hs 4))]
  refine g_iinc O dX1_dropOldest_41 44 1 [(0, .ref (ad 11)), (1, vi 5)] rfl (by decide) rfl rfl ?_
  refine g_goto O dX1_dropOldest_44 2 rfl ?_
  refine g_iload_n O dX1_dropOldest_2 3 1 rfl rfl ?_
  refine g_iconst O dX1_dropOldest_3 4 rfl ?_
  refine g_icmp_ge O dX1_dropOldest_4 7 47 rfl rfl (by omega) (fun _ => ?_) (fun h => absurd h (by decide))
  refine g_aload_n O dX1_dropOldest_47 48 0 rfl rfl ?_
  refine g_iconst O dX1_dropOldest_48 49 rfl ?_
  refine g_put O dX1_dropOldest_49 52 rfl fX1_dropOldest_9 pF1_0 0 rfl rfl rfl (Nat.le_of_ble_eq_true rfl) [(ad 11, co 1 [vi 4, .ref (ad 12), .ref (ad 13)]), (ad 12, cq D 5 (qf [some (ad 14), some (ad 16), some (ad 18), some (ad 20), some (ad 22)])), (ad 13, cq D 5 (qf [some (ad 24), some (ad 26), some (ad 28), some (ad 30), some (ad 32)])), (ad 14, co 3 [.ref (ad 15)]), (ad 15, ca D 6 (hp 1)), (ad 16, co 3 [.ref (ad 17)]), (ad 17, ca D 6 (hp 2)), (ad 18, co 3 [.ref (ad 19)]), (ad 19, ca D 6 (hp 3)), (ad 20, co 3 [.ref (ad 21)]), (ad 21, ca D 6 (hp 4)), (ad 22, co 3 [.ref (ad 23)]), (ad 23, ca D 6 (hp 4)), (ad 24, co 3 [.ref (ad 25)]), (ad 25, ca D 6 (hs 1)), (ad 26, co 3 [.ref (ad 27)]), (ad 27, ca D 6 (hs 2)), (ad 28, co 3 [.ref (ad 29)]), (ad 29, ca D 6 (hs 3)), (ad 30, co 3 [.ref (ad 31)]), (ad 31, ca D 6 (hs 4)), (ad 32, co 3 [.ref (ad 33)]), (ad 33, ca D 6 (hs 4))] rfl ?_
  exact g_vret O hQ dX1_dropOldest_52 () rfl rfl trivial ⟨by decide, by decide⟩
theorem sX1_remember_1 : ∀ w ∈ wsX10, w ∈ wsX1_remember := by decide +kernel
theorem fX1_remember_17 : FK RX1 wsX1_remember 17 1 1 := ⟨RX1, TX1, 3, rfl, sX1_remember_1, by decide, List.mem_of_getElem? (i := 2) rfl⟩
theorem fX1_remember_21 : FK RX1 wsX1_remember 21 1 2 := ⟨RX1, TX1, 3, rfl, sX1_remember_1, by decide, List.mem_of_getElem? (i := 3) rfl⟩
theorem fX1_remember_9 : FK RX1 wsX1_remember 9 1 0 := ⟨RX1, TX1, 3, rfl, sX1_remember_1, by decide, List.mem_of_getElem? (i := 1) rfl⟩
set_option maxHeartbeats 4000000 in
set_option maxRecDepth 100000 in
theorem k_X1_remember (D : DD) (ad : Nat → Nat) (cnt : Int) (hp hs : Int → Int → Int) (pr sv : Int → Int) (hcn : 0 ≤ cnt ∧ cnt ≤ 5) : Con (S := Unit) D yX1_remember wsX1_remember ({ frames := 2, cells := 0, slots := 0, locals := 43 }) 0 0 [.ref (ad 11), .ref (ad 5), .ref (ad 7)] [(ad 11, co 1 [vi cnt, .ref (ad 12), .ref (ad 13)]), (ad 12, cq D 5 (qf [some (ad 14), some (ad 16), some (ad 18), some (ad 20), some (ad 22)])), (ad 13, cq D 5 (qf [some (ad 24), some (ad 26), some (ad 28), some (ad 30), some (ad 32)])), (ad 14, co 3 [.ref (ad 15)]), (ad 15, ca D 6 (hp 0)), (ad 16, co 3 [.ref (ad 17)]), (ad 17, ca D 6 (hp 1)), (ad 18, co 3 [.ref (ad 19)]), (ad 19, ca D 6 (hp 2)), (ad 20, co 3 [.ref (ad 21)]), (ad 21, ca D 6 (hp 3)), (ad 22, co 3 [.ref (ad 23)]), (ad 23, ca D 6 (hp 4)), (ad 24, co 3 [.ref (ad 25)]), (ad 25, ca D 6 (hs 0)), (ad 26, co 3 [.ref (ad 27)]), (ad 27, ca D 6 (hs 1)), (ad 28, co 3 [.ref (ad 29)]), (ad 29, ca D 6 (hs 2)), (ad 30, co 3 [.ref (ad 31)]), (ad 31, ca D 6 (hs 3)), (ad 32, co 3 [.ref (ad 33)]), (ad 33, ca D 6 (hs 4)), (ad 5, co 3 [.ref (ad 6)]), (ad 6, ca D 6 pr), (ad 7, co 3 [.ref (ad 8)]), (ad 8, ca D 6 sv)] (fun u => none) (fun u => True) (fun u => [(ad 11, co 1 [vi (hpc cnt), .ref (ad 12), .ref (ad 13)]), (ad 12, cq D 5 (qf [some (ad 14), some (ad 16), some (ad 18), some (ad 20), some (ad 22)])), (ad 13, cq D 5 (qf [some (ad 24), some (ad 26), some (ad 28), some (ad 30), some (ad 32)])), (ad 14, co 3 [.ref (ad 15)]), (ad 15, ca D 6 (hpu cnt hp pr 0)), (ad 16, co 3 [.ref (ad 17)]), (ad 17, ca D 6 (hpu cnt hp pr 1)), (ad 18, co 3 [.ref (ad 19)]), (ad 19, ca D 6 (hpu cnt hp pr 2)), (ad 20, co 3 [.ref (ad 21)]), (ad 21, ca D 6 (hpu cnt hp pr 3)), (ad 22, co 3 [.ref (ad 23)]), (ad 23, ca D 6 (hpu cnt hp pr 4)), (ad 24, co 3 [.ref (ad 25)]), (ad 25, ca D 6 (hpu cnt hs sv 0)), (ad 26, co 3 [.ref (ad 27)]), (ad 27, ca D 6 (hpu cnt hs sv 1)), (ad 28, co 3 [.ref (ad 29)]), (ad 29, ca D 6 (hpu cnt hs sv 2)), (ad 30, co 3 [.ref (ad 31)]), (ad 31, ca D 6 (hpu cnt hs sv 3)), (ad 32, co 3 [.ref (ad 33)]), (ad 33, ca D 6 (hpu cnt hs sv 4)), (ad 5, co 3 [.ref (ad 6)]), (ad 6, ca D 6 pr), (ad 7, co 3 [.ref (ad 8)]), (ad 8, ca D 6 sv)]) := by
  refine Con.of (cc := cX1_remember) (nL := 3) (ret := none) rfl (by decide +kernel) (Nat.le_of_ble_eq_true rfl) ?_
  intro X A Q O hQ hin
  show G X D A 3 Q 0 0 0 [(0, .ref (ad 11)), (1, .ref (ad 5)), (2, .ref (ad 7))] [] [(ad 11, co 1 [vi cnt, .ref (ad 12), .ref (ad 13)]), (ad 12, cq D 5 (qf [some (ad 14), some (ad 16), some (ad 18), some (ad 20), some (ad 22)])), (ad 13, cq D 5 (qf [some (ad 24), some (ad 26), some (ad 28), some (ad 30), some (ad 32)])), (ad 14, co 3 [.ref (ad 15)]), (ad 15, ca D 6 (hp 0)), (ad 16, co 3 [.ref (ad 17)]), (ad 17, ca D 6 (hp 1)), (ad 18, co 3 [.ref (ad 19)]), (ad 19, ca D 6 (hp 2)), (ad 20, co 3 [.ref (ad 21)]), (ad 21, ca D 6 (hp 3)), (ad 22, co 3 [.ref (ad 23)]), (ad 23, ca D 6 (hp 4)), (ad 24, co 3 [.ref (ad 25)]), (ad 25, ca D 6 (hs 0)), (ad 26, co 3 [.ref (ad 27)]), (ad 27, ca D 6 (hs 1)), (ad 28, co 3 [.ref (ad 29)]), (ad 29, ca D 6 (hs 2)), (ad 30, co 3 [.ref (ad 31)]), (ad 31, ca D 6 (hs 3)), (ad 32, co 3 [.ref (ad 33)]), (ad 33, ca D 6 (hs 4)), (ad 5, co 3 [.ref (ad 6)]), (ad 6, ca D 6 pr), (ad 7, co 3 [.ref (ad 8)]), (ad 8, ca D 6 sv)]
  rcases (show cnt = 0 ∨ cnt = 1 ∨ cnt = 2 ∨ cnt = 3 ∨ cnt = 4 ∨ cnt = 5 by omega) with rfl | rfl | rfl | rfl | rfl | rfl
  · skip
    refine g_aload_n O dX1_remember_0 1 0 rfl rfl ?_
    refine g_get O dX1_remember_1 4 rfl fX1_remember_9 0 rfl rfl ?_
    refine g_iconst O dX1_remember_4 5 rfl ?_
    refine g_icmp_ne O dX1_remember_5 8 12 rfl rfl (by omega) (fun _ => ?_) (fun h => absurd h (by decide))
    refine g_aload_n O dX1_remember_12 13 0 rfl rfl ?_
    refine g_get O dX1_remember_13 16 rfl fX1_remember_17 0 rfl rfl ?_
    refine g_aload_n O dX1_remember_16 17 0 rfl rfl ?_
    refine g_get O dX1_remember_17 20 rfl fX1_remember_9 0 rfl rfl ?_
    refine g_aald O dX1_remember_20 21 rfl 1 rfl (by decide) (by decide) (ad 14) rfl ?_
    refine g_aload_n O dX1_remember_21 22 1 rfl rfl ?_
    refine g_callV (As := [.ref (ad 5)]) (rest := []) (na := 1) O (k_X3_copyFrom D (ad 14) (ad 15) (ad 5) (ad 6) (hp 0) pr) dX1_remember_22 gX1_remember_X3_copyFrom rfl ⟨rfl, rfl⟩ (by decide +kernel) rfl (by decide) (by decide) rfl (by decide) (q0 := 3) (ci := 3) rfl rfl [3, 4, 23, 24] (by decide) rfl (fun _ => rfl) (fun _ => [(ad 11, co 1 [vi 0, .ref (ad 12), .ref (ad 13)]), (ad 12, cq D 5 (qf [some (ad 14), some (ad 16), some (ad 18), some (ad 20), some (ad 22)])), (ad 13, cq D 5 (qf [some (ad 24), some (ad 26), some (ad 28), some (ad 30), some (ad 32)])), (ad 14, co 3 [.ref (ad 15)]), (ad 15, ca D 6 pr), (ad 16, co 3 [.ref (ad 17)]), (ad 17, ca D 6 (hp 1)), (ad 18, co 3 [.ref (ad 19)]), (ad 19, ca D 6 (hp 2)), (ad 20, co 3 [.ref (ad 21)]), (ad 21, ca D 6 (hp 3)), (ad 22, co 3 [.ref (ad 23)]), (ad 23, ca D 6 (hp 4)), (ad 24, co 3 [.ref (ad 25)]), (ad 25, ca D 6 (hs 0)), (ad 26, co 3 [.ref (ad 27)]), (ad 27, ca D 6 (hs 1)), (ad 28, co 3 [.ref (ad 29)]), (ad 29, ca D 6 (hs 2)), (ad 30, co 3 [.ref (ad 31)]), (ad 31, ca D 6 (hs 3)), (ad 32, co 3 [.ref (ad 33)]), (ad 33, ca D 6 (hs 4)), (ad 5, co 3 [.ref (ad 6)]), (ad 6, ca D 6 pr), (ad 7, co 3 [.ref (ad 8)]), (ad 8, ca D 6 sv)]) (fun _ => rfl) 25 rfl (fun _ _ => ?_)
    show G X D A 3 Q 0 0 25 [(0, .ref (ad 11)), (1, .ref (ad 5)), (2, .ref (ad 7))] [] [(ad 11, co 1 [vi 0, .ref (ad 12), .ref (ad 13)]), (ad 12, cq D 5 (qf [some (ad 14), some (ad 16), some (ad 18), some (ad 20), some (ad 22)])), (ad 13, cq D 5 (qf [some (ad 24), some (ad 26), some (ad 28), some (ad 30), some (ad 32)])), (ad 14, co 3 [.ref (ad 15)]), (ad 15, ca D 6 pr), (ad 16, co 3 [.ref (ad 17)]), (ad 17, ca D 6 (hp 1)), (ad 18, co 3 [.ref (ad 19)]), (ad 19, ca D 6 (hp 2)), (ad 20, co 3 [.ref (ad 21)]), (ad 21, ca D 6 (hp 3)), (ad 22, co 3 [.ref (ad 23)]), (ad 23, ca D 6 (hp 4)), (ad 24, co 3 [.ref (ad 25)]), (ad 25, ca D 6 (hs 0)), (ad 26, co 3 [.ref (ad 27)]), (ad 27, ca D 6 (hs 1)), (ad 28, co 3 [.ref (ad 29)]), (ad 29, ca D 6 (hs 2)), (ad 30, co 3 [.ref (ad 31)]), (ad 31, ca D 6 (hs 3)), (ad 32, co 3 [.ref (ad 33)]), (ad 33, ca D 6 (hs 4)), (ad 5, co 3 [.ref (ad 6)]), (ad 6, ca D 6 pr), (ad 7, co 3 [.ref (ad 8)]), (ad 8, ca D 6 sv)]
    refine g_aload_n O dX1_remember_25 26 0 rfl rfl ?_
    refine g_get O dX1_remember_26 29 rfl fX1_remember_21 0 rfl rfl ?_
    refine g_aload_n O dX1_remember_29 30 0 rfl rfl ?_
    refine g_get O dX1_remember_30 33 rfl fX1_remember_9 0 rfl rfl ?_
    refine g_aald O dX1_remember_33 34 rfl 2 rfl (by decide) (by decide) (ad 24) rfl ?_
    refine g_aload_n O dX1_remember_34 35 2 rfl rfl ?_
    refine g_callV (As := [.ref (ad 7)]) (rest := []) (na := 1) O (k_X3_copyFrom D (ad 24) (ad 25) (ad 7) (ad 8) (hs 0) sv) dX1_remember_35 gX1_remember_X3_copyFrom rfl ⟨rfl, rfl⟩ (by decide +kernel) rfl (by decide) (by decide) rfl (by decide) (q0 := 13) (ci := 3) rfl rfl [13, 14, 25, 26] (by decide) rfl (fun _ => rfl) (fun _ => [(ad 11, co 1 [vi 0, .ref (ad 12), .ref (ad 13)]), (ad 12, cq D 5 (qf [some (ad 14), some (ad 16), some (ad 18), some (ad 20), some (ad 22)])), (ad 13, cq D 5 (qf [some (ad 24), some (ad 26), some (ad 28), some (ad 30), some (ad 32)])), (ad 14, co 3 [.ref (ad 15)]), (ad 15, ca D 6 pr), (ad 16, co 3 [.ref (ad 17)]), (ad 17, ca D 6 (hp 1)), (ad 18, co 3 [.ref (ad 19)]), (ad 19, ca D 6 (hp 2)), (ad 20, co 3 [.ref (ad 21)]), (ad 21, ca D 6 (hp 3)), (ad 22, co 3 [.ref (ad 23)]), (ad 23, ca D 6 (hp 4)), (ad 24, co 3 [.ref (ad 25)]), (ad 25, ca D 6 sv), (ad 26, co 3 [.ref (ad 27)]), (ad 27, ca D 6 (hs 1)), (ad 28, co 3 [.ref (ad 29)]), (ad 29, ca D 6 (hs 2)), (ad 30, co 3 [.ref (ad 31)]), (ad 31, ca D 6 (hs 3)), (ad 32, co 3 [.ref (ad 33)]), (ad 33, ca D 6 (hs 4)), (ad 5, co 3 [.ref (ad 6)]), (ad 6, ca D 6 pr), (ad 7, co 3 [.ref (ad 8)]), (ad 8, ca D 6 sv)]) (fun _ => rfl) 38 rfl (fun _ _ => ?_)
    show G X D A 3 Q 0 0 38 [(0, .ref (ad 11)), (1, .ref (ad 5)), (2, .ref (ad 7))] [] [(ad 11, co 1 [vi 0, .ref (ad 12), .ref (ad 13)]), (ad 12, cq D 5 (qf [some (ad 14), some (ad 16), some (ad 18), some (ad 20), some (ad 22)])), (ad 13, cq D 5 (qf [some (ad 24), some (ad 26), some (ad 28), some (ad 30), some (ad 32)])), (ad 14, co 3 [.ref (ad 15)]), (ad 15, ca D 6 pr), (ad 16, co 3 [.ref (ad 17)]), (ad 17, ca D 6 (hp 1)), (ad 18, co 3 [.ref (ad 19)]), (ad 19, ca D 6 (hp 2)), (ad 20, co 3 [.ref (ad 21)]), (ad 21, ca D 6 (hp 3)), (ad 22, co 3 [.ref (ad 23)]), (ad 23, ca D 6 (hp 4)), (ad 24, co 3 [.ref (ad 25)]), (ad 25, ca D 6 sv), (ad 26, co 3 [.ref (ad 27)]), (ad 27, ca D 6 (hs 1)), (ad 28, co 3 [.ref (ad 29)]), (ad 29, ca D 6 (hs 2)), (ad 30, co 3 [.ref (ad 31)]), (ad 31, ca D 6 (hs 3)), (ad 32, co 3 [.ref (ad 33)]), (ad 33, ca D 6 (hs 4)), (ad 5, co 3 [.ref (ad 6)]), (ad 6, ca D 6 pr), (ad 7, co 3 [.ref (ad 8)]), (ad 8, ca D 6 sv)]
    refine g_aload_n O dX1_remember_38 39 0 rfl rfl ?_
    refine g_dup O dX1_remember_39 40 rfl rfl ?_
    refine g_get O dX1_remember_40 43 rfl fX1_remember_9 0 rfl rfl ?_
    refine g_iconst O dX1_remember_43 44 rfl ?_
    refine g_iadd O dX1_remember_44 45 rfl ?_
    refine g_put O dX1_remember_45 48 rfl fX1_remember_9 pF1_0 0 rfl rfl rfl (Nat.le_of_ble_eq_true rfl) [(ad 11, co 1 [vi 1, .ref (ad 12), .ref (ad 13)]), (ad 12, cq D 5 (qf [some (ad 14), some (ad 16), some (ad 18), some (ad 20), some (ad 22)])), (ad 13, cq D 5 (qf [some (ad 24), some (ad 26), some (ad 28), some (ad 30), some (ad 32)])), (ad 14, co 3 [.ref (ad 15)]), (ad 15, ca D 6 pr), (ad 16, co 3 [.ref (ad 17)]), (ad 17, ca D 6 (hp 1)), (ad 18, co 3 [.ref (ad 19)]), (ad 19, ca D 6 (hp 2)), (ad 20, co 3 [.ref (ad 21)]), (ad 21, ca D 6 (hp 3)), (ad 22, co 3 [.ref (ad 23)]), (ad 23, ca D 6 (hp 4)), (ad 24, co 3 [.ref (ad 25)]), (ad 25, ca D 6 sv), (ad 26, co 3 [.ref (ad 27)]), (ad 27, ca D 6 (hs 1)), (ad 28, co 3 [.ref (ad 29)]), (ad 29, ca D 6 (hs 2)), (ad 30, co 3 [.ref (ad 31)]), (ad 31, ca D 6 (hs 3)), (ad 32, co 3 [.ref (ad 33)]), (ad 33, ca D 6 (hs 4)), (ad 5, co 3 [.ref (ad 6)]), (ad 6, ca D 6 pr), (ad 7, co 3 [.ref (ad 8)]), (ad 8, ca D 6 sv)] rfl ?_
    exact g_vret O hQ dX1_remember_48 () rfl rfl trivial ⟨by decide, by decide⟩
  · skip
    refine g_aload_n O dX1_remember_0 1 0 rfl rfl ?_
    refine g_get O dX1_remember_1 4 rfl fX1_remember_9 0 rfl rfl ?_
    refine g_iconst O dX1_remember_4 5 rfl ?_
    refine g_icmp_ne O dX1_remember_5 8 12 rfl rfl (by omega) (fun _ => ?_) (fun h => absurd h (by decide))
    refine g_aload_n O dX1_remember_12 13 0 rfl rfl ?_
    refine g_get O dX1_remember_13 16 rfl fX1_remember_17 0 rfl rfl ?_
    refine g_aload_n O dX1_remember_16 17 0 rfl rfl ?_
    refine g_get O dX1_remember_17 20 rfl fX1_remember_9 0 rfl rfl ?_
    refine g_aald O dX1_remember_20 21 rfl 1 rfl (by decide) (by decide) (ad 16) rfl ?_
    refine g_aload_n O dX1_remember_21 22 1 rfl rfl ?_
    refine g_callV (As := [.ref (ad 5)]) (rest := []) (na := 1) O (k_X3_copyFrom D (ad 16) (ad 17) (ad 5) (ad 6) (hp 1) pr) dX1_remember_22 gX1_remember_X3_copyFrom rfl ⟨rfl, rfl⟩ (by decide +kernel) rfl (by decide) (by decide) rfl (by decide) (q0 := 5) (ci := 3) rfl rfl [5, 6, 23, 24] (by decide) rfl (fun _ => rfl) (fun _ => [(ad 11, co 1 [vi 1, .ref (ad 12), .ref (ad 13)]), (ad 12, cq D 5 (qf [some (ad 14), some (ad 16), some (ad 18), some (ad 20), some (ad 22)])), (ad 13, cq D 5 (qf [some (ad 24), some (ad 26), some (ad 28), some (ad 30), some (ad 32)])), (ad 14, co 3 [.ref (ad 15)]), (ad 15, ca D 6 (hp 0)), (ad 16, co 3 [.ref (ad 17)]), (ad 17, ca D 6 pr), (ad 18, co 3 [.ref (ad 19)]), (ad 19, ca D 6 (hp 2)), (ad 20, co 3 [.ref (ad 21)]), (ad 21, ca D 6 (hp 3)), (ad 22, co 3 [.ref (ad 23)]), (ad 23, ca D 6 (hp 4)), (ad 24, co 3 [.ref (ad 25)]), (ad 25, ca D 6 (hs 0)), (ad 26, co 3 [.ref (ad 27)]), (ad 27, ca D 6 (hs 1)), (ad 28, co 3 [.ref (ad 29)]), (ad 29, ca D 6 (hs 2)), (ad 30, co 3 [.ref (ad 31)]), (ad 31, ca D 6 (hs 3)), (ad 32, co 3 [.ref (ad 33)]), (ad 33, ca D 6 (hs 4)), (ad 5, co 3 [.ref (ad 6)]), (ad 6, ca D 6 pr), (ad 7, co 3 [.ref (ad 8)]), (ad 8, ca D 6 sv)]) (fun _ => rfl) 25 rfl (fun _ _ => ?_)
    show G X D A 3 Q 0 0 25 [(0, .ref (ad 11)), (1, .ref (ad 5)), (2, .ref (ad 7))] [] [(ad 11, co 1 [vi 1, .ref (ad 12), .ref (ad 13)]), (ad 12, cq D 5 (qf [some (ad 14), some (ad 16), some (ad 18), some (ad 20), some (ad 22)])), (ad 13, cq D 5 (qf [some (ad 24), some (ad 26), some (ad 28), some (ad 30), some (ad 32)])), (ad 14, co 3 [.ref (ad 15)]), (ad 15, ca D 6 (hp 0)), (ad 16, co 3 [.ref (ad 17)]), (ad 17, ca D 6 pr), (ad 18, co 3 [.ref (ad 19)]), (ad 19, ca D 6 (hp 2)), (ad 20, co 3 [.ref (ad 21)]), (ad 21, ca D 6 (hp 3)), (ad 22, co 3 [.ref (ad 23)]), (ad 23, ca D 6 (hp 4)), (ad 24, co 3 [.ref (ad 25)]), (ad 25, ca D 6 (hs 0)), (ad 26, co 3 [.ref (ad 27)]), (ad 27, ca D 6 (hs 1)), (ad 28, co 3 [.ref (ad 29)]), (ad 29, ca D 6 (hs 2)), (ad 30, co 3 [.ref (ad 31)]), (ad 31, ca D 6 (hs 3)), (ad 32, co 3 [.ref (ad 33)]), (ad 33, ca D 6 (hs 4)), (ad 5, co 3 [.ref (ad 6)]), (ad 6, ca D 6 pr), (ad 7, co 3 [.ref (ad 8)]), (ad 8, ca D 6 sv)]
    refine g_aload_n O dX1_remember_25 26 0 rfl rfl ?_
    refine g_get O dX1_remember_26 29 rfl fX1_remember_21 0 rfl rfl ?_
    refine g_aload_n O dX1_remember_29 30 0 rfl rfl ?_
    refine g_get O dX1_remember_30 33 rfl fX1_remember_9 0 rfl rfl ?_
    refine g_aald O dX1_remember_33 34 rfl 2 rfl (by decide) (by decide) (ad 26) rfl ?_
    refine g_aload_n O dX1_remember_34 35 2 rfl rfl ?_
    refine g_callV (As := [.ref (ad 7)]) (rest := []) (na := 1) O (k_X3_copyFrom D (ad 26) (ad 27) (ad 7) (ad 8) (hs 1) sv) dX1_remember_35 gX1_remember_X3_copyFrom rfl ⟨rfl, rfl⟩ (by decide +kernel) rfl (by decide) (by decide) rfl (by decide) (q0 := 15) (ci := 3) rfl rfl [15, 16, 25, 26] (by decide) rfl (fun _ => rfl) (fun _ => [(ad 11, co 1 [vi 1, .ref (ad 12), .ref (ad 13)]), (ad 12, cq D 5 (qf [some (ad 14), some (ad 16), some (ad 18), some (ad 20), some (ad 22)])), (ad 13, cq D 5 (qf [some (ad 24), some (ad 26), some (ad 28), some (ad 30), some (ad 32)])), (ad 14, co 3 [.ref (ad 15)]), (ad 15, ca D 6 (hp 0)), (ad 16, co 3 [.ref (ad 17)]), (ad 17, ca D 6 pr), (ad 18, co 3 [.ref (ad 19)]), (ad 19, ca D 6 (hp 2)), (ad 20, co 3 [.ref (ad 21)]), (ad 21, ca D 6 (hp 3)), (ad 22, co 3 [.ref (ad 23)]), (ad 23, ca D 6 (hp 4)), (ad 24, co 3 [.ref (ad 25)]), (ad 25, ca D 6 (hs 0)), (ad 26, co 3 [.ref (ad 27)]), (ad 27, ca D 6 sv), (ad 28, co 3 [.ref (ad 29)]), (ad 29, ca D 6 (hs 2)), (ad 30, co 3 [.ref (ad 31)]), (ad 31, ca D 6 (hs 3)), (ad 32, co 3 [.ref (ad 33)]), (ad 33, ca D 6 (hs 4)), (ad 5, co 3 [.ref (ad 6)]), (ad 6, ca D 6 pr), (ad 7, co 3 [.ref (ad 8)]), (ad 8, ca D 6 sv)]) (fun _ => rfl) 38 rfl (fun _ _ => ?_)
    show G X D A 3 Q 0 0 38 [(0, .ref (ad 11)), (1, .ref (ad 5)), (2, .ref (ad 7))] [] [(ad 11, co 1 [vi 1, .ref (ad 12), .ref (ad 13)]), (ad 12, cq D 5 (qf [some (ad 14), some (ad 16), some (ad 18), some (ad 20), some (ad 22)])), (ad 13, cq D 5 (qf [some (ad 24), some (ad 26), some (ad 28), some (ad 30), some (ad 32)])), (ad 14, co 3 [.ref (ad 15)]), (ad 15, ca D 6 (hp 0)), (ad 16, co 3 [.ref (ad 17)]), (ad 17, ca D 6 pr), (ad 18, co 3 [.ref (ad 19)]), (ad 19, ca D 6 (hp 2)), (ad 20, co 3 [.ref (ad 21)]), (ad 21, ca D 6 (hp 3)), (ad 22, co 3 [.ref (ad 23)]), (ad 23, ca D 6 (hp 4)), (ad 24, co 3 [.ref (ad 25)]), (ad 25, ca D 6 (hs 0)), (ad 26, co 3 [.ref (ad 27)]), (ad 27, ca D 6 sv), (ad 28, co 3 [.ref (ad 29)]), (ad 29, ca D 6 (hs 2)), (ad 30, co 3 [.ref (ad 31)]), (ad 31, ca D 6 (hs 3)), (ad 32, co 3 [.ref (ad 33)]), (ad 33, ca D 6 (hs 4)), (ad 5, co 3 [.ref (ad 6)]), (ad 6, ca D 6 pr), (ad 7, co 3 [.ref (ad 8)]), (ad 8, ca D 6 sv)]
    refine g_aload_n O dX1_remember_38 39 0 rfl rfl ?_
    refine g_dup O dX1_remember_39 40 rfl rfl ?_
    refine g_get O dX1_remember_40 43 rfl fX1_remember_9 0 rfl rfl ?_
    refine g_iconst O dX1_remember_43 44 rfl ?_
    refine g_iadd O dX1_remember_44 45 rfl ?_
    refine g_put O dX1_remember_45 48 rfl fX1_remember_9 pF1_0 0 rfl rfl rfl (Nat.le_of_ble_eq_true rfl) [(ad 11, co 1 [vi 2, .ref (ad 12), .ref (ad 13)]), (ad 12, cq D 5 (qf [some (ad 14), some (ad 16), some (ad 18), some (ad 20), some (ad 22)])), (ad 13, cq D 5 (qf [some (ad 24), some (ad 26), some (ad 28), some (ad 30), some (ad 32)])), (ad 14, co 3 [.ref (ad 15)]), (ad 15, ca D 6 (hp 0)), (ad 16, co 3 [.ref (ad 17)]), (ad 17, ca D 6 pr), (ad 18, co 3 [.ref (ad 19)]), (ad 19, ca D 6 (hp 2)), (ad 20, co 3 [.ref (ad 21)]), (ad 21, ca D 6 (hp 3)), (ad 22, co 3 [.ref (ad 23)]), (ad 23, ca D 6 (hp 4)), (ad 24, co 3 [.ref (ad 25)]), (ad 25, ca D 6 (hs 0)), (ad 26, co 3 [.ref (ad 27)]), (ad 27, ca D 6 sv), (ad 28, co 3 [.ref (ad 29)]), (ad 29, ca D 6 (hs 2)), (ad 30, co 3 [.ref (ad 31)]), (ad 31, ca D 6 (hs 3)), (ad 32, co 3 [.ref (ad 33)]), (ad 33, ca D 6 (hs 4)), (ad 5, co 3 [.ref (ad 6)]), (ad 6, ca D 6 pr), (ad 7, co 3 [.ref (ad 8)]), (ad 8, ca D 6 sv)] rfl ?_
    exact g_vret O hQ dX1_remember_48 () rfl rfl trivial ⟨by decide, by decide⟩
  · skip
    refine g_aload_n O dX1_remember_0 1 0 rfl rfl ?_
    refine g_get O dX1_remember_1 4 rfl fX1_remember_9 0 rfl rfl ?_
    refine g_iconst O dX1_remember_4 5 rfl ?_
    refine g_icmp_ne O dX1_remember_5 8 12 rfl rfl (by omega) (fun _ => ?_) (fun h => absurd h (by decide))
    refine g_aload_n O dX1_remember_12 13 0 rfl rfl ?_
    refine g_get O dX1_remember_13 16 rfl fX1_remember_17 0 rfl rfl ?_
    refine g_aload_n O dX1_remember_16 17 0 rfl rfl ?_
    refine g_get O dX1_remember_17 20 rfl fX1_remember_9 0 rfl rfl ?_
    refine g_aald O dX1_remember_20 21 rfl 1 rfl (by decide) (by decide) (ad 18) rfl ?_
    refine g_aload_n O dX1_remember_21 22 1 rfl rfl ?_
    refine g_callV (As := [.ref (ad 5)]) (rest := []) (na := 1) O (k_X3_copyFrom D (ad 18) (ad 19) (ad 5) (ad 6) (hp 2) pr) dX1_remember_22 gX1_remember_X3_copyFrom rfl ⟨rfl, rfl⟩ (by decide +kernel) rfl (by decide) (by decide) rfl (by decide) (q0 := 7) (ci := 3) rfl rfl [7, 8, 23, 24] (by decide) rfl (fun _ => rfl) (fun _ => [(ad 11, co 1 [vi 2, .ref (ad 12), .ref (ad 13)]), (ad 12, cq D 5 (qf [some (ad 14), some (ad 16), some (ad 18), some (ad 20), some (ad 22)])), (ad 13, cq D 5 (qf [some (ad 24), some (ad 26), some (ad 28), some (ad 30), some (ad 32)])), (ad 14, co 3 [.ref (ad 15)]), (ad 15, ca D 6 (hp 0)), (ad 16, co 3 [.ref (ad 17)]), (ad 17, ca D 6 (hp 1)), (ad 18, co 3 [.ref (ad 19)]), (ad 19, ca D 6 pr), (ad 20, co 3 [.ref (ad 21)]), (ad 21, ca D 6 (hp 3)), (ad 22, co 3 [.ref (ad 23)]), (ad 23, ca D 6 (hp 4)), (ad 24, co 3 [.ref (ad 25)]), (ad 25, ca D 6 (hs 0)), (ad 26, co 3 [.ref (ad 27)]), (ad 27, ca D 6 (hs 1)), (ad 28, co 3 [.ref (ad 29)]), (ad 29, ca D 6 (hs 2)), (ad 30, co 3 [.ref (ad 31)]), (ad 31, ca D 6 (hs 3)), (ad 32, co 3 [.ref (ad 33)]), (ad 33, ca D 6 (hs 4)), (ad 5, co 3 [.ref (ad 6)]), (ad 6, ca D 6 pr), (ad 7, co 3 [.ref (ad 8)]), (ad 8, ca D 6 sv)]) (fun _ => rfl) 25 rfl (fun _ _ => ?_)
    show G X D A 3 Q 0 0 25 [(0, .ref (ad 11)), (1, .ref (ad 5)), (2, .ref (ad 7))] [] [(ad 11, co 1 [vi 2, .ref (ad 12), .ref (ad 13)]), (ad 12, cq D 5 (qf [some (ad 14), some (ad 16), some (ad 18), some (ad 20), some (ad 22)])), (ad 13, cq D 5 (qf [some (ad 24), some (ad 26), some (ad 28), some (ad 30), some (ad 32)])), (ad 14, co 3 [.ref (ad 15)]), (ad 15, ca D 6 (hp 0)), (ad 16, co 3 [.ref (ad 17)]), (ad 17, ca D 6 (hp 1)), (ad 18, co 3 [.ref (ad 19)]), (ad 19, ca D 6 pr), (ad 20, co 3 [.ref (ad 21)]), (ad 21, ca D 6 (hp 3)), (ad 22, co 3 [.ref (ad 23)]), (ad 23, ca D 6 (hp 4)), (ad 24, co 3 [.ref (ad 25)]), (ad 25, ca D 6 (hs 0)), (ad 26, co 3 [.ref (ad 27)]), (ad 27, ca D 6 (hs 1)), (ad 28, co 3 [.ref (ad 29)]), (ad 29, ca D 6 (hs 2)), (ad 30, co 3 [.ref (ad 31)]), (ad 31, ca D 6 (hs 3)), (ad 32, co 3 [.ref (ad 33)]), (ad 33, ca D 6 (hs 4)), (ad 5, co 3 [.ref (ad 6)]), (ad 6, ca D 6 pr), (ad 7, co 3 [.ref (ad 8)]), (ad 8, ca D 6 sv)]
    refine g_aload_n O dX1_remember_25 26 0 rfl rfl ?_
    refine g_get O dX1_remember_26 29 rfl fX1_remember_21 0 rfl rfl ?_
    refine g_aload_n O dX1_remember_29 30 0 rfl rfl ?_
    refine g_get O dX1_remember_30 33 rfl fX1_remember_9 0 rfl rfl ?_
    refine g_aald O dX1_remember_33 34 rfl 2 rfl (by decide) (by decide) (ad 28) rfl ?_
    refine g_aload_n O dX1_remember_34 35 2 rfl rfl ?_
    refine g_callV (As := [.ref (ad 7)]) (rest := []) (na := 1) O (k_X3_copyFrom D (ad 28) (ad 29) (ad 7) (ad 8) (hs 2) sv) dX1_remember_35 gX1_remember_X3_copyFrom rfl ⟨rfl, rfl⟩ (by decide +kernel) rfl (by decide) (by decide) rfl (by decide) (q0 := 17) (ci := 3) rfl rfl [17, 18, 25, 26] (by decide) rfl (fun _ => rfl) (fun _ => [(ad 11, co 1 [vi 2, .ref (ad 12), .ref (ad 13)]), (ad 12, cq D 5 (qf [some (ad 14), some (ad 16), some (ad 18), some (ad 20), some (ad 22)])), (ad 13, cq D 5 (qf [some (ad 24), some (ad 26), some (ad 28), some (ad 30), some (ad 32)])), (ad 14, co 3 [.ref (ad 15)]), (ad 15, ca D 6 (hp 0)), (ad 16, co 3 [.ref (ad 17)]), (ad 17, ca D 6 (hp 1)), (ad 18, co 3 [.ref (ad 19)]), (ad 19, ca D 6 pr), (ad 20, co 3 [.ref (ad 21)]), (ad 21, ca D 6 (hp 3)), (ad 22, co 3 [.ref (ad 23)]), (ad 23, ca D 6 (hp 4)), (ad 24, co 3 [.ref (ad 25)]), (ad 25, ca D 6 (hs 0)), (ad 26, co 3 [.ref (ad 27)]), (ad 27, ca D 6 (hs 1)), (ad 28, co 3 [.ref (ad 29)]), (ad 29, ca D 6 sv), (ad 30, co 3 [.ref (ad 31)]), (ad 31, ca D 6 (hs 3)), (ad 32, co 3 [.ref (ad 33)]), (ad 33, ca D 6 (hs 4)), (ad 5, co 3 [.ref (ad 6)]), (ad 6, ca D 6 pr), (ad 7, co 3 [.ref (ad 8)]), (ad 8, ca D 6 sv)]) (fun _ => rfl) 38 rfl (fun _ _ => ?_)
    show G X D A 3 Q 0 0 38 [(0, .ref (ad 11)), (1, .ref (ad 5)), (2, .ref (ad 7))] [] [(ad 11, co 1 [vi 2, .ref (ad 12), .ref (ad 13)]), (ad 12, cq D 5 (qf [some (ad 14), some (ad 16), some (ad 18), some (ad 20), some (ad 22)])), (ad 13, cq D 5 (qf [some (ad 24), some (ad 26), some (ad 28), some (ad 30), some (ad 32)])), (ad 14, co 3 [.ref (ad 15)]), (ad 15, ca D 6 (hp 0)), (ad 16, co 3 [.ref (ad 17)]), (ad 17, ca D 6 (hp 1)), (ad 18, co 3 [.ref (ad 19)]), (ad 19, ca D 6 pr), (ad 20, co 3 [.ref (ad 21)]), (ad 21, ca D 6 (hp 3)), (ad 22, co 3 [.ref (ad 23)]), (ad 23, ca D 6 (hp 4)), (ad 24, co 3 [.ref (ad 25)]), (ad 25, ca D 6 (hs 0)), (ad 26, co 3 [.ref (ad 27)]), (ad 27, ca D 6 (hs 1)), (ad 28, co 3 [.ref (ad 29)]), (ad 29, ca D 6 sv), (ad 30, co 3 [.ref (ad 31)]), (ad 31, ca D 6 (hs 3)), (ad 32, co 3 [.ref (ad 33)]), (ad 33, ca D 6 (hs 4)), (ad 5, co 3 [.ref (ad 6)]), (ad 6, ca D 6 pr), (ad 7, co 3 [.ref (ad 8)]), (ad 8, ca D 6 sv)]
    refine g_aload_n O dX1_remember_38 39 0 rfl rfl ?_
    refine g_dup O dX1_remember_39 40 rfl rfl ?_
    refine g_get O dX1_remember_40 43 rfl fX1_remember_9 0 rfl rfl ?_
    refine g_iconst O dX1_remember_43 44 rfl ?_
    refine g_iadd O dX1_remember_44 45 rfl ?_
    refine g_put O dX1_remember_45 48 rfl fX1_remember_9 pF1_0 0 rfl rfl rfl (Nat.le_of_ble_eq_true rfl) [(ad 11, co 1 [vi 3, .ref (ad 12), .ref (ad 13)]), (ad 12, cq D 5 (qf [some (ad 14), some (ad 16), some (ad 18), some (ad 20), some (ad 22)])), (ad 13, cq D 5 (qf [some (ad 24), some (ad 26), some (ad 28), some (ad 30), some (ad 32)])), (ad 14, co 3 [.ref (ad 15)]), (ad 15, ca D 6 (hp 0)), (ad 16, co 3 [.ref (ad 17)]), (ad 17, ca D 6 (hp 1)), (ad 18, co 3 [.ref (ad 19)]), (ad 19, ca D 6 pr), (ad 20, co 3 [.ref (ad 21)]), (ad 21, ca D 6 (hp 3)), (ad 22, co 3 [.ref (ad 23)]), (ad 23, ca D 6 (hp 4)), (ad 24, co 3 [.ref (ad 25)]), (ad 25, ca D 6 (hs 0)), (ad 26, co 3 [.ref (ad 27)]), (ad 27, ca D 6 (hs 1)), (ad 28, co 3 [.ref (ad 29)]), (ad 29, ca D 6 sv), (ad 30, co 3 [.ref (ad 31)]), (ad 31, ca D 6 (hs 3)), (ad 32, co 3 [.ref (ad 33)]), (ad 33, ca D 6 (hs 4)), (ad 5, co 3 [.ref (ad 6)]), (ad 6, ca D 6 pr), (ad 7, co 3 [.ref (ad 8)]), (ad 8, ca D 6 sv)] rfl ?_
    exact g_vret O hQ dX1_remember_48 () rfl rfl trivial ⟨by decide, by decide⟩
  · skip
    refine g_aload_n O dX1_remember_0 1 0 rfl rfl ?_
    refine g_get O dX1_remember_1 4 rfl fX1_remember_9 0 rfl rfl ?_
    refine g_iconst O dX1_remember_4 5 rfl ?_
    refine g_icmp_ne O dX1_remember_5 8 12 rfl rfl (by omega) (fun _ => ?_) (fun h => absurd h (by decide))
    refine g_aload_n O dX1_remember_12 13 0 rfl rfl ?_
    refine g_get O dX1_remember_13 16 rfl fX1_remember_17 0 rfl rfl ?_
    refine g_aload_n O dX1_remember_16 17 0 rfl rfl ?_
    refine g_get O dX1_remember_17 20 rfl fX1_remember_9 0 rfl rfl ?_
    refine g_aald O dX1_remember_20 21 rfl 1 rfl (by decide) (by decide) (ad 20) rfl ?_
    refine g_aload_n O dX1_remember_21 22 1 rfl rfl ?_
    refine g_callV (As := [.ref (ad 5)]) (rest := []) (na := 1) O (k_X3_copyFrom D (ad 20) (ad 21) (ad 5) (ad 6) (hp 3) pr) dX1_remember_22 gX1_remember_X3_copyFrom rfl ⟨rfl, rfl⟩ (by decide +kernel) rfl (by decide) (by decide) rfl (by decide) (q0 := 9) (ci := 3) rfl rfl [9, 10, 23, 24] (by decide) rfl (fun _ => rfl) (fun _ => [(ad 11, co 1 [vi 3, .ref (ad 12), .ref (ad 13)]), (ad 12, cq D 5 (qf [some (ad 14), some (ad 16), some (ad 18), some (ad 20), some (ad 22)])), (ad 13, cq D 5 (qf [some (ad 24), some (ad 26), some (ad 28), some (ad 30), some (ad 32)])), (ad 14, co 3 [.ref (ad 15)]), (ad 15, ca D 6 (hp 0)), (ad 16, co 3 [.ref (ad 17)]), (ad 17, ca D 6 (hp 1)), (ad 18, co 3 [.ref (ad 19)]), (ad 19, ca D 6 (hp 2)), (ad 20, co 3 [.ref (ad 21)]), (ad 21, ca D 6 pr), (ad 22, co 3 [.ref (ad 23)]), (ad 23, ca D 6 (hp 4)), (ad 24, co 3 [.ref (ad 25)]), (ad 25, ca D 6 (hs 0)), (ad 26, co 3 [.ref (ad 27)]), (ad 27, ca D 6 (hs 1)), (ad 28, co 3 [.ref (ad 29)]), (ad 29, ca D 6 (hs 2)), (ad 30, co 3 [.ref (ad 31)]), (ad 31, ca D 6 (hs 3)), (ad 32, co 3 [.ref (ad 33)]), (ad 33, ca D 6 (hs 4)), (ad 5, co 3 [.ref (ad 6)]), (ad 6, ca D 6 pr), (ad 7, co 3 [.ref (ad 8)]), (ad 8, ca D 6 sv)]) (fun _ => rfl) 25 rfl (fun _ _ => ?_)
    show G X D A 3 Q 0 0 25 [(0, .ref (ad 11)), (1, .ref (ad 5)), (2, .ref (ad 7))] [] [(ad 11, co 1 [vi 3, .ref (ad 12), .ref (ad 13)]), (ad 12, cq D 5 (qf [some (ad 14), some (ad 16), some (ad 18), some (ad 20), some (ad 22)])), (ad 13, cq D 5 (qf [some (ad 24), some (ad 26), some (ad 28), some (ad 30), some (ad 32)])), (ad 14, co 3 [.ref (ad 15)]), (ad 15, ca D 6 (hp 0)), (ad 16, co 3 [.ref (ad 17)]), (ad 17, ca D 6 (hp 1)), (ad 18, co 3 [.ref (ad 19)]), (ad 19, ca D 6 (hp 2)), (ad 20, co 3 [.ref (ad 21)]), (ad 21, ca D 6 pr), (ad 22, co 3 [.ref (ad 23)]), (ad 23, ca D 6 (hp 4)), (ad 24, co 3 [.ref (ad 25)]), (ad 25, ca D 6 (hs 0)), (ad 26, co 3 [.ref (ad 27)]), (ad 27, ca D 6 (hs 1)), (ad 28, co 3 [.ref (ad 29)]), (ad 29, ca D 6 (hs 2)), (ad 30, co 3 [.ref (ad 31)]), (ad 31, ca D 6 (hs 3)), (ad 32, co 3 [.ref (ad 33)]), (ad 33, ca D 6 (hs 4)), (ad 5, co 3 [.ref (ad 6)]), (ad 6, ca D 6 pr), (ad 7, co 3 [.ref (ad 8)]), (ad 8, ca D 6 sv)]
    refine g_aload_n O dX1_remember_25 26 0 rfl rfl ?_
    refine g_get O dX1_remember_26 29 rfl fX1_remember_21 0 rfl rfl ?_
    refine g_aload_n O dX1_remember_29 30 0 rfl rfl ?_
    refine g_get O dX1_remember_30 33 rfl fX1_remember_9 0 rfl rfl ?_
    refine g_aald O dX1_remember_33 34 rfl 2 rfl (by decide) (by decide) (ad 30) rfl ?_
    refine g_aload_n O dX1_remember_34 35 2 rfl rfl ?_
    refine g_callV (As := [.ref (ad 7)]) (rest := []) (na := 1) O (k_X3_copyFrom D (ad 30) (ad 31) (ad 7) (ad 8) (hs 3) sv) dX1_remember_35 gX1_remember_X3_copyFrom rfl ⟨rfl, rfl⟩ (by decide +kernel) rfl (by decide) (by decide) rfl (by decide) (q0 := 19) (ci := 3) rfl rfl [19, 20, 25, 26] (by decide) rfl (fun _ => rfl) (fun _ => [(ad 11, co 1 [vi 3, .ref (ad 12), .ref (ad 13)]), (ad 12, cq D 5 (qf [some (ad 14), some (ad 16), some (ad 18), some (ad 20), some (ad 22)])), (ad 13, cq D 5 (qf [some (ad 24), some (ad 26), some (ad 28), some (ad 30), some (ad 32)])), (ad 14, co 3 [.ref (ad 15)]), (ad 15, ca D 6 (hp 0)), (ad 16, co 3 [.ref (ad 17)]), (ad 17, ca D 6 (hp 1)), (ad 18, co 3 [.ref (ad 19)]), (ad 19, ca D 6 (hp 2)), (ad 20, co 3 [.ref (ad 21)]), (ad 21, ca D 6 pr), (ad 22, co 3 [.ref (ad 23)]), (ad 23, ca D 6 (hp 4)), (ad 24, co 3 [.ref (ad 25)]), (ad 25, ca D 6 (hs 0)), (ad 26, co 3 [.ref (ad 27)]), (ad 27, ca D 6 (hs 1)), (ad 28, co 3 [.ref (ad 29)]), (ad 29, ca D 6 (hs 2)), (ad 30, co 3 [.ref (ad 31)]), (ad 31, ca D 6 sv), (ad 32, co 3 [.ref (ad 33)]), (ad 33, ca D 6 (hs 4)), (ad 5, co 3 [.ref (ad 6)]), (ad 6, ca D 6 pr), (ad 7, co 3 [.ref (ad 8)]), (ad 8, ca D 6 sv)]) (fun _ => rfl) 38 rfl (fun _ _ => ?_)
    show G X D A 3 Q 0 0 38 [(0, .ref (ad 11)), (1, .ref (ad 5)), (2, .ref (ad 7))] [] [(ad 11, co 1 [vi 3, .ref (ad 12), .ref (ad 13)]), (ad 12, cq D 5 (qf [some (ad 14), some (ad 16), some (ad 18), some (ad 20), some (ad 22)])), (ad 13, cq D 5 (qf [some (ad 24), some (ad 26), some (ad 28), some (ad 30), some (ad 32)])), (ad 14, co 3 [.ref (ad 15)]), (ad 15, ca D 6 (hp 0)), (ad 16, co 3 [.ref (ad 17)]), (ad 17, ca D 6 (hp 1)), (ad 18, co 3 [.ref (ad 19)]), (ad 19, ca D 6 (hp 2)), (ad 20, co 3 [.ref (ad 21)]), (ad 21, ca D 6 pr), (ad 22, co 3 [.ref (ad 23)]), (ad 23, ca D 6 (hp 4)), (ad 24, co 3 [.ref (ad 25)]), (ad 25, ca D 6 (hs 0)), (ad 26, co 3 [.ref (ad 27)]), (ad 27, ca D 6 (hs 1)), (ad 28, co 3 [.ref (ad 29)]), (ad 29, ca D 6 (hs 2)), (ad 30, co 3 [.ref (ad 31)]), (ad 31, ca D 6 sv), (ad 32, co 3 [.ref (ad 33)]), (ad 33, ca D 6 (hs 4)), (ad 5, co 3 [.ref (ad 6)]), (ad 6, ca D 6 pr), (ad 7, co 3 [.ref (ad 8)]), (ad 8, ca D 6 sv)]
    refine g_aload_n O dX1_remember_38 39 0 rfl rfl ?_
    refine g_dup O dX1_remember_39 40 rfl rfl ?_
    refine g_get O dX1_remember_40 43 rfl fX1_remember_9 0 rfl rfl ?_
    refine g_iconst O dX1_remember_43 44 rfl ?_
    refine g_iadd O dX1_remember_44 45 rfl ?_
    refine g_put O dX1_remember_45 48 rfl fX1_remember_9 pF1_0 0 rfl rfl rfl (Nat.le_of_ble_eq_true rfl) [(ad 11, co 1 [vi 4, .ref (ad 12), .ref (ad 13)]), (ad 12, cq D 5 (qf [some (ad 14), some (ad 16), some (ad 18), some (ad 20), some (ad 22)])), (ad 13, cq D 5 (qf [some (ad 24), some (ad 26), some (ad 28), some (ad 30), some (ad 32)])), (ad 14, co 3 [.ref (ad 15)]), (ad 15, ca D 6 (hp 0)), (ad 16, co 3 [.ref (ad 17)]), (ad 17, ca D 6 (hp 1)), (ad 18, co 3 [.ref (ad 19)]), (ad 19, ca D 6 (hp 2)), (ad 20, co 3 [.ref (ad 21)]), (ad 21, ca D 6 pr), (ad 22, co 3 [.ref (ad 23)]), (ad 23, ca D 6 (hp 4)), (ad 24, co 3 [.ref (ad 25)]), (ad 25, ca D 6 (hs 0)), (ad 26, co 3 [.ref (ad 27)]), (ad 27, ca D 6 (hs 1)), (ad 28, co 3 [.ref (ad 29)]), (ad 29, ca D 6 (hs 2)), (ad 30, co 3 [.ref (ad 31)]), (ad 31, ca D 6 sv), (ad 32, co 3 [.ref (ad 33)]), (ad 33, ca D 6 (hs 4)), (ad 5, co 3 [.ref (ad 6)]), (ad 6, ca D 6 pr), (ad 7, co 3 [.ref (ad 8)]), (ad 8, ca D 6 sv)] rfl ?_
    exact g_vret O hQ dX1_remember_48 () rfl rfl trivial ⟨by decide, by decide⟩
  · skip
    refine g_aload_n O dX1_remember_0 1 0 rfl rfl ?_
    refine g_get O dX1_remember_1 4 rfl fX1_remember_9 0 rfl rfl ?_
    refine g_iconst O dX1_remember_4 5 rfl ?_
    refine g_icmp_ne O dX1_remember_5 8 12 rfl rfl (by omega) (fun _ => ?_) (fun h => absurd h (by decide))
    refine g_aload_n O dX1_remember_12 13 0 rfl rfl ?_
    refine g_get O dX1_remember_13 16 rfl fX1_remember_17 0 rfl rfl ?_
    refine g_aload_n O dX1_remember_16 17 0 rfl rfl ?_
    refine g_get O dX1_remember_17 20 rfl fX1_remember_9 0 rfl rfl ?_
    refine g_aald O dX1_remember_20 21 rfl 1 rfl (by decide) (by decide) (ad 22) rfl ?_
    refine g_aload_n O dX1_remember_21 22 1 rfl rfl ?_
    refine g_callV (As := [.ref (ad 5)]) (rest := []) (na := 1) O (k_X3_copyFrom D (ad 22) (ad 23) (ad 5) (ad 6) (hp 4) pr) dX1_remember_22 gX1_remember_X3_copyFrom rfl ⟨rfl, rfl⟩ (by decide +kernel) rfl (by decide) (by decide) rfl (by decide) (q0 := 11) (ci := 3) rfl rfl [11, 12, 23, 24] (by decide) rfl (fun _ => rfl) (fun _ => [(ad 11, co 1 [vi 4, .ref (ad 12), .ref (ad 13)]), (ad 12, cq D 5 (qf [some (ad 14), some (ad 16), some (ad 18), some (ad 20), some (ad 22)])), (ad 13, cq D 5 (qf [some (ad 24), some (ad 26), some (ad 28), some (ad 30), some (ad 32)])), (ad 14, co 3 [.ref (ad 15)]), (ad 15, ca D 6 (hp 0)), (ad 16, co 3 [.ref (ad 17)]), (ad 17, ca D 6 (hp 1)), (ad 18, co 3 [.ref (ad 19)]), (ad 19, ca D 6 (hp 2)), (ad 20, co 3 [.ref (ad 21)]), (ad 21, ca D 6 (hp 3)), (ad 22, co 3 [.ref (ad 23)]), (ad 23, ca D 6 pr), (ad 24, co 3 [.ref (ad 25)]), (ad 25, ca D 6 (hs 0)), (ad 26, co 3 [.ref (ad 27)]), (ad 27, ca D 6 (hs 1)), (ad 28, co 3 [.ref (ad 29)]), (ad 29, ca D 6 (hs 2)), (ad 30, co 3 [.ref (ad 31)]), (ad 31, ca D 6 (hs 3)), (ad 32, co 3 [.ref (ad 33)]), (ad 33, ca D 6 (hs 4)), (ad 5, co 3 [.ref (ad 6)]), (ad 6, ca D 6 pr), (ad 7, co 3 [.ref (ad 8)]), (ad 8, ca D 6 sv)]) (fun _ => rfl) 25 rfl (fun _ _ => ?_)
    show G X D A 3 Q 0 0 25 [(0, .ref (ad 11)), (1, .ref (ad 5)), (2, .ref (ad 7))] [] [(ad 11, co 1 [vi 4, .ref (ad 12), .ref (ad 13)]), (ad 12, cq D 5 (qf [some (ad 14), some (ad 16), some (ad 18), some (ad 20), some (ad 22)])), (ad 13, cq D 5 (qf [some (ad 24), some (ad 26), some (ad 28), some (ad 30), some (ad 32)])), (ad 14, co 3 [.ref (ad 15)]), (ad 15, ca D 6 (hp 0)), (ad 16, co 3 [.ref (ad 17)]), (ad 17, ca D 6 (hp 1)), (ad 18, co 3 [.ref (ad 19)]), (ad 19, ca D 6 (hp 2)), (ad 20, co 3 [.ref (ad 21)]), (ad 21, ca D 6 (hp 3)), (ad 22, co 3 [.ref (ad 23)]), (ad 23, ca D 6 pr), (ad 24, co 3 [.ref (ad 25)]), (ad 25, ca D 6 (hs 0)), (ad 26, co 3 [.ref (ad 27)]), (ad 27, ca D 6 (hs 1)), (ad 28, co 3 [.ref (ad 29)]), (ad 29, ca D 6 (hs 2)), (ad 30, co 3 [.ref (ad 31)]), (ad 31, ca D 6 (hs 3)), (ad 32, co 3 [.ref (ad 33)]), (ad 33, ca D 6 (hs 4)), (ad 5, co 3 [.ref (ad 6)]), (ad 6, ca D 6 pr), (ad 7, co 3 [.ref (ad 8)]), (ad 8, ca D 6 sv)]
    refine g_aload_n O dX1_remember_25 26 0 rfl rfl ?_
    refine g_get O dX1_remember_26 29 rfl fX1_remember_21 0 rfl rfl ?_
    refine g_aload_n O dX1_remember_29 30 0 rfl rfl ?_
    refine g_get O dX1_remember_30 33 rfl fX1_remember_9 0 rfl rfl ?_
    refine g_aald O dX1_remember_33 34 rfl 2 rfl (by decide) (by decide) (ad 32) rfl ?_
    refine g_aload_n O dX1_remember_34 35 2 rfl rfl ?_
    refine g_callV (As := [.ref (ad 7)]) (rest := []) (na := 1) O (k_X3_copyFrom D (ad 32) (ad 33) (ad 7) (ad 8) (hs 4) sv) dX1_remember_35 gX1_remember_X3_copyFrom rfl ⟨rfl, rfl⟩ (by decide +kernel) rfl (by decide) (by decide) rfl (by decide) (q0 := 21) (ci := 3) rfl rfl [21, 22, 25, 26] (by decide) rfl (fun _ => rfl) (fun _ => [(ad 11, co 1 [vi 4, .ref (ad 12), .ref (ad 13)]), (ad 12, cq D 5 (qf [some (ad 14), some (ad 16), some (ad 18), some (ad 20), some (ad 22)])), (ad 13, cq D 5 (qf [some (ad 24), some (ad 26), some (ad 28), some (ad 30), some (ad 32)])), (ad 14, co 3 [.ref (ad 15)]), (ad 15, ca D 6 (hp 0)), (ad 16, co 3 [.ref (ad 17)]), (ad 17, ca D 6 (hp 1)), (ad 18, co 3 [.ref (ad 19)]), (ad 19, ca D 6 (hp 2)), (ad 20, co 3 [.ref (ad 21)]), (ad 21, ca D 6 (hp 3)), (ad 22, co 3 [.ref (ad 23)]), (ad 23, ca D 6 pr), (ad 24, co 3 [.ref (ad 25)]), (ad 25, ca D 6 (hs 0)), (ad 26, co 3 [.ref (ad 27)]), (ad 27, ca D 6 (hs 1)), (ad 28, co 3 [.ref (ad 29)]), (ad 29, ca D 6 (hs 2)), (ad 30, co 3 [.ref (ad 31)]), (ad 31, ca D 6 (hs 3)), (ad 32, co 3 [.ref (ad 33)]), (ad 33, ca D 6 sv), (ad 5, co 3 [.ref (ad 6)]), (ad 6, ca D 6 pr), (ad 7, co 3 [.ref (ad 8)]), (ad 8, ca D 6 sv)]) (fun _ => rfl) 38 rfl (fun _ _ => ?_)
    show G X D A 3 Q 0 0 38 [(0, .ref (ad 11)), (1, .ref (ad 5)), (2, .ref (ad 7))] [] [(ad 11, co 1 [vi 4, .ref (ad 12), .ref (ad 13)]), (ad 12, cq D 5 (qf [some (ad 14), some (ad 16), some (ad 18), some (ad 20), some (ad 22)])), (ad 13, cq D 5 (qf [some (ad 24), some (ad 26), some (ad 28), some (ad 30), some (ad 32)])), (ad 14, co 3 [.ref (ad 15)]), (ad 15, ca D 6 (hp 0)), (ad 16, co 3 [.ref (ad 17)]), (ad 17, ca D 6 (hp 1)), (ad 18, co 3 [.ref (ad 19)]), (ad 19, ca D 6 (hp 2)), (ad 20, co 3 [.ref (ad 21)]), (ad 21, ca D 6 (hp 3)), (ad 22, co 3 [.ref (ad 23)]), (ad 23, ca D 6 pr), (ad 24, co 3 [.ref (ad 25)]), (ad 25, ca D 6 (hs 0)), (ad 26, co 3 [.ref (ad 27)]), (ad 27, ca D 6 (hs 1)), (ad 28, co 3 [.ref (ad 29)]), (ad 29, ca D 6 (hs 2)), (ad 30, co 3 [.ref (ad 31)]), (ad 31, ca D 6 (hs 3)), (ad 32, co 3 [.ref (ad 33)]), (ad 33, ca D 6 sv), (ad 5, co 3 [.ref (ad 6)]), (ad 6, ca D 6 pr), (ad 7, co 3 [.ref (ad 8)]), (ad 8, ca D 6 sv)]
    refine g_aload_n O dX1_remember_38 39 0 rfl rfl ?_
    refine g_dup O dX1_remember_39 40 rfl rfl ?_
    refine g_get O dX1_remember_40 43 rfl fX1_remember_9 0 rfl rfl ?_
    refine g_iconst O dX1_remember_43 44 rfl ?_
    refine g_iadd O dX1_remember_44 45 rfl ?_
    refine g_put O dX1_remember_45 48 rfl fX1_remember_9 pF1_0 0 rfl rfl rfl (Nat.le_of_ble_eq_true rfl) [(ad 11, co 1 [vi 5, .ref (ad 12), .ref (ad 13)]), (ad 12, cq D 5 (qf [some (ad 14), some (ad 16), some (ad 18), some (ad 20), some (ad 22)])), (ad 13, cq D 5 (qf [some (ad 24), some (ad 26), some (ad 28), some (ad 30), some (ad 32)])), (ad 14, co 3 [.ref (ad 15)]), (ad 15, ca D 6 (hp 0)), (ad 16, co 3 [.ref (ad 17)]), (ad 17, ca D 6 (hp 1)), (ad 18, co 3 [.ref (ad 19)]), (ad 19, ca D 6 (hp 2)), (ad 20, co 3 [.ref (ad 21)]), (ad 21, ca D 6 (hp 3)), (ad 22, co 3 [.ref (ad 23)]), (ad 23, ca D 6 pr), (ad 24, co 3 [.ref (ad 25)]), (ad 25, ca D 6 (hs 0)), (ad 26, co 3 [.ref (ad 27)]), (ad 27, ca D 6 (hs 1)), (ad 28, co 3 [.ref (ad 29)]), (ad 29, ca D 6 (hs 2)), (ad 30, co 3 [.ref (ad 31)]), (ad 31, ca D 6 (hs 3)), (ad 32, co 3 [.ref (ad 33)]), (ad 33, ca D 6 sv), (ad 5, co 3 [.ref (ad 6)]), (ad 6, ca D 6 pr), (ad 7, co 3 [.ref (ad 8)]), (ad 8, ca D 6 sv)] rfl ?_
    exact g_vret O hQ dX1_remember_48 () rfl rfl trivial ⟨by decide, by decide⟩
  · skip
    refine g_aload_n O dX1_remember_0 1 0 rfl rfl ?_
    refine g_get O dX1_remember_1 4 rfl fX1_remember_9 0 rfl rfl ?_
    refine g_iconst O dX1_remember_4 5 rfl ?_
    refine g_icmp_ne O dX1_remember_5 8 12 rfl rfl (by omega) (fun h => absurd h (by decide)) (fun _ => ?_)
    refine g_aload_n O dX1_remember_8 9 0 rfl rfl ?_
    refine g_callV (As := []) (rest := []) (na := 0) O (k_X1_dropOldest D ad 5 hp hs) dX1_remember_9 gX1_remember_X1_dropOldest rfl ⟨rfl, rfl⟩ (by decide +kernel) rfl (by decide) (by decide) rfl (by decide) (q0 := 0) (ci := 1) rfl rfl [0, 1, 2, 3, 4, 5, 6, 7, 8, 9, 10, 11, 12, 13, 14, 15, 16, 17, 18, 19, 20, 21, 22] (by decide) rfl (fun _ => rfl) (fun _ => [(ad 11, co 1 [vi 4, .ref (ad 12), .ref (ad 13)]), (ad 12, cq D 5 (qf [some (ad 14), some (ad 16), some (ad 18), some (ad 20), some (ad 22)])), (ad 13, cq D 5 (qf [some (ad 24), some (ad 26), some (ad 28), some (ad 30), some (ad 32)])), (ad 14, co 3 [.ref (ad 15)]), (ad 15, ca D 6 (hp 1)), (ad 16, co 3 [.ref (ad 17)]), (ad 17, ca D 6 (hp 2)), (ad 18, co 3 [.ref (ad 19)]), (ad 19, ca D 6 (hp 3)), (ad 20, co 3 [.ref (ad 21)]), (ad 21, ca D 6 (hp 4)), (ad 22, co 3 [.ref (ad 23)]), (ad 23, ca D 6 (hp 4)), (ad 24, co 3 [.ref (ad 25)]), (ad 25, ca D 6 (hs 1)), (ad 26, co 3 [.ref (ad 27)]), (ad 27, ca D 6 (hs 2)), (ad 28, co 3 [.ref (ad 29)]), (ad 29, ca D 6 (hs 3)), (ad 30, co 3 [.ref (ad 31)]), (ad 31, ca D 6 (hs 4)), (ad 32, co 3 [.ref (ad 33)]), (ad 33, ca D 6 (hs 4)), (ad 5, co 3 [.ref (ad 6)]), (ad 6, ca D 6 pr), (ad 7, co 3 [.ref (ad 8)]), (ad 8, ca D 6 sv)]) (fun _ => rfl) 12 rfl (fun _ _ => ?_)
    show G X D A 3 Q 0 0 12 [(0, .ref (ad 11)), (1, .ref (ad 5)), (2, .ref (ad 7))] [] [(ad 11, co 1 [vi 4, .ref (ad 12), .ref (ad 13)]), (ad 12, cq D 5 (qf [some (ad 14), some (ad 16), some (ad 18), some (ad 20), some (ad 22)])), (ad 13, cq D 5 (qf [some (ad 24), some (ad 26), some (ad 28), some (ad 30), some (ad 32)])), (ad 14, co 3 [.ref (ad 15)]), (ad 15, ca D 6 (hp 1)), (ad 16, co 3 [.ref (ad 17)]), (ad 17, ca D 6 (hp 2)), (ad 18, co 3 [.ref (ad 19)]), (ad 19, ca D 6 (hp 3)), (ad 20, co 3 [.ref (ad 21)]), (ad 21, ca D 6 (hp 4)), (ad 22, co 3 [.ref (ad 23)]), (ad 23, ca D 6 (hp 4)), (ad 24, co 3 [.ref (ad 25)]), (ad 25, ca D 6 (hs 1)), (ad 26, co 3 [.ref (ad 27)]), (ad 27, ca D 6 (hs 2)), (ad 28, co 3 [.ref (ad 29)]), (ad 29, ca D 6 (hs 3)), (ad 30, co 3 [.ref (ad 31)]), (ad 31, ca D 6 (hs 4)), (ad 32, co 3 [.ref (ad 33)]), (ad 33, ca D 6 (hs 4)), (ad 5, co 3 [.ref (ad 6)]), (ad 6, ca D 6 pr), (ad 7, co 3 [.ref (ad 8)]), (ad 8, ca D 6 sv)]
    refine g_aload_n O dX1_remember_12 13 0 rfl rfl ?_
    refine g_get O dX1_remember_13 16 rfl fX1_remember_17 0 rfl rfl ?_
    refine g_aload_n O dX1_remember_16 17 0 rfl rfl ?_
    refine g_get O dX1_remember_17 20 rfl fX1_remember_9 0 rfl rfl ?_
    refine g_aald O dX1_remember_20 21 rfl 1 rfl (by decide) (by decide) (ad 22) rfl ?_
    refine g_aload_n O dX1_remember_21 22 1 rfl rfl ?_
    refine g_callV (As := [.ref (ad 5)]) (rest := []) (na := 1) O (k_X3_copyFrom D (ad 22) (ad 23) (ad 5) (ad 6) (hp 4) pr) dX1_remember_22 gX1_remember_X3_copyFrom rfl ⟨rfl, rfl⟩ (by decide +kernel) rfl (by decide) (by decide) rfl (by decide) (q0 := 11) (ci := 3) rfl rfl [11, 12, 23, 24] (by decide) rfl (fun _ => rfl) (fun _ => [(ad 11, co 1 [vi 4, .ref (ad 12), .ref (ad 13)]), (ad 12, cq D 5 (qf [some (ad 14), some (ad 16), some (ad 18), some (ad 20), some (ad 22)])), (ad 13, cq D 5 (qf [some (ad 24), some (ad 26), some (ad 28), some (ad 30), some (ad 32)])), (ad 14, co 3 [.ref (ad 15)]), (ad 15, ca D 6 (hp 1)), (ad 16, co 3 [.ref (ad 17)]), (ad 17, ca D 6 (hp 2)), (ad 18, co 3 [.ref (ad 19)]), (ad 19, ca D 6 (hp 3)), (ad 20, co 3 [.ref (ad 21)]), (ad 21, ca D 6 (hp 4)), (ad 22, co 3 [.ref (ad 23)]), (ad 23, ca D 6 pr), (ad 24, co 3 [.ref (ad 25)]), (ad 25, ca D 6 (hs 1)), (ad 26, co 3 [.ref (ad 27)]), (ad 27, ca D 6 (hs 2)), (ad 28, co 3 [.ref (ad 29)]), (ad 29, ca D 6 (hs 3)), (ad 30, co 3 [.ref (ad 31)]), (ad 31, ca D 6 (hs 4)), (ad 32, co 3 [.ref (ad 33)]), (ad 33, ca D 6 (hs 4)), (ad 5, co 3 [.ref (ad 6)]), (ad 6, ca D 6 pr), (ad 7, co 3 [.ref (ad 8)]), (ad 8, ca D 6 sv)]) (fun _ => rfl) 25 rfl (fun _ _ => ?_)
    show G X D A 3 Q 0 0 25 [(0, .ref (ad 11)), (1, .ref (ad 5)), (2, .ref (ad 7))] [] [(ad 11, co 1 [vi 4, .ref (ad 12), .ref (ad 13)]), (ad 12, cq D 5 (qf [some (ad 14), some (ad 16), some (ad 18), some (ad 20), some (ad 22)])), (ad 13, cq D 5 (qf [some (ad 24), some (ad 26), some (ad 28), some (ad 30), some (ad 32)])), (ad 14, co 3 [.ref (ad 15)]), (ad 15, ca D 6 (hp 1)), (ad 16, co 3 [.ref (ad 17)]), (ad 17, ca D 6 (hp 2)), (ad 18, co 3 [.ref (ad 19)]), (ad 19, ca D 6 (hp 3)), (ad 20, co 3 [.ref (ad 21)]), (ad 21, ca D 6 (hp 4)), (ad 22, co 3 [.ref (ad 23)]), (ad 23, ca D 6 pr), (ad 24, co 3 [.ref (ad 25)]), (ad 25, ca D 6 (hs 1)), (ad 26, co 3 [.ref (ad 27)]), (ad 27, ca D 6 (hs 2)), (ad 28, co 3 [.ref (ad 29)]), (ad 29, ca D 6 (hs 3)), (ad 30, co 3 [.ref (ad 31)]), (ad 31, ca D 6 (hs 4)), (ad 32, co 3 [.ref (ad 33)]), (ad 33, ca D 6 (hs 4)), (ad 5, co 3 [.ref (ad 6)]), (ad 6, ca D 6 pr), (ad 7, co 3 [.ref (ad 8)]), (ad 8, ca D 6 sv)]
    refine g_aload_n O dX1_remember_25 26 0 rfl rfl ?_
    refine g_get O dX1_remember_26 29 rfl fX1_remember_21 0 rfl rfl ?_
    refine g_aload_n O dX1_remember_29 30 0 rfl rfl ?_
    refine g_get O dX1_remember_30 33 rfl fX1_remember_9 0 rfl rfl ?_
    refine g_aald O dX1_remember_33 34 rfl 2 rfl (by decide) (by decide) (ad 32) rfl ?_
    refine g_aload_n O dX1_remember_34 35 2 rfl rfl ?_
    refine g_callV (As := [.ref (ad 7)]) (rest := []) (na := 1) O (k_X3_copyFrom D (ad 32) (ad 33) (ad 7) (ad 8) (hs 4) sv) dX1_remember_35 gX1_remember_X3_copyFrom rfl ⟨rfl, rfl⟩ (by decide +kernel) rfl (by decide) (by decide) rfl (by decide) (q0 := 21) (ci := 3) rfl rfl [21, 22, 25, 26] (by decide) rfl (fun _ => rfl) (fun _ => [(ad 11, co 1 [vi 4, .ref (ad 12), .ref (ad 13)]), (ad 12, cq D 5 (qf [some (ad 14), some (ad 16), some (ad 18), some (ad 20), some (ad 22)])), (ad 13, cq D 5 (qf [some (ad 24), some (ad 26), some (ad 28), some (ad 30), some (ad 32)])), (ad 14, co 3 [.ref (ad 15)]), (ad 15, ca D 6 (hp 1)), (ad 16, co 3 [.ref (ad 17)]), (ad 17, ca D 6 (hp 2)), (ad 18, co 3 [.ref (ad 19)]), (ad 19, ca D 6 (hp 3)), (ad 20, co 3 [.ref (ad 21)]), (ad 21, ca D 6 (hp 4)), (ad 22, co 3 [.ref (ad 23)]), (ad 23, ca D 6 pr), (ad 24, co 3 [.ref (ad 25)]), (ad 25, ca D 6 (hs 1)), (ad 26, co 3 [.ref (ad 27)]), (ad 27, ca D 6 (hs 2)), (ad 28, co 3 [.ref (ad 29)]), (ad 29, ca D 6 (hs 3)), (ad 30, co 3 [.ref (ad 31)]), (ad 31, ca D 6 (hs 4)), (ad 32, co 3 [.ref (ad 33)]), (ad 33, ca D 6 sv), (ad 5, co 3 [.ref (ad 6)]), (ad 6, ca D 6 pr), (ad 7, co 3 [.ref (ad 8)]), (ad 8, ca D 6 sv)]) (fun _ => rfl) 38 rfl (fun _ _ => ?_)
    show G X D A 3 Q 0 0 38 [(0, .ref (ad 11)), (1, .ref (ad 5)), (2, .ref (ad 7))] [] [(ad 11, co 1 [vi 4, .ref (ad 12), .ref (ad 13)]), (ad 12, cq D 5 (qf [some (ad 14), some (ad 16), some (ad 18), some (ad 20), some (ad 22)])), (ad 13, cq D 5 (qf [some (ad 24), some (ad 26), some (ad 28), some (ad 30), some (ad 32)])), (ad 14, co 3 [.ref (ad 15)]), (ad 15, ca D 6 (hp 1)), (ad 16, co 3 [.ref (ad 17)]), (ad 17, ca D 6 (hp 2)), (ad 18, co 3 [.ref (ad 19)]), (ad 19, ca D 6 (hp 3)), (ad 20, co 3 [.ref (ad 21)]), (ad 21, ca D 6 (hp 4)), (ad 22, co 3 [.ref (ad 23)]), (ad 23, ca D 6 pr), (ad 24, co 3 [.ref (ad 25)]), (ad 25, ca D 6 (hs 1)), (ad 26, co 3 [.ref (ad 27)]), (ad 27, ca D 6 (hs 2)), (ad 28, co 3 [.ref (ad 29)]), (ad 29, ca D 6 (hs 3)), (ad 30, co 3 [.ref (ad 31)]), (ad 31, ca D 6 (hs 4)), (ad 32, co 3 [.ref (ad 33)]), (ad 33, ca D 6 sv), (ad 5, co 3 [.ref (ad 6)]), (ad 6, ca D 6 pr), (ad 7, co 3 [.ref (ad 8)]), (ad 8, ca D 6 sv)]
    refine g_aload_n O dX1_remember_38 39 0 rfl rfl ?_
    refine g_dup O dX1_remember_39 40 rfl rfl ?_
    refine g_get O dX1_remember_40 43 rfl fX1_remember_9 0 rfl rfl ?_
    refine g_iconst O dX1_remember_43 44 rfl ?_
    refine g_iadd O dX1_remember_44 45 rfl ?_
    refine g_put O dX1_remember_45 48 rfl fX1_remember_9 pF1_0 0 rfl rfl rfl (Nat.le_of_ble_eq_true rfl) [(ad 11, co 1 [vi 5, .ref (ad 12), .ref (ad 13)]), (ad 12, cq D 5 (qf [some (ad 14), some (ad 16), some (ad 18), some (ad 20), some (ad 22)])), (ad 13, cq D 5 (qf [some (ad 24), some (ad 26), some (ad 28), some (ad 30), some (ad 32)])), (ad 14, co 3 [.ref (ad 15)]), (ad 15, ca D 6 (hp 1)), (ad 16, co 3 [.ref (ad 17)]), (ad 17, ca D 6 (hp 2)), (ad 18, co 3 [.ref (ad 19)]), (ad 19, ca D 6 (hp 3)), (ad 20, co 3 [.ref (ad 21)]), (ad 21, ca D 6 (hp 4)), (ad 22, co 3 [.ref (ad 23)]), (ad 23, ca D 6 pr), (ad 24, co 3 [.ref (ad 25)]), (ad 25, ca D 6 (hs 1)), (ad 26, co 3 [.ref (ad 27)]), (ad 27, ca D 6 (hs 2)), (ad 28, co 3 [.ref (ad 29)]), (ad 29, ca D 6 (hs 3)), (ad 30, co 3 [.ref (ad 31)]), (ad 31, ca D 6 (hs 4)), (ad 32, co 3 [.ref (ad 33)]), (ad 33, ca D 6 sv), (ad 5, co 3 [.ref (ad 6)]), (ad 6, ca D 6 pr), (ad 7, co 3 [.ref (ad 8)]), (ad 8, ca D 6 sv)] rfl ?_
    exact g_vret O hQ dX1_remember_48 () rfl rfl trivial ⟨by decide, by decide⟩
theorem sX1_restore_1 : ∀ w ∈ wsX10, w ∈ wsX1_restore := by decide +kernel
theorem fX1_restore_17 : FK RX1 wsX1_restore 17 1 1 := ⟨RX1, TX1, 3, rfl, sX1_restore_1, by decide, List.mem_of_getElem? (i := 2) rfl⟩
theorem fX1_restore_21 : FK RX1 wsX1_restore 21 1 2 := ⟨RX1, TX1, 3, rfl, sX1_restore_1, by decide, List.mem_of_getElem? (i := 3) rfl⟩
theorem fX1_restore_9 : FK RX1 wsX1_restore 9 1 0 := ⟨RX1, TX1, 3, rfl, sX1_restore_1, by decide, List.mem_of_getElem? (i := 1) rfl⟩
set_option maxHeartbeats 4000000 in
set_option maxRecDepth 100000 in
theorem k_X1_restore (D : DD) (ad : Nat → Nat) (cnt : Int) (hp hs : Int → Int → Int) (pr sv : Int → Int) (hcn : 1 ≤ cnt ∧ cnt ≤ 5) : Con (S := Unit) D yX1_restore wsX1_restore ({ frames := 1, cells := 0, slots := 0, locals := 22 }) 0 0 [.ref (ad 11), .ref (ad 5), .ref (ad 7)] [(ad 11, co 1 [vi cnt, .ref (ad 12), .ref (ad 13)]), (ad 12, cq D 5 (qf [some (ad 14), some (ad 16), some (ad 18), some (ad 20), some (ad 22)])), (ad 13, cq D 5 (qf [some (ad 24), some (ad 26), some (ad 28), some (ad 30), some (ad 32)])), (ad 14, co 3 [.ref (ad 15)]), (ad 15, ca D 6 (hp 0)), (ad 16, co 3 [.ref (ad 17)]), (ad 17, ca D 6 (hp 1)), (ad 18, co 3 [.ref (ad 19)]), (ad 19, ca D 6 (hp 2)), (ad 20, co 3 [.ref (ad 21)]), (ad 21, ca D 6 (hp 3)), (ad 22, co 3 [.ref (ad 23)]), (ad 23, ca D 6 (hp 4)), (ad 24, co 3 [.ref (ad 25)]), (ad 25, ca D 6 (hs 0)), (ad 26, co 3 [.ref (ad 27)]), (ad 27, ca D 6 (hs 1)), (ad 28, co 3 [.ref (ad 29)]), (ad 29, ca D 6 (hs 2)), (ad 30, co 3 [.ref (ad 31)]), (ad 31, ca D 6 (hs 3)), (ad 32, co 3 [.ref (ad 33)]), (ad 33, ca D 6 (hs 4)), (ad 5, co 3 [.ref (ad 6)]), (ad 6, ca D 6 pr), (ad 7, co 3 [.ref (ad 8)]), (ad 8, ca D 6 sv)] (fun u => none) (fun u => True) (fun u => [(ad 11, co 1 [vi (cnt - 1), .ref (ad 12), .ref (ad 13)]), (ad 12, cq D 5 (qf [some (ad 14), some (ad 16), some (ad 18), some (ad 20), some (ad 22)])), (ad 13, cq D 5 (qf [some (ad 24), some (ad 26), some (ad 28), some (ad 30), some (ad 32)])), (ad 14, co 3 [.ref (ad 15)]), (ad 15, ca D 6 (hp 0)), (ad 16, co 3 [.ref (ad 17)]), (ad 17, ca D 6 (hp 1)), (ad 18, co 3 [.ref (ad 19)]), (ad 19, ca D 6 (hp 2)), (ad 20, co 3 [.ref (ad 21)]), (ad 21, ca D 6 (hp 3)), (ad 22, co 3 [.ref (ad 23)]), (ad 23, ca D 6 (hp 4)), (ad 24, co 3 [.ref (ad 25)]), (ad 25, ca D 6 (hs 0)), (ad 26, co 3 [.ref (ad 27)]), (ad 27, ca D 6 (hs 1)), (ad 28, co 3 [.ref (ad 29)]), (ad 29, ca D 6 (hs 2)), (ad 30, co 3 [.ref (ad 31)]), (ad 31, ca D 6 (hs 3)), (ad 32, co 3 [.ref (ad 33)]), (ad 33, ca D 6 (hs 4)), (ad 5, co 3 [.ref (ad 6)]), (ad 6, ca D 6 (hp (cnt - 1))), (ad 7, co 3 [.ref (ad 8)]), (ad 8, ca D 6 (hs (cnt - 1)))]) := by
  refine Con.of (cc := cX1_restore) (nL := 3) (ret := none) rfl (by decide +kernel) (Nat.le_of_ble_eq_true rfl) ?_
  intro X A Q O hQ hin
  show G X D A 3 Q 0 0 0 [(0, .ref (ad 11)), (1, .ref (ad 5)), (2, .ref (ad 7))] [] [(ad 11, co 1 [vi cnt, .ref (ad 12), .ref (ad 13)]), (ad 12, cq D 5 (qf [some (ad 14), some (ad 16), some (ad 18), some (ad 20), some (ad 22)])), (ad 13, cq D 5 (qf [some (ad 24), some (ad 26), some (ad 28), some (ad 30), some (ad 32)])), (ad 14, co 3 [.ref (ad 15)]), (ad 15, ca D 6 (hp 0)), (ad 16, co 3 [.ref (ad 17)]), (ad 17, ca D 6 (hp 1)), (ad 18, co 3 [.ref (ad 19)]), (ad 19, ca D 6 (hp 2)), (ad 20, co 3 [.ref (ad 21)]), (ad 21, ca D 6 (hp 3)), (ad 22, co 3 [.ref (ad 23)]), (ad 23, ca D 6 (hp 4)), (ad 24, co 3 [.ref (ad 25)]), (ad 25, ca D 6 (hs 0)), (ad 26, co 3 [.ref (ad 27)]), (ad 27, ca D 6 (hs 1)), (ad 28, co 3 [.ref (ad 29)]), (ad 29, ca D 6 (hs 2)), (ad 30, co 3 [.ref (ad 31)]), (ad 31, ca D 6 (hs 3)), (ad 32, co 3 [.ref (ad 33)]), (ad 33, ca D 6 (hs 4)), (ad 5, co 3 [.ref (ad 6)]), (ad 6, ca D 6 pr), (ad 7, co 3 [.ref (ad 8)]), (ad 8, ca D 6 sv)]
  rcases (show cnt = 1 ∨ cnt = 2 ∨ cnt = 3 ∨ cnt = 4 ∨ cnt = 5 by omega) with rfl | rfl | rfl | rfl | rfl
  · skip
    refine g_aload_n O dX1_restore_0 1 0 rfl rfl ?_
    refine g_get O dX1_restore_1 4 rfl fX1_restore_9 0 rfl rfl ?_
    refine g_if_le O dX1_restore_4 7 43 rfl rfl (by omega) (fun h => absurd h (by decide)) (fun _ => ?_)
    refine g_aload_n O dX1_restore_7 8 0 rfl rfl ?_
    refine g_dup O dX1_restore_8 9 rfl rfl ?_
    refine g_get O dX1_restore_9 12 rfl fX1_restore_9 0 rfl rfl ?_
    refine g_iconst O dX1_restore_12 13 rfl ?_
    refine g_isub O dX1_restore_13 14 rfl ?_
    refine g_put O dX1_restore_14 17 rfl fX1_restore_9 pF1_0 0 rfl rfl rfl (Nat.le_of_ble_eq_true rfl) [(ad 11, co 1 [vi 0, .ref (ad 12), .ref (ad 13)]), (ad 12, cq D 5 (qf [some (ad 14), some (ad 16), some (ad 18), some (ad 20), some (ad 22)])), (ad 13, cq D 5 (qf [some (ad 24), some (ad 26), some (ad 28), some (ad 30), some (ad 32)])), (ad 14, co 3 [.ref (ad 15)]), (ad 15, ca D 6 (hp 0)), (ad 16, co 3 [.ref (ad 17)]), (ad 17, ca D 6 (hp 1)), (ad 18, co 3 [.ref (ad 19)]), (ad 19, ca D 6 (hp 2)), (ad 20, co 3 [.ref (ad 21)]), (ad 21, ca D 6 (hp 3)), (ad 22, co 3 [.ref (ad 23)]), (ad 23, ca D 6 (hp 4)), (ad 24, co 3 [.ref (ad 25)]), (ad 25, ca D 6 (hs 0)), (ad 26, co 3 [.ref (ad 27)]), (ad 27, ca D 6 (hs 1)), (ad 28, co 3 [.ref (ad 29)]), (ad 29, ca D 6 (hs 2)), (ad 30, co 3 [.ref (ad 31)]), (ad 31, ca D 6 (hs 3)), (ad 32, co 3 [.ref (ad 33)]), (ad 33, ca D 6 (hs 4)), (ad 5, co 3 [.ref (ad 6)]), (ad 6, ca D 6 pr), (ad 7, co 3 [.ref (ad 8)]), (ad 8, ca D 6 sv)] rfl ?_
    refine g_aload_n O dX1_restore_17 18 1 rfl rfl ?_
    refine g_aload_n O dX1_restore_18 19 0 rfl rfl ?_
    refine g_get O dX1_restore_19 22 rfl fX1_restore_17 0 rfl rfl ?_
    refine g_aload_n O dX1_restore_22 23 0 rfl rfl ?_
    refine g_get O dX1_restore_23 26 rfl fX1_restore_9 0 rfl rfl ?_
    refine g_aald O dX1_restore_26 27 rfl 1 rfl (by decide) (by decide) (ad 14) rfl ?_
    refine g_callV (As := [.ref (ad 14)]) (rest := []) (na := 1) O (k_X3_copyFrom D (ad 5) (ad 6) (ad 14) (ad 15) pr (hp 0)) dX1_restore_27 gX1_restore_X3_copyFrom rfl ⟨rfl, rfl⟩ (by decide +kernel) rfl (by decide) (by decide) rfl (by decide) (q0 := 23) (ci := 3) rfl rfl [23, 24, 3, 4] (by decide) rfl (fun _ => rfl) (fun _ => [(ad 11, co 1 [vi 0, .ref (ad 12), .ref (ad 13)]), (ad 12, cq D 5 (qf [some (ad 14), some (ad 16), some (ad 18), some (ad 20), some (ad 22)])), (ad 13, cq D 5 (qf [some (ad 24), some (ad 26), some (ad 28), some (ad 30), some (ad 32)])), (ad 14, co 3 [.ref (ad 15)]), (ad 15, ca D 6 (hp 0)), (ad 16, co 3 [.ref (ad 17)]), (ad 17, ca D 6 (hp 1)), (ad 18, co 3 [.ref (ad 19)]), (ad 19, ca D 6 (hp 2)), (ad 20, co 3 [.ref (ad 21)]), (ad 21, ca D 6 (hp 3)), (ad 22, co 3 [.ref (ad 23)]), (ad 23, ca D 6 (hp 4)), (ad 24, co 3 [.ref (ad 25)]), (ad 25, ca D 6 (hs 0)), (ad 26, co 3 [.ref (ad 27)]), (ad 27, ca D 6 (hs 1)), (ad 28, co 3 [.ref (ad 29)]), (ad 29, ca D 6 (hs 2)), (ad 30, co 3 [.ref (ad 31)]), (ad 31, ca D 6 (hs 3)), (ad 32, co 3 [.ref (ad 33)]), (ad 33, ca D 6 (hs 4)), (ad 5, co 3 [.ref (ad 6)]), (ad 6, ca D 6 (hp 0)), (ad 7, co 3 [.ref (ad 8)]), (ad 8, ca D 6 sv)]) (fun _ => rfl) 30 rfl (fun _ _ => ?_)
    show G X D A 3 Q 0 0 30 [(0, .ref (ad 11)), (1, .ref (ad 5)), (2, .ref (ad 7))] [] [(ad 11, co 1 [vi 0, .ref (ad 12), .ref (ad 13)]), (ad 12, cq D 5 (qf [some (ad 14), some (ad 16), some (ad 18), some (ad 20), some (ad 22)])), (ad 13, cq D 5 (qf [some (ad 24), some (ad 26), some (ad 28), some (ad 30), some (ad 32)])), (ad 14, co 3 [.ref (ad 15)]), (ad 15, ca D 6 (hp 0)), (ad 16, co 3 [.ref (ad 17)]), (ad 17, ca D 6 (hp 1)), (ad 18, co 3 [.ref (ad 19)]), (ad 19, ca D 6 (hp 2)), (ad 20, co 3 [.ref (ad 21)]), (ad 21, ca D 6 (hp 3)), (ad 22, co 3 [.ref (ad 23)]), (ad 23, ca D 6 (hp 4)), (ad 24, co 3 [.ref (ad 25)]), (ad 25, ca D 6 (hs 0)), (ad 26, co 3 [.ref (ad 27)]), (ad 27, ca D 6 (hs 1)), (ad 28, co 3 [.ref (ad 29)]), (ad 29, ca D 6 (hs 2)), (ad 30, co 3 [.ref (ad 31)]), (ad 31, ca D 6 (hs 3)), (ad 32, co 3 [.ref (ad 33)]), (ad 33, ca D 6 (hs 4)), (ad 5, co 3 [.ref (ad 6)]), (ad 6, ca D 6 (hp 0)), (ad 7, co 3 [.ref (ad 8)]), (ad 8, ca D 6 sv)]
    refine g_aload_n O dX1_restore_30 31 2 rfl rfl ?_
    refine g_aload_n O dX1_restore_31 32 0 rfl rfl ?_
    refine g_get O dX1_restore_32 35 rfl fX1_restore_21 0 rfl rfl ?_
    refine g_aload_n O dX1_restore_35 36 0 rfl rfl ?_
    refine g_get O dX1_restore_36 39 rfl fX1_restore_9 0 rfl rfl ?_
    refine g_aald O dX1_restore_39 40 rfl 2 rfl (by decide) (by decide) (ad 24) rfl ?_
    refine g_callV (As := [.ref (ad 24)]) (rest := []) (na := 1) O (k_X3_copyFrom D (ad 7) (ad 8) (ad 24) (ad 25) sv (hs 0)) dX1_restore_40 gX1_restore_X3_copyFrom rfl ⟨rfl, rfl⟩ (by decide +kernel) rfl (by decide) (by decide) rfl (by decide) (q0 := 25) (ci := 3) rfl rfl [25, 26, 13, 14] (by decide) rfl (fun _ => rfl) (fun _ => [(ad 11, co 1 [vi 0, .ref (ad 12), .ref (ad 13)]), (ad 12, cq D 5 (qf [some (ad 14), some (ad 16), some (ad 18), some (ad 20), some (ad 22)])), (ad 13, cq D 5 (qf [some (ad 24), some (ad 26), some (ad 28), some (ad 30), some (ad 32)])), (ad 14, co 3 [.ref (ad 15)]), (ad 15, ca D 6 (hp 0)), (ad 16, co 3 [.ref (ad 17)]), (ad 17, ca D 6 (hp 1)), (ad 18, co 3 [.ref (ad 19)]), (ad 19, ca D 6 (hp 2)), (ad 20, co 3 [.ref (ad 21)]), (ad 21, ca D 6 (hp 3)), (ad 22, co 3 [.ref (ad 23)]), (ad 23, ca D 6 (hp 4)), (ad 24, co 3 [.ref (ad 25)]), (ad 25, ca D 6 (hs 0)), (ad 26, co 3 [.ref (ad 27)]), (ad 27, ca D 6 (hs 1)), (ad 28, co 3 [.ref (ad 29)]), (ad 29, ca D 6 (hs 2)), (ad 30, co 3 [.ref (ad 31)]), (ad 31, ca D 6 (hs 3)), (ad 32, co 3 [.ref (ad 33)]), (ad 33, ca D 6 (hs 4)), (ad 5, co 3 [.ref (ad 6)]), (ad 6, ca D 6 (hp 0)), (ad 7, co 3 [.ref (ad 8)]), (ad 8, ca D 6 (hs 0))]) (fun _ => rfl) 43 rfl (fun _ _ => ?_)
    show G X D A 3 Q 0 0 43 [(0, .ref (ad 11)), (1, .ref (ad 5)), (2, .ref (ad 7))] [] [(ad 11, co 1 [vi 0, .ref (ad 12), .ref (ad 13)]), (ad 12, cq D 5 (qf [some (ad 14), some (ad 16), some (ad 18), some (ad 20), some (ad 22)])), (ad 13, cq D 5 (qf [some (ad 24), some (ad 26), some (ad 28), some (ad 30), some (ad 32)])), (ad 14, co 3 [.ref (ad 15)]), (ad 15, ca D 6 (hp 0)), (ad 16, co 3 [.ref (ad 17)]), (ad 17, ca D 6 (hp 1)), (ad 18, co 3 [.ref (ad 19)]), (ad 19, ca D 6 (hp 2)), (ad 20, co 3 [.ref (ad 21)]), (ad 21, ca D 6 (hp 3)), (ad 22, co 3 [.ref (ad 23)]), (ad 23, ca D 6 (hp 4)), (ad 24, co 3 [.ref (ad 25)]), (ad 25, ca D 6 (hs 0)), (ad 26, co 3 [.ref (ad 27)]), (ad 27, ca D 6 (hs 1)), (ad 28, co 3 [.ref (ad 29)]), (ad 29, ca D 6 (hs 2)), (ad 30, co 3 [.ref (ad 31)]), (ad 31, ca D 6 (hs 3)), (ad 32, co 3 [.ref (ad 33)]), (ad 33, ca D 6 (hs 4)), (ad 5, co 3 [.ref (ad 6)]), (ad 6, ca D 6 (hp 0)), (ad 7, co 3 [.ref (ad 8)]), (ad 8, ca D 6 (hs 0))]
    exact g_vret O hQ dX1_restore_43 () rfl rfl trivial ⟨by decide, by decide⟩
  · skip
    refine g_aload_n O dX1_restore_0 1 0 rfl rfl ?_
    refine g_get O dX1_restore_1 4 rfl fX1_restore_9 0 rfl rfl ?_
    refine g_if_le O dX1_restore_4 7 43 rfl rfl (by omega) (fun h => absurd h (by decide)) (fun _ => ?_)
    refine g_aload_n O dX1_restore_7 8 0 rfl rfl ?_
    refine g_dup O dX1_restore_8 9 rfl rfl ?_
    refine g_get O dX1_restore_9 12 rfl fX1_restore_9 0 rfl rfl ?_
    refine g_iconst O dX1_restore_12 13 rfl ?_
    refine g_isub O dX1_restore_13 14 rfl ?_
    refine g_put O dX1_restore_14 17 rfl fX1_restore_9 pF1_0 0 rfl rfl rfl (Nat.le_of_ble_eq_true rfl) [(ad 11, co 1 [vi 1, .ref (ad 12), .ref (ad 13)]), (ad 12, cq D 5 (qf [some (ad 14), some (ad 16), some (ad 18), some (ad 20), some (ad 22)])), (ad 13, cq D 5 (qf [some (ad 24), some (ad 26), some (ad 28), some (ad 30), some (ad 32)])), (ad 14, co 3 [.ref (ad 15)]), (ad 15, ca D 6 (hp 0)), (ad 16, co 3 [.ref (ad 17)]), (ad 17, ca D 6 (hp 1)), (ad 18, co 3 [.ref (ad 19)]), (ad 19, ca D 6 (hp 2)), (ad 20, co 3 [.ref (ad 21)]), (ad 21, ca D 6 (hp 3)), (ad 22, co 3 [.ref (ad 23)]), (ad 23, ca D 6 (hp 4)), (ad 24, co 3 [.ref (ad 25)]), (ad 25, ca D 6 (hs 0)), (ad 26, co 3 [.ref (ad 27)]), (ad 27, ca D 6 (hs 1)), (ad 28, co 3 [.ref (ad 29)]), (ad 29, ca D 6 (hs 2)), (ad 30, co 3 [.ref (ad 31)]), (ad 31, ca D 6 (hs 3)), (ad 32, co 3 [.ref (ad 33)]), (ad 33, ca D 6 (hs 4)), (ad 5, co 3 [.ref (ad 6)]), (ad 6, ca D 6 pr), (ad 7, co 3 [.ref (ad 8)]), (ad 8, ca D 6 sv)] rfl ?_
    refine g_aload_n O dX1_restore_17 18 1 rfl rfl ?_
    refine g_aload_n O dX1_restore_18 19 0 rfl rfl ?_
    refine g_get O dX1_restore_19 22 rfl fX1_restore_17 0 rfl rfl ?_
    refine g_aload_n O dX1_restore_22 23 0 rfl rfl ?_
    refine g_get O dX1_restore_23 26 rfl fX1_restore_9 0 rfl rfl ?_
    refine g_aald O dX1_restore_26 27 rfl 1 rfl (by decide) (by decide) (ad 16) rfl ?_
    refine g_callV (As := [.ref (ad 16)]) (rest := []) (na := 1) O (k_X3_copyFrom D (ad 5) (ad 6) (ad 16) (ad 17) pr (hp 1)) dX1_restore_27 gX1_restore_X3_copyFrom rfl ⟨rfl, rfl⟩ (by decide +kernel) rfl (by decide) (by decide) rfl (by decide) (q0 := 23) (ci := 3) rfl rfl [23, 24, 5, 6] (by decide) rfl (fun _ => rfl) (fun _ => [(ad 11, co 1 [vi 1, .ref (ad 12), .ref (ad 13)]), (ad 12, cq D 5 (qf [some (ad 14), some (ad 16), some (ad 18), some (ad 20), some (ad 22)])), (ad 13, cq D 5 (qf [some (ad 24), some (ad 26), some (ad 28), some (ad 30), some (ad 32)])), (ad 14, co 3 [.ref (ad 15)]), (ad 15, ca D 6 (hp 0)), (ad 16, co 3 [.ref (ad 17)]), (ad 17, ca D 6 (hp 1)), (ad 18, co 3 [.ref (ad 19)]), (ad 19, ca D 6 (hp 2)), (ad 20, co 3 [.ref (ad 21)]), (ad 21, ca D 6 (hp 3)), (ad 22, co 3 [.ref (ad 23)]), (ad 23, ca D 6 (hp 4)), (ad 24, co 3 [.ref (ad 25)]), (ad 25, ca D 6 (hs 0)), (ad 26, co 3 [.ref (ad 27)]), (ad 27, ca D 6 (hs 1)), (ad 28, co 3 [.ref (ad 29)]), (ad 29, ca D 6 (hs 2)), (ad 30, co 3 [.ref (ad 31)]), (ad 31, ca D 6 (hs 3)), (ad 32, co 3 [.ref (ad 33)]), (ad 33, ca D 6 (hs 4)), (ad 5, co 3 [.ref (ad 6)]), (ad 6, ca D 6 (hp 1)), (ad 7, co 3 [.ref (ad 8)]), (ad 8, ca D 6 sv)]) (fun _ => rfl) 30 rfl (fun _ _ => ?_)
    show G X D A 3 Q 0 0 30 [(0, .ref (ad 11)), (1, .ref (ad 5)), (2, .ref (ad 7))] [] [(ad 11, co 1 [vi 1, .ref (ad 12), .ref (ad 13)]), (ad 12, cq D 5 (qf [some (ad 14), some (ad 16), some (ad 18), some (ad 20), some (ad 22)])), (ad 13, cq D 5 (qf [some (ad 24), some (ad 26), some (ad 28), some (ad 30), some (ad 32)])), (ad 14, co 3 [.ref (ad 15)]), (ad 15, ca D 6 (hp 0)), (ad 16, co 3 [.ref (ad 17)]), (ad 17, ca D 6 (hp 1)), (ad 18, co 3 [.ref (ad 19)]), (ad 19, ca D 6 (hp 2)), (ad 20, co 3 [.ref (ad 21)]), (ad 21, ca D 6 (hp 3)), (ad 22, co 3 [.ref (ad 23)]), (ad 23, ca D 6 (hp 4)), (ad 24, co 3 [.ref (ad 25)]), (ad 25, ca D 6 (hs 0)), (ad 26, co 3 [.ref (ad 27)]), (ad 27, ca D 6 (hs 1)), (ad 28, co 3 [.ref (ad 29)]), (ad 29, ca D 6 (hs 2)), (ad 30, co 3 [.ref (ad 31)]), (ad 31, ca D 6 (hs 3)), (ad 32, co 3 [.ref (ad 33)]), (ad 33, ca D 6 (hs 4)), (ad 5, co 3 [.ref (ad 6)]), (ad 6, ca D 6 (hp 1)), (ad 7, co 3 [.ref (ad 8)]), (ad 8, ca D 6 sv)]
    refine g_aload_n O dX1_restore_30 31 2 rfl rfl ?_
    refine g_aload_n O dX1_restore_31 32 0 rfl rfl ?_
    refine g_get O dX1_restore_32 35 rfl fX1_restore_21 0 rfl rfl ?_
    refine g_aload_n O dX1_restore_35 36 0 rfl rfl ?_
    refine g_get O dX1_restore_36 39 rfl fX1_restore_9 0 rfl rfl ?_
    refine g_aald O dX1_restore_39 40 rfl 2 rfl (by decide) (by decide) (ad 26) rfl ?_
    refine g_callV (As := [.ref (ad 26)]) (rest := []) (na := 1) O (k_X3_copyFrom D (ad 7) (ad 8) (ad 26) (ad 27) sv (hs 1)) dX1_restore_40 gX1_restore_X3_copyFrom rfl ⟨rfl, rfl⟩ (by decide +kernel) rfl (by decide) (by decide) rfl (by decide) (q0 := 25) (ci := 3) rfl rfl [25, 26, 15, 16] (by decide) rfl (fun _ => rfl) (fun _ => [(ad 11, co 1 [vi 1, .ref (ad 12), .ref (ad 13)]), (ad 12, cq D 5 (qf [some (ad 14), some (ad 16), some (ad 18), some (ad 20), some (ad 22)])), (ad 13, cq D 5 (qf [some (ad 24), some (ad 26), some (ad 28), some (ad 30), some (ad 32)])), (ad 14, co 3 [.ref (ad 15)]), (ad 15, ca D 6 (hp 0)), (ad 16, co 3 [.ref (ad 17)]), (ad 17, ca D 6 (hp 1)), (ad 18, co 3 [.ref (ad 19)]), (ad 19, ca D 6 (hp 2)), (ad 20, co 3 [.ref (ad 21)]), (ad 21, ca D 6 (hp 3)), (ad 22, co 3 [.ref (ad 23)]), (ad 23, ca D 6 (hp 4)), (ad 24, co 3 [.ref (ad 25)]), (ad 25, ca D 6 (hs 0)), (ad 26, co 3 [.ref (ad 27)]), (ad 27, ca D 6 (hs 1)), (ad 28, co 3 [.ref (ad 29)]), (ad 29, ca D 6 (hs 2)), (ad 30, co 3 [.ref (ad 31)]), (ad 31, ca D 6 (hs 3)), (ad 32, co 3 [.ref (ad 33)]), (ad 33, ca D 6 (hs 4)), (ad 5, co 3 [.ref (ad 6)]), (ad 6, ca D 6 (hp 1)), (ad 7, co 3 [.ref (ad 8)]), (ad 8, ca D 6 (hs 1))]) (fun _ => rfl) 43 rfl (fun _ _ => ?_)
    show G X D A 3 Q 0 0 43 [(0, .ref (ad 11)), (1, .ref (ad 5)), (2, .ref (ad 7))] [] [(ad 11, co 1 [vi 1, .ref (ad 12), .ref (ad 13)]), (ad 12, cq D 5 (qf [some (ad 14), some (ad 16), some (ad 18), some (ad 20), some (ad 22)])), (ad 13, cq D 5 (qf [some (ad 24), some (ad 26), some (ad 28), some (ad 30), some (ad 32)])), (ad 14, co 3 [.ref (ad 15)]), (ad 15, ca D 6 (hp 0)), (ad 16, co 3 [.ref (ad 17)]), (ad 17, ca D 6 (hp 1)), (ad 18, co 3 [.ref (ad 19)]), (ad 19, ca D 6 (hp 2)), (ad 20, co 3 [.ref (ad 21)]), (ad 21, ca D 6 (hp 3)), (ad 22, co 3 [.ref (ad 23)]), (ad 23, ca D 6 (hp 4)), (ad 24, co 3 [.ref (ad 25)]), (ad 25, ca D 6 (hs 0)), (ad 26, co 3 [.ref (ad 27)]), (ad 27, ca D 6 (hs 1)), (ad 28, co 3 [.ref (ad 29)]), (ad 29, ca D 6 (hs 2)), (ad 30, co 3 [.ref (ad 31)]), (ad 31, ca D 6 (hs 3)), (ad 32, co 3 [.ref (ad 33)]), (ad 33, ca D 6 (hs 4)), (ad 5, co 3 [.ref (ad 6)]), (ad 6, ca D 6 (hp 1)), (ad 7, co 3 [.ref (ad 8)]), (ad 8, ca D 6 (hs 1))]
    exact g_vret O hQ dX1_restore_43 () rfl rfl trivial ⟨by decide, by decide⟩
  · skip
    refine g_aload_n O dX1_restore_0 1 0 rfl rfl ?_
    refine g_get O dX1_restore_1 4 rfl fX1_restore_9 0 rfl rfl ?_
    refine g_if_le O dX1_restore_4 7 43 rfl rfl (by omega) (fun h => absurd h (by decide)) (fun _ => ?_)
    refine g_aload_n O dX1_restore_7 8 0 rfl rfl ?_
    refine g_dup O dX1_restore_8 9 rfl rfl ?_
    refine g_get O dX1_restore_9 12 rfl fX1_restore_9 0 rfl rfl ?_
    refine g_iconst O dX1_restore_12 13 rfl ?_
    refine g_isub O dX1_restore_13 14 rfl ?_
    refine g_put O dX1_restore_14 17 rfl fX1_restore_9 pF1_0 0 rfl rfl rfl (Nat.le_of_ble_eq_true rfl) [(ad 11, co 1 [vi 2, .ref (ad 12), .ref (ad 13)]), (ad 12, cq D 5 (qf [some (ad 14), some (ad 16), some (ad 18), some (ad 20), some (ad 22)])), (ad 13, cq D 5 (qf [some (ad 24), some (ad 26), some (ad 28), some (ad 30), some (ad 32)])), (ad 14, co 3 [.ref (ad 15)]), (ad 15, ca D 6 (hp 0)), (ad 16, co 3 [.ref (ad 17)]), (ad 17, ca D 6 (hp 1)), (ad 18, co 3 [.ref (ad 19)]), (ad 19, ca D 6 (hp 2)), (ad 20, co 3 [.ref (ad 21)]), (ad 21, ca D 6 (hp 3)), (ad 22, co 3 [.ref (ad 23)]), (ad 23, ca D 6 (hp 4)), (ad 24, co 3 [.ref (ad 25)]), (ad 25, ca D 6 (hs 0)), (ad 26, co 3 [.ref (ad 27)]), (ad 27, ca D 6 (hs 1)), (ad 28, co 3 [.ref (ad 29)]), (ad 29, ca D 6 (hs 2)), (ad 30, co 3 [.ref (ad 31)]), (ad 31, ca D 6 (hs 3)), (ad 32, co 3 [.ref (ad 33)]), (ad 33, ca D 6 (hs 4)), (ad 5, co 3 [.ref (ad 6)]), (ad 6, ca D 6 pr), (ad 7, co 3 [.ref (ad 8)]), (ad 8, ca D 6 sv)] rfl ?_
    refine g_aload_n O dX1_restore_17 18 1 rfl rfl ?_
    refine g_aload_n O dX1_restore_18 19 0 rfl rfl ?_
    refine g_get O dX1_restore_19 22 rfl fX1_restore_17 0 rfl rfl ?_
    refine g_aload_n O dX1_restore_22 23 0 rfl rfl ?_
    refine g_get O dX1_restore_23 26 rfl fX1_restore_9 0 rfl rfl ?_
    refine g_aald O dX1_restore_26 27 rfl 1 rfl (by decide) (by decide) (ad 18) rfl ?_
    refine g_callV (As := [.ref (ad 18)]) (rest := []) (na := 1) O (k_X3_copyFrom D (ad 5) (ad 6) (ad 18) (ad 19) pr (hp 2)) dX1_restore_27 gX1_restore_X3_copyFrom rfl ⟨rfl, rfl⟩ (by decide +kernel) rfl (by decide) (by decide) rfl (by decide) (q0 := 23) (ci := 3) rfl rfl [23, 24, 7, 8] (by decide) rfl (fun _ => rfl) (fun _ => [(ad 11, co 1 [vi 2, .ref (ad 12), .ref (ad 13)]), (ad 12, cq D 5 (qf [some (ad 14), some (ad 16), some (ad 18), some (ad 20), some (ad 22)])), (ad 13, cq D 5 (qf [some (ad 24), some (ad 26), some (ad 28), some (ad 30), some (ad 32)])), (ad 14, co 3 [.ref (ad 15)]), (ad 15, ca D 6 (hp 0)), (ad 16, co 3 [.ref (ad 17)]), (ad 17, ca D 6 (hp 1)), (ad 18, co 3 [.ref (ad 19)]), (ad 19, ca D 6 (hp 2)), (ad 20, co 3 [.ref (ad 21)]), (ad 21, ca D 6 (hp 3)), (ad 22, co 3 [.ref (ad 23)]), (ad 23, ca D 6 (hp 4)), (ad 24, co 3 [.ref (ad 25)]), (ad 25, ca D 6 (hs 0)), (ad 26, co 3 [.ref (ad 27)]), (ad 27, ca D 6 (hs 1)), (ad 28, co 3 [.ref (ad 29)]), (ad 29, ca D 6 (hs 2)), (ad 30, co 3 [.ref (ad 31)]), (ad 31, ca D 6 (hs 3)), (ad 32, co 3 [.ref (ad 33)]), (ad 33, ca D 6 (hs 4)), (ad 5, co 3 [.ref (ad 6)]), (ad 6, ca D 6 (hp 2)), (ad 7, co 3 [.ref (ad 8)]), (ad 8, ca D 6 sv)]) (fun _ => rfl) 30 rfl (fun _ _ => ?_)
    show G X D A 3 Q 0 0 30 [(0, .ref (ad 11)), (1, .ref (ad 5)), (2, .ref (ad 7))] [] [(ad 11, co 1 [vi 2, .ref (ad 12), .ref (ad 13)]), (ad 12, cq D 5 (qf [some (ad 14), some (ad 16), some (ad 18), some (ad 20), some (ad 22)])), (ad 13, cq D 5 (qf [some (ad 24), some (ad 26), some (ad 28), some (ad 30), some (ad 32)])), (ad 14, co 3 [.ref (ad 15)]), (ad 15, ca D 6 (hp 0)), (ad 16, co 3 [.ref (ad 17)]), (ad 17, ca D 6 (hp 1)), (ad 18, co 3 [.ref (ad 19)]), (ad 19, ca D 6 (hp 2)), (ad 20, co 3 [.ref (ad 21)]), (ad 21, ca D 6 (hp 3)), (ad 22, co 3 [.ref (ad 23)]), (ad 23, ca D 6 (hp 4)), (ad 24, co 3 [.ref (ad 25)]), (ad 25, ca D 6 (hs 0)), (ad 26, co 3 [.ref (ad 27)]), (ad 27, ca D 6 (hs 1)), (ad 28, co 3 [.ref (ad 29)]), (ad 29, ca D 6 (hs 2)), (ad 30, co 3 [.ref (ad 31)]), (ad 31, ca D 6 (hs 3)), (ad 32, co 3 [.ref (ad 33)]), (ad 33, ca D 6 (hs 4)), (ad 5, co 3 [.ref (ad 6)]), (ad 6, ca D 6 (hp 2)), (ad 7, co 3 [.ref (ad 8)]), (ad 8, ca D 6 sv)]
    refine g_aload_n O dX1_restore_30 31 2 rfl rfl ?_
    refine g_aload_n O dX1_restore_31 32 0 rfl rfl ?_
    refine g_get O dX1_restore_32 35 rfl fX1_restore_21 0 rfl rfl ?_
    refine g_aload_n O dX1_restore_35 36 0 rfl rfl ?_
    refine g_get O dX1_restore_36 39 rfl fX1_restore_9 0 rfl rfl ?_
    refine g_aald O dX1_restore_39 40 rfl 2 rfl (by decide) (by decide) (ad 28) rfl ?_
    refine g_callV (As := [.ref (ad 28)]) (rest := []) (na := 1) O (k_X3_copyFrom D (ad 7) (ad 8) (ad 28) (ad 29) sv (hs 2)) dX1_restore_40 gX1_restore_X3_copyFrom rfl ⟨rfl, rfl⟩ (by decide +kernel) rfl (by decide) (by decide) rfl (by decide) (q0 := 25) (ci := 3) rfl rfl [25, 26, 17, 18] (by decide) rfl (fun _ => rfl) (fun _ => [(ad 11, co 1 [vi 2, .ref (ad 12), .ref (ad 13)]), (ad 12, cq D 5 (qf [some (ad 14), some (ad 16), some (ad 18), some (ad 20), some (ad 22)])), (ad 13, cq D 5 (qf [some (ad 24), some (ad 26), some (ad 28), some (ad 30), some (ad 32)])), (ad 14, co 3 [.ref (ad 15)]), (ad 15, ca D 6 (hp 0)), (ad 16, co 3 [.ref (ad 17)]), (ad 17, ca D 6 (hp 1)), (ad 18, co 3 [.ref (ad 19)]), (ad 19, ca D 6 (hp 2)), (ad 20, co 3 [.ref (ad 21)]), (ad 21, ca D 6 (hp 3)), (ad 22, co 3 [.ref (ad 23)]), (ad 23, ca D 6 (hp 4)), (ad 24, co 3 [.ref (ad 25)]), (ad 25, ca D 6 (hs 0)), (ad 26, co 3 [.ref (ad 27)]), (ad 27, ca D 6 (hs 1)), (ad 28, co 3 [.ref (ad 29)]), (ad 29, ca D 6 (hs 2)), (ad 30, co 3 [.ref (ad 31)]), (ad 31, ca D 6 (hs 3)), (ad 32, co 3 [.ref (ad 33)]), (ad 33, ca D 6 (hs 4)), (ad 5, co 3 [.ref (ad 6)]), (ad 6, ca D 6 (hp 2)), (ad 7, co 3 [.ref (ad 8)]), (ad 8, ca D 6 (hs 2))]) (fun _ => rfl) 43 rfl (fun _ _ => ?_)
    show G X D A 3 Q 0 0 43 [(0, .ref (ad 11)), (1, .ref (ad 5)), (2, .ref (ad 7))] [] [(ad 11, co 1 [vi 2, .ref (ad 12), .ref (ad 13)]), (ad 12, cq D 5 (qf [some (ad 14), some (ad 16), some (ad 18), some (ad 20), some (ad 22)])), (ad 13, cq D 5 (qf [some (ad 24), some (ad 26), some (ad 28), some (ad 30), some (ad 32)])), (ad 14, co 3 [.ref (ad 15)]), (ad 15, ca D 6 (hp 0)), (ad 16, co 3 [.ref (ad 17)]), (ad 17, ca D 6 (hp 1)), (ad 18, co 3 [.ref (ad 19)]), (ad 19, ca D 6 (hp 2)), (ad 20, co 3 [.ref (ad 21)]), (ad 21, ca D 6 (hp 3)), (ad 22, co 3 [.ref (ad 23)]), (ad 23, ca D 6 (hp 4)), (ad 24, co 3 [.ref (ad 25)]), (ad 25, ca D 6 (hs 0)), (ad 26, co 3 [.ref (ad 27)]), (ad 27, ca D 6 (hs 1)), (ad 28, co 3 [.ref (ad 29)]), (ad 29, ca D 6 (hs 2)), (ad 30, co 3 [.ref (ad 31)]), (ad 31, ca D 6 (hs 3)), (ad 32, co 3 [.ref (ad 33)]), (ad 33, ca D 6 (hs 4)), (ad 5, co 3 [.ref (ad 6)]), (ad 6, ca D 6 (hp 2)), (ad 7, co 3 [.ref (ad 8)]), (ad 8, ca D 6 (hs 2))]
    exact g_vret O hQ dX1_restore_43 () rfl rfl trivial ⟨by decide, by decide⟩
  · skip
    refine g_aload_n O dX1_restore_0 1 0 rfl rfl ?_
    refine g_get O dX1_restore_1 4 rfl fX1_restore_9 0 rfl rfl ?_
    refine g_if_le O dX1_restore_4 7 43 rfl rfl (by omega) (fun h => absurd h (by decide)) (fun _ => ?_)
    refine g_aload_n O dX1_restore_7 8 0 rfl rfl ?_
    refine g_dup O dX1_restore_8 9 rfl rfl ?_
    refine g_get O dX1_restore_9 12 rfl fX1_restore_9 0 rfl rfl ?_
    refine g_iconst O dX1_restore_12 13 rfl ?_
    refine g_isub O dX1_restore_13 14 rfl ?_
    refine g_put O dX1_restore_14 17 rfl fX1_restore_9 pF1_0 0 rfl rfl rfl (Nat.le_of_ble_eq_true rfl) [(ad 11, co 1 [vi 3, .ref (ad 12), .ref (ad 13)]), (ad 12, cq D 5 (qf [some (ad 14), some (ad 16), some (ad 18), some (ad 20), some (ad 22)])), (ad 13, cq D 5 (qf [some (ad 24), some (ad 26), some (ad 28), some (ad 30), some (ad 32)])), (ad 14, co 3 [.ref (ad 15)]), (ad 15, ca D 6 (hp 0)), (ad 16, co 3 [.ref (ad 17)]), (ad 17, ca D 6 (hp 1)), (ad 18, co 3 [.ref (ad 19)]), (ad 19, ca D 6 (hp 2)), (ad 20, co 3 [.ref (ad 21)]), (ad 21, ca D 6 (hp 3)), (ad 22, co 3 [.ref (ad 23)]), (ad 23, ca D 6 (hp 4)), (ad 24, co 3 [.ref (ad 25)]), (ad 25, ca D 6 (hs 0)), (ad 26, co 3 [.ref (ad 27)]), (ad 27, ca D 6 (hs 1)), (ad 28, co 3 [.ref (ad 29)]), (ad 29, ca D 6 (hs 2)), (ad 30, co 3 [.ref (ad 31)]), (ad 31, ca D 6 (hs 3)), (ad 32, co 3 [.ref (ad 33)]), (ad 33, ca D 6 (hs 4)), (ad 5, co 3 [.ref (ad 6)]), (ad 6, ca D 6 pr), (ad 7, co 3 [.ref (ad 8)]), (ad 8, ca D 6 sv)] rfl ?_
    refine g_aload_n O dX1_restore_17 18 1 rfl rfl ?_
    refine g_aload_n O dX1_restore_18 19 0 rfl rfl ?_
    refine g_get O dX1_restore_19 22 rfl fX1_restore_17 0 rfl rfl ?_
    refine g_aload_n O dX1_restore_22 23 0 rfl rfl ?_
    refine g_get O dX1_restore_23 26 rfl fX1_restore_9 0 rfl rfl ?_
    refine g_aald O dX1_restore_26 27 rfl 1 rfl (by decide) (by decide) (ad 20) rfl ?_
    refine g_callV (As := [.ref (ad 20)]) (rest := []) (na := 1) O (k_X3_copyFrom D (ad 5) (ad 6) (ad 20) (ad 21) pr (hp 3)) dX1_restore_27 gX1_restore_X3_copyFrom rfl ⟨rfl, rfl⟩ (by decide +kernel) rfl (by decide) (by decide) rfl (by decide) (q0 := 23) (ci := 3) rfl rfl [23, 24, 9, 10] (by decide) rfl (fun _ => rfl) (fun _ => [(ad 11, co 1 [vi 3, .ref (ad 12), .ref (ad 13)]), (ad 12, cq D 5 (qf [some (ad 14), some (ad 16), some (ad 18), some (ad 20), some (ad 22)])), (ad 13, cq D 5 (qf [some (ad 24), some (ad 26), some (ad 28), some (ad 30), some (ad 32)])), (ad 14, co 3 [.ref (ad 15)]), (ad 15, ca D 6 (hp 0)), (ad 16, co 3 [.ref (ad 17)]), (ad 17, ca D 6 (hp 1)), (ad 18, co 3 [.ref (ad 19)]), (ad 19, ca D 6 (hp 2)), (ad 20, co 3 [.ref (ad 21)]), (ad 21, ca D 6 (hp 3)), (ad 22, co 3 [.ref (ad 23)]), (ad 23, ca D 6 (hp 4)), (ad 24, co 3 [.ref (ad 25)]), (ad 25, ca D 6 (hs 0)), (ad 26, co 3 [.ref (ad 27)]), (ad 27, ca D 6 (hs 1)), (ad 28, co 3 [.ref (ad 29)]), (ad 29, ca D 6 (hs 2)), (ad 30, co 3 [.ref (ad 31)]), (ad 31, ca D 6 (hs 3)), (ad 32, co 3 [.ref (ad 33)]), (ad 33, ca D 6 (hs 4)), (ad 5, co 3 [.ref (ad 6)]), (ad 6, ca D 6 (hp 3)), (ad 7, co 3 [.ref (ad 8)]), (ad 8, ca D 6 sv)]) (fun _ => rfl) 30 rfl (fun _ _ => ?_)
    show G X D A 3 Q 0 0 30 [(0, .ref (ad 11)), (1, .ref (ad 5)), (2, .ref (ad 7))] [] [(ad 11, co 1 [vi 3, .ref (ad 12), .ref (ad 13)]), (ad 12, cq D 5 (qf [some (ad 14), some (ad 16), some (ad 18), some (ad 20), some (ad 22)])), (ad 13, cq D 5 (qf [some (ad 24), some (ad 26), some (ad 28), some (ad 30), some (ad 32)])), (ad 14, co 3 [.ref (ad 15)]), (ad 15, ca D 6 (hp 0)), (ad 16, co 3 [.ref (ad 17)]), (ad 17, ca D 6 (hp 1)), (ad 18, co 3 [.ref (ad 19)]), (ad 19, ca D 6 (hp 2)), (ad 20, co 3 [.ref (ad 21)]), (ad 21, ca D 6 (hp 3)), (ad 22, co 3 [.ref (ad 23)]), (ad 23, ca D 6 (hp 4)), (ad 24, co 3 [.ref (ad 25)]), (ad 25, ca D 6 (hs 0)), (ad 26, co 3 [.ref (ad 27)]), (ad 27, ca D 6 (hs 1)), (ad 28, co 3 [.ref (ad 29)]), (ad 29, ca D 6 (hs 2)), (ad 30, co 3 [.ref (ad 31)]), (ad 31, ca D 6 (hs 3)), (ad 32, co 3 [.ref (ad 33)]), (ad 33, ca D 6 (hs 4)), (ad 5, co 3 [.ref (ad 6)]), (ad 6, ca D 6 (hp 3)), (ad 7, co 3 [.ref (ad 8)]), (ad 8, ca D 6 sv)]
    refine g_aload_n O dX1_restore_30 31 2 rfl rfl ?_
    refine g_aload_n O dX1_restore_31 32 0 rfl rfl ?_
    refine g_get O dX1_restore_32 35 rfl fX1_restore_21 0 rfl rfl ?_
    refine g_aload_n O dX1_restore_35 36 0 rfl rfl ?_
    refine g_get O dX1_restore_36 39 rfl fX1_restore_9 0 rfl rfl ?_
    refine g_aald O dX1_restore_39 40 rfl 2 rfl (by decide) (by decide) (ad 30) rfl ?_
    refine g_callV (As := [.ref (ad 30)]) (rest := []) (na := 1) O (k_X3_copyFrom D (ad 7) (ad 8) (ad 30) (ad 31) sv (hs 3)) dX1_restore_40 gX1_restore_X3_copyFrom rfl ⟨rfl, rfl⟩ (by decide +kernel) rfl (by decide) (by decide) rfl (by decide) (q0 := 25) (ci := 3) rfl rfl [25, 26, 19, 20] (by decide) rfl (fun _ => rfl) (fun _ => [(ad 11, co 1 [vi 3, .ref (ad 12), .ref (ad 13)]), (ad 12, cq D 5 (qf [some (ad 14), some (ad 16), some (ad 18), some (ad 20), some (ad 22)])), (ad 13, cq D 5 (qf [some (ad 24), some (ad 26), some (ad 28), some (ad 30), some (ad 32)])), (ad 14, co 3 [.ref (ad 15)]), (ad 15, ca D 6 (hp 0)), (ad 16, co 3 [.ref (ad 17)]), (ad 17, ca D 6 (hp 1)), (ad 18, co 3 [.ref (ad 19)]), (ad 19, ca D 6 (hp 2)), (ad 20, co 3 [.ref (ad 21)]), (ad 21, ca D 6 (hp 3)), (ad 22, co 3 [.ref (ad 23)]), (ad 23, ca D 6 (hp 4)), (ad 24, co 3 [.ref (ad 25)]), (ad 25, ca D 6 (hs 0)), (ad 26, co 3 [.ref (ad 27)]), (ad 27, ca D 6 (hs 1)), (ad 28, co 3 [.ref (ad 29)]), (ad 29, ca D 6 (hs 2)), (ad 30, co 3 [.ref (ad 31)]), (ad 31, ca D 6 (hs 3)), (ad 32, co 3 [.ref (ad 33)]), (ad 33, ca D 6 (hs 4)), (ad 5, co 3 [.ref (ad 6)]), (ad 6, ca D 6 (hp 3)), (ad 7, co 3 [.ref (ad 8)]), (ad 8, ca D 6 (hs 3))]) (fun _ => rfl) 43 rfl (fun _ _ => ?_)
    show G X D A 3 Q 0 0 43 [(0, .ref (ad 11)), (1, .ref (ad 5)), (2, .ref (ad 7))] [] [(ad 11, co 1 [vi 3, .ref (ad 12), .ref (ad 13)]), (ad 12, cq D 5 (qf [some (ad 14), some (ad 16), some (ad 18), some (ad 20), some (ad 22)])), (ad 13, cq D 5 (qf [some (ad 24), some (ad 26), some (ad 28), some (ad 30), some (ad 32)])), (ad 14, co 3 [.ref (ad 15)]), (ad 15, ca D 6 (hp 0)), (ad 16, co 3 [.ref (ad 17)]), (ad 17, ca D 6 (hp 1)), (ad 18, co 3 [.ref (ad 19)]), (ad 19, ca D 6 (hp 2)), (ad 20, co 3 [.ref (ad 21)]), (ad 21, ca D 6 (hp 3)), (ad 22, co 3 [.ref (ad 23)]), (ad 23, ca D 6 (hp 4)), (ad 24, co 3 [.ref (ad 25)]), (ad 25, ca D 6 (hs 0)), (ad 26, co 3 [.ref (ad 27)]), (ad 27, ca D 6 (hs 1)), (ad 28, co 3 [.ref (ad 29)]), (ad 29, ca D 6 (hs 2)), (ad 30, co 3 [.ref (ad 31)]), (ad 31, ca D 6 (hs 3)), (ad 32, co 3 [.ref (ad 33)]), (ad 33, ca D 6 (hs 4)), (ad 5, co 3 [.ref (ad 6)]), (ad 6, ca D 6 (hp 3)), (ad 7, co 3 [.ref (ad 8)]), (ad 8, ca D 6 (hs 3))]
    exact g_vret O hQ dX1_restore_43 () rfl rfl trivial ⟨by decide, by decide⟩
  · skip
    refine g_aload_n O dX1_restore_0 1 0 rfl rfl ?_
    refine g_get O dX1_restore_1 4 rfl fX1_restore_9 0 rfl rfl ?_
    refine g_if_le O dX1_restore_4 7 43 rfl rfl (by omega) (fun h => absurd h (by decide)) (fun _ => ?_)
    refine g_aload_n O dX1_restore_7 8 0 rfl rfl ?_
    refine g_dup O dX1_restore_8 9 rfl rfl ?_
    refine g_get O dX1_restore_9 12 rfl fX1_restore_9 0 rfl rfl ?_
    refine g_iconst O dX1_restore_12 13 rfl ?_
    refine g_isub O dX1_restore_13 14 rfl ?_
    refine g_put O dX1_restore_14 17 rfl fX1_restore_9 pF1_0 0 rfl rfl rfl (Nat.le_of_ble_eq_true rfl) [(ad 11, co 1 [vi 4, .ref (ad 12), .ref (ad 13)]), (ad 12, cq D 5 (qf [some (ad 14), some (ad 16), some (ad 18), some (ad 20), some (ad 22)])), (ad 13, cq D 5 (qf [some (ad 24), some (ad 26), some (ad 28), some (ad 30), some (ad 32)])), (ad 14, co 3 [.ref (ad 15)]), (ad 15, ca D 6 (hp 0)), (ad 16, co 3 [.ref (ad 17)]), (ad 17, ca D 6 (hp 1)), (ad 18, co 3 [.ref (ad 19)]), (ad 19, ca D 6 (hp 2)), (ad 20, co 3 [.ref (ad 21)]), (ad 21, ca D 6 (hp 3)), (ad 22, co 3 [.ref (ad 23)]), (ad 23, ca D 6 (hp 4)), (ad 24, co 3 [.ref (ad 25)]), (ad 25, ca D 6 (hs 0)), (ad 26, co 3 [.ref (ad 27)]), (ad 27, ca D 6 (hs 1)), (ad 28, co 3 [.ref (ad 29)]), (ad 29, ca D 6 (hs 2)), (ad 30, co 3 [.ref (ad 31)]), (ad 31, ca D 6 (hs 3)), (ad 32, co 3 [.ref (ad 33)]), (ad 33, ca D 6 (hs 4)), (ad 5, co 3 [.ref (ad 6)]), (ad 6, ca D 6 pr), (ad 7, co 3 [.ref (ad 8)]), (ad 8, ca D 6 sv)] rfl ?_
    refine g_aload_n O dX1_restore_17 18 1 rfl rfl ?_
    refine g_aload_n O dX1_restore_18 19 0 rfl rfl ?_
    refine g_get O dX1_restore_19 22 rfl fX1_restore_17 0 rfl rfl ?_
    refine g_aload_n O dX1_restore_22 23 0 rfl rfl ?_
    refine g_get O dX1_restore_23 26 rfl fX1_restore_9 0 rfl rfl ?_
    refine g_aald O dX1_restore_26 27 rfl 1 rfl (by decide) (by decide) (ad 22) rfl ?_
    refine g_callV (As := [.ref (ad 22)]) (rest := []) (na := 1) O (k_X3_copyFrom D (ad 5) (ad 6) (ad 22) (ad 23) pr (hp 4)) dX1_restore_27 gX1_restore_X3_copyFrom rfl ⟨rfl, rfl⟩ (by decide +kernel) rfl (by decide) (by decide) rfl (by decide) (q0 := 23) (ci := 3) rfl rfl [23, 24, 11, 12] (by decide) rfl (fun _ => rfl) (fun _ => [(ad 11, co 1 [vi 4, .ref (ad 12), .ref (ad 13)]), (ad 12, cq D 5 (qf [some (ad 14), some (ad 16), some (ad 18), some (ad 20), some (ad 22)])), (ad 13, cq D 5 (qf [some (ad 24), some (ad 26), some (ad 28), some (ad 30), some (ad 32)])), (ad 14, co 3 [.ref (ad 15)]), (ad 15, ca D 6 (hp 0)), (ad 16, co 3 [.ref (ad 17)]), (ad 17, ca D 6 (hp 1)), (ad 18, co 3 [.ref (ad 19)]), (ad 19, ca D 6 (hp 2)), (ad 20, co 3 [.ref (ad 21)]), (ad 21, ca D 6 (hp 3)), (ad 22, co 3 [.ref (ad 23)]), (ad 23, ca D 6 (hp 4)), (ad 24, co 3 [.ref (ad 25)]), (ad 25, ca D 6 (hs 0)), (ad 26, co 3 [.ref (ad 27)]), (ad 27, ca D 6 (hs 1)), (ad 28, co 3 [.ref (ad 29)]), (ad 29, ca D 6 (hs 2)), (ad 30, co 3 [.ref (ad 31)]), (ad 31, ca D 6 (hs 3)), (ad 32, co 3 [.ref (ad 33)]), (ad 33, ca D 6 (hs 4)), (ad 5, co 3 [.ref (ad 6)]), (ad 6, ca D 6 (hp 4)), (ad 7, co 3 [.ref (ad 8)]), (ad 8, ca D 6 sv)]) (fun _ => rfl) 30 rfl (fun _ _ => ?_)
    show G X D A 3 Q 0 0 30 [(0, .ref (ad 11)), (1, .ref (ad 5)), (2, .ref (ad 7))] [] [(ad 11, co 1 [vi 4, .ref (ad 12), .ref (ad 13)]), (ad 12, cq D 5 (qf [some (ad 14), some (ad 16), some (ad 18), some (ad 20), some (ad 22)])), (ad 13, cq D 5 (qf [some (ad 24), some (ad 26), some (ad 28), some (ad 30), some (ad 32)])), (ad 14, co 3 [.ref (ad 15)]), (ad 15, ca D 6 (hp 0)), (ad 16, co 3 [.ref (ad 17)]), (ad 17, ca D 6 (hp 1)), (ad 18, co 3 [.ref (ad 19)]), (ad 19, ca D 6 (hp 2)), (ad 20, co 3 [.ref (ad 21)]), (ad 21, ca D 6 (hp 3)), (ad 22, co 3 [.ref (ad 23)]), (ad 23, ca D 6 (hp 4)), (ad 24, co 3 [.ref (ad 25)]), (ad 25, ca D 6 (hs 0)), (ad 26, co 3 [.ref (ad 27)]), (ad 27, ca D 6 (hs 1)), (ad 28, co 3 [.ref (ad 29)]), (ad 29, ca D 6 (hs 2)), (ad 30, co 3 [.ref (ad 31)]), (ad 31, ca D 6 (hs 3)), (ad 32, co 3 [.ref (ad 33)]), (ad 33, ca D 6 (hs 4)), (ad 5, co 3 [.ref (ad 6)]), (ad 6, ca D 6 (hp 4)), (ad 7, co 3 [.ref (ad 8)]), (ad 8, ca D 6 sv)]
    refine g_aload_n O dX1_restore_30 31 2 rfl rfl ?_
    refine g_aload_n O dX1_restore_31 32 0 rfl rfl ?_
    refine g_get O dX1_restore_32 35 rfl fX1_restore_21 0 rfl rfl ?_
    refine g_aload_n O dX1_restore_35 36 0 rfl rfl ?_
    refine g_get O dX1_restore_36 39 rfl fX1_restore_9 0 rfl rfl ?_
    refine g_aald O dX1_restore_39 40 rfl 2 rfl (by decide) (by decide) (ad 32) rfl ?_
    refine g_callV (As := [.ref (ad 32)]) (rest := []) (na := 1) O (k_X3_copyFrom D (ad 7) (ad 8) (ad 32) (ad 33) sv (hs 4)) dX1_restore_40 gX1_restore_X3_copyFrom rfl ⟨rfl, rfl⟩ (by decide +kernel) rfl (by decide) (by decide) rfl (by decide) (q0 := 25) (ci := 3) rfl rfl [25, 26, 21, 22] (by decide) rfl (fun _ => rfl) (fun _ => [(ad 11, co 1 [vi 4, .ref (ad 12), .ref (ad 13)]), (ad 12, cq D 5 (qf [some (ad 14), some (ad 16), some (ad 18), some (ad 20), some (ad 22)])), (ad 13, cq D 5 (qf [some (ad 24), some (ad 26), some (ad 28), some (ad 30), some (ad 32)])), (ad 14, co 3 [.ref (ad 15)]), (ad 15, ca D 6 (hp 0)), (ad 16, co 3 [.ref (ad 17)]), (ad 17, ca D 6 (hp 1)), (ad 18, co 3 [.ref (ad 19)]), (ad 19, ca D 6 (hp 2)), (ad 20, co 3 [.ref (ad 21)]), (ad 21, ca D 6 (hp 3)), (ad 22, co 3 [.ref (ad 23)]), (ad 23, ca D 6 (hp 4)), (ad 24, co 3 [.ref (ad 25)]), (ad 25, ca D 6 (hs 0)), (ad 26, co 3 [.ref (ad 27)]), (ad 27, ca D 6 (hs 1)), (ad 28, co 3 [.ref (ad 29)]), (ad 29, ca D 6 (hs 2)), (ad 30, co 3 [.ref (ad 31)]), (ad 31, ca D 6 (hs 3)), (ad 32, co 3 [.ref (ad 33)]), (ad 33, ca D 6 (hs 4)), (ad 5, co 3 [.ref (ad 6)]), (ad 6, ca D 6 (hp 4)), (ad 7, co 3 [.ref (ad 8)]), (ad 8, ca D 6 (hs 4))]) (fun _ => rfl) 43 rfl (fun _ _ => ?_)
    show G X D A 3 Q 0 0 43 [(0, .ref (ad 11)), (1, .ref (ad 5)), (2, .ref (ad 7))] [] [(ad 11, co 1 [vi 4, .ref (ad 12), .ref (ad 13)]), (ad 12, cq D 5 (qf [some (ad 14), some (ad 16), some (ad 18), some (ad 20), some (ad 22)])), (ad 13, cq D 5 (qf [some (ad 24), some (ad 26), some (ad 28), some (ad 30), some (ad 32)])), (ad 14, co 3 [.ref (ad 15)]), (ad 15, ca D 6 (hp 0)), (ad 16, co 3 [.ref (ad 17)]), (ad 17, ca D 6 (hp 1)), (ad 18, co 3 [.ref (ad 19)]), (ad 19, ca D 6 (hp 2)), (ad 20, co 3 [.ref (ad 21)]), (ad 21, ca D 6 (hp 3)), (ad 22, co 3 [.ref (ad 23)]), (ad 23, ca D 6 (hp 4)), (ad 24, co 3 [.ref (ad 25)]), (ad 25, ca D 6 (hs 0)), (ad 26, co 3 [.ref (ad 27)]), (ad 27, ca D 6 (hs 1)), (ad 28, co 3 [.ref (ad 29)]), (ad 29, ca D 6 (hs 2)), (ad 30, co 3 [.ref (ad 31)]), (ad 31, ca D 6 (hs 3)), (ad 32, co 3 [.ref (ad 33)]), (ad 33, ca D 6 (hs 4)), (ad 5, co 3 [.ref (ad 6)]), (ad 6, ca D 6 (hp 4)), (ad 7, co 3 [.ref (ad 8)]), (ad 8, ca D 6 (hs 4))]
    exact g_vret O hQ dX1_restore_43 () rfl rfl trivial ⟨by decide, by decide⟩
end
