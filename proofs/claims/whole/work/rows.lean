section
-- ===== PART A: goes FIRST, ahead of the names: the tables' words, and 'selects' of the private methods out of them =====
/-- a private method of a class that the tables say can be made, by its rows of tables_1 -/
def lw_okq (q : MethodName × Nat) : Prop := (q.1.cls ≠ "java/lang/invoke/MethodHandle" ∧ q.1.cls ≠ "java/lang/invoke/VarHandle") ∧ Cond.instantiable q.1.cls q.2 ∈ tables_1 ∧ Cond.privateMethod q.1 ∈ tables_1 ∧ Cond.instanceMethod q.1 ∈ tables_1
theorem lw_p0 : lw_okq (⟨"PopularMatchings", "forgetMatchings", "()V"⟩, 7) := ⟨⟨by decide +kernel, by decide +kernel⟩, List.mem_of_getElem? (i := 10) (by decide +kernel), List.mem_of_getElem? (i := 160) (by decide +kernel), List.mem_of_getElem? (i := 161) (by decide +kernel)⟩
theorem lw_p1 : lw_okq (⟨"PopularMatchings$History", "dropOldest", "()V"⟩, 3) := ⟨⟨by decide +kernel, by decide +kernel⟩, List.mem_of_getElem? (i := 72) (by decide +kernel), List.mem_of_getElem? (i := 243) (by decide +kernel), List.mem_of_getElem? (i := 244) (by decide +kernel)⟩
theorem lw_p2 : lw_okq (⟨"PopularMatchings$ChallengerSearch", "letChoose", "(LPopularMatchings$Instance;III)V"⟩, 2) := ⟨⟨by decide +kernel, by decide +kernel⟩, List.mem_of_getElem? (i := 92) (by decide +kernel), List.mem_of_getElem? (i := 276) (by decide +kernel), List.mem_of_getElem? (i := 277) (by decide +kernel)⟩
theorem lw_p3 : lw_okq (⟨"PopularMatchings$ChallengerSearch", "raise", "(II)V"⟩, 2) := ⟨⟨by decide +kernel, by decide +kernel⟩, List.mem_of_getElem? (i := 92) (by decide +kernel), List.mem_of_getElem? (i := 286) (by decide +kernel), List.mem_of_getElem? (i := 287) (by decide +kernel)⟩
theorem lw_p4 : lw_okq (⟨"PopularMatchings", "adoptDraft", "()I"⟩, 7) := ⟨⟨by decide +kernel, by decide +kernel⟩, List.mem_of_getElem? (i := 10) (by decide +kernel), List.mem_of_getElem? (i := 327) (by decide +kernel), List.mem_of_getElem? (i := 328) (by decide +kernel)⟩
theorem lw_p5 : lw_okq (⟨"PopularMatchings$PopularSearch", "prepare", "(LPopularMatchings$Instance;)V"⟩, 7) := ⟨⟨by decide +kernel, by decide +kernel⟩, List.mem_of_getElem? (i := 105) (by decide +kernel), List.mem_of_getElem? (i := 339) (by decide +kernel), List.mem_of_getElem? (i := 340) (by decide +kernel)⟩
theorem lw_p6 : lw_okq (⟨"PopularMatchings$PopularSearch", "isPopular", "(LPopularMatchings$Instance;I)Z"⟩, 7) := ⟨⟨by decide +kernel, by decide +kernel⟩, List.mem_of_getElem? (i := 105) (by decide +kernel), List.mem_of_getElem? (i := 349) (by decide +kernel), List.mem_of_getElem? (i := 350) (by decide +kernel)⟩
theorem lw_p7 : lw_okq (⟨"PopularMatchings$PopularSearch", "postIn", "(LPopularMatchings$Instance;II)I"⟩, 7) := ⟨⟨by decide +kernel, by decide +kernel⟩, List.mem_of_getElem? (i := 105) (by decide +kernel), List.mem_of_getElem? (i := 356) (by decide +kernel), List.mem_of_getElem? (i := 357) (by decide +kernel)⟩
theorem lw_p8 : lw_okq (⟨"PopularMatchings$PopularSearch", "count", "(II)V"⟩, 7) := ⟨⟨by decide +kernel, by decide +kernel⟩, List.mem_of_getElem? (i := 105) (by decide +kernel), List.mem_of_getElem? (i := 360) (by decide +kernel), List.mem_of_getElem? (i := 361) (by decide +kernel)⟩
theorem lw_p9 : lw_okq (⟨"PopularMatchings", "mostPreferredFree", "(I)I"⟩, 7) := ⟨⟨by decide +kernel, by decide +kernel⟩, List.mem_of_getElem? (i := 10) (by decide +kernel), List.mem_of_getElem? (i := 382) (by decide +kernel), List.mem_of_getElem? (i := 383) (by decide +kernel)⟩
theorem lw_p10 : lw_okq (⟨"PopularMatchingsModel", "builds", "(II)V"⟩, 10) := ⟨⟨by decide +kernel, by decide +kernel⟩, List.mem_of_getElem? (i := 394) (by decide +kernel), List.mem_of_getElem? (i := 400) (by decide +kernel), List.mem_of_getElem? (i := 401) (by decide +kernel)⟩
theorem lw_p11 : lw_okq (⟨"PopularMatchingsModel", "clears", "()V"⟩, 10) := ⟨⟨by decide +kernel, by decide +kernel⟩, List.mem_of_getElem? (i := 394) (by decide +kernel), List.mem_of_getElem? (i := 404) (by decide +kernel), List.mem_of_getElem? (i := 405) (by decide +kernel)⟩
theorem lw_p12 : lw_okq (⟨"PopularMatchingsModel", "isPost", "(I)Z"⟩, 10) := ⟨⟨by decide +kernel, by decide +kernel⟩, List.mem_of_getElem? (i := 394) (by decide +kernel), List.mem_of_getElem? (i := 450) (by decide +kernel), List.mem_of_getElem? (i := 451) (by decide +kernel)⟩
theorem lw_p13 : lw_okq (⟨"PopularMatchingsModel", "isApplicant", "(I)Z"⟩, 10) := ⟨⟨by decide +kernel, by decide +kernel⟩, List.mem_of_getElem? (i := 394) (by decide +kernel), List.mem_of_getElem? (i := 458) (by decide +kernel), List.mem_of_getElem? (i := 459) (by decide +kernel)⟩
theorem lw_p14 : lw_okq (⟨"PopularMatchingsModel", "rank", "(II)I"⟩, 10) := ⟨⟨by decide +kernel, by decide +kernel⟩, List.mem_of_getElem? (i := 394) (by decide +kernel), List.mem_of_getElem? (i := 462) (by decide +kernel), List.mem_of_getElem? (i := 463) (by decide +kernel)⟩
theorem lw_p15 : lw_okq (⟨"PopularMatchingsModel", "first", "(I)I"⟩, 10) := ⟨⟨by decide +kernel, by decide +kernel⟩, List.mem_of_getElem? (i := 394) (by decide +kernel), List.mem_of_getElem? (i := 478) (by decide +kernel), List.mem_of_getElem? (i := 479) (by decide +kernel)⟩
def lw_privs_1 : List (MethodName × Nat) := [(⟨"PopularMatchings", "forgetMatchings", "()V"⟩, 7), (⟨"PopularMatchings$History", "dropOldest", "()V"⟩, 3), (⟨"PopularMatchings$ChallengerSearch", "letChoose", "(LPopularMatchings$Instance;III)V"⟩, 2), (⟨"PopularMatchings$ChallengerSearch", "raise", "(II)V"⟩, 2), (⟨"PopularMatchings", "adoptDraft", "()I"⟩, 7), (⟨"PopularMatchings$PopularSearch", "prepare", "(LPopularMatchings$Instance;)V"⟩, 7), (⟨"PopularMatchings$PopularSearch", "isPopular", "(LPopularMatchings$Instance;I)Z"⟩, 7), (⟨"PopularMatchings$PopularSearch", "postIn", "(LPopularMatchings$Instance;II)I"⟩, 7), (⟨"PopularMatchings$PopularSearch", "count", "(II)V"⟩, 7), (⟨"PopularMatchings", "mostPreferredFree", "(I)I"⟩, 7), (⟨"PopularMatchingsModel", "builds", "(II)V"⟩, 10), (⟨"PopularMatchingsModel", "clears", "()V"⟩, 10), (⟨"PopularMatchingsModel", "isPost", "(I)Z"⟩, 10), (⟨"PopularMatchingsModel", "isApplicant", "(I)Z"⟩, 10), (⟨"PopularMatchingsModel", "rank", "(II)I"⟩, 10), (⟨"PopularMatchingsModel", "first", "(I)I"⟩, 10)]
theorem lw_r1 : ∀ q ∈ lw_privs_1, lw_okq q := List.forall_mem_cons.mpr ⟨lw_p0, List.forall_mem_cons.mpr ⟨lw_p1, List.forall_mem_cons.mpr ⟨lw_p2, List.forall_mem_cons.mpr ⟨lw_p3, List.forall_mem_cons.mpr ⟨lw_p4, List.forall_mem_cons.mpr ⟨lw_p5, List.forall_mem_cons.mpr ⟨lw_p6, List.forall_mem_cons.mpr ⟨lw_p7, List.forall_mem_cons.mpr ⟨lw_p8, List.forall_mem_cons.mpr ⟨lw_p9, List.forall_mem_cons.mpr ⟨lw_p10, List.forall_mem_cons.mpr ⟨lw_p11, List.forall_mem_cons.mpr ⟨lw_p12, List.forall_mem_cons.mpr ⟨lw_p13, List.forall_mem_cons.mpr ⟨lw_p14, List.forall_mem_cons.mpr ⟨lw_p15, fun _ h => absurd h List.not_mem_nil⟩⟩⟩⟩⟩⟩⟩⟩⟩⟩⟩⟩⟩⟩⟩⟩
theorem lw_p16 : lw_okq (⟨"PopularMatchingsModel", "second", "(I)I"⟩, 10) := ⟨⟨by decide +kernel, by decide +kernel⟩, List.mem_of_getElem? (i := 394) (by decide +kernel), List.mem_of_getElem? (i := 486) (by decide +kernel), List.mem_of_getElem? (i := 487) (by decide +kernel)⟩
theorem lw_p17 : lw_okq (⟨"PopularMatchingsModel", "firsts", "(I)I"⟩, 10) := ⟨⟨by decide +kernel, by decide +kernel⟩, List.mem_of_getElem? (i := 394) (by decide +kernel), List.mem_of_getElem? (i := 490) (by decide +kernel), List.mem_of_getElem? (i := 491) (by decide +kernel)⟩
theorem lw_p18 : lw_okq (⟨"PopularMatchingsModel", "edit", "()V"⟩, 10) := ⟨⟨by decide +kernel, by decide +kernel⟩, List.mem_of_getElem? (i := 394) (by decide +kernel), List.mem_of_getElem? (i := 502) (by decide +kernel), List.mem_of_getElem? (i := 503) (by decide +kernel)⟩
theorem lw_p19 : lw_okq (⟨"PopularMatchingsModel", "margin", "(Z)I"⟩, 10) := ⟨⟨by decide +kernel, by decide +kernel⟩, List.mem_of_getElem? (i := 394) (by decide +kernel), List.mem_of_getElem? (i := 518) (by decide +kernel), List.mem_of_getElem? (i := 519) (by decide +kernel)⟩
theorem lw_p20 : lw_okq (⟨"PopularMatchingsModel", "gives", "(IIIZ)I"⟩, 10) := ⟨⟨by decide +kernel, by decide +kernel⟩, List.mem_of_getElem? (i := 394) (by decide +kernel), List.mem_of_getElem? (i := 522) (by decide +kernel), List.mem_of_getElem? (i := 523) (by decide +kernel)⟩
theorem lw_p21 : lw_okq (⟨"PopularMatchingsModel", "vote", "(III)I"⟩, 10) := ⟨⟨by decide +kernel, by decide +kernel⟩, List.mem_of_getElem? (i := 394) (by decide +kernel), List.mem_of_getElem? (i := 526) (by decide +kernel), List.mem_of_getElem? (i := 527) (by decide +kernel)⟩
theorem lw_p22 : lw_okq (⟨"PopularMatchingsModel", "challenges", "()I"⟩, 10) := ⟨⟨by decide +kernel, by decide +kernel⟩, List.mem_of_getElem? (i := 394) (by decide +kernel), List.mem_of_getElem? (i := 557) (by decide +kernel), List.mem_of_getElem? (i := 558) (by decide +kernel)⟩
theorem lw_p23 : lw_okq (⟨"PopularMatchingsModel", "takes", "()V"⟩, 10) := ⟨⟨by decide +kernel, by decide +kernel⟩, List.mem_of_getElem? (i := 394) (by decide +kernel), List.mem_of_getElem? (i := 565) (by decide +kernel), List.mem_of_getElem? (i := 566) (by decide +kernel)⟩
theorem lw_p24 : lw_okq (⟨"PopularMatchingsModel", "lays", "(I)Z"⟩, 10) := ⟨⟨by decide +kernel, by decide +kernel⟩, List.mem_of_getElem? (i := 394) (by decide +kernel), List.mem_of_getElem? (i := 573) (by decide +kernel), List.mem_of_getElem? (i := 574) (by decide +kernel)⟩
theorem lw_p25 : lw_okq (⟨"PopularMatchingsModel", "sizeOf", "()I"⟩, 10) := ⟨⟨by decide +kernel, by decide +kernel⟩, List.mem_of_getElem? (i := 394) (by decide +kernel), List.mem_of_getElem? (i := 581) (by decide +kernel), List.mem_of_getElem? (i := 582) (by decide +kernel)⟩
theorem lw_p26 : lw_okq (⟨"PopularMatchingsModel", "code", "()I"⟩, 10) := ⟨⟨by decide +kernel, by decide +kernel⟩, List.mem_of_getElem? (i := 394) (by decide +kernel), List.mem_of_getElem? (i := 591) (by decide +kernel), List.mem_of_getElem? (i := 592) (by decide +kernel)⟩
def lw_privs_2 : List (MethodName × Nat) := [(⟨"PopularMatchingsModel", "second", "(I)I"⟩, 10), (⟨"PopularMatchingsModel", "firsts", "(I)I"⟩, 10), (⟨"PopularMatchingsModel", "edit", "()V"⟩, 10), (⟨"PopularMatchingsModel", "margin", "(Z)I"⟩, 10), (⟨"PopularMatchingsModel", "gives", "(IIIZ)I"⟩, 10), (⟨"PopularMatchingsModel", "vote", "(III)I"⟩, 10), (⟨"PopularMatchingsModel", "challenges", "()I"⟩, 10), (⟨"PopularMatchingsModel", "takes", "()V"⟩, 10), (⟨"PopularMatchingsModel", "lays", "(I)Z"⟩, 10), (⟨"PopularMatchingsModel", "sizeOf", "()I"⟩, 10), (⟨"PopularMatchingsModel", "code", "()I"⟩, 10)]
theorem lw_r2 : ∀ q ∈ lw_privs_2, lw_okq q := List.forall_mem_cons.mpr ⟨lw_p16, List.forall_mem_cons.mpr ⟨lw_p17, List.forall_mem_cons.mpr ⟨lw_p18, List.forall_mem_cons.mpr ⟨lw_p19, List.forall_mem_cons.mpr ⟨lw_p20, List.forall_mem_cons.mpr ⟨lw_p21, List.forall_mem_cons.mpr ⟨lw_p22, List.forall_mem_cons.mpr ⟨lw_p23, List.forall_mem_cons.mpr ⟨lw_p24, List.forall_mem_cons.mpr ⟨lw_p25, List.forall_mem_cons.mpr ⟨lw_p26, fun _ h => absurd h List.not_mem_nil⟩⟩⟩⟩⟩⟩⟩⟩⟩⟩⟩
def lw_privs : List (MethodName × Nat) := lw_privs_1 ++ (lw_privs_2)
def lw_tbl : List Cond := k2_sels lw_privs ++ tables_1
theorem lw_privs_ok : ∀ q ∈ lw_privs, lw_okq q := by
  show ∀ q ∈ lw_privs_1 ++ (lw_privs_2), lw_okq q
  exact List.forall_mem_append.mpr ⟨lw_r1, lw_r2⟩
-- ===== end of PART A
end
section
/-! ===== BEGIN words of one list among another's, by their places ===== -/
theorem goodIn_r {big : List Cond} (ws : List Cond) (ps : List Nat) (hp : ws = ps.filterMap (fun i => big[i]?)) (h : ws.all goodWord = true) : GoodIn big ws := by
  intro w hw
  have h1 := List.all_eq_true.mp h w hw
  rw [hp] at hw
  obtain ⟨i, -, hi⟩ := List.mem_filterMap.mp hw
  have hm : w ∈ big := by first | exact List.mem_of_getElem? hi | exact List.getElem?_mem hi
  exact ⟨hm, good_of_word h1⟩
theorem goodIn_app {big a b : List Cond} (ha : GoodIn big a) (hb : GoodIn big b) : GoodIn big (a ++ b) := fun w h => (List.mem_append.mp h).elim (ha w) (hb w)
theorem goodIn_ca {big a b : List Cond} {c : Cond} (ha : GoodIn big (c :: a)) (hb : GoodIn big b) : GoodIn big (c :: (a ++ b)) := fun w h => (List.mem_cons.mp h).elim (fun e => ha w (List.mem_cons.mpr (Or.inl e))) (fun h => (List.mem_append.mp h).elim (fun h => ha w (List.mem_cons.mpr (Or.inr h))) (hb w))
theorem goodIn_sub {big ws : List Cond} (hm : ∀ w ∈ ws, w ∈ big) (h : ws.all goodWord = true) : GoodIn big ws := fun w hw => ⟨hm w hw, good_of_word (List.all_eq_true.mp h w hw)⟩
/-! ===== END ===== -/

/-! ===== BEGIN printed: names, fields, word lists, decode rows ===== -/
def RX0 : String := "PopularMatchings$ChallengerSearch"
def TX0 : u_T := fun k => match k with
  | 0 => ("PopularMatchings$ChallengerSearch", "placed", "[I", true)
  | _ => ("PopularMatchings$ChallengerSearch", "best", "[I", true)
def tyX0 : Nat → FieldType := fun k => match k with
  | 0 => .array .int
  | _ => .array .int
abbrev wsX00 : List Cond := u_ws RX0 TX0 2
theorem nmX0 : ∀ a, a < 2 → ∀ b, b < 2 → a ≠ b → (TX0 a).2.1 ≠ (TX0 b).2.1 := by decide +kernel
theorem tyX0_ok : ∀ k, k < 2 → parseFieldDescriptor (TX0 k).2.2.1 = some (tyX0 k) := by decide +kernel
abbrev cX0_init : ByteArray := prog_2_method_1_code
def yX0_init : MethodName := ⟨RX0, "<init>", "()V"⟩
abbrev cX0_marginIn : ByteArray := prog_2_method_2_code
def yX0_marginIn : MethodName := ⟨RX0, "marginIn", "(I)I"⟩
abbrev cX0_postIn : ByteArray := prog_2_method_3_code
def yX0_postIn : MethodName := ⟨RX0, "postIn", "(II)I"⟩
abbrev cX0_placeShift : ByteArray := prog_2_method_4_code
def yX0_placeShift : MethodName := ⟨RX0, "placeShift", "(I)I"⟩
abbrev cX0_bestKey : ByteArray := prog_2_method_5_code
def yX0_bestKey : MethodName := ⟨RX0, "bestKey", "(LPopularMatchings$Instance;LPopularMatchings$Matching;Z)I"⟩
abbrev cX0_letChoose : ByteArray := prog_2_method_6_code
def yX0_letChoose : MethodName := ⟨RX0, "letChoose", "(LPopularMatchings$Instance;III)V"⟩
abbrev cX0_raise : ByteArray := prog_2_method_7_code
def yX0_raise : MethodName := ⟨RX0, "raise", "(II)V"⟩
def RX1 : String := "PopularMatchings$History"
def TX1 : u_T := fun k => match k with
  | 0 => ("PopularMatchings$History", "count", "I", false)
  | 1 => ("PopularMatchings$History", "presents", "[LPopularMatchings$Matching;", true)
  | _ => ("PopularMatchings$History", "saveds", "[LPopularMatchings$Matching;", true)
def tyX1 : Nat → FieldType := fun k => match k with
  | 0 => .int
  | 1 => .array (.object "PopularMatchings$Matching")
  | _ => .array (.object "PopularMatchings$Matching")
abbrev wsX10 : List Cond := u_ws RX1 TX1 3
theorem nmX1 : ∀ a, a < 3 → ∀ b, b < 3 → a ≠ b → (TX1 a).2.1 ≠ (TX1 b).2.1 := by decide +kernel
theorem tyX1_ok : ∀ k, k < 3 → parseFieldDescriptor (TX1 k).2.2.1 = some (tyX1 k) := by decide +kernel
abbrev cX1_init : ByteArray := prog_3_method_1_code
def yX1_init : MethodName := ⟨RX1, "<init>", "()V"⟩
abbrev cX1_forget : ByteArray := prog_3_method_2_code
def yX1_forget : MethodName := ⟨RX1, "forget", "()V"⟩
abbrev cX1_remember : ByteArray := prog_3_method_3_code
def yX1_remember : MethodName := ⟨RX1, "remember", "(LPopularMatchings$Matching;LPopularMatchings$Matching;)V"⟩
abbrev cX1_restore : ByteArray := prog_3_method_4_code
def yX1_restore : MethodName := ⟨RX1, "restore", "(LPopularMatchings$Matching;LPopularMatchings$Matching;)V"⟩
abbrev cX1_dropOldest : ByteArray := prog_3_method_5_code
def yX1_dropOldest : MethodName := ⟨RX1, "dropOldest", "()V"⟩
def RX2 : String := "PopularMatchings$Instance"
def TX2 : u_T := fun k => match k with
  | 0 => ("PopularMatchings$Instance", "applicants", "I", false)
  | 1 => ("PopularMatchings$Instance", "posts", "I", false)
  | 2 => ("PopularMatchings$Instance", "capacities", "[I", true)
  | 3 => ("PopularMatchings$Instance", "lengths", "[I", true)
  | _ => ("PopularMatchings$Instance", "lists", "[I", true)
def tyX2 : Nat → FieldType := fun k => match k with
  | 0 => .int
  | 1 => .int
  | 2 => .array .int
  | 3 => .array .int
  | _ => .array .int
abbrev wsX20 : List Cond := u_ws RX2 TX2 5
theorem nmX2 : ∀ a, a < 5 → ∀ b, b < 5 → a ≠ b → (TX2 a).2.1 ≠ (TX2 b).2.1 := by decide +kernel
theorem tyX2_ok : ∀ k, k < 5 → parseFieldDescriptor (TX2 k).2.2.1 = some (tyX2 k) := by decide +kernel
abbrev cX2_init : ByteArray := prog_4_method_1_code
def yX2_init : MethodName := ⟨RX2, "<init>", "()V"⟩
abbrev cX2_startAnew : ByteArray := prog_4_method_2_code
def yX2_startAnew : MethodName := ⟨RX2, "startAnew", "(II)V"⟩
abbrev cX2_isApplicant : ByteArray := prog_4_method_3_code
def yX2_isApplicant : MethodName := ⟨RX2, "isApplicant", "(I)Z"⟩
abbrev cX2_isPost : ByteArray := prog_4_method_4_code
def yX2_isPost : MethodName := ⟨RX2, "isPost", "(I)Z"⟩
abbrev cX2_listed : ByteArray := prog_4_method_5_code
def yX2_listed : MethodName := ⟨RX2, "listed", "(II)I"⟩
abbrev cX2_isListed : ByteArray := prog_4_method_6_code
def yX2_isListed : MethodName := ⟨RX2, "isListed", "(II)Z"⟩
abbrev cX2_append : ByteArray := prog_4_method_7_code
def yX2_append : MethodName := ⟨RX2, "append", "(II)I"⟩
abbrev cX2_rankOf : ByteArray := prog_4_method_8_code
def yX2_rankOf : MethodName := ⟨RX2, "rankOf", "(II)I"⟩
abbrev cX2_vote : ByteArray := prog_4_method_9_code
def yX2_vote : MethodName := ⟨RX2, "vote", "(II)I"⟩
abbrev cX2_firstOf : ByteArray := prog_4_method_10_code
def yX2_firstOf : MethodName := ⟨RX2, "firstOf", "(I)I"⟩
abbrev cX2_secondOf : ByteArray := prog_4_method_11_code
def yX2_secondOf : MethodName := ⟨RX2, "secondOf", "(I)I"⟩
abbrev cX2_countFirst : ByteArray := prog_4_method_12_code
def yX2_countFirst : MethodName := ⟨RX2, "countFirst", "(I)I"⟩
def RX3 : String := "PopularMatchings$Matching"
def TX3 : u_T := fun k => match k with
  | _ => ("PopularMatchings$Matching", "posts", "[I", true)
def tyX3 : Nat → FieldType := fun k => match k with
  | _ => .array .int
abbrev wsX30 : List Cond := u_ws RX3 TX3 1
theorem nmX3 : ∀ a, a < 1 → ∀ b, b < 1 → a ≠ b → (TX3 a).2.1 ≠ (TX3 b).2.1 := by decide +kernel
theorem tyX3_ok : ∀ k, k < 1 → parseFieldDescriptor (TX3 k).2.2.1 = some (tyX3 k) := by decide +kernel
abbrev cX3_init : ByteArray := prog_5_method_1_code
def yX3_init : MethodName := ⟨RX3, "<init>", "()V"⟩
abbrev cX3_clear : ByteArray := prog_5_method_2_code
def yX3_clear : MethodName := ⟨RX3, "clear", "()V"⟩
abbrev cX3_copyFrom : ByteArray := prog_5_method_3_code
def yX3_copyFrom : MethodName := ⟨RX3, "copyFrom", "(LPopularMatchings$Matching;)V"⟩
abbrev cX3_countPlaced : ByteArray := prog_5_method_4_code
def yX3_countPlaced : MethodName := ⟨RX3, "countPlaced", "()I"⟩
abbrev cX3_othersAt : ByteArray := prog_5_method_5_code
def yX3_othersAt : MethodName := ⟨RX3, "othersAt", "(II)I"⟩
def RX4 : String := "PopularMatchings$PopularSearch"
def TX4 : u_T := fun k => match k with
  | 0 => ("PopularMatchings$PopularSearch", "firsts", "[I", true)
  | 1 => ("PopularMatchings$PopularSearch", "lower", "[I", true)
  | 2 => ("PopularMatchings$PopularSearch", "higher", "[I", true)
  | 3 => ("PopularMatchings$PopularSearch", "wanted", "[I", true)
  | 4 => ("PopularMatchings$PopularSearch", "held", "[I", true)
  | 5 => ("PopularMatchings$PopularSearch", "heldAsFirst", "[I", true)
  | _ => ("PopularMatchings$PopularSearch", "found", "[I", true)
def tyX4 : Nat → FieldType := fun k => match k with
  | 0 => .array .int
  | 1 => .array .int
  | 2 => .array .int
  | 3 => .array .int
  | 4 => .array .int
  | 5 => .array .int
  | _ => .array .int
abbrev wsX40 : List Cond := u_ws RX4 TX4 7
theorem nmX4 : ∀ a, a < 7 → ∀ b, b < 7 → a ≠ b → (TX4 a).2.1 ≠ (TX4 b).2.1 := by decide +kernel
theorem tyX4_ok : ∀ k, k < 7 → parseFieldDescriptor (TX4 k).2.2.1 = some (tyX4 k) := by decide +kernel
abbrev cX4_init : ByteArray := prog_6_method_1_code
def yX4_init : MethodName := ⟨RX4, "<init>", "()V"⟩
abbrev cX4_collect : ByteArray := prog_6_method_2_code
def yX4_collect : MethodName := ⟨RX4, "collect", "(LPopularMatchings$Instance;)I"⟩
abbrev cX4_write : ByteArray := prog_6_method_3_code
def yX4_write : MethodName := ⟨RX4, "write", "(LPopularMatchings$Instance;ILPopularMatchings$Matching;)V"⟩
abbrev cX4_prepare : ByteArray := prog_6_method_4_code
def yX4_prepare : MethodName := ⟨RX4, "prepare", "(LPopularMatchings$Instance;)V"⟩
abbrev cX4_postIn : ByteArray := prog_6_method_5_code
def yX4_postIn : MethodName := ⟨RX4, "postIn", "(LPopularMatchings$Instance;II)I"⟩
abbrev cX4_takesHigher : ByteArray := prog_6_method_6_code
def yX4_takesHigher : MethodName := ⟨RX4, "takesHigher", "(LPopularMatchings$Instance;II)Z"⟩
abbrev cX4_isPopular : ByteArray := prog_6_method_7_code
def yX4_isPopular : MethodName := ⟨RX4, "isPopular", "(LPopularMatchings$Instance;I)Z"⟩
abbrev cX4_count : ByteArray := prog_6_method_8_code
def yX4_count : MethodName := ⟨RX4, "count", "(II)V"⟩
def RX5 : String := "PopularMatchings"
def TX5 : u_T := fun k => match k with
  | 0 => ("PopularMatchings", "instance", "LPopularMatchings$Instance;", true)
  | 1 => ("PopularMatchings", "present", "LPopularMatchings$Matching;", true)
  | 2 => ("PopularMatchings", "saved", "LPopularMatchings$Matching;", true)
  | 3 => ("PopularMatchings", "draft", "LPopularMatchings$Matching;", true)
  | 4 => ("PopularMatchings", "history", "LPopularMatchings$History;", true)
  | 5 => ("PopularMatchings", "challengers", "LPopularMatchings$ChallengerSearch;", true)
  | _ => ("PopularMatchings", "populars", "LPopularMatchings$PopularSearch;", true)
def tyX5 : Nat → FieldType := fun k => match k with
  | 0 => .object "PopularMatchings$Instance"
  | 1 => .object "PopularMatchings$Matching"
  | 2 => .object "PopularMatchings$Matching"
  | 3 => .object "PopularMatchings$Matching"
  | 4 => .object "PopularMatchings$History"
  | 5 => .object "PopularMatchings$ChallengerSearch"
  | _ => .object "PopularMatchings$PopularSearch"
abbrev wsX50 : List Cond := u_ws RX5 TX5 7
theorem nmX5 : ∀ a, a < 7 → ∀ b, b < 7 → a ≠ b → (TX5 a).2.1 ≠ (TX5 b).2.1 := by decide +kernel
theorem tyX5_ok : ∀ k, k < 7 → parseFieldDescriptor (TX5 k).2.2.1 = some (tyX5 k) := by decide +kernel
abbrev cX5_init : ByteArray := prog_1_method_1_code
def yX5_init : MethodName := ⟨RX5, "<init>", "()V"⟩
abbrev cX5_reset : ByteArray := prog_1_method_2_code
def yX5_reset : MethodName := ⟨RX5, "reset", "(II)I"⟩
abbrev cX5_setCapacity : ByteArray := prog_1_method_3_code
def yX5_setCapacity : MethodName := ⟨RX5, "setCapacity", "(II)I"⟩
abbrev cX5_appendPreference : ByteArray := prog_1_method_4_code
def yX5_appendPreference : MethodName := ⟨RX5, "appendPreference", "(II)I"⟩
abbrev cX5_clearPreferences : ByteArray := prog_1_method_5_code
def yX5_clearPreferences : MethodName := ⟨RX5, "clearPreferences", "(I)I"⟩
abbrev cX5_preferenceAt : ByteArray := prog_1_method_6_code
def yX5_preferenceAt : MethodName := ⟨RX5, "preferenceAt", "(II)I"⟩
abbrev cX5_firstPost : ByteArray := prog_1_method_7_code
def yX5_firstPost : MethodName := ⟨RX5, "firstPost", "(I)I"⟩
abbrev cX5_secondPost : ByteArray := prog_1_method_8_code
def yX5_secondPost : MethodName := ⟨RX5, "secondPost", "(I)I"⟩
abbrev cX5_assign : ByteArray := prog_1_method_9_code
def yX5_assign : MethodName := ⟨RX5, "assign", "(II)I"⟩
abbrev cX5_postOf : ByteArray := prog_1_method_10_code
def yX5_postOf : MethodName := ⟨RX5, "postOf", "(I)I"⟩
abbrev cX5_size : ByteArray := prog_1_method_11_code
def yX5_size : MethodName := ⟨RX5, "size", "()I"⟩
abbrev cX5_isParetoOptimal : ByteArray := prog_1_method_12_code
def yX5_isParetoOptimal : MethodName := ⟨RX5, "isParetoOptimal", "()I"⟩
abbrev cX5_save : ByteArray := prog_1_method_13_code
def yX5_save : MethodName := ⟨RX5, "save", "()I"⟩
abbrev cX5_swapSaved : ByteArray := prog_1_method_14_code
def yX5_swapSaved : MethodName := ⟨RX5, "swapSaved", "()I"⟩
abbrev cX5_marginOverSaved : ByteArray := prog_1_method_15_code
def yX5_marginOverSaved : MethodName := ⟨RX5, "marginOverSaved", "()I"⟩
abbrev cX5_unpopularityMargin : ByteArray := prog_1_method_16_code
def yX5_unpopularityMargin : MethodName := ⟨RX5, "unpopularityMargin", "()I"⟩
abbrev cX5_challengerPost : ByteArray := prog_1_method_17_code
def yX5_challengerPost : MethodName := ⟨RX5, "challengerPost", "(I)I"⟩
abbrev cX5_adoptChallenger : ByteArray := prog_1_method_18_code
def yX5_adoptChallenger : MethodName := ⟨RX5, "adoptChallenger", "()I"⟩
abbrev cX5_popularCount : ByteArray := prog_1_method_19_code
def yX5_popularCount : MethodName := ⟨RX5, "popularCount", "()I"⟩
abbrev cX5_greatestPopularSize : ByteArray := prog_1_method_20_code
def yX5_greatestPopularSize : MethodName := ⟨RX5, "greatestPopularSize", "()I"⟩
abbrev cX5_adoptPopular : ByteArray := prog_1_method_21_code
def yX5_adoptPopular : MethodName := ⟨RX5, "adoptPopular", "(I)I"⟩
abbrev cX5_adoptSerial : ByteArray := prog_1_method_22_code
def yX5_adoptSerial : MethodName := ⟨RX5, "adoptSerial", "(I)I"⟩
abbrev cX5_undo : ByteArray := prog_1_method_23_code
def yX5_undo : MethodName := ⟨RX5, "undo", "()I"⟩
abbrev cX5_forgetMatchings : ByteArray := prog_1_method_24_code
def yX5_forgetMatchings : MethodName := ⟨RX5, "forgetMatchings", "()V"⟩
abbrev cX5_adoptDraft : ByteArray := prog_1_method_25_code
def yX5_adoptDraft : MethodName := ⟨RX5, "adoptDraft", "()I"⟩
abbrev cX5_mostPreferredFree : ByteArray := prog_1_method_26_code
def yX5_mostPreferredFree : MethodName := ⟨RX5, "mostPreferredFree", "(I)I"⟩
def RX6 : String := "PopularMatchingsModel"
def TX6 : u_T := fun k => match k with
  | 0 => ("PopularMatchingsModel", "applicants", "I", false)
  | 1 => ("PopularMatchingsModel", "posts", "I", false)
  | 2 => ("PopularMatchingsModel", "capacity", "[I", true)
  | 3 => ("PopularMatchingsModel", "length", "[I", true)
  | 4 => ("PopularMatchingsModel", "list", "[I", true)
  | 5 => ("PopularMatchingsModel", "now", "[I", true)
  | 6 => ("PopularMatchingsModel", "history", "[I", true)
  | 7 => ("PopularMatchingsModel", "edits", "I", false)
  | 8 => ("PopularMatchingsModel", "best", "[I", true)
  | _ => ("PopularMatchingsModel", "found", "[I", true)
def tyX6 : Nat → FieldType := fun k => match k with
  | 0 => .int
  | 1 => .int
  | 2 => .array .int
  | 3 => .array .int
  | 4 => .array .int
  | 5 => .array .int
  | 6 => .array .int
  | 7 => .int
  | 8 => .array .int
  | _ => .array .int
abbrev wsX60 : List Cond := u_ws RX6 TX6 10
theorem nmX6 : ∀ a, a < 10 → ∀ b, b < 10 → a ≠ b → (TX6 a).2.1 ≠ (TX6 b).2.1 := by decide +kernel
theorem tyX6_ok : ∀ k, k < 10 → parseFieldDescriptor (TX6 k).2.2.1 = some (tyX6 k) := by decide +kernel
abbrev cX6_init : ByteArray := prog_8_method_1_code
def yX6_init : MethodName := ⟨RX6, "<init>", "()V"⟩
abbrev cX6_builds : ByteArray := prog_8_method_2_code
def yX6_builds : MethodName := ⟨RX6, "builds", "(II)V"⟩
abbrev cX6_clears : ByteArray := prog_8_method_3_code
def yX6_clears : MethodName := ⟨RX6, "clears", "()V"⟩
abbrev cX6_in : ByteArray := prog_8_method_4_code
def yX6_in : MethodName := ⟨RX6, "in", "(III)Z"⟩
abbrev cX6_isApplicant : ByteArray := prog_8_method_5_code
def yX6_isApplicant : MethodName := ⟨RX6, "isApplicant", "(I)Z"⟩
abbrev cX6_isPost : ByteArray := prog_8_method_6_code
def yX6_isPost : MethodName := ⟨RX6, "isPost", "(I)Z"⟩
abbrev cX6_reset : ByteArray := prog_8_method_7_code
def yX6_reset : MethodName := ⟨RX6, "reset", "(II)I"⟩
abbrev cX6_setCapacity : ByteArray := prog_8_method_8_code
def yX6_setCapacity : MethodName := ⟨RX6, "setCapacity", "(II)I"⟩
abbrev cX6_rank : ByteArray := prog_8_method_9_code
def yX6_rank : MethodName := ⟨RX6, "rank", "(II)I"⟩
abbrev cX6_appendPreference : ByteArray := prog_8_method_10_code
def yX6_appendPreference : MethodName := ⟨RX6, "appendPreference", "(II)I"⟩
abbrev cX6_clearPreferences : ByteArray := prog_8_method_11_code
def yX6_clearPreferences : MethodName := ⟨RX6, "clearPreferences", "(I)I"⟩
abbrev cX6_preferenceAt : ByteArray := prog_8_method_12_code
def yX6_preferenceAt : MethodName := ⟨RX6, "preferenceAt", "(II)I"⟩
abbrev cX6_first : ByteArray := prog_8_method_13_code
def yX6_first : MethodName := ⟨RX6, "first", "(I)I"⟩
abbrev cX6_firsts : ByteArray := prog_8_method_14_code
def yX6_firsts : MethodName := ⟨RX6, "firsts", "(I)I"⟩
abbrev cX6_second : ByteArray := prog_8_method_15_code
def yX6_second : MethodName := ⟨RX6, "second", "(I)I"⟩
abbrev cX6_firstPost : ByteArray := prog_8_method_16_code
def yX6_firstPost : MethodName := ⟨RX6, "firstPost", "(I)I"⟩
abbrev cX6_secondPost : ByteArray := prog_8_method_17_code
def yX6_secondPost : MethodName := ⟨RX6, "secondPost", "(I)I"⟩
abbrev cX6_edit : ByteArray := prog_8_method_18_code
def yX6_edit : MethodName := ⟨RX6, "edit", "()V"⟩
abbrev cX6_undo : ByteArray := prog_8_method_19_code
def yX6_undo : MethodName := ⟨RX6, "undo", "()I"⟩
abbrev cX6_assign : ByteArray := prog_8_method_20_code
def yX6_assign : MethodName := ⟨RX6, "assign", "(II)I"⟩
abbrev cX6_postOf : ByteArray := prog_8_method_21_code
def yX6_postOf : MethodName := ⟨RX6, "postOf", "(I)I"⟩
abbrev cX6_size : ByteArray := prog_8_method_22_code
def yX6_size : MethodName := ⟨RX6, "size", "()I"⟩
abbrev cX6_vote : ByteArray := prog_8_method_23_code
def yX6_vote : MethodName := ⟨RX6, "vote", "(III)I"⟩
abbrev cX6_digit : ByteArray := prog_8_method_24_code
def yX6_digit : MethodName := ⟨RX6, "digit", "(II)I"⟩
abbrev cX6_power : ByteArray := prog_8_method_25_code
def yX6_power : MethodName := ⟨RX6, "power", "(I)I"⟩
abbrev cX6_gives : ByteArray := prog_8_method_26_code
def yX6_gives : MethodName := ⟨RX6, "gives", "(IIIZ)I"⟩
abbrev cX6_margin : ByteArray := prog_8_method_27_code
def yX6_margin : MethodName := ⟨RX6, "margin", "(Z)I"⟩
abbrev cX6_isParetoOptimal : ByteArray := prog_8_method_28_code
def yX6_isParetoOptimal : MethodName := ⟨RX6, "isParetoOptimal", "()I"⟩
abbrev cX6_save : ByteArray := prog_8_method_29_code
def yX6_save : MethodName := ⟨RX6, "save", "()I"⟩
abbrev cX6_swapSaved : ByteArray := prog_8_method_30_code
def yX6_swapSaved : MethodName := ⟨RX6, "swapSaved", "()I"⟩
abbrev cX6_marginOverSaved : ByteArray := prog_8_method_31_code
def yX6_marginOverSaved : MethodName := ⟨RX6, "marginOverSaved", "()I"⟩
abbrev cX6_unpopularityMargin : ByteArray := prog_8_method_32_code
def yX6_unpopularityMargin : MethodName := ⟨RX6, "unpopularityMargin", "()I"⟩
abbrev cX6_challenges : ByteArray := prog_8_method_33_code
def yX6_challenges : MethodName := ⟨RX6, "challenges", "()I"⟩
abbrev cX6_challengerPost : ByteArray := prog_8_method_34_code
def yX6_challengerPost : MethodName := ⟨RX6, "challengerPost", "(I)I"⟩
abbrev cX6_takes : ByteArray := prog_8_method_35_code
def yX6_takes : MethodName := ⟨RX6, "takes", "()V"⟩
abbrev cX6_adoptChallenger : ByteArray := prog_8_method_36_code
def yX6_adoptChallenger : MethodName := ⟨RX6, "adoptChallenger", "()I"⟩
abbrev cX6_lays : ByteArray := prog_8_method_37_code
def yX6_lays : MethodName := ⟨RX6, "lays", "(I)Z"⟩
abbrev cX6_sizeOf : ByteArray := prog_8_method_38_code
def yX6_sizeOf : MethodName := ⟨RX6, "sizeOf", "()I"⟩
abbrev cX6_code : ByteArray := prog_8_method_39_code
def yX6_code : MethodName := ⟨RX6, "code", "()I"⟩
abbrev cX6_popularCount : ByteArray := prog_8_method_40_code
def yX6_popularCount : MethodName := ⟨RX6, "popularCount", "()I"⟩
abbrev cX6_greatestPopularSize : ByteArray := prog_8_method_41_code
def yX6_greatestPopularSize : MethodName := ⟨RX6, "greatestPopularSize", "()I"⟩
abbrev cX6_adoptPopular : ByteArray := prog_8_method_42_code
def yX6_adoptPopular : MethodName := ⟨RX6, "adoptPopular", "(I)I"⟩
abbrev cX6_adoptSerial : ByteArray := prog_8_method_43_code
def yX6_adoptSerial : MethodName := ⟨RX6, "adoptSerial", "(I)I"⟩
def RJ9 : String := "java/lang/Math"
def TJ9 : u_T := fun k => match k with
  | _ => ("", "", "", false)
def tyJ9 : Nat → FieldType := fun k => match k with
  | _ => .int
abbrev wsJ90 : List Cond := u_ws RJ9 TJ9 0
theorem nmJ9 : ∀ a, a < 0 → ∀ b, b < 0 → a ≠ b → (TJ9 a).2.1 ≠ (TJ9 b).2.1 := by decide +kernel
theorem tyJ9_ok : ∀ k, k < 0 → parseFieldDescriptor (TJ9 k).2.2.1 = some (tyJ9 k) := by decide +kernel
abbrev cJ9_max_7cf53 : ByteArray := prog_9_method_65_code
def yJ9_max_7cf53 : MethodName := ⟨RJ9, "max", "(II)I"⟩
abbrev cJ9_min_7cf53 : ByteArray := prog_9_method_69_code
def yJ9_min_7cf53 : MethodName := ⟨RJ9, "min", "(II)I"⟩
def RL : String := "PopularMatchingsLaw"
abbrev cL_law : ByteArray := code
def yL_law : MethodName := ⟨RL, "law", "([I)Z"⟩
def wsX0_init : List Cond := .code yX0_init cX0_init 4 none :: ([.methodLink RX0 5 objectInit, .instanceMethod objectInit, .code objectInit ⟨#[0xb1]⟩ 1 none, .arrayClass .int, .fieldLink RX0 11 "PopularMatchings$ChallengerSearch" "placed" "[I", .fieldLink RX0 15 "PopularMatchings$ChallengerSearch" "best" "[I"] ++ wsX00)
def wsX0_marginIn : List Cond := .code yX0_marginIn cX0_marginIn 1 (some .int) :: ([])
def wsX0_placeShift : List Cond := .code yX0_placeShift cX0_placeShift 1 (some .int) :: ([])
def wsX0_postIn : List Cond := .code yX0_postIn cX0_postIn 4 (some .int) :: ([.constant RX0 18 (262143), .methodLink RX0 19 yX0_placeShift, .static yX0_placeShift, .initialized RX0, .code yX0_placeShift cX0_placeShift 1 (some .int)])
def wsX2_listed : List Cond := .code yX2_listed cX2_listed 3 (some .int) :: ([.fieldLink RX2 18 "PopularMatchings$Instance" "lists" "[I"] ++ wsX20)
def wsX2_rankOf : List Cond := .code yX2_rankOf cX2_rankOf 4 (some .int) :: ([.fieldLink RX2 15 "PopularMatchings$Instance" "lengths" "[I", .methodLink RX2 36 yX2_listed, .instanceMethod yX2_listed, .selects RX2 yX2_listed yX2_listed, .initialized RX2, .code yX2_listed cX2_listed 3 (some .int), .fieldLink RX2 18 "PopularMatchings$Instance" "lists" "[I"] ++ wsX20)
def wsX2_vote : List Cond := .code yX2_vote cX2_vote 2 (some .int) :: ([])
def wsX0_raise : List Cond := .code yX0_raise cX0_raise 3 none :: ([.fieldLink RX0 15 "PopularMatchings$ChallengerSearch" "best" "[I"] ++ wsX00)
def wsX0_letChoose : List Cond := .code yX0_letChoose cX0_letChoose 11 none :: ([.fieldLink RX0 23 "PopularMatchings$ChallengerSearch" "FILL_OF_POST" "[I", .fieldLink RX0 26 "PopularMatchings$Instance" "posts" "I", .fieldLink RX0 15 "PopularMatchings$ChallengerSearch" "best" "[I", .constant RX0 32 (-1073741824), .fieldLink RX0 44 "PopularMatchings$Instance" "lengths" "[I", .fieldLink RX0 11 "PopularMatchings$ChallengerSearch" "placed" "[I", .fieldLink RX0 66 "PopularMatchings$Instance" "capacities" "[I", .methodLink RX0 56 yX2_vote, .static yX2_vote, .initialized RX2, .code yX2_vote cX2_vote 2 (some .int), .methodLink RX0 19 yX0_placeShift, .static yX0_placeShift, .initialized RX0, .code yX0_placeShift cX0_placeShift 1 (some .int), .methodLink RX0 59 yX0_raise, .instanceMethod yX0_raise, .selects RX0 yX0_raise yX0_raise, .code yX0_raise cX0_raise 3 none, .methodLink RX0 63 yX2_listed, .instanceMethod yX2_listed, .selects RX2 yX2_listed yX2_listed, .code yX2_listed cX2_listed 3 (some .int), .fieldLink RX2 18 "PopularMatchings$Instance" "lists" "[I"] ++ wsX20 ++ wsX00)
def wsX0_bestKey_r1 : List Cond := [Cond.fieldLink RX0 23 "PopularMatchings$ChallengerSearch" "FILL_OF_POST" "[I", Cond.fieldLink RX0 26 "PopularMatchings$Instance" "posts" "I", Cond.fieldLink RX0 15 "PopularMatchings$ChallengerSearch" "best" "[I", Cond.constant RX0 32 (-1073741824), Cond.constant RX0 18 (262143), Cond.fieldLink RX0 33 "PopularMatchings$Instance" "applicants" "I", Cond.fieldLink RX0 36 "PopularMatchings$Matching" "posts" "[I", Cond.fieldLink RX0 44 "PopularMatchings$Instance" "lengths" "[I", Cond.methodLink RX0 51 Lib.Math.max.name, Cond.static Lib.Math.max.name, Cond.initialized "java/lang/Math", Cond.code Lib.Math.max.name Lib.Math.max.code 2 (some .int), Cond.methodLink RX0 40 yX2_rankOf, Cond.instanceMethod yX2_rankOf, Cond.selects RX2 yX2_rankOf yX2_rankOf, Cond.initialized RX2, Cond.code yX2_rankOf cX2_rankOf 4 (some .int), Cond.fieldLink RX2 15 "PopularMatchings$Instance" "lengths" "[I", Cond.methodLink RX2 36 yX2_listed, Cond.instanceMethod yX2_listed, Cond.selects RX2 yX2_listed yX2_listed, Cond.code yX2_listed cX2_listed 3 (some .int), Cond.fieldLink RX2 18 "PopularMatchings$Instance" "lists" "[I", Cond.methodLink RX0 47 yX0_letChoose]
def wsX0_bestKey_r2 : List Cond := [Cond.instanceMethod yX0_letChoose, Cond.selects RX0 yX0_letChoose yX0_letChoose, Cond.initialized RX0, Cond.code yX0_letChoose cX0_letChoose 11 none, Cond.fieldLink RX0 11 "PopularMatchings$ChallengerSearch" "placed" "[I", Cond.fieldLink RX0 66 "PopularMatchings$Instance" "capacities" "[I", Cond.methodLink RX0 56 yX2_vote, Cond.static yX2_vote, Cond.code yX2_vote cX2_vote 2 (some .int), Cond.methodLink RX0 19 yX0_placeShift, Cond.static yX0_placeShift, Cond.code yX0_placeShift cX0_placeShift 1 (some .int), Cond.methodLink RX0 59 yX0_raise, Cond.instanceMethod yX0_raise, Cond.selects RX0 yX0_raise yX0_raise, Cond.code yX0_raise cX0_raise 3 none, Cond.methodLink RX0 63 yX2_listed]
def wsX0_bestKey : List Cond := .code yX0_bestKey cX0_bestKey 8 (some .int) :: ((wsX0_bestKey_r1 ++ wsX0_bestKey_r2) ++ wsX20 ++ wsX00 ++ wsX30)
def wsX3_clear : List Cond := .code yX3_clear cX3_clear 2 none :: ([.fieldLink RX3 9 "PopularMatchings$Matching" "posts" "[I"] ++ wsX30)
def wsX3_init : List Cond := .code yX3_init cX3_init 1 none :: ([.methodLink RX3 3 objectInit, .instanceMethod objectInit, .code objectInit ⟨#[0xb1]⟩ 1 none, .arrayClass .int, .fieldLink RX3 9 "PopularMatchings$Matching" "posts" "[I", .methodLink RX3 15 yX3_clear, .instanceMethod yX3_clear, .selects RX3 yX3_clear yX3_clear, .initialized RX3, .code yX3_clear cX3_clear 2 none] ++ wsX30)
def wsX1_init : List Cond := .code yX1_init cX1_init 2 none :: ([.methodLink RX1 3 objectInit, .instanceMethod objectInit, .code objectInit ⟨#[0xb1]⟩ 1 none, .fieldLink RX1 9 "PopularMatchings$History" "count" "I", .classLink RX1 15 RX3, .fieldLink RX1 17 "PopularMatchings$History" "presents" "[LPopularMatchings$Matching;", .fieldLink RX1 21 "PopularMatchings$History" "saveds" "[LPopularMatchings$Matching;", .instantiable RX3 1, .initialized RX3, .methodLink RX1 24 yX3_init, .instanceMethod yX3_init, .code yX3_init cX3_init 1 none, .methodLink RX3 3 objectInit, .arrayClass .int, .fieldLink RX3 9 "PopularMatchings$Matching" "posts" "[I", .methodLink RX3 15 yX3_clear, .instanceMethod yX3_clear, .selects RX3 yX3_clear yX3_clear, .code yX3_clear cX3_clear 2 none] ++ wsX10 ++ wsX30)
def wsX1_forget : List Cond := .code yX1_forget cX1_forget 1 none :: ([.fieldLink RX1 9 "PopularMatchings$History" "count" "I"] ++ wsX10)
def wsX3_copyFrom : List Cond := .code yX3_copyFrom cX3_copyFrom 3 none :: ([.fieldLink RX3 9 "PopularMatchings$Matching" "posts" "[I"] ++ wsX30)
def wsX1_dropOldest : List Cond := .code yX1_dropOldest cX1_dropOldest 2 none :: ([.fieldLink RX1 17 "PopularMatchings$History" "presents" "[LPopularMatchings$Matching;", .fieldLink RX1 21 "PopularMatchings$History" "saveds" "[LPopularMatchings$Matching;", .fieldLink RX1 9 "PopularMatchings$History" "count" "I", .methodLink RX1 28 yX3_copyFrom, .instanceMethod yX3_copyFrom, .selects RX3 yX3_copyFrom yX3_copyFrom, .initialized RX3, .code yX3_copyFrom cX3_copyFrom 3 none, .fieldLink RX3 9 "PopularMatchings$Matching" "posts" "[I"] ++ wsX10 ++ wsX30)
def wsX1_remember : List Cond := .code yX1_remember cX1_remember 3 none :: ([.fieldLink RX1 9 "PopularMatchings$History" "count" "I", .fieldLink RX1 17 "PopularMatchings$History" "presents" "[LPopularMatchings$Matching;", .fieldLink RX1 21 "PopularMatchings$History" "saveds" "[LPopularMatchings$Matching;", .methodLink RX1 25 yX1_dropOldest, .instanceMethod yX1_dropOldest, .selects RX1 yX1_dropOldest yX1_dropOldest, .initialized RX1, .code yX1_dropOldest cX1_dropOldest 2 none, .methodLink RX1 28 yX3_copyFrom, .instanceMethod yX3_copyFrom, .selects RX3 yX3_copyFrom yX3_copyFrom, .initialized RX3, .code yX3_copyFrom cX3_copyFrom 3 none, .fieldLink RX3 9 "PopularMatchings$Matching" "posts" "[I"] ++ wsX10 ++ wsX30)
def wsX1_restore : List Cond := .code yX1_restore cX1_restore 3 none :: ([.fieldLink RX1 9 "PopularMatchings$History" "count" "I", .fieldLink RX1 17 "PopularMatchings$History" "presents" "[LPopularMatchings$Matching;", .fieldLink RX1 21 "PopularMatchings$History" "saveds" "[LPopularMatchings$Matching;", .methodLink RX1 28 yX3_copyFrom, .instanceMethod yX3_copyFrom, .selects RX3 yX3_copyFrom yX3_copyFrom, .initialized RX3, .code yX3_copyFrom cX3_copyFrom 3 none, .fieldLink RX3 9 "PopularMatchings$Matching" "posts" "[I"] ++ wsX10 ++ wsX30)
def wsX2_startAnew : List Cond := .code yX2_startAnew cX2_startAnew 4 none :: ([.fieldLink RX2 25 "PopularMatchings$Instance" "applicants" "I", .fieldLink RX2 29 "PopularMatchings$Instance" "posts" "I", .fieldLink RX2 9 "PopularMatchings$Instance" "capacities" "[I", .fieldLink RX2 15 "PopularMatchings$Instance" "lengths" "[I"] ++ wsX20)
def wsX2_init : List Cond := .code yX2_init cX2_init 1 none :: ([.methodLink RX2 3 objectInit, .instanceMethod objectInit, .code objectInit ⟨#[0xb1]⟩ 1 none, .arrayClass .int, .fieldLink RX2 9 "PopularMatchings$Instance" "capacities" "[I", .fieldLink RX2 15 "PopularMatchings$Instance" "lengths" "[I", .fieldLink RX2 18 "PopularMatchings$Instance" "lists" "[I", .methodLink RX2 21 yX2_startAnew, .instanceMethod yX2_startAnew, .selects RX2 yX2_startAnew yX2_startAnew, .initialized RX2, .code yX2_startAnew cX2_startAnew 4 none, .fieldLink RX2 25 "PopularMatchings$Instance" "applicants" "I", .fieldLink RX2 29 "PopularMatchings$Instance" "posts" "I"] ++ wsX20)
def wsX2_isApplicant : List Cond := .code yX2_isApplicant cX2_isApplicant 2 (some .boolean) :: ([.fieldLink RX2 25 "PopularMatchings$Instance" "applicants" "I"] ++ wsX20)
def wsX2_isPost : List Cond := .code yX2_isPost cX2_isPost 2 (some .boolean) :: ([.fieldLink RX2 29 "PopularMatchings$Instance" "posts" "I"] ++ wsX20)
def wsX2_isListed : List Cond := .code yX2_isListed cX2_isListed 3 (some .boolean) :: ([.fieldLink RX2 15 "PopularMatchings$Instance" "lengths" "[I", .methodLink RX2 32 yX2_rankOf, .instanceMethod yX2_rankOf, .selects RX2 yX2_rankOf yX2_rankOf, .initialized RX2, .code yX2_rankOf cX2_rankOf 4 (some .int), .methodLink RX2 36 yX2_listed, .instanceMethod yX2_listed, .selects RX2 yX2_listed yX2_listed, .code yX2_listed cX2_listed 3 (some .int), .fieldLink RX2 18 "PopularMatchings$Instance" "lists" "[I"] ++ wsX20)
def wsX2_append : List Cond := .code yX2_append cX2_append 3 (some .int) :: ([.fieldLink RX2 18 "PopularMatchings$Instance" "lists" "[I", .fieldLink RX2 15 "PopularMatchings$Instance" "lengths" "[I"] ++ wsX20)
def wsX2_firstOf : List Cond := .code yX2_firstOf cX2_firstOf 2 (some .int) :: ([.fieldLink RX2 15 "PopularMatchings$Instance" "lengths" "[I", .methodLink RX2 36 yX2_listed, .instanceMethod yX2_listed, .selects RX2 yX2_listed yX2_listed, .initialized RX2, .code yX2_listed cX2_listed 3 (some .int), .fieldLink RX2 18 "PopularMatchings$Instance" "lists" "[I"] ++ wsX20)
def wsX2_countFirst : List Cond := .code yX2_countFirst cX2_countFirst 4 (some .int) :: ([.fieldLink RX2 25 "PopularMatchings$Instance" "applicants" "I", .methodLink RX2 43 yX2_firstOf, .instanceMethod yX2_firstOf, .selects RX2 yX2_firstOf yX2_firstOf, .initialized RX2, .code yX2_firstOf cX2_firstOf 2 (some .int), .fieldLink RX2 15 "PopularMatchings$Instance" "lengths" "[I", .methodLink RX2 36 yX2_listed, .instanceMethod yX2_listed, .selects RX2 yX2_listed yX2_listed, .code yX2_listed cX2_listed 3 (some .int), .fieldLink RX2 18 "PopularMatchings$Instance" "lists" "[I"] ++ wsX20)
def wsX2_secondOf : List Cond := .code yX2_secondOf cX2_secondOf 4 (some .int) :: ([.fieldLink RX2 15 "PopularMatchings$Instance" "lengths" "[I", .fieldLink RX2 9 "PopularMatchings$Instance" "capacities" "[I", .methodLink RX2 36 yX2_listed, .instanceMethod yX2_listed, .selects RX2 yX2_listed yX2_listed, .initialized RX2, .code yX2_listed cX2_listed 3 (some .int), .fieldLink RX2 18 "PopularMatchings$Instance" "lists" "[I", .methodLink RX2 39 yX2_countFirst, .instanceMethod yX2_countFirst, .selects RX2 yX2_countFirst yX2_countFirst, .code yX2_countFirst cX2_countFirst 4 (some .int), .fieldLink RX2 25 "PopularMatchings$Instance" "applicants" "I", .methodLink RX2 43 yX2_firstOf, .instanceMethod yX2_firstOf, .selects RX2 yX2_firstOf yX2_firstOf, .code yX2_firstOf cX2_firstOf 2 (some .int)] ++ wsX20)
def wsX3_countPlaced : List Cond := .code yX3_countPlaced cX3_countPlaced 3 (some .int) :: ([.fieldLink RX3 9 "PopularMatchings$Matching" "posts" "[I"] ++ wsX30)
def wsX3_othersAt : List Cond := .code yX3_othersAt cX3_othersAt 5 (some .int) :: ([.fieldLink RX3 9 "PopularMatchings$Matching" "posts" "[I"] ++ wsX30)
def wsX4_init : List Cond := .code yX4_init cX4_init 1 none :: ([.methodLink RX4 3 objectInit, .instanceMethod objectInit, .code objectInit ⟨#[0xb1]⟩ 1 none, .arrayClass .int, .fieldLink RX4 9 "PopularMatchings$PopularSearch" "firsts" "[I", .fieldLink RX4 15 "PopularMatchings$PopularSearch" "lower" "[I", .fieldLink RX4 18 "PopularMatchings$PopularSearch" "higher" "[I", .fieldLink RX4 21 "PopularMatchings$PopularSearch" "wanted" "[I", .fieldLink RX4 24 "PopularMatchings$PopularSearch" "held" "[I", .fieldLink RX4 27 "PopularMatchings$PopularSearch" "heldAsFirst" "[I", .fieldLink RX4 30 "PopularMatchings$PopularSearch" "found" "[I"] ++ wsX40)
def wsX4_prepare_r1 : List Cond := [Cond.fieldLink RX4 37 "PopularMatchings$Instance" "applicants" "I", Cond.fieldLink RX4 9 "PopularMatchings$PopularSearch" "firsts" "[I", Cond.fieldLink RX4 15 "PopularMatchings$PopularSearch" "lower" "[I", Cond.fieldLink RX4 18 "PopularMatchings$PopularSearch" "higher" "[I", Cond.fieldLink RX4 66 "PopularMatchings$Instance" "posts" "I", Cond.fieldLink RX4 21 "PopularMatchings$PopularSearch" "wanted" "[I", Cond.fieldLink RX4 71 "PopularMatchings$Instance" "capacities" "[I", Cond.methodLink RX4 74 Lib.Math.min.name, Cond.static Lib.Math.min.name, Cond.initialized "java/lang/Math", Cond.code Lib.Math.min.name Lib.Math.min.code 2 (some .int), Cond.methodLink RX4 59 yX2_firstOf, Cond.instanceMethod yX2_firstOf, Cond.selects RX2 yX2_firstOf yX2_firstOf, Cond.initialized RX2, Cond.code yX2_firstOf cX2_firstOf 2 (some .int), Cond.fieldLink RX2 15 "PopularMatchings$Instance" "lengths" "[I", Cond.methodLink RX2 36 yX2_listed, Cond.instanceMethod yX2_listed, Cond.selects RX2 yX2_listed yX2_listed, Cond.code yX2_listed cX2_listed 3 (some .int), Cond.fieldLink RX2 18 "PopularMatchings$Instance" "lists" "[I", Cond.methodLink RX4 63 yX2_secondOf, Cond.instanceMethod yX2_secondOf]
def wsX4_prepare_r2 : List Cond := [Cond.selects RX2 yX2_secondOf yX2_secondOf, Cond.code yX2_secondOf cX2_secondOf 4 (some .int), Cond.fieldLink RX2 9 "PopularMatchings$Instance" "capacities" "[I", Cond.methodLink RX2 39 yX2_countFirst, Cond.instanceMethod yX2_countFirst, Cond.selects RX2 yX2_countFirst yX2_countFirst, Cond.code yX2_countFirst cX2_countFirst 4 (some .int), Cond.fieldLink RX2 25 "PopularMatchings$Instance" "applicants" "I", Cond.methodLink RX2 43 yX2_firstOf, Cond.methodLink RX4 68 yX2_countFirst]
def wsX4_prepare : List Cond := .code yX4_prepare cX4_prepare 6 none :: ((wsX4_prepare_r1 ++ wsX4_prepare_r2) ++ wsX20 ++ wsX40)
def wsX4_takesHigher : List Cond := .code yX4_takesHigher cX4_takesHigher 3 (some .boolean) :: ([.fieldLink RX4 37 "PopularMatchings$Instance" "applicants" "I"] ++ wsX20)
def wsX4_postIn : List Cond := .code yX4_postIn cX4_postIn 4 (some .int) :: ([.fieldLink RX4 18 "PopularMatchings$PopularSearch" "higher" "[I", .fieldLink RX4 15 "PopularMatchings$PopularSearch" "lower" "[I", .methodLink RX4 80 yX4_takesHigher, .static yX4_takesHigher, .initialized RX4, .code yX4_takesHigher cX4_takesHigher 3 (some .boolean), .fieldLink RX4 37 "PopularMatchings$Instance" "applicants" "I"] ++ wsX40 ++ wsX20)
def wsX4_count : List Cond := .code yX4_count cX4_count 3 none :: ([.fieldLink RX4 24 "PopularMatchings$PopularSearch" "held" "[I", .fieldLink RX4 9 "PopularMatchings$PopularSearch" "firsts" "[I", .fieldLink RX4 27 "PopularMatchings$PopularSearch" "heldAsFirst" "[I"] ++ wsX40)
def wsX4_isPopular : List Cond := .code yX4_isPopular cX4_isPopular 5 (some .boolean) :: ([.fieldLink RX4 66 "PopularMatchings$Instance" "posts" "I", .fieldLink RX4 24 "PopularMatchings$PopularSearch" "held" "[I", .fieldLink RX4 27 "PopularMatchings$PopularSearch" "heldAsFirst" "[I", .fieldLink RX4 37 "PopularMatchings$Instance" "applicants" "I", .fieldLink RX4 15 "PopularMatchings$PopularSearch" "lower" "[I", .fieldLink RX4 18 "PopularMatchings$PopularSearch" "higher" "[I", .fieldLink RX4 71 "PopularMatchings$Instance" "capacities" "[I", .fieldLink RX4 21 "PopularMatchings$PopularSearch" "wanted" "[I", .methodLink RX4 80 yX4_takesHigher, .static yX4_takesHigher, .initialized RX4, .code yX4_takesHigher cX4_takesHigher 3 (some .boolean), .methodLink RX4 55 yX4_postIn, .instanceMethod yX4_postIn, .selects RX4 yX4_postIn yX4_postIn, .code yX4_postIn cX4_postIn 4 (some .int), .methodLink RX4 84 yX4_count, .instanceMethod yX4_count, .selects RX4 yX4_count yX4_count, .code yX4_count cX4_count 3 none, .fieldLink RX4 9 "PopularMatchings$PopularSearch" "firsts" "[I"] ++ wsX20 ++ wsX40)
def wsX4_collect_r1 : List Cond := [Cond.fieldLink RX4 37 "PopularMatchings$Instance" "applicants" "I", Cond.fieldLink RX4 30 "PopularMatchings$PopularSearch" "found" "[I", Cond.methodLink RX4 33 yX4_prepare, Cond.instanceMethod yX4_prepare, Cond.selects RX4 yX4_prepare yX4_prepare, Cond.initialized RX4, Cond.code yX4_prepare cX4_prepare 6 none, Cond.fieldLink RX4 9 "PopularMatchings$PopularSearch" "firsts" "[I", Cond.fieldLink RX4 15 "PopularMatchings$PopularSearch" "lower" "[I", Cond.fieldLink RX4 18 "PopularMatchings$PopularSearch" "higher" "[I", Cond.fieldLink RX4 66 "PopularMatchings$Instance" "posts" "I", Cond.fieldLink RX4 21 "PopularMatchings$PopularSearch" "wanted" "[I", Cond.fieldLink RX4 71 "PopularMatchings$Instance" "capacities" "[I", Cond.methodLink RX4 74 Lib.Math.min.name, Cond.static Lib.Math.min.name, Cond.initialized "java/lang/Math", Cond.code Lib.Math.min.name Lib.Math.min.code 2 (some .int), Cond.methodLink RX4 59 yX2_firstOf, Cond.instanceMethod yX2_firstOf, Cond.selects RX2 yX2_firstOf yX2_firstOf, Cond.initialized RX2, Cond.code yX2_firstOf cX2_firstOf 2 (some .int), Cond.fieldLink RX2 15 "PopularMatchings$Instance" "lengths" "[I", Cond.methodLink RX2 36 yX2_listed]
def wsX4_collect_r2 : List Cond := [Cond.instanceMethod yX2_listed, Cond.selects RX2 yX2_listed yX2_listed, Cond.code yX2_listed cX2_listed 3 (some .int), Cond.fieldLink RX2 18 "PopularMatchings$Instance" "lists" "[I", Cond.methodLink RX4 63 yX2_secondOf, Cond.instanceMethod yX2_secondOf, Cond.selects RX2 yX2_secondOf yX2_secondOf, Cond.code yX2_secondOf cX2_secondOf 4 (some .int), Cond.fieldLink RX2 9 "PopularMatchings$Instance" "capacities" "[I", Cond.methodLink RX2 39 yX2_countFirst, Cond.instanceMethod yX2_countFirst, Cond.selects RX2 yX2_countFirst yX2_countFirst, Cond.code yX2_countFirst cX2_countFirst 4 (some .int), Cond.fieldLink RX2 25 "PopularMatchings$Instance" "applicants" "I", Cond.methodLink RX2 43 yX2_firstOf, Cond.methodLink RX4 68 yX2_countFirst, Cond.methodLink RX4 43 yX4_isPopular, Cond.instanceMethod yX4_isPopular, Cond.selects RX4 yX4_isPopular yX4_isPopular, Cond.code yX4_isPopular cX4_isPopular 5 (some .boolean), Cond.fieldLink RX4 24 "PopularMatchings$PopularSearch" "held" "[I", Cond.fieldLink RX4 27 "PopularMatchings$PopularSearch" "heldAsFirst" "[I", Cond.methodLink RX4 80 yX4_takesHigher, Cond.static yX4_takesHigher]
def wsX4_collect_r3 : List Cond := [Cond.code yX4_takesHigher cX4_takesHigher 3 (some .boolean), Cond.methodLink RX4 55 yX4_postIn, Cond.instanceMethod yX4_postIn, Cond.selects RX4 yX4_postIn yX4_postIn, Cond.code yX4_postIn cX4_postIn 4 (some .int), Cond.methodLink RX4 84 yX4_count, Cond.instanceMethod yX4_count, Cond.selects RX4 yX4_count yX4_count, Cond.code yX4_count cX4_count 3 none]
def wsX4_collect : List Cond := .code yX4_collect cX4_collect 4 (some .int) :: ((wsX4_collect_r1 ++ (wsX4_collect_r2 ++ wsX4_collect_r3)) ++ wsX20 ++ wsX40)
def wsX4_write : List Cond := .code yX4_write cX4_write 5 none :: ([.fieldLink RX4 37 "PopularMatchings$Instance" "applicants" "I", .fieldLink RX4 52 "PopularMatchings$Matching" "posts" "[I", .fieldLink RX4 30 "PopularMatchings$PopularSearch" "found" "[I", .methodLink RX4 47 yX3_clear, .instanceMethod yX3_clear, .selects RX3 yX3_clear yX3_clear, .initialized RX3, .code yX3_clear cX3_clear 2 none, .fieldLink RX3 9 "PopularMatchings$Matching" "posts" "[I", .methodLink RX4 55 yX4_postIn, .instanceMethod yX4_postIn, .selects RX4 yX4_postIn yX4_postIn, .initialized RX4, .code yX4_postIn cX4_postIn 4 (some .int), .fieldLink RX4 18 "PopularMatchings$PopularSearch" "higher" "[I", .fieldLink RX4 15 "PopularMatchings$PopularSearch" "lower" "[I", .methodLink RX4 80 yX4_takesHigher, .static yX4_takesHigher, .code yX4_takesHigher cX4_takesHigher 3 (some .boolean)] ++ wsX20 ++ wsX30 ++ wsX40)
def wsX5_init_r1 : List Cond := [Cond.methodLink RX5 1 objectInit, Cond.instanceMethod objectInit, Cond.code objectInit ⟨#[0xb1]⟩ 1 none, Cond.classLink RX5 7 RX2, Cond.instantiable RX2 5, Cond.initialized RX2, Cond.fieldLink RX5 10 "PopularMatchings" "instance" "LPopularMatchings$Instance;", Cond.classLink RX5 16 RX3, Cond.instantiable RX3 1, Cond.initialized RX3, Cond.fieldLink RX5 19 "PopularMatchings" "present" "LPopularMatchings$Matching;", Cond.fieldLink RX5 23 "PopularMatchings" "saved" "LPopularMatchings$Matching;", Cond.fieldLink RX5 26 "PopularMatchings" "draft" "LPopularMatchings$Matching;", Cond.classLink RX5 29 RX1, Cond.instantiable RX1 3, Cond.initialized RX1, Cond.fieldLink RX5 32 "PopularMatchings" "history" "LPopularMatchings$History;", Cond.classLink RX5 36 RX0, Cond.instantiable RX0 2, Cond.initialized RX0, Cond.fieldLink RX5 39 "PopularMatchings" "challengers" "LPopularMatchings$ChallengerSearch;", Cond.classLink RX5 43 RX4, Cond.instantiable RX4 7, Cond.initialized RX4]
def wsX5_init_r2 : List Cond := [Cond.fieldLink RX5 46 "PopularMatchings" "populars" "LPopularMatchings$PopularSearch;", Cond.methodLink RX5 9 yX2_init, Cond.instanceMethod yX2_init, Cond.code yX2_init cX2_init 1 none, Cond.methodLink RX2 3 objectInit, Cond.arrayClass .int, Cond.fieldLink RX2 9 "PopularMatchings$Instance" "capacities" "[I", Cond.fieldLink RX2 15 "PopularMatchings$Instance" "lengths" "[I", Cond.fieldLink RX2 18 "PopularMatchings$Instance" "lists" "[I", Cond.methodLink RX2 21 yX2_startAnew, Cond.instanceMethod yX2_startAnew, Cond.selects RX2 yX2_startAnew yX2_startAnew, Cond.code yX2_startAnew cX2_startAnew 4 none, Cond.fieldLink RX2 25 "PopularMatchings$Instance" "applicants" "I", Cond.fieldLink RX2 29 "PopularMatchings$Instance" "posts" "I", Cond.methodLink RX5 18 yX3_init, Cond.instanceMethod yX3_init, Cond.code yX3_init cX3_init 1 none, Cond.methodLink RX3 3 objectInit, Cond.fieldLink RX3 9 "PopularMatchings$Matching" "posts" "[I", Cond.methodLink RX3 15 yX3_clear, Cond.instanceMethod yX3_clear, Cond.selects RX3 yX3_clear yX3_clear, Cond.code yX3_clear cX3_clear 2 none]
def wsX5_init_r3 : List Cond := [Cond.methodLink RX5 31 yX1_init, Cond.instanceMethod yX1_init, Cond.code yX1_init cX1_init 2 none, Cond.methodLink RX1 3 objectInit, Cond.fieldLink RX1 9 "PopularMatchings$History" "count" "I", Cond.classLink RX1 15 RX3, Cond.fieldLink RX1 17 "PopularMatchings$History" "presents" "[LPopularMatchings$Matching;", Cond.fieldLink RX1 21 "PopularMatchings$History" "saveds" "[LPopularMatchings$Matching;", Cond.methodLink RX1 24 yX3_init, Cond.methodLink RX5 38 yX0_init, Cond.instanceMethod yX0_init, Cond.code yX0_init cX0_init 4 none, Cond.methodLink RX0 5 objectInit, Cond.fieldLink RX0 11 "PopularMatchings$ChallengerSearch" "placed" "[I", Cond.fieldLink RX0 15 "PopularMatchings$ChallengerSearch" "best" "[I", Cond.instanceMethod yX4_init, Cond.code yX4_init cX4_init 1 none, Cond.methodLink RX4 3 objectInit, Cond.fieldLink RX4 9 "PopularMatchings$PopularSearch" "firsts" "[I", Cond.fieldLink RX4 15 "PopularMatchings$PopularSearch" "lower" "[I", Cond.fieldLink RX4 18 "PopularMatchings$PopularSearch" "higher" "[I", Cond.fieldLink RX4 21 "PopularMatchings$PopularSearch" "wanted" "[I", Cond.fieldLink RX4 24 "PopularMatchings$PopularSearch" "held" "[I", Cond.fieldLink RX4 27 "PopularMatchings$PopularSearch" "heldAsFirst" "[I"]
def wsX5_init_r4 : List Cond := [Cond.fieldLink RX4 30 "PopularMatchings$PopularSearch" "found" "[I"]
def wsX5_init : List Cond := .code yX5_init cX5_init 1 none :: ((wsX5_init_r1 ++ (wsX5_init_r2 ++ (wsX5_init_r3 ++ wsX5_init_r4))) ++ wsX20 ++ wsX50 ++ wsX30 ++ wsX10 ++ wsX00 ++ wsX40)
def wsX5_forgetMatchings : List Cond := .code yX5_forgetMatchings cX5_forgetMatchings 1 none :: ([.fieldLink RX5 19 "PopularMatchings" "present" "LPopularMatchings$Matching;", .fieldLink RX5 23 "PopularMatchings" "saved" "LPopularMatchings$Matching;", .fieldLink RX5 32 "PopularMatchings" "history" "LPopularMatchings$History;", .methodLink RX5 127 yX3_clear, .instanceMethod yX3_clear, .selects RX3 yX3_clear yX3_clear, .initialized RX3, .code yX3_clear cX3_clear 2 none, .fieldLink RX3 9 "PopularMatchings$Matching" "posts" "[I", .methodLink RX5 155 yX1_forget, .instanceMethod yX1_forget, .selects RX1 yX1_forget yX1_forget, .initialized RX1, .code yX1_forget cX1_forget 1 none, .fieldLink RX1 9 "PopularMatchings$History" "count" "I"] ++ wsX50 ++ wsX30 ++ wsX10)
def wsX5_reset_r1 : List Cond := [Cond.fieldLink RX5 10 "PopularMatchings" "instance" "LPopularMatchings$Instance;", Cond.fieldLink RX5 50 "PopularMatchings$Instance" "applicants" "I", Cond.methodLink RX5 54 yX2_startAnew, Cond.instanceMethod yX2_startAnew, Cond.selects RX2 yX2_startAnew yX2_startAnew, Cond.initialized RX2, Cond.code yX2_startAnew cX2_startAnew 4 none, Cond.fieldLink RX2 25 "PopularMatchings$Instance" "applicants" "I", Cond.fieldLink RX2 29 "PopularMatchings$Instance" "posts" "I", Cond.fieldLink RX2 9 "PopularMatchings$Instance" "capacities" "[I", Cond.fieldLink RX2 15 "PopularMatchings$Instance" "lengths" "[I", Cond.methodLink RX5 58 yX5_forgetMatchings, Cond.instanceMethod yX5_forgetMatchings, Cond.selects RX5 yX5_forgetMatchings yX5_forgetMatchings, Cond.initialized RX5, Cond.code yX5_forgetMatchings cX5_forgetMatchings 1 none, Cond.fieldLink RX5 19 "PopularMatchings" "present" "LPopularMatchings$Matching;", Cond.fieldLink RX5 23 "PopularMatchings" "saved" "LPopularMatchings$Matching;", Cond.fieldLink RX5 32 "PopularMatchings" "history" "LPopularMatchings$History;", Cond.methodLink RX5 127 yX3_clear, Cond.instanceMethod yX3_clear, Cond.selects RX3 yX3_clear yX3_clear, Cond.initialized RX3, Cond.code yX3_clear cX3_clear 2 none]
def wsX5_reset_r2 : List Cond := [Cond.fieldLink RX3 9 "PopularMatchings$Matching" "posts" "[I", Cond.methodLink RX5 155 yX1_forget, Cond.instanceMethod yX1_forget, Cond.selects RX1 yX1_forget yX1_forget, Cond.initialized RX1, Cond.code yX1_forget cX1_forget 1 none, Cond.fieldLink RX1 9 "PopularMatchings$History" "count" "I"]
def wsX5_reset : List Cond := .code yX5_reset cX5_reset 5 (some .int) :: ((wsX5_reset_r1 ++ wsX5_reset_r2) ++ wsX50 ++ wsX20 ++ wsX30 ++ wsX10)
def wsX5_setCapacity_r1 : List Cond := [Cond.fieldLink RX5 10 "PopularMatchings" "instance" "LPopularMatchings$Instance;", Cond.fieldLink RX5 65 "PopularMatchings$Instance" "capacities" "[I", Cond.methodLink RX5 61 yX2_isPost, Cond.instanceMethod yX2_isPost, Cond.selects RX2 yX2_isPost yX2_isPost, Cond.initialized RX2, Cond.code yX2_isPost cX2_isPost 2 (some .boolean), Cond.fieldLink RX2 29 "PopularMatchings$Instance" "posts" "I", Cond.methodLink RX5 58 yX5_forgetMatchings, Cond.instanceMethod yX5_forgetMatchings, Cond.selects RX5 yX5_forgetMatchings yX5_forgetMatchings, Cond.initialized RX5, Cond.code yX5_forgetMatchings cX5_forgetMatchings 1 none, Cond.fieldLink RX5 19 "PopularMatchings" "present" "LPopularMatchings$Matching;", Cond.fieldLink RX5 23 "PopularMatchings" "saved" "LPopularMatchings$Matching;", Cond.fieldLink RX5 32 "PopularMatchings" "history" "LPopularMatchings$History;", Cond.methodLink RX5 127 yX3_clear, Cond.instanceMethod yX3_clear, Cond.selects RX3 yX3_clear yX3_clear, Cond.initialized RX3, Cond.code yX3_clear cX3_clear 2 none, Cond.fieldLink RX3 9 "PopularMatchings$Matching" "posts" "[I", Cond.methodLink RX5 155 yX1_forget, Cond.instanceMethod yX1_forget]
def wsX5_setCapacity_r2 : List Cond := [Cond.selects RX1 yX1_forget yX1_forget, Cond.initialized RX1, Cond.code yX1_forget cX1_forget 1 none, Cond.fieldLink RX1 9 "PopularMatchings$History" "count" "I"]
def wsX5_setCapacity : List Cond := .code yX5_setCapacity cX5_setCapacity 4 (some .int) :: ((wsX5_setCapacity_r1 ++ wsX5_setCapacity_r2) ++ wsX50 ++ wsX20 ++ wsX30 ++ wsX10)
def wsX5_appendPreference_r1 : List Cond := [Cond.fieldLink RX5 10 "PopularMatchings" "instance" "LPopularMatchings$Instance;", Cond.methodLink RX5 69 yX2_isApplicant, Cond.instanceMethod yX2_isApplicant, Cond.selects RX2 yX2_isApplicant yX2_isApplicant, Cond.initialized RX2, Cond.code yX2_isApplicant cX2_isApplicant 2 (some .boolean), Cond.fieldLink RX2 25 "PopularMatchings$Instance" "applicants" "I", Cond.methodLink RX5 61 yX2_isPost, Cond.instanceMethod yX2_isPost, Cond.selects RX2 yX2_isPost yX2_isPost, Cond.code yX2_isPost cX2_isPost 2 (some .boolean), Cond.fieldLink RX2 29 "PopularMatchings$Instance" "posts" "I", Cond.methodLink RX5 72 yX2_isListed, Cond.instanceMethod yX2_isListed, Cond.selects RX2 yX2_isListed yX2_isListed, Cond.code yX2_isListed cX2_isListed 3 (some .boolean), Cond.fieldLink RX2 15 "PopularMatchings$Instance" "lengths" "[I", Cond.methodLink RX2 32 yX2_rankOf, Cond.instanceMethod yX2_rankOf, Cond.selects RX2 yX2_rankOf yX2_rankOf, Cond.code yX2_rankOf cX2_rankOf 4 (some .int), Cond.methodLink RX2 36 yX2_listed, Cond.instanceMethod yX2_listed, Cond.selects RX2 yX2_listed yX2_listed]
def wsX5_appendPreference_r2 : List Cond := [Cond.code yX2_listed cX2_listed 3 (some .int), Cond.fieldLink RX2 18 "PopularMatchings$Instance" "lists" "[I", Cond.methodLink RX5 76 yX2_append, Cond.instanceMethod yX2_append, Cond.selects RX2 yX2_append yX2_append, Cond.code yX2_append cX2_append 3 (some .int), Cond.methodLink RX5 58 yX5_forgetMatchings, Cond.instanceMethod yX5_forgetMatchings, Cond.selects RX5 yX5_forgetMatchings yX5_forgetMatchings, Cond.initialized RX5, Cond.code yX5_forgetMatchings cX5_forgetMatchings 1 none, Cond.fieldLink RX5 19 "PopularMatchings" "present" "LPopularMatchings$Matching;", Cond.fieldLink RX5 23 "PopularMatchings" "saved" "LPopularMatchings$Matching;", Cond.fieldLink RX5 32 "PopularMatchings" "history" "LPopularMatchings$History;", Cond.methodLink RX5 127 yX3_clear, Cond.instanceMethod yX3_clear, Cond.selects RX3 yX3_clear yX3_clear, Cond.initialized RX3, Cond.code yX3_clear cX3_clear 2 none, Cond.fieldLink RX3 9 "PopularMatchings$Matching" "posts" "[I", Cond.methodLink RX5 155 yX1_forget, Cond.instanceMethod yX1_forget, Cond.selects RX1 yX1_forget yX1_forget, Cond.initialized RX1]
def wsX5_appendPreference_r3 : List Cond := [Cond.code yX1_forget cX1_forget 1 none, Cond.fieldLink RX1 9 "PopularMatchings$History" "count" "I"]
def wsX5_appendPreference : List Cond := .code yX5_appendPreference cX5_appendPreference 4 (some .int) :: ((wsX5_appendPreference_r1 ++ (wsX5_appendPreference_r2 ++ wsX5_appendPreference_r3)) ++ wsX50 ++ wsX20 ++ wsX30 ++ wsX10)
def wsX5_clearPreferences_r1 : List Cond := [Cond.fieldLink RX5 10 "PopularMatchings" "instance" "LPopularMatchings$Instance;", Cond.fieldLink RX5 80 "PopularMatchings$Instance" "lengths" "[I", Cond.methodLink RX5 69 yX2_isApplicant, Cond.instanceMethod yX2_isApplicant, Cond.selects RX2 yX2_isApplicant yX2_isApplicant, Cond.initialized RX2, Cond.code yX2_isApplicant cX2_isApplicant 2 (some .boolean), Cond.fieldLink RX2 25 "PopularMatchings$Instance" "applicants" "I", Cond.methodLink RX5 58 yX5_forgetMatchings, Cond.instanceMethod yX5_forgetMatchings, Cond.selects RX5 yX5_forgetMatchings yX5_forgetMatchings, Cond.initialized RX5, Cond.code yX5_forgetMatchings cX5_forgetMatchings 1 none, Cond.fieldLink RX5 19 "PopularMatchings" "present" "LPopularMatchings$Matching;", Cond.fieldLink RX5 23 "PopularMatchings" "saved" "LPopularMatchings$Matching;", Cond.fieldLink RX5 32 "PopularMatchings" "history" "LPopularMatchings$History;", Cond.methodLink RX5 127 yX3_clear, Cond.instanceMethod yX3_clear, Cond.selects RX3 yX3_clear yX3_clear, Cond.initialized RX3, Cond.code yX3_clear cX3_clear 2 none, Cond.fieldLink RX3 9 "PopularMatchings$Matching" "posts" "[I", Cond.methodLink RX5 155 yX1_forget, Cond.instanceMethod yX1_forget]
def wsX5_clearPreferences_r2 : List Cond := [Cond.selects RX1 yX1_forget yX1_forget, Cond.initialized RX1, Cond.code yX1_forget cX1_forget 1 none, Cond.fieldLink RX1 9 "PopularMatchings$History" "count" "I"]
def wsX5_clearPreferences : List Cond := .code yX5_clearPreferences cX5_clearPreferences 3 (some .int) :: ((wsX5_clearPreferences_r1 ++ wsX5_clearPreferences_r2) ++ wsX50 ++ wsX20 ++ wsX30 ++ wsX10)
def wsX5_preferenceAt : List Cond := .code yX5_preferenceAt cX5_preferenceAt 3 (some .int) :: ([.fieldLink RX5 10 "PopularMatchings" "instance" "LPopularMatchings$Instance;", .fieldLink RX5 80 "PopularMatchings$Instance" "lengths" "[I", .methodLink RX5 69 yX2_isApplicant, .instanceMethod yX2_isApplicant, .selects RX2 yX2_isApplicant yX2_isApplicant, .initialized RX2, .code yX2_isApplicant cX2_isApplicant 2 (some .boolean), .fieldLink RX2 25 "PopularMatchings$Instance" "applicants" "I", .methodLink RX5 83 yX2_listed, .instanceMethod yX2_listed, .selects RX2 yX2_listed yX2_listed, .code yX2_listed cX2_listed 3 (some .int), .fieldLink RX2 18 "PopularMatchings$Instance" "lists" "[I"] ++ wsX50 ++ wsX20)
def wsX5_firstPost : List Cond := .code yX5_firstPost cX5_firstPost 2 (some .int) :: ([.fieldLink RX5 10 "PopularMatchings" "instance" "LPopularMatchings$Instance;", .methodLink RX5 69 yX2_isApplicant, .instanceMethod yX2_isApplicant, .selects RX2 yX2_isApplicant yX2_isApplicant, .initialized RX2, .code yX2_isApplicant cX2_isApplicant 2 (some .boolean), .fieldLink RX2 25 "PopularMatchings$Instance" "applicants" "I", .methodLink RX5 86 yX2_firstOf, .instanceMethod yX2_firstOf, .selects RX2 yX2_firstOf yX2_firstOf, .code yX2_firstOf cX2_firstOf 2 (some .int), .fieldLink RX2 15 "PopularMatchings$Instance" "lengths" "[I", .methodLink RX2 36 yX2_listed, .instanceMethod yX2_listed, .selects RX2 yX2_listed yX2_listed, .code yX2_listed cX2_listed 3 (some .int), .fieldLink RX2 18 "PopularMatchings$Instance" "lists" "[I"] ++ wsX50 ++ wsX20)
def wsX5_secondPost_r1 : List Cond := [Cond.fieldLink RX5 10 "PopularMatchings" "instance" "LPopularMatchings$Instance;", Cond.methodLink RX5 69 yX2_isApplicant, Cond.instanceMethod yX2_isApplicant, Cond.selects RX2 yX2_isApplicant yX2_isApplicant, Cond.initialized RX2, Cond.code yX2_isApplicant cX2_isApplicant 2 (some .boolean), Cond.fieldLink RX2 25 "PopularMatchings$Instance" "applicants" "I", Cond.methodLink RX5 90 yX2_secondOf, Cond.instanceMethod yX2_secondOf, Cond.selects RX2 yX2_secondOf yX2_secondOf, Cond.code yX2_secondOf cX2_secondOf 4 (some .int), Cond.fieldLink RX2 15 "PopularMatchings$Instance" "lengths" "[I", Cond.fieldLink RX2 9 "PopularMatchings$Instance" "capacities" "[I", Cond.methodLink RX2 36 yX2_listed, Cond.instanceMethod yX2_listed, Cond.selects RX2 yX2_listed yX2_listed, Cond.code yX2_listed cX2_listed 3 (some .int), Cond.fieldLink RX2 18 "PopularMatchings$Instance" "lists" "[I", Cond.methodLink RX2 39 yX2_countFirst, Cond.instanceMethod yX2_countFirst, Cond.selects RX2 yX2_countFirst yX2_countFirst, Cond.code yX2_countFirst cX2_countFirst 4 (some .int), Cond.methodLink RX2 43 yX2_firstOf, Cond.instanceMethod yX2_firstOf]
def wsX5_secondPost_r2 : List Cond := [Cond.selects RX2 yX2_firstOf yX2_firstOf, Cond.code yX2_firstOf cX2_firstOf 2 (some .int)]
def wsX5_secondPost : List Cond := .code yX5_secondPost cX5_secondPost 2 (some .int) :: ((wsX5_secondPost_r1 ++ wsX5_secondPost_r2) ++ wsX50 ++ wsX20)
def wsX5_assign_r1 : List Cond := [Cond.fieldLink RX5 10 "PopularMatchings" "instance" "LPopularMatchings$Instance;", Cond.fieldLink RX5 19 "PopularMatchings" "present" "LPopularMatchings$Matching;", Cond.fieldLink RX5 65 "PopularMatchings$Instance" "capacities" "[I", Cond.fieldLink RX5 96 "PopularMatchings$Matching" "posts" "[I", Cond.fieldLink RX5 32 "PopularMatchings" "history" "LPopularMatchings$History;", Cond.fieldLink RX5 23 "PopularMatchings" "saved" "LPopularMatchings$Matching;", Cond.methodLink RX5 69 yX2_isApplicant, Cond.instanceMethod yX2_isApplicant, Cond.selects RX2 yX2_isApplicant yX2_isApplicant, Cond.initialized RX2, Cond.code yX2_isApplicant cX2_isApplicant 2 (some .boolean), Cond.fieldLink RX2 25 "PopularMatchings$Instance" "applicants" "I", Cond.methodLink RX5 61 yX2_isPost, Cond.instanceMethod yX2_isPost, Cond.selects RX2 yX2_isPost yX2_isPost, Cond.code yX2_isPost cX2_isPost 2 (some .boolean), Cond.fieldLink RX2 29 "PopularMatchings$Instance" "posts" "I", Cond.methodLink RX5 72 yX2_isListed, Cond.instanceMethod yX2_isListed, Cond.selects RX2 yX2_isListed yX2_isListed, Cond.code yX2_isListed cX2_isListed 3 (some .boolean), Cond.fieldLink RX2 15 "PopularMatchings$Instance" "lengths" "[I", Cond.methodLink RX2 32 yX2_rankOf, Cond.instanceMethod yX2_rankOf]
def wsX5_assign_r2 : List Cond := [Cond.selects RX2 yX2_rankOf yX2_rankOf, Cond.code yX2_rankOf cX2_rankOf 4 (some .int), Cond.methodLink RX2 36 yX2_listed, Cond.instanceMethod yX2_listed, Cond.selects RX2 yX2_listed yX2_listed, Cond.code yX2_listed cX2_listed 3 (some .int), Cond.fieldLink RX2 18 "PopularMatchings$Instance" "lists" "[I", Cond.methodLink RX5 93 yX3_othersAt, Cond.instanceMethod yX3_othersAt, Cond.selects RX3 yX3_othersAt yX3_othersAt, Cond.initialized RX3, Cond.code yX3_othersAt cX3_othersAt 5 (some .int), Cond.fieldLink RX3 9 "PopularMatchings$Matching" "posts" "[I", Cond.methodLink RX5 99 yX1_remember, Cond.instanceMethod yX1_remember, Cond.selects RX1 yX1_remember yX1_remember, Cond.initialized RX1, Cond.code yX1_remember cX1_remember 3 none, Cond.fieldLink RX1 9 "PopularMatchings$History" "count" "I", Cond.fieldLink RX1 17 "PopularMatchings$History" "presents" "[LPopularMatchings$Matching;", Cond.fieldLink RX1 21 "PopularMatchings$History" "saveds" "[LPopularMatchings$Matching;", Cond.methodLink RX1 25 yX1_dropOldest, Cond.instanceMethod yX1_dropOldest, Cond.selects RX1 yX1_dropOldest yX1_dropOldest]
def wsX5_assign_r3 : List Cond := [Cond.code yX1_dropOldest cX1_dropOldest 2 none, Cond.methodLink RX1 28 yX3_copyFrom, Cond.instanceMethod yX3_copyFrom, Cond.selects RX3 yX3_copyFrom yX3_copyFrom, Cond.code yX3_copyFrom cX3_copyFrom 3 none]
def wsX5_assign : List Cond := .code yX5_assign cX5_assign 4 (some .int) :: ((wsX5_assign_r1 ++ (wsX5_assign_r2 ++ wsX5_assign_r3)) ++ wsX50 ++ wsX20 ++ wsX30 ++ wsX10)
def wsX5_postOf : List Cond := .code yX5_postOf cX5_postOf 2 (some .int) :: ([.fieldLink RX5 10 "PopularMatchings" "instance" "LPopularMatchings$Instance;", .fieldLink RX5 19 "PopularMatchings" "present" "LPopularMatchings$Matching;", .fieldLink RX5 96 "PopularMatchings$Matching" "posts" "[I", .methodLink RX5 69 yX2_isApplicant, .instanceMethod yX2_isApplicant, .selects RX2 yX2_isApplicant yX2_isApplicant, .initialized RX2, .code yX2_isApplicant cX2_isApplicant 2 (some .boolean), .fieldLink RX2 25 "PopularMatchings$Instance" "applicants" "I"] ++ wsX50 ++ wsX30 ++ wsX20)
def wsX5_size : List Cond := .code yX5_size cX5_size 1 (some .int) :: ([.fieldLink RX5 19 "PopularMatchings" "present" "LPopularMatchings$Matching;", .methodLink RX5 103 yX3_countPlaced, .instanceMethod yX3_countPlaced, .selects RX3 yX3_countPlaced yX3_countPlaced, .initialized RX3, .code yX3_countPlaced cX3_countPlaced 3 (some .int), .fieldLink RX3 9 "PopularMatchings$Matching" "posts" "[I"] ++ wsX50 ++ wsX30)
def wsX5_isParetoOptimal_r1 : List Cond := [Cond.fieldLink RX5 39 "PopularMatchings" "challengers" "LPopularMatchings$ChallengerSearch;", Cond.fieldLink RX5 10 "PopularMatchings" "instance" "LPopularMatchings$Instance;", Cond.fieldLink RX5 19 "PopularMatchings" "present" "LPopularMatchings$Matching;", Cond.methodLink RX5 107 yX0_bestKey, Cond.instanceMethod yX0_bestKey, Cond.selects RX0 yX0_bestKey yX0_bestKey, Cond.initialized RX0, Cond.code yX0_bestKey cX0_bestKey 8 (some .int), Cond.fieldLink RX0 23 "PopularMatchings$ChallengerSearch" "FILL_OF_POST" "[I", Cond.fieldLink RX0 26 "PopularMatchings$Instance" "posts" "I", Cond.fieldLink RX0 15 "PopularMatchings$ChallengerSearch" "best" "[I", Cond.constant RX0 32 (-1073741824), Cond.constant RX0 18 (262143), Cond.fieldLink RX0 33 "PopularMatchings$Instance" "applicants" "I", Cond.fieldLink RX0 36 "PopularMatchings$Matching" "posts" "[I", Cond.fieldLink RX0 44 "PopularMatchings$Instance" "lengths" "[I", Cond.methodLink RX0 51 Lib.Math.max.name, Cond.static Lib.Math.max.name, Cond.initialized "java/lang/Math", Cond.code Lib.Math.max.name Lib.Math.max.code 2 (some .int), Cond.methodLink RX0 40 yX2_rankOf, Cond.instanceMethod yX2_rankOf, Cond.selects RX2 yX2_rankOf yX2_rankOf, Cond.initialized RX2]
def wsX5_isParetoOptimal_r2 : List Cond := [Cond.code yX2_rankOf cX2_rankOf 4 (some .int), Cond.fieldLink RX2 15 "PopularMatchings$Instance" "lengths" "[I", Cond.methodLink RX2 36 yX2_listed, Cond.instanceMethod yX2_listed, Cond.selects RX2 yX2_listed yX2_listed, Cond.code yX2_listed cX2_listed 3 (some .int), Cond.fieldLink RX2 18 "PopularMatchings$Instance" "lists" "[I", Cond.methodLink RX0 47 yX0_letChoose, Cond.instanceMethod yX0_letChoose, Cond.selects RX0 yX0_letChoose yX0_letChoose, Cond.code yX0_letChoose cX0_letChoose 11 none, Cond.fieldLink RX0 11 "PopularMatchings$ChallengerSearch" "placed" "[I", Cond.fieldLink RX0 66 "PopularMatchings$Instance" "capacities" "[I", Cond.methodLink RX0 56 yX2_vote, Cond.static yX2_vote, Cond.code yX2_vote cX2_vote 2 (some .int), Cond.methodLink RX0 19 yX0_placeShift, Cond.static yX0_placeShift, Cond.code yX0_placeShift cX0_placeShift 1 (some .int), Cond.methodLink RX0 59 yX0_raise, Cond.instanceMethod yX0_raise, Cond.selects RX0 yX0_raise yX0_raise, Cond.code yX0_raise cX0_raise 3 none, Cond.methodLink RX0 63 yX2_listed]
def wsX5_isParetoOptimal_r3 : List Cond := [Cond.methodLink RX5 111 yX0_marginIn, Cond.static yX0_marginIn, Cond.code yX0_marginIn cX0_marginIn 1 (some .int)]
def wsX5_isParetoOptimal : List Cond := .code yX5_isParetoOptimal cX5_isParetoOptimal 2 (some .int) :: ((wsX5_isParetoOptimal_r1 ++ (wsX5_isParetoOptimal_r2 ++ wsX5_isParetoOptimal_r3)) ++ wsX50 ++ wsX20 ++ wsX00 ++ wsX30)
def wsX5_save : List Cond := .code yX5_save cX5_save 1 (some .int) :: ([.fieldLink RX5 23 "PopularMatchings" "saved" "LPopularMatchings$Matching;", .fieldLink RX5 19 "PopularMatchings" "present" "LPopularMatchings$Matching;", .methodLink RX5 114 yX3_copyFrom, .instanceMethod yX3_copyFrom, .selects RX3 yX3_copyFrom yX3_copyFrom, .initialized RX3, .code yX3_copyFrom cX3_copyFrom 3 none, .fieldLink RX3 9 "PopularMatchings$Matching" "posts" "[I", .methodLink RX5 103 yX3_countPlaced, .instanceMethod yX3_countPlaced, .selects RX3 yX3_countPlaced yX3_countPlaced, .code yX3_countPlaced cX3_countPlaced 3 (some .int)] ++ wsX50 ++ wsX30)
def wsX5_swapSaved_r1 : List Cond := [Cond.fieldLink RX5 26 "PopularMatchings" "draft" "LPopularMatchings$Matching;", Cond.fieldLink RX5 23 "PopularMatchings" "saved" "LPopularMatchings$Matching;", Cond.fieldLink RX5 32 "PopularMatchings" "history" "LPopularMatchings$History;", Cond.fieldLink RX5 19 "PopularMatchings" "present" "LPopularMatchings$Matching;", Cond.methodLink RX5 114 yX3_copyFrom, Cond.instanceMethod yX3_copyFrom, Cond.selects RX3 yX3_copyFrom yX3_copyFrom, Cond.initialized RX3, Cond.code yX3_copyFrom cX3_copyFrom 3 none, Cond.fieldLink RX3 9 "PopularMatchings$Matching" "posts" "[I", Cond.methodLink RX5 99 yX1_remember, Cond.instanceMethod yX1_remember, Cond.selects RX1 yX1_remember yX1_remember, Cond.initialized RX1, Cond.code yX1_remember cX1_remember 3 none, Cond.fieldLink RX1 9 "PopularMatchings$History" "count" "I", Cond.fieldLink RX1 17 "PopularMatchings$History" "presents" "[LPopularMatchings$Matching;", Cond.fieldLink RX1 21 "PopularMatchings$History" "saveds" "[LPopularMatchings$Matching;", Cond.methodLink RX1 25 yX1_dropOldest, Cond.instanceMethod yX1_dropOldest, Cond.selects RX1 yX1_dropOldest yX1_dropOldest, Cond.code yX1_dropOldest cX1_dropOldest 2 none, Cond.methodLink RX1 28 yX3_copyFrom, Cond.methodLink RX5 103 yX3_countPlaced]
def wsX5_swapSaved_r2 : List Cond := [Cond.instanceMethod yX3_countPlaced, Cond.selects RX3 yX3_countPlaced yX3_countPlaced, Cond.code yX3_countPlaced cX3_countPlaced 3 (some .int)]
def wsX5_swapSaved : List Cond := .code yX5_swapSaved cX5_swapSaved 1 (some .int) :: ((wsX5_swapSaved_r1 ++ wsX5_swapSaved_r2) ++ wsX50 ++ wsX30 ++ wsX10)
def wsX5_marginOverSaved : List Cond := .code yX5_marginOverSaved cX5_marginOverSaved 5 (some .int) :: ([.fieldLink RX5 10 "PopularMatchings" "instance" "LPopularMatchings$Instance;", .fieldLink RX5 50 "PopularMatchings$Instance" "applicants" "I", .fieldLink RX5 19 "PopularMatchings" "present" "LPopularMatchings$Matching;", .fieldLink RX5 96 "PopularMatchings$Matching" "posts" "[I", .fieldLink RX5 23 "PopularMatchings" "saved" "LPopularMatchings$Matching;", .methodLink RX5 118 yX2_rankOf, .instanceMethod yX2_rankOf, .selects RX2 yX2_rankOf yX2_rankOf, .initialized RX2, .code yX2_rankOf cX2_rankOf 4 (some .int), .fieldLink RX2 15 "PopularMatchings$Instance" "lengths" "[I", .methodLink RX2 36 yX2_listed, .instanceMethod yX2_listed, .selects RX2 yX2_listed yX2_listed, .code yX2_listed cX2_listed 3 (some .int), .fieldLink RX2 18 "PopularMatchings$Instance" "lists" "[I", .methodLink RX5 121 yX2_vote, .static yX2_vote, .code yX2_vote cX2_vote 2 (some .int)] ++ wsX50 ++ wsX20 ++ wsX30)
def wsX5_unpopularityMargin_r1 : List Cond := [Cond.fieldLink RX5 39 "PopularMatchings" "challengers" "LPopularMatchings$ChallengerSearch;", Cond.fieldLink RX5 10 "PopularMatchings" "instance" "LPopularMatchings$Instance;", Cond.fieldLink RX5 19 "PopularMatchings" "present" "LPopularMatchings$Matching;", Cond.methodLink RX5 107 yX0_bestKey, Cond.instanceMethod yX0_bestKey, Cond.selects RX0 yX0_bestKey yX0_bestKey, Cond.initialized RX0, Cond.code yX0_bestKey cX0_bestKey 8 (some .int), Cond.fieldLink RX0 23 "PopularMatchings$ChallengerSearch" "FILL_OF_POST" "[I", Cond.fieldLink RX0 26 "PopularMatchings$Instance" "posts" "I", Cond.fieldLink RX0 15 "PopularMatchings$ChallengerSearch" "best" "[I", Cond.constant RX0 32 (-1073741824), Cond.constant RX0 18 (262143), Cond.fieldLink RX0 33 "PopularMatchings$Instance" "applicants" "I", Cond.fieldLink RX0 36 "PopularMatchings$Matching" "posts" "[I", Cond.fieldLink RX0 44 "PopularMatchings$Instance" "lengths" "[I", Cond.methodLink RX0 51 Lib.Math.max.name, Cond.static Lib.Math.max.name, Cond.initialized "java/lang/Math", Cond.code Lib.Math.max.name Lib.Math.max.code 2 (some .int), Cond.methodLink RX0 40 yX2_rankOf, Cond.instanceMethod yX2_rankOf, Cond.selects RX2 yX2_rankOf yX2_rankOf, Cond.initialized RX2]
def wsX5_unpopularityMargin_r2 : List Cond := [Cond.code yX2_rankOf cX2_rankOf 4 (some .int), Cond.fieldLink RX2 15 "PopularMatchings$Instance" "lengths" "[I", Cond.methodLink RX2 36 yX2_listed, Cond.instanceMethod yX2_listed, Cond.selects RX2 yX2_listed yX2_listed, Cond.code yX2_listed cX2_listed 3 (some .int), Cond.fieldLink RX2 18 "PopularMatchings$Instance" "lists" "[I", Cond.methodLink RX0 47 yX0_letChoose, Cond.instanceMethod yX0_letChoose, Cond.selects RX0 yX0_letChoose yX0_letChoose, Cond.code yX0_letChoose cX0_letChoose 11 none, Cond.fieldLink RX0 11 "PopularMatchings$ChallengerSearch" "placed" "[I", Cond.fieldLink RX0 66 "PopularMatchings$Instance" "capacities" "[I", Cond.methodLink RX0 56 yX2_vote, Cond.static yX2_vote, Cond.code yX2_vote cX2_vote 2 (some .int), Cond.methodLink RX0 19 yX0_placeShift, Cond.static yX0_placeShift, Cond.code yX0_placeShift cX0_placeShift 1 (some .int), Cond.methodLink RX0 59 yX0_raise, Cond.instanceMethod yX0_raise, Cond.selects RX0 yX0_raise yX0_raise, Cond.code yX0_raise cX0_raise 3 none, Cond.methodLink RX0 63 yX2_listed]
def wsX5_unpopularityMargin_r3 : List Cond := [Cond.methodLink RX5 111 yX0_marginIn, Cond.static yX0_marginIn, Cond.code yX0_marginIn cX0_marginIn 1 (some .int)]
def wsX5_unpopularityMargin : List Cond := .code yX5_unpopularityMargin cX5_unpopularityMargin 1 (some .int) :: ((wsX5_unpopularityMargin_r1 ++ (wsX5_unpopularityMargin_r2 ++ wsX5_unpopularityMargin_r3)) ++ wsX50 ++ wsX20 ++ wsX00 ++ wsX30)
def wsX5_challengerPost_r1 : List Cond := [Cond.fieldLink RX5 10 "PopularMatchings" "instance" "LPopularMatchings$Instance;", Cond.fieldLink RX5 39 "PopularMatchings" "challengers" "LPopularMatchings$ChallengerSearch;", Cond.fieldLink RX5 19 "PopularMatchings" "present" "LPopularMatchings$Matching;", Cond.methodLink RX5 69 yX2_isApplicant, Cond.instanceMethod yX2_isApplicant, Cond.selects RX2 yX2_isApplicant yX2_isApplicant, Cond.initialized RX2, Cond.code yX2_isApplicant cX2_isApplicant 2 (some .boolean), Cond.fieldLink RX2 25 "PopularMatchings$Instance" "applicants" "I", Cond.methodLink RX5 107 yX0_bestKey, Cond.instanceMethod yX0_bestKey, Cond.selects RX0 yX0_bestKey yX0_bestKey, Cond.initialized RX0, Cond.code yX0_bestKey cX0_bestKey 8 (some .int), Cond.fieldLink RX0 23 "PopularMatchings$ChallengerSearch" "FILL_OF_POST" "[I", Cond.fieldLink RX0 26 "PopularMatchings$Instance" "posts" "I", Cond.fieldLink RX0 15 "PopularMatchings$ChallengerSearch" "best" "[I", Cond.constant RX0 32 (-1073741824), Cond.constant RX0 18 (262143), Cond.fieldLink RX0 33 "PopularMatchings$Instance" "applicants" "I", Cond.fieldLink RX0 36 "PopularMatchings$Matching" "posts" "[I", Cond.fieldLink RX0 44 "PopularMatchings$Instance" "lengths" "[I", Cond.methodLink RX0 51 Lib.Math.max.name, Cond.static Lib.Math.max.name]
def wsX5_challengerPost_r2 : List Cond := [Cond.initialized "java/lang/Math", Cond.code Lib.Math.max.name Lib.Math.max.code 2 (some .int), Cond.methodLink RX0 40 yX2_rankOf, Cond.instanceMethod yX2_rankOf, Cond.selects RX2 yX2_rankOf yX2_rankOf, Cond.code yX2_rankOf cX2_rankOf 4 (some .int), Cond.fieldLink RX2 15 "PopularMatchings$Instance" "lengths" "[I", Cond.methodLink RX2 36 yX2_listed, Cond.instanceMethod yX2_listed, Cond.selects RX2 yX2_listed yX2_listed, Cond.code yX2_listed cX2_listed 3 (some .int), Cond.fieldLink RX2 18 "PopularMatchings$Instance" "lists" "[I", Cond.methodLink RX0 47 yX0_letChoose, Cond.instanceMethod yX0_letChoose, Cond.selects RX0 yX0_letChoose yX0_letChoose, Cond.code yX0_letChoose cX0_letChoose 11 none, Cond.fieldLink RX0 11 "PopularMatchings$ChallengerSearch" "placed" "[I", Cond.fieldLink RX0 66 "PopularMatchings$Instance" "capacities" "[I", Cond.methodLink RX0 56 yX2_vote, Cond.static yX2_vote, Cond.code yX2_vote cX2_vote 2 (some .int), Cond.methodLink RX0 19 yX0_placeShift, Cond.static yX0_placeShift, Cond.code yX0_placeShift cX0_placeShift 1 (some .int)]
def wsX5_challengerPost_r3 : List Cond := [Cond.methodLink RX0 59 yX0_raise, Cond.instanceMethod yX0_raise, Cond.selects RX0 yX0_raise yX0_raise, Cond.code yX0_raise cX0_raise 3 none, Cond.methodLink RX0 63 yX2_listed, Cond.methodLink RX5 124 yX0_postIn, Cond.static yX0_postIn, Cond.code yX0_postIn cX0_postIn 4 (some .int)]
def wsX5_challengerPost : List Cond := .code yX5_challengerPost cX5_challengerPost 2 (some .int) :: ((wsX5_challengerPost_r1 ++ (wsX5_challengerPost_r2 ++ wsX5_challengerPost_r3)) ++ wsX50 ++ wsX20 ++ wsX00 ++ wsX30)
def wsX5_adoptDraft_r1 : List Cond := [Cond.fieldLink RX5 32 "PopularMatchings" "history" "LPopularMatchings$History;", Cond.fieldLink RX5 19 "PopularMatchings" "present" "LPopularMatchings$Matching;", Cond.fieldLink RX5 23 "PopularMatchings" "saved" "LPopularMatchings$Matching;", Cond.fieldLink RX5 26 "PopularMatchings" "draft" "LPopularMatchings$Matching;", Cond.methodLink RX5 99 yX1_remember, Cond.instanceMethod yX1_remember, Cond.selects RX1 yX1_remember yX1_remember, Cond.initialized RX1, Cond.code yX1_remember cX1_remember 3 none, Cond.fieldLink RX1 9 "PopularMatchings$History" "count" "I", Cond.fieldLink RX1 17 "PopularMatchings$History" "presents" "[LPopularMatchings$Matching;", Cond.fieldLink RX1 21 "PopularMatchings$History" "saveds" "[LPopularMatchings$Matching;", Cond.methodLink RX1 25 yX1_dropOldest, Cond.instanceMethod yX1_dropOldest, Cond.selects RX1 yX1_dropOldest yX1_dropOldest, Cond.code yX1_dropOldest cX1_dropOldest 2 none, Cond.methodLink RX1 28 yX3_copyFrom, Cond.instanceMethod yX3_copyFrom, Cond.selects RX3 yX3_copyFrom yX3_copyFrom, Cond.initialized RX3, Cond.code yX3_copyFrom cX3_copyFrom 3 none, Cond.fieldLink RX3 9 "PopularMatchings$Matching" "posts" "[I", Cond.methodLink RX5 114 yX3_copyFrom, Cond.methodLink RX5 103 yX3_countPlaced]
def wsX5_adoptDraft_r2 : List Cond := [Cond.instanceMethod yX3_countPlaced, Cond.selects RX3 yX3_countPlaced yX3_countPlaced, Cond.code yX3_countPlaced cX3_countPlaced 3 (some .int)]
def wsX5_adoptDraft : List Cond := .code yX5_adoptDraft cX5_adoptDraft 1 (some .int) :: ((wsX5_adoptDraft_r1 ++ wsX5_adoptDraft_r2) ++ wsX50 ++ wsX10 ++ wsX30)
def wsX5_adoptChallenger_r1 : List Cond := [Cond.fieldLink RX5 39 "PopularMatchings" "challengers" "LPopularMatchings$ChallengerSearch;", Cond.fieldLink RX5 10 "PopularMatchings" "instance" "LPopularMatchings$Instance;", Cond.fieldLink RX5 19 "PopularMatchings" "present" "LPopularMatchings$Matching;", Cond.fieldLink RX5 26 "PopularMatchings" "draft" "LPopularMatchings$Matching;", Cond.fieldLink RX5 50 "PopularMatchings$Instance" "applicants" "I", Cond.fieldLink RX5 96 "PopularMatchings$Matching" "posts" "[I", Cond.methodLink RX5 107 yX0_bestKey, Cond.instanceMethod yX0_bestKey, Cond.selects RX0 yX0_bestKey yX0_bestKey, Cond.initialized RX0, Cond.code yX0_bestKey cX0_bestKey 8 (some .int), Cond.fieldLink RX0 23 "PopularMatchings$ChallengerSearch" "FILL_OF_POST" "[I", Cond.fieldLink RX0 26 "PopularMatchings$Instance" "posts" "I", Cond.fieldLink RX0 15 "PopularMatchings$ChallengerSearch" "best" "[I", Cond.constant RX0 32 (-1073741824), Cond.constant RX0 18 (262143), Cond.fieldLink RX0 33 "PopularMatchings$Instance" "applicants" "I", Cond.fieldLink RX0 36 "PopularMatchings$Matching" "posts" "[I", Cond.fieldLink RX0 44 "PopularMatchings$Instance" "lengths" "[I", Cond.methodLink RX0 51 Lib.Math.max.name, Cond.static Lib.Math.max.name, Cond.initialized "java/lang/Math", Cond.code Lib.Math.max.name Lib.Math.max.code 2 (some .int), Cond.methodLink RX0 40 yX2_rankOf]
def wsX5_adoptChallenger_r2 : List Cond := [Cond.instanceMethod yX2_rankOf, Cond.selects RX2 yX2_rankOf yX2_rankOf, Cond.initialized RX2, Cond.code yX2_rankOf cX2_rankOf 4 (some .int), Cond.fieldLink RX2 15 "PopularMatchings$Instance" "lengths" "[I", Cond.methodLink RX2 36 yX2_listed, Cond.instanceMethod yX2_listed, Cond.selects RX2 yX2_listed yX2_listed, Cond.code yX2_listed cX2_listed 3 (some .int), Cond.fieldLink RX2 18 "PopularMatchings$Instance" "lists" "[I", Cond.methodLink RX0 47 yX0_letChoose, Cond.instanceMethod yX0_letChoose, Cond.selects RX0 yX0_letChoose yX0_letChoose, Cond.code yX0_letChoose cX0_letChoose 11 none, Cond.fieldLink RX0 11 "PopularMatchings$ChallengerSearch" "placed" "[I", Cond.fieldLink RX0 66 "PopularMatchings$Instance" "capacities" "[I", Cond.methodLink RX0 56 yX2_vote, Cond.static yX2_vote, Cond.code yX2_vote cX2_vote 2 (some .int), Cond.methodLink RX0 19 yX0_placeShift, Cond.static yX0_placeShift, Cond.code yX0_placeShift cX0_placeShift 1 (some .int), Cond.methodLink RX0 59 yX0_raise, Cond.instanceMethod yX0_raise]
def wsX5_adoptChallenger_r3 : List Cond := [Cond.selects RX0 yX0_raise yX0_raise, Cond.code yX0_raise cX0_raise 3 none, Cond.methodLink RX0 63 yX2_listed, Cond.methodLink RX5 127 yX3_clear, Cond.instanceMethod yX3_clear, Cond.selects RX3 yX3_clear yX3_clear, Cond.initialized RX3, Cond.code yX3_clear cX3_clear 2 none, Cond.fieldLink RX3 9 "PopularMatchings$Matching" "posts" "[I", Cond.methodLink RX5 124 yX0_postIn, Cond.static yX0_postIn, Cond.code yX0_postIn cX0_postIn 4 (some .int), Cond.methodLink RX5 130 yX5_adoptDraft, Cond.instanceMethod yX5_adoptDraft, Cond.selects RX5 yX5_adoptDraft yX5_adoptDraft, Cond.initialized RX5, Cond.code yX5_adoptDraft cX5_adoptDraft 1 (some .int), Cond.fieldLink RX5 32 "PopularMatchings" "history" "LPopularMatchings$History;", Cond.fieldLink RX5 23 "PopularMatchings" "saved" "LPopularMatchings$Matching;", Cond.methodLink RX5 99 yX1_remember, Cond.instanceMethod yX1_remember, Cond.selects RX1 yX1_remember yX1_remember, Cond.initialized RX1, Cond.code yX1_remember cX1_remember 3 none]
def wsX5_adoptChallenger_r4 : List Cond := [Cond.fieldLink RX1 9 "PopularMatchings$History" "count" "I", Cond.fieldLink RX1 17 "PopularMatchings$History" "presents" "[LPopularMatchings$Matching;", Cond.fieldLink RX1 21 "PopularMatchings$History" "saveds" "[LPopularMatchings$Matching;", Cond.methodLink RX1 25 yX1_dropOldest, Cond.instanceMethod yX1_dropOldest, Cond.selects RX1 yX1_dropOldest yX1_dropOldest, Cond.code yX1_dropOldest cX1_dropOldest 2 none, Cond.methodLink RX1 28 yX3_copyFrom, Cond.instanceMethod yX3_copyFrom, Cond.selects RX3 yX3_copyFrom yX3_copyFrom, Cond.code yX3_copyFrom cX3_copyFrom 3 none, Cond.methodLink RX5 114 yX3_copyFrom, Cond.methodLink RX5 103 yX3_countPlaced, Cond.instanceMethod yX3_countPlaced, Cond.selects RX3 yX3_countPlaced yX3_countPlaced, Cond.code yX3_countPlaced cX3_countPlaced 3 (some .int), Cond.methodLink RX5 111 yX0_marginIn, Cond.static yX0_marginIn, Cond.code yX0_marginIn cX0_marginIn 1 (some .int)]
def wsX5_adoptChallenger : List Cond := .code yX5_adoptChallenger cX5_adoptChallenger 3 (some .int) :: ((wsX5_adoptChallenger_r1 ++ (wsX5_adoptChallenger_r2 ++ (wsX5_adoptChallenger_r3 ++ wsX5_adoptChallenger_r4))) ++ wsX50 ++ wsX20 ++ wsX30 ++ wsX00 ++ wsX10)
def wsX5_popularCount_r1 : List Cond := [Cond.fieldLink RX5 46 "PopularMatchings" "populars" "LPopularMatchings$PopularSearch;", Cond.fieldLink RX5 10 "PopularMatchings" "instance" "LPopularMatchings$Instance;", Cond.methodLink RX5 133 yX4_collect, Cond.instanceMethod yX4_collect, Cond.selects RX4 yX4_collect yX4_collect, Cond.initialized RX4, Cond.code yX4_collect cX4_collect 4 (some .int), Cond.fieldLink RX4 37 "PopularMatchings$Instance" "applicants" "I", Cond.fieldLink RX4 30 "PopularMatchings$PopularSearch" "found" "[I", Cond.methodLink RX4 33 yX4_prepare, Cond.instanceMethod yX4_prepare, Cond.selects RX4 yX4_prepare yX4_prepare, Cond.code yX4_prepare cX4_prepare 6 none, Cond.fieldLink RX4 9 "PopularMatchings$PopularSearch" "firsts" "[I", Cond.fieldLink RX4 15 "PopularMatchings$PopularSearch" "lower" "[I", Cond.fieldLink RX4 18 "PopularMatchings$PopularSearch" "higher" "[I", Cond.fieldLink RX4 66 "PopularMatchings$Instance" "posts" "I", Cond.fieldLink RX4 21 "PopularMatchings$PopularSearch" "wanted" "[I", Cond.fieldLink RX4 71 "PopularMatchings$Instance" "capacities" "[I", Cond.methodLink RX4 74 Lib.Math.min.name, Cond.static Lib.Math.min.name, Cond.initialized "java/lang/Math", Cond.code Lib.Math.min.name Lib.Math.min.code 2 (some .int), Cond.methodLink RX4 59 yX2_firstOf]
def wsX5_popularCount_r2 : List Cond := [Cond.instanceMethod yX2_firstOf, Cond.selects RX2 yX2_firstOf yX2_firstOf, Cond.initialized RX2, Cond.code yX2_firstOf cX2_firstOf 2 (some .int), Cond.fieldLink RX2 15 "PopularMatchings$Instance" "lengths" "[I", Cond.methodLink RX2 36 yX2_listed, Cond.instanceMethod yX2_listed, Cond.selects RX2 yX2_listed yX2_listed, Cond.code yX2_listed cX2_listed 3 (some .int), Cond.fieldLink RX2 18 "PopularMatchings$Instance" "lists" "[I", Cond.methodLink RX4 63 yX2_secondOf, Cond.instanceMethod yX2_secondOf, Cond.selects RX2 yX2_secondOf yX2_secondOf, Cond.code yX2_secondOf cX2_secondOf 4 (some .int), Cond.fieldLink RX2 9 "PopularMatchings$Instance" "capacities" "[I", Cond.methodLink RX2 39 yX2_countFirst, Cond.instanceMethod yX2_countFirst, Cond.selects RX2 yX2_countFirst yX2_countFirst, Cond.code yX2_countFirst cX2_countFirst 4 (some .int), Cond.fieldLink RX2 25 "PopularMatchings$Instance" "applicants" "I", Cond.methodLink RX2 43 yX2_firstOf, Cond.methodLink RX4 68 yX2_countFirst, Cond.methodLink RX4 43 yX4_isPopular, Cond.instanceMethod yX4_isPopular]
def wsX5_popularCount_r3 : List Cond := [Cond.selects RX4 yX4_isPopular yX4_isPopular, Cond.code yX4_isPopular cX4_isPopular 5 (some .boolean), Cond.fieldLink RX4 24 "PopularMatchings$PopularSearch" "held" "[I", Cond.fieldLink RX4 27 "PopularMatchings$PopularSearch" "heldAsFirst" "[I", Cond.methodLink RX4 80 yX4_takesHigher, Cond.static yX4_takesHigher, Cond.code yX4_takesHigher cX4_takesHigher 3 (some .boolean), Cond.methodLink RX4 55 yX4_postIn, Cond.instanceMethod yX4_postIn, Cond.selects RX4 yX4_postIn yX4_postIn, Cond.code yX4_postIn cX4_postIn 4 (some .int), Cond.methodLink RX4 84 yX4_count, Cond.instanceMethod yX4_count, Cond.selects RX4 yX4_count yX4_count, Cond.code yX4_count cX4_count 3 none]
def wsX5_popularCount : List Cond := .code yX5_popularCount cX5_popularCount 1 (some .int) :: ((wsX5_popularCount_r1 ++ (wsX5_popularCount_r2 ++ wsX5_popularCount_r3)) ++ wsX50 ++ wsX20 ++ wsX40)
def wsX5_greatestPopularSize_r1 : List Cond := [Cond.fieldLink RX5 46 "PopularMatchings" "populars" "LPopularMatchings$PopularSearch;", Cond.fieldLink RX5 10 "PopularMatchings" "instance" "LPopularMatchings$Instance;", Cond.fieldLink RX5 26 "PopularMatchings" "draft" "LPopularMatchings$Matching;", Cond.methodLink RX5 141 Lib.Math.max.name, Cond.static Lib.Math.max.name, Cond.initialized "java/lang/Math", Cond.code Lib.Math.max.name Lib.Math.max.code 2 (some .int), Cond.methodLink RX5 133 yX4_collect, Cond.instanceMethod yX4_collect, Cond.selects RX4 yX4_collect yX4_collect, Cond.initialized RX4, Cond.code yX4_collect cX4_collect 4 (some .int), Cond.fieldLink RX4 37 "PopularMatchings$Instance" "applicants" "I", Cond.fieldLink RX4 30 "PopularMatchings$PopularSearch" "found" "[I", Cond.methodLink RX4 33 yX4_prepare, Cond.instanceMethod yX4_prepare, Cond.selects RX4 yX4_prepare yX4_prepare, Cond.code yX4_prepare cX4_prepare 6 none, Cond.fieldLink RX4 9 "PopularMatchings$PopularSearch" "firsts" "[I", Cond.fieldLink RX4 15 "PopularMatchings$PopularSearch" "lower" "[I", Cond.fieldLink RX4 18 "PopularMatchings$PopularSearch" "higher" "[I", Cond.fieldLink RX4 66 "PopularMatchings$Instance" "posts" "I", Cond.fieldLink RX4 21 "PopularMatchings$PopularSearch" "wanted" "[I", Cond.fieldLink RX4 71 "PopularMatchings$Instance" "capacities" "[I"]
def wsX5_greatestPopularSize_r2 : List Cond := [Cond.methodLink RX4 74 Lib.Math.min.name, Cond.static Lib.Math.min.name, Cond.code Lib.Math.min.name Lib.Math.min.code 2 (some .int), Cond.methodLink RX4 59 yX2_firstOf, Cond.instanceMethod yX2_firstOf, Cond.selects RX2 yX2_firstOf yX2_firstOf, Cond.initialized RX2, Cond.code yX2_firstOf cX2_firstOf 2 (some .int), Cond.fieldLink RX2 15 "PopularMatchings$Instance" "lengths" "[I", Cond.methodLink RX2 36 yX2_listed, Cond.instanceMethod yX2_listed, Cond.selects RX2 yX2_listed yX2_listed, Cond.code yX2_listed cX2_listed 3 (some .int), Cond.fieldLink RX2 18 "PopularMatchings$Instance" "lists" "[I", Cond.methodLink RX4 63 yX2_secondOf, Cond.instanceMethod yX2_secondOf, Cond.selects RX2 yX2_secondOf yX2_secondOf, Cond.code yX2_secondOf cX2_secondOf 4 (some .int), Cond.fieldLink RX2 9 "PopularMatchings$Instance" "capacities" "[I", Cond.methodLink RX2 39 yX2_countFirst, Cond.instanceMethod yX2_countFirst, Cond.selects RX2 yX2_countFirst yX2_countFirst, Cond.code yX2_countFirst cX2_countFirst 4 (some .int), Cond.fieldLink RX2 25 "PopularMatchings$Instance" "applicants" "I"]
def wsX5_greatestPopularSize_r3 : List Cond := [Cond.methodLink RX2 43 yX2_firstOf, Cond.methodLink RX4 68 yX2_countFirst, Cond.methodLink RX4 43 yX4_isPopular, Cond.instanceMethod yX4_isPopular, Cond.selects RX4 yX4_isPopular yX4_isPopular, Cond.code yX4_isPopular cX4_isPopular 5 (some .boolean), Cond.fieldLink RX4 24 "PopularMatchings$PopularSearch" "held" "[I", Cond.fieldLink RX4 27 "PopularMatchings$PopularSearch" "heldAsFirst" "[I", Cond.methodLink RX4 80 yX4_takesHigher, Cond.static yX4_takesHigher, Cond.code yX4_takesHigher cX4_takesHigher 3 (some .boolean), Cond.methodLink RX4 55 yX4_postIn, Cond.instanceMethod yX4_postIn, Cond.selects RX4 yX4_postIn yX4_postIn, Cond.code yX4_postIn cX4_postIn 4 (some .int), Cond.methodLink RX4 84 yX4_count, Cond.instanceMethod yX4_count, Cond.selects RX4 yX4_count yX4_count, Cond.code yX4_count cX4_count 3 none, Cond.methodLink RX5 137 yX4_write, Cond.instanceMethod yX4_write, Cond.selects RX4 yX4_write yX4_write, Cond.code yX4_write cX4_write 5 none, Cond.fieldLink RX4 52 "PopularMatchings$Matching" "posts" "[I"]
def wsX5_greatestPopularSize_r4 : List Cond := [Cond.methodLink RX4 47 yX3_clear, Cond.instanceMethod yX3_clear, Cond.selects RX3 yX3_clear yX3_clear, Cond.initialized RX3, Cond.code yX3_clear cX3_clear 2 none, Cond.fieldLink RX3 9 "PopularMatchings$Matching" "posts" "[I", Cond.methodLink RX5 103 yX3_countPlaced, Cond.instanceMethod yX3_countPlaced, Cond.selects RX3 yX3_countPlaced yX3_countPlaced, Cond.code yX3_countPlaced cX3_countPlaced 3 (some .int)]
def wsX5_greatestPopularSize : List Cond := .code yX5_greatestPopularSize cX5_greatestPopularSize 4 (some .int) :: ((wsX5_greatestPopularSize_r1 ++ (wsX5_greatestPopularSize_r2 ++ (wsX5_greatestPopularSize_r3 ++ wsX5_greatestPopularSize_r4))) ++ wsX50 ++ wsX20 ++ wsX40 ++ wsX30)
def wsX5_adoptPopular_r1 : List Cond := [Cond.fieldLink RX5 46 "PopularMatchings" "populars" "LPopularMatchings$PopularSearch;", Cond.fieldLink RX5 10 "PopularMatchings" "instance" "LPopularMatchings$Instance;", Cond.fieldLink RX5 26 "PopularMatchings" "draft" "LPopularMatchings$Matching;", Cond.methodLink RX5 133 yX4_collect, Cond.instanceMethod yX4_collect, Cond.selects RX4 yX4_collect yX4_collect, Cond.initialized RX4, Cond.code yX4_collect cX4_collect 4 (some .int), Cond.fieldLink RX4 37 "PopularMatchings$Instance" "applicants" "I", Cond.fieldLink RX4 30 "PopularMatchings$PopularSearch" "found" "[I", Cond.methodLink RX4 33 yX4_prepare, Cond.instanceMethod yX4_prepare, Cond.selects RX4 yX4_prepare yX4_prepare, Cond.code yX4_prepare cX4_prepare 6 none, Cond.fieldLink RX4 9 "PopularMatchings$PopularSearch" "firsts" "[I", Cond.fieldLink RX4 15 "PopularMatchings$PopularSearch" "lower" "[I", Cond.fieldLink RX4 18 "PopularMatchings$PopularSearch" "higher" "[I", Cond.fieldLink RX4 66 "PopularMatchings$Instance" "posts" "I", Cond.fieldLink RX4 21 "PopularMatchings$PopularSearch" "wanted" "[I", Cond.fieldLink RX4 71 "PopularMatchings$Instance" "capacities" "[I", Cond.methodLink RX4 74 Lib.Math.min.name, Cond.static Lib.Math.min.name, Cond.initialized "java/lang/Math", Cond.code Lib.Math.min.name Lib.Math.min.code 2 (some .int)]
def wsX5_adoptPopular_r2 : List Cond := [Cond.methodLink RX4 59 yX2_firstOf, Cond.instanceMethod yX2_firstOf, Cond.selects RX2 yX2_firstOf yX2_firstOf, Cond.initialized RX2, Cond.code yX2_firstOf cX2_firstOf 2 (some .int), Cond.fieldLink RX2 15 "PopularMatchings$Instance" "lengths" "[I", Cond.methodLink RX2 36 yX2_listed, Cond.instanceMethod yX2_listed, Cond.selects RX2 yX2_listed yX2_listed, Cond.code yX2_listed cX2_listed 3 (some .int), Cond.fieldLink RX2 18 "PopularMatchings$Instance" "lists" "[I", Cond.methodLink RX4 63 yX2_secondOf, Cond.instanceMethod yX2_secondOf, Cond.selects RX2 yX2_secondOf yX2_secondOf, Cond.code yX2_secondOf cX2_secondOf 4 (some .int), Cond.fieldLink RX2 9 "PopularMatchings$Instance" "capacities" "[I", Cond.methodLink RX2 39 yX2_countFirst, Cond.instanceMethod yX2_countFirst, Cond.selects RX2 yX2_countFirst yX2_countFirst, Cond.code yX2_countFirst cX2_countFirst 4 (some .int), Cond.fieldLink RX2 25 "PopularMatchings$Instance" "applicants" "I", Cond.methodLink RX2 43 yX2_firstOf, Cond.methodLink RX4 68 yX2_countFirst, Cond.methodLink RX4 43 yX4_isPopular]
def wsX5_adoptPopular_r3 : List Cond := [Cond.instanceMethod yX4_isPopular, Cond.selects RX4 yX4_isPopular yX4_isPopular, Cond.code yX4_isPopular cX4_isPopular 5 (some .boolean), Cond.fieldLink RX4 24 "PopularMatchings$PopularSearch" "held" "[I", Cond.fieldLink RX4 27 "PopularMatchings$PopularSearch" "heldAsFirst" "[I", Cond.methodLink RX4 80 yX4_takesHigher, Cond.static yX4_takesHigher, Cond.code yX4_takesHigher cX4_takesHigher 3 (some .boolean), Cond.methodLink RX4 55 yX4_postIn, Cond.instanceMethod yX4_postIn, Cond.selects RX4 yX4_postIn yX4_postIn, Cond.code yX4_postIn cX4_postIn 4 (some .int), Cond.methodLink RX4 84 yX4_count, Cond.instanceMethod yX4_count, Cond.selects RX4 yX4_count yX4_count, Cond.code yX4_count cX4_count 3 none, Cond.methodLink RX5 137 yX4_write, Cond.instanceMethod yX4_write, Cond.selects RX4 yX4_write yX4_write, Cond.code yX4_write cX4_write 5 none, Cond.fieldLink RX4 52 "PopularMatchings$Matching" "posts" "[I", Cond.methodLink RX4 47 yX3_clear, Cond.instanceMethod yX3_clear, Cond.selects RX3 yX3_clear yX3_clear]
def wsX5_adoptPopular_r4 : List Cond := [Cond.initialized RX3, Cond.code yX3_clear cX3_clear 2 none, Cond.fieldLink RX3 9 "PopularMatchings$Matching" "posts" "[I", Cond.methodLink RX5 130 yX5_adoptDraft, Cond.instanceMethod yX5_adoptDraft, Cond.selects RX5 yX5_adoptDraft yX5_adoptDraft, Cond.initialized RX5, Cond.code yX5_adoptDraft cX5_adoptDraft 1 (some .int), Cond.fieldLink RX5 32 "PopularMatchings" "history" "LPopularMatchings$History;", Cond.fieldLink RX5 19 "PopularMatchings" "present" "LPopularMatchings$Matching;", Cond.fieldLink RX5 23 "PopularMatchings" "saved" "LPopularMatchings$Matching;", Cond.methodLink RX5 99 yX1_remember, Cond.instanceMethod yX1_remember, Cond.selects RX1 yX1_remember yX1_remember, Cond.initialized RX1, Cond.code yX1_remember cX1_remember 3 none, Cond.fieldLink RX1 9 "PopularMatchings$History" "count" "I", Cond.fieldLink RX1 17 "PopularMatchings$History" "presents" "[LPopularMatchings$Matching;", Cond.fieldLink RX1 21 "PopularMatchings$History" "saveds" "[LPopularMatchings$Matching;", Cond.methodLink RX1 25 yX1_dropOldest, Cond.instanceMethod yX1_dropOldest, Cond.selects RX1 yX1_dropOldest yX1_dropOldest, Cond.code yX1_dropOldest cX1_dropOldest 2 none, Cond.methodLink RX1 28 yX3_copyFrom]
def wsX5_adoptPopular_r5 : List Cond := [Cond.instanceMethod yX3_copyFrom, Cond.selects RX3 yX3_copyFrom yX3_copyFrom, Cond.code yX3_copyFrom cX3_copyFrom 3 none, Cond.methodLink RX5 114 yX3_copyFrom, Cond.methodLink RX5 103 yX3_countPlaced, Cond.instanceMethod yX3_countPlaced, Cond.selects RX3 yX3_countPlaced yX3_countPlaced, Cond.code yX3_countPlaced cX3_countPlaced 3 (some .int)]
def wsX5_adoptPopular : List Cond := .code yX5_adoptPopular cX5_adoptPopular 2 (some .int) :: ((wsX5_adoptPopular_r1 ++ (wsX5_adoptPopular_r2 ++ (wsX5_adoptPopular_r3 ++ (wsX5_adoptPopular_r4 ++ wsX5_adoptPopular_r5)))) ++ wsX50 ++ wsX20 ++ wsX40 ++ wsX30 ++ wsX10)
def wsX5_mostPreferredFree : List Cond := .code yX5_mostPreferredFree cX5_mostPreferredFree 4 (some .int) :: ([.fieldLink RX5 10 "PopularMatchings" "instance" "LPopularMatchings$Instance;", .fieldLink RX5 80 "PopularMatchings$Instance" "lengths" "[I", .fieldLink RX5 26 "PopularMatchings" "draft" "LPopularMatchings$Matching;", .fieldLink RX5 65 "PopularMatchings$Instance" "capacities" "[I", .methodLink RX5 83 yX2_listed, .instanceMethod yX2_listed, .selects RX2 yX2_listed yX2_listed, .initialized RX2, .code yX2_listed cX2_listed 3 (some .int), .fieldLink RX2 18 "PopularMatchings$Instance" "lists" "[I", .methodLink RX5 93 yX3_othersAt, .instanceMethod yX3_othersAt, .selects RX3 yX3_othersAt yX3_othersAt, .initialized RX3, .code yX3_othersAt cX3_othersAt 5 (some .int), .fieldLink RX3 9 "PopularMatchings$Matching" "posts" "[I"] ++ wsX50 ++ wsX20 ++ wsX30)
def wsX5_adoptSerial_r1 : List Cond := [Cond.fieldLink RX5 10 "PopularMatchings" "instance" "LPopularMatchings$Instance;", Cond.fieldLink RX5 26 "PopularMatchings" "draft" "LPopularMatchings$Matching;", Cond.fieldLink RX5 50 "PopularMatchings$Instance" "applicants" "I", Cond.fieldLink RX5 96 "PopularMatchings$Matching" "posts" "[I", Cond.methodLink RX5 69 yX2_isApplicant, Cond.instanceMethod yX2_isApplicant, Cond.selects RX2 yX2_isApplicant yX2_isApplicant, Cond.initialized RX2, Cond.code yX2_isApplicant cX2_isApplicant 2 (some .boolean), Cond.fieldLink RX2 25 "PopularMatchings$Instance" "applicants" "I", Cond.methodLink RX5 127 yX3_clear, Cond.instanceMethod yX3_clear, Cond.selects RX3 yX3_clear yX3_clear, Cond.initialized RX3, Cond.code yX3_clear cX3_clear 2 none, Cond.fieldLink RX3 9 "PopularMatchings$Matching" "posts" "[I", Cond.methodLink RX5 146 yX5_mostPreferredFree, Cond.instanceMethod yX5_mostPreferredFree, Cond.selects RX5 yX5_mostPreferredFree yX5_mostPreferredFree, Cond.initialized RX5, Cond.code yX5_mostPreferredFree cX5_mostPreferredFree 4 (some .int), Cond.fieldLink RX5 80 "PopularMatchings$Instance" "lengths" "[I", Cond.fieldLink RX5 65 "PopularMatchings$Instance" "capacities" "[I", Cond.methodLink RX5 83 yX2_listed]
def wsX5_adoptSerial_r2 : List Cond := [Cond.instanceMethod yX2_listed, Cond.selects RX2 yX2_listed yX2_listed, Cond.code yX2_listed cX2_listed 3 (some .int), Cond.fieldLink RX2 18 "PopularMatchings$Instance" "lists" "[I", Cond.methodLink RX5 93 yX3_othersAt, Cond.instanceMethod yX3_othersAt, Cond.selects RX3 yX3_othersAt yX3_othersAt, Cond.code yX3_othersAt cX3_othersAt 5 (some .int), Cond.methodLink RX5 130 yX5_adoptDraft, Cond.instanceMethod yX5_adoptDraft, Cond.selects RX5 yX5_adoptDraft yX5_adoptDraft, Cond.code yX5_adoptDraft cX5_adoptDraft 1 (some .int), Cond.fieldLink RX5 32 "PopularMatchings" "history" "LPopularMatchings$History;", Cond.fieldLink RX5 19 "PopularMatchings" "present" "LPopularMatchings$Matching;", Cond.fieldLink RX5 23 "PopularMatchings" "saved" "LPopularMatchings$Matching;", Cond.methodLink RX5 99 yX1_remember, Cond.instanceMethod yX1_remember, Cond.selects RX1 yX1_remember yX1_remember, Cond.initialized RX1, Cond.code yX1_remember cX1_remember 3 none, Cond.fieldLink RX1 9 "PopularMatchings$History" "count" "I", Cond.fieldLink RX1 17 "PopularMatchings$History" "presents" "[LPopularMatchings$Matching;", Cond.fieldLink RX1 21 "PopularMatchings$History" "saveds" "[LPopularMatchings$Matching;", Cond.methodLink RX1 25 yX1_dropOldest]
def wsX5_adoptSerial_r3 : List Cond := [Cond.instanceMethod yX1_dropOldest, Cond.selects RX1 yX1_dropOldest yX1_dropOldest, Cond.code yX1_dropOldest cX1_dropOldest 2 none, Cond.methodLink RX1 28 yX3_copyFrom, Cond.instanceMethod yX3_copyFrom, Cond.selects RX3 yX3_copyFrom yX3_copyFrom, Cond.code yX3_copyFrom cX3_copyFrom 3 none, Cond.methodLink RX5 114 yX3_copyFrom, Cond.methodLink RX5 103 yX3_countPlaced, Cond.instanceMethod yX3_countPlaced, Cond.selects RX3 yX3_countPlaced yX3_countPlaced, Cond.code yX3_countPlaced cX3_countPlaced 3 (some .int)]
def wsX5_adoptSerial : List Cond := .code yX5_adoptSerial cX5_adoptSerial 3 (some .int) :: ((wsX5_adoptSerial_r1 ++ (wsX5_adoptSerial_r2 ++ wsX5_adoptSerial_r3)) ++ wsX50 ++ wsX20 ++ wsX30 ++ wsX10)
def wsX5_undo : List Cond := .code yX5_undo cX5_undo 1 (some .int) :: ([.fieldLink RX5 32 "PopularMatchings" "history" "LPopularMatchings$History;", .fieldLink RX5 149 "PopularMatchings$History" "count" "I", .fieldLink RX5 19 "PopularMatchings" "present" "LPopularMatchings$Matching;", .fieldLink RX5 23 "PopularMatchings" "saved" "LPopularMatchings$Matching;", .methodLink RX5 152 yX1_restore, .instanceMethod yX1_restore, .selects RX1 yX1_restore yX1_restore, .initialized RX1, .code yX1_restore cX1_restore 3 none, .fieldLink RX1 9 "PopularMatchings$History" "count" "I", .fieldLink RX1 17 "PopularMatchings$History" "presents" "[LPopularMatchings$Matching;", .fieldLink RX1 21 "PopularMatchings$History" "saveds" "[LPopularMatchings$Matching;", .methodLink RX1 28 yX3_copyFrom, .instanceMethod yX3_copyFrom, .selects RX3 yX3_copyFrom yX3_copyFrom, .initialized RX3, .code yX3_copyFrom cX3_copyFrom 3 none, .fieldLink RX3 9 "PopularMatchings$Matching" "posts" "[I"] ++ wsX50 ++ wsX10 ++ wsX30)
def wsX6_clears : List Cond := .code yX6_clears cX6_clears 2 none :: ([.fieldLink RX6 26 "PopularMatchingsModel" "now" "[I", .fieldLink RX6 45 "PopularMatchingsModel" "edits" "I"] ++ wsX60)
def wsX6_builds : List Cond := .code yX6_builds cX6_builds 4 none :: ([.fieldLink RX6 7 "PopularMatchingsModel" "applicants" "I", .fieldLink RX6 13 "PopularMatchingsModel" "posts" "I", .fieldLink RX6 16 "PopularMatchingsModel" "capacity" "[I", .fieldLink RX6 20 "PopularMatchingsModel" "length" "[I", .methodLink RX6 42 yX6_clears, .instanceMethod yX6_clears, .selects RX6 yX6_clears yX6_clears, .initialized RX6, .code yX6_clears cX6_clears 2 none, .fieldLink RX6 26 "PopularMatchingsModel" "now" "[I", .fieldLink RX6 45 "PopularMatchingsModel" "edits" "I"] ++ wsX60)
def wsX6_init : List Cond := .code yX6_init cX6_init 1 none :: ([.methodLink RX6 1 objectInit, .instanceMethod objectInit, .code objectInit ⟨#[0xb1]⟩ 1 none, .fieldLink RX6 7 "PopularMatchingsModel" "applicants" "I", .fieldLink RX6 13 "PopularMatchingsModel" "posts" "I", .arrayClass .int, .fieldLink RX6 16 "PopularMatchingsModel" "capacity" "[I", .fieldLink RX6 20 "PopularMatchingsModel" "length" "[I", .fieldLink RX6 23 "PopularMatchingsModel" "list" "[I", .fieldLink RX6 26 "PopularMatchingsModel" "now" "[I", .fieldLink RX6 29 "PopularMatchingsModel" "history" "[I", .fieldLink RX6 32 "PopularMatchingsModel" "best" "[I", .fieldLink RX6 35 "PopularMatchingsModel" "found" "[I", .methodLink RX6 38 yX6_builds, .instanceMethod yX6_builds, .selects RX6 yX6_builds yX6_builds, .initialized RX6, .code yX6_builds cX6_builds 4 none, .methodLink RX6 42 yX6_clears, .instanceMethod yX6_clears, .selects RX6 yX6_clears yX6_clears, .code yX6_clears cX6_clears 2 none, .fieldLink RX6 45 "PopularMatchingsModel" "edits" "I"] ++ wsX60)
def wsX6_in : List Cond := .code yX6_in cX6_in 3 (some .boolean) :: ([])
def wsX6_isApplicant : List Cond := .code yX6_isApplicant cX6_isApplicant 2 (some .boolean) :: ([.fieldLink RX6 7 "PopularMatchingsModel" "applicants" "I", .methodLink RX6 48 yX6_in, .static yX6_in, .initialized RX6, .code yX6_in cX6_in 3 (some .boolean)] ++ wsX60)
def wsX6_isPost : List Cond := .code yX6_isPost cX6_isPost 2 (some .boolean) :: ([.fieldLink RX6 13 "PopularMatchingsModel" "posts" "I", .methodLink RX6 48 yX6_in, .static yX6_in, .initialized RX6, .code yX6_in cX6_in 3 (some .boolean)] ++ wsX60)
def wsX6_reset : List Cond := .code yX6_reset cX6_reset 4 (some .int) :: ([.fieldLink RX6 7 "PopularMatchingsModel" "applicants" "I", .methodLink RX6 48 yX6_in, .static yX6_in, .initialized RX6, .code yX6_in cX6_in 3 (some .boolean), .methodLink RX6 38 yX6_builds, .instanceMethod yX6_builds, .selects RX6 yX6_builds yX6_builds, .code yX6_builds cX6_builds 4 none, .fieldLink RX6 13 "PopularMatchingsModel" "posts" "I", .fieldLink RX6 16 "PopularMatchingsModel" "capacity" "[I", .fieldLink RX6 20 "PopularMatchingsModel" "length" "[I", .methodLink RX6 42 yX6_clears, .instanceMethod yX6_clears, .selects RX6 yX6_clears yX6_clears, .code yX6_clears cX6_clears 2 none, .fieldLink RX6 26 "PopularMatchingsModel" "now" "[I", .fieldLink RX6 45 "PopularMatchingsModel" "edits" "I"] ++ wsX60)
def wsX6_setCapacity : List Cond := .code yX6_setCapacity cX6_setCapacity 4 (some .int) :: ([.fieldLink RX6 16 "PopularMatchingsModel" "capacity" "[I", .methodLink RX6 52 yX6_isPost, .instanceMethod yX6_isPost, .selects RX6 yX6_isPost yX6_isPost, .initialized RX6, .code yX6_isPost cX6_isPost 2 (some .boolean), .fieldLink RX6 13 "PopularMatchingsModel" "posts" "I", .methodLink RX6 48 yX6_in, .static yX6_in, .code yX6_in cX6_in 3 (some .boolean), .methodLink RX6 42 yX6_clears, .instanceMethod yX6_clears, .selects RX6 yX6_clears yX6_clears, .code yX6_clears cX6_clears 2 none, .fieldLink RX6 26 "PopularMatchingsModel" "now" "[I", .fieldLink RX6 45 "PopularMatchingsModel" "edits" "I"] ++ wsX60)
def wsX6_rank : List Cond := .code yX6_rank cX6_rank 4 (some .int) :: ([.fieldLink RX6 20 "PopularMatchingsModel" "length" "[I", .fieldLink RX6 23 "PopularMatchingsModel" "list" "[I"] ++ wsX60)
def wsX6_appendPreference_r1 : List Cond := [Cond.fieldLink RX6 23 "PopularMatchingsModel" "list" "[I", Cond.fieldLink RX6 20 "PopularMatchingsModel" "length" "[I", Cond.methodLink RX6 56 yX6_isApplicant, Cond.instanceMethod yX6_isApplicant, Cond.selects RX6 yX6_isApplicant yX6_isApplicant, Cond.initialized RX6, Cond.code yX6_isApplicant cX6_isApplicant 2 (some .boolean), Cond.fieldLink RX6 7 "PopularMatchingsModel" "applicants" "I", Cond.methodLink RX6 48 yX6_in, Cond.static yX6_in, Cond.code yX6_in cX6_in 3 (some .boolean), Cond.methodLink RX6 52 yX6_isPost, Cond.instanceMethod yX6_isPost, Cond.selects RX6 yX6_isPost yX6_isPost, Cond.code yX6_isPost cX6_isPost 2 (some .boolean), Cond.fieldLink RX6 13 "PopularMatchingsModel" "posts" "I", Cond.methodLink RX6 59 yX6_rank, Cond.instanceMethod yX6_rank, Cond.selects RX6 yX6_rank yX6_rank, Cond.code yX6_rank cX6_rank 4 (some .int), Cond.methodLink RX6 42 yX6_clears, Cond.instanceMethod yX6_clears, Cond.selects RX6 yX6_clears yX6_clears, Cond.code yX6_clears cX6_clears 2 none]
def wsX6_appendPreference_r2 : List Cond := [Cond.fieldLink RX6 26 "PopularMatchingsModel" "now" "[I", Cond.fieldLink RX6 45 "PopularMatchingsModel" "edits" "I"]
def wsX6_appendPreference : List Cond := .code yX6_appendPreference cX6_appendPreference 3 (some .int) :: ((wsX6_appendPreference_r1 ++ wsX6_appendPreference_r2) ++ wsX60)
def wsX6_clearPreferences : List Cond := .code yX6_clearPreferences cX6_clearPreferences 3 (some .int) :: ([.fieldLink RX6 20 "PopularMatchingsModel" "length" "[I", .methodLink RX6 56 yX6_isApplicant, .instanceMethod yX6_isApplicant, .selects RX6 yX6_isApplicant yX6_isApplicant, .initialized RX6, .code yX6_isApplicant cX6_isApplicant 2 (some .boolean), .fieldLink RX6 7 "PopularMatchingsModel" "applicants" "I", .methodLink RX6 48 yX6_in, .static yX6_in, .code yX6_in cX6_in 3 (some .boolean), .methodLink RX6 42 yX6_clears, .instanceMethod yX6_clears, .selects RX6 yX6_clears yX6_clears, .code yX6_clears cX6_clears 2 none, .fieldLink RX6 26 "PopularMatchingsModel" "now" "[I", .fieldLink RX6 45 "PopularMatchingsModel" "edits" "I"] ++ wsX60)
def wsX6_preferenceAt : List Cond := .code yX6_preferenceAt cX6_preferenceAt 3 (some .int) :: ([.fieldLink RX6 20 "PopularMatchingsModel" "length" "[I", .fieldLink RX6 23 "PopularMatchingsModel" "list" "[I", .methodLink RX6 56 yX6_isApplicant, .instanceMethod yX6_isApplicant, .selects RX6 yX6_isApplicant yX6_isApplicant, .initialized RX6, .code yX6_isApplicant cX6_isApplicant 2 (some .boolean), .fieldLink RX6 7 "PopularMatchingsModel" "applicants" "I", .methodLink RX6 48 yX6_in, .static yX6_in, .code yX6_in cX6_in 3 (some .boolean)] ++ wsX60)
def wsX6_first : List Cond := .code yX6_first cX6_first 2 (some .int) :: ([.fieldLink RX6 20 "PopularMatchingsModel" "length" "[I", .fieldLink RX6 23 "PopularMatchingsModel" "list" "[I"] ++ wsX60)
def wsX6_firsts : List Cond := .code yX6_firsts cX6_firsts 4 (some .int) :: ([.fieldLink RX6 7 "PopularMatchingsModel" "applicants" "I", .methodLink RX6 63 yX6_first, .instanceMethod yX6_first, .selects RX6 yX6_first yX6_first, .initialized RX6, .code yX6_first cX6_first 2 (some .int), .fieldLink RX6 20 "PopularMatchingsModel" "length" "[I", .fieldLink RX6 23 "PopularMatchingsModel" "list" "[I"] ++ wsX60)
def wsX6_second : List Cond := .code yX6_second cX6_second 4 (some .int) :: ([.fieldLink RX6 20 "PopularMatchingsModel" "length" "[I", .fieldLink RX6 23 "PopularMatchingsModel" "list" "[I", .fieldLink RX6 16 "PopularMatchingsModel" "capacity" "[I", .methodLink RX6 67 yX6_firsts, .instanceMethod yX6_firsts, .selects RX6 yX6_firsts yX6_firsts, .initialized RX6, .code yX6_firsts cX6_firsts 4 (some .int), .fieldLink RX6 7 "PopularMatchingsModel" "applicants" "I", .methodLink RX6 63 yX6_first, .instanceMethod yX6_first, .selects RX6 yX6_first yX6_first, .code yX6_first cX6_first 2 (some .int)] ++ wsX60)
def wsX6_firstPost : List Cond := .code yX6_firstPost cX6_firstPost 2 (some .int) :: ([.methodLink RX6 56 yX6_isApplicant, .instanceMethod yX6_isApplicant, .selects RX6 yX6_isApplicant yX6_isApplicant, .initialized RX6, .code yX6_isApplicant cX6_isApplicant 2 (some .boolean), .fieldLink RX6 7 "PopularMatchingsModel" "applicants" "I", .methodLink RX6 48 yX6_in, .static yX6_in, .code yX6_in cX6_in 3 (some .boolean), .methodLink RX6 63 yX6_first, .instanceMethod yX6_first, .selects RX6 yX6_first yX6_first, .code yX6_first cX6_first 2 (some .int), .fieldLink RX6 20 "PopularMatchingsModel" "length" "[I", .fieldLink RX6 23 "PopularMatchingsModel" "list" "[I"] ++ wsX60)
def wsX6_secondPost : List Cond := .code yX6_secondPost cX6_secondPost 2 (some .int) :: ([.methodLink RX6 56 yX6_isApplicant, .instanceMethod yX6_isApplicant, .selects RX6 yX6_isApplicant yX6_isApplicant, .initialized RX6, .code yX6_isApplicant cX6_isApplicant 2 (some .boolean), .fieldLink RX6 7 "PopularMatchingsModel" "applicants" "I", .methodLink RX6 48 yX6_in, .static yX6_in, .code yX6_in cX6_in 3 (some .boolean), .methodLink RX6 70 yX6_second, .instanceMethod yX6_second, .selects RX6 yX6_second yX6_second, .code yX6_second cX6_second 4 (some .int), .fieldLink RX6 20 "PopularMatchingsModel" "length" "[I", .fieldLink RX6 23 "PopularMatchingsModel" "list" "[I", .fieldLink RX6 16 "PopularMatchingsModel" "capacity" "[I", .methodLink RX6 67 yX6_firsts, .instanceMethod yX6_firsts, .selects RX6 yX6_firsts yX6_firsts, .code yX6_firsts cX6_firsts 4 (some .int), .methodLink RX6 63 yX6_first, .instanceMethod yX6_first, .selects RX6 yX6_first yX6_first, .code yX6_first cX6_first 2 (some .int)] ++ wsX60)
def wsX6_edit : List Cond := .code yX6_edit cX6_edit 2 none :: ([.fieldLink RX6 45 "PopularMatchingsModel" "edits" "I", .fieldLink RX6 29 "PopularMatchingsModel" "history" "[I", .fieldLink RX6 26 "PopularMatchingsModel" "now" "[I"] ++ wsX60)
def wsX6_undo : List Cond := .code yX6_undo cX6_undo 2 (some .int) :: ([.fieldLink RX6 45 "PopularMatchingsModel" "edits" "I", .fieldLink RX6 26 "PopularMatchingsModel" "now" "[I", .fieldLink RX6 29 "PopularMatchingsModel" "history" "[I"] ++ wsX60)
def wsX6_assign : List Cond := .code yX6_assign cX6_assign 5 (some .int) :: ([.fieldLink RX6 13 "PopularMatchingsModel" "posts" "I", .fieldLink RX6 7 "PopularMatchingsModel" "applicants" "I", .fieldLink RX6 26 "PopularMatchingsModel" "now" "[I", .fieldLink RX6 16 "PopularMatchingsModel" "capacity" "[I", .methodLink RX6 56 yX6_isApplicant, .instanceMethod yX6_isApplicant, .selects RX6 yX6_isApplicant yX6_isApplicant, .initialized RX6, .code yX6_isApplicant cX6_isApplicant 2 (some .boolean), .methodLink RX6 48 yX6_in, .static yX6_in, .code yX6_in cX6_in 3 (some .boolean), .methodLink RX6 59 yX6_rank, .instanceMethod yX6_rank, .selects RX6 yX6_rank yX6_rank, .code yX6_rank cX6_rank 4 (some .int), .fieldLink RX6 20 "PopularMatchingsModel" "length" "[I", .fieldLink RX6 23 "PopularMatchingsModel" "list" "[I", .methodLink RX6 73 yX6_edit, .instanceMethod yX6_edit, .selects RX6 yX6_edit yX6_edit, .code yX6_edit cX6_edit 2 none, .fieldLink RX6 45 "PopularMatchingsModel" "edits" "I", .fieldLink RX6 29 "PopularMatchingsModel" "history" "[I"] ++ wsX60)
def wsX6_postOf : List Cond := .code yX6_postOf cX6_postOf 2 (some .int) :: ([.fieldLink RX6 26 "PopularMatchingsModel" "now" "[I", .methodLink RX6 56 yX6_isApplicant, .instanceMethod yX6_isApplicant, .selects RX6 yX6_isApplicant yX6_isApplicant, .initialized RX6, .code yX6_isApplicant cX6_isApplicant 2 (some .boolean), .fieldLink RX6 7 "PopularMatchingsModel" "applicants" "I", .methodLink RX6 48 yX6_in, .static yX6_in, .code yX6_in cX6_in 3 (some .boolean)] ++ wsX60)
def wsX6_size : List Cond := .code yX6_size cX6_size 3 (some .int) :: ([.fieldLink RX6 7 "PopularMatchingsModel" "applicants" "I", .fieldLink RX6 26 "PopularMatchingsModel" "now" "[I"] ++ wsX60)
def wsX6_vote : List Cond := .code yX6_vote cX6_vote 6 (some .int) :: ([.methodLink RX6 59 yX6_rank, .instanceMethod yX6_rank, .selects RX6 yX6_rank yX6_rank, .initialized RX6, .code yX6_rank cX6_rank 4 (some .int), .fieldLink RX6 20 "PopularMatchingsModel" "length" "[I", .fieldLink RX6 23 "PopularMatchingsModel" "list" "[I"] ++ wsX60)
def wsX6_digit : List Cond := .code yX6_digit cX6_digit 4 (some .int) :: ([])
def wsX6_power : List Cond := .code yX6_power cX6_power 3 (some .int) :: ([])
def wsX6_gives : List Cond := .code yX6_gives cX6_gives 6 (some .int) :: ([.fieldLink RX6 26 "PopularMatchingsModel" "now" "[I", .fieldLink RX6 32 "PopularMatchingsModel" "best" "[I", .fieldLink RX6 16 "PopularMatchingsModel" "capacity" "[I", .methodLink RX6 76 yX6_vote, .instanceMethod yX6_vote, .selects RX6 yX6_vote yX6_vote, .initialized RX6, .code yX6_vote cX6_vote 6 (some .int), .methodLink RX6 59 yX6_rank, .instanceMethod yX6_rank, .selects RX6 yX6_rank yX6_rank, .code yX6_rank cX6_rank 4 (some .int), .fieldLink RX6 20 "PopularMatchingsModel" "length" "[I", .fieldLink RX6 23 "PopularMatchingsModel" "list" "[I", .methodLink RX6 80 yX6_digit, .static yX6_digit, .code yX6_digit cX6_digit 4 (some .int), .methodLink RX6 83 yX6_power, .static yX6_power, .code yX6_power cX6_power 3 (some .int)] ++ wsX60)
def wsX6_margin_r1 : List Cond := [Cond.fieldLink RX6 32 "PopularMatchingsModel" "best" "[I", Cond.fieldLink RX6 7 "PopularMatchingsModel" "applicants" "I", Cond.fieldLink RX6 13 "PopularMatchingsModel" "posts" "I", Cond.methodLink RX6 86 yX6_gives, Cond.instanceMethod yX6_gives, Cond.selects RX6 yX6_gives yX6_gives, Cond.initialized RX6, Cond.code yX6_gives cX6_gives 6 (some .int), Cond.fieldLink RX6 26 "PopularMatchingsModel" "now" "[I", Cond.fieldLink RX6 16 "PopularMatchingsModel" "capacity" "[I", Cond.methodLink RX6 76 yX6_vote, Cond.instanceMethod yX6_vote, Cond.selects RX6 yX6_vote yX6_vote, Cond.code yX6_vote cX6_vote 6 (some .int), Cond.methodLink RX6 59 yX6_rank, Cond.instanceMethod yX6_rank, Cond.selects RX6 yX6_rank yX6_rank, Cond.code yX6_rank cX6_rank 4 (some .int), Cond.fieldLink RX6 20 "PopularMatchingsModel" "length" "[I", Cond.fieldLink RX6 23 "PopularMatchingsModel" "list" "[I", Cond.methodLink RX6 80 yX6_digit, Cond.static yX6_digit, Cond.code yX6_digit cX6_digit 4 (some .int), Cond.methodLink RX6 83 yX6_power]
def wsX6_margin_r2 : List Cond := [Cond.static yX6_power, Cond.code yX6_power cX6_power 3 (some .int)]
def wsX6_margin : List Cond := .code yX6_margin cX6_margin 7 (some .int) :: ((wsX6_margin_r1 ++ wsX6_margin_r2) ++ wsX60)
def wsX6_isParetoOptimal_r1 : List Cond := [Cond.methodLink RX6 90 yX6_margin, Cond.instanceMethod yX6_margin, Cond.selects RX6 yX6_margin yX6_margin, Cond.initialized RX6, Cond.code yX6_margin cX6_margin 7 (some .int), Cond.fieldLink RX6 32 "PopularMatchingsModel" "best" "[I", Cond.fieldLink RX6 7 "PopularMatchingsModel" "applicants" "I", Cond.fieldLink RX6 13 "PopularMatchingsModel" "posts" "I", Cond.methodLink RX6 86 yX6_gives, Cond.instanceMethod yX6_gives, Cond.selects RX6 yX6_gives yX6_gives, Cond.code yX6_gives cX6_gives 6 (some .int), Cond.fieldLink RX6 26 "PopularMatchingsModel" "now" "[I", Cond.fieldLink RX6 16 "PopularMatchingsModel" "capacity" "[I", Cond.methodLink RX6 76 yX6_vote, Cond.instanceMethod yX6_vote, Cond.selects RX6 yX6_vote yX6_vote, Cond.code yX6_vote cX6_vote 6 (some .int), Cond.methodLink RX6 59 yX6_rank, Cond.instanceMethod yX6_rank, Cond.selects RX6 yX6_rank yX6_rank, Cond.code yX6_rank cX6_rank 4 (some .int), Cond.fieldLink RX6 20 "PopularMatchingsModel" "length" "[I", Cond.fieldLink RX6 23 "PopularMatchingsModel" "list" "[I"]
def wsX6_isParetoOptimal_r2 : List Cond := [Cond.methodLink RX6 80 yX6_digit, Cond.static yX6_digit, Cond.code yX6_digit cX6_digit 4 (some .int), Cond.methodLink RX6 83 yX6_power, Cond.static yX6_power, Cond.code yX6_power cX6_power 3 (some .int)]
def wsX6_isParetoOptimal : List Cond := .code yX6_isParetoOptimal cX6_isParetoOptimal 1 (some .int) :: ((wsX6_isParetoOptimal_r1 ++ wsX6_isParetoOptimal_r2) ++ wsX60)
def wsX6_save : List Cond := .code yX6_save cX6_save 2 (some .int) :: ([.fieldLink RX6 26 "PopularMatchingsModel" "now" "[I", .methodLink RX6 94 yX6_size, .instanceMethod yX6_size, .selects RX6 yX6_size yX6_size, .initialized RX6, .code yX6_size cX6_size 3 (some .int), .fieldLink RX6 7 "PopularMatchingsModel" "applicants" "I"] ++ wsX60)
def wsX6_swapSaved : List Cond := .code yX6_swapSaved cX6_swapSaved 3 (some .int) :: ([.fieldLink RX6 26 "PopularMatchingsModel" "now" "[I", .methodLink RX6 73 yX6_edit, .instanceMethod yX6_edit, .selects RX6 yX6_edit yX6_edit, .initialized RX6, .code yX6_edit cX6_edit 2 none, .fieldLink RX6 45 "PopularMatchingsModel" "edits" "I", .fieldLink RX6 29 "PopularMatchingsModel" "history" "[I", .methodLink RX6 94 yX6_size, .instanceMethod yX6_size, .selects RX6 yX6_size yX6_size, .code yX6_size cX6_size 3 (some .int), .fieldLink RX6 7 "PopularMatchingsModel" "applicants" "I"] ++ wsX60)
def wsX6_marginOverSaved : List Cond := .code yX6_marginOverSaved cX6_marginOverSaved 3 (some .int) :: ([.fieldLink RX6 7 "PopularMatchingsModel" "applicants" "I", .fieldLink RX6 26 "PopularMatchingsModel" "now" "[I", .methodLink RX6 76 yX6_vote, .instanceMethod yX6_vote, .selects RX6 yX6_vote yX6_vote, .initialized RX6, .code yX6_vote cX6_vote 6 (some .int), .methodLink RX6 59 yX6_rank, .instanceMethod yX6_rank, .selects RX6 yX6_rank yX6_rank, .code yX6_rank cX6_rank 4 (some .int), .fieldLink RX6 20 "PopularMatchingsModel" "length" "[I", .fieldLink RX6 23 "PopularMatchingsModel" "list" "[I"] ++ wsX60)
def wsX6_unpopularityMargin_r1 : List Cond := [Cond.methodLink RX6 90 yX6_margin, Cond.instanceMethod yX6_margin, Cond.selects RX6 yX6_margin yX6_margin, Cond.initialized RX6, Cond.code yX6_margin cX6_margin 7 (some .int), Cond.fieldLink RX6 32 "PopularMatchingsModel" "best" "[I", Cond.fieldLink RX6 7 "PopularMatchingsModel" "applicants" "I", Cond.fieldLink RX6 13 "PopularMatchingsModel" "posts" "I", Cond.methodLink RX6 86 yX6_gives, Cond.instanceMethod yX6_gives, Cond.selects RX6 yX6_gives yX6_gives, Cond.code yX6_gives cX6_gives 6 (some .int), Cond.fieldLink RX6 26 "PopularMatchingsModel" "now" "[I", Cond.fieldLink RX6 16 "PopularMatchingsModel" "capacity" "[I", Cond.methodLink RX6 76 yX6_vote, Cond.instanceMethod yX6_vote, Cond.selects RX6 yX6_vote yX6_vote, Cond.code yX6_vote cX6_vote 6 (some .int), Cond.methodLink RX6 59 yX6_rank, Cond.instanceMethod yX6_rank, Cond.selects RX6 yX6_rank yX6_rank, Cond.code yX6_rank cX6_rank 4 (some .int), Cond.fieldLink RX6 20 "PopularMatchingsModel" "length" "[I", Cond.fieldLink RX6 23 "PopularMatchingsModel" "list" "[I"]
def wsX6_unpopularityMargin_r2 : List Cond := [Cond.methodLink RX6 80 yX6_digit, Cond.static yX6_digit, Cond.code yX6_digit cX6_digit 4 (some .int), Cond.methodLink RX6 83 yX6_power, Cond.static yX6_power, Cond.code yX6_power cX6_power 3 (some .int)]
def wsX6_unpopularityMargin : List Cond := .code yX6_unpopularityMargin cX6_unpopularityMargin 1 (some .int) :: ((wsX6_unpopularityMargin_r1 ++ wsX6_unpopularityMargin_r2) ++ wsX60)
def wsX6_challenges_r1 : List Cond := [Cond.fieldLink RX6 7 "PopularMatchingsModel" "applicants" "I", Cond.fieldLink RX6 35 "PopularMatchingsModel" "found" "[I", Cond.fieldLink RX6 13 "PopularMatchingsModel" "posts" "I", Cond.fieldLink RX6 32 "PopularMatchingsModel" "best" "[I", Cond.methodLink RX6 90 yX6_margin, Cond.instanceMethod yX6_margin, Cond.selects RX6 yX6_margin yX6_margin, Cond.initialized RX6, Cond.code yX6_margin cX6_margin 7 (some .int), Cond.methodLink RX6 86 yX6_gives, Cond.instanceMethod yX6_gives, Cond.selects RX6 yX6_gives yX6_gives, Cond.code yX6_gives cX6_gives 6 (some .int), Cond.fieldLink RX6 26 "PopularMatchingsModel" "now" "[I", Cond.fieldLink RX6 16 "PopularMatchingsModel" "capacity" "[I", Cond.methodLink RX6 76 yX6_vote, Cond.instanceMethod yX6_vote, Cond.selects RX6 yX6_vote yX6_vote, Cond.code yX6_vote cX6_vote 6 (some .int), Cond.methodLink RX6 59 yX6_rank, Cond.instanceMethod yX6_rank, Cond.selects RX6 yX6_rank yX6_rank, Cond.code yX6_rank cX6_rank 4 (some .int), Cond.fieldLink RX6 20 "PopularMatchingsModel" "length" "[I"]
def wsX6_challenges_r2 : List Cond := [Cond.fieldLink RX6 23 "PopularMatchingsModel" "list" "[I", Cond.methodLink RX6 80 yX6_digit, Cond.static yX6_digit, Cond.code yX6_digit cX6_digit 4 (some .int), Cond.methodLink RX6 83 yX6_power, Cond.static yX6_power, Cond.code yX6_power cX6_power 3 (some .int)]
def wsX6_challenges : List Cond := .code yX6_challenges cX6_challenges 5 (some .int) :: ((wsX6_challenges_r1 ++ wsX6_challenges_r2) ++ wsX60)
def wsX6_challengerPost_r1 : List Cond := [Cond.fieldLink RX6 35 "PopularMatchingsModel" "found" "[I", Cond.methodLink RX6 56 yX6_isApplicant, Cond.instanceMethod yX6_isApplicant, Cond.selects RX6 yX6_isApplicant yX6_isApplicant, Cond.initialized RX6, Cond.code yX6_isApplicant cX6_isApplicant 2 (some .boolean), Cond.fieldLink RX6 7 "PopularMatchingsModel" "applicants" "I", Cond.methodLink RX6 48 yX6_in, Cond.static yX6_in, Cond.code yX6_in cX6_in 3 (some .boolean), Cond.methodLink RX6 98 yX6_challenges, Cond.instanceMethod yX6_challenges, Cond.selects RX6 yX6_challenges yX6_challenges, Cond.code yX6_challenges cX6_challenges 5 (some .int), Cond.fieldLink RX6 13 "PopularMatchingsModel" "posts" "I", Cond.fieldLink RX6 32 "PopularMatchingsModel" "best" "[I", Cond.methodLink RX6 90 yX6_margin, Cond.instanceMethod yX6_margin, Cond.selects RX6 yX6_margin yX6_margin, Cond.code yX6_margin cX6_margin 7 (some .int), Cond.methodLink RX6 86 yX6_gives, Cond.instanceMethod yX6_gives, Cond.selects RX6 yX6_gives yX6_gives, Cond.code yX6_gives cX6_gives 6 (some .int)]
def wsX6_challengerPost_r2 : List Cond := [Cond.fieldLink RX6 26 "PopularMatchingsModel" "now" "[I", Cond.fieldLink RX6 16 "PopularMatchingsModel" "capacity" "[I", Cond.methodLink RX6 76 yX6_vote, Cond.instanceMethod yX6_vote, Cond.selects RX6 yX6_vote yX6_vote, Cond.code yX6_vote cX6_vote 6 (some .int), Cond.methodLink RX6 59 yX6_rank, Cond.instanceMethod yX6_rank, Cond.selects RX6 yX6_rank yX6_rank, Cond.code yX6_rank cX6_rank 4 (some .int), Cond.fieldLink RX6 20 "PopularMatchingsModel" "length" "[I", Cond.fieldLink RX6 23 "PopularMatchingsModel" "list" "[I", Cond.methodLink RX6 80 yX6_digit, Cond.static yX6_digit, Cond.code yX6_digit cX6_digit 4 (some .int), Cond.methodLink RX6 83 yX6_power, Cond.static yX6_power, Cond.code yX6_power cX6_power 3 (some .int)]
def wsX6_challengerPost : List Cond := .code yX6_challengerPost cX6_challengerPost 2 (some .int) :: ((wsX6_challengerPost_r1 ++ wsX6_challengerPost_r2) ++ wsX60)
def wsX6_takes : List Cond := .code yX6_takes cX6_takes 2 none :: ([.fieldLink RX6 7 "PopularMatchingsModel" "applicants" "I", .fieldLink RX6 26 "PopularMatchingsModel" "now" "[I", .fieldLink RX6 35 "PopularMatchingsModel" "found" "[I", .methodLink RX6 73 yX6_edit, .instanceMethod yX6_edit, .selects RX6 yX6_edit yX6_edit, .initialized RX6, .code yX6_edit cX6_edit 2 none, .fieldLink RX6 45 "PopularMatchingsModel" "edits" "I", .fieldLink RX6 29 "PopularMatchingsModel" "history" "[I"] ++ wsX60)
def wsX6_adoptChallenger_r1 : List Cond := [Cond.methodLink RX6 98 yX6_challenges, Cond.instanceMethod yX6_challenges, Cond.selects RX6 yX6_challenges yX6_challenges, Cond.initialized RX6, Cond.code yX6_challenges cX6_challenges 5 (some .int), Cond.fieldLink RX6 7 "PopularMatchingsModel" "applicants" "I", Cond.fieldLink RX6 35 "PopularMatchingsModel" "found" "[I", Cond.fieldLink RX6 13 "PopularMatchingsModel" "posts" "I", Cond.fieldLink RX6 32 "PopularMatchingsModel" "best" "[I", Cond.methodLink RX6 90 yX6_margin, Cond.instanceMethod yX6_margin, Cond.selects RX6 yX6_margin yX6_margin, Cond.code yX6_margin cX6_margin 7 (some .int), Cond.methodLink RX6 86 yX6_gives, Cond.instanceMethod yX6_gives, Cond.selects RX6 yX6_gives yX6_gives, Cond.code yX6_gives cX6_gives 6 (some .int), Cond.fieldLink RX6 26 "PopularMatchingsModel" "now" "[I", Cond.fieldLink RX6 16 "PopularMatchingsModel" "capacity" "[I", Cond.methodLink RX6 76 yX6_vote, Cond.instanceMethod yX6_vote, Cond.selects RX6 yX6_vote yX6_vote, Cond.code yX6_vote cX6_vote 6 (some .int), Cond.methodLink RX6 59 yX6_rank]
def wsX6_adoptChallenger_r2 : List Cond := [Cond.instanceMethod yX6_rank, Cond.selects RX6 yX6_rank yX6_rank, Cond.code yX6_rank cX6_rank 4 (some .int), Cond.fieldLink RX6 20 "PopularMatchingsModel" "length" "[I", Cond.fieldLink RX6 23 "PopularMatchingsModel" "list" "[I", Cond.methodLink RX6 80 yX6_digit, Cond.static yX6_digit, Cond.code yX6_digit cX6_digit 4 (some .int), Cond.methodLink RX6 83 yX6_power, Cond.static yX6_power, Cond.code yX6_power cX6_power 3 (some .int), Cond.methodLink RX6 101 yX6_takes, Cond.instanceMethod yX6_takes, Cond.selects RX6 yX6_takes yX6_takes, Cond.code yX6_takes cX6_takes 2 none, Cond.methodLink RX6 73 yX6_edit, Cond.instanceMethod yX6_edit, Cond.selects RX6 yX6_edit yX6_edit, Cond.code yX6_edit cX6_edit 2 none, Cond.fieldLink RX6 45 "PopularMatchingsModel" "edits" "I", Cond.fieldLink RX6 29 "PopularMatchingsModel" "history" "[I"]
def wsX6_adoptChallenger : List Cond := .code yX6_adoptChallenger cX6_adoptChallenger 2 (some .int) :: ((wsX6_adoptChallenger_r1 ++ wsX6_adoptChallenger_r2) ++ wsX60)
def wsX6_lays : List Cond := .code yX6_lays cX6_lays 7 (some .boolean) :: ([.fieldLink RX6 7 "PopularMatchingsModel" "applicants" "I", .fieldLink RX6 35 "PopularMatchingsModel" "found" "[I", .fieldLink RX6 13 "PopularMatchingsModel" "posts" "I", .fieldLink RX6 16 "PopularMatchingsModel" "capacity" "[I", .methodLink RX6 70 yX6_second, .instanceMethod yX6_second, .selects RX6 yX6_second yX6_second, .initialized RX6, .code yX6_second cX6_second 4 (some .int), .fieldLink RX6 20 "PopularMatchingsModel" "length" "[I", .fieldLink RX6 23 "PopularMatchingsModel" "list" "[I", .methodLink RX6 67 yX6_firsts, .instanceMethod yX6_firsts, .selects RX6 yX6_firsts yX6_firsts, .code yX6_firsts cX6_firsts 4 (some .int), .methodLink RX6 63 yX6_first, .instanceMethod yX6_first, .selects RX6 yX6_first yX6_first, .code yX6_first cX6_first 2 (some .int)] ++ wsX60)
def wsX6_sizeOf : List Cond := .code yX6_sizeOf cX6_sizeOf 3 (some .int) :: ([.fieldLink RX6 7 "PopularMatchingsModel" "applicants" "I", .fieldLink RX6 35 "PopularMatchingsModel" "found" "[I"] ++ wsX60)
def wsX6_code : List Cond := .code yX6_code cX6_code 3 (some .int) :: ([.fieldLink RX6 7 "PopularMatchingsModel" "applicants" "I", .fieldLink RX6 35 "PopularMatchingsModel" "found" "[I"] ++ wsX60)
def wsX6_popularCount : List Cond := .code yX6_popularCount cX6_popularCount 3 (some .int) :: ([.fieldLink RX6 7 "PopularMatchingsModel" "applicants" "I", .methodLink RX6 104 yX6_lays, .instanceMethod yX6_lays, .selects RX6 yX6_lays yX6_lays, .initialized RX6, .code yX6_lays cX6_lays 7 (some .boolean), .fieldLink RX6 35 "PopularMatchingsModel" "found" "[I", .fieldLink RX6 13 "PopularMatchingsModel" "posts" "I", .fieldLink RX6 16 "PopularMatchingsModel" "capacity" "[I", .methodLink RX6 70 yX6_second, .instanceMethod yX6_second, .selects RX6 yX6_second yX6_second, .code yX6_second cX6_second 4 (some .int), .fieldLink RX6 20 "PopularMatchingsModel" "length" "[I", .fieldLink RX6 23 "PopularMatchingsModel" "list" "[I", .methodLink RX6 67 yX6_firsts, .instanceMethod yX6_firsts, .selects RX6 yX6_firsts yX6_firsts, .code yX6_firsts cX6_firsts 4 (some .int), .methodLink RX6 63 yX6_first, .instanceMethod yX6_first, .selects RX6 yX6_first yX6_first, .code yX6_first cX6_first 2 (some .int)] ++ wsX60)
def wsX6_greatestPopularSize_r1 : List Cond := [Cond.fieldLink RX6 7 "PopularMatchingsModel" "applicants" "I", Cond.methodLink RX6 104 yX6_lays, Cond.instanceMethod yX6_lays, Cond.selects RX6 yX6_lays yX6_lays, Cond.initialized RX6, Cond.code yX6_lays cX6_lays 7 (some .boolean), Cond.fieldLink RX6 35 "PopularMatchingsModel" "found" "[I", Cond.fieldLink RX6 13 "PopularMatchingsModel" "posts" "I", Cond.fieldLink RX6 16 "PopularMatchingsModel" "capacity" "[I", Cond.methodLink RX6 70 yX6_second, Cond.instanceMethod yX6_second, Cond.selects RX6 yX6_second yX6_second, Cond.code yX6_second cX6_second 4 (some .int), Cond.fieldLink RX6 20 "PopularMatchingsModel" "length" "[I", Cond.fieldLink RX6 23 "PopularMatchingsModel" "list" "[I", Cond.methodLink RX6 67 yX6_firsts, Cond.instanceMethod yX6_firsts, Cond.selects RX6 yX6_firsts yX6_firsts, Cond.code yX6_firsts cX6_firsts 4 (some .int), Cond.methodLink RX6 63 yX6_first, Cond.instanceMethod yX6_first, Cond.selects RX6 yX6_first yX6_first, Cond.code yX6_first cX6_first 2 (some .int), Cond.methodLink RX6 107 yX6_sizeOf]
def wsX6_greatestPopularSize_r2 : List Cond := [Cond.instanceMethod yX6_sizeOf, Cond.selects RX6 yX6_sizeOf yX6_sizeOf, Cond.code yX6_sizeOf cX6_sizeOf 3 (some .int)]
def wsX6_greatestPopularSize : List Cond := .code yX6_greatestPopularSize cX6_greatestPopularSize 3 (some .int) :: ((wsX6_greatestPopularSize_r1 ++ wsX6_greatestPopularSize_r2) ++ wsX60)
def wsX6_adoptPopular_r1 : List Cond := [Cond.constant RX6 113 (99999), Cond.fieldLink RX6 7 "PopularMatchingsModel" "applicants" "I", Cond.methodLink RX6 110 yX6_popularCount, Cond.instanceMethod yX6_popularCount, Cond.selects RX6 yX6_popularCount yX6_popularCount, Cond.initialized RX6, Cond.code yX6_popularCount cX6_popularCount 3 (some .int), Cond.methodLink RX6 104 yX6_lays, Cond.instanceMethod yX6_lays, Cond.selects RX6 yX6_lays yX6_lays, Cond.code yX6_lays cX6_lays 7 (some .boolean), Cond.fieldLink RX6 35 "PopularMatchingsModel" "found" "[I", Cond.fieldLink RX6 13 "PopularMatchingsModel" "posts" "I", Cond.fieldLink RX6 16 "PopularMatchingsModel" "capacity" "[I", Cond.methodLink RX6 70 yX6_second, Cond.instanceMethod yX6_second, Cond.selects RX6 yX6_second yX6_second, Cond.code yX6_second cX6_second 4 (some .int), Cond.fieldLink RX6 20 "PopularMatchingsModel" "length" "[I", Cond.fieldLink RX6 23 "PopularMatchingsModel" "list" "[I", Cond.methodLink RX6 67 yX6_firsts, Cond.instanceMethod yX6_firsts, Cond.selects RX6 yX6_firsts yX6_firsts, Cond.code yX6_firsts cX6_firsts 4 (some .int)]
def wsX6_adoptPopular_r2 : List Cond := [Cond.methodLink RX6 63 yX6_first, Cond.instanceMethod yX6_first, Cond.selects RX6 yX6_first yX6_first, Cond.code yX6_first cX6_first 2 (some .int), Cond.methodLink RX6 114 yX6_code, Cond.instanceMethod yX6_code, Cond.selects RX6 yX6_code yX6_code, Cond.code yX6_code cX6_code 3 (some .int), Cond.methodLink RX6 101 yX6_takes, Cond.instanceMethod yX6_takes, Cond.selects RX6 yX6_takes yX6_takes, Cond.code yX6_takes cX6_takes 2 none, Cond.fieldLink RX6 26 "PopularMatchingsModel" "now" "[I", Cond.methodLink RX6 73 yX6_edit, Cond.instanceMethod yX6_edit, Cond.selects RX6 yX6_edit yX6_edit, Cond.code yX6_edit cX6_edit 2 none, Cond.fieldLink RX6 45 "PopularMatchingsModel" "edits" "I", Cond.fieldLink RX6 29 "PopularMatchingsModel" "history" "[I", Cond.methodLink RX6 107 yX6_sizeOf, Cond.instanceMethod yX6_sizeOf, Cond.selects RX6 yX6_sizeOf yX6_sizeOf, Cond.code yX6_sizeOf cX6_sizeOf 3 (some .int)]
def wsX6_adoptPopular : List Cond := .code yX6_adoptPopular cX6_adoptPopular 7 (some .int) :: ((wsX6_adoptPopular_r1 ++ wsX6_adoptPopular_r2) ++ wsX60)
def wsX6_adoptSerial_r1 : List Cond := [Cond.fieldLink RX6 7 "PopularMatchingsModel" "applicants" "I", Cond.fieldLink RX6 35 "PopularMatchingsModel" "found" "[I", Cond.fieldLink RX6 20 "PopularMatchingsModel" "length" "[I", Cond.fieldLink RX6 23 "PopularMatchingsModel" "list" "[I", Cond.fieldLink RX6 16 "PopularMatchingsModel" "capacity" "[I", Cond.methodLink RX6 56 yX6_isApplicant, Cond.instanceMethod yX6_isApplicant, Cond.selects RX6 yX6_isApplicant yX6_isApplicant, Cond.initialized RX6, Cond.code yX6_isApplicant cX6_isApplicant 2 (some .boolean), Cond.methodLink RX6 48 yX6_in, Cond.static yX6_in, Cond.code yX6_in cX6_in 3 (some .boolean), Cond.methodLink RX6 80 yX6_digit, Cond.static yX6_digit, Cond.code yX6_digit cX6_digit 4 (some .int), Cond.methodLink RX6 83 yX6_power, Cond.static yX6_power, Cond.code yX6_power cX6_power 3 (some .int), Cond.methodLink RX6 101 yX6_takes, Cond.instanceMethod yX6_takes, Cond.selects RX6 yX6_takes yX6_takes, Cond.code yX6_takes cX6_takes 2 none, Cond.fieldLink RX6 26 "PopularMatchingsModel" "now" "[I"]
def wsX6_adoptSerial_r2 : List Cond := [Cond.methodLink RX6 73 yX6_edit, Cond.instanceMethod yX6_edit, Cond.selects RX6 yX6_edit yX6_edit, Cond.code yX6_edit cX6_edit 2 none, Cond.fieldLink RX6 45 "PopularMatchingsModel" "edits" "I", Cond.fieldLink RX6 29 "PopularMatchingsModel" "history" "[I", Cond.methodLink RX6 94 yX6_size, Cond.instanceMethod yX6_size, Cond.selects RX6 yX6_size yX6_size, Cond.code yX6_size cX6_size 3 (some .int)]
def wsX6_adoptSerial : List Cond := .code yX6_adoptSerial cX6_adoptSerial 7 (some .int) :: ((wsX6_adoptSerial_r1 ++ wsX6_adoptSerial_r2) ++ wsX60)
def wsJ9_max_7cf53 : List Cond := .code yJ9_max_7cf53 cJ9_max_7cf53 2 (some .int) :: ([])
def wsJ9_min_7cf53 : List Cond := .code yJ9_min_7cf53 cJ9_min_7cf53 2 (some .int) :: ([])
def wsL_law_r1 : List Cond := [Cond.classLink RL 7 RX5, Cond.instantiable RX5 7, Cond.initialized RX5, Cond.classLink RL 10 RX6, Cond.instantiable RX6 10, Cond.initialized RX6, Cond.methodLink RL 9 yX5_init, Cond.instanceMethod yX5_init, Cond.code yX5_init cX5_init 1 none, Cond.methodLink RX5 1 objectInit, Cond.instanceMethod objectInit, Cond.code objectInit ⟨#[0xb1]⟩ 1 none, Cond.classLink RX5 7 RX2, Cond.instantiable RX2 5, Cond.initialized RX2, Cond.fieldLink RX5 10 "PopularMatchings" "instance" "LPopularMatchings$Instance;", Cond.classLink RX5 16 RX3, Cond.instantiable RX3 1, Cond.initialized RX3, Cond.fieldLink RX5 19 "PopularMatchings" "present" "LPopularMatchings$Matching;", Cond.fieldLink RX5 23 "PopularMatchings" "saved" "LPopularMatchings$Matching;", Cond.fieldLink RX5 26 "PopularMatchings" "draft" "LPopularMatchings$Matching;", Cond.classLink RX5 29 RX1, Cond.instantiable RX1 3]
def wsL_law_r2 : List Cond := [Cond.initialized RX1, Cond.fieldLink RX5 32 "PopularMatchings" "history" "LPopularMatchings$History;", Cond.classLink RX5 36 RX0, Cond.instantiable RX0 2, Cond.initialized RX0, Cond.fieldLink RX5 39 "PopularMatchings" "challengers" "LPopularMatchings$ChallengerSearch;", Cond.classLink RX5 43 RX4, Cond.instantiable RX4 7, Cond.initialized RX4, Cond.fieldLink RX5 46 "PopularMatchings" "populars" "LPopularMatchings$PopularSearch;", Cond.methodLink RX5 9 yX2_init, Cond.instanceMethod yX2_init, Cond.code yX2_init cX2_init 1 none, Cond.methodLink RX2 3 objectInit, Cond.arrayClass .int, Cond.fieldLink RX2 9 "PopularMatchings$Instance" "capacities" "[I", Cond.fieldLink RX2 15 "PopularMatchings$Instance" "lengths" "[I", Cond.fieldLink RX2 18 "PopularMatchings$Instance" "lists" "[I", Cond.methodLink RX2 21 yX2_startAnew, Cond.instanceMethod yX2_startAnew, Cond.selects RX2 yX2_startAnew yX2_startAnew, Cond.code yX2_startAnew cX2_startAnew 4 none, Cond.fieldLink RX2 25 "PopularMatchings$Instance" "applicants" "I", Cond.fieldLink RX2 29 "PopularMatchings$Instance" "posts" "I"]
def wsL_law_r3 : List Cond := [Cond.methodLink RX5 18 yX3_init, Cond.instanceMethod yX3_init, Cond.code yX3_init cX3_init 1 none, Cond.methodLink RX3 3 objectInit, Cond.fieldLink RX3 9 "PopularMatchings$Matching" "posts" "[I", Cond.methodLink RX3 15 yX3_clear, Cond.instanceMethod yX3_clear, Cond.selects RX3 yX3_clear yX3_clear, Cond.code yX3_clear cX3_clear 2 none, Cond.methodLink RX5 31 yX1_init, Cond.instanceMethod yX1_init, Cond.code yX1_init cX1_init 2 none, Cond.methodLink RX1 3 objectInit, Cond.fieldLink RX1 9 "PopularMatchings$History" "count" "I", Cond.classLink RX1 15 RX3, Cond.fieldLink RX1 17 "PopularMatchings$History" "presents" "[LPopularMatchings$Matching;", Cond.fieldLink RX1 21 "PopularMatchings$History" "saveds" "[LPopularMatchings$Matching;", Cond.methodLink RX1 24 yX3_init, Cond.methodLink RX5 38 yX0_init, Cond.instanceMethod yX0_init, Cond.code yX0_init cX0_init 4 none, Cond.methodLink RX0 5 objectInit, Cond.fieldLink RX0 11 "PopularMatchings$ChallengerSearch" "placed" "[I", Cond.fieldLink RX0 15 "PopularMatchings$ChallengerSearch" "best" "[I"]
def wsL_law_r4 : List Cond := [Cond.instanceMethod yX4_init, Cond.code yX4_init cX4_init 1 none, Cond.methodLink RX4 3 objectInit, Cond.fieldLink RX4 9 "PopularMatchings$PopularSearch" "firsts" "[I", Cond.fieldLink RX4 15 "PopularMatchings$PopularSearch" "lower" "[I", Cond.fieldLink RX4 18 "PopularMatchings$PopularSearch" "higher" "[I", Cond.fieldLink RX4 21 "PopularMatchings$PopularSearch" "wanted" "[I", Cond.fieldLink RX4 24 "PopularMatchings$PopularSearch" "held" "[I", Cond.fieldLink RX4 27 "PopularMatchings$PopularSearch" "heldAsFirst" "[I", Cond.fieldLink RX4 30 "PopularMatchings$PopularSearch" "found" "[I", Cond.methodLink RL 12 yX6_init, Cond.instanceMethod yX6_init, Cond.code yX6_init cX6_init 1 none, Cond.methodLink RX6 1 objectInit, Cond.fieldLink RX6 7 "PopularMatchingsModel" "applicants" "I", Cond.fieldLink RX6 13 "PopularMatchingsModel" "posts" "I", Cond.fieldLink RX6 16 "PopularMatchingsModel" "capacity" "[I", Cond.fieldLink RX6 20 "PopularMatchingsModel" "length" "[I", Cond.fieldLink RX6 23 "PopularMatchingsModel" "list" "[I", Cond.fieldLink RX6 26 "PopularMatchingsModel" "now" "[I", Cond.fieldLink RX6 29 "PopularMatchingsModel" "history" "[I", Cond.fieldLink RX6 32 "PopularMatchingsModel" "best" "[I", Cond.fieldLink RX6 35 "PopularMatchingsModel" "found" "[I", Cond.methodLink RX6 38 yX6_builds]
def wsL_law_r5 : List Cond := [Cond.instanceMethod yX6_builds, Cond.selects RX6 yX6_builds yX6_builds, Cond.code yX6_builds cX6_builds 4 none, Cond.methodLink RX6 42 yX6_clears, Cond.instanceMethod yX6_clears, Cond.selects RX6 yX6_clears yX6_clears, Cond.code yX6_clears cX6_clears 2 none, Cond.fieldLink RX6 45 "PopularMatchingsModel" "edits" "I", Cond.methodLink RL 13 yX5_reset, Cond.instanceMethod yX5_reset, Cond.selects RX5 yX5_reset yX5_reset, Cond.code yX5_reset cX5_reset 5 (some .int), Cond.fieldLink RX5 50 "PopularMatchings$Instance" "applicants" "I", Cond.methodLink RX5 54 yX2_startAnew, Cond.methodLink RX5 58 yX5_forgetMatchings, Cond.instanceMethod yX5_forgetMatchings, Cond.selects RX5 yX5_forgetMatchings yX5_forgetMatchings, Cond.code yX5_forgetMatchings cX5_forgetMatchings 1 none, Cond.methodLink RX5 127 yX3_clear, Cond.methodLink RX5 155 yX1_forget, Cond.instanceMethod yX1_forget, Cond.selects RX1 yX1_forget yX1_forget, Cond.code yX1_forget cX1_forget 1 none, Cond.methodLink RL 17 yX6_reset]
def wsL_law_r6 : List Cond := [Cond.instanceMethod yX6_reset, Cond.selects RX6 yX6_reset yX6_reset, Cond.code yX6_reset cX6_reset 4 (some .int), Cond.methodLink RX6 48 yX6_in, Cond.static yX6_in, Cond.code yX6_in cX6_in 3 (some .boolean), Cond.methodLink RL 18 yX5_setCapacity, Cond.instanceMethod yX5_setCapacity, Cond.selects RX5 yX5_setCapacity yX5_setCapacity, Cond.code yX5_setCapacity cX5_setCapacity 4 (some .int), Cond.fieldLink RX5 65 "PopularMatchings$Instance" "capacities" "[I", Cond.methodLink RX5 61 yX2_isPost, Cond.instanceMethod yX2_isPost, Cond.selects RX2 yX2_isPost yX2_isPost, Cond.code yX2_isPost cX2_isPost 2 (some .boolean), Cond.methodLink RL 21 yX6_setCapacity, Cond.instanceMethod yX6_setCapacity, Cond.selects RX6 yX6_setCapacity yX6_setCapacity, Cond.code yX6_setCapacity cX6_setCapacity 4 (some .int), Cond.methodLink RX6 52 yX6_isPost, Cond.instanceMethod yX6_isPost, Cond.selects RX6 yX6_isPost yX6_isPost, Cond.code yX6_isPost cX6_isPost 2 (some .boolean), Cond.methodLink RL 22 yX5_appendPreference]
def wsL_law_r7 : List Cond := [Cond.instanceMethod yX5_appendPreference, Cond.selects RX5 yX5_appendPreference yX5_appendPreference, Cond.code yX5_appendPreference cX5_appendPreference 4 (some .int), Cond.methodLink RX5 69 yX2_isApplicant, Cond.instanceMethod yX2_isApplicant, Cond.selects RX2 yX2_isApplicant yX2_isApplicant, Cond.code yX2_isApplicant cX2_isApplicant 2 (some .boolean), Cond.methodLink RX5 72 yX2_isListed, Cond.instanceMethod yX2_isListed, Cond.selects RX2 yX2_isListed yX2_isListed, Cond.code yX2_isListed cX2_isListed 3 (some .boolean), Cond.methodLink RX2 32 yX2_rankOf, Cond.instanceMethod yX2_rankOf, Cond.selects RX2 yX2_rankOf yX2_rankOf, Cond.code yX2_rankOf cX2_rankOf 4 (some .int), Cond.methodLink RX2 36 yX2_listed, Cond.instanceMethod yX2_listed, Cond.selects RX2 yX2_listed yX2_listed, Cond.code yX2_listed cX2_listed 3 (some .int), Cond.methodLink RX5 76 yX2_append, Cond.instanceMethod yX2_append, Cond.selects RX2 yX2_append yX2_append, Cond.code yX2_append cX2_append 3 (some .int), Cond.methodLink RL 25 yX6_appendPreference]
def wsL_law_r8 : List Cond := [Cond.instanceMethod yX6_appendPreference, Cond.selects RX6 yX6_appendPreference yX6_appendPreference, Cond.code yX6_appendPreference cX6_appendPreference 3 (some .int), Cond.methodLink RX6 56 yX6_isApplicant, Cond.instanceMethod yX6_isApplicant, Cond.selects RX6 yX6_isApplicant yX6_isApplicant, Cond.code yX6_isApplicant cX6_isApplicant 2 (some .boolean), Cond.methodLink RX6 59 yX6_rank, Cond.instanceMethod yX6_rank, Cond.selects RX6 yX6_rank yX6_rank, Cond.code yX6_rank cX6_rank 4 (some .int), Cond.methodLink RL 26 yX5_clearPreferences, Cond.instanceMethod yX5_clearPreferences, Cond.selects RX5 yX5_clearPreferences yX5_clearPreferences, Cond.code yX5_clearPreferences cX5_clearPreferences 3 (some .int), Cond.fieldLink RX5 80 "PopularMatchings$Instance" "lengths" "[I", Cond.methodLink RL 30 yX6_clearPreferences, Cond.instanceMethod yX6_clearPreferences, Cond.selects RX6 yX6_clearPreferences yX6_clearPreferences, Cond.code yX6_clearPreferences cX6_clearPreferences 3 (some .int), Cond.methodLink RL 31 yX5_preferenceAt, Cond.instanceMethod yX5_preferenceAt, Cond.selects RX5 yX5_preferenceAt yX5_preferenceAt, Cond.code yX5_preferenceAt cX5_preferenceAt 3 (some .int)]
def wsL_law_r9 : List Cond := [Cond.methodLink RX5 83 yX2_listed, Cond.methodLink RL 34 yX6_preferenceAt, Cond.instanceMethod yX6_preferenceAt, Cond.selects RX6 yX6_preferenceAt yX6_preferenceAt, Cond.code yX6_preferenceAt cX6_preferenceAt 3 (some .int), Cond.methodLink RL 35 yX5_firstPost, Cond.instanceMethod yX5_firstPost, Cond.selects RX5 yX5_firstPost yX5_firstPost, Cond.code yX5_firstPost cX5_firstPost 2 (some .int), Cond.methodLink RX5 86 yX2_firstOf, Cond.instanceMethod yX2_firstOf, Cond.selects RX2 yX2_firstOf yX2_firstOf, Cond.code yX2_firstOf cX2_firstOf 2 (some .int), Cond.methodLink RL 38 yX6_firstPost, Cond.instanceMethod yX6_firstPost, Cond.selects RX6 yX6_firstPost yX6_firstPost, Cond.code yX6_firstPost cX6_firstPost 2 (some .int), Cond.methodLink RX6 63 yX6_first, Cond.instanceMethod yX6_first, Cond.selects RX6 yX6_first yX6_first, Cond.code yX6_first cX6_first 2 (some .int), Cond.methodLink RL 39 yX5_secondPost, Cond.instanceMethod yX5_secondPost, Cond.selects RX5 yX5_secondPost yX5_secondPost]
def wsL_law_r10 : List Cond := [Cond.code yX5_secondPost cX5_secondPost 2 (some .int), Cond.methodLink RX5 90 yX2_secondOf, Cond.instanceMethod yX2_secondOf, Cond.selects RX2 yX2_secondOf yX2_secondOf, Cond.code yX2_secondOf cX2_secondOf 4 (some .int), Cond.methodLink RX2 39 yX2_countFirst, Cond.instanceMethod yX2_countFirst, Cond.selects RX2 yX2_countFirst yX2_countFirst, Cond.code yX2_countFirst cX2_countFirst 4 (some .int), Cond.methodLink RX2 43 yX2_firstOf, Cond.methodLink RL 42 yX6_secondPost, Cond.instanceMethod yX6_secondPost, Cond.selects RX6 yX6_secondPost yX6_secondPost, Cond.code yX6_secondPost cX6_secondPost 2 (some .int), Cond.methodLink RX6 70 yX6_second, Cond.instanceMethod yX6_second, Cond.selects RX6 yX6_second yX6_second, Cond.code yX6_second cX6_second 4 (some .int), Cond.methodLink RX6 67 yX6_firsts, Cond.instanceMethod yX6_firsts, Cond.selects RX6 yX6_firsts yX6_firsts, Cond.code yX6_firsts cX6_firsts 4 (some .int), Cond.methodLink RL 43 yX5_assign, Cond.instanceMethod yX5_assign]
def wsL_law_r11 : List Cond := [Cond.selects RX5 yX5_assign yX5_assign, Cond.code yX5_assign cX5_assign 4 (some .int), Cond.fieldLink RX5 96 "PopularMatchings$Matching" "posts" "[I", Cond.methodLink RX5 93 yX3_othersAt, Cond.instanceMethod yX3_othersAt, Cond.selects RX3 yX3_othersAt yX3_othersAt, Cond.code yX3_othersAt cX3_othersAt 5 (some .int), Cond.methodLink RX5 99 yX1_remember, Cond.instanceMethod yX1_remember, Cond.selects RX1 yX1_remember yX1_remember, Cond.code yX1_remember cX1_remember 3 none, Cond.methodLink RX1 25 yX1_dropOldest, Cond.instanceMethod yX1_dropOldest, Cond.selects RX1 yX1_dropOldest yX1_dropOldest, Cond.code yX1_dropOldest cX1_dropOldest 2 none, Cond.methodLink RX1 28 yX3_copyFrom, Cond.instanceMethod yX3_copyFrom, Cond.selects RX3 yX3_copyFrom yX3_copyFrom, Cond.code yX3_copyFrom cX3_copyFrom 3 none, Cond.methodLink RL 46 yX6_assign, Cond.instanceMethod yX6_assign, Cond.selects RX6 yX6_assign yX6_assign, Cond.code yX6_assign cX6_assign 5 (some .int), Cond.methodLink RX6 73 yX6_edit]
def wsL_law_r12 : List Cond := [Cond.instanceMethod yX6_edit, Cond.selects RX6 yX6_edit yX6_edit, Cond.code yX6_edit cX6_edit 2 none, Cond.methodLink RL 47 yX5_postOf, Cond.instanceMethod yX5_postOf, Cond.selects RX5 yX5_postOf yX5_postOf, Cond.code yX5_postOf cX5_postOf 2 (some .int), Cond.methodLink RL 50 yX6_postOf, Cond.instanceMethod yX6_postOf, Cond.selects RX6 yX6_postOf yX6_postOf, Cond.code yX6_postOf cX6_postOf 2 (some .int), Cond.methodLink RL 51 yX5_size, Cond.instanceMethod yX5_size, Cond.selects RX5 yX5_size yX5_size, Cond.code yX5_size cX5_size 1 (some .int), Cond.methodLink RX5 103 yX3_countPlaced, Cond.instanceMethod yX3_countPlaced, Cond.selects RX3 yX3_countPlaced yX3_countPlaced, Cond.code yX3_countPlaced cX3_countPlaced 3 (some .int), Cond.methodLink RL 55 yX6_size, Cond.instanceMethod yX6_size, Cond.selects RX6 yX6_size yX6_size, Cond.code yX6_size cX6_size 3 (some .int), Cond.methodLink RL 56 yX5_isParetoOptimal]
def wsL_law_r13 : List Cond := [Cond.instanceMethod yX5_isParetoOptimal, Cond.selects RX5 yX5_isParetoOptimal yX5_isParetoOptimal, Cond.code yX5_isParetoOptimal cX5_isParetoOptimal 2 (some .int), Cond.methodLink RX5 107 yX0_bestKey, Cond.instanceMethod yX0_bestKey, Cond.selects RX0 yX0_bestKey yX0_bestKey, Cond.code yX0_bestKey cX0_bestKey 8 (some .int), Cond.fieldLink RX0 23 "PopularMatchings$ChallengerSearch" "FILL_OF_POST" "[I", Cond.fieldLink RX0 26 "PopularMatchings$Instance" "posts" "I", Cond.constant RX0 32 (-1073741824), Cond.constant RX0 18 (262143), Cond.fieldLink RX0 33 "PopularMatchings$Instance" "applicants" "I", Cond.fieldLink RX0 36 "PopularMatchings$Matching" "posts" "[I", Cond.fieldLink RX0 44 "PopularMatchings$Instance" "lengths" "[I", Cond.methodLink RX0 51 Lib.Math.max.name, Cond.static Lib.Math.max.name, Cond.initialized "java/lang/Math", Cond.code Lib.Math.max.name Lib.Math.max.code 2 (some .int), Cond.methodLink RX0 40 yX2_rankOf, Cond.methodLink RX0 47 yX0_letChoose, Cond.instanceMethod yX0_letChoose, Cond.selects RX0 yX0_letChoose yX0_letChoose, Cond.code yX0_letChoose cX0_letChoose 11 none, Cond.fieldLink RX0 66 "PopularMatchings$Instance" "capacities" "[I"]
def wsL_law_r14 : List Cond := [Cond.methodLink RX0 56 yX2_vote, Cond.static yX2_vote, Cond.code yX2_vote cX2_vote 2 (some .int), Cond.methodLink RX0 19 yX0_placeShift, Cond.static yX0_placeShift, Cond.code yX0_placeShift cX0_placeShift 1 (some .int), Cond.methodLink RX0 59 yX0_raise, Cond.instanceMethod yX0_raise, Cond.selects RX0 yX0_raise yX0_raise, Cond.code yX0_raise cX0_raise 3 none, Cond.methodLink RX0 63 yX2_listed, Cond.methodLink RX5 111 yX0_marginIn, Cond.static yX0_marginIn, Cond.code yX0_marginIn cX0_marginIn 1 (some .int), Cond.methodLink RL 59 yX6_isParetoOptimal, Cond.instanceMethod yX6_isParetoOptimal, Cond.selects RX6 yX6_isParetoOptimal yX6_isParetoOptimal, Cond.code yX6_isParetoOptimal cX6_isParetoOptimal 1 (some .int), Cond.methodLink RX6 90 yX6_margin, Cond.instanceMethod yX6_margin, Cond.selects RX6 yX6_margin yX6_margin, Cond.code yX6_margin cX6_margin 7 (some .int), Cond.methodLink RX6 86 yX6_gives, Cond.instanceMethod yX6_gives]
def wsL_law_r15 : List Cond := [Cond.selects RX6 yX6_gives yX6_gives, Cond.code yX6_gives cX6_gives 6 (some .int), Cond.methodLink RX6 76 yX6_vote, Cond.instanceMethod yX6_vote, Cond.selects RX6 yX6_vote yX6_vote, Cond.code yX6_vote cX6_vote 6 (some .int), Cond.methodLink RX6 80 yX6_digit, Cond.static yX6_digit, Cond.code yX6_digit cX6_digit 4 (some .int), Cond.methodLink RX6 83 yX6_power, Cond.static yX6_power, Cond.code yX6_power cX6_power 3 (some .int), Cond.methodLink RL 60 yX5_save, Cond.instanceMethod yX5_save, Cond.selects RX5 yX5_save yX5_save, Cond.code yX5_save cX5_save 1 (some .int), Cond.methodLink RX5 114 yX3_copyFrom, Cond.methodLink RL 63 yX6_save, Cond.instanceMethod yX6_save, Cond.selects RX6 yX6_save yX6_save, Cond.code yX6_save cX6_save 2 (some .int), Cond.methodLink RX6 94 yX6_size, Cond.methodLink RL 64 yX5_swapSaved, Cond.instanceMethod yX5_swapSaved]
def wsL_law_r16 : List Cond := [Cond.selects RX5 yX5_swapSaved yX5_swapSaved, Cond.code yX5_swapSaved cX5_swapSaved 1 (some .int), Cond.methodLink RL 67 yX6_swapSaved, Cond.instanceMethod yX6_swapSaved, Cond.selects RX6 yX6_swapSaved yX6_swapSaved, Cond.code yX6_swapSaved cX6_swapSaved 3 (some .int), Cond.methodLink RL 68 yX5_marginOverSaved, Cond.instanceMethod yX5_marginOverSaved, Cond.selects RX5 yX5_marginOverSaved yX5_marginOverSaved, Cond.code yX5_marginOverSaved cX5_marginOverSaved 5 (some .int), Cond.methodLink RX5 118 yX2_rankOf, Cond.methodLink RX5 121 yX2_vote, Cond.methodLink RL 71 yX6_marginOverSaved, Cond.instanceMethod yX6_marginOverSaved, Cond.selects RX6 yX6_marginOverSaved yX6_marginOverSaved, Cond.code yX6_marginOverSaved cX6_marginOverSaved 3 (some .int), Cond.methodLink RL 72 yX5_unpopularityMargin, Cond.instanceMethod yX5_unpopularityMargin, Cond.selects RX5 yX5_unpopularityMargin yX5_unpopularityMargin, Cond.code yX5_unpopularityMargin cX5_unpopularityMargin 1 (some .int), Cond.methodLink RL 75 yX6_unpopularityMargin, Cond.instanceMethod yX6_unpopularityMargin, Cond.selects RX6 yX6_unpopularityMargin yX6_unpopularityMargin, Cond.code yX6_unpopularityMargin cX6_unpopularityMargin 1 (some .int)]
def wsL_law_r17 : List Cond := [Cond.methodLink RL 76 yX5_challengerPost, Cond.instanceMethod yX5_challengerPost, Cond.selects RX5 yX5_challengerPost yX5_challengerPost, Cond.code yX5_challengerPost cX5_challengerPost 2 (some .int), Cond.methodLink RX5 124 yX0_postIn, Cond.static yX0_postIn, Cond.code yX0_postIn cX0_postIn 4 (some .int), Cond.methodLink RL 79 yX6_challengerPost, Cond.instanceMethod yX6_challengerPost, Cond.selects RX6 yX6_challengerPost yX6_challengerPost, Cond.code yX6_challengerPost cX6_challengerPost 2 (some .int), Cond.methodLink RX6 98 yX6_challenges, Cond.instanceMethod yX6_challenges, Cond.selects RX6 yX6_challenges yX6_challenges, Cond.code yX6_challenges cX6_challenges 5 (some .int), Cond.methodLink RL 80 yX5_adoptChallenger, Cond.instanceMethod yX5_adoptChallenger, Cond.selects RX5 yX5_adoptChallenger yX5_adoptChallenger, Cond.code yX5_adoptChallenger cX5_adoptChallenger 3 (some .int), Cond.methodLink RX5 130 yX5_adoptDraft, Cond.instanceMethod yX5_adoptDraft, Cond.selects RX5 yX5_adoptDraft yX5_adoptDraft, Cond.code yX5_adoptDraft cX5_adoptDraft 1 (some .int), Cond.methodLink RL 83 yX6_adoptChallenger]
def wsL_law_r18 : List Cond := [Cond.instanceMethod yX6_adoptChallenger, Cond.selects RX6 yX6_adoptChallenger yX6_adoptChallenger, Cond.code yX6_adoptChallenger cX6_adoptChallenger 2 (some .int), Cond.methodLink RX6 101 yX6_takes, Cond.instanceMethod yX6_takes, Cond.selects RX6 yX6_takes yX6_takes, Cond.code yX6_takes cX6_takes 2 none, Cond.methodLink RL 84 yX5_popularCount, Cond.instanceMethod yX5_popularCount, Cond.selects RX5 yX5_popularCount yX5_popularCount, Cond.code yX5_popularCount cX5_popularCount 1 (some .int), Cond.methodLink RX5 133 yX4_collect, Cond.instanceMethod yX4_collect, Cond.selects RX4 yX4_collect yX4_collect, Cond.code yX4_collect cX4_collect 4 (some .int), Cond.fieldLink RX4 37 "PopularMatchings$Instance" "applicants" "I", Cond.methodLink RX4 33 yX4_prepare, Cond.instanceMethod yX4_prepare, Cond.selects RX4 yX4_prepare yX4_prepare, Cond.code yX4_prepare cX4_prepare 6 none, Cond.fieldLink RX4 66 "PopularMatchings$Instance" "posts" "I", Cond.fieldLink RX4 71 "PopularMatchings$Instance" "capacities" "[I", Cond.methodLink RX4 74 Lib.Math.min.name, Cond.static Lib.Math.min.name]
def wsL_law_r19 : List Cond := [Cond.code Lib.Math.min.name Lib.Math.min.code 2 (some .int), Cond.methodLink RX4 59 yX2_firstOf, Cond.methodLink RX4 63 yX2_secondOf, Cond.methodLink RX4 68 yX2_countFirst, Cond.methodLink RX4 43 yX4_isPopular, Cond.instanceMethod yX4_isPopular, Cond.selects RX4 yX4_isPopular yX4_isPopular, Cond.code yX4_isPopular cX4_isPopular 5 (some .boolean), Cond.methodLink RX4 80 yX4_takesHigher, Cond.static yX4_takesHigher, Cond.code yX4_takesHigher cX4_takesHigher 3 (some .boolean), Cond.methodLink RX4 55 yX4_postIn, Cond.instanceMethod yX4_postIn, Cond.selects RX4 yX4_postIn yX4_postIn, Cond.code yX4_postIn cX4_postIn 4 (some .int), Cond.methodLink RX4 84 yX4_count, Cond.instanceMethod yX4_count, Cond.selects RX4 yX4_count yX4_count, Cond.code yX4_count cX4_count 3 none, Cond.methodLink RL 87 yX6_popularCount, Cond.instanceMethod yX6_popularCount, Cond.selects RX6 yX6_popularCount yX6_popularCount, Cond.code yX6_popularCount cX6_popularCount 3 (some .int), Cond.methodLink RX6 104 yX6_lays]
def wsL_law_r20 : List Cond := [Cond.instanceMethod yX6_lays, Cond.selects RX6 yX6_lays yX6_lays, Cond.code yX6_lays cX6_lays 7 (some .boolean), Cond.methodLink RL 88 yX5_greatestPopularSize, Cond.instanceMethod yX5_greatestPopularSize, Cond.selects RX5 yX5_greatestPopularSize yX5_greatestPopularSize, Cond.code yX5_greatestPopularSize cX5_greatestPopularSize 4 (some .int), Cond.methodLink RX5 141 Lib.Math.max.name, Cond.methodLink RX5 137 yX4_write, Cond.instanceMethod yX4_write, Cond.selects RX4 yX4_write yX4_write, Cond.code yX4_write cX4_write 5 none, Cond.fieldLink RX4 52 "PopularMatchings$Matching" "posts" "[I", Cond.methodLink RX4 47 yX3_clear, Cond.methodLink RL 91 yX6_greatestPopularSize, Cond.instanceMethod yX6_greatestPopularSize, Cond.selects RX6 yX6_greatestPopularSize yX6_greatestPopularSize, Cond.code yX6_greatestPopularSize cX6_greatestPopularSize 3 (some .int), Cond.methodLink RX6 107 yX6_sizeOf, Cond.instanceMethod yX6_sizeOf, Cond.selects RX6 yX6_sizeOf yX6_sizeOf, Cond.code yX6_sizeOf cX6_sizeOf 3 (some .int), Cond.methodLink RL 92 yX5_adoptPopular, Cond.instanceMethod yX5_adoptPopular]
def wsL_law_r21 : List Cond := [Cond.selects RX5 yX5_adoptPopular yX5_adoptPopular, Cond.code yX5_adoptPopular cX5_adoptPopular 2 (some .int), Cond.methodLink RL 95 yX6_adoptPopular, Cond.instanceMethod yX6_adoptPopular, Cond.selects RX6 yX6_adoptPopular yX6_adoptPopular, Cond.code yX6_adoptPopular cX6_adoptPopular 7 (some .int), Cond.constant RX6 113 (99999), Cond.methodLink RX6 110 yX6_popularCount, Cond.methodLink RX6 114 yX6_code, Cond.instanceMethod yX6_code, Cond.selects RX6 yX6_code yX6_code, Cond.code yX6_code cX6_code 3 (some .int), Cond.methodLink RL 96 yX5_adoptSerial, Cond.instanceMethod yX5_adoptSerial, Cond.selects RX5 yX5_adoptSerial yX5_adoptSerial, Cond.code yX5_adoptSerial cX5_adoptSerial 3 (some .int), Cond.methodLink RX5 146 yX5_mostPreferredFree, Cond.instanceMethod yX5_mostPreferredFree, Cond.selects RX5 yX5_mostPreferredFree yX5_mostPreferredFree, Cond.code yX5_mostPreferredFree cX5_mostPreferredFree 4 (some .int), Cond.methodLink RL 99 yX6_adoptSerial, Cond.instanceMethod yX6_adoptSerial, Cond.selects RX6 yX6_adoptSerial yX6_adoptSerial, Cond.code yX6_adoptSerial cX6_adoptSerial 7 (some .int)]
def wsL_law_r22 : List Cond := [Cond.methodLink RL 100 yX5_undo, Cond.instanceMethod yX5_undo, Cond.selects RX5 yX5_undo yX5_undo, Cond.code yX5_undo cX5_undo 1 (some .int), Cond.fieldLink RX5 149 "PopularMatchings$History" "count" "I", Cond.methodLink RX5 152 yX1_restore, Cond.instanceMethod yX1_restore, Cond.selects RX1 yX1_restore yX1_restore, Cond.code yX1_restore cX1_restore 3 none, Cond.methodLink RL 103 yX6_undo, Cond.instanceMethod yX6_undo, Cond.selects RX6 yX6_undo yX6_undo, Cond.code yX6_undo cX6_undo 2 (some .int)]
def wsL_law : List Cond := (wsL_law_r1 ++ (wsL_law_r2 ++ (wsL_law_r3 ++ (wsL_law_r4 ++ (wsL_law_r5 ++ (wsL_law_r6 ++ (wsL_law_r7 ++ (wsL_law_r8 ++ (wsL_law_r9 ++ (wsL_law_r10 ++ (wsL_law_r11 ++ (wsL_law_r12 ++ (wsL_law_r13 ++ (wsL_law_r14 ++ (wsL_law_r15 ++ (wsL_law_r16 ++ (wsL_law_r17 ++ (wsL_law_r18 ++ (wsL_law_r19 ++ (wsL_law_r20 ++ (wsL_law_r21 ++ wsL_law_r22))))))))))))))))))))) ++ wsX50 ++ wsX60 ++ wsX20 ++ wsX30 ++ wsX10 ++ wsX00 ++ wsX40 ++ ([] : List Cond)
abbrev vwCl : List vw_C := [(RX0, TX0, 2), (RX1, TX1, 3), (RX2, TX2, 5), (RX3, TX3, 1), (RX4, TX4, 7), (RX5, TX5, 7), (RX6, TX6, 10)]
end
section
theorem dX0_init_0 : decode cX0_init 0 = .ok (.aload_n 0, 1) := by decide +kernel
theorem dX0_init_1 : decode cX0_init 1 = .ok (.invokespecial 5, 3) := by decide +kernel
theorem dX0_init_4 : decode cX0_init 4 = .ok (.aload_n 0, 1) := by decide +kernel
theorem dX0_init_5 : decode cX0_init 5 = .ok (.sipush 1215, 3) := by decide +kernel
theorem dX0_init_8 : decode cX0_init 8 = .ok (.newarray .int, 2) := by decide +kernel
theorem dX0_init_10 : decode cX0_init 10 = .ok (.putfield 11, 3) := by decide +kernel
theorem dX0_init_13 : decode cX0_init 13 = .ok (.aload_n 0, 1) := by decide +kernel
theorem dX0_init_14 : decode cX0_init 14 = .ok (.sipush 243, 3) := by decide +kernel
theorem dX0_init_17 : decode cX0_init 17 = .ok (.newarray .int, 2) := by decide +kernel
theorem dX0_init_19 : decode cX0_init 19 = .ok (.putfield 15, 3) := by decide +kernel
theorem dX0_init_22 : decode cX0_init 22 = .ok (.iconst 0, 1) := by decide +kernel
theorem dX0_init_23 : decode cX0_init 23 = .ok (.istore_n 1, 1) := by decide +kernel
theorem dX0_init_24 : decode cX0_init 24 = .ok (.iload_n 1, 1) := by decide +kernel
theorem dX0_init_25 : decode cX0_init 25 = .ok (.sipush 243, 3) := by decide +kernel
theorem dX0_init_28 : decode cX0_init 28 = .ok (.if_icmp .ge 41, 3) := by decide +kernel
theorem dX0_init_31 : decode cX0_init 31 = .ok (.iload_n 1, 1) := by decide +kernel
theorem dX0_init_32 : decode cX0_init 32 = .ok (.istore_n 2, 1) := by decide +kernel
theorem dX0_init_33 : decode cX0_init 33 = .ok (.iconst 0, 1) := by decide +kernel
theorem dX0_init_34 : decode cX0_init 34 = .ok (.istore_n 3, 1) := by decide +kernel
theorem dX0_init_35 : decode cX0_init 35 = .ok (.iload_n 3, 1) := by decide +kernel
theorem dX0_init_36 : decode cX0_init 36 = .ok (.iconst 5, 1) := by decide +kernel
theorem dX0_init_37 : decode cX0_init 37 = .ok (.if_icmp .ge 26, 3) := by decide +kernel
theorem dX0_init_40 : decode cX0_init 40 = .ok (.aload_n 0, 1) := by decide +kernel
theorem dX0_init_41 : decode cX0_init 41 = .ok (.getfield 11, 3) := by decide +kernel
theorem dX0_init_44 : decode cX0_init 44 = .ok (.iload_n 1, 1) := by decide +kernel
theorem dX0_init_45 : decode cX0_init 45 = .ok (.iconst 5, 1) := by decide +kernel
theorem dX0_init_46 : decode cX0_init 46 = .ok (.imul, 1) := by decide +kernel
theorem dX0_init_47 : decode cX0_init 47 = .ok (.iload_n 3, 1) := by decide +kernel
theorem dX0_init_48 : decode cX0_init 48 = .ok (.iadd, 1) := by decide +kernel
theorem dX0_init_49 : decode cX0_init 49 = .ok (.iload_n 2, 1) := by decide +kernel
theorem dX0_init_50 : decode cX0_init 50 = .ok (.iconst 3, 1) := by decide +kernel
theorem dX0_init_51 : decode cX0_init 51 = .ok (.irem, 1) := by decide +kernel
theorem dX0_init_52 : decode cX0_init 52 = .ok (.iastore, 1) := by decide +kernel
theorem dX0_init_53 : decode cX0_init 53 = .ok (.iload_n 2, 1) := by decide +kernel
theorem dX0_init_54 : decode cX0_init 54 = .ok (.iconst 3, 1) := by decide +kernel
theorem dX0_init_55 : decode cX0_init 55 = .ok (.idiv, 1) := by decide +kernel
theorem dX0_init_56 : decode cX0_init 56 = .ok (.istore_n 2, 1) := by decide +kernel
theorem dX0_init_57 : decode cX0_init 57 = .ok (.iinc 3 1, 3) := by decide +kernel
theorem dX0_init_60 : decode cX0_init 60 = .ok (.goto (-25), 3) := by decide +kernel
theorem dX0_init_63 : decode cX0_init 63 = .ok (.iinc 1 1, 3) := by decide +kernel
theorem dX0_init_66 : decode cX0_init 66 = .ok (.goto (-42), 3) := by decide +kernel
theorem dX0_init_69 : decode cX0_init 69 = .ok (.return_, 1) := by decide +kernel
theorem dX0_marginIn_0 : decode cX0_marginIn 0 = .ok (.iload_n 0, 1) := by decide +kernel
theorem dX0_marginIn_1 : decode cX0_marginIn 1 = .ok (.bipush 18, 2) := by decide +kernel
theorem dX0_marginIn_3 : decode cX0_marginIn 3 = .ok (.ishr, 1) := by decide +kernel
theorem dX0_marginIn_4 : decode cX0_marginIn 4 = .ok (.ireturn, 1) := by decide +kernel
set_option maxRecDepth 20000 in
theorem ggX0_postIn_X0_placeShift : GoodIn wsX0_postIn wsX0_placeShift := goodIn_r _ [5] (by decide +kernel) (by decide +kernel)
set_option maxRecDepth 20000 in
theorem gX0_postIn_X0_placeShift : GoodIn wsX0_postIn (va_wsS RX0 19 yX0_placeShift wsX0_placeShift) := goodIn_app (goodIn_of _ (by decide +kernel)) ggX0_postIn_X0_placeShift
theorem dX0_postIn_0 : decode cX0_postIn 0 = .ok (.ldc 18, 2) := by decide +kernel
theorem dX0_postIn_2 : decode cX0_postIn 2 = .ok (.iload_n 0, 1) := by decide +kernel
theorem dX0_postIn_3 : decode cX0_postIn 3 = .ok (.ldc 18, 2) := by decide +kernel
theorem dX0_postIn_5 : decode cX0_postIn 5 = .ok (.iand, 1) := by decide +kernel
theorem dX0_postIn_6 : decode cX0_postIn 6 = .ok (.isub, 1) := by decide +kernel
theorem dX0_postIn_7 : decode cX0_postIn 7 = .ok (.istore_n 2, 1) := by decide +kernel
theorem dX0_postIn_8 : decode cX0_postIn 8 = .ok (.iload_n 2, 1) := by decide +kernel
theorem dX0_postIn_9 : decode cX0_postIn 9 = .ok (.iload_n 1, 1) := by decide +kernel
theorem dX0_postIn_10 : decode cX0_postIn 10 = .ok (.invokestatic 19, 3) := by decide +kernel
theorem dX0_postIn_13 : decode cX0_postIn 13 = .ok (.ishr, 1) := by decide +kernel
theorem dX0_postIn_14 : decode cX0_postIn 14 = .ok (.bipush 7, 2) := by decide +kernel
theorem dX0_postIn_16 : decode cX0_postIn 16 = .ok (.iand, 1) := by decide +kernel
theorem dX0_postIn_17 : decode cX0_postIn 17 = .ok (.istore_n 3, 1) := by decide +kernel
theorem dX0_postIn_18 : decode cX0_postIn 18 = .ok (.iload_n 3, 1) := by decide +kernel
theorem dX0_postIn_19 : decode cX0_postIn 19 = .ok (.iconst 5, 1) := by decide +kernel
theorem dX0_postIn_20 : decode cX0_postIn 20 = .ok (.if_icmp .ne 7, 3) := by decide +kernel
theorem dX0_postIn_23 : decode cX0_postIn 23 = .ok (.iconst (-1), 1) := by decide +kernel
theorem dX0_postIn_24 : decode cX0_postIn 24 = .ok (.goto 4, 3) := by decide +kernel
theorem dX0_postIn_27 : decode cX0_postIn 27 = .ok (.iload_n 3, 1) := by decide +kernel
theorem dX0_postIn_28 : decode cX0_postIn 28 = .ok (.ireturn, 1) := by decide +kernel
theorem dX0_placeShift_0 : decode cX0_placeShift 0 = .ok (.iconst 3, 1) := by decide +kernel
theorem dX0_placeShift_1 : decode cX0_placeShift 1 = .ok (.iconst 5, 1) := by decide +kernel
theorem dX0_placeShift_2 : decode cX0_placeShift 2 = .ok (.iload_n 0, 1) := by decide +kernel
theorem dX0_placeShift_3 : decode cX0_placeShift 3 = .ok (.isub, 1) := by decide +kernel
theorem dX0_placeShift_4 : decode cX0_placeShift 4 = .ok (.imul, 1) := by decide +kernel
theorem dX0_placeShift_5 : decode cX0_placeShift 5 = .ok (.ireturn, 1) := by decide +kernel
set_option maxRecDepth 20000 in
theorem ggX0_bestKey_X2_rankOf : GoodIn wsX0_bestKey wsX2_rankOf := goodIn_r _ [17, 18, 19, 20, 21, 16, 22, 23, 42, 43, 44, 45, 46] (by decide +kernel) (by decide +kernel)
set_option maxRecDepth 20000 in
theorem gX0_bestKey_X2_rankOf : GoodIn wsX0_bestKey (wsV RX0 40 RX2 yX2_rankOf wsX2_rankOf) := goodIn_app (goodIn_of _ (by decide +kernel)) ggX0_bestKey_X2_rankOf
set_option maxRecDepth 20000 in
theorem ggX0_bestKey_X0_letChoose : GoodIn wsX0_bestKey wsX0_letChoose := goodIn_r _ [28, 1, 2, 3, 4, 8, 29, 30, 31, 32, 16, 33, 34, 35, 27, 36, 37, 38, 39, 40, 41, 20, 21, 22, 23, 42, 43, 44, 45, 46, 47, 48] (by decide +kernel) (by decide +kernel)
set_option maxRecDepth 20000 in
theorem gX0_bestKey_X0_letChoose : GoodIn wsX0_bestKey (wsV RX0 47 RX0 yX0_letChoose wsX0_letChoose) := goodIn_app (goodIn_of _ (by decide +kernel)) ggX0_bestKey_X0_letChoose
theorem dX0_bestKey_0 : decode cX0_bestKey 0 = .ok (.getstatic 23, 3) := by decide +kernel
theorem dX0_bestKey_3 : decode cX0_bestKey 3 = .ok (.aload_n 1, 1) := by decide +kernel
theorem dX0_bestKey_4 : decode cX0_bestKey 4 = .ok (.getfield 26, 3) := by decide +kernel
theorem dX0_bestKey_7 : decode cX0_bestKey 7 = .ok (.iaload, 1) := by decide +kernel
theorem dX0_bestKey_8 : decode cX0_bestKey 8 = .ok (.istore 4, 2) := by decide +kernel
theorem dX0_bestKey_10 : decode cX0_bestKey 10 = .ok (.iconst 0, 1) := by decide +kernel
theorem dX0_bestKey_11 : decode cX0_bestKey 11 = .ok (.istore 5, 2) := by decide +kernel
theorem dX0_bestKey_13 : decode cX0_bestKey 13 = .ok (.iload 5, 2) := by decide +kernel
theorem dX0_bestKey_15 : decode cX0_bestKey 15 = .ok (.iload 4, 2) := by decide +kernel
theorem dX0_bestKey_17 : decode cX0_bestKey 17 = .ok (.if_icmp .ge 18, 3) := by decide +kernel
theorem dX0_bestKey_20 : decode cX0_bestKey 20 = .ok (.aload_n 0, 1) := by decide +kernel
theorem dX0_bestKey_21 : decode cX0_bestKey 21 = .ok (.getfield 15, 3) := by decide +kernel
theorem dX0_bestKey_24 : decode cX0_bestKey 24 = .ok (.iload 5, 2) := by decide +kernel
theorem dX0_bestKey_26 : decode cX0_bestKey 26 = .ok (.ldc 32, 2) := by decide +kernel
theorem dX0_bestKey_28 : decode cX0_bestKey 28 = .ok (.iastore, 1) := by decide +kernel
theorem dX0_bestKey_29 : decode cX0_bestKey 29 = .ok (.iinc 5 1, 3) := by decide +kernel
theorem dX0_bestKey_32 : decode cX0_bestKey 32 = .ok (.goto (-19), 3) := by decide +kernel
theorem dX0_bestKey_35 : decode cX0_bestKey 35 = .ok (.aload_n 0, 1) := by decide +kernel
theorem dX0_bestKey_36 : decode cX0_bestKey 36 = .ok (.getfield 15, 3) := by decide +kernel
theorem dX0_bestKey_39 : decode cX0_bestKey 39 = .ok (.iconst 0, 1) := by decide +kernel
theorem dX0_bestKey_40 : decode cX0_bestKey 40 = .ok (.ldc 18, 2) := by decide +kernel
theorem dX0_bestKey_42 : decode cX0_bestKey 42 = .ok (.iastore, 1) := by decide +kernel
theorem dX0_bestKey_43 : decode cX0_bestKey 43 = .ok (.iconst 0, 1) := by decide +kernel
theorem dX0_bestKey_44 : decode cX0_bestKey 44 = .ok (.istore 5, 2) := by decide +kernel
theorem dX0_bestKey_46 : decode cX0_bestKey 46 = .ok (.iload 5, 2) := by decide +kernel
theorem dX0_bestKey_48 : decode cX0_bestKey 48 = .ok (.aload_n 1, 1) := by decide +kernel
theorem dX0_bestKey_49 : decode cX0_bestKey 49 = .ok (.getfield 33, 3) := by decide +kernel
theorem dX0_bestKey_52 : decode cX0_bestKey 52 = .ok (.if_icmp .ge 53, 3) := by decide +kernel
theorem dX0_bestKey_55 : decode cX0_bestKey 55 = .ok (.aload_n 1, 1) := by decide +kernel
theorem dX0_bestKey_56 : decode cX0_bestKey 56 = .ok (.iload 5, 2) := by decide +kernel
theorem dX0_bestKey_58 : decode cX0_bestKey 58 = .ok (.aload_n 2, 1) := by decide +kernel
theorem dX0_bestKey_59 : decode cX0_bestKey 59 = .ok (.getfield 36, 3) := by decide +kernel
theorem dX0_bestKey_62 : decode cX0_bestKey 62 = .ok (.iload 5, 2) := by decide +kernel
theorem dX0_bestKey_64 : decode cX0_bestKey 64 = .ok (.iaload, 1) := by decide +kernel
theorem dX0_bestKey_65 : decode cX0_bestKey 65 = .ok (.invokevirtual 40, 3) := by decide +kernel
theorem dX0_bestKey_68 : decode cX0_bestKey 68 = .ok (.istore 6, 2) := by decide +kernel
theorem dX0_bestKey_70 : decode cX0_bestKey 70 = .ok (.iload_n 3, 1) := by decide +kernel
theorem dX0_bestKey_71 : decode cX0_bestKey 71 = .ok (.ifCond .eq 13, 3) := by decide +kernel
theorem dX0_bestKey_74 : decode cX0_bestKey 74 = .ok (.aload_n 1, 1) := by decide +kernel
theorem dX0_bestKey_75 : decode cX0_bestKey 75 = .ok (.getfield 44, 3) := by decide +kernel
theorem dX0_bestKey_78 : decode cX0_bestKey 78 = .ok (.iload 5, 2) := by decide +kernel
theorem dX0_bestKey_80 : decode cX0_bestKey 80 = .ok (.iaload, 1) := by decide +kernel
theorem dX0_bestKey_81 : decode cX0_bestKey 81 = .ok (.goto 5, 3) := by decide +kernel
theorem dX0_bestKey_84 : decode cX0_bestKey 84 = .ok (.iload 6, 2) := by decide +kernel
theorem dX0_bestKey_86 : decode cX0_bestKey 86 = .ok (.istore 7, 2) := by decide +kernel
theorem dX0_bestKey_88 : decode cX0_bestKey 88 = .ok (.aload_n 0, 1) := by decide +kernel
theorem dX0_bestKey_89 : decode cX0_bestKey 89 = .ok (.aload_n 1, 1) := by decide +kernel
theorem dX0_bestKey_90 : decode cX0_bestKey 90 = .ok (.iload 5, 2) := by decide +kernel
theorem dX0_bestKey_92 : decode cX0_bestKey 92 = .ok (.iload 6, 2) := by decide +kernel
theorem dX0_bestKey_94 : decode cX0_bestKey 94 = .ok (.iload 7, 2) := by decide +kernel
theorem dX0_bestKey_96 : decode cX0_bestKey 96 = .ok (.invokevirtual 47, 3) := by decide +kernel
theorem dX0_bestKey_99 : decode cX0_bestKey 99 = .ok (.iinc 5 1, 3) := by decide +kernel
theorem dX0_bestKey_102 : decode cX0_bestKey 102 = .ok (.goto (-56), 3) := by decide +kernel
theorem dX0_bestKey_105 : decode cX0_bestKey 105 = .ok (.ldc 32, 2) := by decide +kernel
theorem dX0_bestKey_107 : decode cX0_bestKey 107 = .ok (.istore 5, 2) := by decide +kernel
theorem dX0_bestKey_109 : decode cX0_bestKey 109 = .ok (.iconst 0, 1) := by decide +kernel
theorem dX0_bestKey_110 : decode cX0_bestKey 110 = .ok (.istore 6, 2) := by decide +kernel
theorem dX0_bestKey_112 : decode cX0_bestKey 112 = .ok (.iload 6, 2) := by decide +kernel
theorem dX0_bestKey_114 : decode cX0_bestKey 114 = .ok (.iload 4, 2) := by decide +kernel
theorem dX0_bestKey_116 : decode cX0_bestKey 116 = .ok (.if_icmp .ge 23, 3) := by decide +kernel
theorem dX0_bestKey_119 : decode cX0_bestKey 119 = .ok (.iload 5, 2) := by decide +kernel
theorem dX0_bestKey_121 : decode cX0_bestKey 121 = .ok (.aload_n 0, 1) := by decide +kernel
theorem dX0_bestKey_122 : decode cX0_bestKey 122 = .ok (.getfield 15, 3) := by decide +kernel
theorem dX0_bestKey_125 : decode cX0_bestKey 125 = .ok (.iload 6, 2) := by decide +kernel
theorem dX0_bestKey_127 : decode cX0_bestKey 127 = .ok (.iaload, 1) := by decide +kernel
theorem dX0_bestKey_128 : decode cX0_bestKey 128 = .ok (.invokestatic 51, 3) := by decide +kernel
theorem dX0_bestKey_131 : decode cX0_bestKey 131 = .ok (.istore 5, 2) := by decide +kernel
theorem dX0_bestKey_133 : decode cX0_bestKey 133 = .ok (.iinc 6 1, 3) := by decide +kernel
theorem dX0_bestKey_136 : decode cX0_bestKey 136 = .ok (.goto (-24), 3) := by decide +kernel
theorem dX0_bestKey_139 : decode cX0_bestKey 139 = .ok (.iload 5, 2) := by decide +kernel
theorem dX0_bestKey_141 : decode cX0_bestKey 141 = .ok (.ireturn, 1) := by decide +kernel
set_option maxRecDepth 20000 in
theorem ggX0_letChoose_X2_vote : GoodIn wsX0_letChoose wsX2_vote := goodIn_r _ [11] (by decide +kernel) (by decide +kernel)
set_option maxRecDepth 20000 in
theorem gX0_letChoose_X2_vote : GoodIn wsX0_letChoose (va_wsS RX0 56 yX2_vote wsX2_vote) := goodIn_app (goodIn_of _ (by decide +kernel)) ggX0_letChoose_X2_vote
set_option maxRecDepth 20000 in
theorem ggX0_letChoose_X0_placeShift : GoodIn wsX0_letChoose wsX0_placeShift := goodIn_r _ [15] (by decide +kernel) (by decide +kernel)
set_option maxRecDepth 20000 in
theorem gX0_letChoose_X0_placeShift : GoodIn wsX0_letChoose (va_wsS RX0 19 yX0_placeShift wsX0_placeShift) := goodIn_app (goodIn_of _ (by decide +kernel)) ggX0_letChoose_X0_placeShift
set_option maxRecDepth 20000 in
theorem ggX0_letChoose_X0_raise : GoodIn wsX0_letChoose wsX0_raise := goodIn_r _ [19, 3, 30, 31] (by decide +kernel) (by decide +kernel)
set_option maxRecDepth 20000 in
theorem gX0_letChoose_X0_raise : GoodIn wsX0_letChoose (wsV RX0 59 RX0 yX0_raise wsX0_raise) := goodIn_app (goodIn_of _ (by decide +kernel)) ggX0_letChoose_X0_raise
set_option maxRecDepth 20000 in
theorem ggX0_letChoose_X2_listed : GoodIn wsX0_letChoose wsX2_listed := goodIn_r _ [23, 24, 25, 26, 27, 28, 29] (by decide +kernel) (by decide +kernel)
set_option maxRecDepth 20000 in
theorem gX0_letChoose_X2_listed : GoodIn wsX0_letChoose (wsV RX0 63 RX2 yX2_listed wsX2_listed) := goodIn_app (goodIn_of _ (by decide +kernel)) ggX0_letChoose_X2_listed
theorem dX0_letChoose_0 : decode cX0_letChoose 0 = .ok (.getstatic 23, 3) := by decide +kernel
theorem dX0_letChoose_3 : decode cX0_letChoose 3 = .ok (.aload_n 1, 1) := by decide +kernel
theorem dX0_letChoose_4 : decode cX0_letChoose 4 = .ok (.getfield 26, 3) := by decide +kernel
theorem dX0_letChoose_7 : decode cX0_letChoose 7 = .ok (.iaload, 1) := by decide +kernel
theorem dX0_letChoose_8 : decode cX0_letChoose 8 = .ok (.iconst 1, 1) := by decide +kernel
theorem dX0_letChoose_9 : decode cX0_letChoose 9 = .ok (.isub, 1) := by decide +kernel
theorem dX0_letChoose_10 : decode cX0_letChoose 10 = .ok (.istore 5, 2) := by decide +kernel
theorem dX0_letChoose_12 : decode cX0_letChoose 12 = .ok (.iload 5, 2) := by decide +kernel
theorem dX0_letChoose_14 : decode cX0_letChoose 14 = .ok (.ifCond .lt 151, 3) := by decide +kernel
theorem dX0_letChoose_17 : decode cX0_letChoose 17 = .ok (.aload_n 0, 1) := by decide +kernel
theorem dX0_letChoose_18 : decode cX0_letChoose 18 = .ok (.getfield 15, 3) := by decide +kernel
theorem dX0_letChoose_21 : decode cX0_letChoose 21 = .ok (.iload 5, 2) := by decide +kernel
theorem dX0_letChoose_23 : decode cX0_letChoose 23 = .ok (.iaload, 1) := by decide +kernel
theorem dX0_letChoose_24 : decode cX0_letChoose 24 = .ok (.istore 6, 2) := by decide +kernel
theorem dX0_letChoose_26 : decode cX0_letChoose 26 = .ok (.aload_n 0, 1) := by decide +kernel
theorem dX0_letChoose_27 : decode cX0_letChoose 27 = .ok (.getfield 15, 3) := by decide +kernel
theorem dX0_letChoose_30 : decode cX0_letChoose 30 = .ok (.iload 5, 2) := by decide +kernel
theorem dX0_letChoose_32 : decode cX0_letChoose 32 = .ok (.ldc 32, 2) := by decide +kernel
theorem dX0_letChoose_34 : decode cX0_letChoose 34 = .ok (.iastore, 1) := by decide +kernel
theorem dX0_letChoose_35 : decode cX0_letChoose 35 = .ok (.iconst 0, 1) := by decide +kernel
theorem dX0_letChoose_36 : decode cX0_letChoose 36 = .ok (.istore 7, 2) := by decide +kernel
theorem dX0_letChoose_38 : decode cX0_letChoose 38 = .ok (.iload 7, 2) := by decide +kernel
theorem dX0_letChoose_40 : decode cX0_letChoose 40 = .ok (.iload 4, 2) := by decide +kernel
theorem dX0_letChoose_42 : decode cX0_letChoose 42 = .ok (.if_icmp .gt 117, 3) := by decide +kernel
theorem dX0_letChoose_45 : decode cX0_letChoose 45 = .ok (.iload 6, 2) := by decide +kernel
theorem dX0_letChoose_47 : decode cX0_letChoose 47 = .ok (.ldc 32, 2) := by decide +kernel
theorem dX0_letChoose_49 : decode cX0_letChoose 49 = .ok (.if_icmp .eq 110, 3) := by decide +kernel
theorem dX0_letChoose_52 : decode cX0_letChoose 52 = .ok (.iload 7, 2) := by decide +kernel
theorem dX0_letChoose_54 : decode cX0_letChoose 54 = .ok (.iload_n 3, 1) := by decide +kernel
theorem dX0_letChoose_55 : decode cX0_letChoose 55 = .ok (.invokestatic 56, 3) := by decide +kernel
theorem dX0_letChoose_58 : decode cX0_letChoose 58 = .ok (.istore 8, 2) := by decide +kernel
theorem dX0_letChoose_60 : decode cX0_letChoose 60 = .ok (.iload 6, 2) := by decide +kernel
theorem dX0_letChoose_62 : decode cX0_letChoose 62 = .ok (.iload 8, 2) := by decide +kernel
theorem dX0_letChoose_64 : decode cX0_letChoose 64 = .ok (.bipush 18, 2) := by decide +kernel
theorem dX0_letChoose_66 : decode cX0_letChoose 66 = .ok (.ishl, 1) := by decide +kernel
theorem dX0_letChoose_67 : decode cX0_letChoose 67 = .ok (.iadd, 1) := by decide +kernel
theorem dX0_letChoose_68 : decode cX0_letChoose 68 = .ok (.istore 9, 2) := by decide +kernel
theorem dX0_letChoose_70 : decode cX0_letChoose 70 = .ok (.iload 7, 2) := by decide +kernel
theorem dX0_letChoose_72 : decode cX0_letChoose 72 = .ok (.aload_n 1, 1) := by decide +kernel
theorem dX0_letChoose_73 : decode cX0_letChoose 73 = .ok (.getfield 44, 3) := by decide +kernel
theorem dX0_letChoose_76 : decode cX0_letChoose 76 = .ok (.iload_n 2, 1) := by decide +kernel
theorem dX0_letChoose_77 : decode cX0_letChoose 77 = .ok (.iaload, 1) := by decide +kernel
theorem dX0_letChoose_78 : decode cX0_letChoose 78 = .ok (.if_icmp .ne 21, 3) := by decide +kernel
theorem dX0_letChoose_81 : decode cX0_letChoose 81 = .ok (.aload_n 0, 1) := by decide +kernel
theorem dX0_letChoose_82 : decode cX0_letChoose 82 = .ok (.iload 5, 2) := by decide +kernel
theorem dX0_letChoose_84 : decode cX0_letChoose 84 = .ok (.iload 9, 2) := by decide +kernel
theorem dX0_letChoose_86 : decode cX0_letChoose 86 = .ok (.iconst 5, 1) := by decide +kernel
theorem dX0_letChoose_87 : decode cX0_letChoose 87 = .ok (.iload_n 2, 1) := by decide +kernel
theorem dX0_letChoose_88 : decode cX0_letChoose 88 = .ok (.invokestatic 19, 3) := by decide +kernel
theorem dX0_letChoose_91 : decode cX0_letChoose 91 = .ok (.ishl, 1) := by decide +kernel
theorem dX0_letChoose_92 : decode cX0_letChoose 92 = .ok (.isub, 1) := by decide +kernel
theorem dX0_letChoose_93 : decode cX0_letChoose 93 = .ok (.invokevirtual 59, 3) := by decide +kernel
theorem dX0_letChoose_96 : decode cX0_letChoose 96 = .ok (.goto 57, 3) := by decide +kernel
theorem dX0_letChoose_99 : decode cX0_letChoose 99 = .ok (.aload_n 1, 1) := by decide +kernel
theorem dX0_letChoose_100 : decode cX0_letChoose 100 = .ok (.iload_n 2, 1) := by decide +kernel
theorem dX0_letChoose_101 : decode cX0_letChoose 101 = .ok (.iload 7, 2) := by decide +kernel
theorem dX0_letChoose_103 : decode cX0_letChoose 103 = .ok (.invokevirtual 63, 3) := by decide +kernel
theorem dX0_letChoose_106 : decode cX0_letChoose 106 = .ok (.istore 10, 2) := by decide +kernel
theorem dX0_letChoose_108 : decode cX0_letChoose 108 = .ok (.aload_n 0, 1) := by decide +kernel
theorem dX0_letChoose_109 : decode cX0_letChoose 109 = .ok (.getfield 11, 3) := by decide +kernel
theorem dX0_letChoose_112 : decode cX0_letChoose 112 = .ok (.iload 5, 2) := by decide +kernel
theorem dX0_letChoose_114 : decode cX0_letChoose 114 = .ok (.iconst 5, 1) := by decide +kernel
theorem dX0_letChoose_115 : decode cX0_letChoose 115 = .ok (.imul, 1) := by decide +kernel
theorem dX0_letChoose_116 : decode cX0_letChoose 116 = .ok (.iload 10, 2) := by decide +kernel
theorem dX0_letChoose_118 : decode cX0_letChoose 118 = .ok (.iadd, 1) := by decide +kernel
theorem dX0_letChoose_119 : decode cX0_letChoose 119 = .ok (.iaload, 1) := by decide +kernel
theorem dX0_letChoose_120 : decode cX0_letChoose 120 = .ok (.aload_n 1, 1) := by decide +kernel
theorem dX0_letChoose_121 : decode cX0_letChoose 121 = .ok (.getfield 66, 3) := by decide +kernel
theorem dX0_letChoose_124 : decode cX0_letChoose 124 = .ok (.iload 10, 2) := by decide +kernel
theorem dX0_letChoose_126 : decode cX0_letChoose 126 = .ok (.iaload, 1) := by decide +kernel
theorem dX0_letChoose_127 : decode cX0_letChoose 127 = .ok (.if_icmp .ge 26, 3) := by decide +kernel
theorem dX0_letChoose_130 : decode cX0_letChoose 130 = .ok (.aload_n 0, 1) := by decide +kernel
theorem dX0_letChoose_131 : decode cX0_letChoose 131 = .ok (.iload 5, 2) := by decide +kernel
theorem dX0_letChoose_133 : decode cX0_letChoose 133 = .ok (.getstatic 23, 3) := by decide +kernel
theorem dX0_letChoose_136 : decode cX0_letChoose 136 = .ok (.iload 10, 2) := by decide +kernel
theorem dX0_letChoose_138 : decode cX0_letChoose 138 = .ok (.iaload, 1) := by decide +kernel
theorem dX0_letChoose_139 : decode cX0_letChoose 139 = .ok (.iadd, 1) := by decide +kernel
theorem dX0_letChoose_140 : decode cX0_letChoose 140 = .ok (.iload 9, 2) := by decide +kernel
theorem dX0_letChoose_142 : decode cX0_letChoose 142 = .ok (.iload 10, 2) := by decide +kernel
theorem dX0_letChoose_144 : decode cX0_letChoose 144 = .ok (.iload_n 2, 1) := by decide +kernel
theorem dX0_letChoose_145 : decode cX0_letChoose 145 = .ok (.invokestatic 19, 3) := by decide +kernel
theorem dX0_letChoose_148 : decode cX0_letChoose 148 = .ok (.ishl, 1) := by decide +kernel
theorem dX0_letChoose_149 : decode cX0_letChoose 149 = .ok (.isub, 1) := by decide +kernel
theorem dX0_letChoose_150 : decode cX0_letChoose 150 = .ok (.invokevirtual 59, 3) := by decide +kernel
theorem dX0_letChoose_153 : decode cX0_letChoose 153 = .ok (.iinc 7 1, 3) := by decide +kernel
theorem dX0_letChoose_156 : decode cX0_letChoose 156 = .ok (.goto (-118), 3) := by decide +kernel
theorem dX0_letChoose_159 : decode cX0_letChoose 159 = .ok (.iinc 5 (-1), 3) := by decide +kernel
theorem dX0_letChoose_162 : decode cX0_letChoose 162 = .ok (.goto (-150), 3) := by decide +kernel
theorem dX0_letChoose_165 : decode cX0_letChoose 165 = .ok (.return_, 1) := by decide +kernel
theorem dX0_raise_0 : decode cX0_raise 0 = .ok (.iload_n 2, 1) := by decide +kernel
theorem dX0_raise_1 : decode cX0_raise 1 = .ok (.aload_n 0, 1) := by decide +kernel
theorem dX0_raise_2 : decode cX0_raise 2 = .ok (.getfield 15, 3) := by decide +kernel
theorem dX0_raise_5 : decode cX0_raise 5 = .ok (.iload_n 1, 1) := by decide +kernel
theorem dX0_raise_6 : decode cX0_raise 6 = .ok (.iaload, 1) := by decide +kernel
theorem dX0_raise_7 : decode cX0_raise 7 = .ok (.if_icmp .le 10, 3) := by decide +kernel
theorem dX0_raise_10 : decode cX0_raise 10 = .ok (.aload_n 0, 1) := by decide +kernel
theorem dX0_raise_11 : decode cX0_raise 11 = .ok (.getfield 15, 3) := by decide +kernel
theorem dX0_raise_14 : decode cX0_raise 14 = .ok (.iload_n 1, 1) := by decide +kernel
theorem dX0_raise_15 : decode cX0_raise 15 = .ok (.iload_n 2, 1) := by decide +kernel
theorem dX0_raise_16 : decode cX0_raise 16 = .ok (.iastore, 1) := by decide +kernel
theorem dX0_raise_17 : decode cX0_raise 17 = .ok (.return_, 1) := by decide +kernel
set_option maxRecDepth 20000 in
theorem ggX1_init_X3_init : GoodIn wsX1_init wsX3_init := goodIn_r _ [12, 13, 2, 3, 14, 15, 16, 17, 18, 9, 19, 23] (by decide +kernel) (by decide +kernel)
set_option maxRecDepth 20000 in
theorem gX1_init_X3_init : GoodIn wsX1_init (wsX3_init) := ggX1_init_X3_init
theorem dX1_init_0 : decode cX1_init 0 = .ok (.aload_n 0, 1) := by decide +kernel
theorem dX1_init_1 : decode cX1_init 1 = .ok (.invokespecial 3, 3) := by decide +kernel
theorem dX1_init_4 : decode cX1_init 4 = .ok (.aload_n 0, 1) := by decide +kernel
theorem dX1_init_5 : decode cX1_init 5 = .ok (.iconst 0, 1) := by decide +kernel
theorem dX1_init_6 : decode cX1_init 6 = .ok (.putfield 9, 3) := by decide +kernel
theorem dX1_init_9 : decode cX1_init 9 = .ok (.aload_n 0, 1) := by decide +kernel
theorem dX1_init_10 : decode cX1_init 10 = .ok (.iconst 5, 1) := by decide +kernel
theorem dX1_init_11 : decode cX1_init 11 = .ok (.anewarray 15, 3) := by decide +kernel
theorem dX1_init_14 : decode cX1_init 14 = .ok (.putfield 17, 3) := by decide +kernel
theorem dX1_init_17 : decode cX1_init 17 = .ok (.aload_n 0, 1) := by decide +kernel
theorem dX1_init_18 : decode cX1_init 18 = .ok (.iconst 5, 1) := by decide +kernel
theorem dX1_init_19 : decode cX1_init 19 = .ok (.anewarray 15, 3) := by decide +kernel
theorem dX1_init_22 : decode cX1_init 22 = .ok (.putfield 21, 3) := by decide +kernel
theorem dX1_init_25 : decode cX1_init 25 = .ok (.iconst 0, 1) := by decide +kernel
theorem dX1_init_26 : decode cX1_init 26 = .ok (.istore_n 1, 1) := by decide +kernel
theorem dX1_init_27 : decode cX1_init 27 = .ok (.iload_n 1, 1) := by decide +kernel
theorem dX1_init_28 : decode cX1_init 28 = .ok (.iconst 5, 1) := by decide +kernel
theorem dX1_init_29 : decode cX1_init 29 = .ok (.if_icmp .ge 35, 3) := by decide +kernel
theorem dX1_init_32 : decode cX1_init 32 = .ok (.aload_n 0, 1) := by decide +kernel
theorem dX1_init_33 : decode cX1_init 33 = .ok (.getfield 17, 3) := by decide +kernel
theorem dX1_init_36 : decode cX1_init 36 = .ok (.iload_n 1, 1) := by decide +kernel
theorem dX1_init_37 : decode cX1_init 37 = .ok (.new 15, 3) := by decide +kernel
theorem dX1_init_40 : decode cX1_init 40 = .ok (.dup, 1) := by decide +kernel
theorem dX1_init_41 : decode cX1_init 41 = .ok (.invokespecial 24, 3) := by decide +kernel
theorem dX1_init_44 : decode cX1_init 44 = .ok (.aastore, 1) := by decide +kernel
theorem dX1_init_45 : decode cX1_init 45 = .ok (.aload_n 0, 1) := by decide +kernel
theorem dX1_init_46 : decode cX1_init 46 = .ok (.getfield 21, 3) := by decide +kernel
theorem dX1_init_49 : decode cX1_init 49 = .ok (.iload_n 1, 1) := by decide +kernel
theorem dX1_init_50 : decode cX1_init 50 = .ok (.new 15, 3) := by decide +kernel
theorem dX1_init_53 : decode cX1_init 53 = .ok (.dup, 1) := by decide +kernel
theorem dX1_init_54 : decode cX1_init 54 = .ok (.invokespecial 24, 3) := by decide +kernel
theorem dX1_init_57 : decode cX1_init 57 = .ok (.aastore, 1) := by decide +kernel
theorem dX1_init_58 : decode cX1_init 58 = .ok (.iinc 1 1, 3) := by decide +kernel
theorem dX1_init_61 : decode cX1_init 61 = .ok (.goto (-34), 3) := by decide +kernel
theorem dX1_init_64 : decode cX1_init 64 = .ok (.return_, 1) := by decide +kernel
theorem dX1_forget_0 : decode cX1_forget 0 = .ok (.aload_n 0, 1) := by decide +kernel
theorem dX1_forget_1 : decode cX1_forget 1 = .ok (.iconst 0, 1) := by decide +kernel
theorem dX1_forget_2 : decode cX1_forget 2 = .ok (.putfield 9, 3) := by decide +kernel
theorem dX1_forget_5 : decode cX1_forget 5 = .ok (.return_, 1) := by decide +kernel
set_option maxRecDepth 20000 in
theorem ggX1_remember_X1_dropOldest : GoodIn wsX1_remember wsX1_dropOldest := goodIn_r _ [8, 2, 3, 1, 9, 10, 11, 12, 13, 14, 15, 16, 17, 18] (by decide +kernel) (by decide +kernel)
set_option maxRecDepth 20000 in
theorem gX1_remember_X1_dropOldest : GoodIn wsX1_remember (wsV RX1 25 RX1 yX1_dropOldest wsX1_dropOldest) := goodIn_app (goodIn_of _ (by decide +kernel)) ggX1_remember_X1_dropOldest
set_option maxRecDepth 20000 in
theorem ggX1_remember_X3_copyFrom : GoodIn wsX1_remember wsX3_copyFrom := goodIn_r _ [13, 14, 18] (by decide +kernel) (by decide +kernel)
set_option maxRecDepth 20000 in
theorem gX1_remember_X3_copyFrom : GoodIn wsX1_remember (wsV RX1 28 RX3 yX3_copyFrom wsX3_copyFrom) := goodIn_app (goodIn_of _ (by decide +kernel)) ggX1_remember_X3_copyFrom
theorem dX1_remember_0 : decode cX1_remember 0 = .ok (.aload_n 0, 1) := by decide +kernel
theorem dX1_remember_1 : decode cX1_remember 1 = .ok (.getfield 9, 3) := by decide +kernel
theorem dX1_remember_4 : decode cX1_remember 4 = .ok (.iconst 5, 1) := by decide +kernel
theorem dX1_remember_5 : decode cX1_remember 5 = .ok (.if_icmp .ne 7, 3) := by decide +kernel
theorem dX1_remember_8 : decode cX1_remember 8 = .ok (.aload_n 0, 1) := by decide +kernel
theorem dX1_remember_9 : decode cX1_remember 9 = .ok (.invokevirtual 25, 3) := by decide +kernel
theorem dX1_remember_12 : decode cX1_remember 12 = .ok (.aload_n 0, 1) := by decide +kernel
theorem dX1_remember_13 : decode cX1_remember 13 = .ok (.getfield 17, 3) := by decide +kernel
theorem dX1_remember_16 : decode cX1_remember 16 = .ok (.aload_n 0, 1) := by decide +kernel
theorem dX1_remember_17 : decode cX1_remember 17 = .ok (.getfield 9, 3) := by decide +kernel
theorem dX1_remember_20 : decode cX1_remember 20 = .ok (.aaload, 1) := by decide +kernel
theorem dX1_remember_21 : decode cX1_remember 21 = .ok (.aload_n 1, 1) := by decide +kernel
theorem dX1_remember_22 : decode cX1_remember 22 = .ok (.invokevirtual 28, 3) := by decide +kernel
theorem dX1_remember_25 : decode cX1_remember 25 = .ok (.aload_n 0, 1) := by decide +kernel
theorem dX1_remember_26 : decode cX1_remember 26 = .ok (.getfield 21, 3) := by decide +kernel
theorem dX1_remember_29 : decode cX1_remember 29 = .ok (.aload_n 0, 1) := by decide +kernel
theorem dX1_remember_30 : decode cX1_remember 30 = .ok (.getfield 9, 3) := by decide +kernel
theorem dX1_remember_33 : decode cX1_remember 33 = .ok (.aaload, 1) := by decide +kernel
theorem dX1_remember_34 : decode cX1_remember 34 = .ok (.aload_n 2, 1) := by decide +kernel
theorem dX1_remember_35 : decode cX1_remember 35 = .ok (.invokevirtual 28, 3) := by decide +kernel
theorem dX1_remember_38 : decode cX1_remember 38 = .ok (.aload_n 0, 1) := by decide +kernel
theorem dX1_remember_39 : decode cX1_remember 39 = .ok (.dup, 1) := by decide +kernel
theorem dX1_remember_40 : decode cX1_remember 40 = .ok (.getfield 9, 3) := by decide +kernel
theorem dX1_remember_43 : decode cX1_remember 43 = .ok (.iconst 1, 1) := by decide +kernel
theorem dX1_remember_44 : decode cX1_remember 44 = .ok (.iadd, 1) := by decide +kernel
theorem dX1_remember_45 : decode cX1_remember 45 = .ok (.putfield 9, 3) := by decide +kernel
theorem dX1_remember_48 : decode cX1_remember 48 = .ok (.return_, 1) := by decide +kernel
set_option maxRecDepth 20000 in
theorem ggX1_restore_X3_copyFrom : GoodIn wsX1_restore wsX3_copyFrom := goodIn_r _ [8, 9, 13] (by decide +kernel) (by decide +kernel)
set_option maxRecDepth 20000 in
theorem gX1_restore_X3_copyFrom : GoodIn wsX1_restore (wsV RX1 28 RX3 yX3_copyFrom wsX3_copyFrom) := goodIn_app (goodIn_of _ (by decide +kernel)) ggX1_restore_X3_copyFrom
theorem dX1_restore_0 : decode cX1_restore 0 = .ok (.aload_n 0, 1) := by decide +kernel
theorem dX1_restore_1 : decode cX1_restore 1 = .ok (.getfield 9, 3) := by decide +kernel
theorem dX1_restore_4 : decode cX1_restore 4 = .ok (.ifCond .le 39, 3) := by decide +kernel
theorem dX1_restore_7 : decode cX1_restore 7 = .ok (.aload_n 0, 1) := by decide +kernel
theorem dX1_restore_8 : decode cX1_restore 8 = .ok (.dup, 1) := by decide +kernel
theorem dX1_restore_9 : decode cX1_restore 9 = .ok (.getfield 9, 3) := by decide +kernel
theorem dX1_restore_12 : decode cX1_restore 12 = .ok (.iconst 1, 1) := by decide +kernel
theorem dX1_restore_13 : decode cX1_restore 13 = .ok (.isub, 1) := by decide +kernel
theorem dX1_restore_14 : decode cX1_restore 14 = .ok (.putfield 9, 3) := by decide +kernel
theorem dX1_restore_17 : decode cX1_restore 17 = .ok (.aload_n 1, 1) := by decide +kernel
theorem dX1_restore_18 : decode cX1_restore 18 = .ok (.aload_n 0, 1) := by decide +kernel
theorem dX1_restore_19 : decode cX1_restore 19 = .ok (.getfield 17, 3) := by decide +kernel
theorem dX1_restore_22 : decode cX1_restore 22 = .ok (.aload_n 0, 1) := by decide +kernel
theorem dX1_restore_23 : decode cX1_restore 23 = .ok (.getfield 9, 3) := by decide +kernel
theorem dX1_restore_26 : decode cX1_restore 26 = .ok (.aaload, 1) := by decide +kernel
theorem dX1_restore_27 : decode cX1_restore 27 = .ok (.invokevirtual 28, 3) := by decide +kernel
theorem dX1_restore_30 : decode cX1_restore 30 = .ok (.aload_n 2, 1) := by decide +kernel
theorem dX1_restore_31 : decode cX1_restore 31 = .ok (.aload_n 0, 1) := by decide +kernel
theorem dX1_restore_32 : decode cX1_restore 32 = .ok (.getfield 21, 3) := by decide +kernel
theorem dX1_restore_35 : decode cX1_restore 35 = .ok (.aload_n 0, 1) := by decide +kernel
theorem dX1_restore_36 : decode cX1_restore 36 = .ok (.getfield 9, 3) := by decide +kernel
theorem dX1_restore_39 : decode cX1_restore 39 = .ok (.aaload, 1) := by decide +kernel
theorem dX1_restore_40 : decode cX1_restore 40 = .ok (.invokevirtual 28, 3) := by decide +kernel
theorem dX1_restore_43 : decode cX1_restore 43 = .ok (.return_, 1) := by decide +kernel
set_option maxRecDepth 20000 in
theorem ggX1_dropOldest_X3_copyFrom : GoodIn wsX1_dropOldest wsX3_copyFrom := goodIn_r _ [8, 9, 13] (by decide +kernel) (by decide +kernel)
set_option maxRecDepth 20000 in
theorem gX1_dropOldest_X3_copyFrom : GoodIn wsX1_dropOldest (wsV RX1 28 RX3 yX3_copyFrom wsX3_copyFrom) := goodIn_app (goodIn_of _ (by decide +kernel)) ggX1_dropOldest_X3_copyFrom
theorem dX1_dropOldest_0 : decode cX1_dropOldest 0 = .ok (.iconst 1, 1) := by decide +kernel
theorem dX1_dropOldest_1 : decode cX1_dropOldest 1 = .ok (.istore_n 1, 1) := by decide +kernel
theorem dX1_dropOldest_2 : decode cX1_dropOldest 2 = .ok (.iload_n 1, 1) := by decide +kernel
theorem dX1_dropOldest_3 : decode cX1_dropOldest 3 = .ok (.iconst 5, 1) := by decide +kernel
theorem dX1_dropOldest_4 : decode cX1_dropOldest 4 = .ok (.if_icmp .ge 43, 3) := by decide +kernel
theorem dX1_dropOldest_7 : decode cX1_dropOldest 7 = .ok (.aload_n 0, 1) := by decide +kernel
theorem dX1_dropOldest_8 : decode cX1_dropOldest 8 = .ok (.getfield 17, 3) := by decide +kernel
theorem dX1_dropOldest_11 : decode cX1_dropOldest 11 = .ok (.iload_n 1, 1) := by decide +kernel
theorem dX1_dropOldest_12 : decode cX1_dropOldest 12 = .ok (.iconst 1, 1) := by decide +kernel
theorem dX1_dropOldest_13 : decode cX1_dropOldest 13 = .ok (.isub, 1) := by decide +kernel
theorem dX1_dropOldest_14 : decode cX1_dropOldest 14 = .ok (.aaload, 1) := by decide +kernel
theorem dX1_dropOldest_15 : decode cX1_dropOldest 15 = .ok (.aload_n 0, 1) := by decide +kernel
theorem dX1_dropOldest_16 : decode cX1_dropOldest 16 = .ok (.getfield 17, 3) := by decide +kernel
theorem dX1_dropOldest_19 : decode cX1_dropOldest 19 = .ok (.iload_n 1, 1) := by decide +kernel
theorem dX1_dropOldest_20 : decode cX1_dropOldest 20 = .ok (.aaload, 1) := by decide +kernel
theorem dX1_dropOldest_21 : decode cX1_dropOldest 21 = .ok (.invokevirtual 28, 3) := by decide +kernel
theorem dX1_dropOldest_24 : decode cX1_dropOldest 24 = .ok (.aload_n 0, 1) := by decide +kernel
theorem dX1_dropOldest_25 : decode cX1_dropOldest 25 = .ok (.getfield 21, 3) := by decide +kernel
theorem dX1_dropOldest_28 : decode cX1_dropOldest 28 = .ok (.iload_n 1, 1) := by decide +kernel
theorem dX1_dropOldest_29 : decode cX1_dropOldest 29 = .ok (.iconst 1, 1) := by decide +kernel
theorem dX1_dropOldest_30 : decode cX1_dropOldest 30 = .ok (.isub, 1) := by decide +kernel
theorem dX1_dropOldest_31 : decode cX1_dropOldest 31 = .ok (.aaload, 1) := by decide +kernel
theorem dX1_dropOldest_32 : decode cX1_dropOldest 32 = .ok (.aload_n 0, 1) := by decide +kernel
theorem dX1_dropOldest_33 : decode cX1_dropOldest 33 = .ok (.getfield 21, 3) := by decide +kernel
theorem dX1_dropOldest_36 : decode cX1_dropOldest 36 = .ok (.iload_n 1, 1) := by decide +kernel
theorem dX1_dropOldest_37 : decode cX1_dropOldest 37 = .ok (.aaload, 1) := by decide +kernel
theorem dX1_dropOldest_38 : decode cX1_dropOldest 38 = .ok (.invokevirtual 28, 3) := by decide +kernel
theorem dX1_dropOldest_41 : decode cX1_dropOldest 41 = .ok (.iinc 1 1, 3) := by decide +kernel
theorem dX1_dropOldest_44 : decode cX1_dropOldest 44 = .ok (.goto (-42), 3) := by decide +kernel
theorem dX1_dropOldest_47 : decode cX1_dropOldest 47 = .ok (.aload_n 0, 1) := by decide +kernel
theorem dX1_dropOldest_48 : decode cX1_dropOldest 48 = .ok (.iconst 4, 1) := by decide +kernel
theorem dX1_dropOldest_49 : decode cX1_dropOldest 49 = .ok (.putfield 9, 3) := by decide +kernel
theorem dX1_dropOldest_52 : decode cX1_dropOldest 52 = .ok (.return_, 1) := by decide +kernel
set_option maxRecDepth 20000 in
theorem ggX2_init_X2_startAnew : GoodIn wsX2_init wsX2_startAnew := goodIn_r _ [12, 13, 14, 5, 6, 15, 16, 17, 18, 19] (by decide +kernel) (by decide +kernel)
set_option maxRecDepth 20000 in
theorem gX2_init_X2_startAnew : GoodIn wsX2_init (wsV RX2 21 RX2 yX2_startAnew wsX2_startAnew) := goodIn_app (goodIn_of _ (by decide +kernel)) ggX2_init_X2_startAnew
theorem dX2_init_0 : decode cX2_init 0 = .ok (.aload_n 0, 1) := by decide +kernel
theorem dX2_init_1 : decode cX2_init 1 = .ok (.invokespecial 3, 3) := by decide +kernel
theorem dX2_init_4 : decode cX2_init 4 = .ok (.aload_n 0, 1) := by decide +kernel
theorem dX2_init_5 : decode cX2_init 5 = .ok (.iconst 5, 1) := by decide +kernel
theorem dX2_init_6 : decode cX2_init 6 = .ok (.newarray .int, 2) := by decide +kernel
theorem dX2_init_8 : decode cX2_init 8 = .ok (.putfield 9, 3) := by decide +kernel
theorem dX2_init_11 : decode cX2_init 11 = .ok (.aload_n 0, 1) := by decide +kernel
theorem dX2_init_12 : decode cX2_init 12 = .ok (.bipush 6, 2) := by decide +kernel
theorem dX2_init_14 : decode cX2_init 14 = .ok (.newarray .int, 2) := by decide +kernel
theorem dX2_init_16 : decode cX2_init 16 = .ok (.putfield 15, 3) := by decide +kernel
theorem dX2_init_19 : decode cX2_init 19 = .ok (.aload_n 0, 1) := by decide +kernel
theorem dX2_init_20 : decode cX2_init 20 = .ok (.bipush 30, 2) := by decide +kernel
theorem dX2_init_22 : decode cX2_init 22 = .ok (.newarray .int, 2) := by decide +kernel
theorem dX2_init_24 : decode cX2_init 24 = .ok (.putfield 18, 3) := by decide +kernel
theorem dX2_init_27 : decode cX2_init 27 = .ok (.aload_n 0, 1) := by decide +kernel
theorem dX2_init_28 : decode cX2_init 28 = .ok (.iconst 4, 1) := by decide +kernel
theorem dX2_init_29 : decode cX2_init 29 = .ok (.iconst 3, 1) := by decide +kernel
theorem dX2_init_30 : decode cX2_init 30 = .ok (.invokevirtual 21, 3) := by decide +kernel
theorem dX2_init_33 : decode cX2_init 33 = .ok (.return_, 1) := by decide +kernel
theorem dX2_startAnew_0 : decode cX2_startAnew 0 = .ok (.aload_n 0, 1) := by decide +kernel
theorem dX2_startAnew_1 : decode cX2_startAnew 1 = .ok (.iload_n 1, 1) := by decide +kernel
theorem dX2_startAnew_2 : decode cX2_startAnew 2 = .ok (.putfield 25, 3) := by decide +kernel
theorem dX2_startAnew_5 : decode cX2_startAnew 5 = .ok (.aload_n 0, 1) := by decide +kernel
theorem dX2_startAnew_6 : decode cX2_startAnew 6 = .ok (.iload_n 2, 1) := by decide +kernel
theorem dX2_startAnew_7 : decode cX2_startAnew 7 = .ok (.putfield 29, 3) := by decide +kernel
theorem dX2_startAnew_10 : decode cX2_startAnew 10 = .ok (.iconst 0, 1) := by decide +kernel
theorem dX2_startAnew_11 : decode cX2_startAnew 11 = .ok (.istore_n 3, 1) := by decide +kernel
theorem dX2_startAnew_12 : decode cX2_startAnew 12 = .ok (.iload_n 3, 1) := by decide +kernel
theorem dX2_startAnew_13 : decode cX2_startAnew 13 = .ok (.iconst 5, 1) := by decide +kernel
theorem dX2_startAnew_14 : decode cX2_startAnew 14 = .ok (.if_icmp .ge 16, 3) := by decide +kernel
theorem dX2_startAnew_17 : decode cX2_startAnew 17 = .ok (.aload_n 0, 1) := by decide +kernel
theorem dX2_startAnew_18 : decode cX2_startAnew 18 = .ok (.getfield 9, 3) := by decide +kernel
theorem dX2_startAnew_21 : decode cX2_startAnew 21 = .ok (.iload_n 3, 1) := by decide +kernel
theorem dX2_startAnew_22 : decode cX2_startAnew 22 = .ok (.iconst 1, 1) := by decide +kernel
theorem dX2_startAnew_23 : decode cX2_startAnew 23 = .ok (.iastore, 1) := by decide +kernel
theorem dX2_startAnew_24 : decode cX2_startAnew 24 = .ok (.iinc 3 1, 3) := by decide +kernel
theorem dX2_startAnew_27 : decode cX2_startAnew 27 = .ok (.goto (-15), 3) := by decide +kernel
theorem dX2_startAnew_30 : decode cX2_startAnew 30 = .ok (.iconst 0, 1) := by decide +kernel
theorem dX2_startAnew_31 : decode cX2_startAnew 31 = .ok (.istore_n 3, 1) := by decide +kernel
theorem dX2_startAnew_32 : decode cX2_startAnew 32 = .ok (.iload_n 3, 1) := by decide +kernel
theorem dX2_startAnew_33 : decode cX2_startAnew 33 = .ok (.bipush 6, 2) := by decide +kernel
theorem dX2_startAnew_35 : decode cX2_startAnew 35 = .ok (.if_icmp .ge 16, 3) := by decide +kernel
theorem dX2_startAnew_38 : decode cX2_startAnew 38 = .ok (.aload_n 0, 1) := by decide +kernel
theorem dX2_startAnew_39 : decode cX2_startAnew 39 = .ok (.getfield 15, 3) := by decide +kernel
theorem dX2_startAnew_42 : decode cX2_startAnew 42 = .ok (.iload_n 3, 1) := by decide +kernel
theorem dX2_startAnew_43 : decode cX2_startAnew 43 = .ok (.iconst 0, 1) := by decide +kernel
theorem dX2_startAnew_44 : decode cX2_startAnew 44 = .ok (.iastore, 1) := by decide +kernel
theorem dX2_startAnew_45 : decode cX2_startAnew 45 = .ok (.iinc 3 1, 3) := by decide +kernel
theorem dX2_startAnew_48 : decode cX2_startAnew 48 = .ok (.goto (-16), 3) := by decide +kernel
theorem dX2_startAnew_51 : decode cX2_startAnew 51 = .ok (.return_, 1) := by decide +kernel
theorem dX2_isApplicant_0 : decode cX2_isApplicant 0 = .ok (.iload_n 1, 1) := by decide +kernel
theorem dX2_isApplicant_1 : decode cX2_isApplicant 1 = .ok (.ifCond .lt 15, 3) := by decide +kernel
theorem dX2_isApplicant_4 : decode cX2_isApplicant 4 = .ok (.iload_n 1, 1) := by decide +kernel
theorem dX2_isApplicant_5 : decode cX2_isApplicant 5 = .ok (.aload_n 0, 1) := by decide +kernel
theorem dX2_isApplicant_6 : decode cX2_isApplicant 6 = .ok (.getfield 25, 3) := by decide +kernel
theorem dX2_isApplicant_9 : decode cX2_isApplicant 9 = .ok (.if_icmp .ge 7, 3) := by decide +kernel
theorem dX2_isApplicant_12 : decode cX2_isApplicant 12 = .ok (.iconst 1, 1) := by decide +kernel
theorem dX2_isApplicant_13 : decode cX2_isApplicant 13 = .ok (.goto 4, 3) := by decide +kernel
theorem dX2_isApplicant_16 : decode cX2_isApplicant 16 = .ok (.iconst 0, 1) := by decide +kernel
theorem dX2_isApplicant_17 : decode cX2_isApplicant 17 = .ok (.ireturn, 1) := by decide +kernel
theorem dX2_isPost_0 : decode cX2_isPost 0 = .ok (.iload_n 1, 1) := by decide +kernel
theorem dX2_isPost_1 : decode cX2_isPost 1 = .ok (.ifCond .lt 15, 3) := by decide +kernel
theorem dX2_isPost_4 : decode cX2_isPost 4 = .ok (.iload_n 1, 1) := by decide +kernel
theorem dX2_isPost_5 : decode cX2_isPost 5 = .ok (.aload_n 0, 1) := by decide +kernel
theorem dX2_isPost_6 : decode cX2_isPost 6 = .ok (.getfield 29, 3) := by decide +kernel
theorem dX2_isPost_9 : decode cX2_isPost 9 = .ok (.if_icmp .ge 7, 3) := by decide +kernel
theorem dX2_isPost_12 : decode cX2_isPost 12 = .ok (.iconst 1, 1) := by decide +kernel
theorem dX2_isPost_13 : decode cX2_isPost 13 = .ok (.goto 4, 3) := by decide +kernel
theorem dX2_isPost_16 : decode cX2_isPost 16 = .ok (.iconst 0, 1) := by decide +kernel
theorem dX2_isPost_17 : decode cX2_isPost 17 = .ok (.ireturn, 1) := by decide +kernel
theorem dX2_listed_0 : decode cX2_listed 0 = .ok (.aload_n 0, 1) := by decide +kernel
theorem dX2_listed_1 : decode cX2_listed 1 = .ok (.getfield 18, 3) := by decide +kernel
theorem dX2_listed_4 : decode cX2_listed 4 = .ok (.iload_n 1, 1) := by decide +kernel
theorem dX2_listed_5 : decode cX2_listed 5 = .ok (.iconst 5, 1) := by decide +kernel
theorem dX2_listed_6 : decode cX2_listed 6 = .ok (.imul, 1) := by decide +kernel
theorem dX2_listed_7 : decode cX2_listed 7 = .ok (.iload_n 2, 1) := by decide +kernel
theorem dX2_listed_8 : decode cX2_listed 8 = .ok (.iadd, 1) := by decide +kernel
theorem dX2_listed_9 : decode cX2_listed 9 = .ok (.iaload, 1) := by decide +kernel
theorem dX2_listed_10 : decode cX2_listed 10 = .ok (.ireturn, 1) := by decide +kernel
set_option maxRecDepth 20000 in
theorem ggX2_isListed_X2_rankOf : GoodIn wsX2_isListed wsX2_rankOf := goodIn_r _ [6, 1, 7, 8, 9, 5, 10, 11, 12, 13, 14, 15, 16] (by decide +kernel) (by decide +kernel)
set_option maxRecDepth 20000 in
theorem gX2_isListed_X2_rankOf : GoodIn wsX2_isListed (wsV RX2 32 RX2 yX2_rankOf wsX2_rankOf) := goodIn_app (goodIn_of _ (by decide +kernel)) ggX2_isListed_X2_rankOf
theorem dX2_isListed_0 : decode cX2_isListed 0 = .ok (.aload_n 0, 1) := by decide +kernel
theorem dX2_isListed_1 : decode cX2_isListed 1 = .ok (.iload_n 1, 1) := by decide +kernel
theorem dX2_isListed_2 : decode cX2_isListed 2 = .ok (.iload_n 2, 1) := by decide +kernel
theorem dX2_isListed_3 : decode cX2_isListed 3 = .ok (.invokevirtual 32, 3) := by decide +kernel
theorem dX2_isListed_6 : decode cX2_isListed 6 = .ok (.aload_n 0, 1) := by decide +kernel
theorem dX2_isListed_7 : decode cX2_isListed 7 = .ok (.getfield 15, 3) := by decide +kernel
theorem dX2_isListed_10 : decode cX2_isListed 10 = .ok (.iload_n 1, 1) := by decide +kernel
theorem dX2_isListed_11 : decode cX2_isListed 11 = .ok (.iaload, 1) := by decide +kernel
theorem dX2_isListed_12 : decode cX2_isListed 12 = .ok (.if_icmp .ge 7, 3) := by decide +kernel
theorem dX2_isListed_15 : decode cX2_isListed 15 = .ok (.iconst 1, 1) := by decide +kernel
theorem dX2_isListed_16 : decode cX2_isListed 16 = .ok (.goto 4, 3) := by decide +kernel
theorem dX2_isListed_19 : decode cX2_isListed 19 = .ok (.iconst 0, 1) := by decide +kernel
theorem dX2_isListed_20 : decode cX2_isListed 20 = .ok (.ireturn, 1) := by decide +kernel
theorem dX2_append_0 : decode cX2_append 0 = .ok (.aload_n 0, 1) := by decide +kernel
theorem dX2_append_1 : decode cX2_append 1 = .ok (.getfield 18, 3) := by decide +kernel
theorem dX2_append_4 : decode cX2_append 4 = .ok (.iload_n 1, 1) := by decide +kernel
theorem dX2_append_5 : decode cX2_append 5 = .ok (.iconst 5, 1) := by decide +kernel
theorem dX2_append_6 : decode cX2_append 6 = .ok (.imul, 1) := by decide +kernel
theorem dX2_append_7 : decode cX2_append 7 = .ok (.aload_n 0, 1) := by decide +kernel
theorem dX2_append_8 : decode cX2_append 8 = .ok (.getfield 15, 3) := by decide +kernel
theorem dX2_append_11 : decode cX2_append 11 = .ok (.iload_n 1, 1) := by decide +kernel
theorem dX2_append_12 : decode cX2_append 12 = .ok (.iaload, 1) := by decide +kernel
theorem dX2_append_13 : decode cX2_append 13 = .ok (.iadd, 1) := by decide +kernel
theorem dX2_append_14 : decode cX2_append 14 = .ok (.iload_n 2, 1) := by decide +kernel
theorem dX2_append_15 : decode cX2_append 15 = .ok (.iastore, 1) := by decide +kernel
theorem dX2_append_16 : decode cX2_append 16 = .ok (.aload_n 0, 1) := by decide +kernel
theorem dX2_append_17 : decode cX2_append 17 = .ok (.getfield 15, 3) := by decide +kernel
theorem dX2_append_20 : decode cX2_append 20 = .ok (.iload_n 1, 1) := by decide +kernel
theorem dX2_append_21 : decode cX2_append 21 = .ok (.dup2, 1) := by decide +kernel
theorem dX2_append_22 : decode cX2_append 22 = .ok (.iaload, 1) := by decide +kernel
theorem dX2_append_23 : decode cX2_append 23 = .ok (.iconst 1, 1) := by decide +kernel
theorem dX2_append_24 : decode cX2_append 24 = .ok (.iadd, 1) := by decide +kernel
theorem dX2_append_25 : decode cX2_append 25 = .ok (.iastore, 1) := by decide +kernel
theorem dX2_append_26 : decode cX2_append 26 = .ok (.aload_n 0, 1) := by decide +kernel
theorem dX2_append_27 : decode cX2_append 27 = .ok (.getfield 15, 3) := by decide +kernel
theorem dX2_append_30 : decode cX2_append 30 = .ok (.iload_n 1, 1) := by decide +kernel
theorem dX2_append_31 : decode cX2_append 31 = .ok (.iaload, 1) := by decide +kernel
theorem dX2_append_32 : decode cX2_append 32 = .ok (.ireturn, 1) := by decide +kernel
set_option maxRecDepth 20000 in
theorem ggX2_rankOf_X2_listed : GoodIn wsX2_rankOf wsX2_listed := goodIn_r _ [6, 7, 8, 9, 10, 11, 12] (by decide +kernel) (by decide +kernel)
set_option maxRecDepth 20000 in
theorem gX2_rankOf_X2_listed : GoodIn wsX2_rankOf (wsV RX2 36 RX2 yX2_listed wsX2_listed) := goodIn_app (goodIn_of _ (by decide +kernel)) ggX2_rankOf_X2_listed
theorem dX2_rankOf_0 : decode cX2_rankOf 0 = .ok (.iconst 0, 1) := by decide +kernel
theorem dX2_rankOf_1 : decode cX2_rankOf 1 = .ok (.istore_n 3, 1) := by decide +kernel
theorem dX2_rankOf_2 : decode cX2_rankOf 2 = .ok (.iload_n 3, 1) := by decide +kernel
theorem dX2_rankOf_3 : decode cX2_rankOf 3 = .ok (.aload_n 0, 1) := by decide +kernel
theorem dX2_rankOf_4 : decode cX2_rankOf 4 = .ok (.getfield 15, 3) := by decide +kernel
theorem dX2_rankOf_7 : decode cX2_rankOf 7 = .ok (.iload_n 1, 1) := by decide +kernel
theorem dX2_rankOf_8 : decode cX2_rankOf 8 = .ok (.iaload, 1) := by decide +kernel
theorem dX2_rankOf_9 : decode cX2_rankOf 9 = .ok (.if_icmp .ge 21, 3) := by decide +kernel
theorem dX2_rankOf_12 : decode cX2_rankOf 12 = .ok (.aload_n 0, 1) := by decide +kernel
theorem dX2_rankOf_13 : decode cX2_rankOf 13 = .ok (.iload_n 1, 1) := by decide +kernel
theorem dX2_rankOf_14 : decode cX2_rankOf 14 = .ok (.iload_n 3, 1) := by decide +kernel
theorem dX2_rankOf_15 : decode cX2_rankOf 15 = .ok (.invokevirtual 36, 3) := by decide +kernel
theorem dX2_rankOf_18 : decode cX2_rankOf 18 = .ok (.iload_n 2, 1) := by decide +kernel
theorem dX2_rankOf_19 : decode cX2_rankOf 19 = .ok (.if_icmp .ne 5, 3) := by decide +kernel
theorem dX2_rankOf_22 : decode cX2_rankOf 22 = .ok (.iload_n 3, 1) := by decide +kernel
theorem dX2_rankOf_23 : decode cX2_rankOf 23 = .ok (.ireturn, 1) := by decide +kernel
theorem dX2_rankOf_24 : decode cX2_rankOf 24 = .ok (.iinc 3 1, 3) := by decide +kernel
theorem dX2_rankOf_27 : decode cX2_rankOf 27 = .ok (.goto (-25), 3) := by decide +kernel
theorem dX2_rankOf_30 : decode cX2_rankOf 30 = .ok (.aload_n 0, 1) := by decide +kernel
theorem dX2_rankOf_31 : decode cX2_rankOf 31 = .ok (.getfield 15, 3) := by decide +kernel
theorem dX2_rankOf_34 : decode cX2_rankOf 34 = .ok (.iload_n 1, 1) := by decide +kernel
theorem dX2_rankOf_35 : decode cX2_rankOf 35 = .ok (.iaload, 1) := by decide +kernel
theorem dX2_rankOf_36 : decode cX2_rankOf 36 = .ok (.ireturn, 1) := by decide +kernel
theorem dX2_vote_0 : decode cX2_vote 0 = .ok (.iload_n 0, 1) := by decide +kernel
theorem dX2_vote_1 : decode cX2_vote 1 = .ok (.iload_n 1, 1) := by decide +kernel
theorem dX2_vote_2 : decode cX2_vote 2 = .ok (.if_icmp .ne 5, 3) := by decide +kernel
theorem dX2_vote_5 : decode cX2_vote 5 = .ok (.iconst 0, 1) := by decide +kernel
theorem dX2_vote_6 : decode cX2_vote 6 = .ok (.ireturn, 1) := by decide +kernel
theorem dX2_vote_7 : decode cX2_vote 7 = .ok (.iload_n 0, 1) := by decide +kernel
theorem dX2_vote_8 : decode cX2_vote 8 = .ok (.iload_n 1, 1) := by decide +kernel
theorem dX2_vote_9 : decode cX2_vote 9 = .ok (.if_icmp .ge 7, 3) := by decide +kernel
theorem dX2_vote_12 : decode cX2_vote 12 = .ok (.iconst 1, 1) := by decide +kernel
theorem dX2_vote_13 : decode cX2_vote 13 = .ok (.goto 4, 3) := by decide +kernel
theorem dX2_vote_16 : decode cX2_vote 16 = .ok (.iconst (-1), 1) := by decide +kernel
theorem dX2_vote_17 : decode cX2_vote 17 = .ok (.ireturn, 1) := by decide +kernel
set_option maxRecDepth 20000 in
theorem ggX2_firstOf_X2_listed : GoodIn wsX2_firstOf wsX2_listed := goodIn_r _ [6, 7, 8, 9, 10, 11, 12] (by decide +kernel) (by decide +kernel)
set_option maxRecDepth 20000 in
theorem gX2_firstOf_X2_listed : GoodIn wsX2_firstOf (wsV RX2 36 RX2 yX2_listed wsX2_listed) := goodIn_app (goodIn_of _ (by decide +kernel)) ggX2_firstOf_X2_listed
theorem dX2_firstOf_0 : decode cX2_firstOf 0 = .ok (.aload_n 0, 1) := by decide +kernel
theorem dX2_firstOf_1 : decode cX2_firstOf 1 = .ok (.getfield 15, 3) := by decide +kernel
theorem dX2_firstOf_4 : decode cX2_firstOf 4 = .ok (.iload_n 1, 1) := by decide +kernel
theorem dX2_firstOf_5 : decode cX2_firstOf 5 = .ok (.iaload, 1) := by decide +kernel
theorem dX2_firstOf_6 : decode cX2_firstOf 6 = .ok (.ifCond .ne 7, 3) := by decide +kernel
theorem dX2_firstOf_9 : decode cX2_firstOf 9 = .ok (.iconst (-1), 1) := by decide +kernel
theorem dX2_firstOf_10 : decode cX2_firstOf 10 = .ok (.goto 9, 3) := by decide +kernel
theorem dX2_firstOf_13 : decode cX2_firstOf 13 = .ok (.aload_n 0, 1) := by decide +kernel
theorem dX2_firstOf_14 : decode cX2_firstOf 14 = .ok (.iload_n 1, 1) := by decide +kernel
theorem dX2_firstOf_15 : decode cX2_firstOf 15 = .ok (.iconst 0, 1) := by decide +kernel
theorem dX2_firstOf_16 : decode cX2_firstOf 16 = .ok (.invokevirtual 36, 3) := by decide +kernel
theorem dX2_firstOf_19 : decode cX2_firstOf 19 = .ok (.ireturn, 1) := by decide +kernel
set_option maxRecDepth 20000 in
theorem ggX2_secondOf_X2_listed : GoodIn wsX2_secondOf wsX2_listed := goodIn_r _ [7, 8, 18, 19, 20, 21, 22] (by decide +kernel) (by decide +kernel)
set_option maxRecDepth 20000 in
theorem gX2_secondOf_X2_listed : GoodIn wsX2_secondOf (wsV RX2 36 RX2 yX2_listed wsX2_listed) := goodIn_app (goodIn_of _ (by decide +kernel)) ggX2_secondOf_X2_listed
set_option maxRecDepth 20000 in
theorem ggX2_secondOf_X2_countFirst : GoodIn wsX2_secondOf wsX2_countFirst := goodIn_r _ [12, 13, 14, 15, 16, 6, 17, 1, 3, 4, 5, 7, 8, 18, 19, 20, 21, 22] (by decide +kernel) (by decide +kernel)
set_option maxRecDepth 20000 in
theorem gX2_secondOf_X2_countFirst : GoodIn wsX2_secondOf (wsV RX2 39 RX2 yX2_countFirst wsX2_countFirst) := goodIn_app (goodIn_of _ (by decide +kernel)) ggX2_secondOf_X2_countFirst
theorem dX2_secondOf_0 : decode cX2_secondOf 0 = .ok (.iconst 1, 1) := by decide +kernel
theorem dX2_secondOf_1 : decode cX2_secondOf 1 = .ok (.istore_n 2, 1) := by decide +kernel
theorem dX2_secondOf_2 : decode cX2_secondOf 2 = .ok (.iload_n 2, 1) := by decide +kernel
theorem dX2_secondOf_3 : decode cX2_secondOf 3 = .ok (.aload_n 0, 1) := by decide +kernel
theorem dX2_secondOf_4 : decode cX2_secondOf 4 = .ok (.getfield 15, 3) := by decide +kernel
theorem dX2_secondOf_7 : decode cX2_secondOf 7 = .ok (.iload_n 1, 1) := by decide +kernel
theorem dX2_secondOf_8 : decode cX2_secondOf 8 = .ok (.iaload, 1) := by decide +kernel
theorem dX2_secondOf_9 : decode cX2_secondOf 9 = .ok (.if_icmp .ge 32, 3) := by decide +kernel
theorem dX2_secondOf_12 : decode cX2_secondOf 12 = .ok (.aload_n 0, 1) := by decide +kernel
theorem dX2_secondOf_13 : decode cX2_secondOf 13 = .ok (.iload_n 1, 1) := by decide +kernel
theorem dX2_secondOf_14 : decode cX2_secondOf 14 = .ok (.iload_n 2, 1) := by decide +kernel
theorem dX2_secondOf_15 : decode cX2_secondOf 15 = .ok (.invokevirtual 36, 3) := by decide +kernel
theorem dX2_secondOf_18 : decode cX2_secondOf 18 = .ok (.istore_n 3, 1) := by decide +kernel
theorem dX2_secondOf_19 : decode cX2_secondOf 19 = .ok (.aload_n 0, 1) := by decide +kernel
theorem dX2_secondOf_20 : decode cX2_secondOf 20 = .ok (.iload_n 3, 1) := by decide +kernel
theorem dX2_secondOf_21 : decode cX2_secondOf 21 = .ok (.invokevirtual 39, 3) := by decide +kernel
theorem dX2_secondOf_24 : decode cX2_secondOf 24 = .ok (.aload_n 0, 1) := by decide +kernel
theorem dX2_secondOf_25 : decode cX2_secondOf 25 = .ok (.getfield 9, 3) := by decide +kernel
theorem dX2_secondOf_28 : decode cX2_secondOf 28 = .ok (.iload_n 3, 1) := by decide +kernel
theorem dX2_secondOf_29 : decode cX2_secondOf 29 = .ok (.iaload, 1) := by decide +kernel
theorem dX2_secondOf_30 : decode cX2_secondOf 30 = .ok (.if_icmp .ge 5, 3) := by decide +kernel
theorem dX2_secondOf_33 : decode cX2_secondOf 33 = .ok (.iload_n 3, 1) := by decide +kernel
theorem dX2_secondOf_34 : decode cX2_secondOf 34 = .ok (.ireturn, 1) := by decide +kernel
theorem dX2_secondOf_35 : decode cX2_secondOf 35 = .ok (.iinc 2 1, 3) := by decide +kernel
theorem dX2_secondOf_38 : decode cX2_secondOf 38 = .ok (.goto (-36), 3) := by decide +kernel
theorem dX2_secondOf_41 : decode cX2_secondOf 41 = .ok (.iconst (-1), 1) := by decide +kernel
theorem dX2_secondOf_42 : decode cX2_secondOf 42 = .ok (.ireturn, 1) := by decide +kernel
set_option maxRecDepth 20000 in
theorem ggX2_countFirst_X2_firstOf : GoodIn wsX2_countFirst wsX2_firstOf := goodIn_r _ [6, 7, 8, 9, 10, 5, 11, 12, 13, 14, 15, 16, 17] (by decide +kernel) (by decide +kernel)
set_option maxRecDepth 20000 in
theorem gX2_countFirst_X2_firstOf : GoodIn wsX2_countFirst (wsV RX2 43 RX2 yX2_firstOf wsX2_firstOf) := goodIn_app (goodIn_of _ (by decide +kernel)) ggX2_countFirst_X2_firstOf
theorem dX2_countFirst_0 : decode cX2_countFirst 0 = .ok (.iconst 0, 1) := by decide +kernel
theorem dX2_countFirst_1 : decode cX2_countFirst 1 = .ok (.istore_n 2, 1) := by decide +kernel
theorem dX2_countFirst_2 : decode cX2_countFirst 2 = .ok (.iconst 0, 1) := by decide +kernel
theorem dX2_countFirst_3 : decode cX2_countFirst 3 = .ok (.istore_n 3, 1) := by decide +kernel
theorem dX2_countFirst_4 : decode cX2_countFirst 4 = .ok (.iload_n 3, 1) := by decide +kernel
theorem dX2_countFirst_5 : decode cX2_countFirst 5 = .ok (.aload_n 0, 1) := by decide +kernel
theorem dX2_countFirst_6 : decode cX2_countFirst 6 = .ok (.getfield 25, 3) := by decide +kernel
theorem dX2_countFirst_9 : decode cX2_countFirst 9 = .ok (.if_icmp .ge 21, 3) := by decide +kernel
theorem dX2_countFirst_12 : decode cX2_countFirst 12 = .ok (.aload_n 0, 1) := by decide +kernel
theorem dX2_countFirst_13 : decode cX2_countFirst 13 = .ok (.iload_n 3, 1) := by decide +kernel
theorem dX2_countFirst_14 : decode cX2_countFirst 14 = .ok (.invokevirtual 43, 3) := by decide +kernel
theorem dX2_countFirst_17 : decode cX2_countFirst 17 = .ok (.iload_n 1, 1) := by decide +kernel
theorem dX2_countFirst_18 : decode cX2_countFirst 18 = .ok (.if_icmp .ne 6, 3) := by decide +kernel
theorem dX2_countFirst_21 : decode cX2_countFirst 21 = .ok (.iinc 2 1, 3) := by decide +kernel
theorem dX2_countFirst_24 : decode cX2_countFirst 24 = .ok (.iinc 3 1, 3) := by decide +kernel
theorem dX2_countFirst_27 : decode cX2_countFirst 27 = .ok (.goto (-23), 3) := by decide +kernel
theorem dX2_countFirst_30 : decode cX2_countFirst 30 = .ok (.iload_n 2, 1) := by decide +kernel
theorem dX2_countFirst_31 : decode cX2_countFirst 31 = .ok (.ireturn, 1) := by decide +kernel
set_option maxRecDepth 20000 in
theorem ggX3_init_X3_clear : GoodIn wsX3_init wsX3_clear := goodIn_r _ [10, 5, 11] (by decide +kernel) (by decide +kernel)
set_option maxRecDepth 20000 in
theorem gX3_init_X3_clear : GoodIn wsX3_init (wsV RX3 15 RX3 yX3_clear wsX3_clear) := goodIn_app (goodIn_of _ (by decide +kernel)) ggX3_init_X3_clear
theorem dX3_init_0 : decode cX3_init 0 = .ok (.aload_n 0, 1) := by decide +kernel
theorem dX3_init_1 : decode cX3_init 1 = .ok (.invokespecial 3, 3) := by decide +kernel
theorem dX3_init_4 : decode cX3_init 4 = .ok (.aload_n 0, 1) := by decide +kernel
theorem dX3_init_5 : decode cX3_init 5 = .ok (.bipush 6, 2) := by decide +kernel
theorem dX3_init_7 : decode cX3_init 7 = .ok (.newarray .int, 2) := by decide +kernel
theorem dX3_init_9 : decode cX3_init 9 = .ok (.putfield 9, 3) := by decide +kernel
theorem dX3_init_12 : decode cX3_init 12 = .ok (.aload_n 0, 1) := by decide +kernel
theorem dX3_init_13 : decode cX3_init 13 = .ok (.invokevirtual 15, 3) := by decide +kernel
theorem dX3_init_16 : decode cX3_init 16 = .ok (.return_, 1) := by decide +kernel
theorem dX3_clear_0 : decode cX3_clear 0 = .ok (.iconst 0, 1) := by decide +kernel
theorem dX3_clear_1 : decode cX3_clear 1 = .ok (.istore_n 1, 1) := by decide +kernel
theorem dX3_clear_2 : decode cX3_clear 2 = .ok (.iload_n 1, 1) := by decide +kernel
theorem dX3_clear_3 : decode cX3_clear 3 = .ok (.bipush 6, 2) := by decide +kernel
theorem dX3_clear_5 : decode cX3_clear 5 = .ok (.if_icmp .ge 16, 3) := by decide +kernel
theorem dX3_clear_8 : decode cX3_clear 8 = .ok (.aload_n 0, 1) := by decide +kernel
theorem dX3_clear_9 : decode cX3_clear 9 = .ok (.getfield 9, 3) := by decide +kernel
theorem dX3_clear_12 : decode cX3_clear 12 = .ok (.iload_n 1, 1) := by decide +kernel
theorem dX3_clear_13 : decode cX3_clear 13 = .ok (.iconst (-1), 1) := by decide +kernel
theorem dX3_clear_14 : decode cX3_clear 14 = .ok (.iastore, 1) := by decide +kernel
theorem dX3_clear_15 : decode cX3_clear 15 = .ok (.iinc 1 1, 3) := by decide +kernel
theorem dX3_clear_18 : decode cX3_clear 18 = .ok (.goto (-16), 3) := by decide +kernel
theorem dX3_clear_21 : decode cX3_clear 21 = .ok (.return_, 1) := by decide +kernel
theorem dX3_copyFrom_0 : decode cX3_copyFrom 0 = .ok (.iconst 0, 1) := by decide +kernel
theorem dX3_copyFrom_1 : decode cX3_copyFrom 1 = .ok (.istore_n 2, 1) := by decide +kernel
theorem dX3_copyFrom_2 : decode cX3_copyFrom 2 = .ok (.iload_n 2, 1) := by decide +kernel
theorem dX3_copyFrom_3 : decode cX3_copyFrom 3 = .ok (.bipush 6, 2) := by decide +kernel
theorem dX3_copyFrom_5 : decode cX3_copyFrom 5 = .ok (.if_icmp .ge 21, 3) := by decide +kernel
theorem dX3_copyFrom_8 : decode cX3_copyFrom 8 = .ok (.aload_n 0, 1) := by decide +kernel
theorem dX3_copyFrom_9 : decode cX3_copyFrom 9 = .ok (.getfield 9, 3) := by decide +kernel
theorem dX3_copyFrom_12 : decode cX3_copyFrom 12 = .ok (.iload_n 2, 1) := by decide +kernel
theorem dX3_copyFrom_13 : decode cX3_copyFrom 13 = .ok (.aload_n 1, 1) := by decide +kernel
theorem dX3_copyFrom_14 : decode cX3_copyFrom 14 = .ok (.getfield 9, 3) := by decide +kernel
theorem dX3_copyFrom_17 : decode cX3_copyFrom 17 = .ok (.iload_n 2, 1) := by decide +kernel
theorem dX3_copyFrom_18 : decode cX3_copyFrom 18 = .ok (.iaload, 1) := by decide +kernel
theorem dX3_copyFrom_19 : decode cX3_copyFrom 19 = .ok (.iastore, 1) := by decide +kernel
theorem dX3_copyFrom_20 : decode cX3_copyFrom 20 = .ok (.iinc 2 1, 3) := by decide +kernel
theorem dX3_copyFrom_23 : decode cX3_copyFrom 23 = .ok (.goto (-21), 3) := by decide +kernel
theorem dX3_copyFrom_26 : decode cX3_copyFrom 26 = .ok (.return_, 1) := by decide +kernel
theorem dX3_countPlaced_0 : decode cX3_countPlaced 0 = .ok (.iconst 0, 1) := by decide +kernel
theorem dX3_countPlaced_1 : decode cX3_countPlaced 1 = .ok (.istore_n 1, 1) := by decide +kernel
theorem dX3_countPlaced_2 : decode cX3_countPlaced 2 = .ok (.iconst 0, 1) := by decide +kernel
theorem dX3_countPlaced_3 : decode cX3_countPlaced 3 = .ok (.istore_n 2, 1) := by decide +kernel
theorem dX3_countPlaced_4 : decode cX3_countPlaced 4 = .ok (.iload_n 2, 1) := by decide +kernel
theorem dX3_countPlaced_5 : decode cX3_countPlaced 5 = .ok (.bipush 6, 2) := by decide +kernel
theorem dX3_countPlaced_7 : decode cX3_countPlaced 7 = .ok (.if_icmp .ge 22, 3) := by decide +kernel
theorem dX3_countPlaced_10 : decode cX3_countPlaced 10 = .ok (.aload_n 0, 1) := by decide +kernel
theorem dX3_countPlaced_11 : decode cX3_countPlaced 11 = .ok (.getfield 9, 3) := by decide +kernel
theorem dX3_countPlaced_14 : decode cX3_countPlaced 14 = .ok (.iload_n 2, 1) := by decide +kernel
theorem dX3_countPlaced_15 : decode cX3_countPlaced 15 = .ok (.iaload, 1) := by decide +kernel
theorem dX3_countPlaced_16 : decode cX3_countPlaced 16 = .ok (.iconst (-1), 1) := by decide +kernel
theorem dX3_countPlaced_17 : decode cX3_countPlaced 17 = .ok (.if_icmp .eq 6, 3) := by decide +kernel
theorem dX3_countPlaced_20 : decode cX3_countPlaced 20 = .ok (.iinc 1 1, 3) := by decide +kernel
theorem dX3_countPlaced_23 : decode cX3_countPlaced 23 = .ok (.iinc 2 1, 3) := by decide +kernel
theorem dX3_countPlaced_26 : decode cX3_countPlaced 26 = .ok (.goto (-22), 3) := by decide +kernel
theorem dX3_countPlaced_29 : decode cX3_countPlaced 29 = .ok (.iload_n 1, 1) := by decide +kernel
theorem dX3_countPlaced_30 : decode cX3_countPlaced 30 = .ok (.ireturn, 1) := by decide +kernel
theorem dX3_othersAt_0 : decode cX3_othersAt 0 = .ok (.iconst 0, 1) := by decide +kernel
theorem dX3_othersAt_1 : decode cX3_othersAt 1 = .ok (.istore_n 3, 1) := by decide +kernel
theorem dX3_othersAt_2 : decode cX3_othersAt 2 = .ok (.iconst 0, 1) := by decide +kernel
theorem dX3_othersAt_3 : decode cX3_othersAt 3 = .ok (.istore 4, 2) := by decide +kernel
theorem dX3_othersAt_5 : decode cX3_othersAt 5 = .ok (.iload 4, 2) := by decide +kernel
theorem dX3_othersAt_7 : decode cX3_othersAt 7 = .ok (.bipush 6, 2) := by decide +kernel
theorem dX3_othersAt_9 : decode cX3_othersAt 9 = .ok (.if_icmp .ge 29, 3) := by decide +kernel
theorem dX3_othersAt_12 : decode cX3_othersAt 12 = .ok (.iload 4, 2) := by decide +kernel
theorem dX3_othersAt_14 : decode cX3_othersAt 14 = .ok (.iload_n 2, 1) := by decide +kernel
theorem dX3_othersAt_15 : decode cX3_othersAt 15 = .ok (.if_icmp .eq 17, 3) := by decide +kernel
theorem dX3_othersAt_18 : decode cX3_othersAt 18 = .ok (.aload_n 0, 1) := by decide +kernel
theorem dX3_othersAt_19 : decode cX3_othersAt 19 = .ok (.getfield 9, 3) := by decide +kernel
theorem dX3_othersAt_22 : decode cX3_othersAt 22 = .ok (.iload 4, 2) := by decide +kernel
theorem dX3_othersAt_24 : decode cX3_othersAt 24 = .ok (.iaload, 1) := by decide +kernel
theorem dX3_othersAt_25 : decode cX3_othersAt 25 = .ok (.iload_n 1, 1) := by decide +kernel
theorem dX3_othersAt_26 : decode cX3_othersAt 26 = .ok (.if_icmp .ne 6, 3) := by decide +kernel
theorem dX3_othersAt_29 : decode cX3_othersAt 29 = .ok (.iinc 3 1, 3) := by decide +kernel
theorem dX3_othersAt_32 : decode cX3_othersAt 32 = .ok (.iinc 4 1, 3) := by decide +kernel
theorem dX3_othersAt_35 : decode cX3_othersAt 35 = .ok (.goto (-30), 3) := by decide +kernel
theorem dX3_othersAt_38 : decode cX3_othersAt 38 = .ok (.iload_n 3, 1) := by decide +kernel
theorem dX3_othersAt_39 : decode cX3_othersAt 39 = .ok (.ireturn, 1) := by decide +kernel
end
section
theorem dX4_init_0 : decode cX4_init 0 = .ok (.aload_n 0, 1) := by decide +kernel
theorem dX4_init_1 : decode cX4_init 1 = .ok (.invokespecial 3, 3) := by decide +kernel
theorem dX4_init_4 : decode cX4_init 4 = .ok (.aload_n 0, 1) := by decide +kernel
theorem dX4_init_5 : decode cX4_init 5 = .ok (.bipush 6, 2) := by decide +kernel
theorem dX4_init_7 : decode cX4_init 7 = .ok (.newarray .int, 2) := by decide +kernel
theorem dX4_init_9 : decode cX4_init 9 = .ok (.putfield 9, 3) := by decide +kernel
theorem dX4_init_12 : decode cX4_init 12 = .ok (.aload_n 0, 1) := by decide +kernel
theorem dX4_init_13 : decode cX4_init 13 = .ok (.bipush 6, 2) := by decide +kernel
theorem dX4_init_15 : decode cX4_init 15 = .ok (.newarray .int, 2) := by decide +kernel
theorem dX4_init_17 : decode cX4_init 17 = .ok (.putfield 15, 3) := by decide +kernel
theorem dX4_init_20 : decode cX4_init 20 = .ok (.aload_n 0, 1) := by decide +kernel
theorem dX4_init_21 : decode cX4_init 21 = .ok (.bipush 6, 2) := by decide +kernel
theorem dX4_init_23 : decode cX4_init 23 = .ok (.newarray .int, 2) := by decide +kernel
theorem dX4_init_25 : decode cX4_init 25 = .ok (.putfield 18, 3) := by decide +kernel
theorem dX4_init_28 : decode cX4_init 28 = .ok (.aload_n 0, 1) := by decide +kernel
theorem dX4_init_29 : decode cX4_init 29 = .ok (.iconst 5, 1) := by decide +kernel
theorem dX4_init_30 : decode cX4_init 30 = .ok (.newarray .int, 2) := by decide +kernel
theorem dX4_init_32 : decode cX4_init 32 = .ok (.putfield 21, 3) := by decide +kernel
theorem dX4_init_35 : decode cX4_init 35 = .ok (.aload_n 0, 1) := by decide +kernel
theorem dX4_init_36 : decode cX4_init 36 = .ok (.iconst 5, 1) := by decide +kernel
theorem dX4_init_37 : decode cX4_init 37 = .ok (.newarray .int, 2) := by decide +kernel
theorem dX4_init_39 : decode cX4_init 39 = .ok (.putfield 24, 3) := by decide +kernel
theorem dX4_init_42 : decode cX4_init 42 = .ok (.aload_n 0, 1) := by decide +kernel
theorem dX4_init_43 : decode cX4_init 43 = .ok (.iconst 5, 1) := by decide +kernel
theorem dX4_init_44 : decode cX4_init 44 = .ok (.newarray .int, 2) := by decide +kernel
theorem dX4_init_46 : decode cX4_init 46 = .ok (.putfield 27, 3) := by decide +kernel
theorem dX4_init_49 : decode cX4_init 49 = .ok (.aload_n 0, 1) := by decide +kernel
theorem dX4_init_50 : decode cX4_init 50 = .ok (.bipush 64, 2) := by decide +kernel
theorem dX4_init_52 : decode cX4_init 52 = .ok (.newarray .int, 2) := by decide +kernel
theorem dX4_init_54 : decode cX4_init 54 = .ok (.putfield 30, 3) := by decide +kernel
theorem dX4_init_57 : decode cX4_init 57 = .ok (.return_, 1) := by decide +kernel
set_option maxRecDepth 20000 in
theorem ggX4_collect_X4_prepare : GoodIn wsX4_collect wsX4_prepare := goodIn_r _ [7, 1, 8, 9, 10, 11, 12, 13, 14, 15, 16, 17, 18, 19, 20, 21, 22, 23, 24, 25, 26, 27, 28, 29, 30, 31, 32, 33, 34, 35, 36, 37, 38, 39, 40, 58, 59, 60, 61, 62, 63, 64, 65, 66, 67, 68, 69] (by decide +kernel) (by decide +kernel)
set_option maxRecDepth 20000 in
theorem gX4_collect_X4_prepare : GoodIn wsX4_collect (wsV RX4 33 RX4 yX4_prepare wsX4_prepare) := goodIn_app (goodIn_of _ (by decide +kernel)) ggX4_collect_X4_prepare
set_option maxRecDepth 20000 in
theorem ggX4_collect_X4_isPopular : GoodIn wsX4_collect wsX4_isPopular := goodIn_r _ [44, 11, 45, 46, 1, 9, 10, 13, 12, 47, 48, 6, 49, 50, 51, 52, 53, 54, 55, 56, 57, 8, 58, 59, 60, 61, 62, 63, 64, 65, 66, 67, 68, 69] (by decide +kernel) (by decide +kernel)
set_option maxRecDepth 20000 in
theorem gX4_collect_X4_isPopular : GoodIn wsX4_collect (wsV RX4 43 RX4 yX4_isPopular wsX4_isPopular) := goodIn_app (goodIn_of _ (by decide +kernel)) ggX4_collect_X4_isPopular
theorem dX4_collect_0 : decode cX4_collect 0 = .ok (.aload_n 0, 1) := by decide +kernel
theorem dX4_collect_1 : decode cX4_collect 1 = .ok (.aload_n 1, 1) := by decide +kernel
theorem dX4_collect_2 : decode cX4_collect 2 = .ok (.invokevirtual 33, 3) := by decide +kernel
theorem dX4_collect_5 : decode cX4_collect 5 = .ok (.iconst 0, 1) := by decide +kernel
theorem dX4_collect_6 : decode cX4_collect 6 = .ok (.istore_n 2, 1) := by decide +kernel
theorem dX4_collect_7 : decode cX4_collect 7 = .ok (.iconst 0, 1) := by decide +kernel
theorem dX4_collect_8 : decode cX4_collect 8 = .ok (.istore_n 3, 1) := by decide +kernel
theorem dX4_collect_9 : decode cX4_collect 9 = .ok (.iload_n 3, 1) := by decide +kernel
theorem dX4_collect_10 : decode cX4_collect 10 = .ok (.iconst 1, 1) := by decide +kernel
theorem dX4_collect_11 : decode cX4_collect 11 = .ok (.aload_n 1, 1) := by decide +kernel
theorem dX4_collect_12 : decode cX4_collect 12 = .ok (.getfield 37, 3) := by decide +kernel
theorem dX4_collect_15 : decode cX4_collect 15 = .ok (.ishl, 1) := by decide +kernel
theorem dX4_collect_16 : decode cX4_collect 16 = .ok (.if_icmp .ge 28, 3) := by decide +kernel
theorem dX4_collect_19 : decode cX4_collect 19 = .ok (.aload_n 0, 1) := by decide +kernel
theorem dX4_collect_20 : decode cX4_collect 20 = .ok (.aload_n 1, 1) := by decide +kernel
theorem dX4_collect_21 : decode cX4_collect 21 = .ok (.iload_n 3, 1) := by decide +kernel
theorem dX4_collect_22 : decode cX4_collect 22 = .ok (.invokevirtual 43, 3) := by decide +kernel
theorem dX4_collect_25 : decode cX4_collect 25 = .ok (.ifCond .eq 13, 3) := by decide +kernel
theorem dX4_collect_28 : decode cX4_collect 28 = .ok (.aload_n 0, 1) := by decide +kernel
theorem dX4_collect_29 : decode cX4_collect 29 = .ok (.getfield 30, 3) := by decide +kernel
theorem dX4_collect_32 : decode cX4_collect 32 = .ok (.iload_n 2, 1) := by decide +kernel
theorem dX4_collect_33 : decode cX4_collect 33 = .ok (.iload_n 3, 1) := by decide +kernel
theorem dX4_collect_34 : decode cX4_collect 34 = .ok (.iastore, 1) := by decide +kernel
theorem dX4_collect_35 : decode cX4_collect 35 = .ok (.iinc 2 1, 3) := by decide +kernel
theorem dX4_collect_38 : decode cX4_collect 38 = .ok (.iinc 3 1, 3) := by decide +kernel
theorem dX4_collect_41 : decode cX4_collect 41 = .ok (.goto (-32), 3) := by decide +kernel
theorem dX4_collect_44 : decode cX4_collect 44 = .ok (.iload_n 2, 1) := by decide +kernel
theorem dX4_collect_45 : decode cX4_collect 45 = .ok (.ireturn, 1) := by decide +kernel
set_option maxRecDepth 20000 in
theorem ggX4_write_X3_clear : GoodIn wsX4_write wsX3_clear := goodIn_r _ [8, 9, 25] (by decide +kernel) (by decide +kernel)
set_option maxRecDepth 20000 in
theorem gX4_write_X3_clear : GoodIn wsX4_write (wsV RX4 47 RX3 yX3_clear wsX3_clear) := goodIn_app (goodIn_of _ (by decide +kernel)) ggX4_write_X3_clear
set_option maxRecDepth 20000 in
theorem ggX4_write_X4_postIn : GoodIn wsX4_write wsX4_postIn := goodIn_r _ [14, 15, 16, 17, 18, 13, 19, 1, 26, 27, 28, 29, 30, 31, 32, 20, 21, 22, 23, 24] (by decide +kernel) (by decide +kernel)
set_option maxRecDepth 20000 in
theorem gX4_write_X4_postIn : GoodIn wsX4_write (wsV RX4 55 RX4 yX4_postIn wsX4_postIn) := goodIn_app (goodIn_of _ (by decide +kernel)) ggX4_write_X4_postIn
theorem dX4_write_0 : decode cX4_write 0 = .ok (.aload_n 3, 1) := by decide +kernel
theorem dX4_write_1 : decode cX4_write 1 = .ok (.invokevirtual 47, 3) := by decide +kernel
theorem dX4_write_4 : decode cX4_write 4 = .ok (.iconst 0, 1) := by decide +kernel
theorem dX4_write_5 : decode cX4_write 5 = .ok (.istore 4, 2) := by decide +kernel
theorem dX4_write_7 : decode cX4_write 7 = .ok (.iload 4, 2) := by decide +kernel
theorem dX4_write_9 : decode cX4_write 9 = .ok (.aload_n 1, 1) := by decide +kernel
theorem dX4_write_10 : decode cX4_write 10 = .ok (.getfield 37, 3) := by decide +kernel
theorem dX4_write_13 : decode cX4_write 13 = .ok (.if_icmp .ge 29, 3) := by decide +kernel
theorem dX4_write_16 : decode cX4_write 16 = .ok (.aload_n 3, 1) := by decide +kernel
theorem dX4_write_17 : decode cX4_write 17 = .ok (.getfield 52, 3) := by decide +kernel
theorem dX4_write_20 : decode cX4_write 20 = .ok (.iload 4, 2) := by decide +kernel
theorem dX4_write_22 : decode cX4_write 22 = .ok (.aload_n 0, 1) := by decide +kernel
theorem dX4_write_23 : decode cX4_write 23 = .ok (.aload_n 1, 1) := by decide +kernel
theorem dX4_write_24 : decode cX4_write 24 = .ok (.aload_n 0, 1) := by decide +kernel
theorem dX4_write_25 : decode cX4_write 25 = .ok (.getfield 30, 3) := by decide +kernel
theorem dX4_write_28 : decode cX4_write 28 = .ok (.iload_n 2, 1) := by decide +kernel
theorem dX4_write_29 : decode cX4_write 29 = .ok (.iaload, 1) := by decide +kernel
theorem dX4_write_30 : decode cX4_write 30 = .ok (.iload 4, 2) := by decide +kernel
theorem dX4_write_32 : decode cX4_write 32 = .ok (.invokevirtual 55, 3) := by decide +kernel
theorem dX4_write_35 : decode cX4_write 35 = .ok (.iastore, 1) := by decide +kernel
theorem dX4_write_36 : decode cX4_write 36 = .ok (.iinc 4 1, 3) := by decide +kernel
theorem dX4_write_39 : decode cX4_write 39 = .ok (.goto (-32), 3) := by decide +kernel
theorem dX4_write_42 : decode cX4_write 42 = .ok (.return_, 1) := by decide +kernel
set_option maxRecDepth 20000 in
theorem ggX4_prepare_X2_firstOf : GoodIn wsX4_prepare wsX2_firstOf := goodIn_r _ [16, 17, 18, 19, 20, 15, 21, 22, 35, 36, 37, 38, 39] (by decide +kernel) (by decide +kernel)
set_option maxRecDepth 20000 in
theorem gX4_prepare_X2_firstOf : GoodIn wsX4_prepare (wsV RX4 59 RX2 yX2_firstOf wsX2_firstOf) := goodIn_app (goodIn_of _ (by decide +kernel)) ggX4_prepare_X2_firstOf
set_option maxRecDepth 20000 in
theorem ggX4_prepare_X2_secondOf : GoodIn wsX4_prepare wsX2_secondOf := goodIn_r _ [26, 17, 27, 18, 19, 20, 15, 21, 22, 28, 29, 30, 31, 32, 33, 13, 14, 16, 35, 36, 37, 38, 39] (by decide +kernel) (by decide +kernel)
set_option maxRecDepth 20000 in
theorem gX4_prepare_X2_secondOf : GoodIn wsX4_prepare (wsV RX4 63 RX2 yX2_secondOf wsX2_secondOf) := goodIn_app (goodIn_of _ (by decide +kernel)) ggX4_prepare_X2_secondOf
set_option maxRecDepth 20000 in
theorem ggX4_prepare_X2_countFirst : GoodIn wsX4_prepare wsX2_countFirst := goodIn_r _ [31, 32, 33, 13, 14, 15, 16, 17, 18, 19, 20, 21, 22, 35, 36, 37, 38, 39] (by decide +kernel) (by decide +kernel)
set_option maxRecDepth 20000 in
theorem gX4_prepare_X2_countFirst : GoodIn wsX4_prepare (wsV RX4 68 RX2 yX2_countFirst wsX2_countFirst) := goodIn_app (goodIn_of _ (by decide +kernel)) ggX4_prepare_X2_countFirst
theorem dX4_prepare_0 : decode cX4_prepare 0 = .ok (.iconst 0, 1) := by decide +kernel
theorem dX4_prepare_1 : decode cX4_prepare 1 = .ok (.istore_n 2, 1) := by decide +kernel
theorem dX4_prepare_2 : decode cX4_prepare 2 = .ok (.iload_n 2, 1) := by decide +kernel
theorem dX4_prepare_3 : decode cX4_prepare 3 = .ok (.aload_n 1, 1) := by decide +kernel
theorem dX4_prepare_4 : decode cX4_prepare 4 = .ok (.getfield 37, 3) := by decide +kernel
theorem dX4_prepare_7 : decode cX4_prepare 7 = .ok (.if_icmp .ge 87, 3) := by decide +kernel
theorem dX4_prepare_10 : decode cX4_prepare 10 = .ok (.aload_n 1, 1) := by decide +kernel
theorem dX4_prepare_11 : decode cX4_prepare 11 = .ok (.iload_n 2, 1) := by decide +kernel
theorem dX4_prepare_12 : decode cX4_prepare 12 = .ok (.invokevirtual 59, 3) := by decide +kernel
theorem dX4_prepare_15 : decode cX4_prepare 15 = .ok (.istore_n 3, 1) := by decide +kernel
theorem dX4_prepare_16 : decode cX4_prepare 16 = .ok (.aload_n 1, 1) := by decide +kernel
theorem dX4_prepare_17 : decode cX4_prepare 17 = .ok (.iload_n 2, 1) := by decide +kernel
theorem dX4_prepare_18 : decode cX4_prepare 18 = .ok (.invokevirtual 63, 3) := by decide +kernel
theorem dX4_prepare_21 : decode cX4_prepare 21 = .ok (.istore 4, 2) := by decide +kernel
theorem dX4_prepare_23 : decode cX4_prepare 23 = .ok (.iload 4, 2) := by decide +kernel
theorem dX4_prepare_25 : decode cX4_prepare 25 = .ok (.iconst (-1), 1) := by decide +kernel
theorem dX4_prepare_26 : decode cX4_prepare 26 = .ok (.if_icmp .eq 14, 3) := by decide +kernel
theorem dX4_prepare_29 : decode cX4_prepare 29 = .ok (.iload_n 3, 1) := by decide +kernel
theorem dX4_prepare_30 : decode cX4_prepare 30 = .ok (.iconst (-1), 1) := by decide +kernel
theorem dX4_prepare_31 : decode cX4_prepare 31 = .ok (.if_icmp .eq 13, 3) := by decide +kernel
theorem dX4_prepare_34 : decode cX4_prepare 34 = .ok (.iload_n 3, 1) := by decide +kernel
theorem dX4_prepare_35 : decode cX4_prepare 35 = .ok (.iload 4, 2) := by decide +kernel
theorem dX4_prepare_37 : decode cX4_prepare 37 = .ok (.if_icmp .ge 7, 3) := by decide +kernel
theorem dX4_prepare_40 : decode cX4_prepare 40 = .ok (.iconst 1, 1) := by decide +kernel
theorem dX4_prepare_41 : decode cX4_prepare 41 = .ok (.goto 4, 3) := by decide +kernel
theorem dX4_prepare_44 : decode cX4_prepare 44 = .ok (.iconst 0, 1) := by decide +kernel
theorem dX4_prepare_45 : decode cX4_prepare 45 = .ok (.istore 5, 2) := by decide +kernel
theorem dX4_prepare_47 : decode cX4_prepare 47 = .ok (.aload_n 0, 1) := by decide +kernel
theorem dX4_prepare_48 : decode cX4_prepare 48 = .ok (.getfield 9, 3) := by decide +kernel
theorem dX4_prepare_51 : decode cX4_prepare 51 = .ok (.iload_n 2, 1) := by decide +kernel
theorem dX4_prepare_52 : decode cX4_prepare 52 = .ok (.iload_n 3, 1) := by decide +kernel
theorem dX4_prepare_53 : decode cX4_prepare 53 = .ok (.iastore, 1) := by decide +kernel
theorem dX4_prepare_54 : decode cX4_prepare 54 = .ok (.aload_n 0, 1) := by decide +kernel
theorem dX4_prepare_55 : decode cX4_prepare 55 = .ok (.getfield 15, 3) := by decide +kernel
theorem dX4_prepare_58 : decode cX4_prepare 58 = .ok (.iload_n 2, 1) := by decide +kernel
theorem dX4_prepare_59 : decode cX4_prepare 59 = .ok (.iload 5, 2) := by decide +kernel
theorem dX4_prepare_61 : decode cX4_prepare 61 = .ok (.ifCond .eq 7, 3) := by decide +kernel
theorem dX4_prepare_64 : decode cX4_prepare 64 = .ok (.iload_n 3, 1) := by decide +kernel
theorem dX4_prepare_65 : decode cX4_prepare 65 = .ok (.goto 5, 3) := by decide +kernel
theorem dX4_prepare_68 : decode cX4_prepare 68 = .ok (.iload 4, 2) := by decide +kernel
theorem dX4_prepare_70 : decode cX4_prepare 70 = .ok (.iastore, 1) := by decide +kernel
theorem dX4_prepare_71 : decode cX4_prepare 71 = .ok (.aload_n 0, 1) := by decide +kernel
theorem dX4_prepare_72 : decode cX4_prepare 72 = .ok (.getfield 18, 3) := by decide +kernel
theorem dX4_prepare_75 : decode cX4_prepare 75 = .ok (.iload_n 2, 1) := by decide +kernel
theorem dX4_prepare_76 : decode cX4_prepare 76 = .ok (.iload 5, 2) := by decide +kernel
theorem dX4_prepare_78 : decode cX4_prepare 78 = .ok (.ifCond .eq 8, 3) := by decide +kernel
theorem dX4_prepare_81 : decode cX4_prepare 81 = .ok (.iload 4, 2) := by decide +kernel
theorem dX4_prepare_83 : decode cX4_prepare 83 = .ok (.goto 4, 3) := by decide +kernel
theorem dX4_prepare_86 : decode cX4_prepare 86 = .ok (.iload_n 3, 1) := by decide +kernel
theorem dX4_prepare_87 : decode cX4_prepare 87 = .ok (.iastore, 1) := by decide +kernel
theorem dX4_prepare_88 : decode cX4_prepare 88 = .ok (.iinc 2 1, 3) := by decide +kernel
theorem dX4_prepare_91 : decode cX4_prepare 91 = .ok (.goto (-89), 3) := by decide +kernel
theorem dX4_prepare_94 : decode cX4_prepare 94 = .ok (.iconst 0, 1) := by decide +kernel
theorem dX4_prepare_95 : decode cX4_prepare 95 = .ok (.istore_n 2, 1) := by decide +kernel
theorem dX4_prepare_96 : decode cX4_prepare 96 = .ok (.iload_n 2, 1) := by decide +kernel
theorem dX4_prepare_97 : decode cX4_prepare 97 = .ok (.aload_n 1, 1) := by decide +kernel
theorem dX4_prepare_98 : decode cX4_prepare 98 = .ok (.getfield 66, 3) := by decide +kernel
theorem dX4_prepare_101 : decode cX4_prepare 101 = .ok (.if_icmp .ge 29, 3) := by decide +kernel
theorem dX4_prepare_104 : decode cX4_prepare 104 = .ok (.aload_n 0, 1) := by decide +kernel
theorem dX4_prepare_105 : decode cX4_prepare 105 = .ok (.getfield 21, 3) := by decide +kernel
theorem dX4_prepare_108 : decode cX4_prepare 108 = .ok (.iload_n 2, 1) := by decide +kernel
theorem dX4_prepare_109 : decode cX4_prepare 109 = .ok (.aload_n 1, 1) := by decide +kernel
theorem dX4_prepare_110 : decode cX4_prepare 110 = .ok (.iload_n 2, 1) := by decide +kernel
theorem dX4_prepare_111 : decode cX4_prepare 111 = .ok (.invokevirtual 68, 3) := by decide +kernel
theorem dX4_prepare_114 : decode cX4_prepare 114 = .ok (.aload_n 1, 1) := by decide +kernel
theorem dX4_prepare_115 : decode cX4_prepare 115 = .ok (.getfield 71, 3) := by decide +kernel
theorem dX4_prepare_118 : decode cX4_prepare 118 = .ok (.iload_n 2, 1) := by decide +kernel
theorem dX4_prepare_119 : decode cX4_prepare 119 = .ok (.iaload, 1) := by decide +kernel
theorem dX4_prepare_120 : decode cX4_prepare 120 = .ok (.invokestatic 74, 3) := by decide +kernel
theorem dX4_prepare_123 : decode cX4_prepare 123 = .ok (.iastore, 1) := by decide +kernel
theorem dX4_prepare_124 : decode cX4_prepare 124 = .ok (.iinc 2 1, 3) := by decide +kernel
theorem dX4_prepare_127 : decode cX4_prepare 127 = .ok (.goto (-31), 3) := by decide +kernel
theorem dX4_prepare_130 : decode cX4_prepare 130 = .ok (.return_, 1) := by decide +kernel
set_option maxRecDepth 20000 in
theorem ggX4_postIn_X4_takesHigher : GoodIn wsX4_postIn wsX4_takesHigher := goodIn_r _ [6, 7, 15, 16, 17, 18, 19] (by decide +kernel) (by decide +kernel)
set_option maxRecDepth 20000 in
theorem gX4_postIn_X4_takesHigher : GoodIn wsX4_postIn (va_wsS RX4 80 yX4_takesHigher wsX4_takesHigher) := goodIn_app (goodIn_of _ (by decide +kernel)) ggX4_postIn_X4_takesHigher
theorem dX4_postIn_0 : decode cX4_postIn 0 = .ok (.aload_n 1, 1) := by decide +kernel
theorem dX4_postIn_1 : decode cX4_postIn 1 = .ok (.iload_n 2, 1) := by decide +kernel
theorem dX4_postIn_2 : decode cX4_postIn 2 = .ok (.iload_n 3, 1) := by decide +kernel
theorem dX4_postIn_3 : decode cX4_postIn 3 = .ok (.invokestatic 80, 3) := by decide +kernel
theorem dX4_postIn_6 : decode cX4_postIn 6 = .ok (.ifCond .eq 12, 3) := by decide +kernel
theorem dX4_postIn_9 : decode cX4_postIn 9 = .ok (.aload_n 0, 1) := by decide +kernel
theorem dX4_postIn_10 : decode cX4_postIn 10 = .ok (.getfield 18, 3) := by decide +kernel
theorem dX4_postIn_13 : decode cX4_postIn 13 = .ok (.iload_n 3, 1) := by decide +kernel
theorem dX4_postIn_14 : decode cX4_postIn 14 = .ok (.iaload, 1) := by decide +kernel
theorem dX4_postIn_15 : decode cX4_postIn 15 = .ok (.goto 9, 3) := by decide +kernel
theorem dX4_postIn_18 : decode cX4_postIn 18 = .ok (.aload_n 0, 1) := by decide +kernel
theorem dX4_postIn_19 : decode cX4_postIn 19 = .ok (.getfield 15, 3) := by decide +kernel
theorem dX4_postIn_22 : decode cX4_postIn 22 = .ok (.iload_n 3, 1) := by decide +kernel
theorem dX4_postIn_23 : decode cX4_postIn 23 = .ok (.iaload, 1) := by decide +kernel
theorem dX4_postIn_24 : decode cX4_postIn 24 = .ok (.ireturn, 1) := by decide +kernel
theorem dX4_takesHigher_0 : decode cX4_takesHigher 0 = .ok (.iload_n 1, 1) := by decide +kernel
theorem dX4_takesHigher_1 : decode cX4_takesHigher 1 = .ok (.aload_n 0, 1) := by decide +kernel
theorem dX4_takesHigher_2 : decode cX4_takesHigher 2 = .ok (.getfield 37, 3) := by decide +kernel
theorem dX4_takesHigher_5 : decode cX4_takesHigher 5 = .ok (.iconst 1, 1) := by decide +kernel
theorem dX4_takesHigher_6 : decode cX4_takesHigher 6 = .ok (.isub, 1) := by decide +kernel
theorem dX4_takesHigher_7 : decode cX4_takesHigher 7 = .ok (.iload_n 2, 1) := by decide +kernel
theorem dX4_takesHigher_8 : decode cX4_takesHigher 8 = .ok (.isub, 1) := by decide +kernel
theorem dX4_takesHigher_9 : decode cX4_takesHigher 9 = .ok (.ishr, 1) := by decide +kernel
theorem dX4_takesHigher_10 : decode cX4_takesHigher 10 = .ok (.iconst 1, 1) := by decide +kernel
theorem dX4_takesHigher_11 : decode cX4_takesHigher 11 = .ok (.iand, 1) := by decide +kernel
theorem dX4_takesHigher_12 : decode cX4_takesHigher 12 = .ok (.iconst 1, 1) := by decide +kernel
theorem dX4_takesHigher_13 : decode cX4_takesHigher 13 = .ok (.if_icmp .ne 7, 3) := by decide +kernel
theorem dX4_takesHigher_16 : decode cX4_takesHigher 16 = .ok (.iconst 1, 1) := by decide +kernel
theorem dX4_takesHigher_17 : decode cX4_takesHigher 17 = .ok (.goto 4, 3) := by decide +kernel
theorem dX4_takesHigher_20 : decode cX4_takesHigher 20 = .ok (.iconst 0, 1) := by decide +kernel
theorem dX4_takesHigher_21 : decode cX4_takesHigher 21 = .ok (.ireturn, 1) := by decide +kernel
set_option maxRecDepth 20000 in
theorem ggX4_isPopular_X4_takesHigher : GoodIn wsX4_isPopular wsX4_takesHigher := goodIn_r _ [12, 4, 22, 23, 24, 25, 26] (by decide +kernel) (by decide +kernel)
set_option maxRecDepth 20000 in
theorem gX4_isPopular_X4_takesHigher : GoodIn wsX4_isPopular (va_wsS RX4 80 yX4_takesHigher wsX4_takesHigher) := goodIn_app (goodIn_of _ (by decide +kernel)) ggX4_isPopular_X4_takesHigher
set_option maxRecDepth 20000 in
theorem ggX4_isPopular_X4_postIn : GoodIn wsX4_isPopular wsX4_postIn := goodIn_r _ [16, 6, 5, 9, 10, 11, 12, 4, 27, 28, 29, 30, 31, 32, 33, 22, 23, 24, 25, 26] (by decide +kernel) (by decide +kernel)
set_option maxRecDepth 20000 in
theorem gX4_isPopular_X4_postIn : GoodIn wsX4_isPopular (wsV RX4 55 RX4 yX4_postIn wsX4_postIn) := goodIn_app (goodIn_of _ (by decide +kernel)) ggX4_isPopular_X4_postIn
set_option maxRecDepth 20000 in
theorem ggX4_isPopular_X4_count : GoodIn wsX4_isPopular wsX4_count := goodIn_r _ [20, 2, 21, 3, 27, 28, 29, 30, 31, 32, 33] (by decide +kernel) (by decide +kernel)
set_option maxRecDepth 20000 in
theorem gX4_isPopular_X4_count : GoodIn wsX4_isPopular (wsV RX4 84 RX4 yX4_count wsX4_count) := goodIn_app (goodIn_of _ (by decide +kernel)) ggX4_isPopular_X4_count
theorem dX4_isPopular_0 : decode cX4_isPopular 0 = .ok (.iconst 0, 1) := by decide +kernel
theorem dX4_isPopular_1 : decode cX4_isPopular 1 = .ok (.istore_n 3, 1) := by decide +kernel
theorem dX4_isPopular_2 : decode cX4_isPopular 2 = .ok (.iload_n 3, 1) := by decide +kernel
theorem dX4_isPopular_3 : decode cX4_isPopular 3 = .ok (.aload_n 1, 1) := by decide +kernel
theorem dX4_isPopular_4 : decode cX4_isPopular 4 = .ok (.getfield 66, 3) := by decide +kernel
theorem dX4_isPopular_7 : decode cX4_isPopular 7 = .ok (.if_icmp .ge 23, 3) := by decide +kernel
theorem dX4_isPopular_10 : decode cX4_isPopular 10 = .ok (.aload_n 0, 1) := by decide +kernel
theorem dX4_isPopular_11 : decode cX4_isPopular 11 = .ok (.getfield 24, 3) := by decide +kernel
theorem dX4_isPopular_14 : decode cX4_isPopular 14 = .ok (.iload_n 3, 1) := by decide +kernel
theorem dX4_isPopular_15 : decode cX4_isPopular 15 = .ok (.iconst 0, 1) := by decide +kernel
theorem dX4_isPopular_16 : decode cX4_isPopular 16 = .ok (.iastore, 1) := by decide +kernel
theorem dX4_isPopular_17 : decode cX4_isPopular 17 = .ok (.aload_n 0, 1) := by decide +kernel
theorem dX4_isPopular_18 : decode cX4_isPopular 18 = .ok (.getfield 27, 3) := by decide +kernel
theorem dX4_isPopular_21 : decode cX4_isPopular 21 = .ok (.iload_n 3, 1) := by decide +kernel
theorem dX4_isPopular_22 : decode cX4_isPopular 22 = .ok (.iconst 0, 1) := by decide +kernel
theorem dX4_isPopular_23 : decode cX4_isPopular 23 = .ok (.iastore, 1) := by decide +kernel
theorem dX4_isPopular_24 : decode cX4_isPopular 24 = .ok (.iinc 3 1, 3) := by decide +kernel
theorem dX4_isPopular_27 : decode cX4_isPopular 27 = .ok (.goto (-25), 3) := by decide +kernel
theorem dX4_isPopular_30 : decode cX4_isPopular 30 = .ok (.iconst 0, 1) := by decide +kernel
theorem dX4_isPopular_31 : decode cX4_isPopular 31 = .ok (.istore_n 3, 1) := by decide +kernel
theorem dX4_isPopular_32 : decode cX4_isPopular 32 = .ok (.iload_n 3, 1) := by decide +kernel
theorem dX4_isPopular_33 : decode cX4_isPopular 33 = .ok (.aload_n 1, 1) := by decide +kernel
theorem dX4_isPopular_34 : decode cX4_isPopular 34 = .ok (.getfield 37, 3) := by decide +kernel
theorem dX4_isPopular_37 : decode cX4_isPopular 37 = .ok (.if_icmp .ge 59, 3) := by decide +kernel
theorem dX4_isPopular_40 : decode cX4_isPopular 40 = .ok (.aload_n 0, 1) := by decide +kernel
theorem dX4_isPopular_41 : decode cX4_isPopular 41 = .ok (.getfield 15, 3) := by decide +kernel
theorem dX4_isPopular_44 : decode cX4_isPopular 44 = .ok (.iload_n 3, 1) := by decide +kernel
theorem dX4_isPopular_45 : decode cX4_isPopular 45 = .ok (.iaload, 1) := by decide +kernel
theorem dX4_isPopular_46 : decode cX4_isPopular 46 = .ok (.aload_n 0, 1) := by decide +kernel
theorem dX4_isPopular_47 : decode cX4_isPopular 47 = .ok (.getfield 18, 3) := by decide +kernel
theorem dX4_isPopular_50 : decode cX4_isPopular 50 = .ok (.iload_n 3, 1) := by decide +kernel
theorem dX4_isPopular_51 : decode cX4_isPopular 51 = .ok (.iaload, 1) := by decide +kernel
theorem dX4_isPopular_52 : decode cX4_isPopular 52 = .ok (.if_icmp .ne 7, 3) := by decide +kernel
theorem dX4_isPopular_55 : decode cX4_isPopular 55 = .ok (.iconst 1, 1) := by decide +kernel
theorem dX4_isPopular_56 : decode cX4_isPopular 56 = .ok (.goto 4, 3) := by decide +kernel
theorem dX4_isPopular_59 : decode cX4_isPopular 59 = .ok (.iconst 0, 1) := by decide +kernel
theorem dX4_isPopular_60 : decode cX4_isPopular 60 = .ok (.istore 4, 2) := by decide +kernel
theorem dX4_isPopular_62 : decode cX4_isPopular 62 = .ok (.iload 4, 2) := by decide +kernel
theorem dX4_isPopular_64 : decode cX4_isPopular 64 = .ok (.ifCond .eq 14, 3) := by decide +kernel
theorem dX4_isPopular_67 : decode cX4_isPopular 67 = .ok (.aload_n 1, 1) := by decide +kernel
theorem dX4_isPopular_68 : decode cX4_isPopular 68 = .ok (.iload_n 2, 1) := by decide +kernel
theorem dX4_isPopular_69 : decode cX4_isPopular 69 = .ok (.iload_n 3, 1) := by decide +kernel
theorem dX4_isPopular_70 : decode cX4_isPopular 70 = .ok (.invokestatic 80, 3) := by decide +kernel
theorem dX4_isPopular_73 : decode cX4_isPopular 73 = .ok (.ifCond .eq 5, 3) := by decide +kernel
theorem dX4_isPopular_76 : decode cX4_isPopular 76 = .ok (.iconst 0, 1) := by decide +kernel
theorem dX4_isPopular_77 : decode cX4_isPopular 77 = .ok (.ireturn, 1) := by decide +kernel
theorem dX4_isPopular_78 : decode cX4_isPopular 78 = .ok (.aload_n 0, 1) := by decide +kernel
theorem dX4_isPopular_79 : decode cX4_isPopular 79 = .ok (.aload_n 0, 1) := by decide +kernel
theorem dX4_isPopular_80 : decode cX4_isPopular 80 = .ok (.aload_n 1, 1) := by decide +kernel
theorem dX4_isPopular_81 : decode cX4_isPopular 81 = .ok (.iload_n 2, 1) := by decide +kernel
theorem dX4_isPopular_82 : decode cX4_isPopular 82 = .ok (.iload_n 3, 1) := by decide +kernel
theorem dX4_isPopular_83 : decode cX4_isPopular 83 = .ok (.invokevirtual 55, 3) := by decide +kernel
theorem dX4_isPopular_86 : decode cX4_isPopular 86 = .ok (.iload_n 3, 1) := by decide +kernel
theorem dX4_isPopular_87 : decode cX4_isPopular 87 = .ok (.invokevirtual 84, 3) := by decide +kernel
theorem dX4_isPopular_90 : decode cX4_isPopular 90 = .ok (.iinc 3 1, 3) := by decide +kernel
theorem dX4_isPopular_93 : decode cX4_isPopular 93 = .ok (.goto (-61), 3) := by decide +kernel
theorem dX4_isPopular_96 : decode cX4_isPopular 96 = .ok (.iconst 0, 1) := by decide +kernel
theorem dX4_isPopular_97 : decode cX4_isPopular 97 = .ok (.istore_n 3, 1) := by decide +kernel
theorem dX4_isPopular_98 : decode cX4_isPopular 98 = .ok (.iload_n 3, 1) := by decide +kernel
theorem dX4_isPopular_99 : decode cX4_isPopular 99 = .ok (.aload_n 1, 1) := by decide +kernel
theorem dX4_isPopular_100 : decode cX4_isPopular 100 = .ok (.getfield 66, 3) := by decide +kernel
theorem dX4_isPopular_103 : decode cX4_isPopular 103 = .ok (.if_icmp .ge 41, 3) := by decide +kernel
theorem dX4_isPopular_106 : decode cX4_isPopular 106 = .ok (.aload_n 0, 1) := by decide +kernel
theorem dX4_isPopular_107 : decode cX4_isPopular 107 = .ok (.getfield 24, 3) := by decide +kernel
theorem dX4_isPopular_110 : decode cX4_isPopular 110 = .ok (.iload_n 3, 1) := by decide +kernel
theorem dX4_isPopular_111 : decode cX4_isPopular 111 = .ok (.iaload, 1) := by decide +kernel
theorem dX4_isPopular_112 : decode cX4_isPopular 112 = .ok (.aload_n 1, 1) := by decide +kernel
theorem dX4_isPopular_113 : decode cX4_isPopular 113 = .ok (.getfield 71, 3) := by decide +kernel
theorem dX4_isPopular_116 : decode cX4_isPopular 116 = .ok (.iload_n 3, 1) := by decide +kernel
theorem dX4_isPopular_117 : decode cX4_isPopular 117 = .ok (.iaload, 1) := by decide +kernel
theorem dX4_isPopular_118 : decode cX4_isPopular 118 = .ok (.if_icmp .gt 18, 3) := by decide +kernel
theorem dX4_isPopular_121 : decode cX4_isPopular 121 = .ok (.aload_n 0, 1) := by decide +kernel
theorem dX4_isPopular_122 : decode cX4_isPopular 122 = .ok (.getfield 27, 3) := by decide +kernel
theorem dX4_isPopular_125 : decode cX4_isPopular 125 = .ok (.iload_n 3, 1) := by decide +kernel
theorem dX4_isPopular_126 : decode cX4_isPopular 126 = .ok (.iaload, 1) := by decide +kernel
theorem dX4_isPopular_127 : decode cX4_isPopular 127 = .ok (.aload_n 0, 1) := by decide +kernel
theorem dX4_isPopular_128 : decode cX4_isPopular 128 = .ok (.getfield 21, 3) := by decide +kernel
theorem dX4_isPopular_131 : decode cX4_isPopular 131 = .ok (.iload_n 3, 1) := by decide +kernel
theorem dX4_isPopular_132 : decode cX4_isPopular 132 = .ok (.iaload, 1) := by decide +kernel
theorem dX4_isPopular_133 : decode cX4_isPopular 133 = .ok (.if_icmp .eq 5, 3) := by decide +kernel
theorem dX4_isPopular_136 : decode cX4_isPopular 136 = .ok (.iconst 0, 1) := by decide +kernel
theorem dX4_isPopular_137 : decode cX4_isPopular 137 = .ok (.ireturn, 1) := by decide +kernel
theorem dX4_isPopular_138 : decode cX4_isPopular 138 = .ok (.iinc 3 1, 3) := by decide +kernel
theorem dX4_isPopular_141 : decode cX4_isPopular 141 = .ok (.goto (-43), 3) := by decide +kernel
theorem dX4_isPopular_144 : decode cX4_isPopular 144 = .ok (.iconst 1, 1) := by decide +kernel
theorem dX4_isPopular_145 : decode cX4_isPopular 145 = .ok (.ireturn, 1) := by decide +kernel
theorem dX4_count_0 : decode cX4_count 0 = .ok (.iload_n 1, 1) := by decide +kernel
theorem dX4_count_1 : decode cX4_count 1 = .ok (.iconst (-1), 1) := by decide +kernel
theorem dX4_count_2 : decode cX4_count 2 = .ok (.if_icmp .eq 33, 3) := by decide +kernel
theorem dX4_count_5 : decode cX4_count 5 = .ok (.aload_n 0, 1) := by decide +kernel
theorem dX4_count_6 : decode cX4_count 6 = .ok (.getfield 24, 3) := by decide +kernel
theorem dX4_count_9 : decode cX4_count 9 = .ok (.iload_n 1, 1) := by decide +kernel
theorem dX4_count_10 : decode cX4_count 10 = .ok (.dup2, 1) := by decide +kernel
theorem dX4_count_11 : decode cX4_count 11 = .ok (.iaload, 1) := by decide +kernel
theorem dX4_count_12 : decode cX4_count 12 = .ok (.iconst 1, 1) := by decide +kernel
theorem dX4_count_13 : decode cX4_count 13 = .ok (.iadd, 1) := by decide +kernel
theorem dX4_count_14 : decode cX4_count 14 = .ok (.iastore, 1) := by decide +kernel
theorem dX4_count_15 : decode cX4_count 15 = .ok (.iload_n 1, 1) := by decide +kernel
theorem dX4_count_16 : decode cX4_count 16 = .ok (.aload_n 0, 1) := by decide +kernel
theorem dX4_count_17 : decode cX4_count 17 = .ok (.getfield 9, 3) := by decide +kernel
theorem dX4_count_20 : decode cX4_count 20 = .ok (.iload_n 2, 1) := by decide +kernel
theorem dX4_count_21 : decode cX4_count 21 = .ok (.iaload, 1) := by decide +kernel
theorem dX4_count_22 : decode cX4_count 22 = .ok (.if_icmp .ne 13, 3) := by decide +kernel
theorem dX4_count_25 : decode cX4_count 25 = .ok (.aload_n 0, 1) := by decide +kernel
theorem dX4_count_26 : decode cX4_count 26 = .ok (.getfield 27, 3) := by decide +kernel
theorem dX4_count_29 : decode cX4_count 29 = .ok (.iload_n 1, 1) := by decide +kernel
theorem dX4_count_30 : decode cX4_count 30 = .ok (.dup2, 1) := by decide +kernel
theorem dX4_count_31 : decode cX4_count 31 = .ok (.iaload, 1) := by decide +kernel
theorem dX4_count_32 : decode cX4_count 32 = .ok (.iconst 1, 1) := by decide +kernel
theorem dX4_count_33 : decode cX4_count 33 = .ok (.iadd, 1) := by decide +kernel
theorem dX4_count_34 : decode cX4_count 34 = .ok (.iastore, 1) := by decide +kernel
theorem dX4_count_35 : decode cX4_count 35 = .ok (.return_, 1) := by decide +kernel
set_option maxRecDepth 20000 in
theorem ggX5_init_X2_init : GoodIn wsX5_init wsX2_init := goodIn_r _ [28, 29, 2, 3, 30, 31, 32, 33, 34, 35, 36, 6, 37, 38, 39, 74, 75, 76, 77, 78] (by decide +kernel) (by decide +kernel)
set_option maxRecDepth 20000 in
theorem gX5_init_X2_init : GoodIn wsX5_init (wsX2_init) := ggX5_init_X2_init
set_option maxRecDepth 20000 in
theorem ggX5_init_X3_init : GoodIn wsX5_init wsX3_init := goodIn_r _ [42, 43, 2, 3, 30, 44, 45, 46, 47, 10, 48, 86] (by decide +kernel) (by decide +kernel)
set_option maxRecDepth 20000 in
theorem gX5_init_X3_init : GoodIn wsX5_init (wsX3_init) := ggX5_init_X3_init
set_option maxRecDepth 20000 in
theorem ggX5_init_X1_init : GoodIn wsX5_init wsX1_init := goodIn_r _ [51, 52, 2, 3, 53, 54, 55, 56, 9, 10, 57, 41, 42, 43, 30, 44, 45, 46, 47, 48, 87, 88, 89, 86] (by decide +kernel) (by decide +kernel)
set_option maxRecDepth 20000 in
theorem gX5_init_X1_init : GoodIn wsX5_init (wsX1_init) := ggX5_init_X1_init
set_option maxRecDepth 20000 in
theorem ggX5_init_X0_init : GoodIn wsX5_init wsX0_init := goodIn_r _ [60, 61, 2, 3, 30, 62, 63, 90, 91] (by decide +kernel) (by decide +kernel)
set_option maxRecDepth 20000 in
theorem gX5_init_X0_init : GoodIn wsX5_init (wsX0_init) := ggX5_init_X0_init
set_option maxRecDepth 20000 in
theorem ggX5_init_X4_init : GoodIn wsX5_init wsX4_init := goodIn_r _ [65, 66, 2, 3, 30, 67, 68, 69, 70, 71, 72, 73, 92, 93, 94, 95, 96, 97, 98] (by decide +kernel) (by decide +kernel)
set_option maxRecDepth 20000 in
theorem gX5_init_X4_init_n45 : GoodIn wsX5_init (wsX4_init) := ggX5_init_X4_init
end
section
theorem dX5_init_0 : decode cX5_init 0 = .ok (.aload_n 0, 1) := by decide +kernel
theorem dX5_init_1 : decode cX5_init 1 = .ok (.invokespecial 1, 3) := by decide +kernel
theorem dX5_init_4 : decode cX5_init 4 = .ok (.aload_n 0, 1) := by decide +kernel
theorem dX5_init_5 : decode cX5_init 5 = .ok (.new 7, 3) := by decide +kernel
theorem dX5_init_8 : decode cX5_init 8 = .ok (.dup, 1) := by decide +kernel
theorem dX5_init_9 : decode cX5_init 9 = .ok (.invokespecial 9, 3) := by decide +kernel
theorem dX5_init_12 : decode cX5_init 12 = .ok (.putfield 10, 3) := by decide +kernel
theorem dX5_init_15 : decode cX5_init 15 = .ok (.aload_n 0, 1) := by decide +kernel
theorem dX5_init_16 : decode cX5_init 16 = .ok (.new 16, 3) := by decide +kernel
theorem dX5_init_19 : decode cX5_init 19 = .ok (.dup, 1) := by decide +kernel
theorem dX5_init_20 : decode cX5_init 20 = .ok (.invokespecial 18, 3) := by decide +kernel
theorem dX5_init_23 : decode cX5_init 23 = .ok (.putfield 19, 3) := by decide +kernel
theorem dX5_init_26 : decode cX5_init 26 = .ok (.aload_n 0, 1) := by decide +kernel
theorem dX5_init_27 : decode cX5_init 27 = .ok (.new 16, 3) := by decide +kernel
theorem dX5_init_30 : decode cX5_init 30 = .ok (.dup, 1) := by decide +kernel
theorem dX5_init_31 : decode cX5_init 31 = .ok (.invokespecial 18, 3) := by decide +kernel
theorem dX5_init_34 : decode cX5_init 34 = .ok (.putfield 23, 3) := by decide +kernel
theorem dX5_init_37 : decode cX5_init 37 = .ok (.aload_n 0, 1) := by decide +kernel
theorem dX5_init_38 : decode cX5_init 38 = .ok (.new 16, 3) := by decide +kernel
theorem dX5_init_41 : decode cX5_init 41 = .ok (.dup, 1) := by decide +kernel
theorem dX5_init_42 : decode cX5_init 42 = .ok (.invokespecial 18, 3) := by decide +kernel
theorem dX5_init_45 : decode cX5_init 45 = .ok (.putfield 26, 3) := by decide +kernel
theorem dX5_init_48 : decode cX5_init 48 = .ok (.aload_n 0, 1) := by decide +kernel
theorem dX5_init_49 : decode cX5_init 49 = .ok (.new 29, 3) := by decide +kernel
theorem dX5_init_52 : decode cX5_init 52 = .ok (.dup, 1) := by decide +kernel
theorem dX5_init_53 : decode cX5_init 53 = .ok (.invokespecial 31, 3) := by decide +kernel
theorem dX5_init_56 : decode cX5_init 56 = .ok (.putfield 32, 3) := by decide +kernel
theorem dX5_init_59 : decode cX5_init 59 = .ok (.aload_n 0, 1) := by decide +kernel
theorem dX5_init_60 : decode cX5_init 60 = .ok (.new 36, 3) := by decide +kernel
theorem dX5_init_63 : decode cX5_init 63 = .ok (.dup, 1) := by decide +kernel
theorem dX5_init_64 : decode cX5_init 64 = .ok (.invokespecial 38, 3) := by decide +kernel
theorem dX5_init_67 : decode cX5_init 67 = .ok (.putfield 39, 3) := by decide +kernel
theorem dX5_init_70 : decode cX5_init 70 = .ok (.aload_n 0, 1) := by decide +kernel
theorem dX5_init_71 : decode cX5_init 71 = .ok (.new 43, 3) := by decide +kernel
theorem dX5_init_74 : decode cX5_init 74 = .ok (.dup, 1) := by decide +kernel
theorem dX5_init_75 : decode cX5_init 75 = .ok (.invokespecial 45, 3) := by decide +kernel
theorem dX5_init_78 : decode cX5_init 78 = .ok (.putfield 46, 3) := by decide +kernel
theorem dX5_init_81 : decode cX5_init 81 = .ok (.return_, 1) := by decide +kernel
set_option maxRecDepth 20000 in
theorem ggX5_reset_X2_startAnew : GoodIn wsX5_reset wsX2_startAnew := goodIn_r _ [7, 8, 9, 10, 11, 39, 40, 41, 42, 43] (by decide +kernel) (by decide +kernel)
set_option maxRecDepth 20000 in
theorem gX5_reset_X2_startAnew : GoodIn wsX5_reset (wsV RX5 54 RX2 yX2_startAnew wsX2_startAnew) := goodIn_app (goodIn_of _ (by decide +kernel)) ggX5_reset_X2_startAnew
set_option maxRecDepth 20000 in
theorem ggX5_reset_X5_forgetMatchings : GoodIn wsX5_reset wsX5_forgetMatchings := goodIn_r _ [16, 17, 18, 19, 20, 21, 22, 23, 24, 25, 26, 27, 28, 29, 30, 31, 32, 33, 34, 35, 36, 37, 38, 44, 45, 46, 47] (by decide +kernel) (by decide +kernel)
set_option maxRecDepth 20000 in
theorem gX5_reset_X5_forgetMatchings : GoodIn wsX5_reset (wsV RX5 58 RX5 yX5_forgetMatchings wsX5_forgetMatchings) := goodIn_app (goodIn_of _ (by decide +kernel)) ggX5_reset_X5_forgetMatchings
theorem dX5_reset_0 : decode cX5_reset 0 = .ok (.iload_n 1, 1) := by decide +kernel
theorem dX5_reset_1 : decode cX5_reset 1 = .ok (.iconst 1, 1) := by decide +kernel
theorem dX5_reset_2 : decode cX5_reset 2 = .ok (.if_icmp .lt 23, 3) := by decide +kernel
theorem dX5_reset_5 : decode cX5_reset 5 = .ok (.iload_n 1, 1) := by decide +kernel
theorem dX5_reset_6 : decode cX5_reset 6 = .ok (.bipush 6, 2) := by decide +kernel
theorem dX5_reset_8 : decode cX5_reset 8 = .ok (.if_icmp .gt 17, 3) := by decide +kernel
theorem dX5_reset_11 : decode cX5_reset 11 = .ok (.iload_n 2, 1) := by decide +kernel
theorem dX5_reset_12 : decode cX5_reset 12 = .ok (.iconst 1, 1) := by decide +kernel
theorem dX5_reset_13 : decode cX5_reset 13 = .ok (.if_icmp .lt 12, 3) := by decide +kernel
theorem dX5_reset_16 : decode cX5_reset 16 = .ok (.iload_n 2, 1) := by decide +kernel
theorem dX5_reset_17 : decode cX5_reset 17 = .ok (.iconst 5, 1) := by decide +kernel
theorem dX5_reset_18 : decode cX5_reset 18 = .ok (.if_icmp .gt 7, 3) := by decide +kernel
theorem dX5_reset_21 : decode cX5_reset 21 = .ok (.iconst 1, 1) := by decide +kernel
theorem dX5_reset_22 : decode cX5_reset 22 = .ok (.goto 4, 3) := by decide +kernel
theorem dX5_reset_25 : decode cX5_reset 25 = .ok (.iconst 0, 1) := by decide +kernel
theorem dX5_reset_26 : decode cX5_reset 26 = .ok (.istore_n 3, 1) := by decide +kernel
theorem dX5_reset_27 : decode cX5_reset 27 = .ok (.iload_n 3, 1) := by decide +kernel
theorem dX5_reset_28 : decode cX5_reset 28 = .ok (.ifCond .ne 6, 3) := by decide +kernel
theorem dX5_reset_31 : decode cX5_reset 31 = .ok (.bipush (-101), 2) := by decide +kernel
theorem dX5_reset_33 : decode cX5_reset 33 = .ok (.ireturn, 1) := by decide +kernel
theorem dX5_reset_34 : decode cX5_reset 34 = .ok (.aload_n 0, 1) := by decide +kernel
theorem dX5_reset_35 : decode cX5_reset 35 = .ok (.getfield 10, 3) := by decide +kernel
theorem dX5_reset_38 : decode cX5_reset 38 = .ok (.getfield 50, 3) := by decide +kernel
theorem dX5_reset_41 : decode cX5_reset 41 = .ok (.istore 4, 2) := by decide +kernel
theorem dX5_reset_43 : decode cX5_reset 43 = .ok (.aload_n 0, 1) := by decide +kernel
theorem dX5_reset_44 : decode cX5_reset 44 = .ok (.getfield 10, 3) := by decide +kernel
theorem dX5_reset_47 : decode cX5_reset 47 = .ok (.iload_n 1, 1) := by decide +kernel
theorem dX5_reset_48 : decode cX5_reset 48 = .ok (.iload_n 2, 1) := by decide +kernel
theorem dX5_reset_49 : decode cX5_reset 49 = .ok (.invokevirtual 54, 3) := by decide +kernel
theorem dX5_reset_52 : decode cX5_reset 52 = .ok (.aload_n 0, 1) := by decide +kernel
theorem dX5_reset_53 : decode cX5_reset 53 = .ok (.invokevirtual 58, 3) := by decide +kernel
theorem dX5_reset_56 : decode cX5_reset 56 = .ok (.iload 4, 2) := by decide +kernel
theorem dX5_reset_58 : decode cX5_reset 58 = .ok (.ireturn, 1) := by decide +kernel
set_option maxRecDepth 20000 in
theorem ggX5_setCapacity_X2_isPost : GoodIn wsX5_setCapacity wsX2_isPost := goodIn_r _ [7, 8, 36, 37, 38, 39, 40] (by decide +kernel) (by decide +kernel)
set_option maxRecDepth 20000 in
theorem gX5_setCapacity_X2_isPost : GoodIn wsX5_setCapacity (wsV RX5 61 RX2 yX2_isPost wsX2_isPost) := goodIn_app (goodIn_of _ (by decide +kernel)) ggX5_setCapacity_X2_isPost
set_option maxRecDepth 20000 in
theorem ggX5_setCapacity_X5_forgetMatchings : GoodIn wsX5_setCapacity wsX5_forgetMatchings := goodIn_r _ [13, 14, 15, 16, 17, 18, 19, 20, 21, 22, 23, 24, 25, 26, 27, 28, 29, 30, 31, 32, 33, 34, 35, 41, 42, 43, 44] (by decide +kernel) (by decide +kernel)
set_option maxRecDepth 20000 in
theorem gX5_setCapacity_X5_forgetMatchings : GoodIn wsX5_setCapacity (wsV RX5 58 RX5 yX5_forgetMatchings wsX5_forgetMatchings) := goodIn_app (goodIn_of _ (by decide +kernel)) ggX5_setCapacity_X5_forgetMatchings
theorem dX5_setCapacity_0 : decode cX5_setCapacity 0 = .ok (.aload_n 0, 1) := by decide +kernel
theorem dX5_setCapacity_1 : decode cX5_setCapacity 1 = .ok (.getfield 10, 3) := by decide +kernel
theorem dX5_setCapacity_4 : decode cX5_setCapacity 4 = .ok (.iload_n 1, 1) := by decide +kernel
theorem dX5_setCapacity_5 : decode cX5_setCapacity 5 = .ok (.invokevirtual 61, 3) := by decide +kernel
theorem dX5_setCapacity_8 : decode cX5_setCapacity 8 = .ok (.ifCond .eq 13, 3) := by decide +kernel
theorem dX5_setCapacity_11 : decode cX5_setCapacity 11 = .ok (.iload_n 2, 1) := by decide +kernel
theorem dX5_setCapacity_12 : decode cX5_setCapacity 12 = .ok (.iconst 1, 1) := by decide +kernel
theorem dX5_setCapacity_13 : decode cX5_setCapacity 13 = .ok (.if_icmp .lt 8, 3) := by decide +kernel
theorem dX5_setCapacity_16 : decode cX5_setCapacity 16 = .ok (.iload_n 2, 1) := by decide +kernel
theorem dX5_setCapacity_17 : decode cX5_setCapacity 17 = .ok (.iconst 2, 1) := by decide +kernel
theorem dX5_setCapacity_18 : decode cX5_setCapacity 18 = .ok (.if_icmp .le 6, 3) := by decide +kernel
theorem dX5_setCapacity_21 : decode cX5_setCapacity 21 = .ok (.bipush (-101), 2) := by decide +kernel
theorem dX5_setCapacity_23 : decode cX5_setCapacity 23 = .ok (.ireturn, 1) := by decide +kernel
theorem dX5_setCapacity_24 : decode cX5_setCapacity 24 = .ok (.aload_n 0, 1) := by decide +kernel
theorem dX5_setCapacity_25 : decode cX5_setCapacity 25 = .ok (.getfield 10, 3) := by decide +kernel
theorem dX5_setCapacity_28 : decode cX5_setCapacity 28 = .ok (.getfield 65, 3) := by decide +kernel
theorem dX5_setCapacity_31 : decode cX5_setCapacity 31 = .ok (.iload_n 1, 1) := by decide +kernel
theorem dX5_setCapacity_32 : decode cX5_setCapacity 32 = .ok (.iaload, 1) := by decide +kernel
theorem dX5_setCapacity_33 : decode cX5_setCapacity 33 = .ok (.istore_n 3, 1) := by decide +kernel
theorem dX5_setCapacity_34 : decode cX5_setCapacity 34 = .ok (.aload_n 0, 1) := by decide +kernel
theorem dX5_setCapacity_35 : decode cX5_setCapacity 35 = .ok (.getfield 10, 3) := by decide +kernel
theorem dX5_setCapacity_38 : decode cX5_setCapacity 38 = .ok (.getfield 65, 3) := by decide +kernel
theorem dX5_setCapacity_41 : decode cX5_setCapacity 41 = .ok (.iload_n 1, 1) := by decide +kernel
theorem dX5_setCapacity_42 : decode cX5_setCapacity 42 = .ok (.iload_n 2, 1) := by decide +kernel
theorem dX5_setCapacity_43 : decode cX5_setCapacity 43 = .ok (.iastore, 1) := by decide +kernel
theorem dX5_setCapacity_44 : decode cX5_setCapacity 44 = .ok (.aload_n 0, 1) := by decide +kernel
theorem dX5_setCapacity_45 : decode cX5_setCapacity 45 = .ok (.invokevirtual 58, 3) := by decide +kernel
theorem dX5_setCapacity_48 : decode cX5_setCapacity 48 = .ok (.iload_n 3, 1) := by decide +kernel
theorem dX5_setCapacity_49 : decode cX5_setCapacity 49 = .ok (.ireturn, 1) := by decide +kernel
set_option maxRecDepth 20000 in
theorem ggX5_appendPreference_X2_isApplicant : GoodIn wsX5_appendPreference wsX2_isApplicant := goodIn_r _ [6, 7, 58, 59, 60, 61, 62] (by decide +kernel) (by decide +kernel)
set_option maxRecDepth 20000 in
theorem gX5_appendPreference_X2_isApplicant : GoodIn wsX5_appendPreference (wsV RX5 69 RX2 yX2_isApplicant wsX2_isApplicant) := goodIn_app (goodIn_of _ (by decide +kernel)) ggX5_appendPreference_X2_isApplicant
set_option maxRecDepth 20000 in
theorem ggX5_appendPreference_X2_isPost : GoodIn wsX5_appendPreference wsX2_isPost := goodIn_r _ [11, 12, 58, 59, 60, 61, 62] (by decide +kernel) (by decide +kernel)
set_option maxRecDepth 20000 in
theorem gX5_appendPreference_X2_isPost : GoodIn wsX5_appendPreference (wsV RX5 61 RX2 yX2_isPost wsX2_isPost) := goodIn_app (goodIn_of _ (by decide +kernel)) ggX5_appendPreference_X2_isPost
set_option maxRecDepth 20000 in
theorem ggX5_appendPreference_X2_isListed : GoodIn wsX5_appendPreference wsX2_isListed := goodIn_r _ [16, 17, 18, 19, 20, 5, 21, 22, 23, 24, 25, 26, 58, 59, 60, 61, 62] (by decide +kernel) (by decide +kernel)
set_option maxRecDepth 20000 in
theorem gX5_appendPreference_X2_isListed : GoodIn wsX5_appendPreference (wsV RX5 72 RX2 yX2_isListed wsX2_isListed) := goodIn_app (goodIn_of _ (by decide +kernel)) ggX5_appendPreference_X2_isListed
set_option maxRecDepth 20000 in
theorem ggX5_appendPreference_X2_append : GoodIn wsX5_appendPreference wsX2_append := goodIn_r _ [30, 26, 17, 58, 59, 60, 61, 62] (by decide +kernel) (by decide +kernel)
set_option maxRecDepth 20000 in
theorem gX5_appendPreference_X2_append : GoodIn wsX5_appendPreference (wsV RX5 76 RX2 yX2_append wsX2_append) := goodIn_app (goodIn_of _ (by decide +kernel)) ggX5_appendPreference_X2_append
set_option maxRecDepth 20000 in
theorem ggX5_appendPreference_X5_forgetMatchings : GoodIn wsX5_appendPreference wsX5_forgetMatchings := goodIn_r _ [35, 36, 37, 38, 39, 40, 41, 42, 43, 44, 45, 46, 47, 48, 49, 50, 51, 52, 53, 54, 55, 56, 57, 63, 64, 65, 66] (by decide +kernel) (by decide +kernel)
set_option maxRecDepth 20000 in
theorem gX5_appendPreference_X5_forgetMatchings : GoodIn wsX5_appendPreference (wsV RX5 58 RX5 yX5_forgetMatchings wsX5_forgetMatchings) := goodIn_app (goodIn_of _ (by decide +kernel)) ggX5_appendPreference_X5_forgetMatchings
theorem dX5_appendPreference_0 : decode cX5_appendPreference 0 = .ok (.aload_n 0, 1) := by decide +kernel
theorem dX5_appendPreference_1 : decode cX5_appendPreference 1 = .ok (.getfield 10, 3) := by decide +kernel
theorem dX5_appendPreference_4 : decode cX5_appendPreference 4 = .ok (.iload_n 1, 1) := by decide +kernel
theorem dX5_appendPreference_5 : decode cX5_appendPreference 5 = .ok (.invokevirtual 69, 3) := by decide +kernel
theorem dX5_appendPreference_8 : decode cX5_appendPreference 8 = .ok (.ifCond .eq 14, 3) := by decide +kernel
theorem dX5_appendPreference_11 : decode cX5_appendPreference 11 = .ok (.aload_n 0, 1) := by decide +kernel
theorem dX5_appendPreference_12 : decode cX5_appendPreference 12 = .ok (.getfield 10, 3) := by decide +kernel
theorem dX5_appendPreference_15 : decode cX5_appendPreference 15 = .ok (.iload_n 2, 1) := by decide +kernel
theorem dX5_appendPreference_16 : decode cX5_appendPreference 16 = .ok (.invokevirtual 61, 3) := by decide +kernel
theorem dX5_appendPreference_19 : decode cX5_appendPreference 19 = .ok (.ifCond .ne 6, 3) := by decide +kernel
theorem dX5_appendPreference_22 : decode cX5_appendPreference 22 = .ok (.bipush (-101), 2) := by decide +kernel
theorem dX5_appendPreference_24 : decode cX5_appendPreference 24 = .ok (.ireturn, 1) := by decide +kernel
theorem dX5_appendPreference_25 : decode cX5_appendPreference 25 = .ok (.aload_n 0, 1) := by decide +kernel
theorem dX5_appendPreference_26 : decode cX5_appendPreference 26 = .ok (.getfield 10, 3) := by decide +kernel
theorem dX5_appendPreference_29 : decode cX5_appendPreference 29 = .ok (.iload_n 1, 1) := by decide +kernel
theorem dX5_appendPreference_30 : decode cX5_appendPreference 30 = .ok (.iload_n 2, 1) := by decide +kernel
theorem dX5_appendPreference_31 : decode cX5_appendPreference 31 = .ok (.invokevirtual 72, 3) := by decide +kernel
theorem dX5_appendPreference_34 : decode cX5_appendPreference 34 = .ok (.ifCond .eq 6, 3) := by decide +kernel
theorem dX5_appendPreference_37 : decode cX5_appendPreference 37 = .ok (.bipush (-102), 2) := by decide +kernel
theorem dX5_appendPreference_39 : decode cX5_appendPreference 39 = .ok (.ireturn, 1) := by decide +kernel
theorem dX5_appendPreference_40 : decode cX5_appendPreference 40 = .ok (.aload_n 0, 1) := by decide +kernel
theorem dX5_appendPreference_41 : decode cX5_appendPreference 41 = .ok (.getfield 10, 3) := by decide +kernel
theorem dX5_appendPreference_44 : decode cX5_appendPreference 44 = .ok (.iload_n 1, 1) := by decide +kernel
theorem dX5_appendPreference_45 : decode cX5_appendPreference 45 = .ok (.iload_n 2, 1) := by decide +kernel
theorem dX5_appendPreference_46 : decode cX5_appendPreference 46 = .ok (.invokevirtual 76, 3) := by decide +kernel
theorem dX5_appendPreference_49 : decode cX5_appendPreference 49 = .ok (.istore_n 3, 1) := by decide +kernel
theorem dX5_appendPreference_50 : decode cX5_appendPreference 50 = .ok (.aload_n 0, 1) := by decide +kernel
theorem dX5_appendPreference_51 : decode cX5_appendPreference 51 = .ok (.invokevirtual 58, 3) := by decide +kernel
theorem dX5_appendPreference_54 : decode cX5_appendPreference 54 = .ok (.iload_n 3, 1) := by decide +kernel
theorem dX5_appendPreference_55 : decode cX5_appendPreference 55 = .ok (.ireturn, 1) := by decide +kernel
set_option maxRecDepth 20000 in
theorem ggX5_clearPreferences_X2_isApplicant : GoodIn wsX5_clearPreferences wsX2_isApplicant := goodIn_r _ [7, 8, 36, 37, 38, 39, 40] (by decide +kernel) (by decide +kernel)
set_option maxRecDepth 20000 in
theorem gX5_clearPreferences_X2_isApplicant : GoodIn wsX5_clearPreferences (wsV RX5 69 RX2 yX2_isApplicant wsX2_isApplicant) := goodIn_app (goodIn_of _ (by decide +kernel)) ggX5_clearPreferences_X2_isApplicant
set_option maxRecDepth 20000 in
theorem ggX5_clearPreferences_X5_forgetMatchings : GoodIn wsX5_clearPreferences wsX5_forgetMatchings := goodIn_r _ [13, 14, 15, 16, 17, 18, 19, 20, 21, 22, 23, 24, 25, 26, 27, 28, 29, 30, 31, 32, 33, 34, 35, 41, 42, 43, 44] (by decide +kernel) (by decide +kernel)
set_option maxRecDepth 20000 in
theorem gX5_clearPreferences_X5_forgetMatchings : GoodIn wsX5_clearPreferences (wsV RX5 58 RX5 yX5_forgetMatchings wsX5_forgetMatchings) := goodIn_app (goodIn_of _ (by decide +kernel)) ggX5_clearPreferences_X5_forgetMatchings
theorem dX5_clearPreferences_0 : decode cX5_clearPreferences 0 = .ok (.aload_n 0, 1) := by decide +kernel
theorem dX5_clearPreferences_1 : decode cX5_clearPreferences 1 = .ok (.getfield 10, 3) := by decide +kernel
theorem dX5_clearPreferences_4 : decode cX5_clearPreferences 4 = .ok (.iload_n 1, 1) := by decide +kernel
theorem dX5_clearPreferences_5 : decode cX5_clearPreferences 5 = .ok (.invokevirtual 69, 3) := by decide +kernel
theorem dX5_clearPreferences_8 : decode cX5_clearPreferences 8 = .ok (.ifCond .ne 6, 3) := by decide +kernel
theorem dX5_clearPreferences_11 : decode cX5_clearPreferences 11 = .ok (.bipush (-101), 2) := by decide +kernel
theorem dX5_clearPreferences_13 : decode cX5_clearPreferences 13 = .ok (.ireturn, 1) := by decide +kernel
theorem dX5_clearPreferences_14 : decode cX5_clearPreferences 14 = .ok (.aload_n 0, 1) := by decide +kernel
theorem dX5_clearPreferences_15 : decode cX5_clearPreferences 15 = .ok (.getfield 10, 3) := by decide +kernel
theorem dX5_clearPreferences_18 : decode cX5_clearPreferences 18 = .ok (.getfield 80, 3) := by decide +kernel
theorem dX5_clearPreferences_21 : decode cX5_clearPreferences 21 = .ok (.iload_n 1, 1) := by decide +kernel
theorem dX5_clearPreferences_22 : decode cX5_clearPreferences 22 = .ok (.iaload, 1) := by decide +kernel
theorem dX5_clearPreferences_23 : decode cX5_clearPreferences 23 = .ok (.istore_n 2, 1) := by decide +kernel
theorem dX5_clearPreferences_24 : decode cX5_clearPreferences 24 = .ok (.aload_n 0, 1) := by decide +kernel
theorem dX5_clearPreferences_25 : decode cX5_clearPreferences 25 = .ok (.getfield 10, 3) := by decide +kernel
theorem dX5_clearPreferences_28 : decode cX5_clearPreferences 28 = .ok (.getfield 80, 3) := by decide +kernel
theorem dX5_clearPreferences_31 : decode cX5_clearPreferences 31 = .ok (.iload_n 1, 1) := by decide +kernel
theorem dX5_clearPreferences_32 : decode cX5_clearPreferences 32 = .ok (.iconst 0, 1) := by decide +kernel
theorem dX5_clearPreferences_33 : decode cX5_clearPreferences 33 = .ok (.iastore, 1) := by decide +kernel
theorem dX5_clearPreferences_34 : decode cX5_clearPreferences 34 = .ok (.aload_n 0, 1) := by decide +kernel
theorem dX5_clearPreferences_35 : decode cX5_clearPreferences 35 = .ok (.invokevirtual 58, 3) := by decide +kernel
theorem dX5_clearPreferences_38 : decode cX5_clearPreferences 38 = .ok (.iload_n 2, 1) := by decide +kernel
theorem dX5_clearPreferences_39 : decode cX5_clearPreferences 39 = .ok (.ireturn, 1) := by decide +kernel
set_option maxRecDepth 20000 in
theorem ggX5_preferenceAt_X2_isApplicant : GoodIn wsX5_preferenceAt wsX2_isApplicant := goodIn_r _ [7, 8, 21, 22, 23, 24, 25] (by decide +kernel) (by decide +kernel)
set_option maxRecDepth 20000 in
theorem gX5_preferenceAt_X2_isApplicant : GoodIn wsX5_preferenceAt (wsV RX5 69 RX2 yX2_isApplicant wsX2_isApplicant) := goodIn_app (goodIn_of _ (by decide +kernel)) ggX5_preferenceAt_X2_isApplicant
set_option maxRecDepth 20000 in
theorem ggX5_preferenceAt_X2_listed : GoodIn wsX5_preferenceAt wsX2_listed := goodIn_r _ [12, 13, 21, 22, 23, 24, 25] (by decide +kernel) (by decide +kernel)
set_option maxRecDepth 20000 in
theorem gX5_preferenceAt_X2_listed : GoodIn wsX5_preferenceAt (wsV RX5 83 RX2 yX2_listed wsX2_listed) := goodIn_app (goodIn_of _ (by decide +kernel)) ggX5_preferenceAt_X2_listed
theorem dX5_preferenceAt_0 : decode cX5_preferenceAt 0 = .ok (.aload_n 0, 1) := by decide +kernel
theorem dX5_preferenceAt_1 : decode cX5_preferenceAt 1 = .ok (.getfield 10, 3) := by decide +kernel
theorem dX5_preferenceAt_4 : decode cX5_preferenceAt 4 = .ok (.iload_n 1, 1) := by decide +kernel
theorem dX5_preferenceAt_5 : decode cX5_preferenceAt 5 = .ok (.invokevirtual 69, 3) := by decide +kernel
theorem dX5_preferenceAt_8 : decode cX5_preferenceAt 8 = .ok (.ifCond .eq 7, 3) := by decide +kernel
theorem dX5_preferenceAt_11 : decode cX5_preferenceAt 11 = .ok (.iload_n 2, 1) := by decide +kernel
theorem dX5_preferenceAt_12 : decode cX5_preferenceAt 12 = .ok (.ifCond .ge 6, 3) := by decide +kernel
theorem dX5_preferenceAt_15 : decode cX5_preferenceAt 15 = .ok (.bipush (-101), 2) := by decide +kernel
theorem dX5_preferenceAt_17 : decode cX5_preferenceAt 17 = .ok (.ireturn, 1) := by decide +kernel
theorem dX5_preferenceAt_18 : decode cX5_preferenceAt 18 = .ok (.iload_n 2, 1) := by decide +kernel
theorem dX5_preferenceAt_19 : decode cX5_preferenceAt 19 = .ok (.aload_n 0, 1) := by decide +kernel
theorem dX5_preferenceAt_20 : decode cX5_preferenceAt 20 = .ok (.getfield 10, 3) := by decide +kernel
theorem dX5_preferenceAt_23 : decode cX5_preferenceAt 23 = .ok (.getfield 80, 3) := by decide +kernel
theorem dX5_preferenceAt_26 : decode cX5_preferenceAt 26 = .ok (.iload_n 1, 1) := by decide +kernel
theorem dX5_preferenceAt_27 : decode cX5_preferenceAt 27 = .ok (.iaload, 1) := by decide +kernel
theorem dX5_preferenceAt_28 : decode cX5_preferenceAt 28 = .ok (.if_icmp .lt 6, 3) := by decide +kernel
theorem dX5_preferenceAt_31 : decode cX5_preferenceAt 31 = .ok (.bipush (-104), 2) := by decide +kernel
theorem dX5_preferenceAt_33 : decode cX5_preferenceAt 33 = .ok (.ireturn, 1) := by decide +kernel
theorem dX5_preferenceAt_34 : decode cX5_preferenceAt 34 = .ok (.aload_n 0, 1) := by decide +kernel
theorem dX5_preferenceAt_35 : decode cX5_preferenceAt 35 = .ok (.getfield 10, 3) := by decide +kernel
theorem dX5_preferenceAt_38 : decode cX5_preferenceAt 38 = .ok (.iload_n 1, 1) := by decide +kernel
theorem dX5_preferenceAt_39 : decode cX5_preferenceAt 39 = .ok (.iload_n 2, 1) := by decide +kernel
theorem dX5_preferenceAt_40 : decode cX5_preferenceAt 40 = .ok (.invokevirtual 83, 3) := by decide +kernel
theorem dX5_preferenceAt_43 : decode cX5_preferenceAt 43 = .ok (.ireturn, 1) := by decide +kernel
set_option maxRecDepth 20000 in
theorem ggX5_firstPost_X2_isApplicant : GoodIn wsX5_firstPost wsX2_isApplicant := goodIn_r _ [6, 7, 25, 26, 27, 28, 29] (by decide +kernel) (by decide +kernel)
set_option maxRecDepth 20000 in
theorem gX5_firstPost_X2_isApplicant : GoodIn wsX5_firstPost (wsV RX5 69 RX2 yX2_isApplicant wsX2_isApplicant) := goodIn_app (goodIn_of _ (by decide +kernel)) ggX5_firstPost_X2_isApplicant
set_option maxRecDepth 20000 in
theorem ggX5_firstPost_X2_firstOf : GoodIn wsX5_firstPost wsX2_firstOf := goodIn_r _ [11, 12, 13, 14, 15, 5, 16, 17, 25, 26, 27, 28, 29] (by decide +kernel) (by decide +kernel)
set_option maxRecDepth 20000 in
theorem gX5_firstPost_X2_firstOf : GoodIn wsX5_firstPost (wsV RX5 86 RX2 yX2_firstOf wsX2_firstOf) := goodIn_app (goodIn_of _ (by decide +kernel)) ggX5_firstPost_X2_firstOf
theorem dX5_firstPost_0 : decode cX5_firstPost 0 = .ok (.aload_n 0, 1) := by decide +kernel
theorem dX5_firstPost_1 : decode cX5_firstPost 1 = .ok (.getfield 10, 3) := by decide +kernel
theorem dX5_firstPost_4 : decode cX5_firstPost 4 = .ok (.iload_n 1, 1) := by decide +kernel
theorem dX5_firstPost_5 : decode cX5_firstPost 5 = .ok (.invokevirtual 69, 3) := by decide +kernel
theorem dX5_firstPost_8 : decode cX5_firstPost 8 = .ok (.ifCond .ne 6, 3) := by decide +kernel
theorem dX5_firstPost_11 : decode cX5_firstPost 11 = .ok (.bipush (-101), 2) := by decide +kernel
theorem dX5_firstPost_13 : decode cX5_firstPost 13 = .ok (.ireturn, 1) := by decide +kernel
theorem dX5_firstPost_14 : decode cX5_firstPost 14 = .ok (.aload_n 0, 1) := by decide +kernel
theorem dX5_firstPost_15 : decode cX5_firstPost 15 = .ok (.getfield 10, 3) := by decide +kernel
theorem dX5_firstPost_18 : decode cX5_firstPost 18 = .ok (.iload_n 1, 1) := by decide +kernel
theorem dX5_firstPost_19 : decode cX5_firstPost 19 = .ok (.invokevirtual 86, 3) := by decide +kernel
theorem dX5_firstPost_22 : decode cX5_firstPost 22 = .ok (.ireturn, 1) := by decide +kernel
set_option maxRecDepth 20000 in
theorem ggX5_secondPost_X2_isApplicant : GoodIn wsX5_secondPost wsX2_isApplicant := goodIn_r _ [6, 7, 34, 35, 36, 37, 38] (by decide +kernel) (by decide +kernel)
set_option maxRecDepth 20000 in
theorem gX5_secondPost_X2_isApplicant : GoodIn wsX5_secondPost (wsV RX5 69 RX2 yX2_isApplicant wsX2_isApplicant) := goodIn_app (goodIn_of _ (by decide +kernel)) ggX5_secondPost_X2_isApplicant
set_option maxRecDepth 20000 in
theorem ggX5_secondPost_X2_secondOf : GoodIn wsX5_secondPost wsX2_secondOf := goodIn_r _ [11, 12, 13, 14, 15, 16, 5, 17, 18, 19, 20, 21, 22, 7, 23, 24, 25, 26, 34, 35, 36, 37, 38] (by decide +kernel) (by decide +kernel)
set_option maxRecDepth 20000 in
theorem gX5_secondPost_X2_secondOf : GoodIn wsX5_secondPost (wsV RX5 90 RX2 yX2_secondOf wsX2_secondOf) := goodIn_app (goodIn_of _ (by decide +kernel)) ggX5_secondPost_X2_secondOf
theorem dX5_secondPost_0 : decode cX5_secondPost 0 = .ok (.aload_n 0, 1) := by decide +kernel
theorem dX5_secondPost_1 : decode cX5_secondPost 1 = .ok (.getfield 10, 3) := by decide +kernel
theorem dX5_secondPost_4 : decode cX5_secondPost 4 = .ok (.iload_n 1, 1) := by decide +kernel
theorem dX5_secondPost_5 : decode cX5_secondPost 5 = .ok (.invokevirtual 69, 3) := by decide +kernel
theorem dX5_secondPost_8 : decode cX5_secondPost 8 = .ok (.ifCond .ne 6, 3) := by decide +kernel
theorem dX5_secondPost_11 : decode cX5_secondPost 11 = .ok (.bipush (-101), 2) := by decide +kernel
theorem dX5_secondPost_13 : decode cX5_secondPost 13 = .ok (.ireturn, 1) := by decide +kernel
theorem dX5_secondPost_14 : decode cX5_secondPost 14 = .ok (.aload_n 0, 1) := by decide +kernel
theorem dX5_secondPost_15 : decode cX5_secondPost 15 = .ok (.getfield 10, 3) := by decide +kernel
theorem dX5_secondPost_18 : decode cX5_secondPost 18 = .ok (.iload_n 1, 1) := by decide +kernel
theorem dX5_secondPost_19 : decode cX5_secondPost 19 = .ok (.invokevirtual 90, 3) := by decide +kernel
theorem dX5_secondPost_22 : decode cX5_secondPost 22 = .ok (.ireturn, 1) := by decide +kernel
set_option maxRecDepth 20000 in
theorem ggX5_assign_X2_isApplicant : GoodIn wsX5_assign wsX2_isApplicant := goodIn_r _ [11, 12, 61, 62, 63, 64, 65] (by decide +kernel) (by decide +kernel)
set_option maxRecDepth 20000 in
theorem gX5_assign_X2_isApplicant : GoodIn wsX5_assign (wsV RX5 69 RX2 yX2_isApplicant wsX2_isApplicant) := goodIn_app (goodIn_of _ (by decide +kernel)) ggX5_assign_X2_isApplicant
set_option maxRecDepth 20000 in
theorem ggX5_assign_X2_isPost : GoodIn wsX5_assign wsX2_isPost := goodIn_r _ [16, 17, 61, 62, 63, 64, 65] (by decide +kernel) (by decide +kernel)
set_option maxRecDepth 20000 in
theorem gX5_assign_X2_isPost : GoodIn wsX5_assign (wsV RX5 61 RX2 yX2_isPost wsX2_isPost) := goodIn_app (goodIn_of _ (by decide +kernel)) ggX5_assign_X2_isPost
set_option maxRecDepth 20000 in
theorem ggX5_assign_X2_isListed : GoodIn wsX5_assign wsX2_isListed := goodIn_r _ [21, 22, 23, 24, 25, 10, 26, 27, 28, 29, 30, 31, 61, 62, 63, 64, 65] (by decide +kernel) (by decide +kernel)
set_option maxRecDepth 20000 in
theorem gX5_assign_X2_isListed : GoodIn wsX5_assign (wsV RX5 72 RX2 yX2_isListed wsX2_isListed) := goodIn_app (goodIn_of _ (by decide +kernel)) ggX5_assign_X2_isListed
set_option maxRecDepth 20000 in
theorem ggX5_assign_X3_othersAt : GoodIn wsX5_assign wsX3_othersAt := goodIn_r _ [36, 37, 66] (by decide +kernel) (by decide +kernel)
set_option maxRecDepth 20000 in
theorem gX5_assign_X3_othersAt : GoodIn wsX5_assign (wsV RX5 93 RX3 yX3_othersAt wsX3_othersAt) := goodIn_app (goodIn_of _ (by decide +kernel)) ggX5_assign_X3_othersAt
set_option maxRecDepth 20000 in
theorem ggX5_assign_X1_remember : GoodIn wsX5_assign wsX1_remember := goodIn_r _ [42, 43, 44, 45, 46, 47, 48, 41, 49, 50, 51, 52, 35, 53, 37, 67, 68, 69, 66] (by decide +kernel) (by decide +kernel)
set_option maxRecDepth 20000 in
theorem gX5_assign_X1_remember : GoodIn wsX5_assign (wsV RX5 99 RX1 yX1_remember wsX1_remember) := goodIn_app (goodIn_of _ (by decide +kernel)) ggX5_assign_X1_remember
theorem dX5_assign_0 : decode cX5_assign 0 = .ok (.aload_n 0, 1) := by decide +kernel
theorem dX5_assign_1 : decode cX5_assign 1 = .ok (.getfield 10, 3) := by decide +kernel
theorem dX5_assign_4 : decode cX5_assign 4 = .ok (.iload_n 1, 1) := by decide +kernel
theorem dX5_assign_5 : decode cX5_assign 5 = .ok (.invokevirtual 69, 3) := by decide +kernel
theorem dX5_assign_8 : decode cX5_assign 8 = .ok (.ifCond .eq 19, 3) := by decide +kernel
theorem dX5_assign_11 : decode cX5_assign 11 = .ok (.iload_n 2, 1) := by decide +kernel
theorem dX5_assign_12 : decode cX5_assign 12 = .ok (.iconst (-1), 1) := by decide +kernel
theorem dX5_assign_13 : decode cX5_assign 13 = .ok (.if_icmp .eq 17, 3) := by decide +kernel
theorem dX5_assign_16 : decode cX5_assign 16 = .ok (.aload_n 0, 1) := by decide +kernel
theorem dX5_assign_17 : decode cX5_assign 17 = .ok (.getfield 10, 3) := by decide +kernel
theorem dX5_assign_20 : decode cX5_assign 20 = .ok (.iload_n 2, 1) := by decide +kernel
theorem dX5_assign_21 : decode cX5_assign 21 = .ok (.invokevirtual 61, 3) := by decide +kernel
theorem dX5_assign_24 : decode cX5_assign 24 = .ok (.ifCond .ne 6, 3) := by decide +kernel
theorem dX5_assign_27 : decode cX5_assign 27 = .ok (.bipush (-101), 2) := by decide +kernel
theorem dX5_assign_29 : decode cX5_assign 29 = .ok (.ireturn, 1) := by decide +kernel
theorem dX5_assign_30 : decode cX5_assign 30 = .ok (.iload_n 2, 1) := by decide +kernel
theorem dX5_assign_31 : decode cX5_assign 31 = .ok (.iconst (-1), 1) := by decide +kernel
theorem dX5_assign_32 : decode cX5_assign 32 = .ok (.if_icmp .eq 18, 3) := by decide +kernel
theorem dX5_assign_35 : decode cX5_assign 35 = .ok (.aload_n 0, 1) := by decide +kernel
theorem dX5_assign_36 : decode cX5_assign 36 = .ok (.getfield 10, 3) := by decide +kernel
theorem dX5_assign_39 : decode cX5_assign 39 = .ok (.iload_n 1, 1) := by decide +kernel
theorem dX5_assign_40 : decode cX5_assign 40 = .ok (.iload_n 2, 1) := by decide +kernel
theorem dX5_assign_41 : decode cX5_assign 41 = .ok (.invokevirtual 72, 3) := by decide +kernel
theorem dX5_assign_44 : decode cX5_assign 44 = .ok (.ifCond .ne 6, 3) := by decide +kernel
theorem dX5_assign_47 : decode cX5_assign 47 = .ok (.bipush (-102), 2) := by decide +kernel
theorem dX5_assign_49 : decode cX5_assign 49 = .ok (.ireturn, 1) := by decide +kernel
theorem dX5_assign_50 : decode cX5_assign 50 = .ok (.iload_n 2, 1) := by decide +kernel
theorem dX5_assign_51 : decode cX5_assign 51 = .ok (.iconst (-1), 1) := by decide +kernel
theorem dX5_assign_52 : decode cX5_assign 52 = .ok (.if_icmp .eq 27, 3) := by decide +kernel
theorem dX5_assign_55 : decode cX5_assign 55 = .ok (.aload_n 0, 1) := by decide +kernel
theorem dX5_assign_56 : decode cX5_assign 56 = .ok (.getfield 19, 3) := by decide +kernel
theorem dX5_assign_59 : decode cX5_assign 59 = .ok (.iload_n 2, 1) := by decide +kernel
theorem dX5_assign_60 : decode cX5_assign 60 = .ok (.iload_n 1, 1) := by decide +kernel
theorem dX5_assign_61 : decode cX5_assign 61 = .ok (.invokevirtual 93, 3) := by decide +kernel
theorem dX5_assign_64 : decode cX5_assign 64 = .ok (.aload_n 0, 1) := by decide +kernel
theorem dX5_assign_65 : decode cX5_assign 65 = .ok (.getfield 10, 3) := by decide +kernel
theorem dX5_assign_68 : decode cX5_assign 68 = .ok (.getfield 65, 3) := by decide +kernel
theorem dX5_assign_71 : decode cX5_assign 71 = .ok (.iload_n 2, 1) := by decide +kernel
theorem dX5_assign_72 : decode cX5_assign 72 = .ok (.iaload, 1) := by decide +kernel
theorem dX5_assign_73 : decode cX5_assign 73 = .ok (.if_icmp .lt 6, 3) := by decide +kernel
theorem dX5_assign_76 : decode cX5_assign 76 = .ok (.bipush (-103), 2) := by decide +kernel
theorem dX5_assign_78 : decode cX5_assign 78 = .ok (.ireturn, 1) := by decide +kernel
theorem dX5_assign_79 : decode cX5_assign 79 = .ok (.aload_n 0, 1) := by decide +kernel
theorem dX5_assign_80 : decode cX5_assign 80 = .ok (.getfield 19, 3) := by decide +kernel
theorem dX5_assign_83 : decode cX5_assign 83 = .ok (.getfield 96, 3) := by decide +kernel
theorem dX5_assign_86 : decode cX5_assign 86 = .ok (.iload_n 1, 1) := by decide +kernel
theorem dX5_assign_87 : decode cX5_assign 87 = .ok (.iaload, 1) := by decide +kernel
theorem dX5_assign_88 : decode cX5_assign 88 = .ok (.istore_n 3, 1) := by decide +kernel
theorem dX5_assign_89 : decode cX5_assign 89 = .ok (.aload_n 0, 1) := by decide +kernel
theorem dX5_assign_90 : decode cX5_assign 90 = .ok (.getfield 32, 3) := by decide +kernel
theorem dX5_assign_93 : decode cX5_assign 93 = .ok (.aload_n 0, 1) := by decide +kernel
theorem dX5_assign_94 : decode cX5_assign 94 = .ok (.getfield 19, 3) := by decide +kernel
theorem dX5_assign_97 : decode cX5_assign 97 = .ok (.aload_n 0, 1) := by decide +kernel
theorem dX5_assign_98 : decode cX5_assign 98 = .ok (.getfield 23, 3) := by decide +kernel
theorem dX5_assign_101 : decode cX5_assign 101 = .ok (.invokevirtual 99, 3) := by decide +kernel
theorem dX5_assign_104 : decode cX5_assign 104 = .ok (.aload_n 0, 1) := by decide +kernel
theorem dX5_assign_105 : decode cX5_assign 105 = .ok (.getfield 19, 3) := by decide +kernel
theorem dX5_assign_108 : decode cX5_assign 108 = .ok (.getfield 96, 3) := by decide +kernel
theorem dX5_assign_111 : decode cX5_assign 111 = .ok (.iload_n 1, 1) := by decide +kernel
theorem dX5_assign_112 : decode cX5_assign 112 = .ok (.iload_n 2, 1) := by decide +kernel
theorem dX5_assign_113 : decode cX5_assign 113 = .ok (.iastore, 1) := by decide +kernel
theorem dX5_assign_114 : decode cX5_assign 114 = .ok (.iload_n 3, 1) := by decide +kernel
theorem dX5_assign_115 : decode cX5_assign 115 = .ok (.ireturn, 1) := by decide +kernel
set_option maxRecDepth 20000 in
theorem ggX5_postOf_X2_isApplicant : GoodIn wsX5_postOf wsX2_isApplicant := goodIn_r _ [8, 9, 18, 19, 20, 21, 22] (by decide +kernel) (by decide +kernel)
set_option maxRecDepth 20000 in
theorem gX5_postOf_X2_isApplicant : GoodIn wsX5_postOf (wsV RX5 69 RX2 yX2_isApplicant wsX2_isApplicant) := goodIn_app (goodIn_of _ (by decide +kernel)) ggX5_postOf_X2_isApplicant
theorem dX5_postOf_0 : decode cX5_postOf 0 = .ok (.aload_n 0, 1) := by decide +kernel
theorem dX5_postOf_1 : decode cX5_postOf 1 = .ok (.getfield 10, 3) := by decide +kernel
theorem dX5_postOf_4 : decode cX5_postOf 4 = .ok (.iload_n 1, 1) := by decide +kernel
theorem dX5_postOf_5 : decode cX5_postOf 5 = .ok (.invokevirtual 69, 3) := by decide +kernel
theorem dX5_postOf_8 : decode cX5_postOf 8 = .ok (.ifCond .ne 6, 3) := by decide +kernel
theorem dX5_postOf_11 : decode cX5_postOf 11 = .ok (.bipush (-101), 2) := by decide +kernel
theorem dX5_postOf_13 : decode cX5_postOf 13 = .ok (.ireturn, 1) := by decide +kernel
theorem dX5_postOf_14 : decode cX5_postOf 14 = .ok (.aload_n 0, 1) := by decide +kernel
theorem dX5_postOf_15 : decode cX5_postOf 15 = .ok (.getfield 19, 3) := by decide +kernel
theorem dX5_postOf_18 : decode cX5_postOf 18 = .ok (.getfield 96, 3) := by decide +kernel
theorem dX5_postOf_21 : decode cX5_postOf 21 = .ok (.iload_n 1, 1) := by decide +kernel
theorem dX5_postOf_22 : decode cX5_postOf 22 = .ok (.iaload, 1) := by decide +kernel
theorem dX5_postOf_23 : decode cX5_postOf 23 = .ok (.ireturn, 1) := by decide +kernel
set_option maxRecDepth 20000 in
theorem ggX5_size_X3_countPlaced : GoodIn wsX5_size wsX3_countPlaced := goodIn_r _ [6, 7, 15] (by decide +kernel) (by decide +kernel)
set_option maxRecDepth 20000 in
theorem gX5_size_X3_countPlaced : GoodIn wsX5_size (wsV RX5 103 RX3 yX3_countPlaced wsX3_countPlaced) := goodIn_app (goodIn_of _ (by decide +kernel)) ggX5_size_X3_countPlaced
theorem dX5_size_0 : decode cX5_size 0 = .ok (.aload_n 0, 1) := by decide +kernel
theorem dX5_size_1 : decode cX5_size 1 = .ok (.getfield 19, 3) := by decide +kernel
theorem dX5_size_4 : decode cX5_size 4 = .ok (.invokevirtual 103, 3) := by decide +kernel
theorem dX5_size_7 : decode cX5_size 7 = .ok (.ireturn, 1) := by decide +kernel
set_option maxRecDepth 20000 in
theorem ggX5_isParetoOptimal_X0_bestKey : GoodIn wsX5_isParetoOptimal wsX0_bestKey := goodIn_r _ [8, 9, 10, 11, 12, 13, 14, 15, 16, 17, 18, 19, 20, 21, 22, 23, 24, 25, 26, 27, 28, 29, 30, 31, 32, 33, 34, 7, 35, 36, 37, 38, 39, 40, 41, 42, 43, 44, 45, 46, 47, 48, 59, 60, 61, 62, 63, 64, 65, 66] (by decide +kernel) (by decide +kernel)
set_option maxRecDepth 20000 in
theorem gX5_isParetoOptimal_X0_bestKey : GoodIn wsX5_isParetoOptimal (wsV RX5 107 RX0 yX0_bestKey wsX0_bestKey) := goodIn_app (goodIn_of _ (by decide +kernel)) ggX5_isParetoOptimal_X0_bestKey
set_option maxRecDepth 20000 in
theorem ggX5_isParetoOptimal_X0_marginIn : GoodIn wsX5_isParetoOptimal wsX0_marginIn := goodIn_r _ [51] (by decide +kernel) (by decide +kernel)
set_option maxRecDepth 20000 in
theorem gX5_isParetoOptimal_X0_marginIn : GoodIn wsX5_isParetoOptimal (va_wsS RX5 111 yX0_marginIn wsX0_marginIn) := goodIn_app (goodIn_of _ (by decide +kernel)) ggX5_isParetoOptimal_X0_marginIn
theorem dX5_isParetoOptimal_0 : decode cX5_isParetoOptimal 0 = .ok (.aload_n 0, 1) := by decide +kernel
theorem dX5_isParetoOptimal_1 : decode cX5_isParetoOptimal 1 = .ok (.getfield 39, 3) := by decide +kernel
theorem dX5_isParetoOptimal_4 : decode cX5_isParetoOptimal 4 = .ok (.aload_n 0, 1) := by decide +kernel
theorem dX5_isParetoOptimal_5 : decode cX5_isParetoOptimal 5 = .ok (.getfield 10, 3) := by decide +kernel
theorem dX5_isParetoOptimal_8 : decode cX5_isParetoOptimal 8 = .ok (.aload_n 0, 1) := by decide +kernel
theorem dX5_isParetoOptimal_9 : decode cX5_isParetoOptimal 9 = .ok (.getfield 19, 3) := by decide +kernel
theorem dX5_isParetoOptimal_12 : decode cX5_isParetoOptimal 12 = .ok (.iconst 0, 1) := by decide +kernel
theorem dX5_isParetoOptimal_13 : decode cX5_isParetoOptimal 13 = .ok (.invokevirtual 107, 3) := by decide +kernel
theorem dX5_isParetoOptimal_16 : decode cX5_isParetoOptimal 16 = .ok (.istore_n 1, 1) := by decide +kernel
theorem dX5_isParetoOptimal_17 : decode cX5_isParetoOptimal 17 = .ok (.iload_n 1, 1) := by decide +kernel
theorem dX5_isParetoOptimal_18 : decode cX5_isParetoOptimal 18 = .ok (.invokestatic 111, 3) := by decide +kernel
theorem dX5_isParetoOptimal_21 : decode cX5_isParetoOptimal 21 = .ok (.ifCond .ne 7, 3) := by decide +kernel
theorem dX5_isParetoOptimal_24 : decode cX5_isParetoOptimal 24 = .ok (.iconst 1, 1) := by decide +kernel
theorem dX5_isParetoOptimal_25 : decode cX5_isParetoOptimal 25 = .ok (.goto 4, 3) := by decide +kernel
theorem dX5_isParetoOptimal_28 : decode cX5_isParetoOptimal 28 = .ok (.iconst 0, 1) := by decide +kernel
theorem dX5_isParetoOptimal_29 : decode cX5_isParetoOptimal 29 = .ok (.ireturn, 1) := by decide +kernel
set_option maxRecDepth 20000 in
theorem ggX5_save_X3_copyFrom : GoodIn wsX5_save wsX3_copyFrom := goodIn_r _ [7, 8, 20] (by decide +kernel) (by decide +kernel)
set_option maxRecDepth 20000 in
theorem gX5_save_X3_copyFrom : GoodIn wsX5_save (wsV RX5 114 RX3 yX3_copyFrom wsX3_copyFrom) := goodIn_app (goodIn_of _ (by decide +kernel)) ggX5_save_X3_copyFrom
set_option maxRecDepth 20000 in
theorem ggX5_save_X3_countPlaced : GoodIn wsX5_save wsX3_countPlaced := goodIn_r _ [12, 8, 20] (by decide +kernel) (by decide +kernel)
set_option maxRecDepth 20000 in
theorem gX5_save_X3_countPlaced : GoodIn wsX5_save (wsV RX5 103 RX3 yX3_countPlaced wsX3_countPlaced) := goodIn_app (goodIn_of _ (by decide +kernel)) ggX5_save_X3_countPlaced
theorem dX5_save_0 : decode cX5_save 0 = .ok (.aload_n 0, 1) := by decide +kernel
theorem dX5_save_1 : decode cX5_save 1 = .ok (.getfield 23, 3) := by decide +kernel
theorem dX5_save_4 : decode cX5_save 4 = .ok (.aload_n 0, 1) := by decide +kernel
theorem dX5_save_5 : decode cX5_save 5 = .ok (.getfield 19, 3) := by decide +kernel
theorem dX5_save_8 : decode cX5_save 8 = .ok (.invokevirtual 114, 3) := by decide +kernel
theorem dX5_save_11 : decode cX5_save 11 = .ok (.aload_n 0, 1) := by decide +kernel
theorem dX5_save_12 : decode cX5_save 12 = .ok (.getfield 23, 3) := by decide +kernel
theorem dX5_save_15 : decode cX5_save 15 = .ok (.invokevirtual 103, 3) := by decide +kernel
theorem dX5_save_18 : decode cX5_save 18 = .ok (.ireturn, 1) := by decide +kernel
set_option maxRecDepth 20000 in
theorem ggX5_swapSaved_X3_copyFrom : GoodIn wsX5_swapSaved wsX3_copyFrom := goodIn_r _ [9, 10, 35] (by decide +kernel) (by decide +kernel)
set_option maxRecDepth 20000 in
theorem gX5_swapSaved_X3_copyFrom : GoodIn wsX5_swapSaved (wsV RX5 114 RX3 yX3_copyFrom wsX3_copyFrom) := goodIn_app (goodIn_of _ (by decide +kernel)) ggX5_swapSaved_X3_copyFrom
set_option maxRecDepth 20000 in
theorem ggX5_swapSaved_X1_remember : GoodIn wsX5_swapSaved wsX1_remember := goodIn_r _ [15, 16, 17, 18, 19, 20, 21, 14, 22, 23, 6, 7, 8, 9, 10, 36, 37, 38, 35] (by decide +kernel) (by decide +kernel)
set_option maxRecDepth 20000 in
theorem gX5_swapSaved_X1_remember : GoodIn wsX5_swapSaved (wsV RX5 99 RX1 yX1_remember wsX1_remember) := goodIn_app (goodIn_of _ (by decide +kernel)) ggX5_swapSaved_X1_remember
set_option maxRecDepth 20000 in
theorem ggX5_swapSaved_X3_countPlaced : GoodIn wsX5_swapSaved wsX3_countPlaced := goodIn_r _ [27, 10, 35] (by decide +kernel) (by decide +kernel)
set_option maxRecDepth 20000 in
theorem gX5_swapSaved_X3_countPlaced : GoodIn wsX5_swapSaved (wsV RX5 103 RX3 yX3_countPlaced wsX3_countPlaced) := goodIn_app (goodIn_of _ (by decide +kernel)) ggX5_swapSaved_X3_countPlaced
theorem dX5_swapSaved_0 : decode cX5_swapSaved 0 = .ok (.aload_n 0, 1) := by decide +kernel
theorem dX5_swapSaved_1 : decode cX5_swapSaved 1 = .ok (.getfield 26, 3) := by decide +kernel
theorem dX5_swapSaved_4 : decode cX5_swapSaved 4 = .ok (.aload_n 0, 1) := by decide +kernel
theorem dX5_swapSaved_5 : decode cX5_swapSaved 5 = .ok (.getfield 23, 3) := by decide +kernel
theorem dX5_swapSaved_8 : decode cX5_swapSaved 8 = .ok (.invokevirtual 114, 3) := by decide +kernel
theorem dX5_swapSaved_11 : decode cX5_swapSaved 11 = .ok (.aload_n 0, 1) := by decide +kernel
theorem dX5_swapSaved_12 : decode cX5_swapSaved 12 = .ok (.getfield 32, 3) := by decide +kernel
theorem dX5_swapSaved_15 : decode cX5_swapSaved 15 = .ok (.aload_n 0, 1) := by decide +kernel
theorem dX5_swapSaved_16 : decode cX5_swapSaved 16 = .ok (.getfield 19, 3) := by decide +kernel
theorem dX5_swapSaved_19 : decode cX5_swapSaved 19 = .ok (.aload_n 0, 1) := by decide +kernel
theorem dX5_swapSaved_20 : decode cX5_swapSaved 20 = .ok (.getfield 23, 3) := by decide +kernel
theorem dX5_swapSaved_23 : decode cX5_swapSaved 23 = .ok (.invokevirtual 99, 3) := by decide +kernel
theorem dX5_swapSaved_26 : decode cX5_swapSaved 26 = .ok (.aload_n 0, 1) := by decide +kernel
theorem dX5_swapSaved_27 : decode cX5_swapSaved 27 = .ok (.getfield 23, 3) := by decide +kernel
theorem dX5_swapSaved_30 : decode cX5_swapSaved 30 = .ok (.aload_n 0, 1) := by decide +kernel
theorem dX5_swapSaved_31 : decode cX5_swapSaved 31 = .ok (.getfield 19, 3) := by decide +kernel
theorem dX5_swapSaved_34 : decode cX5_swapSaved 34 = .ok (.invokevirtual 114, 3) := by decide +kernel
theorem dX5_swapSaved_37 : decode cX5_swapSaved 37 = .ok (.aload_n 0, 1) := by decide +kernel
theorem dX5_swapSaved_38 : decode cX5_swapSaved 38 = .ok (.getfield 19, 3) := by decide +kernel
theorem dX5_swapSaved_41 : decode cX5_swapSaved 41 = .ok (.aload_n 0, 1) := by decide +kernel
theorem dX5_swapSaved_42 : decode cX5_swapSaved 42 = .ok (.getfield 26, 3) := by decide +kernel
theorem dX5_swapSaved_45 : decode cX5_swapSaved 45 = .ok (.invokevirtual 114, 3) := by decide +kernel
theorem dX5_swapSaved_48 : decode cX5_swapSaved 48 = .ok (.aload_n 0, 1) := by decide +kernel
theorem dX5_swapSaved_49 : decode cX5_swapSaved 49 = .ok (.getfield 19, 3) := by decide +kernel
theorem dX5_swapSaved_52 : decode cX5_swapSaved 52 = .ok (.invokevirtual 103, 3) := by decide +kernel
theorem dX5_swapSaved_55 : decode cX5_swapSaved 55 = .ok (.ireturn, 1) := by decide +kernel
set_option maxRecDepth 20000 in
theorem ggX5_marginOverSaved_X2_rankOf : GoodIn wsX5_marginOverSaved wsX2_rankOf := goodIn_r _ [10, 11, 12, 13, 14, 9, 15, 16, 27, 28, 29, 30, 31] (by decide +kernel) (by decide +kernel)
set_option maxRecDepth 20000 in
theorem gX5_marginOverSaved_X2_rankOf : GoodIn wsX5_marginOverSaved (wsV RX5 118 RX2 yX2_rankOf wsX2_rankOf) := goodIn_app (goodIn_of _ (by decide +kernel)) ggX5_marginOverSaved_X2_rankOf
set_option maxRecDepth 20000 in
theorem ggX5_marginOverSaved_X2_vote : GoodIn wsX5_marginOverSaved wsX2_vote := goodIn_r _ [19] (by decide +kernel) (by decide +kernel)
set_option maxRecDepth 20000 in
theorem gX5_marginOverSaved_X2_vote : GoodIn wsX5_marginOverSaved (va_wsS RX5 121 yX2_vote wsX2_vote) := goodIn_app (goodIn_of _ (by decide +kernel)) ggX5_marginOverSaved_X2_vote
theorem dX5_marginOverSaved_0 : decode cX5_marginOverSaved 0 = .ok (.iconst 0, 1) := by decide +kernel
theorem dX5_marginOverSaved_1 : decode cX5_marginOverSaved 1 = .ok (.istore_n 1, 1) := by decide +kernel
theorem dX5_marginOverSaved_2 : decode cX5_marginOverSaved 2 = .ok (.iconst 0, 1) := by decide +kernel
theorem dX5_marginOverSaved_3 : decode cX5_marginOverSaved 3 = .ok (.istore_n 2, 1) := by decide +kernel
theorem dX5_marginOverSaved_4 : decode cX5_marginOverSaved 4 = .ok (.iload_n 2, 1) := by decide +kernel
theorem dX5_marginOverSaved_5 : decode cX5_marginOverSaved 5 = .ok (.aload_n 0, 1) := by decide +kernel
theorem dX5_marginOverSaved_6 : decode cX5_marginOverSaved 6 = .ok (.getfield 10, 3) := by decide +kernel
theorem dX5_marginOverSaved_9 : decode cX5_marginOverSaved 9 = .ok (.getfield 50, 3) := by decide +kernel
theorem dX5_marginOverSaved_12 : decode cX5_marginOverSaved 12 = .ok (.if_icmp .ge 55, 3) := by decide +kernel
theorem dX5_marginOverSaved_15 : decode cX5_marginOverSaved 15 = .ok (.aload_n 0, 1) := by decide +kernel
theorem dX5_marginOverSaved_16 : decode cX5_marginOverSaved 16 = .ok (.getfield 10, 3) := by decide +kernel
theorem dX5_marginOverSaved_19 : decode cX5_marginOverSaved 19 = .ok (.iload_n 2, 1) := by decide +kernel
theorem dX5_marginOverSaved_20 : decode cX5_marginOverSaved 20 = .ok (.aload_n 0, 1) := by decide +kernel
theorem dX5_marginOverSaved_21 : decode cX5_marginOverSaved 21 = .ok (.getfield 19, 3) := by decide +kernel
theorem dX5_marginOverSaved_24 : decode cX5_marginOverSaved 24 = .ok (.getfield 96, 3) := by decide +kernel
theorem dX5_marginOverSaved_27 : decode cX5_marginOverSaved 27 = .ok (.iload_n 2, 1) := by decide +kernel
theorem dX5_marginOverSaved_28 : decode cX5_marginOverSaved 28 = .ok (.iaload, 1) := by decide +kernel
theorem dX5_marginOverSaved_29 : decode cX5_marginOverSaved 29 = .ok (.invokevirtual 118, 3) := by decide +kernel
theorem dX5_marginOverSaved_32 : decode cX5_marginOverSaved 32 = .ok (.istore_n 3, 1) := by decide +kernel
theorem dX5_marginOverSaved_33 : decode cX5_marginOverSaved 33 = .ok (.aload_n 0, 1) := by decide +kernel
theorem dX5_marginOverSaved_34 : decode cX5_marginOverSaved 34 = .ok (.getfield 10, 3) := by decide +kernel
theorem dX5_marginOverSaved_37 : decode cX5_marginOverSaved 37 = .ok (.iload_n 2, 1) := by decide +kernel
theorem dX5_marginOverSaved_38 : decode cX5_marginOverSaved 38 = .ok (.aload_n 0, 1) := by decide +kernel
theorem dX5_marginOverSaved_39 : decode cX5_marginOverSaved 39 = .ok (.getfield 23, 3) := by decide +kernel
theorem dX5_marginOverSaved_42 : decode cX5_marginOverSaved 42 = .ok (.getfield 96, 3) := by decide +kernel
theorem dX5_marginOverSaved_45 : decode cX5_marginOverSaved 45 = .ok (.iload_n 2, 1) := by decide +kernel
theorem dX5_marginOverSaved_46 : decode cX5_marginOverSaved 46 = .ok (.iaload, 1) := by decide +kernel
theorem dX5_marginOverSaved_47 : decode cX5_marginOverSaved 47 = .ok (.invokevirtual 118, 3) := by decide +kernel
theorem dX5_marginOverSaved_50 : decode cX5_marginOverSaved 50 = .ok (.istore 4, 2) := by decide +kernel
theorem dX5_marginOverSaved_52 : decode cX5_marginOverSaved 52 = .ok (.iload_n 1, 1) := by decide +kernel
theorem dX5_marginOverSaved_53 : decode cX5_marginOverSaved 53 = .ok (.iload_n 3, 1) := by decide +kernel
theorem dX5_marginOverSaved_54 : decode cX5_marginOverSaved 54 = .ok (.iload 4, 2) := by decide +kernel
theorem dX5_marginOverSaved_56 : decode cX5_marginOverSaved 56 = .ok (.invokestatic 121, 3) := by decide +kernel
theorem dX5_marginOverSaved_59 : decode cX5_marginOverSaved 59 = .ok (.iadd, 1) := by decide +kernel
theorem dX5_marginOverSaved_60 : decode cX5_marginOverSaved 60 = .ok (.istore_n 1, 1) := by decide +kernel
theorem dX5_marginOverSaved_61 : decode cX5_marginOverSaved 61 = .ok (.iinc 2 1, 3) := by decide +kernel
theorem dX5_marginOverSaved_64 : decode cX5_marginOverSaved 64 = .ok (.goto (-60), 3) := by decide +kernel
theorem dX5_marginOverSaved_67 : decode cX5_marginOverSaved 67 = .ok (.iload_n 1, 1) := by decide +kernel
theorem dX5_marginOverSaved_68 : decode cX5_marginOverSaved 68 = .ok (.ireturn, 1) := by decide +kernel
set_option maxRecDepth 20000 in
theorem ggX5_unpopularityMargin_X0_bestKey : GoodIn wsX5_unpopularityMargin wsX0_bestKey := goodIn_r _ [8, 9, 10, 11, 12, 13, 14, 15, 16, 17, 18, 19, 20, 21, 22, 23, 24, 25, 26, 27, 28, 29, 30, 31, 32, 33, 34, 7, 35, 36, 37, 38, 39, 40, 41, 42, 43, 44, 45, 46, 47, 48, 59, 60, 61, 62, 63, 64, 65, 66] (by decide +kernel) (by decide +kernel)
set_option maxRecDepth 20000 in
theorem gX5_unpopularityMargin_X0_bestKey : GoodIn wsX5_unpopularityMargin (wsV RX5 107 RX0 yX0_bestKey wsX0_bestKey) := goodIn_app (goodIn_of _ (by decide +kernel)) ggX5_unpopularityMargin_X0_bestKey
set_option maxRecDepth 20000 in
theorem ggX5_unpopularityMargin_X0_marginIn : GoodIn wsX5_unpopularityMargin wsX0_marginIn := goodIn_r _ [51] (by decide +kernel) (by decide +kernel)
set_option maxRecDepth 20000 in
theorem gX5_unpopularityMargin_X0_marginIn : GoodIn wsX5_unpopularityMargin (va_wsS RX5 111 yX0_marginIn wsX0_marginIn) := goodIn_app (goodIn_of _ (by decide +kernel)) ggX5_unpopularityMargin_X0_marginIn
theorem dX5_unpopularityMargin_0 : decode cX5_unpopularityMargin 0 = .ok (.aload_n 0, 1) := by decide +kernel
theorem dX5_unpopularityMargin_1 : decode cX5_unpopularityMargin 1 = .ok (.getfield 39, 3) := by decide +kernel
theorem dX5_unpopularityMargin_4 : decode cX5_unpopularityMargin 4 = .ok (.aload_n 0, 1) := by decide +kernel
theorem dX5_unpopularityMargin_5 : decode cX5_unpopularityMargin 5 = .ok (.getfield 10, 3) := by decide +kernel
theorem dX5_unpopularityMargin_8 : decode cX5_unpopularityMargin 8 = .ok (.aload_n 0, 1) := by decide +kernel
theorem dX5_unpopularityMargin_9 : decode cX5_unpopularityMargin 9 = .ok (.getfield 19, 3) := by decide +kernel
theorem dX5_unpopularityMargin_12 : decode cX5_unpopularityMargin 12 = .ok (.iconst 1, 1) := by decide +kernel
theorem dX5_unpopularityMargin_13 : decode cX5_unpopularityMargin 13 = .ok (.invokevirtual 107, 3) := by decide +kernel
theorem dX5_unpopularityMargin_16 : decode cX5_unpopularityMargin 16 = .ok (.invokestatic 111, 3) := by decide +kernel
theorem dX5_unpopularityMargin_19 : decode cX5_unpopularityMargin 19 = .ok (.ireturn, 1) := by decide +kernel
set_option maxRecDepth 20000 in
theorem ggX5_challengerPost_X2_isApplicant : GoodIn wsX5_challengerPost wsX2_isApplicant := goodIn_r _ [8, 9, 64, 65, 66, 67, 68] (by decide +kernel) (by decide +kernel)
set_option maxRecDepth 20000 in
theorem gX5_challengerPost_X2_isApplicant : GoodIn wsX5_challengerPost (wsV RX5 69 RX2 yX2_isApplicant wsX2_isApplicant) := goodIn_app (goodIn_of _ (by decide +kernel)) ggX5_challengerPost_X2_isApplicant
set_option maxRecDepth 20000 in
theorem ggX5_challengerPost_X0_bestKey : GoodIn wsX5_challengerPost wsX0_bestKey := goodIn_r _ [14, 15, 16, 17, 18, 19, 20, 21, 22, 23, 24, 25, 26, 27, 28, 29, 7, 30, 31, 32, 33, 34, 35, 36, 37, 38, 39, 13, 40, 41, 42, 43, 44, 45, 46, 47, 48, 49, 50, 51, 52, 53, 64, 65, 66, 67, 68, 69, 70, 71] (by decide +kernel) (by decide +kernel)
set_option maxRecDepth 20000 in
theorem gX5_challengerPost_X0_bestKey : GoodIn wsX5_challengerPost (wsV RX5 107 RX0 yX0_bestKey wsX0_bestKey) := goodIn_app (goodIn_of _ (by decide +kernel)) ggX5_challengerPost_X0_bestKey
set_option maxRecDepth 20000 in
theorem ggX5_challengerPost_X0_postIn : GoodIn wsX5_challengerPost wsX0_postIn := goodIn_r _ [56, 19, 46, 47, 13, 48] (by decide +kernel) (by decide +kernel)
set_option maxRecDepth 20000 in
theorem gX5_challengerPost_X0_postIn : GoodIn wsX5_challengerPost (va_wsS RX5 124 yX0_postIn wsX0_postIn) := goodIn_app (goodIn_of _ (by decide +kernel)) ggX5_challengerPost_X0_postIn
theorem dX5_challengerPost_0 : decode cX5_challengerPost 0 = .ok (.aload_n 0, 1) := by decide +kernel
theorem dX5_challengerPost_1 : decode cX5_challengerPost 1 = .ok (.getfield 10, 3) := by decide +kernel
theorem dX5_challengerPost_4 : decode cX5_challengerPost 4 = .ok (.iload_n 1, 1) := by decide +kernel
theorem dX5_challengerPost_5 : decode cX5_challengerPost 5 = .ok (.invokevirtual 69, 3) := by decide +kernel
theorem dX5_challengerPost_8 : decode cX5_challengerPost 8 = .ok (.ifCond .ne 6, 3) := by decide +kernel
theorem dX5_challengerPost_11 : decode cX5_challengerPost 11 = .ok (.bipush (-101), 2) := by decide +kernel
theorem dX5_challengerPost_13 : decode cX5_challengerPost 13 = .ok (.ireturn, 1) := by decide +kernel
theorem dX5_challengerPost_14 : decode cX5_challengerPost 14 = .ok (.aload_n 0, 1) := by decide +kernel
theorem dX5_challengerPost_15 : decode cX5_challengerPost 15 = .ok (.getfield 39, 3) := by decide +kernel
theorem dX5_challengerPost_18 : decode cX5_challengerPost 18 = .ok (.aload_n 0, 1) := by decide +kernel
theorem dX5_challengerPost_19 : decode cX5_challengerPost 19 = .ok (.getfield 10, 3) := by decide +kernel
theorem dX5_challengerPost_22 : decode cX5_challengerPost 22 = .ok (.aload_n 0, 1) := by decide +kernel
theorem dX5_challengerPost_23 : decode cX5_challengerPost 23 = .ok (.getfield 19, 3) := by decide +kernel
theorem dX5_challengerPost_26 : decode cX5_challengerPost 26 = .ok (.iconst 1, 1) := by decide +kernel
theorem dX5_challengerPost_27 : decode cX5_challengerPost 27 = .ok (.invokevirtual 107, 3) := by decide +kernel
theorem dX5_challengerPost_30 : decode cX5_challengerPost 30 = .ok (.iload_n 1, 1) := by decide +kernel
theorem dX5_challengerPost_31 : decode cX5_challengerPost 31 = .ok (.invokestatic 124, 3) := by decide +kernel
theorem dX5_challengerPost_34 : decode cX5_challengerPost 34 = .ok (.ireturn, 1) := by decide +kernel
set_option maxRecDepth 20000 in
theorem ggX5_adoptChallenger_X0_bestKey : GoodIn wsX5_adoptChallenger wsX0_bestKey := goodIn_r _ [11, 12, 13, 14, 15, 16, 17, 18, 19, 20, 21, 22, 23, 24, 25, 26, 27, 28, 29, 30, 31, 32, 33, 34, 35, 36, 37, 10, 38, 39, 40, 41, 42, 43, 44, 45, 46, 47, 48, 49, 50, 51, 99, 100, 101, 102, 103, 105, 106, 104] (by decide +kernel) (by decide +kernel)
set_option maxRecDepth 20000 in
theorem gX5_adoptChallenger_X0_bestKey : GoodIn wsX5_adoptChallenger (wsV RX5 107 RX0 yX0_bestKey wsX0_bestKey) := goodIn_app (goodIn_of _ (by decide +kernel)) ggX5_adoptChallenger_X0_bestKey
set_option maxRecDepth 20000 in
theorem ggX5_adoptChallenger_X3_clear : GoodIn wsX5_adoptChallenger wsX3_clear := goodIn_r _ [56, 57, 104] (by decide +kernel) (by decide +kernel)
set_option maxRecDepth 20000 in
theorem gX5_adoptChallenger_X3_clear : GoodIn wsX5_adoptChallenger (wsV RX5 127 RX3 yX3_clear wsX3_clear) := goodIn_app (goodIn_of _ (by decide +kernel)) ggX5_adoptChallenger_X3_clear
set_option maxRecDepth 20000 in
theorem ggX5_adoptChallenger_X0_postIn : GoodIn wsX5_adoptChallenger wsX0_postIn := goodIn_r _ [60, 16, 44, 45, 10, 46] (by decide +kernel) (by decide +kernel)
set_option maxRecDepth 20000 in
theorem gX5_adoptChallenger_X0_postIn : GoodIn wsX5_adoptChallenger (va_wsS RX5 124 yX0_postIn wsX0_postIn) := goodIn_app (goodIn_of _ (by decide +kernel)) ggX5_adoptChallenger_X0_postIn
set_option maxRecDepth 20000 in
theorem ggX5_adoptChallenger_X5_adoptDraft : GoodIn wsX5_adoptChallenger wsX5_adoptDraft := goodIn_r _ [65, 66, 3, 67, 4, 68, 69, 70, 71, 72, 73, 74, 75, 76, 77, 78, 79, 80, 81, 82, 55, 83, 57, 84, 85, 86, 87, 88, 92, 93, 94, 95, 96, 97, 98, 107, 108, 109, 104] (by decide +kernel) (by decide +kernel)
set_option maxRecDepth 20000 in
theorem gX5_adoptChallenger_X5_adoptDraft : GoodIn wsX5_adoptChallenger (wsV RX5 130 RX5 yX5_adoptDraft wsX5_adoptDraft) := goodIn_app (goodIn_of _ (by decide +kernel)) ggX5_adoptChallenger_X5_adoptDraft
set_option maxRecDepth 20000 in
theorem ggX5_adoptChallenger_X0_marginIn : GoodIn wsX5_adoptChallenger wsX0_marginIn := goodIn_r _ [91] (by decide +kernel) (by decide +kernel)
set_option maxRecDepth 20000 in
theorem gX5_adoptChallenger_X0_marginIn : GoodIn wsX5_adoptChallenger (va_wsS RX5 111 yX0_marginIn wsX0_marginIn) := goodIn_app (goodIn_of _ (by decide +kernel)) ggX5_adoptChallenger_X0_marginIn
theorem dX5_adoptChallenger_0 : decode cX5_adoptChallenger 0 = .ok (.aload_n 0, 1) := by decide +kernel
theorem dX5_adoptChallenger_1 : decode cX5_adoptChallenger 1 = .ok (.getfield 39, 3) := by decide +kernel
theorem dX5_adoptChallenger_4 : decode cX5_adoptChallenger 4 = .ok (.aload_n 0, 1) := by decide +kernel
theorem dX5_adoptChallenger_5 : decode cX5_adoptChallenger 5 = .ok (.getfield 10, 3) := by decide +kernel
theorem dX5_adoptChallenger_8 : decode cX5_adoptChallenger 8 = .ok (.aload_n 0, 1) := by decide +kernel
theorem dX5_adoptChallenger_9 : decode cX5_adoptChallenger 9 = .ok (.getfield 19, 3) := by decide +kernel
theorem dX5_adoptChallenger_12 : decode cX5_adoptChallenger 12 = .ok (.iconst 1, 1) := by decide +kernel
theorem dX5_adoptChallenger_13 : decode cX5_adoptChallenger 13 = .ok (.invokevirtual 107, 3) := by decide +kernel
theorem dX5_adoptChallenger_16 : decode cX5_adoptChallenger 16 = .ok (.istore_n 1, 1) := by decide +kernel
theorem dX5_adoptChallenger_17 : decode cX5_adoptChallenger 17 = .ok (.aload_n 0, 1) := by decide +kernel
theorem dX5_adoptChallenger_18 : decode cX5_adoptChallenger 18 = .ok (.getfield 26, 3) := by decide +kernel
theorem dX5_adoptChallenger_21 : decode cX5_adoptChallenger 21 = .ok (.invokevirtual 127, 3) := by decide +kernel
theorem dX5_adoptChallenger_24 : decode cX5_adoptChallenger 24 = .ok (.iconst 0, 1) := by decide +kernel
theorem dX5_adoptChallenger_25 : decode cX5_adoptChallenger 25 = .ok (.istore_n 2, 1) := by decide +kernel
theorem dX5_adoptChallenger_26 : decode cX5_adoptChallenger 26 = .ok (.iload_n 2, 1) := by decide +kernel
theorem dX5_adoptChallenger_27 : decode cX5_adoptChallenger 27 = .ok (.aload_n 0, 1) := by decide +kernel
theorem dX5_adoptChallenger_28 : decode cX5_adoptChallenger 28 = .ok (.getfield 10, 3) := by decide +kernel
theorem dX5_adoptChallenger_31 : decode cX5_adoptChallenger 31 = .ok (.getfield 50, 3) := by decide +kernel
theorem dX5_adoptChallenger_34 : decode cX5_adoptChallenger 34 = .ok (.if_icmp .ge 23, 3) := by decide +kernel
theorem dX5_adoptChallenger_37 : decode cX5_adoptChallenger 37 = .ok (.aload_n 0, 1) := by decide +kernel
theorem dX5_adoptChallenger_38 : decode cX5_adoptChallenger 38 = .ok (.getfield 26, 3) := by decide +kernel
theorem dX5_adoptChallenger_41 : decode cX5_adoptChallenger 41 = .ok (.getfield 96, 3) := by decide +kernel
theorem dX5_adoptChallenger_44 : decode cX5_adoptChallenger 44 = .ok (.iload_n 2, 1) := by decide +kernel
theorem dX5_adoptChallenger_45 : decode cX5_adoptChallenger 45 = .ok (.iload_n 1, 1) := by decide +kernel
theorem dX5_adoptChallenger_46 : decode cX5_adoptChallenger 46 = .ok (.iload_n 2, 1) := by decide +kernel
theorem dX5_adoptChallenger_47 : decode cX5_adoptChallenger 47 = .ok (.invokestatic 124, 3) := by decide +kernel
theorem dX5_adoptChallenger_50 : decode cX5_adoptChallenger 50 = .ok (.iastore, 1) := by decide +kernel
theorem dX5_adoptChallenger_51 : decode cX5_adoptChallenger 51 = .ok (.iinc 2 1, 3) := by decide +kernel
theorem dX5_adoptChallenger_54 : decode cX5_adoptChallenger 54 = .ok (.goto (-28), 3) := by decide +kernel
theorem dX5_adoptChallenger_57 : decode cX5_adoptChallenger 57 = .ok (.aload_n 0, 1) := by decide +kernel
theorem dX5_adoptChallenger_58 : decode cX5_adoptChallenger 58 = .ok (.invokevirtual 130, 3) := by decide +kernel
theorem dX5_adoptChallenger_61 : decode cX5_adoptChallenger 61 = .ok (.pop, 1) := by decide +kernel
theorem dX5_adoptChallenger_62 : decode cX5_adoptChallenger 62 = .ok (.iload_n 1, 1) := by decide +kernel
theorem dX5_adoptChallenger_63 : decode cX5_adoptChallenger 63 = .ok (.invokestatic 111, 3) := by decide +kernel
theorem dX5_adoptChallenger_66 : decode cX5_adoptChallenger 66 = .ok (.ireturn, 1) := by decide +kernel
set_option maxRecDepth 20000 in
theorem ggX5_popularCount_X4_collect : GoodIn wsX5_popularCount wsX4_collect := goodIn_r _ [7, 8, 9, 10, 11, 12, 6, 13, 14, 15, 16, 17, 18, 19, 20, 21, 22, 23, 24, 25, 26, 27, 28, 29, 30, 31, 32, 33, 34, 35, 36, 37, 38, 39, 40, 41, 42, 43, 44, 45, 46, 47, 48, 49, 50, 51, 52, 53, 54, 55, 56, 57, 58, 59, 60, 61, 62, 63, 71, 72, 73, 74, 75, 76, 77, 78, 79, 80, 81, 82] (by decide +kernel) (by decide +kernel)
set_option maxRecDepth 20000 in
theorem gX5_popularCount_X4_collect : GoodIn wsX5_popularCount (wsV RX5 133 RX4 yX4_collect wsX4_collect) := goodIn_app (goodIn_of _ (by decide +kernel)) ggX5_popularCount_X4_collect
theorem dX5_popularCount_0 : decode cX5_popularCount 0 = .ok (.aload_n 0, 1) := by decide +kernel
theorem dX5_popularCount_1 : decode cX5_popularCount 1 = .ok (.getfield 46, 3) := by decide +kernel
theorem dX5_popularCount_4 : decode cX5_popularCount 4 = .ok (.aload_n 0, 1) := by decide +kernel
theorem dX5_popularCount_5 : decode cX5_popularCount 5 = .ok (.getfield 10, 3) := by decide +kernel
theorem dX5_popularCount_8 : decode cX5_popularCount 8 = .ok (.invokevirtual 133, 3) := by decide +kernel
theorem dX5_popularCount_11 : decode cX5_popularCount 11 = .ok (.ireturn, 1) := by decide +kernel
set_option maxRecDepth 20000 in
theorem ggX5_greatestPopularSize_X4_collect : GoodIn wsX5_greatestPopularSize wsX4_collect := goodIn_r _ [12, 13, 14, 15, 16, 17, 11, 18, 19, 20, 21, 22, 23, 24, 25, 26, 6, 27, 28, 29, 30, 31, 32, 33, 34, 35, 36, 37, 38, 39, 40, 41, 42, 43, 44, 45, 46, 47, 48, 49, 50, 51, 52, 53, 54, 55, 56, 57, 58, 59, 60, 61, 62, 63, 64, 65, 66, 67, 90, 91, 92, 93, 94, 95, 96, 97, 98, 99, 100, 101] (by decide +kernel) (by decide +kernel)
set_option maxRecDepth 20000 in
theorem gX5_greatestPopularSize_X4_collect : GoodIn wsX5_greatestPopularSize (wsV RX5 133 RX4 yX4_collect wsX4_collect) := goodIn_app (goodIn_of _ (by decide +kernel)) ggX5_greatestPopularSize_X4_collect
set_option maxRecDepth 20000 in
theorem ggX5_greatestPopularSize_X4_write : GoodIn wsX5_greatestPopularSize wsX4_write := goodIn_r _ [71, 13, 72, 14, 73, 74, 75, 76, 77, 78, 60, 61, 62, 11, 63, 21, 20, 57, 58, 59, 90, 91, 92, 93, 94, 102, 95, 96, 97, 98, 99, 100, 101] (by decide +kernel) (by decide +kernel)
set_option maxRecDepth 20000 in
theorem gX5_greatestPopularSize_X4_write : GoodIn wsX5_greatestPopularSize (wsV RX5 137 RX4 yX4_write wsX4_write) := goodIn_app (goodIn_of _ (by decide +kernel)) ggX5_greatestPopularSize_X4_write
set_option maxRecDepth 20000 in
theorem ggX5_greatestPopularSize_X3_countPlaced : GoodIn wsX5_greatestPopularSize wsX3_countPlaced := goodIn_r _ [82, 78, 102] (by decide +kernel) (by decide +kernel)
set_option maxRecDepth 20000 in
theorem gX5_greatestPopularSize_X3_countPlaced : GoodIn wsX5_greatestPopularSize (wsV RX5 103 RX3 yX3_countPlaced wsX3_countPlaced) := goodIn_app (goodIn_of _ (by decide +kernel)) ggX5_greatestPopularSize_X3_countPlaced
theorem dX5_greatestPopularSize_0 : decode cX5_greatestPopularSize 0 = .ok (.aload_n 0, 1) := by decide +kernel
theorem dX5_greatestPopularSize_1 : decode cX5_greatestPopularSize 1 = .ok (.getfield 46, 3) := by decide +kernel
theorem dX5_greatestPopularSize_4 : decode cX5_greatestPopularSize 4 = .ok (.aload_n 0, 1) := by decide +kernel
theorem dX5_greatestPopularSize_5 : decode cX5_greatestPopularSize 5 = .ok (.getfield 10, 3) := by decide +kernel
theorem dX5_greatestPopularSize_8 : decode cX5_greatestPopularSize 8 = .ok (.invokevirtual 133, 3) := by decide +kernel
theorem dX5_greatestPopularSize_11 : decode cX5_greatestPopularSize 11 = .ok (.istore_n 1, 1) := by decide +kernel
theorem dX5_greatestPopularSize_12 : decode cX5_greatestPopularSize 12 = .ok (.bipush (-104), 2) := by decide +kernel
theorem dX5_greatestPopularSize_14 : decode cX5_greatestPopularSize 14 = .ok (.istore_n 2, 1) := by decide +kernel
theorem dX5_greatestPopularSize_15 : decode cX5_greatestPopularSize 15 = .ok (.iconst 0, 1) := by decide +kernel
theorem dX5_greatestPopularSize_16 : decode cX5_greatestPopularSize 16 = .ok (.istore_n 3, 1) := by decide +kernel
theorem dX5_greatestPopularSize_17 : decode cX5_greatestPopularSize 17 = .ok (.iload_n 3, 1) := by decide +kernel
theorem dX5_greatestPopularSize_18 : decode cX5_greatestPopularSize 18 = .ok (.iload_n 1, 1) := by decide +kernel
theorem dX5_greatestPopularSize_19 : decode cX5_greatestPopularSize 19 = .ok (.if_icmp .ge 37, 3) := by decide +kernel
theorem dX5_greatestPopularSize_22 : decode cX5_greatestPopularSize 22 = .ok (.aload_n 0, 1) := by decide +kernel
theorem dX5_greatestPopularSize_23 : decode cX5_greatestPopularSize 23 = .ok (.getfield 46, 3) := by decide +kernel
theorem dX5_greatestPopularSize_26 : decode cX5_greatestPopularSize 26 = .ok (.aload_n 0, 1) := by decide +kernel
theorem dX5_greatestPopularSize_27 : decode cX5_greatestPopularSize 27 = .ok (.getfield 10, 3) := by decide +kernel
theorem dX5_greatestPopularSize_30 : decode cX5_greatestPopularSize 30 = .ok (.iload_n 3, 1) := by decide +kernel
theorem dX5_greatestPopularSize_31 : decode cX5_greatestPopularSize 31 = .ok (.aload_n 0, 1) := by decide +kernel
theorem dX5_greatestPopularSize_32 : decode cX5_greatestPopularSize 32 = .ok (.getfield 26, 3) := by decide +kernel
theorem dX5_greatestPopularSize_35 : decode cX5_greatestPopularSize 35 = .ok (.invokevirtual 137, 3) := by decide +kernel
theorem dX5_greatestPopularSize_38 : decode cX5_greatestPopularSize 38 = .ok (.iload_n 2, 1) := by decide +kernel
theorem dX5_greatestPopularSize_39 : decode cX5_greatestPopularSize 39 = .ok (.aload_n 0, 1) := by decide +kernel
theorem dX5_greatestPopularSize_40 : decode cX5_greatestPopularSize 40 = .ok (.getfield 26, 3) := by decide +kernel
theorem dX5_greatestPopularSize_43 : decode cX5_greatestPopularSize 43 = .ok (.invokevirtual 103, 3) := by decide +kernel
theorem dX5_greatestPopularSize_46 : decode cX5_greatestPopularSize 46 = .ok (.invokestatic 141, 3) := by decide +kernel
theorem dX5_greatestPopularSize_49 : decode cX5_greatestPopularSize 49 = .ok (.istore_n 2, 1) := by decide +kernel
theorem dX5_greatestPopularSize_50 : decode cX5_greatestPopularSize 50 = .ok (.iinc 3 1, 3) := by decide +kernel
theorem dX5_greatestPopularSize_53 : decode cX5_greatestPopularSize 53 = .ok (.goto (-36), 3) := by decide +kernel
theorem dX5_greatestPopularSize_56 : decode cX5_greatestPopularSize 56 = .ok (.iload_n 2, 1) := by decide +kernel
theorem dX5_greatestPopularSize_57 : decode cX5_greatestPopularSize 57 = .ok (.ireturn, 1) := by decide +kernel
set_option maxRecDepth 20000 in
theorem ggX5_adoptPopular_X4_collect : GoodIn wsX5_adoptPopular wsX4_collect := goodIn_r _ [8, 9, 10, 11, 12, 13, 7, 14, 15, 16, 17, 18, 19, 20, 21, 22, 23, 24, 25, 26, 27, 28, 29, 30, 31, 32, 33, 34, 35, 36, 37, 38, 39, 40, 41, 42, 43, 44, 45, 46, 47, 48, 49, 50, 51, 52, 53, 54, 55, 56, 57, 58, 59, 60, 61, 62, 63, 64, 112, 113, 114, 115, 116, 117, 118, 119, 120, 121, 122, 123] (by decide +kernel) (by decide +kernel)
set_option maxRecDepth 20000 in
theorem gX5_adoptPopular_X4_collect : GoodIn wsX5_adoptPopular (wsV RX5 133 RX4 yX4_collect wsX4_collect) := goodIn_app (goodIn_of _ (by decide +kernel)) ggX5_adoptPopular_X4_collect
set_option maxRecDepth 20000 in
theorem ggX5_adoptPopular_X4_write : GoodIn wsX5_adoptPopular wsX4_write := goodIn_r _ [68, 9, 69, 10, 70, 71, 72, 73, 74, 75, 57, 58, 59, 7, 60, 17, 16, 54, 55, 56, 112, 113, 114, 115, 116, 124, 117, 118, 119, 120, 121, 122, 123] (by decide +kernel) (by decide +kernel)
set_option maxRecDepth 20000 in
theorem gX5_adoptPopular_X4_write : GoodIn wsX5_adoptPopular (wsV RX5 137 RX4 yX4_write wsX4_write) := goodIn_app (goodIn_of _ (by decide +kernel)) ggX5_adoptPopular_X4_write
set_option maxRecDepth 20000 in
theorem ggX5_adoptPopular_X5_adoptDraft : GoodIn wsX5_adoptPopular wsX5_adoptDraft := goodIn_r _ [80, 81, 82, 83, 3, 84, 85, 86, 87, 88, 89, 90, 91, 92, 93, 94, 95, 96, 97, 98, 73, 99, 75, 100, 101, 102, 103, 104, 105, 106, 107, 108, 109, 110, 111, 125, 126, 127, 124] (by decide +kernel) (by decide +kernel)
set_option maxRecDepth 20000 in
theorem gX5_adoptPopular_X5_adoptDraft : GoodIn wsX5_adoptPopular (wsV RX5 130 RX5 yX5_adoptDraft wsX5_adoptDraft) := goodIn_app (goodIn_of _ (by decide +kernel)) ggX5_adoptPopular_X5_adoptDraft
theorem dX5_adoptPopular_0 : decode cX5_adoptPopular 0 = .ok (.iload_n 1, 1) := by decide +kernel
theorem dX5_adoptPopular_1 : decode cX5_adoptPopular 1 = .ok (.ifCond .ge 6, 3) := by decide +kernel
theorem dX5_adoptPopular_4 : decode cX5_adoptPopular 4 = .ok (.bipush (-101), 2) := by decide +kernel
theorem dX5_adoptPopular_6 : decode cX5_adoptPopular 6 = .ok (.ireturn, 1) := by decide +kernel
theorem dX5_adoptPopular_7 : decode cX5_adoptPopular 7 = .ok (.iload_n 1, 1) := by decide +kernel
theorem dX5_adoptPopular_8 : decode cX5_adoptPopular 8 = .ok (.aload_n 0, 1) := by decide +kernel
theorem dX5_adoptPopular_9 : decode cX5_adoptPopular 9 = .ok (.getfield 46, 3) := by decide +kernel
theorem dX5_adoptPopular_12 : decode cX5_adoptPopular 12 = .ok (.aload_n 0, 1) := by decide +kernel
theorem dX5_adoptPopular_13 : decode cX5_adoptPopular 13 = .ok (.getfield 10, 3) := by decide +kernel
theorem dX5_adoptPopular_16 : decode cX5_adoptPopular 16 = .ok (.invokevirtual 133, 3) := by decide +kernel
theorem dX5_adoptPopular_19 : decode cX5_adoptPopular 19 = .ok (.if_icmp .lt 6, 3) := by decide +kernel
theorem dX5_adoptPopular_22 : decode cX5_adoptPopular 22 = .ok (.bipush (-104), 2) := by decide +kernel
theorem dX5_adoptPopular_24 : decode cX5_adoptPopular 24 = .ok (.ireturn, 1) := by decide +kernel
theorem dX5_adoptPopular_25 : decode cX5_adoptPopular 25 = .ok (.aload_n 0, 1) := by decide +kernel
theorem dX5_adoptPopular_26 : decode cX5_adoptPopular 26 = .ok (.getfield 46, 3) := by decide +kernel
theorem dX5_adoptPopular_29 : decode cX5_adoptPopular 29 = .ok (.aload_n 0, 1) := by decide +kernel
theorem dX5_adoptPopular_30 : decode cX5_adoptPopular 30 = .ok (.getfield 10, 3) := by decide +kernel
theorem dX5_adoptPopular_33 : decode cX5_adoptPopular 33 = .ok (.iload_n 1, 1) := by decide +kernel
theorem dX5_adoptPopular_34 : decode cX5_adoptPopular 34 = .ok (.aload_n 0, 1) := by decide +kernel
theorem dX5_adoptPopular_35 : decode cX5_adoptPopular 35 = .ok (.getfield 26, 3) := by decide +kernel
theorem dX5_adoptPopular_38 : decode cX5_adoptPopular 38 = .ok (.invokevirtual 137, 3) := by decide +kernel
theorem dX5_adoptPopular_41 : decode cX5_adoptPopular 41 = .ok (.aload_n 0, 1) := by decide +kernel
theorem dX5_adoptPopular_42 : decode cX5_adoptPopular 42 = .ok (.invokevirtual 130, 3) := by decide +kernel
theorem dX5_adoptPopular_45 : decode cX5_adoptPopular 45 = .ok (.ireturn, 1) := by decide +kernel
set_option maxRecDepth 20000 in
theorem ggX5_adoptSerial_X2_isApplicant : GoodIn wsX5_adoptSerial wsX2_isApplicant := goodIn_r _ [9, 10, 68, 69, 70, 71, 72] (by decide +kernel) (by decide +kernel)
set_option maxRecDepth 20000 in
theorem gX5_adoptSerial_X2_isApplicant : GoodIn wsX5_adoptSerial (wsV RX5 69 RX2 yX2_isApplicant wsX2_isApplicant) := goodIn_app (goodIn_of _ (by decide +kernel)) ggX5_adoptSerial_X2_isApplicant
set_option maxRecDepth 20000 in
theorem ggX5_adoptSerial_X3_clear : GoodIn wsX5_adoptSerial wsX3_clear := goodIn_r _ [15, 16, 73] (by decide +kernel) (by decide +kernel)
set_option maxRecDepth 20000 in
theorem gX5_adoptSerial_X3_clear : GoodIn wsX5_adoptSerial (wsV RX5 127 RX3 yX3_clear wsX3_clear) := goodIn_app (goodIn_of _ (by decide +kernel)) ggX5_adoptSerial_X3_clear
set_option maxRecDepth 20000 in
theorem ggX5_adoptSerial_X5_mostPreferredFree : GoodIn wsX5_adoptSerial wsX5_mostPreferredFree := goodIn_r _ [21, 1, 22, 2, 23, 24, 25, 26, 8, 27, 28, 29, 30, 31, 14, 32, 16, 61, 62, 63, 64, 65, 66, 67, 68, 69, 70, 71, 72, 73] (by decide +kernel) (by decide +kernel)
set_option maxRecDepth 20000 in
theorem gX5_adoptSerial_X5_mostPreferredFree : GoodIn wsX5_adoptSerial (wsV RX5 146 RX5 yX5_mostPreferredFree wsX5_mostPreferredFree) := goodIn_app (goodIn_of _ (by decide +kernel)) ggX5_adoptSerial_X5_mostPreferredFree
set_option maxRecDepth 20000 in
theorem ggX5_adoptSerial_X5_adoptDraft : GoodIn wsX5_adoptSerial wsX5_adoptDraft := goodIn_r _ [36, 37, 38, 39, 2, 40, 41, 42, 43, 44, 45, 46, 47, 48, 49, 50, 51, 52, 53, 54, 14, 55, 16, 56, 57, 58, 59, 60, 61, 62, 63, 64, 65, 66, 67, 74, 75, 76, 73] (by decide +kernel) (by decide +kernel)
set_option maxRecDepth 20000 in
theorem gX5_adoptSerial_X5_adoptDraft : GoodIn wsX5_adoptSerial (wsV RX5 130 RX5 yX5_adoptDraft wsX5_adoptDraft) := goodIn_app (goodIn_of _ (by decide +kernel)) ggX5_adoptSerial_X5_adoptDraft
theorem dX5_adoptSerial_0 : decode cX5_adoptSerial 0 = .ok (.aload_n 0, 1) := by decide +kernel
theorem dX5_adoptSerial_1 : decode cX5_adoptSerial 1 = .ok (.getfield 10, 3) := by decide +kernel
theorem dX5_adoptSerial_4 : decode cX5_adoptSerial 4 = .ok (.iload_n 1, 1) := by decide +kernel
theorem dX5_adoptSerial_5 : decode cX5_adoptSerial 5 = .ok (.invokevirtual 69, 3) := by decide +kernel
theorem dX5_adoptSerial_8 : decode cX5_adoptSerial 8 = .ok (.ifCond .ne 6, 3) := by decide +kernel
theorem dX5_adoptSerial_11 : decode cX5_adoptSerial 11 = .ok (.bipush (-101), 2) := by decide +kernel
theorem dX5_adoptSerial_13 : decode cX5_adoptSerial 13 = .ok (.ireturn, 1) := by decide +kernel
theorem dX5_adoptSerial_14 : decode cX5_adoptSerial 14 = .ok (.aload_n 0, 1) := by decide +kernel
theorem dX5_adoptSerial_15 : decode cX5_adoptSerial 15 = .ok (.getfield 26, 3) := by decide +kernel
theorem dX5_adoptSerial_18 : decode cX5_adoptSerial 18 = .ok (.invokevirtual 127, 3) := by decide +kernel
theorem dX5_adoptSerial_21 : decode cX5_adoptSerial 21 = .ok (.iload_n 1, 1) := by decide +kernel
theorem dX5_adoptSerial_22 : decode cX5_adoptSerial 22 = .ok (.istore_n 2, 1) := by decide +kernel
theorem dX5_adoptSerial_23 : decode cX5_adoptSerial 23 = .ok (.iload_n 2, 1) := by decide +kernel
theorem dX5_adoptSerial_24 : decode cX5_adoptSerial 24 = .ok (.aload_n 0, 1) := by decide +kernel
theorem dX5_adoptSerial_25 : decode cX5_adoptSerial 25 = .ok (.getfield 10, 3) := by decide +kernel
theorem dX5_adoptSerial_28 : decode cX5_adoptSerial 28 = .ok (.getfield 50, 3) := by decide +kernel
theorem dX5_adoptSerial_31 : decode cX5_adoptSerial 31 = .ok (.if_icmp .ge 23, 3) := by decide +kernel
theorem dX5_adoptSerial_34 : decode cX5_adoptSerial 34 = .ok (.aload_n 0, 1) := by decide +kernel
theorem dX5_adoptSerial_35 : decode cX5_adoptSerial 35 = .ok (.getfield 26, 3) := by decide +kernel
theorem dX5_adoptSerial_38 : decode cX5_adoptSerial 38 = .ok (.getfield 96, 3) := by decide +kernel
theorem dX5_adoptSerial_41 : decode cX5_adoptSerial 41 = .ok (.iload_n 2, 1) := by decide +kernel
theorem dX5_adoptSerial_42 : decode cX5_adoptSerial 42 = .ok (.aload_n 0, 1) := by decide +kernel
theorem dX5_adoptSerial_43 : decode cX5_adoptSerial 43 = .ok (.iload_n 2, 1) := by decide +kernel
theorem dX5_adoptSerial_44 : decode cX5_adoptSerial 44 = .ok (.invokevirtual 146, 3) := by decide +kernel
theorem dX5_adoptSerial_47 : decode cX5_adoptSerial 47 = .ok (.iastore, 1) := by decide +kernel
theorem dX5_adoptSerial_48 : decode cX5_adoptSerial 48 = .ok (.iinc 2 1, 3) := by decide +kernel
theorem dX5_adoptSerial_51 : decode cX5_adoptSerial 51 = .ok (.goto (-28), 3) := by decide +kernel
theorem dX5_adoptSerial_54 : decode cX5_adoptSerial 54 = .ok (.iconst 0, 1) := by decide +kernel
theorem dX5_adoptSerial_55 : decode cX5_adoptSerial 55 = .ok (.istore_n 2, 1) := by decide +kernel
theorem dX5_adoptSerial_56 : decode cX5_adoptSerial 56 = .ok (.iload_n 2, 1) := by decide +kernel
theorem dX5_adoptSerial_57 : decode cX5_adoptSerial 57 = .ok (.iload_n 1, 1) := by decide +kernel
theorem dX5_adoptSerial_58 : decode cX5_adoptSerial 58 = .ok (.if_icmp .ge 23, 3) := by decide +kernel
theorem dX5_adoptSerial_61 : decode cX5_adoptSerial 61 = .ok (.aload_n 0, 1) := by decide +kernel
theorem dX5_adoptSerial_62 : decode cX5_adoptSerial 62 = .ok (.getfield 26, 3) := by decide +kernel
theorem dX5_adoptSerial_65 : decode cX5_adoptSerial 65 = .ok (.getfield 96, 3) := by decide +kernel
theorem dX5_adoptSerial_68 : decode cX5_adoptSerial 68 = .ok (.iload_n 2, 1) := by decide +kernel
theorem dX5_adoptSerial_69 : decode cX5_adoptSerial 69 = .ok (.aload_n 0, 1) := by decide +kernel
theorem dX5_adoptSerial_70 : decode cX5_adoptSerial 70 = .ok (.iload_n 2, 1) := by decide +kernel
theorem dX5_adoptSerial_71 : decode cX5_adoptSerial 71 = .ok (.invokevirtual 146, 3) := by decide +kernel
theorem dX5_adoptSerial_74 : decode cX5_adoptSerial 74 = .ok (.iastore, 1) := by decide +kernel
theorem dX5_adoptSerial_75 : decode cX5_adoptSerial 75 = .ok (.iinc 2 1, 3) := by decide +kernel
theorem dX5_adoptSerial_78 : decode cX5_adoptSerial 78 = .ok (.goto (-22), 3) := by decide +kernel
theorem dX5_adoptSerial_81 : decode cX5_adoptSerial 81 = .ok (.aload_n 0, 1) := by decide +kernel
theorem dX5_adoptSerial_82 : decode cX5_adoptSerial 82 = .ok (.invokevirtual 130, 3) := by decide +kernel
theorem dX5_adoptSerial_85 : decode cX5_adoptSerial 85 = .ok (.ireturn, 1) := by decide +kernel
set_option maxRecDepth 20000 in
theorem ggX5_undo_X1_restore : GoodIn wsX5_undo wsX1_restore := goodIn_r _ [9, 10, 11, 12, 13, 14, 15, 16, 17, 18, 26, 27, 28, 29] (by decide +kernel) (by decide +kernel)
set_option maxRecDepth 20000 in
theorem gX5_undo_X1_restore : GoodIn wsX5_undo (wsV RX5 152 RX1 yX1_restore wsX1_restore) := goodIn_app (goodIn_of _ (by decide +kernel)) ggX5_undo_X1_restore
theorem dX5_undo_0 : decode cX5_undo 0 = .ok (.aload_n 0, 1) := by decide +kernel
theorem dX5_undo_1 : decode cX5_undo 1 = .ok (.getfield 32, 3) := by decide +kernel
theorem dX5_undo_4 : decode cX5_undo 4 = .ok (.getfield 149, 3) := by decide +kernel
theorem dX5_undo_7 : decode cX5_undo 7 = .ok (.ifCond .ne 6, 3) := by decide +kernel
theorem dX5_undo_10 : decode cX5_undo 10 = .ok (.bipush (-104), 2) := by decide +kernel
theorem dX5_undo_12 : decode cX5_undo 12 = .ok (.ireturn, 1) := by decide +kernel
theorem dX5_undo_13 : decode cX5_undo 13 = .ok (.aload_n 0, 1) := by decide +kernel
theorem dX5_undo_14 : decode cX5_undo 14 = .ok (.getfield 32, 3) := by decide +kernel
theorem dX5_undo_17 : decode cX5_undo 17 = .ok (.aload_n 0, 1) := by decide +kernel
theorem dX5_undo_18 : decode cX5_undo 18 = .ok (.getfield 19, 3) := by decide +kernel
theorem dX5_undo_21 : decode cX5_undo 21 = .ok (.aload_n 0, 1) := by decide +kernel
theorem dX5_undo_22 : decode cX5_undo 22 = .ok (.getfield 23, 3) := by decide +kernel
theorem dX5_undo_25 : decode cX5_undo 25 = .ok (.invokevirtual 152, 3) := by decide +kernel
theorem dX5_undo_28 : decode cX5_undo 28 = .ok (.aload_n 0, 1) := by decide +kernel
theorem dX5_undo_29 : decode cX5_undo 29 = .ok (.getfield 32, 3) := by decide +kernel
theorem dX5_undo_32 : decode cX5_undo 32 = .ok (.getfield 149, 3) := by decide +kernel
theorem dX5_undo_35 : decode cX5_undo 35 = .ok (.ireturn, 1) := by decide +kernel
set_option maxRecDepth 20000 in
theorem ggX5_forgetMatchings_X3_clear : GoodIn wsX5_forgetMatchings wsX3_clear := goodIn_r _ [8, 9, 23] (by decide +kernel) (by decide +kernel)
set_option maxRecDepth 20000 in
theorem gX5_forgetMatchings_X3_clear : GoodIn wsX5_forgetMatchings (wsV RX5 127 RX3 yX3_clear wsX3_clear) := goodIn_app (goodIn_of _ (by decide +kernel)) ggX5_forgetMatchings_X3_clear
set_option maxRecDepth 20000 in
theorem ggX5_forgetMatchings_X1_forget : GoodIn wsX5_forgetMatchings wsX1_forget := goodIn_r _ [14, 15, 24, 25, 26] (by decide +kernel) (by decide +kernel)
set_option maxRecDepth 20000 in
theorem gX5_forgetMatchings_X1_forget : GoodIn wsX5_forgetMatchings (wsV RX5 155 RX1 yX1_forget wsX1_forget) := goodIn_app (goodIn_of _ (by decide +kernel)) ggX5_forgetMatchings_X1_forget
theorem dX5_forgetMatchings_0 : decode cX5_forgetMatchings 0 = .ok (.aload_n 0, 1) := by decide +kernel
theorem dX5_forgetMatchings_1 : decode cX5_forgetMatchings 1 = .ok (.getfield 19, 3) := by decide +kernel
theorem dX5_forgetMatchings_4 : decode cX5_forgetMatchings 4 = .ok (.invokevirtual 127, 3) := by decide +kernel
theorem dX5_forgetMatchings_7 : decode cX5_forgetMatchings 7 = .ok (.aload_n 0, 1) := by decide +kernel
theorem dX5_forgetMatchings_8 : decode cX5_forgetMatchings 8 = .ok (.getfield 23, 3) := by decide +kernel
theorem dX5_forgetMatchings_11 : decode cX5_forgetMatchings 11 = .ok (.invokevirtual 127, 3) := by decide +kernel
theorem dX5_forgetMatchings_14 : decode cX5_forgetMatchings 14 = .ok (.aload_n 0, 1) := by decide +kernel
theorem dX5_forgetMatchings_15 : decode cX5_forgetMatchings 15 = .ok (.getfield 32, 3) := by decide +kernel
theorem dX5_forgetMatchings_18 : decode cX5_forgetMatchings 18 = .ok (.invokevirtual 155, 3) := by decide +kernel
theorem dX5_forgetMatchings_21 : decode cX5_forgetMatchings 21 = .ok (.return_, 1) := by decide +kernel
set_option maxRecDepth 20000 in
theorem ggX5_adoptDraft_X1_remember : GoodIn wsX5_adoptDraft wsX1_remember := goodIn_r _ [9, 10, 11, 12, 13, 14, 15, 8, 16, 17, 18, 19, 20, 21, 22, 35, 36, 37, 38] (by decide +kernel) (by decide +kernel)
set_option maxRecDepth 20000 in
theorem gX5_adoptDraft_X1_remember : GoodIn wsX5_adoptDraft (wsV RX5 99 RX1 yX1_remember wsX1_remember) := goodIn_app (goodIn_of _ (by decide +kernel)) ggX5_adoptDraft_X1_remember
set_option maxRecDepth 20000 in
theorem ggX5_adoptDraft_X3_copyFrom : GoodIn wsX5_adoptDraft wsX3_copyFrom := goodIn_r _ [21, 22, 38] (by decide +kernel) (by decide +kernel)
set_option maxRecDepth 20000 in
theorem gX5_adoptDraft_X3_copyFrom : GoodIn wsX5_adoptDraft (wsV RX5 114 RX3 yX3_copyFrom wsX3_copyFrom) := goodIn_app (goodIn_of _ (by decide +kernel)) ggX5_adoptDraft_X3_copyFrom
set_option maxRecDepth 20000 in
theorem ggX5_adoptDraft_X3_countPlaced : GoodIn wsX5_adoptDraft wsX3_countPlaced := goodIn_r _ [27, 22, 38] (by decide +kernel) (by decide +kernel)
set_option maxRecDepth 20000 in
theorem gX5_adoptDraft_X3_countPlaced : GoodIn wsX5_adoptDraft (wsV RX5 103 RX3 yX3_countPlaced wsX3_countPlaced) := goodIn_app (goodIn_of _ (by decide +kernel)) ggX5_adoptDraft_X3_countPlaced
theorem dX5_adoptDraft_0 : decode cX5_adoptDraft 0 = .ok (.aload_n 0, 1) := by decide +kernel
theorem dX5_adoptDraft_1 : decode cX5_adoptDraft 1 = .ok (.getfield 32, 3) := by decide +kernel
theorem dX5_adoptDraft_4 : decode cX5_adoptDraft 4 = .ok (.aload_n 0, 1) := by decide +kernel
theorem dX5_adoptDraft_5 : decode cX5_adoptDraft 5 = .ok (.getfield 19, 3) := by decide +kernel
theorem dX5_adoptDraft_8 : decode cX5_adoptDraft 8 = .ok (.aload_n 0, 1) := by decide +kernel
theorem dX5_adoptDraft_9 : decode cX5_adoptDraft 9 = .ok (.getfield 23, 3) := by decide +kernel
theorem dX5_adoptDraft_12 : decode cX5_adoptDraft 12 = .ok (.invokevirtual 99, 3) := by decide +kernel
theorem dX5_adoptDraft_15 : decode cX5_adoptDraft 15 = .ok (.aload_n 0, 1) := by decide +kernel
theorem dX5_adoptDraft_16 : decode cX5_adoptDraft 16 = .ok (.getfield 19, 3) := by decide +kernel
theorem dX5_adoptDraft_19 : decode cX5_adoptDraft 19 = .ok (.aload_n 0, 1) := by decide +kernel
theorem dX5_adoptDraft_20 : decode cX5_adoptDraft 20 = .ok (.getfield 26, 3) := by decide +kernel
theorem dX5_adoptDraft_23 : decode cX5_adoptDraft 23 = .ok (.invokevirtual 114, 3) := by decide +kernel
theorem dX5_adoptDraft_26 : decode cX5_adoptDraft 26 = .ok (.aload_n 0, 1) := by decide +kernel
theorem dX5_adoptDraft_27 : decode cX5_adoptDraft 27 = .ok (.getfield 19, 3) := by decide +kernel
theorem dX5_adoptDraft_30 : decode cX5_adoptDraft 30 = .ok (.invokevirtual 103, 3) := by decide +kernel
theorem dX5_adoptDraft_33 : decode cX5_adoptDraft 33 = .ok (.ireturn, 1) := by decide +kernel
set_option maxRecDepth 20000 in
theorem ggX5_mostPreferredFree_X2_listed : GoodIn wsX5_mostPreferredFree wsX2_listed := goodIn_r _ [9, 10, 24, 25, 26, 27, 28] (by decide +kernel) (by decide +kernel)
set_option maxRecDepth 20000 in
theorem gX5_mostPreferredFree_X2_listed : GoodIn wsX5_mostPreferredFree (wsV RX5 83 RX2 yX2_listed wsX2_listed) := goodIn_app (goodIn_of _ (by decide +kernel)) ggX5_mostPreferredFree_X2_listed
set_option maxRecDepth 20000 in
theorem ggX5_mostPreferredFree_X3_othersAt : GoodIn wsX5_mostPreferredFree wsX3_othersAt := goodIn_r _ [15, 16, 29] (by decide +kernel) (by decide +kernel)
set_option maxRecDepth 20000 in
theorem gX5_mostPreferredFree_X3_othersAt : GoodIn wsX5_mostPreferredFree (wsV RX5 93 RX3 yX3_othersAt wsX3_othersAt) := goodIn_app (goodIn_of _ (by decide +kernel)) ggX5_mostPreferredFree_X3_othersAt
theorem dX5_mostPreferredFree_0 : decode cX5_mostPreferredFree 0 = .ok (.iconst 0, 1) := by decide +kernel
theorem dX5_mostPreferredFree_1 : decode cX5_mostPreferredFree 1 = .ok (.istore_n 2, 1) := by decide +kernel
theorem dX5_mostPreferredFree_2 : decode cX5_mostPreferredFree 2 = .ok (.iload_n 2, 1) := by decide +kernel
theorem dX5_mostPreferredFree_3 : decode cX5_mostPreferredFree 3 = .ok (.aload_n 0, 1) := by decide +kernel
theorem dX5_mostPreferredFree_4 : decode cX5_mostPreferredFree 4 = .ok (.getfield 10, 3) := by decide +kernel
theorem dX5_mostPreferredFree_7 : decode cX5_mostPreferredFree 7 = .ok (.getfield 80, 3) := by decide +kernel
theorem dX5_mostPreferredFree_10 : decode cX5_mostPreferredFree 10 = .ok (.iload_n 1, 1) := by decide +kernel
theorem dX5_mostPreferredFree_11 : decode cX5_mostPreferredFree 11 = .ok (.iaload, 1) := by decide +kernel
theorem dX5_mostPreferredFree_12 : decode cX5_mostPreferredFree 12 = .ok (.if_icmp .ge 42, 3) := by decide +kernel
theorem dX5_mostPreferredFree_15 : decode cX5_mostPreferredFree 15 = .ok (.aload_n 0, 1) := by decide +kernel
theorem dX5_mostPreferredFree_16 : decode cX5_mostPreferredFree 16 = .ok (.getfield 10, 3) := by decide +kernel
theorem dX5_mostPreferredFree_19 : decode cX5_mostPreferredFree 19 = .ok (.iload_n 1, 1) := by decide +kernel
theorem dX5_mostPreferredFree_20 : decode cX5_mostPreferredFree 20 = .ok (.iload_n 2, 1) := by decide +kernel
theorem dX5_mostPreferredFree_21 : decode cX5_mostPreferredFree 21 = .ok (.invokevirtual 83, 3) := by decide +kernel
theorem dX5_mostPreferredFree_24 : decode cX5_mostPreferredFree 24 = .ok (.istore_n 3, 1) := by decide +kernel
theorem dX5_mostPreferredFree_25 : decode cX5_mostPreferredFree 25 = .ok (.aload_n 0, 1) := by decide +kernel
theorem dX5_mostPreferredFree_26 : decode cX5_mostPreferredFree 26 = .ok (.getfield 26, 3) := by decide +kernel
theorem dX5_mostPreferredFree_29 : decode cX5_mostPreferredFree 29 = .ok (.iload_n 3, 1) := by decide +kernel
theorem dX5_mostPreferredFree_30 : decode cX5_mostPreferredFree 30 = .ok (.iload_n 1, 1) := by decide +kernel
theorem dX5_mostPreferredFree_31 : decode cX5_mostPreferredFree 31 = .ok (.invokevirtual 93, 3) := by decide +kernel
theorem dX5_mostPreferredFree_34 : decode cX5_mostPreferredFree 34 = .ok (.aload_n 0, 1) := by decide +kernel
theorem dX5_mostPreferredFree_35 : decode cX5_mostPreferredFree 35 = .ok (.getfield 10, 3) := by decide +kernel
theorem dX5_mostPreferredFree_38 : decode cX5_mostPreferredFree 38 = .ok (.getfield 65, 3) := by decide +kernel
theorem dX5_mostPreferredFree_41 : decode cX5_mostPreferredFree 41 = .ok (.iload_n 3, 1) := by decide +kernel
theorem dX5_mostPreferredFree_42 : decode cX5_mostPreferredFree 42 = .ok (.iaload, 1) := by decide +kernel
theorem dX5_mostPreferredFree_43 : decode cX5_mostPreferredFree 43 = .ok (.if_icmp .ge 5, 3) := by decide +kernel
theorem dX5_mostPreferredFree_46 : decode cX5_mostPreferredFree 46 = .ok (.iload_n 3, 1) := by decide +kernel
theorem dX5_mostPreferredFree_47 : decode cX5_mostPreferredFree 47 = .ok (.ireturn, 1) := by decide +kernel
theorem dX5_mostPreferredFree_48 : decode cX5_mostPreferredFree 48 = .ok (.iinc 2 1, 3) := by decide +kernel
theorem dX5_mostPreferredFree_51 : decode cX5_mostPreferredFree 51 = .ok (.goto (-49), 3) := by decide +kernel
theorem dX5_mostPreferredFree_54 : decode cX5_mostPreferredFree 54 = .ok (.iconst (-1), 1) := by decide +kernel
theorem dX5_mostPreferredFree_55 : decode cX5_mostPreferredFree 55 = .ok (.ireturn, 1) := by decide +kernel
set_option maxRecDepth 20000 in
theorem ggX6_init_X6_builds : GoodIn wsX6_init wsX6_builds := goodIn_r _ [18, 4, 5, 7, 8, 19, 20, 21, 17, 22, 10, 23, 24, 25, 26, 27, 28, 29, 30, 31, 32, 33] (by decide +kernel) (by decide +kernel)
set_option maxRecDepth 20000 in
theorem gX6_init_X6_builds : GoodIn wsX6_init (wsV RX6 38 RX6 yX6_builds wsX6_builds) := goodIn_app (goodIn_of _ (by decide +kernel)) ggX6_init_X6_builds
end
section
theorem dX6_init_0 : decode cX6_init 0 = .ok (.aload_n 0, 1) := by decide +kernel
theorem dX6_init_1 : decode cX6_init 1 = .ok (.invokespecial 1, 3) := by decide +kernel
theorem dX6_init_4 : decode cX6_init 4 = .ok (.aload_n 0, 1) := by decide +kernel
theorem dX6_init_5 : decode cX6_init 5 = .ok (.iconst 4, 1) := by decide +kernel
theorem dX6_init_6 : decode cX6_init 6 = .ok (.putfield 7, 3) := by decide +kernel
theorem dX6_init_9 : decode cX6_init 9 = .ok (.aload_n 0, 1) := by decide +kernel
theorem dX6_init_10 : decode cX6_init 10 = .ok (.iconst 3, 1) := by decide +kernel
theorem dX6_init_11 : decode cX6_init 11 = .ok (.putfield 13, 3) := by decide +kernel
theorem dX6_init_14 : decode cX6_init 14 = .ok (.aload_n 0, 1) := by decide +kernel
theorem dX6_init_15 : decode cX6_init 15 = .ok (.iconst 5, 1) := by decide +kernel
theorem dX6_init_16 : decode cX6_init 16 = .ok (.newarray .int, 2) := by decide +kernel
theorem dX6_init_18 : decode cX6_init 18 = .ok (.putfield 16, 3) := by decide +kernel
theorem dX6_init_21 : decode cX6_init 21 = .ok (.aload_n 0, 1) := by decide +kernel
theorem dX6_init_22 : decode cX6_init 22 = .ok (.bipush 6, 2) := by decide +kernel
theorem dX6_init_24 : decode cX6_init 24 = .ok (.newarray .int, 2) := by decide +kernel
theorem dX6_init_26 : decode cX6_init 26 = .ok (.putfield 20, 3) := by decide +kernel
theorem dX6_init_29 : decode cX6_init 29 = .ok (.aload_n 0, 1) := by decide +kernel
theorem dX6_init_30 : decode cX6_init 30 = .ok (.bipush 30, 2) := by decide +kernel
theorem dX6_init_32 : decode cX6_init 32 = .ok (.newarray .int, 2) := by decide +kernel
theorem dX6_init_34 : decode cX6_init 34 = .ok (.putfield 23, 3) := by decide +kernel
theorem dX6_init_37 : decode cX6_init 37 = .ok (.aload_n 0, 1) := by decide +kernel
theorem dX6_init_38 : decode cX6_init 38 = .ok (.bipush 12, 2) := by decide +kernel
theorem dX6_init_40 : decode cX6_init 40 = .ok (.newarray .int, 2) := by decide +kernel
theorem dX6_init_42 : decode cX6_init 42 = .ok (.putfield 26, 3) := by decide +kernel
theorem dX6_init_45 : decode cX6_init 45 = .ok (.aload_n 0, 1) := by decide +kernel
theorem dX6_init_46 : decode cX6_init 46 = .ok (.bipush 60, 2) := by decide +kernel
theorem dX6_init_48 : decode cX6_init 48 = .ok (.newarray .int, 2) := by decide +kernel
theorem dX6_init_50 : decode cX6_init 50 = .ok (.putfield 29, 3) := by decide +kernel
theorem dX6_init_53 : decode cX6_init 53 = .ok (.aload_n 0, 1) := by decide +kernel
theorem dX6_init_54 : decode cX6_init 54 = .ok (.sipush 1701, 3) := by decide +kernel
theorem dX6_init_57 : decode cX6_init 57 = .ok (.newarray .int, 2) := by decide +kernel
theorem dX6_init_59 : decode cX6_init 59 = .ok (.putfield 32, 3) := by decide +kernel
theorem dX6_init_62 : decode cX6_init 62 = .ok (.aload_n 0, 1) := by decide +kernel
theorem dX6_init_63 : decode cX6_init 63 = .ok (.bipush 6, 2) := by decide +kernel
theorem dX6_init_65 : decode cX6_init 65 = .ok (.newarray .int, 2) := by decide +kernel
theorem dX6_init_67 : decode cX6_init 67 = .ok (.putfield 35, 3) := by decide +kernel
theorem dX6_init_70 : decode cX6_init 70 = .ok (.aload_n 0, 1) := by decide +kernel
theorem dX6_init_71 : decode cX6_init 71 = .ok (.iconst 4, 1) := by decide +kernel
theorem dX6_init_72 : decode cX6_init 72 = .ok (.iconst 3, 1) := by decide +kernel
theorem dX6_init_73 : decode cX6_init 73 = .ok (.invokevirtual 38, 3) := by decide +kernel
theorem dX6_init_76 : decode cX6_init 76 = .ok (.return_, 1) := by decide +kernel
set_option maxRecDepth 20000 in
theorem ggX6_builds_X6_clears : GoodIn wsX6_builds wsX6_clears := goodIn_r _ [9, 10, 11, 12, 13, 14, 15, 16, 17, 18, 19, 20, 21] (by decide +kernel) (by decide +kernel)
set_option maxRecDepth 20000 in
theorem gX6_builds_X6_clears : GoodIn wsX6_builds (wsV RX6 42 RX6 yX6_clears wsX6_clears) := goodIn_app (goodIn_of _ (by decide +kernel)) ggX6_builds_X6_clears
theorem dX6_builds_0 : decode cX6_builds 0 = .ok (.aload_n 0, 1) := by decide +kernel
theorem dX6_builds_1 : decode cX6_builds 1 = .ok (.iload_n 1, 1) := by decide +kernel
theorem dX6_builds_2 : decode cX6_builds 2 = .ok (.putfield 7, 3) := by decide +kernel
theorem dX6_builds_5 : decode cX6_builds 5 = .ok (.aload_n 0, 1) := by decide +kernel
theorem dX6_builds_6 : decode cX6_builds 6 = .ok (.iload_n 2, 1) := by decide +kernel
theorem dX6_builds_7 : decode cX6_builds 7 = .ok (.putfield 13, 3) := by decide +kernel
theorem dX6_builds_10 : decode cX6_builds 10 = .ok (.iconst 0, 1) := by decide +kernel
theorem dX6_builds_11 : decode cX6_builds 11 = .ok (.istore_n 3, 1) := by decide +kernel
theorem dX6_builds_12 : decode cX6_builds 12 = .ok (.iload_n 3, 1) := by decide +kernel
theorem dX6_builds_13 : decode cX6_builds 13 = .ok (.iconst 5, 1) := by decide +kernel
theorem dX6_builds_14 : decode cX6_builds 14 = .ok (.if_icmp .ge 16, 3) := by decide +kernel
theorem dX6_builds_17 : decode cX6_builds 17 = .ok (.aload_n 0, 1) := by decide +kernel
theorem dX6_builds_18 : decode cX6_builds 18 = .ok (.getfield 16, 3) := by decide +kernel
theorem dX6_builds_21 : decode cX6_builds 21 = .ok (.iload_n 3, 1) := by decide +kernel
theorem dX6_builds_22 : decode cX6_builds 22 = .ok (.iconst 1, 1) := by decide +kernel
theorem dX6_builds_23 : decode cX6_builds 23 = .ok (.iastore, 1) := by decide +kernel
theorem dX6_builds_24 : decode cX6_builds 24 = .ok (.iinc 3 1, 3) := by decide +kernel
theorem dX6_builds_27 : decode cX6_builds 27 = .ok (.goto (-15), 3) := by decide +kernel
theorem dX6_builds_30 : decode cX6_builds 30 = .ok (.iconst 0, 1) := by decide +kernel
theorem dX6_builds_31 : decode cX6_builds 31 = .ok (.istore_n 3, 1) := by decide +kernel
theorem dX6_builds_32 : decode cX6_builds 32 = .ok (.iload_n 3, 1) := by decide +kernel
theorem dX6_builds_33 : decode cX6_builds 33 = .ok (.bipush 6, 2) := by decide +kernel
theorem dX6_builds_35 : decode cX6_builds 35 = .ok (.if_icmp .ge 16, 3) := by decide +kernel
theorem dX6_builds_38 : decode cX6_builds 38 = .ok (.aload_n 0, 1) := by decide +kernel
theorem dX6_builds_39 : decode cX6_builds 39 = .ok (.getfield 20, 3) := by decide +kernel
theorem dX6_builds_42 : decode cX6_builds 42 = .ok (.iload_n 3, 1) := by decide +kernel
theorem dX6_builds_43 : decode cX6_builds 43 = .ok (.iconst 0, 1) := by decide +kernel
theorem dX6_builds_44 : decode cX6_builds 44 = .ok (.iastore, 1) := by decide +kernel
theorem dX6_builds_45 : decode cX6_builds 45 = .ok (.iinc 3 1, 3) := by decide +kernel
theorem dX6_builds_48 : decode cX6_builds 48 = .ok (.goto (-16), 3) := by decide +kernel
theorem dX6_builds_51 : decode cX6_builds 51 = .ok (.aload_n 0, 1) := by decide +kernel
theorem dX6_builds_52 : decode cX6_builds 52 = .ok (.invokevirtual 42, 3) := by decide +kernel
theorem dX6_builds_55 : decode cX6_builds 55 = .ok (.return_, 1) := by decide +kernel
theorem dX6_clears_0 : decode cX6_clears 0 = .ok (.iconst 0, 1) := by decide +kernel
theorem dX6_clears_1 : decode cX6_clears 1 = .ok (.istore_n 1, 1) := by decide +kernel
theorem dX6_clears_2 : decode cX6_clears 2 = .ok (.iload_n 1, 1) := by decide +kernel
theorem dX6_clears_3 : decode cX6_clears 3 = .ok (.bipush 12, 2) := by decide +kernel
theorem dX6_clears_5 : decode cX6_clears 5 = .ok (.if_icmp .ge 16, 3) := by decide +kernel
theorem dX6_clears_8 : decode cX6_clears 8 = .ok (.aload_n 0, 1) := by decide +kernel
theorem dX6_clears_9 : decode cX6_clears 9 = .ok (.getfield 26, 3) := by decide +kernel
theorem dX6_clears_12 : decode cX6_clears 12 = .ok (.iload_n 1, 1) := by decide +kernel
theorem dX6_clears_13 : decode cX6_clears 13 = .ok (.iconst (-1), 1) := by decide +kernel
theorem dX6_clears_14 : decode cX6_clears 14 = .ok (.iastore, 1) := by decide +kernel
theorem dX6_clears_15 : decode cX6_clears 15 = .ok (.iinc 1 1, 3) := by decide +kernel
theorem dX6_clears_18 : decode cX6_clears 18 = .ok (.goto (-16), 3) := by decide +kernel
theorem dX6_clears_21 : decode cX6_clears 21 = .ok (.aload_n 0, 1) := by decide +kernel
theorem dX6_clears_22 : decode cX6_clears 22 = .ok (.iconst 0, 1) := by decide +kernel
theorem dX6_clears_23 : decode cX6_clears 23 = .ok (.putfield 45, 3) := by decide +kernel
theorem dX6_clears_26 : decode cX6_clears 26 = .ok (.return_, 1) := by decide +kernel
theorem dX6_in_0 : decode cX6_in 0 = .ok (.iload_n 0, 1) := by decide +kernel
theorem dX6_in_1 : decode cX6_in 1 = .ok (.iload_n 1, 1) := by decide +kernel
theorem dX6_in_2 : decode cX6_in 2 = .ok (.if_icmp .lt 12, 3) := by decide +kernel
theorem dX6_in_5 : decode cX6_in 5 = .ok (.iload_n 0, 1) := by decide +kernel
theorem dX6_in_6 : decode cX6_in 6 = .ok (.iload_n 2, 1) := by decide +kernel
theorem dX6_in_7 : decode cX6_in 7 = .ok (.if_icmp .gt 7, 3) := by decide +kernel
theorem dX6_in_10 : decode cX6_in 10 = .ok (.iconst 1, 1) := by decide +kernel
theorem dX6_in_11 : decode cX6_in 11 = .ok (.goto 4, 3) := by decide +kernel
theorem dX6_in_14 : decode cX6_in 14 = .ok (.iconst 0, 1) := by decide +kernel
theorem dX6_in_15 : decode cX6_in 15 = .ok (.ireturn, 1) := by decide +kernel
set_option maxRecDepth 20000 in
theorem ggX6_isApplicant_X6_in : GoodIn wsX6_isApplicant wsX6_in := goodIn_r _ [5] (by decide +kernel) (by decide +kernel)
set_option maxRecDepth 20000 in
theorem gX6_isApplicant_X6_in : GoodIn wsX6_isApplicant (va_wsS RX6 48 yX6_in wsX6_in) := goodIn_app (goodIn_of _ (by decide +kernel)) ggX6_isApplicant_X6_in
theorem dX6_isApplicant_0 : decode cX6_isApplicant 0 = .ok (.iload_n 1, 1) := by decide +kernel
theorem dX6_isApplicant_1 : decode cX6_isApplicant 1 = .ok (.iconst 0, 1) := by decide +kernel
theorem dX6_isApplicant_2 : decode cX6_isApplicant 2 = .ok (.aload_n 0, 1) := by decide +kernel
theorem dX6_isApplicant_3 : decode cX6_isApplicant 3 = .ok (.getfield 7, 3) := by decide +kernel
theorem dX6_isApplicant_6 : decode cX6_isApplicant 6 = .ok (.iconst 1, 1) := by decide +kernel
theorem dX6_isApplicant_7 : decode cX6_isApplicant 7 = .ok (.isub, 1) := by decide +kernel
theorem dX6_isApplicant_8 : decode cX6_isApplicant 8 = .ok (.invokestatic 48, 3) := by decide +kernel
theorem dX6_isApplicant_11 : decode cX6_isApplicant 11 = .ok (.ireturn, 1) := by decide +kernel
set_option maxRecDepth 20000 in
theorem ggX6_isPost_X6_in : GoodIn wsX6_isPost wsX6_in := goodIn_r _ [5] (by decide +kernel) (by decide +kernel)
set_option maxRecDepth 20000 in
theorem gX6_isPost_X6_in : GoodIn wsX6_isPost (va_wsS RX6 48 yX6_in wsX6_in) := goodIn_app (goodIn_of _ (by decide +kernel)) ggX6_isPost_X6_in
theorem dX6_isPost_0 : decode cX6_isPost 0 = .ok (.iload_n 1, 1) := by decide +kernel
theorem dX6_isPost_1 : decode cX6_isPost 1 = .ok (.iconst 0, 1) := by decide +kernel
theorem dX6_isPost_2 : decode cX6_isPost 2 = .ok (.aload_n 0, 1) := by decide +kernel
theorem dX6_isPost_3 : decode cX6_isPost 3 = .ok (.getfield 13, 3) := by decide +kernel
theorem dX6_isPost_6 : decode cX6_isPost 6 = .ok (.iconst 1, 1) := by decide +kernel
theorem dX6_isPost_7 : decode cX6_isPost 7 = .ok (.isub, 1) := by decide +kernel
theorem dX6_isPost_8 : decode cX6_isPost 8 = .ok (.invokestatic 48, 3) := by decide +kernel
theorem dX6_isPost_11 : decode cX6_isPost 11 = .ok (.ireturn, 1) := by decide +kernel
set_option maxRecDepth 20000 in
theorem ggX6_reset_X6_in : GoodIn wsX6_reset wsX6_in := goodIn_r _ [5] (by decide +kernel) (by decide +kernel)
set_option maxRecDepth 20000 in
theorem gX6_reset_X6_in : GoodIn wsX6_reset (va_wsS RX6 48 yX6_in wsX6_in) := goodIn_app (goodIn_of _ (by decide +kernel)) ggX6_reset_X6_in
set_option maxRecDepth 20000 in
theorem ggX6_reset_X6_builds : GoodIn wsX6_reset wsX6_builds := goodIn_r _ [9, 1, 10, 11, 12, 13, 14, 15, 4, 16, 17, 18, 19, 20, 21, 22, 23, 24, 25, 26, 27, 28] (by decide +kernel) (by decide +kernel)
set_option maxRecDepth 20000 in
theorem gX6_reset_X6_builds : GoodIn wsX6_reset (wsV RX6 38 RX6 yX6_builds wsX6_builds) := goodIn_app (goodIn_of _ (by decide +kernel)) ggX6_reset_X6_builds
theorem dX6_reset_0 : decode cX6_reset 0 = .ok (.iload_n 1, 1) := by decide +kernel
theorem dX6_reset_1 : decode cX6_reset 1 = .ok (.iconst 1, 1) := by decide +kernel
theorem dX6_reset_2 : decode cX6_reset 2 = .ok (.bipush 6, 2) := by decide +kernel
theorem dX6_reset_4 : decode cX6_reset 4 = .ok (.invokestatic 48, 3) := by decide +kernel
theorem dX6_reset_7 : decode cX6_reset 7 = .ok (.ifCond .eq 12, 3) := by decide +kernel
theorem dX6_reset_10 : decode cX6_reset 10 = .ok (.iload_n 2, 1) := by decide +kernel
theorem dX6_reset_11 : decode cX6_reset 11 = .ok (.iconst 1, 1) := by decide +kernel
theorem dX6_reset_12 : decode cX6_reset 12 = .ok (.iconst 5, 1) := by decide +kernel
theorem dX6_reset_13 : decode cX6_reset 13 = .ok (.invokestatic 48, 3) := by decide +kernel
theorem dX6_reset_16 : decode cX6_reset 16 = .ok (.ifCond .ne 6, 3) := by decide +kernel
theorem dX6_reset_19 : decode cX6_reset 19 = .ok (.bipush (-101), 2) := by decide +kernel
theorem dX6_reset_21 : decode cX6_reset 21 = .ok (.ireturn, 1) := by decide +kernel
theorem dX6_reset_22 : decode cX6_reset 22 = .ok (.aload_n 0, 1) := by decide +kernel
theorem dX6_reset_23 : decode cX6_reset 23 = .ok (.getfield 7, 3) := by decide +kernel
theorem dX6_reset_26 : decode cX6_reset 26 = .ok (.istore_n 3, 1) := by decide +kernel
theorem dX6_reset_27 : decode cX6_reset 27 = .ok (.aload_n 0, 1) := by decide +kernel
theorem dX6_reset_28 : decode cX6_reset 28 = .ok (.iload_n 1, 1) := by decide +kernel
theorem dX6_reset_29 : decode cX6_reset 29 = .ok (.iload_n 2, 1) := by decide +kernel
theorem dX6_reset_30 : decode cX6_reset 30 = .ok (.invokevirtual 38, 3) := by decide +kernel
theorem dX6_reset_33 : decode cX6_reset 33 = .ok (.iload_n 3, 1) := by decide +kernel
theorem dX6_reset_34 : decode cX6_reset 34 = .ok (.ireturn, 1) := by decide +kernel
set_option maxRecDepth 20000 in
theorem ggX6_setCapacity_X6_isPost : GoodIn wsX6_setCapacity wsX6_isPost := goodIn_r _ [6, 7, 8, 9, 5, 10, 17, 18, 19, 20, 21, 22, 23, 24, 25, 26] (by decide +kernel) (by decide +kernel)
set_option maxRecDepth 20000 in
theorem gX6_setCapacity_X6_isPost : GoodIn wsX6_setCapacity (wsV RX6 52 RX6 yX6_isPost wsX6_isPost) := goodIn_app (goodIn_of _ (by decide +kernel)) ggX6_setCapacity_X6_isPost
set_option maxRecDepth 20000 in
theorem ggX6_setCapacity_X6_in : GoodIn wsX6_setCapacity wsX6_in := goodIn_r _ [10] (by decide +kernel) (by decide +kernel)
set_option maxRecDepth 20000 in
theorem gX6_setCapacity_X6_in : GoodIn wsX6_setCapacity (va_wsS RX6 48 yX6_in wsX6_in) := goodIn_app (goodIn_of _ (by decide +kernel)) ggX6_setCapacity_X6_in
set_option maxRecDepth 20000 in
theorem ggX6_setCapacity_X6_clears : GoodIn wsX6_setCapacity wsX6_clears := goodIn_r _ [14, 15, 16, 17, 18, 19, 20, 21, 22, 23, 24, 25, 26] (by decide +kernel) (by decide +kernel)
set_option maxRecDepth 20000 in
theorem gX6_setCapacity_X6_clears : GoodIn wsX6_setCapacity (wsV RX6 42 RX6 yX6_clears wsX6_clears) := goodIn_app (goodIn_of _ (by decide +kernel)) ggX6_setCapacity_X6_clears
theorem dX6_setCapacity_0 : decode cX6_setCapacity 0 = .ok (.aload_n 0, 1) := by decide +kernel
theorem dX6_setCapacity_1 : decode cX6_setCapacity 1 = .ok (.iload_n 1, 1) := by decide +kernel
theorem dX6_setCapacity_2 : decode cX6_setCapacity 2 = .ok (.invokevirtual 52, 3) := by decide +kernel
theorem dX6_setCapacity_5 : decode cX6_setCapacity 5 = .ok (.ifCond .eq 12, 3) := by decide +kernel
theorem dX6_setCapacity_8 : decode cX6_setCapacity 8 = .ok (.iload_n 2, 1) := by decide +kernel
theorem dX6_setCapacity_9 : decode cX6_setCapacity 9 = .ok (.iconst 1, 1) := by decide +kernel
theorem dX6_setCapacity_10 : decode cX6_setCapacity 10 = .ok (.iconst 2, 1) := by decide +kernel
theorem dX6_setCapacity_11 : decode cX6_setCapacity 11 = .ok (.invokestatic 48, 3) := by decide +kernel
theorem dX6_setCapacity_14 : decode cX6_setCapacity 14 = .ok (.ifCond .ne 6, 3) := by decide +kernel
theorem dX6_setCapacity_17 : decode cX6_setCapacity 17 = .ok (.bipush (-101), 2) := by decide +kernel
theorem dX6_setCapacity_19 : decode cX6_setCapacity 19 = .ok (.ireturn, 1) := by decide +kernel
theorem dX6_setCapacity_20 : decode cX6_setCapacity 20 = .ok (.aload_n 0, 1) := by decide +kernel
theorem dX6_setCapacity_21 : decode cX6_setCapacity 21 = .ok (.getfield 16, 3) := by decide +kernel
theorem dX6_setCapacity_24 : decode cX6_setCapacity 24 = .ok (.iload_n 1, 1) := by decide +kernel
theorem dX6_setCapacity_25 : decode cX6_setCapacity 25 = .ok (.iaload, 1) := by decide +kernel
theorem dX6_setCapacity_26 : decode cX6_setCapacity 26 = .ok (.istore_n 3, 1) := by decide +kernel
theorem dX6_setCapacity_27 : decode cX6_setCapacity 27 = .ok (.aload_n 0, 1) := by decide +kernel
theorem dX6_setCapacity_28 : decode cX6_setCapacity 28 = .ok (.getfield 16, 3) := by decide +kernel
theorem dX6_setCapacity_31 : decode cX6_setCapacity 31 = .ok (.iload_n 1, 1) := by decide +kernel
theorem dX6_setCapacity_32 : decode cX6_setCapacity 32 = .ok (.iload_n 2, 1) := by decide +kernel
theorem dX6_setCapacity_33 : decode cX6_setCapacity 33 = .ok (.iastore, 1) := by decide +kernel
theorem dX6_setCapacity_34 : decode cX6_setCapacity 34 = .ok (.aload_n 0, 1) := by decide +kernel
theorem dX6_setCapacity_35 : decode cX6_setCapacity 35 = .ok (.invokevirtual 42, 3) := by decide +kernel
theorem dX6_setCapacity_38 : decode cX6_setCapacity 38 = .ok (.iload_n 3, 1) := by decide +kernel
theorem dX6_setCapacity_39 : decode cX6_setCapacity 39 = .ok (.ireturn, 1) := by decide +kernel
theorem dX6_rank_0 : decode cX6_rank 0 = .ok (.iconst 0, 1) := by decide +kernel
theorem dX6_rank_1 : decode cX6_rank 1 = .ok (.istore_n 3, 1) := by decide +kernel
theorem dX6_rank_2 : decode cX6_rank 2 = .ok (.iload_n 3, 1) := by decide +kernel
theorem dX6_rank_3 : decode cX6_rank 3 = .ok (.aload_n 0, 1) := by decide +kernel
theorem dX6_rank_4 : decode cX6_rank 4 = .ok (.getfield 20, 3) := by decide +kernel
theorem dX6_rank_7 : decode cX6_rank 7 = .ok (.iload_n 1, 1) := by decide +kernel
theorem dX6_rank_8 : decode cX6_rank 8 = .ok (.iaload, 1) := by decide +kernel
theorem dX6_rank_9 : decode cX6_rank 9 = .ok (.if_icmp .ge 25, 3) := by decide +kernel
theorem dX6_rank_12 : decode cX6_rank 12 = .ok (.aload_n 0, 1) := by decide +kernel
theorem dX6_rank_13 : decode cX6_rank 13 = .ok (.getfield 23, 3) := by decide +kernel
theorem dX6_rank_16 : decode cX6_rank 16 = .ok (.iconst 5, 1) := by decide +kernel
theorem dX6_rank_17 : decode cX6_rank 17 = .ok (.iload_n 1, 1) := by decide +kernel
theorem dX6_rank_18 : decode cX6_rank 18 = .ok (.imul, 1) := by decide +kernel
theorem dX6_rank_19 : decode cX6_rank 19 = .ok (.iload_n 3, 1) := by decide +kernel
theorem dX6_rank_20 : decode cX6_rank 20 = .ok (.iadd, 1) := by decide +kernel
theorem dX6_rank_21 : decode cX6_rank 21 = .ok (.iaload, 1) := by decide +kernel
theorem dX6_rank_22 : decode cX6_rank 22 = .ok (.iload_n 2, 1) := by decide +kernel
theorem dX6_rank_23 : decode cX6_rank 23 = .ok (.if_icmp .ne 5, 3) := by decide +kernel
theorem dX6_rank_26 : decode cX6_rank 26 = .ok (.iload_n 3, 1) := by decide +kernel
theorem dX6_rank_27 : decode cX6_rank 27 = .ok (.ireturn, 1) := by decide +kernel
theorem dX6_rank_28 : decode cX6_rank 28 = .ok (.iinc 3 1, 3) := by decide +kernel
theorem dX6_rank_31 : decode cX6_rank 31 = .ok (.goto (-29), 3) := by decide +kernel
theorem dX6_rank_34 : decode cX6_rank 34 = .ok (.bipush 9, 2) := by decide +kernel
theorem dX6_rank_36 : decode cX6_rank 36 = .ok (.ireturn, 1) := by decide +kernel
set_option maxRecDepth 20000 in
theorem ggX6_appendPreference_X6_isApplicant : GoodIn wsX6_appendPreference wsX6_isApplicant := goodIn_r _ [7, 8, 9, 10, 6, 11, 27, 28, 29, 30, 31, 32, 33, 34, 35, 36] (by decide +kernel) (by decide +kernel)
set_option maxRecDepth 20000 in
theorem gX6_appendPreference_X6_isApplicant : GoodIn wsX6_appendPreference (wsV RX6 56 RX6 yX6_isApplicant wsX6_isApplicant) := goodIn_app (goodIn_of _ (by decide +kernel)) ggX6_appendPreference_X6_isApplicant
set_option maxRecDepth 20000 in
theorem ggX6_appendPreference_X6_isPost : GoodIn wsX6_appendPreference wsX6_isPost := goodIn_r _ [15, 16, 9, 10, 6, 11, 27, 28, 29, 30, 31, 32, 33, 34, 35, 36] (by decide +kernel) (by decide +kernel)
set_option maxRecDepth 20000 in
theorem gX6_appendPreference_X6_isPost : GoodIn wsX6_appendPreference (wsV RX6 52 RX6 yX6_isPost wsX6_isPost) := goodIn_app (goodIn_of _ (by decide +kernel)) ggX6_appendPreference_X6_isPost
set_option maxRecDepth 20000 in
theorem ggX6_appendPreference_X6_rank : GoodIn wsX6_appendPreference wsX6_rank := goodIn_r _ [20, 2, 1, 27, 28, 29, 30, 31, 32, 33, 34, 35, 36] (by decide +kernel) (by decide +kernel)
set_option maxRecDepth 20000 in
theorem gX6_appendPreference_X6_rank : GoodIn wsX6_appendPreference (wsV RX6 59 RX6 yX6_rank wsX6_rank) := goodIn_app (goodIn_of _ (by decide +kernel)) ggX6_appendPreference_X6_rank
set_option maxRecDepth 20000 in
theorem ggX6_appendPreference_X6_clears : GoodIn wsX6_appendPreference wsX6_clears := goodIn_r _ [24, 25, 26, 27, 28, 29, 30, 31, 32, 33, 34, 35, 36] (by decide +kernel) (by decide +kernel)
set_option maxRecDepth 20000 in
theorem gX6_appendPreference_X6_clears : GoodIn wsX6_appendPreference (wsV RX6 42 RX6 yX6_clears wsX6_clears) := goodIn_app (goodIn_of _ (by decide +kernel)) ggX6_appendPreference_X6_clears
theorem dX6_appendPreference_0 : decode cX6_appendPreference 0 = .ok (.aload_n 0, 1) := by decide +kernel
theorem dX6_appendPreference_1 : decode cX6_appendPreference 1 = .ok (.iload_n 1, 1) := by decide +kernel
theorem dX6_appendPreference_2 : decode cX6_appendPreference 2 = .ok (.invokevirtual 56, 3) := by decide +kernel
theorem dX6_appendPreference_5 : decode cX6_appendPreference 5 = .ok (.ifCond .eq 11, 3) := by decide +kernel
theorem dX6_appendPreference_8 : decode cX6_appendPreference 8 = .ok (.aload_n 0, 1) := by decide +kernel
theorem dX6_appendPreference_9 : decode cX6_appendPreference 9 = .ok (.iload_n 2, 1) := by decide +kernel
theorem dX6_appendPreference_10 : decode cX6_appendPreference 10 = .ok (.invokevirtual 52, 3) := by decide +kernel
theorem dX6_appendPreference_13 : decode cX6_appendPreference 13 = .ok (.ifCond .ne 6, 3) := by decide +kernel
theorem dX6_appendPreference_16 : decode cX6_appendPreference 16 = .ok (.bipush (-101), 2) := by decide +kernel
theorem dX6_appendPreference_18 : decode cX6_appendPreference 18 = .ok (.ireturn, 1) := by decide +kernel
theorem dX6_appendPreference_19 : decode cX6_appendPreference 19 = .ok (.aload_n 0, 1) := by decide +kernel
theorem dX6_appendPreference_20 : decode cX6_appendPreference 20 = .ok (.iload_n 1, 1) := by decide +kernel
theorem dX6_appendPreference_21 : decode cX6_appendPreference 21 = .ok (.iload_n 2, 1) := by decide +kernel
theorem dX6_appendPreference_22 : decode cX6_appendPreference 22 = .ok (.invokevirtual 59, 3) := by decide +kernel
theorem dX6_appendPreference_25 : decode cX6_appendPreference 25 = .ok (.bipush 9, 2) := by decide +kernel
theorem dX6_appendPreference_27 : decode cX6_appendPreference 27 = .ok (.if_icmp .ge 6, 3) := by decide +kernel
theorem dX6_appendPreference_30 : decode cX6_appendPreference 30 = .ok (.bipush (-102), 2) := by decide +kernel
theorem dX6_appendPreference_32 : decode cX6_appendPreference 32 = .ok (.ireturn, 1) := by decide +kernel
theorem dX6_appendPreference_33 : decode cX6_appendPreference 33 = .ok (.aload_n 0, 1) := by decide +kernel
theorem dX6_appendPreference_34 : decode cX6_appendPreference 34 = .ok (.getfield 23, 3) := by decide +kernel
theorem dX6_appendPreference_37 : decode cX6_appendPreference 37 = .ok (.iconst 5, 1) := by decide +kernel
theorem dX6_appendPreference_38 : decode cX6_appendPreference 38 = .ok (.iload_n 1, 1) := by decide +kernel
theorem dX6_appendPreference_39 : decode cX6_appendPreference 39 = .ok (.imul, 1) := by decide +kernel
theorem dX6_appendPreference_40 : decode cX6_appendPreference 40 = .ok (.aload_n 0, 1) := by decide +kernel
theorem dX6_appendPreference_41 : decode cX6_appendPreference 41 = .ok (.getfield 20, 3) := by decide +kernel
theorem dX6_appendPreference_44 : decode cX6_appendPreference 44 = .ok (.iload_n 1, 1) := by decide +kernel
theorem dX6_appendPreference_45 : decode cX6_appendPreference 45 = .ok (.iaload, 1) := by decide +kernel
theorem dX6_appendPreference_46 : decode cX6_appendPreference 46 = .ok (.iadd, 1) := by decide +kernel
theorem dX6_appendPreference_47 : decode cX6_appendPreference 47 = .ok (.iload_n 2, 1) := by decide +kernel
theorem dX6_appendPreference_48 : decode cX6_appendPreference 48 = .ok (.iastore, 1) := by decide +kernel
theorem dX6_appendPreference_49 : decode cX6_appendPreference 49 = .ok (.aload_n 0, 1) := by decide +kernel
theorem dX6_appendPreference_50 : decode cX6_appendPreference 50 = .ok (.getfield 20, 3) := by decide +kernel
theorem dX6_appendPreference_53 : decode cX6_appendPreference 53 = .ok (.iload_n 1, 1) := by decide +kernel
theorem dX6_appendPreference_54 : decode cX6_appendPreference 54 = .ok (.dup2, 1) := by decide +kernel
theorem dX6_appendPreference_55 : decode cX6_appendPreference 55 = .ok (.iaload, 1) := by decide +kernel
theorem dX6_appendPreference_56 : decode cX6_appendPreference 56 = .ok (.iconst 1, 1) := by decide +kernel
theorem dX6_appendPreference_57 : decode cX6_appendPreference 57 = .ok (.iadd, 1) := by decide +kernel
theorem dX6_appendPreference_58 : decode cX6_appendPreference 58 = .ok (.iastore, 1) := by decide +kernel
theorem dX6_appendPreference_59 : decode cX6_appendPreference 59 = .ok (.aload_n 0, 1) := by decide +kernel
theorem dX6_appendPreference_60 : decode cX6_appendPreference 60 = .ok (.invokevirtual 42, 3) := by decide +kernel
theorem dX6_appendPreference_63 : decode cX6_appendPreference 63 = .ok (.aload_n 0, 1) := by decide +kernel
theorem dX6_appendPreference_64 : decode cX6_appendPreference 64 = .ok (.getfield 20, 3) := by decide +kernel
theorem dX6_appendPreference_67 : decode cX6_appendPreference 67 = .ok (.iload_n 1, 1) := by decide +kernel
theorem dX6_appendPreference_68 : decode cX6_appendPreference 68 = .ok (.iaload, 1) := by decide +kernel
theorem dX6_appendPreference_69 : decode cX6_appendPreference 69 = .ok (.ireturn, 1) := by decide +kernel
set_option maxRecDepth 20000 in
theorem ggX6_clearPreferences_X6_isApplicant : GoodIn wsX6_clearPreferences wsX6_isApplicant := goodIn_r _ [6, 7, 8, 9, 5, 10, 17, 18, 19, 20, 21, 22, 23, 24, 25, 26] (by decide +kernel) (by decide +kernel)
set_option maxRecDepth 20000 in
theorem gX6_clearPreferences_X6_isApplicant : GoodIn wsX6_clearPreferences (wsV RX6 56 RX6 yX6_isApplicant wsX6_isApplicant) := goodIn_app (goodIn_of _ (by decide +kernel)) ggX6_clearPreferences_X6_isApplicant
set_option maxRecDepth 20000 in
theorem ggX6_clearPreferences_X6_clears : GoodIn wsX6_clearPreferences wsX6_clears := goodIn_r _ [14, 15, 16, 17, 18, 19, 20, 21, 22, 23, 24, 25, 26] (by decide +kernel) (by decide +kernel)
set_option maxRecDepth 20000 in
theorem gX6_clearPreferences_X6_clears : GoodIn wsX6_clearPreferences (wsV RX6 42 RX6 yX6_clears wsX6_clears) := goodIn_app (goodIn_of _ (by decide +kernel)) ggX6_clearPreferences_X6_clears
theorem dX6_clearPreferences_0 : decode cX6_clearPreferences 0 = .ok (.aload_n 0, 1) := by decide +kernel
theorem dX6_clearPreferences_1 : decode cX6_clearPreferences 1 = .ok (.iload_n 1, 1) := by decide +kernel
theorem dX6_clearPreferences_2 : decode cX6_clearPreferences 2 = .ok (.invokevirtual 56, 3) := by decide +kernel
theorem dX6_clearPreferences_5 : decode cX6_clearPreferences 5 = .ok (.ifCond .ne 6, 3) := by decide +kernel
theorem dX6_clearPreferences_8 : decode cX6_clearPreferences 8 = .ok (.bipush (-101), 2) := by decide +kernel
theorem dX6_clearPreferences_10 : decode cX6_clearPreferences 10 = .ok (.ireturn, 1) := by decide +kernel
theorem dX6_clearPreferences_11 : decode cX6_clearPreferences 11 = .ok (.aload_n 0, 1) := by decide +kernel
theorem dX6_clearPreferences_12 : decode cX6_clearPreferences 12 = .ok (.getfield 20, 3) := by decide +kernel
theorem dX6_clearPreferences_15 : decode cX6_clearPreferences 15 = .ok (.iload_n 1, 1) := by decide +kernel
theorem dX6_clearPreferences_16 : decode cX6_clearPreferences 16 = .ok (.iaload, 1) := by decide +kernel
theorem dX6_clearPreferences_17 : decode cX6_clearPreferences 17 = .ok (.istore_n 2, 1) := by decide +kernel
theorem dX6_clearPreferences_18 : decode cX6_clearPreferences 18 = .ok (.aload_n 0, 1) := by decide +kernel
theorem dX6_clearPreferences_19 : decode cX6_clearPreferences 19 = .ok (.getfield 20, 3) := by decide +kernel
theorem dX6_clearPreferences_22 : decode cX6_clearPreferences 22 = .ok (.iload_n 1, 1) := by decide +kernel
theorem dX6_clearPreferences_23 : decode cX6_clearPreferences 23 = .ok (.iconst 0, 1) := by decide +kernel
theorem dX6_clearPreferences_24 : decode cX6_clearPreferences 24 = .ok (.iastore, 1) := by decide +kernel
theorem dX6_clearPreferences_25 : decode cX6_clearPreferences 25 = .ok (.aload_n 0, 1) := by decide +kernel
theorem dX6_clearPreferences_26 : decode cX6_clearPreferences 26 = .ok (.invokevirtual 42, 3) := by decide +kernel
theorem dX6_clearPreferences_29 : decode cX6_clearPreferences 29 = .ok (.iload_n 2, 1) := by decide +kernel
theorem dX6_clearPreferences_30 : decode cX6_clearPreferences 30 = .ok (.ireturn, 1) := by decide +kernel
set_option maxRecDepth 20000 in
theorem ggX6_preferenceAt_X6_isApplicant : GoodIn wsX6_preferenceAt wsX6_isApplicant := goodIn_r _ [7, 8, 9, 10, 6, 11, 12, 13, 14, 15, 16, 17, 18, 19, 20, 21] (by decide +kernel) (by decide +kernel)
set_option maxRecDepth 20000 in
theorem gX6_preferenceAt_X6_isApplicant : GoodIn wsX6_preferenceAt (wsV RX6 56 RX6 yX6_isApplicant wsX6_isApplicant) := goodIn_app (goodIn_of _ (by decide +kernel)) ggX6_preferenceAt_X6_isApplicant
theorem dX6_preferenceAt_0 : decode cX6_preferenceAt 0 = .ok (.aload_n 0, 1) := by decide +kernel
theorem dX6_preferenceAt_1 : decode cX6_preferenceAt 1 = .ok (.iload_n 1, 1) := by decide +kernel
theorem dX6_preferenceAt_2 : decode cX6_preferenceAt 2 = .ok (.invokevirtual 56, 3) := by decide +kernel
theorem dX6_preferenceAt_5 : decode cX6_preferenceAt 5 = .ok (.ifCond .eq 7, 3) := by decide +kernel
theorem dX6_preferenceAt_8 : decode cX6_preferenceAt 8 = .ok (.iload_n 2, 1) := by decide +kernel
theorem dX6_preferenceAt_9 : decode cX6_preferenceAt 9 = .ok (.ifCond .ge 6, 3) := by decide +kernel
theorem dX6_preferenceAt_12 : decode cX6_preferenceAt 12 = .ok (.bipush (-101), 2) := by decide +kernel
theorem dX6_preferenceAt_14 : decode cX6_preferenceAt 14 = .ok (.ireturn, 1) := by decide +kernel
theorem dX6_preferenceAt_15 : decode cX6_preferenceAt 15 = .ok (.iload_n 2, 1) := by decide +kernel
theorem dX6_preferenceAt_16 : decode cX6_preferenceAt 16 = .ok (.aload_n 0, 1) := by decide +kernel
theorem dX6_preferenceAt_17 : decode cX6_preferenceAt 17 = .ok (.getfield 20, 3) := by decide +kernel
theorem dX6_preferenceAt_20 : decode cX6_preferenceAt 20 = .ok (.iload_n 1, 1) := by decide +kernel
theorem dX6_preferenceAt_21 : decode cX6_preferenceAt 21 = .ok (.iaload, 1) := by decide +kernel
theorem dX6_preferenceAt_22 : decode cX6_preferenceAt 22 = .ok (.if_icmp .ge 16, 3) := by decide +kernel
theorem dX6_preferenceAt_25 : decode cX6_preferenceAt 25 = .ok (.aload_n 0, 1) := by decide +kernel
theorem dX6_preferenceAt_26 : decode cX6_preferenceAt 26 = .ok (.getfield 23, 3) := by decide +kernel
theorem dX6_preferenceAt_29 : decode cX6_preferenceAt 29 = .ok (.iconst 5, 1) := by decide +kernel
theorem dX6_preferenceAt_30 : decode cX6_preferenceAt 30 = .ok (.iload_n 1, 1) := by decide +kernel
theorem dX6_preferenceAt_31 : decode cX6_preferenceAt 31 = .ok (.imul, 1) := by decide +kernel
theorem dX6_preferenceAt_32 : decode cX6_preferenceAt 32 = .ok (.iload_n 2, 1) := by decide +kernel
theorem dX6_preferenceAt_33 : decode cX6_preferenceAt 33 = .ok (.iadd, 1) := by decide +kernel
theorem dX6_preferenceAt_34 : decode cX6_preferenceAt 34 = .ok (.iaload, 1) := by decide +kernel
theorem dX6_preferenceAt_35 : decode cX6_preferenceAt 35 = .ok (.goto 5, 3) := by decide +kernel
theorem dX6_preferenceAt_38 : decode cX6_preferenceAt 38 = .ok (.bipush (-104), 2) := by decide +kernel
theorem dX6_preferenceAt_40 : decode cX6_preferenceAt 40 = .ok (.ireturn, 1) := by decide +kernel
theorem dX6_first_0 : decode cX6_first 0 = .ok (.aload_n 0, 1) := by decide +kernel
theorem dX6_first_1 : decode cX6_first 1 = .ok (.getfield 20, 3) := by decide +kernel
theorem dX6_first_4 : decode cX6_first 4 = .ok (.iload_n 1, 1) := by decide +kernel
theorem dX6_first_5 : decode cX6_first 5 = .ok (.iaload, 1) := by decide +kernel
theorem dX6_first_6 : decode cX6_first 6 = .ok (.ifCond .le 14, 3) := by decide +kernel
theorem dX6_first_9 : decode cX6_first 9 = .ok (.aload_n 0, 1) := by decide +kernel
theorem dX6_first_10 : decode cX6_first 10 = .ok (.getfield 23, 3) := by decide +kernel
theorem dX6_first_13 : decode cX6_first 13 = .ok (.iconst 5, 1) := by decide +kernel
theorem dX6_first_14 : decode cX6_first 14 = .ok (.iload_n 1, 1) := by decide +kernel
theorem dX6_first_15 : decode cX6_first 15 = .ok (.imul, 1) := by decide +kernel
theorem dX6_first_16 : decode cX6_first 16 = .ok (.iaload, 1) := by decide +kernel
theorem dX6_first_17 : decode cX6_first 17 = .ok (.goto 4, 3) := by decide +kernel
theorem dX6_first_20 : decode cX6_first 20 = .ok (.iconst (-1), 1) := by decide +kernel
theorem dX6_first_21 : decode cX6_first 21 = .ok (.ireturn, 1) := by decide +kernel
set_option maxRecDepth 20000 in
theorem ggX6_firsts_X6_first : GoodIn wsX6_firsts wsX6_first := goodIn_r _ [6, 7, 8, 9, 10, 11, 12, 13, 14, 15, 16, 17, 18] (by decide +kernel) (by decide +kernel)
set_option maxRecDepth 20000 in
theorem gX6_firsts_X6_first : GoodIn wsX6_firsts (wsV RX6 63 RX6 yX6_first wsX6_first) := goodIn_app (goodIn_of _ (by decide +kernel)) ggX6_firsts_X6_first
theorem dX6_firsts_0 : decode cX6_firsts 0 = .ok (.iconst 0, 1) := by decide +kernel
theorem dX6_firsts_1 : decode cX6_firsts 1 = .ok (.istore_n 2, 1) := by decide +kernel
theorem dX6_firsts_2 : decode cX6_firsts 2 = .ok (.iconst 0, 1) := by decide +kernel
theorem dX6_firsts_3 : decode cX6_firsts 3 = .ok (.istore_n 3, 1) := by decide +kernel
theorem dX6_firsts_4 : decode cX6_firsts 4 = .ok (.iload_n 3, 1) := by decide +kernel
theorem dX6_firsts_5 : decode cX6_firsts 5 = .ok (.aload_n 0, 1) := by decide +kernel
theorem dX6_firsts_6 : decode cX6_firsts 6 = .ok (.getfield 7, 3) := by decide +kernel
theorem dX6_firsts_9 : decode cX6_firsts 9 = .ok (.if_icmp .ge 26, 3) := by decide +kernel
theorem dX6_firsts_12 : decode cX6_firsts 12 = .ok (.iload_n 2, 1) := by decide +kernel
theorem dX6_firsts_13 : decode cX6_firsts 13 = .ok (.aload_n 0, 1) := by decide +kernel
theorem dX6_firsts_14 : decode cX6_firsts 14 = .ok (.iload_n 3, 1) := by decide +kernel
theorem dX6_firsts_15 : decode cX6_firsts 15 = .ok (.invokevirtual 63, 3) := by decide +kernel
theorem dX6_firsts_18 : decode cX6_firsts 18 = .ok (.iload_n 1, 1) := by decide +kernel
theorem dX6_firsts_19 : decode cX6_firsts 19 = .ok (.if_icmp .ne 7, 3) := by decide +kernel
theorem dX6_firsts_22 : decode cX6_firsts 22 = .ok (.iconst 1, 1) := by decide +kernel
theorem dX6_firsts_23 : decode cX6_firsts 23 = .ok (.goto 4, 3) := by decide +kernel
theorem dX6_firsts_26 : decode cX6_firsts 26 = .ok (.iconst 0, 1) := by decide +kernel
theorem dX6_firsts_27 : decode cX6_firsts 27 = .ok (.iadd, 1) := by decide +kernel
theorem dX6_firsts_28 : decode cX6_firsts 28 = .ok (.istore_n 2, 1) := by decide +kernel
theorem dX6_firsts_29 : decode cX6_firsts 29 = .ok (.iinc 3 1, 3) := by decide +kernel
theorem dX6_firsts_32 : decode cX6_firsts 32 = .ok (.goto (-28), 3) := by decide +kernel
theorem dX6_firsts_35 : decode cX6_firsts 35 = .ok (.iload_n 2, 1) := by decide +kernel
theorem dX6_firsts_36 : decode cX6_firsts 36 = .ok (.ireturn, 1) := by decide +kernel
set_option maxRecDepth 20000 in
theorem ggX6_second_X6_firsts : GoodIn wsX6_second wsX6_firsts := goodIn_r _ [8, 9, 10, 11, 12, 7, 13, 1, 2, 14, 15, 16, 17, 18, 19, 20, 21, 22, 23] (by decide +kernel) (by decide +kernel)
set_option maxRecDepth 20000 in
theorem gX6_second_X6_firsts : GoodIn wsX6_second (wsV RX6 67 RX6 yX6_firsts wsX6_firsts) := goodIn_app (goodIn_of _ (by decide +kernel)) ggX6_second_X6_firsts
theorem dX6_second_0 : decode cX6_second 0 = .ok (.iconst 1, 1) := by decide +kernel
theorem dX6_second_1 : decode cX6_second 1 = .ok (.istore_n 2, 1) := by decide +kernel
theorem dX6_second_2 : decode cX6_second 2 = .ok (.iload_n 2, 1) := by decide +kernel
theorem dX6_second_3 : decode cX6_second 3 = .ok (.aload_n 0, 1) := by decide +kernel
theorem dX6_second_4 : decode cX6_second 4 = .ok (.getfield 20, 3) := by decide +kernel
theorem dX6_second_7 : decode cX6_second 7 = .ok (.iload_n 1, 1) := by decide +kernel
theorem dX6_second_8 : decode cX6_second 8 = .ok (.iaload, 1) := by decide +kernel
theorem dX6_second_9 : decode cX6_second 9 = .ok (.if_icmp .ge 36, 3) := by decide +kernel
theorem dX6_second_12 : decode cX6_second 12 = .ok (.aload_n 0, 1) := by decide +kernel
theorem dX6_second_13 : decode cX6_second 13 = .ok (.getfield 23, 3) := by decide +kernel
theorem dX6_second_16 : decode cX6_second 16 = .ok (.iconst 5, 1) := by decide +kernel
theorem dX6_second_17 : decode cX6_second 17 = .ok (.iload_n 1, 1) := by decide +kernel
theorem dX6_second_18 : decode cX6_second 18 = .ok (.imul, 1) := by decide +kernel
theorem dX6_second_19 : decode cX6_second 19 = .ok (.iload_n 2, 1) := by decide +kernel
theorem dX6_second_20 : decode cX6_second 20 = .ok (.iadd, 1) := by decide +kernel
theorem dX6_second_21 : decode cX6_second 21 = .ok (.iaload, 1) := by decide +kernel
theorem dX6_second_22 : decode cX6_second 22 = .ok (.istore_n 3, 1) := by decide +kernel
theorem dX6_second_23 : decode cX6_second 23 = .ok (.aload_n 0, 1) := by decide +kernel
theorem dX6_second_24 : decode cX6_second 24 = .ok (.iload_n 3, 1) := by decide +kernel
theorem dX6_second_25 : decode cX6_second 25 = .ok (.invokevirtual 67, 3) := by decide +kernel
theorem dX6_second_28 : decode cX6_second 28 = .ok (.aload_n 0, 1) := by decide +kernel
theorem dX6_second_29 : decode cX6_second 29 = .ok (.getfield 16, 3) := by decide +kernel
theorem dX6_second_32 : decode cX6_second 32 = .ok (.iload_n 3, 1) := by decide +kernel
theorem dX6_second_33 : decode cX6_second 33 = .ok (.iaload, 1) := by decide +kernel
theorem dX6_second_34 : decode cX6_second 34 = .ok (.if_icmp .ge 5, 3) := by decide +kernel
theorem dX6_second_37 : decode cX6_second 37 = .ok (.iload_n 3, 1) := by decide +kernel
theorem dX6_second_38 : decode cX6_second 38 = .ok (.ireturn, 1) := by decide +kernel
theorem dX6_second_39 : decode cX6_second 39 = .ok (.iinc 2 1, 3) := by decide +kernel
theorem dX6_second_42 : decode cX6_second 42 = .ok (.goto (-40), 3) := by decide +kernel
theorem dX6_second_45 : decode cX6_second 45 = .ok (.iconst (-1), 1) := by decide +kernel
theorem dX6_second_46 : decode cX6_second 46 = .ok (.ireturn, 1) := by decide +kernel
set_option maxRecDepth 20000 in
theorem ggX6_firstPost_X6_isApplicant : GoodIn wsX6_firstPost wsX6_isApplicant := goodIn_r _ [5, 6, 7, 8, 4, 9, 16, 17, 18, 19, 20, 21, 22, 23, 24, 25] (by decide +kernel) (by decide +kernel)
set_option maxRecDepth 20000 in
theorem gX6_firstPost_X6_isApplicant : GoodIn wsX6_firstPost (wsV RX6 56 RX6 yX6_isApplicant wsX6_isApplicant) := goodIn_app (goodIn_of _ (by decide +kernel)) ggX6_firstPost_X6_isApplicant
set_option maxRecDepth 20000 in
theorem ggX6_firstPost_X6_first : GoodIn wsX6_firstPost wsX6_first := goodIn_r _ [13, 14, 15, 16, 17, 18, 19, 20, 21, 22, 23, 24, 25] (by decide +kernel) (by decide +kernel)
set_option maxRecDepth 20000 in
theorem gX6_firstPost_X6_first : GoodIn wsX6_firstPost (wsV RX6 63 RX6 yX6_first wsX6_first) := goodIn_app (goodIn_of _ (by decide +kernel)) ggX6_firstPost_X6_first
theorem dX6_firstPost_0 : decode cX6_firstPost 0 = .ok (.aload_n 0, 1) := by decide +kernel
theorem dX6_firstPost_1 : decode cX6_firstPost 1 = .ok (.iload_n 1, 1) := by decide +kernel
theorem dX6_firstPost_2 : decode cX6_firstPost 2 = .ok (.invokevirtual 56, 3) := by decide +kernel
theorem dX6_firstPost_5 : decode cX6_firstPost 5 = .ok (.ifCond .eq 11, 3) := by decide +kernel
theorem dX6_firstPost_8 : decode cX6_firstPost 8 = .ok (.aload_n 0, 1) := by decide +kernel
theorem dX6_firstPost_9 : decode cX6_firstPost 9 = .ok (.iload_n 1, 1) := by decide +kernel
theorem dX6_firstPost_10 : decode cX6_firstPost 10 = .ok (.invokevirtual 63, 3) := by decide +kernel
theorem dX6_firstPost_13 : decode cX6_firstPost 13 = .ok (.goto 5, 3) := by decide +kernel
theorem dX6_firstPost_16 : decode cX6_firstPost 16 = .ok (.bipush (-101), 2) := by decide +kernel
theorem dX6_firstPost_18 : decode cX6_firstPost 18 = .ok (.ireturn, 1) := by decide +kernel
set_option maxRecDepth 20000 in
theorem ggX6_secondPost_X6_isApplicant : GoodIn wsX6_secondPost wsX6_isApplicant := goodIn_r _ [5, 6, 7, 8, 4, 9, 25, 26, 27, 28, 29, 30, 31, 32, 33, 34] (by decide +kernel) (by decide +kernel)
set_option maxRecDepth 20000 in
theorem gX6_secondPost_X6_isApplicant : GoodIn wsX6_secondPost (wsV RX6 56 RX6 yX6_isApplicant wsX6_isApplicant) := goodIn_app (goodIn_of _ (by decide +kernel)) ggX6_secondPost_X6_isApplicant
set_option maxRecDepth 20000 in
theorem ggX6_secondPost_X6_second : GoodIn wsX6_secondPost wsX6_second := goodIn_r _ [13, 14, 15, 16, 17, 18, 19, 4, 20, 6, 21, 22, 23, 24, 25, 26, 27, 28, 29, 30, 31, 32, 33, 34] (by decide +kernel) (by decide +kernel)
set_option maxRecDepth 20000 in
theorem gX6_secondPost_X6_second : GoodIn wsX6_secondPost (wsV RX6 70 RX6 yX6_second wsX6_second) := goodIn_app (goodIn_of _ (by decide +kernel)) ggX6_secondPost_X6_second
theorem dX6_secondPost_0 : decode cX6_secondPost 0 = .ok (.aload_n 0, 1) := by decide +kernel
theorem dX6_secondPost_1 : decode cX6_secondPost 1 = .ok (.iload_n 1, 1) := by decide +kernel
theorem dX6_secondPost_2 : decode cX6_secondPost 2 = .ok (.invokevirtual 56, 3) := by decide +kernel
theorem dX6_secondPost_5 : decode cX6_secondPost 5 = .ok (.ifCond .eq 11, 3) := by decide +kernel
theorem dX6_secondPost_8 : decode cX6_secondPost 8 = .ok (.aload_n 0, 1) := by decide +kernel
theorem dX6_secondPost_9 : decode cX6_secondPost 9 = .ok (.iload_n 1, 1) := by decide +kernel
theorem dX6_secondPost_10 : decode cX6_secondPost 10 = .ok (.invokevirtual 70, 3) := by decide +kernel
theorem dX6_secondPost_13 : decode cX6_secondPost 13 = .ok (.goto 5, 3) := by decide +kernel
theorem dX6_secondPost_16 : decode cX6_secondPost 16 = .ok (.bipush (-101), 2) := by decide +kernel
theorem dX6_secondPost_18 : decode cX6_secondPost 18 = .ok (.ireturn, 1) := by decide +kernel
theorem dX6_edit_0 : decode cX6_edit 0 = .ok (.aload_n 0, 1) := by decide +kernel
theorem dX6_edit_1 : decode cX6_edit 1 = .ok (.getfield 45, 3) := by decide +kernel
theorem dX6_edit_4 : decode cX6_edit 4 = .ok (.iconst 5, 1) := by decide +kernel
theorem dX6_edit_5 : decode cX6_edit 5 = .ok (.if_icmp .ne 42, 3) := by decide +kernel
theorem dX6_edit_8 : decode cX6_edit 8 = .ok (.iconst 0, 1) := by decide +kernel
theorem dX6_edit_9 : decode cX6_edit 9 = .ok (.istore_n 1, 1) := by decide +kernel
theorem dX6_edit_10 : decode cX6_edit 10 = .ok (.iload_n 1, 1) := by decide +kernel
theorem dX6_edit_11 : decode cX6_edit 11 = .ok (.bipush 48, 2) := by decide +kernel
theorem dX6_edit_13 : decode cX6_edit 13 = .ok (.if_icmp .ge 24, 3) := by decide +kernel
theorem dX6_edit_16 : decode cX6_edit 16 = .ok (.aload_n 0, 1) := by decide +kernel
theorem dX6_edit_17 : decode cX6_edit 17 = .ok (.getfield 29, 3) := by decide +kernel
theorem dX6_edit_20 : decode cX6_edit 20 = .ok (.iload_n 1, 1) := by decide +kernel
theorem dX6_edit_21 : decode cX6_edit 21 = .ok (.aload_n 0, 1) := by decide +kernel
theorem dX6_edit_22 : decode cX6_edit 22 = .ok (.getfield 29, 3) := by decide +kernel
theorem dX6_edit_25 : decode cX6_edit 25 = .ok (.iload_n 1, 1) := by decide +kernel
theorem dX6_edit_26 : decode cX6_edit 26 = .ok (.bipush 12, 2) := by decide +kernel
theorem dX6_edit_28 : decode cX6_edit 28 = .ok (.iadd, 1) := by decide +kernel
theorem dX6_edit_29 : decode cX6_edit 29 = .ok (.iaload, 1) := by decide +kernel
theorem dX6_edit_30 : decode cX6_edit 30 = .ok (.iastore, 1) := by decide +kernel
theorem dX6_edit_31 : decode cX6_edit 31 = .ok (.iinc 1 1, 3) := by decide +kernel
theorem dX6_edit_34 : decode cX6_edit 34 = .ok (.goto (-24), 3) := by decide +kernel
theorem dX6_edit_37 : decode cX6_edit 37 = .ok (.aload_n 0, 1) := by decide +kernel
theorem dX6_edit_38 : decode cX6_edit 38 = .ok (.dup, 1) := by decide +kernel
theorem dX6_edit_39 : decode cX6_edit 39 = .ok (.getfield 45, 3) := by decide +kernel
theorem dX6_edit_42 : decode cX6_edit 42 = .ok (.iconst 1, 1) := by decide +kernel
theorem dX6_edit_43 : decode cX6_edit 43 = .ok (.isub, 1) := by decide +kernel
theorem dX6_edit_44 : decode cX6_edit 44 = .ok (.putfield 45, 3) := by decide +kernel
theorem dX6_edit_47 : decode cX6_edit 47 = .ok (.iconst 0, 1) := by decide +kernel
theorem dX6_edit_48 : decode cX6_edit 48 = .ok (.istore_n 1, 1) := by decide +kernel
theorem dX6_edit_49 : decode cX6_edit 49 = .ok (.iload_n 1, 1) := by decide +kernel
theorem dX6_edit_50 : decode cX6_edit 50 = .ok (.bipush 12, 2) := by decide +kernel
theorem dX6_edit_52 : decode cX6_edit 52 = .ok (.if_icmp .ge 29, 3) := by decide +kernel
theorem dX6_edit_55 : decode cX6_edit 55 = .ok (.aload_n 0, 1) := by decide +kernel
theorem dX6_edit_56 : decode cX6_edit 56 = .ok (.getfield 29, 3) := by decide +kernel
theorem dX6_edit_59 : decode cX6_edit 59 = .ok (.bipush 12, 2) := by decide +kernel
theorem dX6_edit_61 : decode cX6_edit 61 = .ok (.aload_n 0, 1) := by decide +kernel
theorem dX6_edit_62 : decode cX6_edit 62 = .ok (.getfield 45, 3) := by decide +kernel
theorem dX6_edit_65 : decode cX6_edit 65 = .ok (.imul, 1) := by decide +kernel
theorem dX6_edit_66 : decode cX6_edit 66 = .ok (.iload_n 1, 1) := by decide +kernel
theorem dX6_edit_67 : decode cX6_edit 67 = .ok (.iadd, 1) := by decide +kernel
theorem dX6_edit_68 : decode cX6_edit 68 = .ok (.aload_n 0, 1) := by decide +kernel
theorem dX6_edit_69 : decode cX6_edit 69 = .ok (.getfield 26, 3) := by decide +kernel
theorem dX6_edit_72 : decode cX6_edit 72 = .ok (.iload_n 1, 1) := by decide +kernel
theorem dX6_edit_73 : decode cX6_edit 73 = .ok (.iaload, 1) := by decide +kernel
theorem dX6_edit_74 : decode cX6_edit 74 = .ok (.iastore, 1) := by decide +kernel
theorem dX6_edit_75 : decode cX6_edit 75 = .ok (.iinc 1 1, 3) := by decide +kernel
theorem dX6_edit_78 : decode cX6_edit 78 = .ok (.goto (-29), 3) := by decide +kernel
theorem dX6_edit_81 : decode cX6_edit 81 = .ok (.aload_n 0, 1) := by decide +kernel
theorem dX6_edit_82 : decode cX6_edit 82 = .ok (.dup, 1) := by decide +kernel
theorem dX6_edit_83 : decode cX6_edit 83 = .ok (.getfield 45, 3) := by decide +kernel
theorem dX6_edit_86 : decode cX6_edit 86 = .ok (.iconst 1, 1) := by decide +kernel
theorem dX6_edit_87 : decode cX6_edit 87 = .ok (.iadd, 1) := by decide +kernel
theorem dX6_edit_88 : decode cX6_edit 88 = .ok (.putfield 45, 3) := by decide +kernel
theorem dX6_edit_91 : decode cX6_edit 91 = .ok (.return_, 1) := by decide +kernel
theorem dX6_undo_0 : decode cX6_undo 0 = .ok (.aload_n 0, 1) := by decide +kernel
theorem dX6_undo_1 : decode cX6_undo 1 = .ok (.getfield 45, 3) := by decide +kernel
theorem dX6_undo_4 : decode cX6_undo 4 = .ok (.ifCond .ne 6, 3) := by decide +kernel
theorem dX6_undo_7 : decode cX6_undo 7 = .ok (.bipush (-104), 2) := by decide +kernel
theorem dX6_undo_9 : decode cX6_undo 9 = .ok (.ireturn, 1) := by decide +kernel
theorem dX6_undo_10 : decode cX6_undo 10 = .ok (.aload_n 0, 1) := by decide +kernel
theorem dX6_undo_11 : decode cX6_undo 11 = .ok (.dup, 1) := by decide +kernel
theorem dX6_undo_12 : decode cX6_undo 12 = .ok (.getfield 45, 3) := by decide +kernel
theorem dX6_undo_15 : decode cX6_undo 15 = .ok (.iconst 1, 1) := by decide +kernel
theorem dX6_undo_16 : decode cX6_undo 16 = .ok (.isub, 1) := by decide +kernel
theorem dX6_undo_17 : decode cX6_undo 17 = .ok (.putfield 45, 3) := by decide +kernel
theorem dX6_undo_20 : decode cX6_undo 20 = .ok (.iconst 0, 1) := by decide +kernel
theorem dX6_undo_21 : decode cX6_undo 21 = .ok (.istore_n 1, 1) := by decide +kernel
theorem dX6_undo_22 : decode cX6_undo 22 = .ok (.iload_n 1, 1) := by decide +kernel
theorem dX6_undo_23 : decode cX6_undo 23 = .ok (.bipush 12, 2) := by decide +kernel
theorem dX6_undo_25 : decode cX6_undo 25 = .ok (.if_icmp .ge 29, 3) := by decide +kernel
theorem dX6_undo_28 : decode cX6_undo 28 = .ok (.aload_n 0, 1) := by decide +kernel
theorem dX6_undo_29 : decode cX6_undo 29 = .ok (.getfield 26, 3) := by decide +kernel
theorem dX6_undo_32 : decode cX6_undo 32 = .ok (.iload_n 1, 1) := by decide +kernel
theorem dX6_undo_33 : decode cX6_undo 33 = .ok (.aload_n 0, 1) := by decide +kernel
theorem dX6_undo_34 : decode cX6_undo 34 = .ok (.getfield 29, 3) := by decide +kernel
theorem dX6_undo_37 : decode cX6_undo 37 = .ok (.bipush 12, 2) := by decide +kernel
theorem dX6_undo_39 : decode cX6_undo 39 = .ok (.aload_n 0, 1) := by decide +kernel
theorem dX6_undo_40 : decode cX6_undo 40 = .ok (.getfield 45, 3) := by decide +kernel
theorem dX6_undo_43 : decode cX6_undo 43 = .ok (.imul, 1) := by decide +kernel
theorem dX6_undo_44 : decode cX6_undo 44 = .ok (.iload_n 1, 1) := by decide +kernel
theorem dX6_undo_45 : decode cX6_undo 45 = .ok (.iadd, 1) := by decide +kernel
theorem dX6_undo_46 : decode cX6_undo 46 = .ok (.iaload, 1) := by decide +kernel
theorem dX6_undo_47 : decode cX6_undo 47 = .ok (.iastore, 1) := by decide +kernel
theorem dX6_undo_48 : decode cX6_undo 48 = .ok (.iinc 1 1, 3) := by decide +kernel
theorem dX6_undo_51 : decode cX6_undo 51 = .ok (.goto (-29), 3) := by decide +kernel
theorem dX6_undo_54 : decode cX6_undo 54 = .ok (.aload_n 0, 1) := by decide +kernel
theorem dX6_undo_55 : decode cX6_undo 55 = .ok (.getfield 45, 3) := by decide +kernel
theorem dX6_undo_58 : decode cX6_undo 58 = .ok (.ireturn, 1) := by decide +kernel
set_option maxRecDepth 20000 in
theorem ggX6_assign_X6_isApplicant : GoodIn wsX6_assign wsX6_isApplicant := goodIn_r _ [9, 2, 10, 11, 8, 12, 25, 26, 27, 28, 29, 30, 31, 32, 33, 34] (by decide +kernel) (by decide +kernel)
set_option maxRecDepth 20000 in
theorem gX6_assign_X6_isApplicant : GoodIn wsX6_assign (wsV RX6 56 RX6 yX6_isApplicant wsX6_isApplicant) := goodIn_app (goodIn_of _ (by decide +kernel)) ggX6_assign_X6_isApplicant
set_option maxRecDepth 20000 in
theorem ggX6_assign_X6_in : GoodIn wsX6_assign wsX6_in := goodIn_r _ [12] (by decide +kernel) (by decide +kernel)
set_option maxRecDepth 20000 in
theorem gX6_assign_X6_in : GoodIn wsX6_assign (va_wsS RX6 48 yX6_in wsX6_in) := goodIn_app (goodIn_of _ (by decide +kernel)) ggX6_assign_X6_in
set_option maxRecDepth 20000 in
theorem ggX6_assign_X6_rank : GoodIn wsX6_assign wsX6_rank := goodIn_r _ [16, 17, 18, 25, 26, 27, 28, 29, 30, 31, 32, 33, 34] (by decide +kernel) (by decide +kernel)
set_option maxRecDepth 20000 in
theorem gX6_assign_X6_rank : GoodIn wsX6_assign (wsV RX6 59 RX6 yX6_rank wsX6_rank) := goodIn_app (goodIn_of _ (by decide +kernel)) ggX6_assign_X6_rank
set_option maxRecDepth 20000 in
theorem ggX6_assign_X6_edit : GoodIn wsX6_assign wsX6_edit := goodIn_r _ [22, 23, 24, 3, 25, 26, 27, 28, 29, 30, 31, 32, 33, 34] (by decide +kernel) (by decide +kernel)
set_option maxRecDepth 20000 in
theorem gX6_assign_X6_edit : GoodIn wsX6_assign (wsV RX6 73 RX6 yX6_edit wsX6_edit) := goodIn_app (goodIn_of _ (by decide +kernel)) ggX6_assign_X6_edit
theorem dX6_assign_0 : decode cX6_assign 0 = .ok (.aload_n 0, 1) := by decide +kernel
theorem dX6_assign_1 : decode cX6_assign 1 = .ok (.iload_n 1, 1) := by decide +kernel
theorem dX6_assign_2 : decode cX6_assign 2 = .ok (.invokevirtual 56, 3) := by decide +kernel
theorem dX6_assign_5 : decode cX6_assign 5 = .ok (.ifCond .eq 17, 3) := by decide +kernel
theorem dX6_assign_8 : decode cX6_assign 8 = .ok (.iload_n 2, 1) := by decide +kernel
theorem dX6_assign_9 : decode cX6_assign 9 = .ok (.iconst (-1), 1) := by decide +kernel
theorem dX6_assign_10 : decode cX6_assign 10 = .ok (.aload_n 0, 1) := by decide +kernel
theorem dX6_assign_11 : decode cX6_assign 11 = .ok (.getfield 13, 3) := by decide +kernel
theorem dX6_assign_14 : decode cX6_assign 14 = .ok (.iconst 1, 1) := by decide +kernel
theorem dX6_assign_15 : decode cX6_assign 15 = .ok (.isub, 1) := by decide +kernel
theorem dX6_assign_16 : decode cX6_assign 16 = .ok (.invokestatic 48, 3) := by decide +kernel
theorem dX6_assign_19 : decode cX6_assign 19 = .ok (.ifCond .ne 6, 3) := by decide +kernel
theorem dX6_assign_22 : decode cX6_assign 22 = .ok (.bipush (-101), 2) := by decide +kernel
theorem dX6_assign_24 : decode cX6_assign 24 = .ok (.ireturn, 1) := by decide +kernel
theorem dX6_assign_25 : decode cX6_assign 25 = .ok (.iload_n 2, 1) := by decide +kernel
theorem dX6_assign_26 : decode cX6_assign 26 = .ok (.ifCond .lt 17, 3) := by decide +kernel
theorem dX6_assign_29 : decode cX6_assign 29 = .ok (.aload_n 0, 1) := by decide +kernel
theorem dX6_assign_30 : decode cX6_assign 30 = .ok (.iload_n 1, 1) := by decide +kernel
theorem dX6_assign_31 : decode cX6_assign 31 = .ok (.iload_n 2, 1) := by decide +kernel
theorem dX6_assign_32 : decode cX6_assign 32 = .ok (.invokevirtual 59, 3) := by decide +kernel
theorem dX6_assign_35 : decode cX6_assign 35 = .ok (.bipush 9, 2) := by decide +kernel
theorem dX6_assign_37 : decode cX6_assign 37 = .ok (.if_icmp .ne 6, 3) := by decide +kernel
theorem dX6_assign_40 : decode cX6_assign 40 = .ok (.bipush (-102), 2) := by decide +kernel
theorem dX6_assign_42 : decode cX6_assign 42 = .ok (.ireturn, 1) := by decide +kernel
theorem dX6_assign_43 : decode cX6_assign 43 = .ok (.iconst 0, 1) := by decide +kernel
theorem dX6_assign_44 : decode cX6_assign 44 = .ok (.istore_n 3, 1) := by decide +kernel
theorem dX6_assign_45 : decode cX6_assign 45 = .ok (.iconst 0, 1) := by decide +kernel
theorem dX6_assign_46 : decode cX6_assign 46 = .ok (.istore 4, 2) := by decide +kernel
theorem dX6_assign_48 : decode cX6_assign 48 = .ok (.iload 4, 2) := by decide +kernel
theorem dX6_assign_50 : decode cX6_assign 50 = .ok (.aload_n 0, 1) := by decide +kernel
theorem dX6_assign_51 : decode cX6_assign 51 = .ok (.getfield 7, 3) := by decide +kernel
theorem dX6_assign_54 : decode cX6_assign 54 = .ok (.if_icmp .ge 34, 3) := by decide +kernel
theorem dX6_assign_57 : decode cX6_assign 57 = .ok (.iload_n 3, 1) := by decide +kernel
theorem dX6_assign_58 : decode cX6_assign 58 = .ok (.iload 4, 2) := by decide +kernel
theorem dX6_assign_60 : decode cX6_assign 60 = .ok (.iload_n 1, 1) := by decide +kernel
theorem dX6_assign_61 : decode cX6_assign 61 = .ok (.if_icmp .eq 18, 3) := by decide +kernel
theorem dX6_assign_64 : decode cX6_assign 64 = .ok (.aload_n 0, 1) := by decide +kernel
theorem dX6_assign_65 : decode cX6_assign 65 = .ok (.getfield 26, 3) := by decide +kernel
theorem dX6_assign_68 : decode cX6_assign 68 = .ok (.iload 4, 2) := by decide +kernel
theorem dX6_assign_70 : decode cX6_assign 70 = .ok (.iaload, 1) := by decide +kernel
theorem dX6_assign_71 : decode cX6_assign 71 = .ok (.iload_n 2, 1) := by decide +kernel
theorem dX6_assign_72 : decode cX6_assign 72 = .ok (.if_icmp .ne 7, 3) := by decide +kernel
theorem dX6_assign_75 : decode cX6_assign 75 = .ok (.iconst 1, 1) := by decide +kernel
theorem dX6_assign_76 : decode cX6_assign 76 = .ok (.goto 4, 3) := by decide +kernel
theorem dX6_assign_79 : decode cX6_assign 79 = .ok (.iconst 0, 1) := by decide +kernel
theorem dX6_assign_80 : decode cX6_assign 80 = .ok (.iadd, 1) := by decide +kernel
theorem dX6_assign_81 : decode cX6_assign 81 = .ok (.istore_n 3, 1) := by decide +kernel
theorem dX6_assign_82 : decode cX6_assign 82 = .ok (.iinc 4 1, 3) := by decide +kernel
theorem dX6_assign_85 : decode cX6_assign 85 = .ok (.goto (-37), 3) := by decide +kernel
theorem dX6_assign_88 : decode cX6_assign 88 = .ok (.iload_n 2, 1) := by decide +kernel
theorem dX6_assign_89 : decode cX6_assign 89 = .ok (.ifCond .lt 16, 3) := by decide +kernel
theorem dX6_assign_92 : decode cX6_assign 92 = .ok (.iload_n 3, 1) := by decide +kernel
theorem dX6_assign_93 : decode cX6_assign 93 = .ok (.aload_n 0, 1) := by decide +kernel
theorem dX6_assign_94 : decode cX6_assign 94 = .ok (.getfield 16, 3) := by decide +kernel
theorem dX6_assign_97 : decode cX6_assign 97 = .ok (.iload_n 2, 1) := by decide +kernel
theorem dX6_assign_98 : decode cX6_assign 98 = .ok (.iaload, 1) := by decide +kernel
theorem dX6_assign_99 : decode cX6_assign 99 = .ok (.if_icmp .lt 6, 3) := by decide +kernel
theorem dX6_assign_102 : decode cX6_assign 102 = .ok (.bipush (-103), 2) := by decide +kernel
theorem dX6_assign_104 : decode cX6_assign 104 = .ok (.ireturn, 1) := by decide +kernel
theorem dX6_assign_105 : decode cX6_assign 105 = .ok (.aload_n 0, 1) := by decide +kernel
theorem dX6_assign_106 : decode cX6_assign 106 = .ok (.invokevirtual 73, 3) := by decide +kernel
theorem dX6_assign_109 : decode cX6_assign 109 = .ok (.aload_n 0, 1) := by decide +kernel
theorem dX6_assign_110 : decode cX6_assign 110 = .ok (.getfield 26, 3) := by decide +kernel
theorem dX6_assign_113 : decode cX6_assign 113 = .ok (.iload_n 1, 1) := by decide +kernel
theorem dX6_assign_114 : decode cX6_assign 114 = .ok (.iaload, 1) := by decide +kernel
theorem dX6_assign_115 : decode cX6_assign 115 = .ok (.istore 4, 2) := by decide +kernel
theorem dX6_assign_117 : decode cX6_assign 117 = .ok (.aload_n 0, 1) := by decide +kernel
theorem dX6_assign_118 : decode cX6_assign 118 = .ok (.getfield 26, 3) := by decide +kernel
theorem dX6_assign_121 : decode cX6_assign 121 = .ok (.iload_n 1, 1) := by decide +kernel
theorem dX6_assign_122 : decode cX6_assign 122 = .ok (.iload_n 2, 1) := by decide +kernel
theorem dX6_assign_123 : decode cX6_assign 123 = .ok (.iastore, 1) := by decide +kernel
theorem dX6_assign_124 : decode cX6_assign 124 = .ok (.iload 4, 2) := by decide +kernel
theorem dX6_assign_126 : decode cX6_assign 126 = .ok (.ireturn, 1) := by decide +kernel
set_option maxRecDepth 20000 in
theorem ggX6_postOf_X6_isApplicant : GoodIn wsX6_postOf wsX6_isApplicant := goodIn_r _ [6, 7, 8, 9, 5, 10, 11, 12, 13, 14, 15, 16, 17, 18, 19, 20] (by decide +kernel) (by decide +kernel)
set_option maxRecDepth 20000 in
theorem gX6_postOf_X6_isApplicant : GoodIn wsX6_postOf (wsV RX6 56 RX6 yX6_isApplicant wsX6_isApplicant) := goodIn_app (goodIn_of _ (by decide +kernel)) ggX6_postOf_X6_isApplicant
theorem dX6_postOf_0 : decode cX6_postOf 0 = .ok (.aload_n 0, 1) := by decide +kernel
theorem dX6_postOf_1 : decode cX6_postOf 1 = .ok (.iload_n 1, 1) := by decide +kernel
theorem dX6_postOf_2 : decode cX6_postOf 2 = .ok (.invokevirtual 56, 3) := by decide +kernel
theorem dX6_postOf_5 : decode cX6_postOf 5 = .ok (.ifCond .eq 12, 3) := by decide +kernel
theorem dX6_postOf_8 : decode cX6_postOf 8 = .ok (.aload_n 0, 1) := by decide +kernel
theorem dX6_postOf_9 : decode cX6_postOf 9 = .ok (.getfield 26, 3) := by decide +kernel
theorem dX6_postOf_12 : decode cX6_postOf 12 = .ok (.iload_n 1, 1) := by decide +kernel
theorem dX6_postOf_13 : decode cX6_postOf 13 = .ok (.iaload, 1) := by decide +kernel
theorem dX6_postOf_14 : decode cX6_postOf 14 = .ok (.goto 5, 3) := by decide +kernel
theorem dX6_postOf_17 : decode cX6_postOf 17 = .ok (.bipush (-101), 2) := by decide +kernel
theorem dX6_postOf_19 : decode cX6_postOf 19 = .ok (.ireturn, 1) := by decide +kernel
theorem dX6_size_0 : decode cX6_size 0 = .ok (.iconst 0, 1) := by decide +kernel
theorem dX6_size_1 : decode cX6_size 1 = .ok (.istore_n 1, 1) := by decide +kernel
theorem dX6_size_2 : decode cX6_size 2 = .ok (.iconst 0, 1) := by decide +kernel
theorem dX6_size_3 : decode cX6_size 3 = .ok (.istore_n 2, 1) := by decide +kernel
theorem dX6_size_4 : decode cX6_size 4 = .ok (.iload_n 2, 1) := by decide +kernel
theorem dX6_size_5 : decode cX6_size 5 = .ok (.aload_n 0, 1) := by decide +kernel
theorem dX6_size_6 : decode cX6_size 6 = .ok (.getfield 7, 3) := by decide +kernel
theorem dX6_size_9 : decode cX6_size 9 = .ok (.if_icmp .ge 26, 3) := by decide +kernel
theorem dX6_size_12 : decode cX6_size 12 = .ok (.iload_n 1, 1) := by decide +kernel
theorem dX6_size_13 : decode cX6_size 13 = .ok (.aload_n 0, 1) := by decide +kernel
theorem dX6_size_14 : decode cX6_size 14 = .ok (.getfield 26, 3) := by decide +kernel
theorem dX6_size_17 : decode cX6_size 17 = .ok (.iload_n 2, 1) := by decide +kernel
theorem dX6_size_18 : decode cX6_size 18 = .ok (.iaload, 1) := by decide +kernel
theorem dX6_size_19 : decode cX6_size 19 = .ok (.ifCond .lt 7, 3) := by decide +kernel
theorem dX6_size_22 : decode cX6_size 22 = .ok (.iconst 1, 1) := by decide +kernel
theorem dX6_size_23 : decode cX6_size 23 = .ok (.goto 4, 3) := by decide +kernel
theorem dX6_size_26 : decode cX6_size 26 = .ok (.iconst 0, 1) := by decide +kernel
theorem dX6_size_27 : decode cX6_size 27 = .ok (.iadd, 1) := by decide +kernel
theorem dX6_size_28 : decode cX6_size 28 = .ok (.istore_n 1, 1) := by decide +kernel
theorem dX6_size_29 : decode cX6_size 29 = .ok (.iinc 2 1, 3) := by decide +kernel
theorem dX6_size_32 : decode cX6_size 32 = .ok (.goto (-28), 3) := by decide +kernel
theorem dX6_size_35 : decode cX6_size 35 = .ok (.iload_n 1, 1) := by decide +kernel
theorem dX6_size_36 : decode cX6_size 36 = .ok (.ireturn, 1) := by decide +kernel
set_option maxRecDepth 20000 in
theorem ggX6_vote_X6_rank : GoodIn wsX6_vote wsX6_rank := goodIn_r _ [5, 6, 7, 8, 9, 10, 11, 12, 13, 14, 15, 16, 17] (by decide +kernel) (by decide +kernel)
set_option maxRecDepth 20000 in
theorem gX6_vote_X6_rank : GoodIn wsX6_vote (wsV RX6 59 RX6 yX6_rank wsX6_rank) := goodIn_app (goodIn_of _ (by decide +kernel)) ggX6_vote_X6_rank
theorem dX6_vote_0 : decode cX6_vote 0 = .ok (.aload_n 0, 1) := by decide +kernel
theorem dX6_vote_1 : decode cX6_vote 1 = .ok (.iload_n 1, 1) := by decide +kernel
theorem dX6_vote_2 : decode cX6_vote 2 = .ok (.iload_n 2, 1) := by decide +kernel
theorem dX6_vote_3 : decode cX6_vote 3 = .ok (.invokevirtual 59, 3) := by decide +kernel
theorem dX6_vote_6 : decode cX6_vote 6 = .ok (.istore 4, 2) := by decide +kernel
theorem dX6_vote_8 : decode cX6_vote 8 = .ok (.aload_n 0, 1) := by decide +kernel
theorem dX6_vote_9 : decode cX6_vote 9 = .ok (.iload_n 1, 1) := by decide +kernel
theorem dX6_vote_10 : decode cX6_vote 10 = .ok (.iload_n 3, 1) := by decide +kernel
theorem dX6_vote_11 : decode cX6_vote 11 = .ok (.invokevirtual 59, 3) := by decide +kernel
theorem dX6_vote_14 : decode cX6_vote 14 = .ok (.istore 5, 2) := by decide +kernel
theorem dX6_vote_16 : decode cX6_vote 16 = .ok (.iload 4, 2) := by decide +kernel
theorem dX6_vote_18 : decode cX6_vote 18 = .ok (.iload 5, 2) := by decide +kernel
theorem dX6_vote_20 : decode cX6_vote 20 = .ok (.if_icmp .ge 7, 3) := by decide +kernel
theorem dX6_vote_23 : decode cX6_vote 23 = .ok (.iconst 1, 1) := by decide +kernel
theorem dX6_vote_24 : decode cX6_vote 24 = .ok (.goto 15, 3) := by decide +kernel
theorem dX6_vote_27 : decode cX6_vote 27 = .ok (.iload 4, 2) := by decide +kernel
theorem dX6_vote_29 : decode cX6_vote 29 = .ok (.iload 5, 2) := by decide +kernel
theorem dX6_vote_31 : decode cX6_vote 31 = .ok (.if_icmp .le 7, 3) := by decide +kernel
theorem dX6_vote_34 : decode cX6_vote 34 = .ok (.iconst (-1), 1) := by decide +kernel
theorem dX6_vote_35 : decode cX6_vote 35 = .ok (.goto 4, 3) := by decide +kernel
theorem dX6_vote_38 : decode cX6_vote 38 = .ok (.iconst 0, 1) := by decide +kernel
theorem dX6_vote_39 : decode cX6_vote 39 = .ok (.ireturn, 1) := by decide +kernel
theorem dX6_digit_0 : decode cX6_digit 0 = .ok (.iload_n 0, 1) := by decide +kernel
theorem dX6_digit_1 : decode cX6_digit 1 = .ok (.istore_n 2, 1) := by decide +kernel
theorem dX6_digit_2 : decode cX6_digit 2 = .ok (.iconst 0, 1) := by decide +kernel
theorem dX6_digit_3 : decode cX6_digit 3 = .ok (.istore_n 3, 1) := by decide +kernel
theorem dX6_digit_4 : decode cX6_digit 4 = .ok (.iload_n 3, 1) := by decide +kernel
theorem dX6_digit_5 : decode cX6_digit 5 = .ok (.iload_n 1, 1) := by decide +kernel
theorem dX6_digit_6 : decode cX6_digit 6 = .ok (.if_icmp .ge 13, 3) := by decide +kernel
theorem dX6_digit_9 : decode cX6_digit 9 = .ok (.iload_n 2, 1) := by decide +kernel
theorem dX6_digit_10 : decode cX6_digit 10 = .ok (.iconst 3, 1) := by decide +kernel
theorem dX6_digit_11 : decode cX6_digit 11 = .ok (.idiv, 1) := by decide +kernel
theorem dX6_digit_12 : decode cX6_digit 12 = .ok (.istore_n 2, 1) := by decide +kernel
theorem dX6_digit_13 : decode cX6_digit 13 = .ok (.iinc 3 1, 3) := by decide +kernel
theorem dX6_digit_16 : decode cX6_digit 16 = .ok (.goto (-12), 3) := by decide +kernel
theorem dX6_digit_19 : decode cX6_digit 19 = .ok (.iload_n 2, 1) := by decide +kernel
theorem dX6_digit_20 : decode cX6_digit 20 = .ok (.iconst 3, 1) := by decide +kernel
theorem dX6_digit_21 : decode cX6_digit 21 = .ok (.irem, 1) := by decide +kernel
theorem dX6_digit_22 : decode cX6_digit 22 = .ok (.ireturn, 1) := by decide +kernel
theorem dX6_power_0 : decode cX6_power 0 = .ok (.iconst 1, 1) := by decide +kernel
theorem dX6_power_1 : decode cX6_power 1 = .ok (.istore_n 1, 1) := by decide +kernel
theorem dX6_power_2 : decode cX6_power 2 = .ok (.iconst 0, 1) := by decide +kernel
theorem dX6_power_3 : decode cX6_power 3 = .ok (.istore_n 2, 1) := by decide +kernel
theorem dX6_power_4 : decode cX6_power 4 = .ok (.iload_n 2, 1) := by decide +kernel
theorem dX6_power_5 : decode cX6_power 5 = .ok (.iload_n 0, 1) := by decide +kernel
theorem dX6_power_6 : decode cX6_power 6 = .ok (.if_icmp .ge 13, 3) := by decide +kernel
theorem dX6_power_9 : decode cX6_power 9 = .ok (.iload_n 1, 1) := by decide +kernel
theorem dX6_power_10 : decode cX6_power 10 = .ok (.iconst 3, 1) := by decide +kernel
theorem dX6_power_11 : decode cX6_power 11 = .ok (.imul, 1) := by decide +kernel
theorem dX6_power_12 : decode cX6_power 12 = .ok (.istore_n 1, 1) := by decide +kernel
theorem dX6_power_13 : decode cX6_power 13 = .ok (.iinc 2 1, 3) := by decide +kernel
theorem dX6_power_16 : decode cX6_power 16 = .ok (.goto (-12), 3) := by decide +kernel
theorem dX6_power_19 : decode cX6_power 19 = .ok (.iload_n 1, 1) := by decide +kernel
theorem dX6_power_20 : decode cX6_power 20 = .ok (.ireturn, 1) := by decide +kernel
set_option maxRecDepth 20000 in
theorem ggX6_gives_X6_vote : GoodIn wsX6_gives wsX6_vote := goodIn_r _ [8, 9, 10, 11, 7, 12, 13, 14, 21, 22, 23, 24, 25, 26, 27, 28, 29, 30] (by decide +kernel) (by decide +kernel)
set_option maxRecDepth 20000 in
theorem gX6_gives_X6_vote : GoodIn wsX6_gives (wsV RX6 76 RX6 yX6_vote wsX6_vote) := goodIn_app (goodIn_of _ (by decide +kernel)) ggX6_gives_X6_vote
set_option maxRecDepth 20000 in
theorem ggX6_gives_X6_rank : GoodIn wsX6_gives wsX6_rank := goodIn_r _ [12, 13, 14, 21, 22, 23, 24, 25, 26, 27, 28, 29, 30] (by decide +kernel) (by decide +kernel)
set_option maxRecDepth 20000 in
theorem gX6_gives_X6_rank : GoodIn wsX6_gives (wsV RX6 59 RX6 yX6_rank wsX6_rank) := goodIn_app (goodIn_of _ (by decide +kernel)) ggX6_gives_X6_rank
set_option maxRecDepth 20000 in
theorem ggX6_gives_X6_digit : GoodIn wsX6_gives wsX6_digit := goodIn_r _ [17] (by decide +kernel) (by decide +kernel)
set_option maxRecDepth 20000 in
theorem gX6_gives_X6_digit : GoodIn wsX6_gives (va_wsS RX6 80 yX6_digit wsX6_digit) := goodIn_app (goodIn_of _ (by decide +kernel)) ggX6_gives_X6_digit
set_option maxRecDepth 20000 in
theorem ggX6_gives_X6_power : GoodIn wsX6_gives wsX6_power := goodIn_r _ [20] (by decide +kernel) (by decide +kernel)
set_option maxRecDepth 20000 in
theorem gX6_gives_X6_power : GoodIn wsX6_gives (va_wsS RX6 83 yX6_power wsX6_power) := goodIn_app (goodIn_of _ (by decide +kernel)) ggX6_gives_X6_power
end
section
theorem dX6_gives_0 : decode cX6_gives 0 = .ok (.aload_n 0, 1) := by decide +kernel
theorem dX6_gives_1 : decode cX6_gives 1 = .ok (.iload_n 1, 1) := by decide +kernel
theorem dX6_gives_2 : decode cX6_gives 2 = .ok (.iload_n 3, 1) := by decide +kernel
theorem dX6_gives_3 : decode cX6_gives 3 = .ok (.aload_n 0, 1) := by decide +kernel
theorem dX6_gives_4 : decode cX6_gives 4 = .ok (.getfield 26, 3) := by decide +kernel
theorem dX6_gives_7 : decode cX6_gives 7 = .ok (.iload_n 1, 1) := by decide +kernel
theorem dX6_gives_8 : decode cX6_gives 8 = .ok (.iaload, 1) := by decide +kernel
theorem dX6_gives_9 : decode cX6_gives 9 = .ok (.invokevirtual 76, 3) := by decide +kernel
theorem dX6_gives_12 : decode cX6_gives 12 = .ok (.istore 5, 2) := by decide +kernel
theorem dX6_gives_14 : decode cX6_gives 14 = .ok (.iload 4, 2) := by decide +kernel
theorem dX6_gives_16 : decode cX6_gives 16 = .ok (.ifCond .eq 11, 3) := by decide +kernel
theorem dX6_gives_19 : decode cX6_gives 19 = .ok (.iload 5, 2) := by decide +kernel
theorem dX6_gives_21 : decode cX6_gives 21 = .ok (.ifCond .ge 6, 3) := by decide +kernel
theorem dX6_gives_24 : decode cX6_gives 24 = .ok (.bipush (-99), 2) := by decide +kernel
theorem dX6_gives_26 : decode cX6_gives 26 = .ok (.ireturn, 1) := by decide +kernel
theorem dX6_gives_27 : decode cX6_gives 27 = .ok (.iload_n 3, 1) := by decide +kernel
theorem dX6_gives_28 : decode cX6_gives 28 = .ok (.ifCond .ge 21, 3) := by decide +kernel
theorem dX6_gives_31 : decode cX6_gives 31 = .ok (.iload 5, 2) := by decide +kernel
theorem dX6_gives_33 : decode cX6_gives 33 = .ok (.aload_n 0, 1) := by decide +kernel
theorem dX6_gives_34 : decode cX6_gives 34 = .ok (.getfield 32, 3) := by decide +kernel
theorem dX6_gives_37 : decode cX6_gives 37 = .ok (.sipush 243, 3) := by decide +kernel
theorem dX6_gives_40 : decode cX6_gives 40 = .ok (.iload_n 1, 1) := by decide +kernel
theorem dX6_gives_41 : decode cX6_gives 41 = .ok (.iconst 1, 1) := by decide +kernel
theorem dX6_gives_42 : decode cX6_gives 42 = .ok (.iadd, 1) := by decide +kernel
theorem dX6_gives_43 : decode cX6_gives 43 = .ok (.imul, 1) := by decide +kernel
theorem dX6_gives_44 : decode cX6_gives 44 = .ok (.iload_n 2, 1) := by decide +kernel
theorem dX6_gives_45 : decode cX6_gives 45 = .ok (.iadd, 1) := by decide +kernel
theorem dX6_gives_46 : decode cX6_gives 46 = .ok (.iaload, 1) := by decide +kernel
theorem dX6_gives_47 : decode cX6_gives 47 = .ok (.iadd, 1) := by decide +kernel
theorem dX6_gives_48 : decode cX6_gives 48 = .ok (.ireturn, 1) := by decide +kernel
theorem dX6_gives_49 : decode cX6_gives 49 = .ok (.aload_n 0, 1) := by decide +kernel
theorem dX6_gives_50 : decode cX6_gives 50 = .ok (.iload_n 1, 1) := by decide +kernel
theorem dX6_gives_51 : decode cX6_gives 51 = .ok (.iload_n 3, 1) := by decide +kernel
theorem dX6_gives_52 : decode cX6_gives 52 = .ok (.invokevirtual 59, 3) := by decide +kernel
theorem dX6_gives_55 : decode cX6_gives 55 = .ok (.bipush 9, 2) := by decide +kernel
theorem dX6_gives_57 : decode cX6_gives 57 = .ok (.if_icmp .ge 42, 3) := by decide +kernel
theorem dX6_gives_60 : decode cX6_gives 60 = .ok (.iload_n 2, 1) := by decide +kernel
theorem dX6_gives_61 : decode cX6_gives 61 = .ok (.iload_n 3, 1) := by decide +kernel
theorem dX6_gives_62 : decode cX6_gives 62 = .ok (.invokestatic 80, 3) := by decide +kernel
theorem dX6_gives_65 : decode cX6_gives 65 = .ok (.aload_n 0, 1) := by decide +kernel
theorem dX6_gives_66 : decode cX6_gives 66 = .ok (.getfield 16, 3) := by decide +kernel
theorem dX6_gives_69 : decode cX6_gives 69 = .ok (.iload_n 3, 1) := by decide +kernel
theorem dX6_gives_70 : decode cX6_gives 70 = .ok (.iaload, 1) := by decide +kernel
theorem dX6_gives_71 : decode cX6_gives 71 = .ok (.if_icmp .ge 28, 3) := by decide +kernel
theorem dX6_gives_74 : decode cX6_gives 74 = .ok (.iload 5, 2) := by decide +kernel
theorem dX6_gives_76 : decode cX6_gives 76 = .ok (.aload_n 0, 1) := by decide +kernel
theorem dX6_gives_77 : decode cX6_gives 77 = .ok (.getfield 32, 3) := by decide +kernel
theorem dX6_gives_80 : decode cX6_gives 80 = .ok (.sipush 243, 3) := by decide +kernel
theorem dX6_gives_83 : decode cX6_gives 83 = .ok (.iload_n 1, 1) := by decide +kernel
theorem dX6_gives_84 : decode cX6_gives 84 = .ok (.iconst 1, 1) := by decide +kernel
theorem dX6_gives_85 : decode cX6_gives 85 = .ok (.iadd, 1) := by decide +kernel
theorem dX6_gives_86 : decode cX6_gives 86 = .ok (.imul, 1) := by decide +kernel
theorem dX6_gives_87 : decode cX6_gives 87 = .ok (.iload_n 2, 1) := by decide +kernel
theorem dX6_gives_88 : decode cX6_gives 88 = .ok (.iadd, 1) := by decide +kernel
theorem dX6_gives_89 : decode cX6_gives 89 = .ok (.iload_n 3, 1) := by decide +kernel
theorem dX6_gives_90 : decode cX6_gives 90 = .ok (.invokestatic 83, 3) := by decide +kernel
theorem dX6_gives_93 : decode cX6_gives 93 = .ok (.iadd, 1) := by decide +kernel
theorem dX6_gives_94 : decode cX6_gives 94 = .ok (.iaload, 1) := by decide +kernel
theorem dX6_gives_95 : decode cX6_gives 95 = .ok (.iadd, 1) := by decide +kernel
theorem dX6_gives_96 : decode cX6_gives 96 = .ok (.goto 5, 3) := by decide +kernel
theorem dX6_gives_99 : decode cX6_gives 99 = .ok (.bipush (-99), 2) := by decide +kernel
theorem dX6_gives_101 : decode cX6_gives 101 = .ok (.ireturn, 1) := by decide +kernel
set_option maxRecDepth 20000 in
theorem ggX6_margin_X6_gives : GoodIn wsX6_margin wsX6_gives := goodIn_r _ [8, 9, 1, 10, 11, 12, 13, 7, 14, 15, 16, 17, 18, 19, 20, 21, 22, 23, 24, 25, 26, 27, 28, 29, 30, 31, 32, 33, 34, 35, 36] (by decide +kernel) (by decide +kernel)
set_option maxRecDepth 20000 in
theorem gX6_margin_X6_gives : GoodIn wsX6_margin (wsV RX6 86 RX6 yX6_gives wsX6_gives) := goodIn_app (goodIn_of _ (by decide +kernel)) ggX6_margin_X6_gives
theorem dX6_margin_0 : decode cX6_margin 0 = .ok (.iconst 0, 1) := by decide +kernel
theorem dX6_margin_1 : decode cX6_margin 1 = .ok (.istore_n 2, 1) := by decide +kernel
theorem dX6_margin_2 : decode cX6_margin 2 = .ok (.iload_n 2, 1) := by decide +kernel
theorem dX6_margin_3 : decode cX6_margin 3 = .ok (.sipush 243, 3) := by decide +kernel
theorem dX6_margin_6 : decode cX6_margin 6 = .ok (.if_icmp .ge 25, 3) := by decide +kernel
theorem dX6_margin_9 : decode cX6_margin 9 = .ok (.aload_n 0, 1) := by decide +kernel
theorem dX6_margin_10 : decode cX6_margin 10 = .ok (.getfield 32, 3) := by decide +kernel
theorem dX6_margin_13 : decode cX6_margin 13 = .ok (.sipush 243, 3) := by decide +kernel
theorem dX6_margin_16 : decode cX6_margin 16 = .ok (.aload_n 0, 1) := by decide +kernel
theorem dX6_margin_17 : decode cX6_margin 17 = .ok (.getfield 7, 3) := by decide +kernel
theorem dX6_margin_20 : decode cX6_margin 20 = .ok (.imul, 1) := by decide +kernel
theorem dX6_margin_21 : decode cX6_margin 21 = .ok (.iload_n 2, 1) := by decide +kernel
theorem dX6_margin_22 : decode cX6_margin 22 = .ok (.iadd, 1) := by decide +kernel
theorem dX6_margin_23 : decode cX6_margin 23 = .ok (.iconst 0, 1) := by decide +kernel
theorem dX6_margin_24 : decode cX6_margin 24 = .ok (.iastore, 1) := by decide +kernel
theorem dX6_margin_25 : decode cX6_margin 25 = .ok (.iinc 2 1, 3) := by decide +kernel
theorem dX6_margin_28 : decode cX6_margin 28 = .ok (.goto (-26), 3) := by decide +kernel
theorem dX6_margin_31 : decode cX6_margin 31 = .ok (.aload_n 0, 1) := by decide +kernel
theorem dX6_margin_32 : decode cX6_margin 32 = .ok (.getfield 7, 3) := by decide +kernel
theorem dX6_margin_35 : decode cX6_margin 35 = .ok (.iconst 1, 1) := by decide +kernel
theorem dX6_margin_36 : decode cX6_margin 36 = .ok (.isub, 1) := by decide +kernel
theorem dX6_margin_37 : decode cX6_margin 37 = .ok (.istore_n 2, 1) := by decide +kernel
theorem dX6_margin_38 : decode cX6_margin 38 = .ok (.iload_n 2, 1) := by decide +kernel
theorem dX6_margin_39 : decode cX6_margin 39 = .ok (.ifCond .lt 87, 3) := by decide +kernel
theorem dX6_margin_42 : decode cX6_margin 42 = .ok (.iconst 0, 1) := by decide +kernel
theorem dX6_margin_43 : decode cX6_margin 43 = .ok (.istore_n 3, 1) := by decide +kernel
theorem dX6_margin_44 : decode cX6_margin 44 = .ok (.iload_n 3, 1) := by decide +kernel
theorem dX6_margin_45 : decode cX6_margin 45 = .ok (.sipush 243, 3) := by decide +kernel
theorem dX6_margin_48 : decode cX6_margin 48 = .ok (.if_icmp .ge 72, 3) := by decide +kernel
theorem dX6_margin_51 : decode cX6_margin 51 = .ok (.bipush (-99), 2) := by decide +kernel
theorem dX6_margin_53 : decode cX6_margin 53 = .ok (.istore 4, 2) := by decide +kernel
theorem dX6_margin_55 : decode cX6_margin 55 = .ok (.iconst (-1), 1) := by decide +kernel
theorem dX6_margin_56 : decode cX6_margin 56 = .ok (.istore 5, 2) := by decide +kernel
theorem dX6_margin_58 : decode cX6_margin 58 = .ok (.iload 5, 2) := by decide +kernel
theorem dX6_margin_60 : decode cX6_margin 60 = .ok (.aload_n 0, 1) := by decide +kernel
theorem dX6_margin_61 : decode cX6_margin 61 = .ok (.getfield 13, 3) := by decide +kernel
theorem dX6_margin_64 : decode cX6_margin 64 = .ok (.if_icmp .ge 36, 3) := by decide +kernel
theorem dX6_margin_67 : decode cX6_margin 67 = .ok (.aload_n 0, 1) := by decide +kernel
theorem dX6_margin_68 : decode cX6_margin 68 = .ok (.iload_n 2, 1) := by decide +kernel
theorem dX6_margin_69 : decode cX6_margin 69 = .ok (.iload_n 3, 1) := by decide +kernel
theorem dX6_margin_70 : decode cX6_margin 70 = .ok (.iload 5, 2) := by decide +kernel
theorem dX6_margin_72 : decode cX6_margin 72 = .ok (.iload_n 1, 1) := by decide +kernel
theorem dX6_margin_73 : decode cX6_margin 73 = .ok (.invokevirtual 86, 3) := by decide +kernel
theorem dX6_margin_76 : decode cX6_margin 76 = .ok (.istore 6, 2) := by decide +kernel
theorem dX6_margin_78 : decode cX6_margin 78 = .ok (.iload 6, 2) := by decide +kernel
theorem dX6_margin_80 : decode cX6_margin 80 = .ok (.iload 4, 2) := by decide +kernel
theorem dX6_margin_82 : decode cX6_margin 82 = .ok (.if_icmp .le 8, 3) := by decide +kernel
theorem dX6_margin_85 : decode cX6_margin 85 = .ok (.iload 6, 2) := by decide +kernel
theorem dX6_margin_87 : decode cX6_margin 87 = .ok (.goto 5, 3) := by decide +kernel
theorem dX6_margin_90 : decode cX6_margin 90 = .ok (.iload 4, 2) := by decide +kernel
theorem dX6_margin_92 : decode cX6_margin 92 = .ok (.istore 4, 2) := by decide +kernel
theorem dX6_margin_94 : decode cX6_margin 94 = .ok (.iinc 5 1, 3) := by decide +kernel
theorem dX6_margin_97 : decode cX6_margin 97 = .ok (.goto (-39), 3) := by decide +kernel
theorem dX6_margin_100 : decode cX6_margin 100 = .ok (.aload_n 0, 1) := by decide +kernel
theorem dX6_margin_101 : decode cX6_margin 101 = .ok (.getfield 32, 3) := by decide +kernel
theorem dX6_margin_104 : decode cX6_margin 104 = .ok (.sipush 243, 3) := by decide +kernel
theorem dX6_margin_107 : decode cX6_margin 107 = .ok (.iload_n 2, 1) := by decide +kernel
theorem dX6_margin_108 : decode cX6_margin 108 = .ok (.imul, 1) := by decide +kernel
theorem dX6_margin_109 : decode cX6_margin 109 = .ok (.iload_n 3, 1) := by decide +kernel
theorem dX6_margin_110 : decode cX6_margin 110 = .ok (.iadd, 1) := by decide +kernel
theorem dX6_margin_111 : decode cX6_margin 111 = .ok (.iload 4, 2) := by decide +kernel
theorem dX6_margin_113 : decode cX6_margin 113 = .ok (.iastore, 1) := by decide +kernel
theorem dX6_margin_114 : decode cX6_margin 114 = .ok (.iinc 3 1, 3) := by decide +kernel
theorem dX6_margin_117 : decode cX6_margin 117 = .ok (.goto (-73), 3) := by decide +kernel
theorem dX6_margin_120 : decode cX6_margin 120 = .ok (.iinc 2 (-1), 3) := by decide +kernel
theorem dX6_margin_123 : decode cX6_margin 123 = .ok (.goto (-85), 3) := by decide +kernel
theorem dX6_margin_126 : decode cX6_margin 126 = .ok (.aload_n 0, 1) := by decide +kernel
theorem dX6_margin_127 : decode cX6_margin 127 = .ok (.getfield 32, 3) := by decide +kernel
theorem dX6_margin_130 : decode cX6_margin 130 = .ok (.iconst 0, 1) := by decide +kernel
theorem dX6_margin_131 : decode cX6_margin 131 = .ok (.iaload, 1) := by decide +kernel
theorem dX6_margin_132 : decode cX6_margin 132 = .ok (.ireturn, 1) := by decide +kernel
set_option maxRecDepth 20000 in
theorem ggX6_isParetoOptimal_X6_margin : GoodIn wsX6_isParetoOptimal wsX6_margin := goodIn_r _ [5, 6, 7, 8, 9, 10, 11, 4, 12, 13, 14, 15, 16, 17, 18, 19, 20, 21, 22, 23, 24, 25, 26, 27, 28, 29, 30, 31, 32, 33, 34, 35, 36, 37, 38, 39, 40] (by decide +kernel) (by decide +kernel)
set_option maxRecDepth 20000 in
theorem gX6_isParetoOptimal_X6_margin : GoodIn wsX6_isParetoOptimal (wsV RX6 90 RX6 yX6_margin wsX6_margin) := goodIn_app (goodIn_of _ (by decide +kernel)) ggX6_isParetoOptimal_X6_margin
theorem dX6_isParetoOptimal_0 : decode cX6_isParetoOptimal 0 = .ok (.aload_n 0, 1) := by decide +kernel
theorem dX6_isParetoOptimal_1 : decode cX6_isParetoOptimal 1 = .ok (.iconst 1, 1) := by decide +kernel
theorem dX6_isParetoOptimal_2 : decode cX6_isParetoOptimal 2 = .ok (.invokevirtual 90, 3) := by decide +kernel
theorem dX6_isParetoOptimal_5 : decode cX6_isParetoOptimal 5 = .ok (.ifCond .ne 7, 3) := by decide +kernel
theorem dX6_isParetoOptimal_8 : decode cX6_isParetoOptimal 8 = .ok (.iconst 1, 1) := by decide +kernel
theorem dX6_isParetoOptimal_9 : decode cX6_isParetoOptimal 9 = .ok (.goto 4, 3) := by decide +kernel
theorem dX6_isParetoOptimal_12 : decode cX6_isParetoOptimal 12 = .ok (.iconst 0, 1) := by decide +kernel
theorem dX6_isParetoOptimal_13 : decode cX6_isParetoOptimal 13 = .ok (.ireturn, 1) := by decide +kernel
set_option maxRecDepth 20000 in
theorem ggX6_save_X6_size : GoodIn wsX6_save wsX6_size := goodIn_r _ [6, 7, 1, 8, 9, 10, 11, 12, 13, 14, 15, 16, 17] (by decide +kernel) (by decide +kernel)
set_option maxRecDepth 20000 in
theorem gX6_save_X6_size : GoodIn wsX6_save (wsV RX6 94 RX6 yX6_size wsX6_size) := goodIn_app (goodIn_of _ (by decide +kernel)) ggX6_save_X6_size
theorem dX6_save_0 : decode cX6_save 0 = .ok (.iconst 0, 1) := by decide +kernel
theorem dX6_save_1 : decode cX6_save 1 = .ok (.istore_n 1, 1) := by decide +kernel
theorem dX6_save_2 : decode cX6_save 2 = .ok (.iload_n 1, 1) := by decide +kernel
theorem dX6_save_3 : decode cX6_save 3 = .ok (.bipush 6, 2) := by decide +kernel
theorem dX6_save_5 : decode cX6_save 5 = .ok (.if_icmp .ge 24, 3) := by decide +kernel
theorem dX6_save_8 : decode cX6_save 8 = .ok (.aload_n 0, 1) := by decide +kernel
theorem dX6_save_9 : decode cX6_save 9 = .ok (.getfield 26, 3) := by decide +kernel
theorem dX6_save_12 : decode cX6_save 12 = .ok (.bipush 6, 2) := by decide +kernel
theorem dX6_save_14 : decode cX6_save 14 = .ok (.iload_n 1, 1) := by decide +kernel
theorem dX6_save_15 : decode cX6_save 15 = .ok (.iadd, 1) := by decide +kernel
theorem dX6_save_16 : decode cX6_save 16 = .ok (.aload_n 0, 1) := by decide +kernel
theorem dX6_save_17 : decode cX6_save 17 = .ok (.getfield 26, 3) := by decide +kernel
theorem dX6_save_20 : decode cX6_save 20 = .ok (.iload_n 1, 1) := by decide +kernel
theorem dX6_save_21 : decode cX6_save 21 = .ok (.iaload, 1) := by decide +kernel
theorem dX6_save_22 : decode cX6_save 22 = .ok (.iastore, 1) := by decide +kernel
theorem dX6_save_23 : decode cX6_save 23 = .ok (.iinc 1 1, 3) := by decide +kernel
theorem dX6_save_26 : decode cX6_save 26 = .ok (.goto (-24), 3) := by decide +kernel
theorem dX6_save_29 : decode cX6_save 29 = .ok (.aload_n 0, 1) := by decide +kernel
theorem dX6_save_30 : decode cX6_save 30 = .ok (.invokevirtual 94, 3) := by decide +kernel
theorem dX6_save_33 : decode cX6_save 33 = .ok (.ireturn, 1) := by decide +kernel
set_option maxRecDepth 20000 in
theorem ggX6_swapSaved_X6_edit : GoodIn wsX6_swapSaved wsX6_edit := goodIn_r _ [6, 7, 8, 1, 14, 15, 16, 17, 18, 19, 20, 21, 22, 23] (by decide +kernel) (by decide +kernel)
set_option maxRecDepth 20000 in
theorem gX6_swapSaved_X6_edit : GoodIn wsX6_swapSaved (wsV RX6 73 RX6 yX6_edit wsX6_edit) := goodIn_app (goodIn_of _ (by decide +kernel)) ggX6_swapSaved_X6_edit
set_option maxRecDepth 20000 in
theorem ggX6_swapSaved_X6_size : GoodIn wsX6_swapSaved wsX6_size := goodIn_r _ [12, 13, 1, 14, 15, 16, 17, 18, 19, 20, 21, 22, 23] (by decide +kernel) (by decide +kernel)
set_option maxRecDepth 20000 in
theorem gX6_swapSaved_X6_size : GoodIn wsX6_swapSaved (wsV RX6 94 RX6 yX6_size wsX6_size) := goodIn_app (goodIn_of _ (by decide +kernel)) ggX6_swapSaved_X6_size
theorem dX6_swapSaved_0 : decode cX6_swapSaved 0 = .ok (.aload_n 0, 1) := by decide +kernel
theorem dX6_swapSaved_1 : decode cX6_swapSaved 1 = .ok (.invokevirtual 73, 3) := by decide +kernel
theorem dX6_swapSaved_4 : decode cX6_swapSaved 4 = .ok (.iconst 0, 1) := by decide +kernel
theorem dX6_swapSaved_5 : decode cX6_swapSaved 5 = .ok (.istore_n 1, 1) := by decide +kernel
theorem dX6_swapSaved_6 : decode cX6_swapSaved 6 = .ok (.iload_n 1, 1) := by decide +kernel
theorem dX6_swapSaved_7 : decode cX6_swapSaved 7 = .ok (.bipush 6, 2) := by decide +kernel
theorem dX6_swapSaved_9 : decode cX6_swapSaved 9 = .ok (.if_icmp .ge 41, 3) := by decide +kernel
theorem dX6_swapSaved_12 : decode cX6_swapSaved 12 = .ok (.aload_n 0, 1) := by decide +kernel
theorem dX6_swapSaved_13 : decode cX6_swapSaved 13 = .ok (.getfield 26, 3) := by decide +kernel
theorem dX6_swapSaved_16 : decode cX6_swapSaved 16 = .ok (.iload_n 1, 1) := by decide +kernel
theorem dX6_swapSaved_17 : decode cX6_swapSaved 17 = .ok (.iaload, 1) := by decide +kernel
theorem dX6_swapSaved_18 : decode cX6_swapSaved 18 = .ok (.istore_n 2, 1) := by decide +kernel
theorem dX6_swapSaved_19 : decode cX6_swapSaved 19 = .ok (.aload_n 0, 1) := by decide +kernel
theorem dX6_swapSaved_20 : decode cX6_swapSaved 20 = .ok (.getfield 26, 3) := by decide +kernel
theorem dX6_swapSaved_23 : decode cX6_swapSaved 23 = .ok (.iload_n 1, 1) := by decide +kernel
theorem dX6_swapSaved_24 : decode cX6_swapSaved 24 = .ok (.aload_n 0, 1) := by decide +kernel
theorem dX6_swapSaved_25 : decode cX6_swapSaved 25 = .ok (.getfield 26, 3) := by decide +kernel
theorem dX6_swapSaved_28 : decode cX6_swapSaved 28 = .ok (.bipush 6, 2) := by decide +kernel
theorem dX6_swapSaved_30 : decode cX6_swapSaved 30 = .ok (.iload_n 1, 1) := by decide +kernel
theorem dX6_swapSaved_31 : decode cX6_swapSaved 31 = .ok (.iadd, 1) := by decide +kernel
theorem dX6_swapSaved_32 : decode cX6_swapSaved 32 = .ok (.iaload, 1) := by decide +kernel
theorem dX6_swapSaved_33 : decode cX6_swapSaved 33 = .ok (.iastore, 1) := by decide +kernel
theorem dX6_swapSaved_34 : decode cX6_swapSaved 34 = .ok (.aload_n 0, 1) := by decide +kernel
theorem dX6_swapSaved_35 : decode cX6_swapSaved 35 = .ok (.getfield 26, 3) := by decide +kernel
theorem dX6_swapSaved_38 : decode cX6_swapSaved 38 = .ok (.bipush 6, 2) := by decide +kernel
theorem dX6_swapSaved_40 : decode cX6_swapSaved 40 = .ok (.iload_n 1, 1) := by decide +kernel
theorem dX6_swapSaved_41 : decode cX6_swapSaved 41 = .ok (.iadd, 1) := by decide +kernel
theorem dX6_swapSaved_42 : decode cX6_swapSaved 42 = .ok (.iload_n 2, 1) := by decide +kernel
theorem dX6_swapSaved_43 : decode cX6_swapSaved 43 = .ok (.iastore, 1) := by decide +kernel
theorem dX6_swapSaved_44 : decode cX6_swapSaved 44 = .ok (.iinc 1 1, 3) := by decide +kernel
theorem dX6_swapSaved_47 : decode cX6_swapSaved 47 = .ok (.goto (-41), 3) := by decide +kernel
theorem dX6_swapSaved_50 : decode cX6_swapSaved 50 = .ok (.aload_n 0, 1) := by decide +kernel
theorem dX6_swapSaved_51 : decode cX6_swapSaved 51 = .ok (.invokevirtual 94, 3) := by decide +kernel
theorem dX6_swapSaved_54 : decode cX6_swapSaved 54 = .ok (.ireturn, 1) := by decide +kernel
set_option maxRecDepth 20000 in
theorem ggX6_marginOverSaved_X6_vote : GoodIn wsX6_marginOverSaved wsX6_vote := goodIn_r _ [7, 8, 9, 10, 6, 11, 12, 13, 14, 15, 16, 17, 18, 19, 20, 21, 22, 23] (by decide +kernel) (by decide +kernel)
set_option maxRecDepth 20000 in
theorem gX6_marginOverSaved_X6_vote : GoodIn wsX6_marginOverSaved (wsV RX6 76 RX6 yX6_vote wsX6_vote) := goodIn_app (goodIn_of _ (by decide +kernel)) ggX6_marginOverSaved_X6_vote
theorem dX6_marginOverSaved_0 : decode cX6_marginOverSaved 0 = .ok (.iconst 0, 1) := by decide +kernel
theorem dX6_marginOverSaved_1 : decode cX6_marginOverSaved 1 = .ok (.istore_n 1, 1) := by decide +kernel
theorem dX6_marginOverSaved_2 : decode cX6_marginOverSaved 2 = .ok (.iconst 0, 1) := by decide +kernel
theorem dX6_marginOverSaved_3 : decode cX6_marginOverSaved 3 = .ok (.istore_n 2, 1) := by decide +kernel
theorem dX6_marginOverSaved_4 : decode cX6_marginOverSaved 4 = .ok (.iload_n 2, 1) := by decide +kernel
theorem dX6_marginOverSaved_5 : decode cX6_marginOverSaved 5 = .ok (.aload_n 0, 1) := by decide +kernel
theorem dX6_marginOverSaved_6 : decode cX6_marginOverSaved 6 = .ok (.getfield 7, 3) := by decide +kernel
theorem dX6_marginOverSaved_9 : decode cX6_marginOverSaved 9 = .ok (.if_icmp .ge 32, 3) := by decide +kernel
theorem dX6_marginOverSaved_12 : decode cX6_marginOverSaved 12 = .ok (.iload_n 1, 1) := by decide +kernel
theorem dX6_marginOverSaved_13 : decode cX6_marginOverSaved 13 = .ok (.aload_n 0, 1) := by decide +kernel
theorem dX6_marginOverSaved_14 : decode cX6_marginOverSaved 14 = .ok (.iload_n 2, 1) := by decide +kernel
theorem dX6_marginOverSaved_15 : decode cX6_marginOverSaved 15 = .ok (.aload_n 0, 1) := by decide +kernel
theorem dX6_marginOverSaved_16 : decode cX6_marginOverSaved 16 = .ok (.getfield 26, 3) := by decide +kernel
theorem dX6_marginOverSaved_19 : decode cX6_marginOverSaved 19 = .ok (.iload_n 2, 1) := by decide +kernel
theorem dX6_marginOverSaved_20 : decode cX6_marginOverSaved 20 = .ok (.iaload, 1) := by decide +kernel
theorem dX6_marginOverSaved_21 : decode cX6_marginOverSaved 21 = .ok (.aload_n 0, 1) := by decide +kernel
theorem dX6_marginOverSaved_22 : decode cX6_marginOverSaved 22 = .ok (.getfield 26, 3) := by decide +kernel
theorem dX6_marginOverSaved_25 : decode cX6_marginOverSaved 25 = .ok (.bipush 6, 2) := by decide +kernel
theorem dX6_marginOverSaved_27 : decode cX6_marginOverSaved 27 = .ok (.iload_n 2, 1) := by decide +kernel
theorem dX6_marginOverSaved_28 : decode cX6_marginOverSaved 28 = .ok (.iadd, 1) := by decide +kernel
theorem dX6_marginOverSaved_29 : decode cX6_marginOverSaved 29 = .ok (.iaload, 1) := by decide +kernel
theorem dX6_marginOverSaved_30 : decode cX6_marginOverSaved 30 = .ok (.invokevirtual 76, 3) := by decide +kernel
theorem dX6_marginOverSaved_33 : decode cX6_marginOverSaved 33 = .ok (.iadd, 1) := by decide +kernel
theorem dX6_marginOverSaved_34 : decode cX6_marginOverSaved 34 = .ok (.istore_n 1, 1) := by decide +kernel
theorem dX6_marginOverSaved_35 : decode cX6_marginOverSaved 35 = .ok (.iinc 2 1, 3) := by decide +kernel
theorem dX6_marginOverSaved_38 : decode cX6_marginOverSaved 38 = .ok (.goto (-34), 3) := by decide +kernel
theorem dX6_marginOverSaved_41 : decode cX6_marginOverSaved 41 = .ok (.iload_n 1, 1) := by decide +kernel
theorem dX6_marginOverSaved_42 : decode cX6_marginOverSaved 42 = .ok (.ireturn, 1) := by decide +kernel
set_option maxRecDepth 20000 in
theorem ggX6_unpopularityMargin_X6_margin : GoodIn wsX6_unpopularityMargin wsX6_margin := goodIn_r _ [5, 6, 7, 8, 9, 10, 11, 4, 12, 13, 14, 15, 16, 17, 18, 19, 20, 21, 22, 23, 24, 25, 26, 27, 28, 29, 30, 31, 32, 33, 34, 35, 36, 37, 38, 39, 40] (by decide +kernel) (by decide +kernel)
set_option maxRecDepth 20000 in
theorem gX6_unpopularityMargin_X6_margin : GoodIn wsX6_unpopularityMargin (wsV RX6 90 RX6 yX6_margin wsX6_margin) := goodIn_app (goodIn_of _ (by decide +kernel)) ggX6_unpopularityMargin_X6_margin
theorem dX6_unpopularityMargin_0 : decode cX6_unpopularityMargin 0 = .ok (.aload_n 0, 1) := by decide +kernel
theorem dX6_unpopularityMargin_1 : decode cX6_unpopularityMargin 1 = .ok (.iconst 0, 1) := by decide +kernel
theorem dX6_unpopularityMargin_2 : decode cX6_unpopularityMargin 2 = .ok (.invokevirtual 90, 3) := by decide +kernel
theorem dX6_unpopularityMargin_5 : decode cX6_unpopularityMargin 5 = .ok (.ireturn, 1) := by decide +kernel
set_option maxRecDepth 20000 in
theorem ggX6_challenges_X6_margin : GoodIn wsX6_challenges wsX6_margin := goodIn_r _ [9, 4, 1, 3, 10, 11, 12, 8, 13, 14, 15, 16, 17, 18, 19, 20, 21, 22, 23, 24, 25, 26, 27, 28, 29, 30, 31, 32, 33, 34, 35, 36, 37, 38, 39, 40, 41] (by decide +kernel) (by decide +kernel)
set_option maxRecDepth 20000 in
theorem gX6_challenges_X6_margin : GoodIn wsX6_challenges (wsV RX6 90 RX6 yX6_margin wsX6_margin) := goodIn_app (goodIn_of _ (by decide +kernel)) ggX6_challenges_X6_margin
set_option maxRecDepth 20000 in
theorem ggX6_challenges_X6_gives : GoodIn wsX6_challenges wsX6_gives := goodIn_r _ [13, 14, 4, 15, 16, 17, 18, 8, 19, 20, 21, 22, 23, 24, 25, 26, 27, 28, 29, 30, 31, 32, 33, 34, 35, 36, 37, 38, 39, 40, 41] (by decide +kernel) (by decide +kernel)
set_option maxRecDepth 20000 in
theorem gX6_challenges_X6_gives : GoodIn wsX6_challenges (wsV RX6 86 RX6 yX6_gives wsX6_gives) := goodIn_app (goodIn_of _ (by decide +kernel)) ggX6_challenges_X6_gives
set_option maxRecDepth 20000 in
theorem ggX6_challenges_X6_power : GoodIn wsX6_challenges wsX6_power := goodIn_r _ [31] (by decide +kernel) (by decide +kernel)
set_option maxRecDepth 20000 in
theorem gX6_challenges_X6_power : GoodIn wsX6_challenges (va_wsS RX6 83 yX6_power wsX6_power) := goodIn_app (goodIn_of _ (by decide +kernel)) ggX6_challenges_X6_power
theorem dX6_challenges_0 : decode cX6_challenges 0 = .ok (.aload_n 0, 1) := by decide +kernel
theorem dX6_challenges_1 : decode cX6_challenges 1 = .ok (.iconst 0, 1) := by decide +kernel
theorem dX6_challenges_2 : decode cX6_challenges 2 = .ok (.invokevirtual 90, 3) := by decide +kernel
theorem dX6_challenges_5 : decode cX6_challenges 5 = .ok (.istore_n 1, 1) := by decide +kernel
theorem dX6_challenges_6 : decode cX6_challenges 6 = .ok (.iconst 0, 1) := by decide +kernel
theorem dX6_challenges_7 : decode cX6_challenges 7 = .ok (.istore_n 2, 1) := by decide +kernel
theorem dX6_challenges_8 : decode cX6_challenges 8 = .ok (.iconst 0, 1) := by decide +kernel
theorem dX6_challenges_9 : decode cX6_challenges 9 = .ok (.istore_n 3, 1) := by decide +kernel
theorem dX6_challenges_10 : decode cX6_challenges 10 = .ok (.iload_n 3, 1) := by decide +kernel
theorem dX6_challenges_11 : decode cX6_challenges 11 = .ok (.aload_n 0, 1) := by decide +kernel
theorem dX6_challenges_12 : decode cX6_challenges 12 = .ok (.getfield 7, 3) := by decide +kernel
theorem dX6_challenges_15 : decode cX6_challenges 15 = .ok (.if_icmp .ge 101, 3) := by decide +kernel
theorem dX6_challenges_18 : decode cX6_challenges 18 = .ok (.aload_n 0, 1) := by decide +kernel
theorem dX6_challenges_19 : decode cX6_challenges 19 = .ok (.getfield 35, 3) := by decide +kernel
theorem dX6_challenges_22 : decode cX6_challenges 22 = .ok (.iload_n 3, 1) := by decide +kernel
theorem dX6_challenges_23 : decode cX6_challenges 23 = .ok (.iconst (-1), 1) := by decide +kernel
theorem dX6_challenges_24 : decode cX6_challenges 24 = .ok (.iastore, 1) := by decide +kernel
theorem dX6_challenges_25 : decode cX6_challenges 25 = .ok (.aload_n 0, 1) := by decide +kernel
theorem dX6_challenges_26 : decode cX6_challenges 26 = .ok (.getfield 13, 3) := by decide +kernel
theorem dX6_challenges_29 : decode cX6_challenges 29 = .ok (.iconst 1, 1) := by decide +kernel
theorem dX6_challenges_30 : decode cX6_challenges 30 = .ok (.isub, 1) := by decide +kernel
theorem dX6_challenges_31 : decode cX6_challenges 31 = .ok (.istore 4, 2) := by decide +kernel
theorem dX6_challenges_33 : decode cX6_challenges 33 = .ok (.iload 4, 2) := by decide +kernel
theorem dX6_challenges_35 : decode cX6_challenges 35 = .ok (.ifCond .lt 50, 3) := by decide +kernel
theorem dX6_challenges_38 : decode cX6_challenges 38 = .ok (.aload_n 0, 1) := by decide +kernel
theorem dX6_challenges_39 : decode cX6_challenges 39 = .ok (.getfield 35, 3) := by decide +kernel
theorem dX6_challenges_42 : decode cX6_challenges 42 = .ok (.iload_n 3, 1) := by decide +kernel
theorem dX6_challenges_43 : decode cX6_challenges 43 = .ok (.aload_n 0, 1) := by decide +kernel
theorem dX6_challenges_44 : decode cX6_challenges 44 = .ok (.iload_n 3, 1) := by decide +kernel
theorem dX6_challenges_45 : decode cX6_challenges 45 = .ok (.iload_n 2, 1) := by decide +kernel
theorem dX6_challenges_46 : decode cX6_challenges 46 = .ok (.iload 4, 2) := by decide +kernel
theorem dX6_challenges_48 : decode cX6_challenges 48 = .ok (.iconst 0, 1) := by decide +kernel
theorem dX6_challenges_49 : decode cX6_challenges 49 = .ok (.invokevirtual 86, 3) := by decide +kernel
theorem dX6_challenges_52 : decode cX6_challenges 52 = .ok (.aload_n 0, 1) := by decide +kernel
theorem dX6_challenges_53 : decode cX6_challenges 53 = .ok (.getfield 32, 3) := by decide +kernel
theorem dX6_challenges_56 : decode cX6_challenges 56 = .ok (.sipush 243, 3) := by decide +kernel
theorem dX6_challenges_59 : decode cX6_challenges 59 = .ok (.iload_n 3, 1) := by decide +kernel
theorem dX6_challenges_60 : decode cX6_challenges 60 = .ok (.imul, 1) := by decide +kernel
theorem dX6_challenges_61 : decode cX6_challenges 61 = .ok (.iload_n 2, 1) := by decide +kernel
theorem dX6_challenges_62 : decode cX6_challenges 62 = .ok (.iadd, 1) := by decide +kernel
theorem dX6_challenges_63 : decode cX6_challenges 63 = .ok (.iaload, 1) := by decide +kernel
theorem dX6_challenges_64 : decode cX6_challenges 64 = .ok (.if_icmp .ne 8, 3) := by decide +kernel
theorem dX6_challenges_67 : decode cX6_challenges 67 = .ok (.iload 4, 2) := by decide +kernel
theorem dX6_challenges_69 : decode cX6_challenges 69 = .ok (.goto 9, 3) := by decide +kernel
theorem dX6_challenges_72 : decode cX6_challenges 72 = .ok (.aload_n 0, 1) := by decide +kernel
theorem dX6_challenges_73 : decode cX6_challenges 73 = .ok (.getfield 35, 3) := by decide +kernel
theorem dX6_challenges_76 : decode cX6_challenges 76 = .ok (.iload_n 3, 1) := by decide +kernel
theorem dX6_challenges_77 : decode cX6_challenges 77 = .ok (.iaload, 1) := by decide +kernel
theorem dX6_challenges_78 : decode cX6_challenges 78 = .ok (.iastore, 1) := by decide +kernel
theorem dX6_challenges_79 : decode cX6_challenges 79 = .ok (.iinc 4 (-1), 3) := by decide +kernel
theorem dX6_challenges_82 : decode cX6_challenges 82 = .ok (.goto (-49), 3) := by decide +kernel
theorem dX6_challenges_85 : decode cX6_challenges 85 = .ok (.iload_n 2, 1) := by decide +kernel
theorem dX6_challenges_86 : decode cX6_challenges 86 = .ok (.aload_n 0, 1) := by decide +kernel
theorem dX6_challenges_87 : decode cX6_challenges 87 = .ok (.getfield 35, 3) := by decide +kernel
theorem dX6_challenges_90 : decode cX6_challenges 90 = .ok (.iload_n 3, 1) := by decide +kernel
theorem dX6_challenges_91 : decode cX6_challenges 91 = .ok (.iaload, 1) := by decide +kernel
theorem dX6_challenges_92 : decode cX6_challenges 92 = .ok (.ifCond .ge 7, 3) := by decide +kernel
theorem dX6_challenges_95 : decode cX6_challenges 95 = .ok (.iconst 0, 1) := by decide +kernel
theorem dX6_challenges_96 : decode cX6_challenges 96 = .ok (.goto 12, 3) := by decide +kernel
theorem dX6_challenges_99 : decode cX6_challenges 99 = .ok (.aload_n 0, 1) := by decide +kernel
theorem dX6_challenges_100 : decode cX6_challenges 100 = .ok (.getfield 35, 3) := by decide +kernel
theorem dX6_challenges_103 : decode cX6_challenges 103 = .ok (.iload_n 3, 1) := by decide +kernel
theorem dX6_challenges_104 : decode cX6_challenges 104 = .ok (.iaload, 1) := by decide +kernel
theorem dX6_challenges_105 : decode cX6_challenges 105 = .ok (.invokestatic 83, 3) := by decide +kernel
theorem dX6_challenges_108 : decode cX6_challenges 108 = .ok (.iadd, 1) := by decide +kernel
theorem dX6_challenges_109 : decode cX6_challenges 109 = .ok (.istore_n 2, 1) := by decide +kernel
theorem dX6_challenges_110 : decode cX6_challenges 110 = .ok (.iinc 3 1, 3) := by decide +kernel
theorem dX6_challenges_113 : decode cX6_challenges 113 = .ok (.goto (-103), 3) := by decide +kernel
theorem dX6_challenges_116 : decode cX6_challenges 116 = .ok (.iload_n 1, 1) := by decide +kernel
theorem dX6_challenges_117 : decode cX6_challenges 117 = .ok (.ireturn, 1) := by decide +kernel
set_option maxRecDepth 20000 in
theorem ggX6_challengerPost_X6_isApplicant : GoodIn wsX6_challengerPost wsX6_isApplicant := goodIn_r _ [6, 7, 8, 9, 5, 10, 43, 44, 45, 46, 47, 48, 49, 50, 51, 52] (by decide +kernel) (by decide +kernel)
set_option maxRecDepth 20000 in
theorem gX6_challengerPost_X6_isApplicant : GoodIn wsX6_challengerPost (wsV RX6 56 RX6 yX6_isApplicant wsX6_isApplicant) := goodIn_app (goodIn_of _ (by decide +kernel)) ggX6_challengerPost_X6_isApplicant
set_option maxRecDepth 20000 in
theorem ggX6_challengerPost_X6_challenges : GoodIn wsX6_challengerPost wsX6_challenges := goodIn_r _ [14, 7, 1, 15, 16, 17, 18, 19, 5, 20, 21, 22, 23, 24, 25, 26, 27, 28, 29, 30, 31, 32, 33, 34, 35, 36, 37, 38, 39, 40, 41, 42, 43, 44, 45, 46, 47, 48, 49, 50, 51, 52] (by decide +kernel) (by decide +kernel)
set_option maxRecDepth 20000 in
theorem gX6_challengerPost_X6_challenges : GoodIn wsX6_challengerPost (wsV RX6 98 RX6 yX6_challenges wsX6_challenges) := goodIn_app (goodIn_of _ (by decide +kernel)) ggX6_challengerPost_X6_challenges
theorem dX6_challengerPost_0 : decode cX6_challengerPost 0 = .ok (.aload_n 0, 1) := by decide +kernel
theorem dX6_challengerPost_1 : decode cX6_challengerPost 1 = .ok (.iload_n 1, 1) := by decide +kernel
theorem dX6_challengerPost_2 : decode cX6_challengerPost 2 = .ok (.invokevirtual 56, 3) := by decide +kernel
theorem dX6_challengerPost_5 : decode cX6_challengerPost 5 = .ok (.ifCond .ne 6, 3) := by decide +kernel
theorem dX6_challengerPost_8 : decode cX6_challengerPost 8 = .ok (.bipush (-101), 2) := by decide +kernel
theorem dX6_challengerPost_10 : decode cX6_challengerPost 10 = .ok (.ireturn, 1) := by decide +kernel
theorem dX6_challengerPost_11 : decode cX6_challengerPost 11 = .ok (.aload_n 0, 1) := by decide +kernel
theorem dX6_challengerPost_12 : decode cX6_challengerPost 12 = .ok (.invokevirtual 98, 3) := by decide +kernel
theorem dX6_challengerPost_15 : decode cX6_challengerPost 15 = .ok (.pop, 1) := by decide +kernel
theorem dX6_challengerPost_16 : decode cX6_challengerPost 16 = .ok (.aload_n 0, 1) := by decide +kernel
theorem dX6_challengerPost_17 : decode cX6_challengerPost 17 = .ok (.getfield 35, 3) := by decide +kernel
theorem dX6_challengerPost_20 : decode cX6_challengerPost 20 = .ok (.iload_n 1, 1) := by decide +kernel
theorem dX6_challengerPost_21 : decode cX6_challengerPost 21 = .ok (.iaload, 1) := by decide +kernel
theorem dX6_challengerPost_22 : decode cX6_challengerPost 22 = .ok (.ireturn, 1) := by decide +kernel
set_option maxRecDepth 20000 in
theorem ggX6_takes_X6_edit : GoodIn wsX6_takes wsX6_edit := goodIn_r _ [8, 9, 10, 2, 11, 12, 13, 14, 15, 16, 17, 18, 19, 20] (by decide +kernel) (by decide +kernel)
set_option maxRecDepth 20000 in
theorem gX6_takes_X6_edit : GoodIn wsX6_takes (wsV RX6 73 RX6 yX6_edit wsX6_edit) := goodIn_app (goodIn_of _ (by decide +kernel)) ggX6_takes_X6_edit
theorem dX6_takes_0 : decode cX6_takes 0 = .ok (.aload_n 0, 1) := by decide +kernel
theorem dX6_takes_1 : decode cX6_takes 1 = .ok (.invokevirtual 73, 3) := by decide +kernel
theorem dX6_takes_4 : decode cX6_takes 4 = .ok (.iconst 0, 1) := by decide +kernel
theorem dX6_takes_5 : decode cX6_takes 5 = .ok (.istore_n 1, 1) := by decide +kernel
theorem dX6_takes_6 : decode cX6_takes 6 = .ok (.iload_n 1, 1) := by decide +kernel
theorem dX6_takes_7 : decode cX6_takes 7 = .ok (.aload_n 0, 1) := by decide +kernel
theorem dX6_takes_8 : decode cX6_takes 8 = .ok (.getfield 7, 3) := by decide +kernel
theorem dX6_takes_11 : decode cX6_takes 11 = .ok (.if_icmp .ge 21, 3) := by decide +kernel
theorem dX6_takes_14 : decode cX6_takes 14 = .ok (.aload_n 0, 1) := by decide +kernel
theorem dX6_takes_15 : decode cX6_takes 15 = .ok (.getfield 26, 3) := by decide +kernel
theorem dX6_takes_18 : decode cX6_takes 18 = .ok (.iload_n 1, 1) := by decide +kernel
theorem dX6_takes_19 : decode cX6_takes 19 = .ok (.aload_n 0, 1) := by decide +kernel
theorem dX6_takes_20 : decode cX6_takes 20 = .ok (.getfield 35, 3) := by decide +kernel
theorem dX6_takes_23 : decode cX6_takes 23 = .ok (.iload_n 1, 1) := by decide +kernel
theorem dX6_takes_24 : decode cX6_takes 24 = .ok (.iaload, 1) := by decide +kernel
theorem dX6_takes_25 : decode cX6_takes 25 = .ok (.iastore, 1) := by decide +kernel
theorem dX6_takes_26 : decode cX6_takes 26 = .ok (.iinc 1 1, 3) := by decide +kernel
theorem dX6_takes_29 : decode cX6_takes 29 = .ok (.goto (-23), 3) := by decide +kernel
theorem dX6_takes_32 : decode cX6_takes 32 = .ok (.return_, 1) := by decide +kernel
set_option maxRecDepth 20000 in
theorem ggX6_adoptChallenger_X6_challenges : GoodIn wsX6_adoptChallenger wsX6_challenges := goodIn_r _ [5, 6, 7, 8, 9, 10, 11, 12, 4, 13, 14, 15, 16, 17, 18, 19, 20, 21, 22, 23, 24, 25, 26, 27, 28, 29, 30, 31, 32, 33, 34, 35, 46, 47, 48, 49, 50, 51, 52, 53, 54, 55] (by decide +kernel) (by decide +kernel)
set_option maxRecDepth 20000 in
theorem gX6_adoptChallenger_X6_challenges : GoodIn wsX6_adoptChallenger (wsV RX6 98 RX6 yX6_challenges wsX6_challenges) := goodIn_app (goodIn_of _ (by decide +kernel)) ggX6_adoptChallenger_X6_challenges
set_option maxRecDepth 20000 in
theorem ggX6_adoptChallenger_X6_takes : GoodIn wsX6_adoptChallenger wsX6_takes := goodIn_r _ [39, 6, 18, 7, 40, 41, 42, 4, 43, 44, 45, 46, 47, 48, 49, 50, 51, 52, 53, 54, 55] (by decide +kernel) (by decide +kernel)
set_option maxRecDepth 20000 in
theorem gX6_adoptChallenger_X6_takes : GoodIn wsX6_adoptChallenger (wsV RX6 101 RX6 yX6_takes wsX6_takes) := goodIn_app (goodIn_of _ (by decide +kernel)) ggX6_adoptChallenger_X6_takes
theorem dX6_adoptChallenger_0 : decode cX6_adoptChallenger 0 = .ok (.aload_n 0, 1) := by decide +kernel
theorem dX6_adoptChallenger_1 : decode cX6_adoptChallenger 1 = .ok (.invokevirtual 98, 3) := by decide +kernel
theorem dX6_adoptChallenger_4 : decode cX6_adoptChallenger 4 = .ok (.istore_n 1, 1) := by decide +kernel
theorem dX6_adoptChallenger_5 : decode cX6_adoptChallenger 5 = .ok (.aload_n 0, 1) := by decide +kernel
theorem dX6_adoptChallenger_6 : decode cX6_adoptChallenger 6 = .ok (.invokevirtual 101, 3) := by decide +kernel
theorem dX6_adoptChallenger_9 : decode cX6_adoptChallenger 9 = .ok (.iload_n 1, 1) := by decide +kernel
theorem dX6_adoptChallenger_10 : decode cX6_adoptChallenger 10 = .ok (.ireturn, 1) := by decide +kernel
set_option maxRecDepth 20000 in
theorem ggX6_lays_X6_second : GoodIn wsX6_lays wsX6_second := goodIn_r _ [9, 10, 11, 4, 12, 13, 14, 8, 15, 1, 16, 17, 18, 19, 20, 21, 22, 23, 24, 25, 26, 27, 28, 29] (by decide +kernel) (by decide +kernel)
set_option maxRecDepth 20000 in
theorem gX6_lays_X6_second : GoodIn wsX6_lays (wsV RX6 70 RX6 yX6_second wsX6_second) := goodIn_app (goodIn_of _ (by decide +kernel)) ggX6_lays_X6_second
set_option maxRecDepth 20000 in
theorem ggX6_lays_X6_first : GoodIn wsX6_lays wsX6_first := goodIn_r _ [19, 10, 11, 20, 21, 22, 23, 24, 25, 26, 27, 28, 29] (by decide +kernel) (by decide +kernel)
set_option maxRecDepth 20000 in
theorem gX6_lays_X6_first : GoodIn wsX6_lays (wsV RX6 63 RX6 yX6_first wsX6_first) := goodIn_app (goodIn_of _ (by decide +kernel)) ggX6_lays_X6_first
set_option maxRecDepth 20000 in
theorem ggX6_lays_X6_firsts : GoodIn wsX6_lays wsX6_firsts := goodIn_r _ [15, 1, 16, 17, 18, 8, 19, 10, 11, 20, 21, 22, 23, 24, 25, 26, 27, 28, 29] (by decide +kernel) (by decide +kernel)
set_option maxRecDepth 20000 in
theorem gX6_lays_X6_firsts : GoodIn wsX6_lays (wsV RX6 67 RX6 yX6_firsts wsX6_firsts) := goodIn_app (goodIn_of _ (by decide +kernel)) ggX6_lays_X6_firsts
theorem dX6_lays_0 : decode cX6_lays 0 = .ok (.iconst 1, 1) := by decide +kernel
theorem dX6_lays_1 : decode cX6_lays 1 = .ok (.istore_n 2, 1) := by decide +kernel
theorem dX6_lays_2 : decode cX6_lays 2 = .ok (.iconst 0, 1) := by decide +kernel
theorem dX6_lays_3 : decode cX6_lays 3 = .ok (.istore_n 3, 1) := by decide +kernel
theorem dX6_lays_4 : decode cX6_lays 4 = .ok (.iload_n 3, 1) := by decide +kernel
theorem dX6_lays_5 : decode cX6_lays 5 = .ok (.aload_n 0, 1) := by decide +kernel
theorem dX6_lays_6 : decode cX6_lays 6 = .ok (.getfield 7, 3) := by decide +kernel
theorem dX6_lays_9 : decode cX6_lays 9 = .ok (.if_icmp .ge 72, 3) := by decide +kernel
theorem dX6_lays_12 : decode cX6_lays 12 = .ok (.iload_n 1, 1) := by decide +kernel
theorem dX6_lays_13 : decode cX6_lays 13 = .ok (.iload_n 3, 1) := by decide +kernel
theorem dX6_lays_14 : decode cX6_lays 14 = .ok (.ishr, 1) := by decide +kernel
theorem dX6_lays_15 : decode cX6_lays 15 = .ok (.iconst 1, 1) := by decide +kernel
theorem dX6_lays_16 : decode cX6_lays 16 = .ok (.iand, 1) := by decide +kernel
theorem dX6_lays_17 : decode cX6_lays 17 = .ok (.iconst 1, 1) := by decide +kernel
theorem dX6_lays_18 : decode cX6_lays 18 = .ok (.if_icmp .ne 7, 3) := by decide +kernel
theorem dX6_lays_21 : decode cX6_lays 21 = .ok (.iconst 1, 1) := by decide +kernel
theorem dX6_lays_22 : decode cX6_lays 22 = .ok (.goto 4, 3) := by decide +kernel
theorem dX6_lays_25 : decode cX6_lays 25 = .ok (.iconst 0, 1) := by decide +kernel
theorem dX6_lays_26 : decode cX6_lays 26 = .ok (.istore 4, 2) := by decide +kernel
theorem dX6_lays_28 : decode cX6_lays 28 = .ok (.aload_n 0, 1) := by decide +kernel
theorem dX6_lays_29 : decode cX6_lays 29 = .ok (.getfield 35, 3) := by decide +kernel
theorem dX6_lays_32 : decode cX6_lays 32 = .ok (.iload_n 3, 1) := by decide +kernel
theorem dX6_lays_33 : decode cX6_lays 33 = .ok (.iload 4, 2) := by decide +kernel
theorem dX6_lays_35 : decode cX6_lays 35 = .ok (.ifCond .eq 11, 3) := by decide +kernel
theorem dX6_lays_38 : decode cX6_lays 38 = .ok (.aload_n 0, 1) := by decide +kernel
theorem dX6_lays_39 : decode cX6_lays 39 = .ok (.iload_n 3, 1) := by decide +kernel
theorem dX6_lays_40 : decode cX6_lays 40 = .ok (.invokevirtual 70, 3) := by decide +kernel
theorem dX6_lays_43 : decode cX6_lays 43 = .ok (.goto 8, 3) := by decide +kernel
theorem dX6_lays_46 : decode cX6_lays 46 = .ok (.aload_n 0, 1) := by decide +kernel
theorem dX6_lays_47 : decode cX6_lays 47 = .ok (.iload_n 3, 1) := by decide +kernel
theorem dX6_lays_48 : decode cX6_lays 48 = .ok (.invokevirtual 63, 3) := by decide +kernel
theorem dX6_lays_51 : decode cX6_lays 51 = .ok (.iastore, 1) := by decide +kernel
theorem dX6_lays_52 : decode cX6_lays 52 = .ok (.iload_n 2, 1) := by decide +kernel
theorem dX6_lays_53 : decode cX6_lays 53 = .ok (.ifCond .eq 20, 3) := by decide +kernel
theorem dX6_lays_56 : decode cX6_lays 56 = .ok (.iload 4, 2) := by decide +kernel
theorem dX6_lays_58 : decode cX6_lays 58 = .ok (.ifCond .eq 11, 3) := by decide +kernel
theorem dX6_lays_61 : decode cX6_lays 61 = .ok (.aload_n 0, 1) := by decide +kernel
theorem dX6_lays_62 : decode cX6_lays 62 = .ok (.iload_n 3, 1) := by decide +kernel
theorem dX6_lays_63 : decode cX6_lays 63 = .ok (.invokevirtual 63, 3) := by decide +kernel
theorem dX6_lays_66 : decode cX6_lays 66 = .ok (.ifCond .lt 7, 3) := by decide +kernel
theorem dX6_lays_69 : decode cX6_lays 69 = .ok (.iconst 1, 1) := by decide +kernel
theorem dX6_lays_70 : decode cX6_lays 70 = .ok (.goto 4, 3) := by decide +kernel
theorem dX6_lays_73 : decode cX6_lays 73 = .ok (.iconst 0, 1) := by decide +kernel
theorem dX6_lays_74 : decode cX6_lays 74 = .ok (.istore_n 2, 1) := by decide +kernel
theorem dX6_lays_75 : decode cX6_lays 75 = .ok (.iinc 3 1, 3) := by decide +kernel
theorem dX6_lays_78 : decode cX6_lays 78 = .ok (.goto (-74), 3) := by decide +kernel
theorem dX6_lays_81 : decode cX6_lays 81 = .ok (.iconst 0, 1) := by decide +kernel
theorem dX6_lays_82 : decode cX6_lays 82 = .ok (.istore_n 3, 1) := by decide +kernel
theorem dX6_lays_83 : decode cX6_lays 83 = .ok (.iload_n 3, 1) := by decide +kernel
theorem dX6_lays_84 : decode cX6_lays 84 = .ok (.aload_n 0, 1) := by decide +kernel
theorem dX6_lays_85 : decode cX6_lays 85 = .ok (.getfield 13, 3) := by decide +kernel
theorem dX6_lays_88 : decode cX6_lays 88 = .ok (.if_icmp .ge 167, 3) := by decide +kernel
theorem dX6_lays_91 : decode cX6_lays 91 = .ok (.iconst 0, 1) := by decide +kernel
theorem dX6_lays_92 : decode cX6_lays 92 = .ok (.istore 4, 2) := by decide +kernel
theorem dX6_lays_94 : decode cX6_lays 94 = .ok (.iconst 0, 1) := by decide +kernel
theorem dX6_lays_95 : decode cX6_lays 95 = .ok (.istore 5, 2) := by decide +kernel
theorem dX6_lays_97 : decode cX6_lays 97 = .ok (.iconst 0, 1) := by decide +kernel
theorem dX6_lays_98 : decode cX6_lays 98 = .ok (.istore 6, 2) := by decide +kernel
theorem dX6_lays_100 : decode cX6_lays 100 = .ok (.iload 6, 2) := by decide +kernel
theorem dX6_lays_102 : decode cX6_lays 102 = .ok (.aload_n 0, 1) := by decide +kernel
theorem dX6_lays_103 : decode cX6_lays 103 = .ok (.getfield 7, 3) := by decide +kernel
theorem dX6_lays_106 : decode cX6_lays 106 = .ok (.if_icmp .ge 61, 3) := by decide +kernel
theorem dX6_lays_109 : decode cX6_lays 109 = .ok (.iload 4, 2) := by decide +kernel
theorem dX6_lays_111 : decode cX6_lays 111 = .ok (.aload_n 0, 1) := by decide +kernel
theorem dX6_lays_112 : decode cX6_lays 112 = .ok (.getfield 35, 3) := by decide +kernel
theorem dX6_lays_115 : decode cX6_lays 115 = .ok (.iload 6, 2) := by decide +kernel
theorem dX6_lays_117 : decode cX6_lays 117 = .ok (.iaload, 1) := by decide +kernel
theorem dX6_lays_118 : decode cX6_lays 118 = .ok (.iload_n 3, 1) := by decide +kernel
theorem dX6_lays_119 : decode cX6_lays 119 = .ok (.if_icmp .ne 7, 3) := by decide +kernel
theorem dX6_lays_122 : decode cX6_lays 122 = .ok (.iconst 1, 1) := by decide +kernel
theorem dX6_lays_123 : decode cX6_lays 123 = .ok (.goto 4, 3) := by decide +kernel
theorem dX6_lays_126 : decode cX6_lays 126 = .ok (.iconst 0, 1) := by decide +kernel
theorem dX6_lays_127 : decode cX6_lays 127 = .ok (.iadd, 1) := by decide +kernel
theorem dX6_lays_128 : decode cX6_lays 128 = .ok (.istore 4, 2) := by decide +kernel
theorem dX6_lays_130 : decode cX6_lays 130 = .ok (.iload 5, 2) := by decide +kernel
theorem dX6_lays_132 : decode cX6_lays 132 = .ok (.aload_n 0, 1) := by decide +kernel
theorem dX6_lays_133 : decode cX6_lays 133 = .ok (.getfield 35, 3) := by decide +kernel
theorem dX6_lays_136 : decode cX6_lays 136 = .ok (.iload 6, 2) := by decide +kernel
theorem dX6_lays_138 : decode cX6_lays 138 = .ok (.iaload, 1) := by decide +kernel
theorem dX6_lays_139 : decode cX6_lays 139 = .ok (.iload_n 3, 1) := by decide +kernel
theorem dX6_lays_140 : decode cX6_lays 140 = .ok (.if_icmp .ne 17, 3) := by decide +kernel
theorem dX6_lays_143 : decode cX6_lays 143 = .ok (.aload_n 0, 1) := by decide +kernel
theorem dX6_lays_144 : decode cX6_lays 144 = .ok (.iload 6, 2) := by decide +kernel
theorem dX6_lays_146 : decode cX6_lays 146 = .ok (.invokevirtual 63, 3) := by decide +kernel
theorem dX6_lays_149 : decode cX6_lays 149 = .ok (.iload_n 3, 1) := by decide +kernel
theorem dX6_lays_150 : decode cX6_lays 150 = .ok (.if_icmp .ne 7, 3) := by decide +kernel
theorem dX6_lays_153 : decode cX6_lays 153 = .ok (.iconst 1, 1) := by decide +kernel
theorem dX6_lays_154 : decode cX6_lays 154 = .ok (.goto 4, 3) := by decide +kernel
theorem dX6_lays_157 : decode cX6_lays 157 = .ok (.iconst 0, 1) := by decide +kernel
theorem dX6_lays_158 : decode cX6_lays 158 = .ok (.iadd, 1) := by decide +kernel
theorem dX6_lays_159 : decode cX6_lays 159 = .ok (.istore 5, 2) := by decide +kernel
theorem dX6_lays_161 : decode cX6_lays 161 = .ok (.iinc 6 1, 3) := by decide +kernel
theorem dX6_lays_164 : decode cX6_lays 164 = .ok (.goto (-64), 3) := by decide +kernel
theorem dX6_lays_167 : decode cX6_lays 167 = .ok (.aload_n 0, 1) := by decide +kernel
theorem dX6_lays_168 : decode cX6_lays 168 = .ok (.iload_n 3, 1) := by decide +kernel
theorem dX6_lays_169 : decode cX6_lays 169 = .ok (.invokevirtual 67, 3) := by decide +kernel
theorem dX6_lays_172 : decode cX6_lays 172 = .ok (.istore 6, 2) := by decide +kernel
theorem dX6_lays_174 : decode cX6_lays 174 = .ok (.iload_n 2, 1) := by decide +kernel
theorem dX6_lays_175 : decode cX6_lays 175 = .ok (.ifCond .eq 18, 3) := by decide +kernel
theorem dX6_lays_178 : decode cX6_lays 178 = .ok (.iload 4, 2) := by decide +kernel
theorem dX6_lays_180 : decode cX6_lays 180 = .ok (.aload_n 0, 1) := by decide +kernel
theorem dX6_lays_181 : decode cX6_lays 181 = .ok (.getfield 16, 3) := by decide +kernel
theorem dX6_lays_184 : decode cX6_lays 184 = .ok (.iload_n 3, 1) := by decide +kernel
theorem dX6_lays_185 : decode cX6_lays 185 = .ok (.iaload, 1) := by decide +kernel
theorem dX6_lays_186 : decode cX6_lays 186 = .ok (.if_icmp .gt 7, 3) := by decide +kernel
theorem dX6_lays_189 : decode cX6_lays 189 = .ok (.iconst 1, 1) := by decide +kernel
theorem dX6_lays_190 : decode cX6_lays 190 = .ok (.goto 4, 3) := by decide +kernel
theorem dX6_lays_193 : decode cX6_lays 193 = .ok (.iconst 0, 1) := by decide +kernel
theorem dX6_lays_194 : decode cX6_lays 194 = .ok (.istore_n 2, 1) := by decide +kernel
theorem dX6_lays_195 : decode cX6_lays 195 = .ok (.iload 6, 2) := by decide +kernel
theorem dX6_lays_197 : decode cX6_lays 197 = .ok (.ifCond .le 52, 3) := by decide +kernel
theorem dX6_lays_200 : decode cX6_lays 200 = .ok (.iload_n 2, 1) := by decide +kernel
theorem dX6_lays_201 : decode cX6_lays 201 = .ok (.ifCond .eq 46, 3) := by decide +kernel
theorem dX6_lays_204 : decode cX6_lays 204 = .ok (.iload 6, 2) := by decide +kernel
theorem dX6_lays_206 : decode cX6_lays 206 = .ok (.aload_n 0, 1) := by decide +kernel
theorem dX6_lays_207 : decode cX6_lays 207 = .ok (.getfield 16, 3) := by decide +kernel
theorem dX6_lays_210 : decode cX6_lays 210 = .ok (.iload_n 3, 1) := by decide +kernel
theorem dX6_lays_211 : decode cX6_lays 211 = .ok (.iaload, 1) := by decide +kernel
theorem dX6_lays_212 : decode cX6_lays 212 = .ok (.if_icmp .gt 13, 3) := by decide +kernel
theorem dX6_lays_215 : decode cX6_lays 215 = .ok (.iload 5, 2) := by decide +kernel
theorem dX6_lays_217 : decode cX6_lays 217 = .ok (.iload 6, 2) := by decide +kernel
theorem dX6_lays_219 : decode cX6_lays 219 = .ok (.if_icmp .ne 28, 3) := by decide +kernel
theorem dX6_lays_222 : decode cX6_lays 222 = .ok (.goto 21, 3) := by decide +kernel
theorem dX6_lays_225 : decode cX6_lays 225 = .ok (.iload 4, 2) := by decide +kernel
theorem dX6_lays_227 : decode cX6_lays 227 = .ok (.aload_n 0, 1) := by decide +kernel
theorem dX6_lays_228 : decode cX6_lays 228 = .ok (.getfield 16, 3) := by decide +kernel
theorem dX6_lays_231 : decode cX6_lays 231 = .ok (.iload_n 3, 1) := by decide +kernel
theorem dX6_lays_232 : decode cX6_lays 232 = .ok (.iaload, 1) := by decide +kernel
theorem dX6_lays_233 : decode cX6_lays 233 = .ok (.if_icmp .ne 14, 3) := by decide +kernel
theorem dX6_lays_236 : decode cX6_lays 236 = .ok (.iload 5, 2) := by decide +kernel
theorem dX6_lays_238 : decode cX6_lays 238 = .ok (.iload 4, 2) := by decide +kernel
theorem dX6_lays_240 : decode cX6_lays 240 = .ok (.if_icmp .ne 7, 3) := by decide +kernel
theorem dX6_lays_243 : decode cX6_lays 243 = .ok (.iconst 1, 1) := by decide +kernel
theorem dX6_lays_244 : decode cX6_lays 244 = .ok (.goto 4, 3) := by decide +kernel
theorem dX6_lays_247 : decode cX6_lays 247 = .ok (.iconst 0, 1) := by decide +kernel
theorem dX6_lays_248 : decode cX6_lays 248 = .ok (.istore_n 2, 1) := by decide +kernel
theorem dX6_lays_249 : decode cX6_lays 249 = .ok (.iinc 3 1, 3) := by decide +kernel
theorem dX6_lays_252 : decode cX6_lays 252 = .ok (.goto (-169), 3) := by decide +kernel
theorem dX6_lays_255 : decode cX6_lays 255 = .ok (.iload_n 2, 1) := by decide +kernel
theorem dX6_lays_256 : decode cX6_lays 256 = .ok (.ireturn, 1) := by decide +kernel
theorem dX6_sizeOf_0 : decode cX6_sizeOf 0 = .ok (.iconst 0, 1) := by decide +kernel
theorem dX6_sizeOf_1 : decode cX6_sizeOf 1 = .ok (.istore_n 1, 1) := by decide +kernel
theorem dX6_sizeOf_2 : decode cX6_sizeOf 2 = .ok (.iconst 0, 1) := by decide +kernel
theorem dX6_sizeOf_3 : decode cX6_sizeOf 3 = .ok (.istore_n 2, 1) := by decide +kernel
theorem dX6_sizeOf_4 : decode cX6_sizeOf 4 = .ok (.iload_n 2, 1) := by decide +kernel
theorem dX6_sizeOf_5 : decode cX6_sizeOf 5 = .ok (.aload_n 0, 1) := by decide +kernel
theorem dX6_sizeOf_6 : decode cX6_sizeOf 6 = .ok (.getfield 7, 3) := by decide +kernel
theorem dX6_sizeOf_9 : decode cX6_sizeOf 9 = .ok (.if_icmp .ge 26, 3) := by decide +kernel
theorem dX6_sizeOf_12 : decode cX6_sizeOf 12 = .ok (.iload_n 1, 1) := by decide +kernel
theorem dX6_sizeOf_13 : decode cX6_sizeOf 13 = .ok (.aload_n 0, 1) := by decide +kernel
theorem dX6_sizeOf_14 : decode cX6_sizeOf 14 = .ok (.getfield 35, 3) := by decide +kernel
theorem dX6_sizeOf_17 : decode cX6_sizeOf 17 = .ok (.iload_n 2, 1) := by decide +kernel
theorem dX6_sizeOf_18 : decode cX6_sizeOf 18 = .ok (.iaload, 1) := by decide +kernel
theorem dX6_sizeOf_19 : decode cX6_sizeOf 19 = .ok (.ifCond .lt 7, 3) := by decide +kernel
theorem dX6_sizeOf_22 : decode cX6_sizeOf 22 = .ok (.iconst 1, 1) := by decide +kernel
theorem dX6_sizeOf_23 : decode cX6_sizeOf 23 = .ok (.goto 4, 3) := by decide +kernel
theorem dX6_sizeOf_26 : decode cX6_sizeOf 26 = .ok (.iconst 0, 1) := by decide +kernel
theorem dX6_sizeOf_27 : decode cX6_sizeOf 27 = .ok (.iadd, 1) := by decide +kernel
theorem dX6_sizeOf_28 : decode cX6_sizeOf 28 = .ok (.istore_n 1, 1) := by decide +kernel
theorem dX6_sizeOf_29 : decode cX6_sizeOf 29 = .ok (.iinc 2 1, 3) := by decide +kernel
theorem dX6_sizeOf_32 : decode cX6_sizeOf 32 = .ok (.goto (-28), 3) := by decide +kernel
theorem dX6_sizeOf_35 : decode cX6_sizeOf 35 = .ok (.iload_n 1, 1) := by decide +kernel
theorem dX6_sizeOf_36 : decode cX6_sizeOf 36 = .ok (.ireturn, 1) := by decide +kernel
theorem dX6_code_0 : decode cX6_code 0 = .ok (.iconst 0, 1) := by decide +kernel
theorem dX6_code_1 : decode cX6_code 1 = .ok (.istore_n 1, 1) := by decide +kernel
theorem dX6_code_2 : decode cX6_code 2 = .ok (.iconst 0, 1) := by decide +kernel
theorem dX6_code_3 : decode cX6_code 3 = .ok (.istore_n 2, 1) := by decide +kernel
theorem dX6_code_4 : decode cX6_code 4 = .ok (.iload_n 2, 1) := by decide +kernel
theorem dX6_code_5 : decode cX6_code 5 = .ok (.aload_n 0, 1) := by decide +kernel
theorem dX6_code_6 : decode cX6_code 6 = .ok (.getfield 7, 3) := by decide +kernel
theorem dX6_code_9 : decode cX6_code 9 = .ok (.if_icmp .ge 34, 3) := by decide +kernel
theorem dX6_code_12 : decode cX6_code 12 = .ok (.bipush 6, 2) := by decide +kernel
theorem dX6_code_14 : decode cX6_code 14 = .ok (.iload_n 1, 1) := by decide +kernel
theorem dX6_code_15 : decode cX6_code 15 = .ok (.imul, 1) := by decide +kernel
theorem dX6_code_16 : decode cX6_code 16 = .ok (.aload_n 0, 1) := by decide +kernel
theorem dX6_code_17 : decode cX6_code 17 = .ok (.getfield 35, 3) := by decide +kernel
theorem dX6_code_20 : decode cX6_code 20 = .ok (.iload_n 2, 1) := by decide +kernel
theorem dX6_code_21 : decode cX6_code 21 = .ok (.iaload, 1) := by decide +kernel
theorem dX6_code_22 : decode cX6_code 22 = .ok (.ifCond .ge 7, 3) := by decide +kernel
theorem dX6_code_25 : decode cX6_code 25 = .ok (.iconst 5, 1) := by decide +kernel
theorem dX6_code_26 : decode cX6_code 26 = .ok (.goto 9, 3) := by decide +kernel
theorem dX6_code_29 : decode cX6_code 29 = .ok (.aload_n 0, 1) := by decide +kernel
theorem dX6_code_30 : decode cX6_code 30 = .ok (.getfield 35, 3) := by decide +kernel
theorem dX6_code_33 : decode cX6_code 33 = .ok (.iload_n 2, 1) := by decide +kernel
theorem dX6_code_34 : decode cX6_code 34 = .ok (.iaload, 1) := by decide +kernel
theorem dX6_code_35 : decode cX6_code 35 = .ok (.iadd, 1) := by decide +kernel
theorem dX6_code_36 : decode cX6_code 36 = .ok (.istore_n 1, 1) := by decide +kernel
theorem dX6_code_37 : decode cX6_code 37 = .ok (.iinc 2 1, 3) := by decide +kernel
theorem dX6_code_40 : decode cX6_code 40 = .ok (.goto (-36), 3) := by decide +kernel
theorem dX6_code_43 : decode cX6_code 43 = .ok (.iload_n 1, 1) := by decide +kernel
theorem dX6_code_44 : decode cX6_code 44 = .ok (.ireturn, 1) := by decide +kernel
set_option maxRecDepth 20000 in
theorem ggX6_popularCount_X6_lays : GoodIn wsX6_popularCount wsX6_lays := goodIn_r _ [6, 1, 7, 8, 9, 10, 11, 12, 5, 13, 14, 15, 16, 17, 18, 19, 20, 21, 22, 23, 24, 25, 26, 27, 28, 29, 30, 31, 32, 33] (by decide +kernel) (by decide +kernel)
set_option maxRecDepth 20000 in
theorem gX6_popularCount_X6_lays : GoodIn wsX6_popularCount (wsV RX6 104 RX6 yX6_lays wsX6_lays) := goodIn_app (goodIn_of _ (by decide +kernel)) ggX6_popularCount_X6_lays
theorem dX6_popularCount_0 : decode cX6_popularCount 0 = .ok (.iconst 0, 1) := by decide +kernel
theorem dX6_popularCount_1 : decode cX6_popularCount 1 = .ok (.istore_n 1, 1) := by decide +kernel
theorem dX6_popularCount_2 : decode cX6_popularCount 2 = .ok (.iconst 0, 1) := by decide +kernel
theorem dX6_popularCount_3 : decode cX6_popularCount 3 = .ok (.istore_n 2, 1) := by decide +kernel
theorem dX6_popularCount_4 : decode cX6_popularCount 4 = .ok (.iload_n 2, 1) := by decide +kernel
theorem dX6_popularCount_5 : decode cX6_popularCount 5 = .ok (.iconst 1, 1) := by decide +kernel
theorem dX6_popularCount_6 : decode cX6_popularCount 6 = .ok (.aload_n 0, 1) := by decide +kernel
theorem dX6_popularCount_7 : decode cX6_popularCount 7 = .ok (.getfield 7, 3) := by decide +kernel
theorem dX6_popularCount_10 : decode cX6_popularCount 10 = .ok (.ishl, 1) := by decide +kernel
theorem dX6_popularCount_11 : decode cX6_popularCount 11 = .ok (.if_icmp .ge 25, 3) := by decide +kernel
theorem dX6_popularCount_14 : decode cX6_popularCount 14 = .ok (.iload_n 1, 1) := by decide +kernel
theorem dX6_popularCount_15 : decode cX6_popularCount 15 = .ok (.aload_n 0, 1) := by decide +kernel
theorem dX6_popularCount_16 : decode cX6_popularCount 16 = .ok (.iload_n 2, 1) := by decide +kernel
theorem dX6_popularCount_17 : decode cX6_popularCount 17 = .ok (.invokevirtual 104, 3) := by decide +kernel
theorem dX6_popularCount_20 : decode cX6_popularCount 20 = .ok (.ifCond .eq 7, 3) := by decide +kernel
theorem dX6_popularCount_23 : decode cX6_popularCount 23 = .ok (.iconst 1, 1) := by decide +kernel
theorem dX6_popularCount_24 : decode cX6_popularCount 24 = .ok (.goto 4, 3) := by decide +kernel
theorem dX6_popularCount_27 : decode cX6_popularCount 27 = .ok (.iconst 0, 1) := by decide +kernel
theorem dX6_popularCount_28 : decode cX6_popularCount 28 = .ok (.iadd, 1) := by decide +kernel
theorem dX6_popularCount_29 : decode cX6_popularCount 29 = .ok (.istore_n 1, 1) := by decide +kernel
theorem dX6_popularCount_30 : decode cX6_popularCount 30 = .ok (.iinc 2 1, 3) := by decide +kernel
theorem dX6_popularCount_33 : decode cX6_popularCount 33 = .ok (.goto (-29), 3) := by decide +kernel
theorem dX6_popularCount_36 : decode cX6_popularCount 36 = .ok (.iload_n 1, 1) := by decide +kernel
theorem dX6_popularCount_37 : decode cX6_popularCount 37 = .ok (.ireturn, 1) := by decide +kernel
set_option maxRecDepth 20000 in
theorem ggX6_greatestPopularSize_X6_lays : GoodIn wsX6_greatestPopularSize wsX6_lays := goodIn_r _ [6, 1, 7, 8, 9, 10, 11, 12, 5, 13, 14, 15, 16, 17, 18, 19, 20, 21, 22, 23, 28, 29, 30, 31, 32, 33, 34, 35, 36, 37] (by decide +kernel) (by decide +kernel)
set_option maxRecDepth 20000 in
theorem gX6_greatestPopularSize_X6_lays : GoodIn wsX6_greatestPopularSize (wsV RX6 104 RX6 yX6_lays wsX6_lays) := goodIn_app (goodIn_of _ (by decide +kernel)) ggX6_greatestPopularSize_X6_lays
set_option maxRecDepth 20000 in
theorem ggX6_greatestPopularSize_X6_sizeOf : GoodIn wsX6_greatestPopularSize wsX6_sizeOf := goodIn_r _ [27, 1, 7, 28, 29, 30, 31, 32, 33, 34, 35, 36, 37] (by decide +kernel) (by decide +kernel)
set_option maxRecDepth 20000 in
theorem gX6_greatestPopularSize_X6_sizeOf : GoodIn wsX6_greatestPopularSize (wsV RX6 107 RX6 yX6_sizeOf wsX6_sizeOf) := goodIn_app (goodIn_of _ (by decide +kernel)) ggX6_greatestPopularSize_X6_sizeOf
theorem dX6_greatestPopularSize_0 : decode cX6_greatestPopularSize 0 = .ok (.bipush (-104), 2) := by decide +kernel
theorem dX6_greatestPopularSize_2 : decode cX6_greatestPopularSize 2 = .ok (.istore_n 1, 1) := by decide +kernel
theorem dX6_greatestPopularSize_3 : decode cX6_greatestPopularSize 3 = .ok (.iconst 0, 1) := by decide +kernel
theorem dX6_greatestPopularSize_4 : decode cX6_greatestPopularSize 4 = .ok (.istore_n 2, 1) := by decide +kernel
theorem dX6_greatestPopularSize_5 : decode cX6_greatestPopularSize 5 = .ok (.iload_n 2, 1) := by decide +kernel
theorem dX6_greatestPopularSize_6 : decode cX6_greatestPopularSize 6 = .ok (.iconst 1, 1) := by decide +kernel
theorem dX6_greatestPopularSize_7 : decode cX6_greatestPopularSize 7 = .ok (.aload_n 0, 1) := by decide +kernel
theorem dX6_greatestPopularSize_8 : decode cX6_greatestPopularSize 8 = .ok (.getfield 7, 3) := by decide +kernel
theorem dX6_greatestPopularSize_11 : decode cX6_greatestPopularSize 11 = .ok (.ishl, 1) := by decide +kernel
theorem dX6_greatestPopularSize_12 : decode cX6_greatestPopularSize 12 = .ok (.if_icmp .ge 30, 3) := by decide +kernel
theorem dX6_greatestPopularSize_15 : decode cX6_greatestPopularSize 15 = .ok (.aload_n 0, 1) := by decide +kernel
theorem dX6_greatestPopularSize_16 : decode cX6_greatestPopularSize 16 = .ok (.iload_n 2, 1) := by decide +kernel
theorem dX6_greatestPopularSize_17 : decode cX6_greatestPopularSize 17 = .ok (.invokevirtual 104, 3) := by decide +kernel
theorem dX6_greatestPopularSize_20 : decode cX6_greatestPopularSize 20 = .ok (.ifCond .eq 16, 3) := by decide +kernel
theorem dX6_greatestPopularSize_23 : decode cX6_greatestPopularSize 23 = .ok (.aload_n 0, 1) := by decide +kernel
theorem dX6_greatestPopularSize_24 : decode cX6_greatestPopularSize 24 = .ok (.invokevirtual 107, 3) := by decide +kernel
theorem dX6_greatestPopularSize_27 : decode cX6_greatestPopularSize 27 = .ok (.iload_n 1, 1) := by decide +kernel
theorem dX6_greatestPopularSize_28 : decode cX6_greatestPopularSize 28 = .ok (.if_icmp .le 8, 3) := by decide +kernel
theorem dX6_greatestPopularSize_31 : decode cX6_greatestPopularSize 31 = .ok (.aload_n 0, 1) := by decide +kernel
theorem dX6_greatestPopularSize_32 : decode cX6_greatestPopularSize 32 = .ok (.invokevirtual 107, 3) := by decide +kernel
theorem dX6_greatestPopularSize_35 : decode cX6_greatestPopularSize 35 = .ok (.istore_n 1, 1) := by decide +kernel
theorem dX6_greatestPopularSize_36 : decode cX6_greatestPopularSize 36 = .ok (.iinc 2 1, 3) := by decide +kernel
theorem dX6_greatestPopularSize_39 : decode cX6_greatestPopularSize 39 = .ok (.goto (-34), 3) := by decide +kernel
theorem dX6_greatestPopularSize_42 : decode cX6_greatestPopularSize 42 = .ok (.iload_n 1, 1) := by decide +kernel
theorem dX6_greatestPopularSize_43 : decode cX6_greatestPopularSize 43 = .ok (.ireturn, 1) := by decide +kernel
set_option maxRecDepth 20000 in
theorem ggX6_adoptPopular_X6_popularCount : GoodIn wsX6_adoptPopular wsX6_popularCount := goodIn_r _ [7, 2, 8, 9, 10, 6, 11, 12, 13, 14, 15, 16, 17, 18, 19, 20, 21, 22, 23, 24, 25, 26, 27, 28, 48, 49, 50, 51, 52, 53, 54, 55, 56, 57] (by decide +kernel) (by decide +kernel)
set_option maxRecDepth 20000 in
theorem gX6_adoptPopular_X6_popularCount : GoodIn wsX6_adoptPopular (wsV RX6 110 RX6 yX6_popularCount wsX6_popularCount) := goodIn_app (goodIn_of _ (by decide +kernel)) ggX6_adoptPopular_X6_popularCount
set_option maxRecDepth 20000 in
theorem ggX6_adoptPopular_X6_lays : GoodIn wsX6_adoptPopular wsX6_lays := goodIn_r _ [11, 2, 12, 13, 14, 15, 16, 17, 6, 18, 19, 20, 21, 22, 23, 24, 25, 26, 27, 28, 48, 49, 50, 51, 52, 53, 54, 55, 56, 57] (by decide +kernel) (by decide +kernel)
set_option maxRecDepth 20000 in
theorem gX6_adoptPopular_X6_lays : GoodIn wsX6_adoptPopular (wsV RX6 104 RX6 yX6_lays wsX6_lays) := goodIn_app (goodIn_of _ (by decide +kernel)) ggX6_adoptPopular_X6_lays
set_option maxRecDepth 20000 in
theorem ggX6_adoptPopular_X6_code : GoodIn wsX6_adoptPopular wsX6_code := goodIn_r _ [32, 2, 12, 48, 49, 50, 51, 52, 53, 54, 55, 56, 57] (by decide +kernel) (by decide +kernel)
set_option maxRecDepth 20000 in
theorem gX6_adoptPopular_X6_code : GoodIn wsX6_adoptPopular (wsV RX6 114 RX6 yX6_code wsX6_code) := goodIn_app (goodIn_of _ (by decide +kernel)) ggX6_adoptPopular_X6_code
set_option maxRecDepth 20000 in
theorem ggX6_adoptPopular_X6_takes : GoodIn wsX6_adoptPopular wsX6_takes := goodIn_r _ [36, 2, 37, 12, 38, 39, 40, 6, 41, 42, 43, 48, 49, 50, 51, 52, 53, 54, 55, 56, 57] (by decide +kernel) (by decide +kernel)
set_option maxRecDepth 20000 in
theorem gX6_adoptPopular_X6_takes : GoodIn wsX6_adoptPopular (wsV RX6 101 RX6 yX6_takes wsX6_takes) := goodIn_app (goodIn_of _ (by decide +kernel)) ggX6_adoptPopular_X6_takes
set_option maxRecDepth 20000 in
theorem ggX6_adoptPopular_X6_sizeOf : GoodIn wsX6_adoptPopular wsX6_sizeOf := goodIn_r _ [47, 2, 12, 48, 49, 50, 51, 52, 53, 54, 55, 56, 57] (by decide +kernel) (by decide +kernel)
set_option maxRecDepth 20000 in
theorem gX6_adoptPopular_X6_sizeOf : GoodIn wsX6_adoptPopular (wsV RX6 107 RX6 yX6_sizeOf wsX6_sizeOf) := goodIn_app (goodIn_of _ (by decide +kernel)) ggX6_adoptPopular_X6_sizeOf
theorem dX6_adoptPopular_0 : decode cX6_adoptPopular 0 = .ok (.iload_n 1, 1) := by decide +kernel
theorem dX6_adoptPopular_1 : decode cX6_adoptPopular 1 = .ok (.ifCond .ge 6, 3) := by decide +kernel
theorem dX6_adoptPopular_4 : decode cX6_adoptPopular 4 = .ok (.bipush (-101), 2) := by decide +kernel
theorem dX6_adoptPopular_6 : decode cX6_adoptPopular 6 = .ok (.ireturn, 1) := by decide +kernel
theorem dX6_adoptPopular_7 : decode cX6_adoptPopular 7 = .ok (.iload_n 1, 1) := by decide +kernel
theorem dX6_adoptPopular_8 : decode cX6_adoptPopular 8 = .ok (.aload_n 0, 1) := by decide +kernel
theorem dX6_adoptPopular_9 : decode cX6_adoptPopular 9 = .ok (.invokevirtual 110, 3) := by decide +kernel
theorem dX6_adoptPopular_12 : decode cX6_adoptPopular 12 = .ok (.if_icmp .lt 6, 3) := by decide +kernel
theorem dX6_adoptPopular_15 : decode cX6_adoptPopular 15 = .ok (.bipush (-104), 2) := by decide +kernel
theorem dX6_adoptPopular_17 : decode cX6_adoptPopular 17 = .ok (.ireturn, 1) := by decide +kernel
theorem dX6_adoptPopular_18 : decode cX6_adoptPopular 18 = .ok (.iconst (-1), 1) := by decide +kernel
theorem dX6_adoptPopular_19 : decode cX6_adoptPopular 19 = .ok (.istore_n 2, 1) := by decide +kernel
theorem dX6_adoptPopular_20 : decode cX6_adoptPopular 20 = .ok (.iconst 0, 1) := by decide +kernel
theorem dX6_adoptPopular_21 : decode cX6_adoptPopular 21 = .ok (.istore_n 3, 1) := by decide +kernel
theorem dX6_adoptPopular_22 : decode cX6_adoptPopular 22 = .ok (.iconst 0, 1) := by decide +kernel
theorem dX6_adoptPopular_23 : decode cX6_adoptPopular 23 = .ok (.istore 4, 2) := by decide +kernel
theorem dX6_adoptPopular_25 : decode cX6_adoptPopular 25 = .ok (.iload 4, 2) := by decide +kernel
theorem dX6_adoptPopular_27 : decode cX6_adoptPopular 27 = .ok (.iload_n 1, 1) := by decide +kernel
theorem dX6_adoptPopular_28 : decode cX6_adoptPopular 28 = .ok (.if_icmp .gt 71, 3) := by decide +kernel
theorem dX6_adoptPopular_31 : decode cX6_adoptPopular 31 = .ok (.ldc 113, 2) := by decide +kernel
theorem dX6_adoptPopular_33 : decode cX6_adoptPopular 33 = .ok (.istore 5, 2) := by decide +kernel
theorem dX6_adoptPopular_35 : decode cX6_adoptPopular 35 = .ok (.iconst 0, 1) := by decide +kernel
theorem dX6_adoptPopular_36 : decode cX6_adoptPopular 36 = .ok (.istore 6, 2) := by decide +kernel
theorem dX6_adoptPopular_38 : decode cX6_adoptPopular 38 = .ok (.iload 6, 2) := by decide +kernel
theorem dX6_adoptPopular_40 : decode cX6_adoptPopular 40 = .ok (.iconst 1, 1) := by decide +kernel
theorem dX6_adoptPopular_41 : decode cX6_adoptPopular 41 = .ok (.aload_n 0, 1) := by decide +kernel
theorem dX6_adoptPopular_42 : decode cX6_adoptPopular 42 = .ok (.getfield 7, 3) := by decide +kernel
theorem dX6_adoptPopular_45 : decode cX6_adoptPopular 45 = .ok (.ishl, 1) := by decide +kernel
theorem dX6_adoptPopular_46 : decode cX6_adoptPopular 46 = .ok (.if_icmp .ge 44, 3) := by decide +kernel
theorem dX6_adoptPopular_49 : decode cX6_adoptPopular 49 = .ok (.aload_n 0, 1) := by decide +kernel
theorem dX6_adoptPopular_50 : decode cX6_adoptPopular 50 = .ok (.iload 6, 2) := by decide +kernel
theorem dX6_adoptPopular_52 : decode cX6_adoptPopular 52 = .ok (.invokevirtual 104, 3) := by decide +kernel
theorem dX6_adoptPopular_55 : decode cX6_adoptPopular 55 = .ok (.ifCond .eq 29, 3) := by decide +kernel
theorem dX6_adoptPopular_58 : decode cX6_adoptPopular 58 = .ok (.aload_n 0, 1) := by decide +kernel
theorem dX6_adoptPopular_59 : decode cX6_adoptPopular 59 = .ok (.invokevirtual 114, 3) := by decide +kernel
theorem dX6_adoptPopular_62 : decode cX6_adoptPopular 62 = .ok (.iload_n 2, 1) := by decide +kernel
theorem dX6_adoptPopular_63 : decode cX6_adoptPopular 63 = .ok (.if_icmp .le 21, 3) := by decide +kernel
theorem dX6_adoptPopular_66 : decode cX6_adoptPopular 66 = .ok (.aload_n 0, 1) := by decide +kernel
theorem dX6_adoptPopular_67 : decode cX6_adoptPopular 67 = .ok (.invokevirtual 114, 3) := by decide +kernel
theorem dX6_adoptPopular_70 : decode cX6_adoptPopular 70 = .ok (.iload 5, 2) := by decide +kernel
theorem dX6_adoptPopular_72 : decode cX6_adoptPopular 72 = .ok (.if_icmp .ge 12, 3) := by decide +kernel
theorem dX6_adoptPopular_75 : decode cX6_adoptPopular 75 = .ok (.aload_n 0, 1) := by decide +kernel
theorem dX6_adoptPopular_76 : decode cX6_adoptPopular 76 = .ok (.invokevirtual 114, 3) := by decide +kernel
theorem dX6_adoptPopular_79 : decode cX6_adoptPopular 79 = .ok (.istore 5, 2) := by decide +kernel
theorem dX6_adoptPopular_81 : decode cX6_adoptPopular 81 = .ok (.iload 6, 2) := by decide +kernel
theorem dX6_adoptPopular_83 : decode cX6_adoptPopular 83 = .ok (.istore_n 3, 1) := by decide +kernel
theorem dX6_adoptPopular_84 : decode cX6_adoptPopular 84 = .ok (.iinc 6 1, 3) := by decide +kernel
theorem dX6_adoptPopular_87 : decode cX6_adoptPopular 87 = .ok (.goto (-49), 3) := by decide +kernel
theorem dX6_adoptPopular_90 : decode cX6_adoptPopular 90 = .ok (.iload 5, 2) := by decide +kernel
theorem dX6_adoptPopular_92 : decode cX6_adoptPopular 92 = .ok (.istore_n 2, 1) := by decide +kernel
theorem dX6_adoptPopular_93 : decode cX6_adoptPopular 93 = .ok (.iinc 4 1, 3) := by decide +kernel
theorem dX6_adoptPopular_96 : decode cX6_adoptPopular 96 = .ok (.goto (-71), 3) := by decide +kernel
theorem dX6_adoptPopular_99 : decode cX6_adoptPopular 99 = .ok (.aload_n 0, 1) := by decide +kernel
theorem dX6_adoptPopular_100 : decode cX6_adoptPopular 100 = .ok (.iload_n 3, 1) := by decide +kernel
theorem dX6_adoptPopular_101 : decode cX6_adoptPopular 101 = .ok (.invokevirtual 104, 3) := by decide +kernel
theorem dX6_adoptPopular_104 : decode cX6_adoptPopular 104 = .ok (.ifCond .eq 7, 3) := by decide +kernel
theorem dX6_adoptPopular_107 : decode cX6_adoptPopular 107 = .ok (.aload_n 0, 1) := by decide +kernel
theorem dX6_adoptPopular_108 : decode cX6_adoptPopular 108 = .ok (.invokevirtual 101, 3) := by decide +kernel
theorem dX6_adoptPopular_111 : decode cX6_adoptPopular 111 = .ok (.aload_n 0, 1) := by decide +kernel
theorem dX6_adoptPopular_112 : decode cX6_adoptPopular 112 = .ok (.invokevirtual 107, 3) := by decide +kernel
theorem dX6_adoptPopular_115 : decode cX6_adoptPopular 115 = .ok (.ireturn, 1) := by decide +kernel
set_option maxRecDepth 20000 in
theorem ggX6_adoptSerial_X6_isApplicant : GoodIn wsX6_adoptSerial wsX6_isApplicant := goodIn_r _ [10, 1, 11, 12, 9, 13, 35, 36, 37, 38, 39, 40, 41, 42, 43, 44] (by decide +kernel) (by decide +kernel)
set_option maxRecDepth 20000 in
theorem gX6_adoptSerial_X6_isApplicant : GoodIn wsX6_adoptSerial (wsV RX6 56 RX6 yX6_isApplicant wsX6_isApplicant) := goodIn_app (goodIn_of _ (by decide +kernel)) ggX6_adoptSerial_X6_isApplicant
set_option maxRecDepth 20000 in
theorem ggX6_adoptSerial_X6_digit : GoodIn wsX6_adoptSerial wsX6_digit := goodIn_r _ [16] (by decide +kernel) (by decide +kernel)
set_option maxRecDepth 20000 in
theorem gX6_adoptSerial_X6_digit : GoodIn wsX6_adoptSerial (va_wsS RX6 80 yX6_digit wsX6_digit) := goodIn_app (goodIn_of _ (by decide +kernel)) ggX6_adoptSerial_X6_digit
set_option maxRecDepth 20000 in
theorem ggX6_adoptSerial_X6_power : GoodIn wsX6_adoptSerial wsX6_power := goodIn_r _ [19] (by decide +kernel) (by decide +kernel)
set_option maxRecDepth 20000 in
theorem gX6_adoptSerial_X6_power : GoodIn wsX6_adoptSerial (va_wsS RX6 83 yX6_power wsX6_power) := goodIn_app (goodIn_of _ (by decide +kernel)) ggX6_adoptSerial_X6_power
set_option maxRecDepth 20000 in
theorem ggX6_adoptSerial_X6_takes : GoodIn wsX6_adoptSerial wsX6_takes := goodIn_r _ [23, 1, 24, 2, 25, 26, 27, 9, 28, 29, 30, 35, 36, 37, 38, 39, 40, 41, 42, 43, 44] (by decide +kernel) (by decide +kernel)
set_option maxRecDepth 20000 in
theorem gX6_adoptSerial_X6_takes : GoodIn wsX6_adoptSerial (wsV RX6 101 RX6 yX6_takes wsX6_takes) := goodIn_app (goodIn_of _ (by decide +kernel)) ggX6_adoptSerial_X6_takes
set_option maxRecDepth 20000 in
theorem ggX6_adoptSerial_X6_size : GoodIn wsX6_adoptSerial wsX6_size := goodIn_r _ [34, 1, 24, 35, 36, 37, 38, 39, 40, 41, 42, 43, 44] (by decide +kernel) (by decide +kernel)
set_option maxRecDepth 20000 in
theorem gX6_adoptSerial_X6_size : GoodIn wsX6_adoptSerial (wsV RX6 94 RX6 yX6_size wsX6_size) := goodIn_app (goodIn_of _ (by decide +kernel)) ggX6_adoptSerial_X6_size
theorem dX6_adoptSerial_0 : decode cX6_adoptSerial 0 = .ok (.aload_n 0, 1) := by decide +kernel
theorem dX6_adoptSerial_1 : decode cX6_adoptSerial 1 = .ok (.iload_n 1, 1) := by decide +kernel
theorem dX6_adoptSerial_2 : decode cX6_adoptSerial 2 = .ok (.invokevirtual 56, 3) := by decide +kernel
theorem dX6_adoptSerial_5 : decode cX6_adoptSerial 5 = .ok (.ifCond .ne 6, 3) := by decide +kernel
theorem dX6_adoptSerial_8 : decode cX6_adoptSerial 8 = .ok (.bipush (-101), 2) := by decide +kernel
theorem dX6_adoptSerial_10 : decode cX6_adoptSerial 10 = .ok (.ireturn, 1) := by decide +kernel
theorem dX6_adoptSerial_11 : decode cX6_adoptSerial 11 = .ok (.iconst 0, 1) := by decide +kernel
theorem dX6_adoptSerial_12 : decode cX6_adoptSerial 12 = .ok (.istore_n 2, 1) := by decide +kernel
theorem dX6_adoptSerial_13 : decode cX6_adoptSerial 13 = .ok (.iconst 0, 1) := by decide +kernel
theorem dX6_adoptSerial_14 : decode cX6_adoptSerial 14 = .ok (.istore_n 3, 1) := by decide +kernel
theorem dX6_adoptSerial_15 : decode cX6_adoptSerial 15 = .ok (.iload_n 3, 1) := by decide +kernel
theorem dX6_adoptSerial_16 : decode cX6_adoptSerial 16 = .ok (.aload_n 0, 1) := by decide +kernel
theorem dX6_adoptSerial_17 : decode cX6_adoptSerial 17 = .ok (.getfield 7, 3) := by decide +kernel
theorem dX6_adoptSerial_20 : decode cX6_adoptSerial 20 = .ok (.if_icmp .ge 125, 3) := by decide +kernel
theorem dX6_adoptSerial_23 : decode cX6_adoptSerial 23 = .ok (.iload_n 1, 1) := by decide +kernel
theorem dX6_adoptSerial_24 : decode cX6_adoptSerial 24 = .ok (.iload_n 3, 1) := by decide +kernel
theorem dX6_adoptSerial_25 : decode cX6_adoptSerial 25 = .ok (.iadd, 1) := by decide +kernel
theorem dX6_adoptSerial_26 : decode cX6_adoptSerial 26 = .ok (.aload_n 0, 1) := by decide +kernel
theorem dX6_adoptSerial_27 : decode cX6_adoptSerial 27 = .ok (.getfield 7, 3) := by decide +kernel
theorem dX6_adoptSerial_30 : decode cX6_adoptSerial 30 = .ok (.irem, 1) := by decide +kernel
theorem dX6_adoptSerial_31 : decode cX6_adoptSerial 31 = .ok (.istore 4, 2) := by decide +kernel
theorem dX6_adoptSerial_33 : decode cX6_adoptSerial 33 = .ok (.aload_n 0, 1) := by decide +kernel
theorem dX6_adoptSerial_34 : decode cX6_adoptSerial 34 = .ok (.getfield 35, 3) := by decide +kernel
theorem dX6_adoptSerial_37 : decode cX6_adoptSerial 37 = .ok (.iload 4, 2) := by decide +kernel
theorem dX6_adoptSerial_39 : decode cX6_adoptSerial 39 = .ok (.iconst (-1), 1) := by decide +kernel
theorem dX6_adoptSerial_40 : decode cX6_adoptSerial 40 = .ok (.iastore, 1) := by decide +kernel
theorem dX6_adoptSerial_41 : decode cX6_adoptSerial 41 = .ok (.aload_n 0, 1) := by decide +kernel
theorem dX6_adoptSerial_42 : decode cX6_adoptSerial 42 = .ok (.getfield 20, 3) := by decide +kernel
theorem dX6_adoptSerial_45 : decode cX6_adoptSerial 45 = .ok (.iload 4, 2) := by decide +kernel
theorem dX6_adoptSerial_47 : decode cX6_adoptSerial 47 = .ok (.iaload, 1) := by decide +kernel
theorem dX6_adoptSerial_48 : decode cX6_adoptSerial 48 = .ok (.iconst 1, 1) := by decide +kernel
theorem dX6_adoptSerial_49 : decode cX6_adoptSerial 49 = .ok (.isub, 1) := by decide +kernel
theorem dX6_adoptSerial_50 : decode cX6_adoptSerial 50 = .ok (.istore 5, 2) := by decide +kernel
theorem dX6_adoptSerial_52 : decode cX6_adoptSerial 52 = .ok (.iload 5, 2) := by decide +kernel
theorem dX6_adoptSerial_54 : decode cX6_adoptSerial 54 = .ok (.ifCond .lt 58, 3) := by decide +kernel
theorem dX6_adoptSerial_57 : decode cX6_adoptSerial 57 = .ok (.aload_n 0, 1) := by decide +kernel
theorem dX6_adoptSerial_58 : decode cX6_adoptSerial 58 = .ok (.getfield 23, 3) := by decide +kernel
theorem dX6_adoptSerial_61 : decode cX6_adoptSerial 61 = .ok (.iconst 5, 1) := by decide +kernel
theorem dX6_adoptSerial_62 : decode cX6_adoptSerial 62 = .ok (.iload 4, 2) := by decide +kernel
theorem dX6_adoptSerial_64 : decode cX6_adoptSerial 64 = .ok (.imul, 1) := by decide +kernel
theorem dX6_adoptSerial_65 : decode cX6_adoptSerial 65 = .ok (.iload 5, 2) := by decide +kernel
theorem dX6_adoptSerial_67 : decode cX6_adoptSerial 67 = .ok (.iadd, 1) := by decide +kernel
theorem dX6_adoptSerial_68 : decode cX6_adoptSerial 68 = .ok (.iaload, 1) := by decide +kernel
theorem dX6_adoptSerial_69 : decode cX6_adoptSerial 69 = .ok (.istore 6, 2) := by decide +kernel
theorem dX6_adoptSerial_71 : decode cX6_adoptSerial 71 = .ok (.aload_n 0, 1) := by decide +kernel
theorem dX6_adoptSerial_72 : decode cX6_adoptSerial 72 = .ok (.getfield 35, 3) := by decide +kernel
theorem dX6_adoptSerial_75 : decode cX6_adoptSerial 75 = .ok (.iload 4, 2) := by decide +kernel
theorem dX6_adoptSerial_77 : decode cX6_adoptSerial 77 = .ok (.iload_n 2, 1) := by decide +kernel
theorem dX6_adoptSerial_78 : decode cX6_adoptSerial 78 = .ok (.iload 6, 2) := by decide +kernel
theorem dX6_adoptSerial_80 : decode cX6_adoptSerial 80 = .ok (.invokestatic 80, 3) := by decide +kernel
theorem dX6_adoptSerial_83 : decode cX6_adoptSerial 83 = .ok (.aload_n 0, 1) := by decide +kernel
theorem dX6_adoptSerial_84 : decode cX6_adoptSerial 84 = .ok (.getfield 16, 3) := by decide +kernel
theorem dX6_adoptSerial_87 : decode cX6_adoptSerial 87 = .ok (.iload 6, 2) := by decide +kernel
theorem dX6_adoptSerial_89 : decode cX6_adoptSerial 89 = .ok (.iaload, 1) := by decide +kernel
theorem dX6_adoptSerial_90 : decode cX6_adoptSerial 90 = .ok (.if_icmp .ge 8, 3) := by decide +kernel
theorem dX6_adoptSerial_93 : decode cX6_adoptSerial 93 = .ok (.iload 6, 2) := by decide +kernel
theorem dX6_adoptSerial_95 : decode cX6_adoptSerial 95 = .ok (.goto 10, 3) := by decide +kernel
theorem dX6_adoptSerial_98 : decode cX6_adoptSerial 98 = .ok (.aload_n 0, 1) := by decide +kernel
theorem dX6_adoptSerial_99 : decode cX6_adoptSerial 99 = .ok (.getfield 35, 3) := by decide +kernel
theorem dX6_adoptSerial_102 : decode cX6_adoptSerial 102 = .ok (.iload 4, 2) := by decide +kernel
theorem dX6_adoptSerial_104 : decode cX6_adoptSerial 104 = .ok (.iaload, 1) := by decide +kernel
theorem dX6_adoptSerial_105 : decode cX6_adoptSerial 105 = .ok (.iastore, 1) := by decide +kernel
theorem dX6_adoptSerial_106 : decode cX6_adoptSerial 106 = .ok (.iinc 5 (-1), 3) := by decide +kernel
theorem dX6_adoptSerial_109 : decode cX6_adoptSerial 109 = .ok (.goto (-57), 3) := by decide +kernel
theorem dX6_adoptSerial_112 : decode cX6_adoptSerial 112 = .ok (.iload_n 2, 1) := by decide +kernel
theorem dX6_adoptSerial_113 : decode cX6_adoptSerial 113 = .ok (.aload_n 0, 1) := by decide +kernel
theorem dX6_adoptSerial_114 : decode cX6_adoptSerial 114 = .ok (.getfield 35, 3) := by decide +kernel
theorem dX6_adoptSerial_117 : decode cX6_adoptSerial 117 = .ok (.iload 4, 2) := by decide +kernel
theorem dX6_adoptSerial_119 : decode cX6_adoptSerial 119 = .ok (.iaload, 1) := by decide +kernel
theorem dX6_adoptSerial_120 : decode cX6_adoptSerial 120 = .ok (.ifCond .ge 7, 3) := by decide +kernel
theorem dX6_adoptSerial_123 : decode cX6_adoptSerial 123 = .ok (.iconst 0, 1) := by decide +kernel
theorem dX6_adoptSerial_124 : decode cX6_adoptSerial 124 = .ok (.goto 13, 3) := by decide +kernel
theorem dX6_adoptSerial_127 : decode cX6_adoptSerial 127 = .ok (.aload_n 0, 1) := by decide +kernel
theorem dX6_adoptSerial_128 : decode cX6_adoptSerial 128 = .ok (.getfield 35, 3) := by decide +kernel
theorem dX6_adoptSerial_131 : decode cX6_adoptSerial 131 = .ok (.iload 4, 2) := by decide +kernel
theorem dX6_adoptSerial_133 : decode cX6_adoptSerial 133 = .ok (.iaload, 1) := by decide +kernel
theorem dX6_adoptSerial_134 : decode cX6_adoptSerial 134 = .ok (.invokestatic 83, 3) := by decide +kernel
theorem dX6_adoptSerial_137 : decode cX6_adoptSerial 137 = .ok (.iadd, 1) := by decide +kernel
theorem dX6_adoptSerial_138 : decode cX6_adoptSerial 138 = .ok (.istore_n 2, 1) := by decide +kernel
theorem dX6_adoptSerial_139 : decode cX6_adoptSerial 139 = .ok (.iinc 3 1, 3) := by decide +kernel
theorem dX6_adoptSerial_142 : decode cX6_adoptSerial 142 = .ok (.goto (-127), 3) := by decide +kernel
theorem dX6_adoptSerial_145 : decode cX6_adoptSerial 145 = .ok (.aload_n 0, 1) := by decide +kernel
theorem dX6_adoptSerial_146 : decode cX6_adoptSerial 146 = .ok (.invokevirtual 101, 3) := by decide +kernel
theorem dX6_adoptSerial_149 : decode cX6_adoptSerial 149 = .ok (.aload_n 0, 1) := by decide +kernel
theorem dX6_adoptSerial_150 : decode cX6_adoptSerial 150 = .ok (.invokevirtual 94, 3) := by decide +kernel
theorem dX6_adoptSerial_153 : decode cX6_adoptSerial 153 = .ok (.ireturn, 1) := by decide +kernel
theorem dJ9_max_7cf53_0 : decode cJ9_max_7cf53 0 = .ok (.iload_n 0, 1) := by decide +kernel
theorem dJ9_max_7cf53_1 : decode cJ9_max_7cf53 1 = .ok (.iload_n 1, 1) := by decide +kernel
theorem dJ9_max_7cf53_2 : decode cJ9_max_7cf53 2 = .ok (.if_icmp .lt 7, 3) := by decide +kernel
theorem dJ9_max_7cf53_5 : decode cJ9_max_7cf53 5 = .ok (.iload_n 0, 1) := by decide +kernel
theorem dJ9_max_7cf53_6 : decode cJ9_max_7cf53 6 = .ok (.goto 4, 3) := by decide +kernel
theorem dJ9_max_7cf53_9 : decode cJ9_max_7cf53 9 = .ok (.iload_n 1, 1) := by decide +kernel
theorem dJ9_max_7cf53_10 : decode cJ9_max_7cf53 10 = .ok (.ireturn, 1) := by decide +kernel
theorem dJ9_min_7cf53_0 : decode cJ9_min_7cf53 0 = .ok (.iload_n 0, 1) := by decide +kernel
theorem dJ9_min_7cf53_1 : decode cJ9_min_7cf53 1 = .ok (.iload_n 1, 1) := by decide +kernel
theorem dJ9_min_7cf53_2 : decode cJ9_min_7cf53 2 = .ok (.if_icmp .gt 7, 3) := by decide +kernel
theorem dJ9_min_7cf53_5 : decode cJ9_min_7cf53 5 = .ok (.iload_n 0, 1) := by decide +kernel
theorem dJ9_min_7cf53_6 : decode cJ9_min_7cf53 6 = .ok (.goto 4, 3) := by decide +kernel
theorem dJ9_min_7cf53_9 : decode cJ9_min_7cf53 9 = .ok (.iload_n 1, 1) := by decide +kernel
theorem dJ9_min_7cf53_10 : decode cJ9_min_7cf53 10 = .ok (.ireturn, 1) := by decide +kernel
set_option maxRecDepth 20000 in
theorem ggL_law_X5_init : GoodIn wsL_law wsX5_init := goodIn_r _ [8, 9, 10, 11, 12, 13, 14, 15, 16, 17, 18, 19, 20, 21, 22, 23, 24, 25, 26, 27, 28, 29, 30, 31, 32, 33, 34, 35, 36, 37, 38, 39, 40, 41, 42, 43, 44, 45, 46, 47, 48, 49, 50, 51, 52, 53, 54, 55, 56, 57, 58, 59, 60, 61, 62, 63, 64, 65, 66, 67, 68, 69, 70, 71, 72, 73, 74, 75, 76, 77, 78, 79, 80, 81, 534, 535, 536, 537, 538, 517, 518, 519, 520, 521, 522, 523, 539, 540, 541, 542, 543, 544, 545, 546, 547, 548, 549, 550, 551] (by decide +kernel) (by decide +kernel)
set_option maxRecDepth 20000 in
theorem gL_law_X5_init : GoodIn wsL_law (wsX5_init) := ggL_law_X5_init
set_option maxRecDepth 20000 in
theorem ggL_law_X6_init : GoodIn wsL_law wsX6_init := goodIn_r _ [84, 85, 10, 11, 86, 87, 38, 88, 89, 90, 91, 92, 93, 94, 95, 96, 97, 5, 98, 99, 100, 101, 102, 103, 524, 525, 526, 527, 528, 529, 530, 531, 532, 533] (by decide +kernel) (by decide +kernel)
set_option maxRecDepth 20000 in
theorem gL_law_X6_init : GoodIn wsL_law (wsX6_init) := ggL_law_X6_init
set_option maxRecDepth 20000 in
theorem ggL_law_X5_reset : GoodIn wsL_law wsX5_reset := goodIn_r _ [107, 15, 108, 109, 43, 44, 14, 45, 46, 47, 39, 40, 110, 111, 112, 2, 113, 19, 20, 25, 114, 54, 55, 18, 56, 52, 115, 116, 117, 24, 118, 61, 517, 518, 519, 520, 521, 522, 523, 534, 535, 536, 537, 538, 539, 540, 541, 542] (by decide +kernel) (by decide +kernel)
set_option maxRecDepth 20000 in
theorem gL_law_X5_reset : GoodIn wsL_law (wsV RL 13 RX5 yX5_reset wsX5_reset) := goodIn_app (goodIn_of _ (by decide +kernel)) ggL_law_X5_reset
set_option maxRecDepth 20000 in
theorem ggL_law_X6_reset : GoodIn wsL_law wsX6_reset := goodIn_r _ [122, 86, 123, 124, 5, 125, 95, 96, 97, 98, 87, 88, 89, 99, 100, 101, 102, 91, 103, 524, 525, 526, 527, 528, 529, 530, 531, 532, 533] (by decide +kernel) (by decide +kernel)
set_option maxRecDepth 20000 in
theorem gL_law_X6_reset : GoodIn wsL_law (wsV RL 17 RX6 yX6_reset wsX6_reset) := goodIn_app (goodIn_of _ (by decide +kernel)) ggL_law_X6_reset
set_option maxRecDepth 20000 in
theorem ggL_law_X5_setCapacity : GoodIn wsL_law wsX5_setCapacity := goodIn_r _ [129, 15, 130, 131, 132, 133, 14, 134, 47, 110, 111, 112, 2, 113, 19, 20, 25, 114, 54, 55, 18, 56, 52, 115, 116, 117, 24, 118, 61, 517, 518, 519, 520, 521, 522, 523, 534, 535, 536, 537, 538, 539, 540, 541, 542] (by decide +kernel) (by decide +kernel)
set_option maxRecDepth 20000 in
theorem gL_law_X5_setCapacity : GoodIn wsL_law (wsV RL 18 RX5 yX5_setCapacity wsX5_setCapacity) := goodIn_app (goodIn_of _ (by decide +kernel)) ggL_law_X5_setCapacity
set_option maxRecDepth 20000 in
theorem ggL_law_X6_setCapacity : GoodIn wsL_law wsX6_setCapacity := goodIn_r _ [138, 88, 139, 140, 141, 5, 142, 87, 123, 124, 125, 99, 100, 101, 102, 91, 103, 524, 525, 526, 527, 528, 529, 530, 531, 532, 533] (by decide +kernel) (by decide +kernel)
set_option maxRecDepth 20000 in
theorem gL_law_X6_setCapacity : GoodIn wsL_law (wsV RL 21 RX6 yX6_setCapacity wsX6_setCapacity) := goodIn_app (goodIn_of _ (by decide +kernel)) ggL_law_X6_setCapacity
set_option maxRecDepth 20000 in
theorem ggL_law_X5_appendPreference : GoodIn wsL_law wsX5_appendPreference := goodIn_r _ [146, 15, 147, 148, 149, 14, 150, 46, 131, 132, 133, 134, 47, 151, 152, 153, 154, 40, 155, 156, 157, 158, 159, 160, 161, 162, 41, 163, 164, 165, 166, 110, 111, 112, 2, 113, 19, 20, 25, 114, 54, 55, 18, 56, 52, 115, 116, 117, 24, 118, 61, 517, 518, 519, 520, 521, 522, 523, 534, 535, 536, 537, 538, 539, 540, 541, 542] (by decide +kernel) (by decide +kernel)
set_option maxRecDepth 20000 in
theorem gL_law_X5_appendPreference : GoodIn wsL_law (wsV RL 22 RX5 yX5_appendPreference wsX5_appendPreference) := goodIn_app (goodIn_of _ (by decide +kernel)) ggL_law_X5_appendPreference
set_option maxRecDepth 20000 in
theorem ggL_law_X6_appendPreference : GoodIn wsL_law wsX6_appendPreference := goodIn_r _ [170, 90, 89, 171, 172, 173, 5, 174, 86, 123, 124, 125, 139, 140, 141, 142, 87, 175, 176, 177, 178, 99, 100, 101, 102, 91, 103, 524, 525, 526, 527, 528, 529, 530, 531, 532, 533] (by decide +kernel) (by decide +kernel)
set_option maxRecDepth 20000 in
theorem gL_law_X6_appendPreference : GoodIn wsL_law (wsV RL 25 RX6 yX6_appendPreference wsX6_appendPreference) := goodIn_app (goodIn_of _ (by decide +kernel)) ggL_law_X6_appendPreference
set_option maxRecDepth 20000 in
theorem ggL_law_X5_clearPreferences : GoodIn wsL_law wsX5_clearPreferences := goodIn_r _ [182, 15, 183, 147, 148, 149, 14, 150, 46, 110, 111, 112, 2, 113, 19, 20, 25, 114, 54, 55, 18, 56, 52, 115, 116, 117, 24, 118, 61, 517, 518, 519, 520, 521, 522, 523, 534, 535, 536, 537, 538, 539, 540, 541, 542] (by decide +kernel) (by decide +kernel)
set_option maxRecDepth 20000 in
theorem gL_law_X5_clearPreferences : GoodIn wsL_law (wsV RL 26 RX5 yX5_clearPreferences wsX5_clearPreferences) := goodIn_app (goodIn_of _ (by decide +kernel)) ggL_law_X5_clearPreferences
set_option maxRecDepth 20000 in
theorem ggL_law_X6_clearPreferences : GoodIn wsL_law wsX6_clearPreferences := goodIn_r _ [187, 89, 171, 172, 173, 5, 174, 86, 123, 124, 125, 99, 100, 101, 102, 91, 103, 524, 525, 526, 527, 528, 529, 530, 531, 532, 533] (by decide +kernel) (by decide +kernel)
set_option maxRecDepth 20000 in
theorem gL_law_X6_clearPreferences : GoodIn wsL_law (wsV RL 30 RX6 yX6_clearPreferences wsX6_clearPreferences) := goodIn_app (goodIn_of _ (by decide +kernel)) ggL_law_X6_clearPreferences
set_option maxRecDepth 20000 in
theorem ggL_law_X5_preferenceAt : GoodIn wsL_law wsX5_preferenceAt := goodIn_r _ [191, 15, 183, 147, 148, 149, 14, 150, 46, 192, 160, 161, 162, 41, 517, 518, 519, 520, 521, 522, 523, 534, 535, 536, 537, 538] (by decide +kernel) (by decide +kernel)
set_option maxRecDepth 20000 in
theorem gL_law_X5_preferenceAt : GoodIn wsL_law (wsV RL 31 RX5 yX5_preferenceAt wsX5_preferenceAt) := goodIn_app (goodIn_of _ (by decide +kernel)) ggL_law_X5_preferenceAt
set_option maxRecDepth 20000 in
theorem ggL_law_X6_preferenceAt : GoodIn wsL_law wsX6_preferenceAt := goodIn_r _ [196, 89, 90, 171, 172, 173, 5, 174, 86, 123, 124, 125, 524, 525, 526, 527, 528, 529, 530, 531, 532, 533] (by decide +kernel) (by decide +kernel)
set_option maxRecDepth 20000 in
theorem gL_law_X6_preferenceAt : GoodIn wsL_law (wsV RL 34 RX6 yX6_preferenceAt wsX6_preferenceAt) := goodIn_app (goodIn_of _ (by decide +kernel)) ggL_law_X6_preferenceAt
set_option maxRecDepth 20000 in
theorem ggL_law_X5_firstPost : GoodIn wsL_law wsX5_firstPost := goodIn_r _ [200, 15, 147, 148, 149, 14, 150, 46, 201, 202, 203, 204, 40, 159, 160, 161, 162, 41, 517, 518, 519, 520, 521, 522, 523, 534, 535, 536, 537, 538] (by decide +kernel) (by decide +kernel)
set_option maxRecDepth 20000 in
theorem gL_law_X5_firstPost : GoodIn wsL_law (wsV RL 35 RX5 yX5_firstPost wsX5_firstPost) := goodIn_app (goodIn_of _ (by decide +kernel)) ggL_law_X5_firstPost
set_option maxRecDepth 20000 in
theorem ggL_law_X6_firstPost : GoodIn wsL_law wsX6_firstPost := goodIn_r _ [208, 171, 172, 173, 5, 174, 86, 123, 124, 125, 209, 210, 211, 212, 89, 90, 524, 525, 526, 527, 528, 529, 530, 531, 532, 533] (by decide +kernel) (by decide +kernel)
set_option maxRecDepth 20000 in
theorem gL_law_X6_firstPost : GoodIn wsL_law (wsV RL 38 RX6 yX6_firstPost wsX6_firstPost) := goodIn_app (goodIn_of _ (by decide +kernel)) ggL_law_X6_firstPost
set_option maxRecDepth 20000 in
theorem ggL_law_X5_secondPost : GoodIn wsL_law wsX5_secondPost := goodIn_r _ [216, 15, 147, 148, 149, 14, 150, 46, 217, 218, 219, 220, 40, 39, 159, 160, 161, 162, 41, 221, 222, 223, 224, 225, 202, 203, 204, 517, 518, 519, 520, 521, 522, 523, 534, 535, 536, 537, 538] (by decide +kernel) (by decide +kernel)
set_option maxRecDepth 20000 in
theorem gL_law_X5_secondPost : GoodIn wsL_law (wsV RL 39 RX5 yX5_secondPost wsX5_secondPost) := goodIn_app (goodIn_of _ (by decide +kernel)) ggL_law_X5_secondPost
set_option maxRecDepth 20000 in
theorem ggL_law_X6_secondPost : GoodIn wsL_law wsX6_secondPost := goodIn_r _ [229, 171, 172, 173, 5, 174, 86, 123, 124, 125, 230, 231, 232, 233, 89, 90, 88, 234, 235, 236, 237, 209, 210, 211, 212, 524, 525, 526, 527, 528, 529, 530, 531, 532, 533] (by decide +kernel) (by decide +kernel)
set_option maxRecDepth 20000 in
theorem gL_law_X6_secondPost : GoodIn wsL_law (wsV RL 42 RX6 yX6_secondPost wsX6_secondPost) := goodIn_app (goodIn_of _ (by decide +kernel)) ggL_law_X6_secondPost
set_option maxRecDepth 20000 in
theorem ggL_law_X5_assign : GoodIn wsL_law wsX5_assign := goodIn_r _ [241, 15, 19, 130, 242, 25, 20, 147, 148, 149, 14, 150, 46, 131, 132, 133, 134, 47, 151, 152, 153, 154, 40, 155, 156, 157, 158, 159, 160, 161, 162, 41, 243, 244, 245, 18, 246, 52, 247, 248, 249, 24, 250, 61, 63, 64, 251, 252, 253, 254, 255, 256, 257, 258, 517, 518, 519, 520, 521, 522, 523, 534, 535, 536, 537, 538, 539, 540, 541, 542] (by decide +kernel) (by decide +kernel)
set_option maxRecDepth 20000 in
theorem gL_law_X5_assign : GoodIn wsL_law (wsV RL 43 RX5 yX5_assign wsX5_assign) := goodIn_app (goodIn_of _ (by decide +kernel)) ggL_law_X5_assign
set_option maxRecDepth 20000 in
theorem ggL_law_X6_assign : GoodIn wsL_law wsX6_assign := goodIn_r _ [262, 87, 86, 91, 88, 171, 172, 173, 5, 174, 123, 124, 125, 175, 176, 177, 178, 89, 90, 263, 264, 265, 266, 103, 92, 524, 525, 526, 527, 528, 529, 530, 531, 532, 533] (by decide +kernel) (by decide +kernel)
set_option maxRecDepth 20000 in
theorem gL_law_X6_assign : GoodIn wsL_law (wsV RL 46 RX6 yX6_assign wsX6_assign) := goodIn_app (goodIn_of _ (by decide +kernel)) ggL_law_X6_assign
set_option maxRecDepth 20000 in
theorem ggL_law_X5_postOf : GoodIn wsL_law wsX5_postOf := goodIn_r _ [270, 15, 19, 242, 147, 148, 149, 14, 150, 46, 517, 518, 519, 520, 521, 522, 523, 539, 534, 535, 536, 537, 538] (by decide +kernel) (by decide +kernel)
set_option maxRecDepth 20000 in
theorem gL_law_X5_postOf : GoodIn wsL_law (wsV RL 47 RX5 yX5_postOf wsX5_postOf) := goodIn_app (goodIn_of _ (by decide +kernel)) ggL_law_X5_postOf
set_option maxRecDepth 20000 in
theorem ggL_law_X6_postOf : GoodIn wsL_law wsX6_postOf := goodIn_r _ [274, 91, 171, 172, 173, 5, 174, 86, 123, 124, 125, 524, 525, 526, 527, 528, 529, 530, 531, 532, 533] (by decide +kernel) (by decide +kernel)
set_option maxRecDepth 20000 in
theorem gL_law_X6_postOf : GoodIn wsL_law (wsV RL 50 RX6 yX6_postOf wsX6_postOf) := goodIn_app (goodIn_of _ (by decide +kernel)) ggL_law_X6_postOf
set_option maxRecDepth 20000 in
theorem ggL_law_X5_size : GoodIn wsL_law wsX5_size := goodIn_r _ [278, 19, 279, 280, 281, 18, 282, 52, 517, 518, 519, 520, 521, 522, 523, 539] (by decide +kernel) (by decide +kernel)
set_option maxRecDepth 20000 in
theorem gL_law_X5_size : GoodIn wsL_law (wsV RL 51 RX5 yX5_size wsX5_size) := goodIn_app (goodIn_of _ (by decide +kernel)) ggL_law_X5_size
set_option maxRecDepth 20000 in
theorem ggL_law_X6_size : GoodIn wsL_law wsX6_size := goodIn_r _ [286, 86, 91, 524, 525, 526, 527, 528, 529, 530, 531, 532, 533] (by decide +kernel) (by decide +kernel)
set_option maxRecDepth 20000 in
theorem gL_law_X6_size : GoodIn wsL_law (wsV RL 55 RX6 yX6_size wsX6_size) := goodIn_app (goodIn_of _ (by decide +kernel)) ggL_law_X6_size
set_option maxRecDepth 20000 in
theorem ggL_law_X5_isParetoOptimal : GoodIn wsL_law wsX5_isParetoOptimal := goodIn_r _ [290, 29, 15, 19, 291, 292, 293, 28, 294, 295, 296, 71, 297, 298, 299, 300, 301, 302, 303, 304, 305, 306, 156, 157, 14, 158, 40, 159, 160, 161, 162, 41, 307, 308, 309, 310, 70, 311, 312, 313, 314, 315, 316, 317, 318, 319, 320, 321, 322, 323, 324, 325, 517, 518, 519, 520, 521, 522, 523, 534, 535, 536, 537, 538, 543, 544, 539] (by decide +kernel) (by decide +kernel)
set_option maxRecDepth 20000 in
theorem gL_law_X5_isParetoOptimal : GoodIn wsL_law (wsV RL 56 RX5 yX5_isParetoOptimal wsX5_isParetoOptimal) := goodIn_app (goodIn_of _ (by decide +kernel)) ggL_law_X5_isParetoOptimal
set_option maxRecDepth 20000 in
theorem ggL_law_X6_isParetoOptimal : GoodIn wsL_law wsX6_isParetoOptimal := goodIn_r _ [329, 330, 331, 332, 5, 333, 93, 86, 87, 334, 335, 336, 337, 91, 88, 338, 339, 340, 341, 175, 176, 177, 178, 89, 90, 342, 343, 344, 345, 346, 347, 524, 525, 526, 527, 528, 529, 530, 531, 532, 533] (by decide +kernel) (by decide +kernel)
set_option maxRecDepth 20000 in
theorem gL_law_X6_isParetoOptimal : GoodIn wsL_law (wsV RL 59 RX6 yX6_isParetoOptimal wsX6_isParetoOptimal) := goodIn_app (goodIn_of _ (by decide +kernel)) ggL_law_X6_isParetoOptimal
set_option maxRecDepth 20000 in
theorem ggL_law_X5_save : GoodIn wsL_law wsX5_save := goodIn_r _ [351, 20, 19, 352, 256, 257, 18, 258, 52, 279, 280, 281, 282, 517, 518, 519, 520, 521, 522, 523, 539] (by decide +kernel) (by decide +kernel)
set_option maxRecDepth 20000 in
theorem gL_law_X5_save : GoodIn wsL_law (wsV RL 60 RX5 yX5_save wsX5_save) := goodIn_app (goodIn_of _ (by decide +kernel)) ggL_law_X5_save
set_option maxRecDepth 20000 in
theorem ggL_law_X6_save : GoodIn wsL_law wsX6_save := goodIn_r _ [356, 91, 357, 284, 285, 5, 286, 86, 524, 525, 526, 527, 528, 529, 530, 531, 532, 533] (by decide +kernel) (by decide +kernel)
set_option maxRecDepth 20000 in
theorem gL_law_X6_save : GoodIn wsL_law (wsV RL 63 RX6 yX6_save wsX6_save) := goodIn_app (goodIn_of _ (by decide +kernel)) ggL_law_X6_save
set_option maxRecDepth 20000 in
theorem ggL_law_X5_swapSaved : GoodIn wsL_law wsX5_swapSaved := goodIn_r _ [361, 21, 20, 25, 19, 352, 256, 257, 18, 258, 52, 247, 248, 249, 24, 250, 61, 63, 64, 251, 252, 253, 254, 255, 279, 280, 281, 282, 517, 518, 519, 520, 521, 522, 523, 539, 540, 541, 542] (by decide +kernel) (by decide +kernel)
set_option maxRecDepth 20000 in
theorem gL_law_X5_swapSaved : GoodIn wsL_law (wsV RL 64 RX5 yX5_swapSaved wsX5_swapSaved) := goodIn_app (goodIn_of _ (by decide +kernel)) ggL_law_X5_swapSaved
set_option maxRecDepth 20000 in
theorem ggL_law_X6_swapSaved : GoodIn wsL_law wsX6_swapSaved := goodIn_r _ [365, 91, 263, 264, 265, 5, 266, 103, 92, 357, 284, 285, 286, 86, 524, 525, 526, 527, 528, 529, 530, 531, 532, 533] (by decide +kernel) (by decide +kernel)
set_option maxRecDepth 20000 in
theorem gL_law_X6_swapSaved : GoodIn wsL_law (wsV RL 67 RX6 yX6_swapSaved wsX6_swapSaved) := goodIn_app (goodIn_of _ (by decide +kernel)) ggL_law_X6_swapSaved
set_option maxRecDepth 20000 in
theorem ggL_law_X5_marginOverSaved : GoodIn wsL_law wsX5_marginOverSaved := goodIn_r _ [369, 15, 108, 19, 242, 20, 370, 156, 157, 14, 158, 40, 159, 160, 161, 162, 41, 371, 313, 314, 517, 518, 519, 520, 521, 522, 523, 534, 535, 536, 537, 538, 539] (by decide +kernel) (by decide +kernel)
set_option maxRecDepth 20000 in
theorem gL_law_X5_marginOverSaved : GoodIn wsL_law (wsV RL 68 RX5 yX5_marginOverSaved wsX5_marginOverSaved) := goodIn_app (goodIn_of _ (by decide +kernel)) ggL_law_X5_marginOverSaved
set_option maxRecDepth 20000 in
theorem ggL_law_X6_marginOverSaved : GoodIn wsL_law wsX6_marginOverSaved := goodIn_r _ [375, 86, 91, 338, 339, 340, 5, 341, 175, 176, 177, 178, 89, 90, 524, 525, 526, 527, 528, 529, 530, 531, 532, 533] (by decide +kernel) (by decide +kernel)
set_option maxRecDepth 20000 in
theorem gL_law_X6_marginOverSaved : GoodIn wsL_law (wsV RL 71 RX6 yX6_marginOverSaved wsX6_marginOverSaved) := goodIn_app (goodIn_of _ (by decide +kernel)) ggL_law_X6_marginOverSaved
set_option maxRecDepth 20000 in
theorem ggL_law_X5_unpopularityMargin : GoodIn wsL_law wsX5_unpopularityMargin := goodIn_r _ [379, 29, 15, 19, 291, 292, 293, 28, 294, 295, 296, 71, 297, 298, 299, 300, 301, 302, 303, 304, 305, 306, 156, 157, 14, 158, 40, 159, 160, 161, 162, 41, 307, 308, 309, 310, 70, 311, 312, 313, 314, 315, 316, 317, 318, 319, 320, 321, 322, 323, 324, 325, 517, 518, 519, 520, 521, 522, 523, 534, 535, 536, 537, 538, 543, 544, 539] (by decide +kernel) (by decide +kernel)
set_option maxRecDepth 20000 in
theorem gL_law_X5_unpopularityMargin : GoodIn wsL_law (wsV RL 72 RX5 yX5_unpopularityMargin wsX5_unpopularityMargin) := goodIn_app (goodIn_of _ (by decide +kernel)) ggL_law_X5_unpopularityMargin
set_option maxRecDepth 20000 in
theorem ggL_law_X6_unpopularityMargin : GoodIn wsL_law wsX6_unpopularityMargin := goodIn_r _ [383, 330, 331, 332, 5, 333, 93, 86, 87, 334, 335, 336, 337, 91, 88, 338, 339, 340, 341, 175, 176, 177, 178, 89, 90, 342, 343, 344, 345, 346, 347, 524, 525, 526, 527, 528, 529, 530, 531, 532, 533] (by decide +kernel) (by decide +kernel)
set_option maxRecDepth 20000 in
theorem gL_law_X6_unpopularityMargin : GoodIn wsL_law (wsV RL 75 RX6 yX6_unpopularityMargin wsX6_unpopularityMargin) := goodIn_app (goodIn_of _ (by decide +kernel)) ggL_law_X6_unpopularityMargin
set_option maxRecDepth 20000 in
theorem ggL_law_X5_challengerPost : GoodIn wsL_law wsX5_challengerPost := goodIn_r _ [387, 15, 29, 19, 147, 148, 149, 14, 150, 46, 291, 292, 293, 28, 294, 295, 296, 71, 297, 298, 299, 300, 301, 302, 303, 304, 305, 306, 156, 157, 158, 40, 159, 160, 161, 162, 41, 307, 308, 309, 310, 70, 311, 312, 313, 314, 315, 316, 317, 318, 319, 320, 321, 322, 388, 389, 390, 517, 518, 519, 520, 521, 522, 523, 534, 535, 536, 537, 538, 543, 544, 539] (by decide +kernel) (by decide +kernel)
set_option maxRecDepth 20000 in
theorem gL_law_X5_challengerPost : GoodIn wsL_law (wsV RL 76 RX5 yX5_challengerPost wsX5_challengerPost) := goodIn_app (goodIn_of _ (by decide +kernel)) ggL_law_X5_challengerPost
set_option maxRecDepth 20000 in
theorem ggL_law_X6_challengerPost : GoodIn wsL_law wsX6_challengerPost := goodIn_r _ [394, 94, 171, 172, 173, 5, 174, 86, 123, 124, 125, 395, 396, 397, 398, 87, 93, 330, 331, 332, 333, 334, 335, 336, 337, 91, 88, 338, 339, 340, 341, 175, 176, 177, 178, 89, 90, 342, 343, 344, 345, 346, 347, 524, 525, 526, 527, 528, 529, 530, 531, 532, 533] (by decide +kernel) (by decide +kernel)
set_option maxRecDepth 20000 in
theorem gL_law_X6_challengerPost : GoodIn wsL_law (wsV RL 79 RX6 yX6_challengerPost wsX6_challengerPost) := goodIn_app (goodIn_of _ (by decide +kernel)) ggL_law_X6_challengerPost
set_option maxRecDepth 20000 in
theorem ggL_law_X5_adoptChallenger : GoodIn wsL_law wsX5_adoptChallenger := goodIn_r _ [402, 29, 15, 19, 21, 108, 242, 291, 292, 293, 28, 294, 295, 296, 71, 297, 298, 299, 300, 301, 302, 303, 304, 305, 306, 156, 157, 14, 158, 40, 159, 160, 161, 162, 41, 307, 308, 309, 310, 70, 311, 312, 313, 314, 315, 316, 317, 318, 319, 320, 321, 322, 114, 54, 55, 18, 56, 52, 388, 389, 390, 403, 404, 405, 2, 406, 25, 20, 247, 248, 249, 24, 250, 61, 63, 64, 251, 252, 253, 254, 255, 256, 257, 258, 352, 279, 280, 281, 282, 323, 324, 325, 517, 518, 519, 520, 521, 522, 523, 534, 535, 536, 537, 538, 539, 543, 544, 540, 541, 542] (by decide +kernel) (by decide +kernel)
set_option maxRecDepth 20000 in
theorem gL_law_X5_adoptChallenger : GoodIn wsL_law (wsV RL 80 RX5 yX5_adoptChallenger wsX5_adoptChallenger) := goodIn_app (goodIn_of _ (by decide +kernel)) ggL_law_X5_adoptChallenger
set_option maxRecDepth 20000 in
theorem ggL_law_X6_adoptChallenger : GoodIn wsL_law wsX6_adoptChallenger := goodIn_r _ [410, 395, 396, 397, 5, 398, 86, 94, 87, 93, 330, 331, 332, 333, 334, 335, 336, 337, 91, 88, 338, 339, 340, 341, 175, 176, 177, 178, 89, 90, 342, 343, 344, 345, 346, 347, 411, 412, 413, 414, 263, 264, 265, 266, 103, 92, 524, 525, 526, 527, 528, 529, 530, 531, 532, 533] (by decide +kernel) (by decide +kernel)
set_option maxRecDepth 20000 in
theorem gL_law_X6_adoptChallenger : GoodIn wsL_law (wsV RL 83 RX6 yX6_adoptChallenger wsX6_adoptChallenger) := goodIn_app (goodIn_of _ (by decide +kernel)) ggL_law_X6_adoptChallenger
set_option maxRecDepth 20000 in
theorem ggL_law_X5_popularCount : GoodIn wsL_law wsX5_popularCount := goodIn_r _ [418, 33, 15, 419, 420, 421, 32, 422, 423, 81, 424, 425, 426, 427, 75, 76, 77, 428, 78, 429, 430, 431, 304, 432, 433, 202, 203, 14, 204, 40, 159, 160, 161, 162, 41, 434, 218, 219, 220, 39, 221, 222, 223, 224, 46, 225, 435, 436, 437, 438, 439, 79, 80, 440, 441, 442, 443, 444, 445, 446, 447, 448, 449, 450, 517, 518, 519, 520, 521, 522, 523, 534, 535, 536, 537, 538, 545, 546, 547, 548, 549, 550, 551] (by decide +kernel) (by decide +kernel)
set_option maxRecDepth 20000 in
theorem gL_law_X5_popularCount : GoodIn wsL_law (wsV RL 84 RX5 yX5_popularCount wsX5_popularCount) := goodIn_app (goodIn_of _ (by decide +kernel)) ggL_law_X5_popularCount
set_option maxRecDepth 20000 in
theorem ggL_law_X6_popularCount : GoodIn wsL_law wsX6_popularCount := goodIn_r _ [454, 86, 455, 456, 457, 5, 458, 94, 87, 88, 230, 231, 232, 233, 89, 90, 234, 235, 236, 237, 209, 210, 211, 212, 524, 525, 526, 527, 528, 529, 530, 531, 532, 533] (by decide +kernel) (by decide +kernel)
set_option maxRecDepth 20000 in
theorem gL_law_X6_popularCount : GoodIn wsL_law (wsV RL 87 RX6 yX6_popularCount wsX6_popularCount) := goodIn_app (goodIn_of _ (by decide +kernel)) ggL_law_X6_popularCount
set_option maxRecDepth 20000 in
theorem ggL_law_X5_greatestPopularSize : GoodIn wsL_law wsX5_greatestPopularSize := goodIn_r _ [462, 33, 15, 21, 463, 303, 304, 305, 419, 420, 421, 32, 422, 423, 81, 424, 425, 426, 427, 75, 76, 77, 428, 78, 429, 430, 431, 432, 433, 202, 203, 14, 204, 40, 159, 160, 161, 162, 41, 434, 218, 219, 220, 39, 221, 222, 223, 224, 46, 225, 435, 436, 437, 438, 439, 79, 80, 440, 441, 442, 443, 444, 445, 446, 447, 448, 449, 450, 464, 465, 466, 467, 468, 469, 54, 55, 18, 56, 52, 279, 280, 281, 282, 517, 518, 519, 520, 521, 522, 523, 534, 535, 536, 537, 538, 545, 546, 547, 548, 549, 550, 551, 539] (by decide +kernel) (by decide +kernel)
set_option maxRecDepth 20000 in
theorem gL_law_X5_greatestPopularSize : GoodIn wsL_law (wsV RL 88 RX5 yX5_greatestPopularSize wsX5_greatestPopularSize) := goodIn_app (goodIn_of _ (by decide +kernel)) ggL_law_X5_greatestPopularSize
set_option maxRecDepth 20000 in
theorem ggL_law_X6_greatestPopularSize : GoodIn wsL_law wsX6_greatestPopularSize := goodIn_r _ [473, 86, 455, 456, 457, 5, 458, 94, 87, 88, 230, 231, 232, 233, 89, 90, 234, 235, 236, 237, 209, 210, 211, 212, 474, 475, 476, 477, 524, 525, 526, 527, 528, 529, 530, 531, 532, 533] (by decide +kernel) (by decide +kernel)
set_option maxRecDepth 20000 in
theorem gL_law_X6_greatestPopularSize : GoodIn wsL_law (wsV RL 91 RX6 yX6_greatestPopularSize wsX6_greatestPopularSize) := goodIn_app (goodIn_of _ (by decide +kernel)) ggL_law_X6_greatestPopularSize
set_option maxRecDepth 20000 in
theorem ggL_law_X5_adoptPopular : GoodIn wsL_law wsX5_adoptPopular := goodIn_r _ [481, 33, 15, 21, 419, 420, 421, 32, 422, 423, 81, 424, 425, 426, 427, 75, 76, 77, 428, 78, 429, 430, 431, 304, 432, 433, 202, 203, 14, 204, 40, 159, 160, 161, 162, 41, 434, 218, 219, 220, 39, 221, 222, 223, 224, 46, 225, 435, 436, 437, 438, 439, 79, 80, 440, 441, 442, 443, 444, 445, 446, 447, 448, 449, 450, 464, 465, 466, 467, 468, 469, 54, 55, 18, 56, 52, 403, 404, 405, 2, 406, 25, 19, 20, 247, 248, 249, 24, 250, 61, 63, 64, 251, 252, 253, 254, 255, 256, 257, 258, 352, 279, 280, 281, 282, 517, 518, 519, 520, 521, 522, 523, 534, 535, 536, 537, 538, 545, 546, 547, 548, 549, 550, 551, 539, 540, 541, 542] (by decide +kernel) (by decide +kernel)
set_option maxRecDepth 20000 in
theorem gL_law_X5_adoptPopular : GoodIn wsL_law (wsV RL 92 RX5 yX5_adoptPopular wsX5_adoptPopular) := goodIn_app (goodIn_of _ (by decide +kernel)) ggL_law_X5_adoptPopular
set_option maxRecDepth 20000 in
theorem ggL_law_X6_adoptPopular : GoodIn wsL_law wsX6_adoptPopular := goodIn_r _ [485, 486, 86, 487, 452, 453, 5, 454, 455, 456, 457, 458, 94, 87, 88, 230, 231, 232, 233, 89, 90, 234, 235, 236, 237, 209, 210, 211, 212, 488, 489, 490, 491, 411, 412, 413, 414, 91, 263, 264, 265, 266, 103, 92, 474, 475, 476, 477, 524, 525, 526, 527, 528, 529, 530, 531, 532, 533] (by decide +kernel) (by decide +kernel)
set_option maxRecDepth 20000 in
theorem gL_law_X6_adoptPopular : GoodIn wsL_law (wsV RL 95 RX6 yX6_adoptPopular wsX6_adoptPopular) := goodIn_app (goodIn_of _ (by decide +kernel)) ggL_law_X6_adoptPopular
set_option maxRecDepth 20000 in
theorem ggL_law_X5_adoptSerial : GoodIn wsL_law wsX5_adoptSerial := goodIn_r _ [495, 15, 21, 108, 242, 147, 148, 149, 14, 150, 46, 114, 54, 55, 18, 56, 52, 496, 497, 498, 2, 499, 183, 130, 192, 160, 161, 162, 41, 243, 244, 245, 246, 403, 404, 405, 406, 25, 19, 20, 247, 248, 249, 24, 250, 61, 63, 64, 251, 252, 253, 254, 255, 256, 257, 258, 352, 279, 280, 281, 282, 517, 518, 519, 520, 521, 522, 523, 534, 535, 536, 537, 538, 539, 540, 541, 542] (by decide +kernel) (by decide +kernel)
set_option maxRecDepth 20000 in
theorem gL_law_X5_adoptSerial : GoodIn wsL_law (wsV RL 96 RX5 yX5_adoptSerial wsX5_adoptSerial) := goodIn_app (goodIn_of _ (by decide +kernel)) ggL_law_X5_adoptSerial
set_option maxRecDepth 20000 in
theorem ggL_law_X6_adoptSerial : GoodIn wsL_law wsX6_adoptSerial := goodIn_r _ [503, 86, 94, 89, 90, 88, 171, 172, 173, 5, 174, 123, 124, 125, 342, 343, 344, 345, 346, 347, 411, 412, 413, 414, 91, 263, 264, 265, 266, 103, 92, 357, 284, 285, 286, 524, 525, 526, 527, 528, 529, 530, 531, 532, 533] (by decide +kernel) (by decide +kernel)
set_option maxRecDepth 20000 in
theorem gL_law_X6_adoptSerial : GoodIn wsL_law (wsV RL 99 RX6 yX6_adoptSerial wsX6_adoptSerial) := goodIn_app (goodIn_of _ (by decide +kernel)) ggL_law_X6_adoptSerial
set_option maxRecDepth 20000 in
theorem ggL_law_X5_undo : GoodIn wsL_law wsX5_undo := goodIn_r _ [507, 25, 508, 19, 20, 509, 510, 511, 24, 512, 61, 63, 64, 255, 256, 257, 18, 258, 52, 517, 518, 519, 520, 521, 522, 523, 540, 541, 542, 539] (by decide +kernel) (by decide +kernel)
set_option maxRecDepth 20000 in
theorem gL_law_X5_undo : GoodIn wsL_law (wsV RL 100 RX5 yX5_undo wsX5_undo) := goodIn_app (goodIn_of _ (by decide +kernel)) ggL_law_X5_undo
set_option maxRecDepth 20000 in
theorem ggL_law_X6_undo : GoodIn wsL_law wsX6_undo := goodIn_r _ [516, 103, 91, 92, 524, 525, 526, 527, 528, 529, 530, 531, 532, 533] (by decide +kernel) (by decide +kernel)
set_option maxRecDepth 20000 in
theorem gL_law_X6_undo : GoodIn wsL_law (wsV RL 103 RX6 yX6_undo wsX6_undo) := goodIn_app (goodIn_of _ (by decide +kernel)) ggL_law_X6_undo
end
section
theorem inlX0 : ∀ w ∈ wsX00, w ∈ wsL_law := fun _ h => List.mem_append_left _ (List.mem_append_left _ (List.mem_append_right _ h))
theorem inlX1 : ∀ w ∈ wsX10, w ∈ wsL_law := fun _ h => List.mem_append_left _ (List.mem_append_left _ (List.mem_append_left _ (List.mem_append_right _ h)))
theorem inlX2 : ∀ w ∈ wsX20, w ∈ wsL_law := fun _ h => List.mem_append_left _ (List.mem_append_left _ (List.mem_append_left _ (List.mem_append_left _ (List.mem_append_left _ (List.mem_append_right _ h)))))
theorem inlX3 : ∀ w ∈ wsX30, w ∈ wsL_law := fun _ h => List.mem_append_left _ (List.mem_append_left _ (List.mem_append_left _ (List.mem_append_left _ (List.mem_append_right _ h))))
theorem inlX4 : ∀ w ∈ wsX40, w ∈ wsL_law := fun _ h => List.mem_append_left _ (List.mem_append_right _ h)
theorem inlX5 : ∀ w ∈ wsX50, w ∈ wsL_law := fun _ h => List.mem_append_left _ (List.mem_append_left _ (List.mem_append_left _ (List.mem_append_left _ (List.mem_append_left _ (List.mem_append_left _ (List.mem_append_left _ (List.mem_append_right _ h)))))))
theorem inlX6 : ∀ w ∈ wsX60, w ∈ wsL_law := fun _ h => List.mem_append_left _ (List.mem_append_left _ (List.mem_append_left _ (List.mem_append_left _ (List.mem_append_left _ (List.mem_append_left _ (List.mem_append_right _ h))))))
theorem dL_law_0 : decode cL_law 0 = .ok (.new 7, 3) := by decide +kernel
theorem dL_law_3 : decode cL_law 3 = .ok (.dup, 1) := by decide +kernel
theorem dL_law_4 : decode cL_law 4 = .ok (.invokespecial 9, 3) := by decide +kernel
theorem dL_law_7 : decode cL_law 7 = .ok (.astore_n 1, 1) := by decide +kernel
theorem dL_law_8 : decode cL_law 8 = .ok (.new 10, 3) := by decide +kernel
theorem dL_law_11 : decode cL_law 11 = .ok (.dup, 1) := by decide +kernel
theorem dL_law_12 : decode cL_law 12 = .ok (.invokespecial 12, 3) := by decide +kernel
theorem dL_law_15 : decode cL_law 15 = .ok (.astore_n 2, 1) := by decide +kernel
theorem dL_law_16 : decode cL_law 16 = .ok (.iconst 0, 1) := by decide +kernel
theorem dL_law_17 : decode cL_law 17 = .ok (.istore_n 3, 1) := by decide +kernel
theorem dL_law_18 : decode cL_law 18 = .ok (.iload_n 3, 1) := by decide +kernel
theorem dL_law_19 : decode cL_law 19 = .ok (.aload_n 0, 1) := by decide +kernel
theorem dL_law_20 : decode cL_law 20 = .ok (.arraylength, 1) := by decide +kernel
theorem dL_law_21 : decode cL_law 21 = .ok (.iconst 3, 1) := by decide +kernel
theorem dL_law_22 : decode cL_law 22 = .ok (.isub, 1) := by decide +kernel
theorem dL_law_23 : decode cL_law 23 = .ok (.if_icmp .gt 575, 3) := by decide +kernel
theorem dL_law_26 : decode cL_law 26 = .ok (.aload_n 0, 1) := by decide +kernel
theorem dL_law_27 : decode cL_law 27 = .ok (.iload_n 3, 1) := by decide +kernel
theorem dL_law_28 : decode cL_law 28 = .ok (.iaload, 1) := by decide +kernel
theorem dL_law_29 : decode cL_law 29 = .ok (.bipush 31, 2) := by decide +kernel
theorem dL_law_31 : decode cL_law 31 = .ok (.iand, 1) := by decide +kernel
theorem dL_law_32 : decode cL_law 32 = .ok (.tableswitch 560 0 21 #[104, 137, 170, 203, 226, 259, 282, 305, 338, 361, 374, 387, 400, 413, 426, 439, 462, 475, 488, 501, 524, 547], 104) := by decide +kernel
theorem dL_law_136 : decode cL_law 136 = .ok (.aload_n 1, 1) := by decide +kernel
theorem dL_law_137 : decode cL_law 137 = .ok (.aload_n 0, 1) := by decide +kernel
theorem dL_law_138 : decode cL_law 138 = .ok (.iload_n 3, 1) := by decide +kernel
theorem dL_law_139 : decode cL_law 139 = .ok (.iconst 1, 1) := by decide +kernel
theorem dL_law_140 : decode cL_law 140 = .ok (.iadd, 1) := by decide +kernel
theorem dL_law_141 : decode cL_law 141 = .ok (.iaload, 1) := by decide +kernel
theorem dL_law_142 : decode cL_law 142 = .ok (.aload_n 0, 1) := by decide +kernel
theorem dL_law_143 : decode cL_law 143 = .ok (.iload_n 3, 1) := by decide +kernel
theorem dL_law_144 : decode cL_law 144 = .ok (.iconst 2, 1) := by decide +kernel
theorem dL_law_145 : decode cL_law 145 = .ok (.iadd, 1) := by decide +kernel
theorem dL_law_146 : decode cL_law 146 = .ok (.iaload, 1) := by decide +kernel
theorem dL_law_147 : decode cL_law 147 = .ok (.invokevirtual 13, 3) := by decide +kernel
theorem dL_law_150 : decode cL_law 150 = .ok (.aload_n 2, 1) := by decide +kernel
theorem dL_law_151 : decode cL_law 151 = .ok (.aload_n 0, 1) := by decide +kernel
theorem dL_law_152 : decode cL_law 152 = .ok (.iload_n 3, 1) := by decide +kernel
theorem dL_law_153 : decode cL_law 153 = .ok (.iconst 1, 1) := by decide +kernel
theorem dL_law_154 : decode cL_law 154 = .ok (.iadd, 1) := by decide +kernel
theorem dL_law_155 : decode cL_law 155 = .ok (.iaload, 1) := by decide +kernel
theorem dL_law_156 : decode cL_law 156 = .ok (.aload_n 0, 1) := by decide +kernel
theorem dL_law_157 : decode cL_law 157 = .ok (.iload_n 3, 1) := by decide +kernel
theorem dL_law_158 : decode cL_law 158 = .ok (.iconst 2, 1) := by decide +kernel
theorem dL_law_159 : decode cL_law 159 = .ok (.iadd, 1) := by decide +kernel
theorem dL_law_160 : decode cL_law 160 = .ok (.iaload, 1) := by decide +kernel
theorem dL_law_161 : decode cL_law 161 = .ok (.invokevirtual 17, 3) := by decide +kernel
theorem dL_law_164 : decode cL_law 164 = .ok (.if_icmp .eq 428, 3) := by decide +kernel
theorem dL_law_167 : decode cL_law 167 = .ok (.iconst 0, 1) := by decide +kernel
theorem dL_law_168 : decode cL_law 168 = .ok (.ireturn, 1) := by decide +kernel
theorem dL_law_169 : decode cL_law 169 = .ok (.aload_n 1, 1) := by decide +kernel
theorem dL_law_170 : decode cL_law 170 = .ok (.aload_n 0, 1) := by decide +kernel
theorem dL_law_171 : decode cL_law 171 = .ok (.iload_n 3, 1) := by decide +kernel
theorem dL_law_172 : decode cL_law 172 = .ok (.iconst 1, 1) := by decide +kernel
theorem dL_law_173 : decode cL_law 173 = .ok (.iadd, 1) := by decide +kernel
theorem dL_law_174 : decode cL_law 174 = .ok (.iaload, 1) := by decide +kernel
theorem dL_law_175 : decode cL_law 175 = .ok (.aload_n 0, 1) := by decide +kernel
theorem dL_law_176 : decode cL_law 176 = .ok (.iload_n 3, 1) := by decide +kernel
theorem dL_law_177 : decode cL_law 177 = .ok (.iconst 2, 1) := by decide +kernel
theorem dL_law_178 : decode cL_law 178 = .ok (.iadd, 1) := by decide +kernel
theorem dL_law_179 : decode cL_law 179 = .ok (.iaload, 1) := by decide +kernel
theorem dL_law_180 : decode cL_law 180 = .ok (.invokevirtual 18, 3) := by decide +kernel
theorem dL_law_183 : decode cL_law 183 = .ok (.aload_n 2, 1) := by decide +kernel
theorem dL_law_184 : decode cL_law 184 = .ok (.aload_n 0, 1) := by decide +kernel
theorem dL_law_185 : decode cL_law 185 = .ok (.iload_n 3, 1) := by decide +kernel
theorem dL_law_186 : decode cL_law 186 = .ok (.iconst 1, 1) := by decide +kernel
theorem dL_law_187 : decode cL_law 187 = .ok (.iadd, 1) := by decide +kernel
theorem dL_law_188 : decode cL_law 188 = .ok (.iaload, 1) := by decide +kernel
theorem dL_law_189 : decode cL_law 189 = .ok (.aload_n 0, 1) := by decide +kernel
theorem dL_law_190 : decode cL_law 190 = .ok (.iload_n 3, 1) := by decide +kernel
theorem dL_law_191 : decode cL_law 191 = .ok (.iconst 2, 1) := by decide +kernel
theorem dL_law_192 : decode cL_law 192 = .ok (.iadd, 1) := by decide +kernel
theorem dL_law_193 : decode cL_law 193 = .ok (.iaload, 1) := by decide +kernel
theorem dL_law_194 : decode cL_law 194 = .ok (.invokevirtual 21, 3) := by decide +kernel
theorem dL_law_197 : decode cL_law 197 = .ok (.if_icmp .eq 395, 3) := by decide +kernel
theorem dL_law_200 : decode cL_law 200 = .ok (.iconst 0, 1) := by decide +kernel
theorem dL_law_201 : decode cL_law 201 = .ok (.ireturn, 1) := by decide +kernel
theorem dL_law_202 : decode cL_law 202 = .ok (.aload_n 1, 1) := by decide +kernel
theorem dL_law_203 : decode cL_law 203 = .ok (.aload_n 0, 1) := by decide +kernel
theorem dL_law_204 : decode cL_law 204 = .ok (.iload_n 3, 1) := by decide +kernel
theorem dL_law_205 : decode cL_law 205 = .ok (.iconst 1, 1) := by decide +kernel
theorem dL_law_206 : decode cL_law 206 = .ok (.iadd, 1) := by decide +kernel
theorem dL_law_207 : decode cL_law 207 = .ok (.iaload, 1) := by decide +kernel
theorem dL_law_208 : decode cL_law 208 = .ok (.aload_n 0, 1) := by decide +kernel
theorem dL_law_209 : decode cL_law 209 = .ok (.iload_n 3, 1) := by decide +kernel
theorem dL_law_210 : decode cL_law 210 = .ok (.iconst 2, 1) := by decide +kernel
theorem dL_law_211 : decode cL_law 211 = .ok (.iadd, 1) := by decide +kernel
theorem dL_law_212 : decode cL_law 212 = .ok (.iaload, 1) := by decide +kernel
theorem dL_law_213 : decode cL_law 213 = .ok (.invokevirtual 22, 3) := by decide +kernel
theorem dL_law_216 : decode cL_law 216 = .ok (.aload_n 2, 1) := by decide +kernel
theorem dL_law_217 : decode cL_law 217 = .ok (.aload_n 0, 1) := by decide +kernel
theorem dL_law_218 : decode cL_law 218 = .ok (.iload_n 3, 1) := by decide +kernel
theorem dL_law_219 : decode cL_law 219 = .ok (.iconst 1, 1) := by decide +kernel
theorem dL_law_220 : decode cL_law 220 = .ok (.iadd, 1) := by decide +kernel
theorem dL_law_221 : decode cL_law 221 = .ok (.iaload, 1) := by decide +kernel
theorem dL_law_222 : decode cL_law 222 = .ok (.aload_n 0, 1) := by decide +kernel
theorem dL_law_223 : decode cL_law 223 = .ok (.iload_n 3, 1) := by decide +kernel
theorem dL_law_224 : decode cL_law 224 = .ok (.iconst 2, 1) := by decide +kernel
theorem dL_law_225 : decode cL_law 225 = .ok (.iadd, 1) := by decide +kernel
theorem dL_law_226 : decode cL_law 226 = .ok (.iaload, 1) := by decide +kernel
theorem dL_law_227 : decode cL_law 227 = .ok (.invokevirtual 25, 3) := by decide +kernel
theorem dL_law_230 : decode cL_law 230 = .ok (.if_icmp .eq 362, 3) := by decide +kernel
theorem dL_law_233 : decode cL_law 233 = .ok (.iconst 0, 1) := by decide +kernel
theorem dL_law_234 : decode cL_law 234 = .ok (.ireturn, 1) := by decide +kernel
theorem dL_law_235 : decode cL_law 235 = .ok (.aload_n 1, 1) := by decide +kernel
theorem dL_law_236 : decode cL_law 236 = .ok (.aload_n 0, 1) := by decide +kernel
theorem dL_law_237 : decode cL_law 237 = .ok (.iload_n 3, 1) := by decide +kernel
theorem dL_law_238 : decode cL_law 238 = .ok (.iconst 1, 1) := by decide +kernel
theorem dL_law_239 : decode cL_law 239 = .ok (.iadd, 1) := by decide +kernel
theorem dL_law_240 : decode cL_law 240 = .ok (.iaload, 1) := by decide +kernel
theorem dL_law_241 : decode cL_law 241 = .ok (.invokevirtual 26, 3) := by decide +kernel
theorem dL_law_244 : decode cL_law 244 = .ok (.aload_n 2, 1) := by decide +kernel
theorem dL_law_245 : decode cL_law 245 = .ok (.aload_n 0, 1) := by decide +kernel
theorem dL_law_246 : decode cL_law 246 = .ok (.iload_n 3, 1) := by decide +kernel
theorem dL_law_247 : decode cL_law 247 = .ok (.iconst 1, 1) := by decide +kernel
theorem dL_law_248 : decode cL_law 248 = .ok (.iadd, 1) := by decide +kernel
theorem dL_law_249 : decode cL_law 249 = .ok (.iaload, 1) := by decide +kernel
theorem dL_law_250 : decode cL_law 250 = .ok (.invokevirtual 30, 3) := by decide +kernel
theorem dL_law_253 : decode cL_law 253 = .ok (.if_icmp .eq 339, 3) := by decide +kernel
theorem dL_law_256 : decode cL_law 256 = .ok (.iconst 0, 1) := by decide +kernel
theorem dL_law_257 : decode cL_law 257 = .ok (.ireturn, 1) := by decide +kernel
theorem dL_law_258 : decode cL_law 258 = .ok (.aload_n 1, 1) := by decide +kernel
theorem dL_law_259 : decode cL_law 259 = .ok (.aload_n 0, 1) := by decide +kernel
theorem dL_law_260 : decode cL_law 260 = .ok (.iload_n 3, 1) := by decide +kernel
theorem dL_law_261 : decode cL_law 261 = .ok (.iconst 1, 1) := by decide +kernel
theorem dL_law_262 : decode cL_law 262 = .ok (.iadd, 1) := by decide +kernel
theorem dL_law_263 : decode cL_law 263 = .ok (.iaload, 1) := by decide +kernel
theorem dL_law_264 : decode cL_law 264 = .ok (.aload_n 0, 1) := by decide +kernel
theorem dL_law_265 : decode cL_law 265 = .ok (.iload_n 3, 1) := by decide +kernel
theorem dL_law_266 : decode cL_law 266 = .ok (.iconst 2, 1) := by decide +kernel
theorem dL_law_267 : decode cL_law 267 = .ok (.iadd, 1) := by decide +kernel
theorem dL_law_268 : decode cL_law 268 = .ok (.iaload, 1) := by decide +kernel
theorem dL_law_269 : decode cL_law 269 = .ok (.invokevirtual 31, 3) := by decide +kernel
theorem dL_law_272 : decode cL_law 272 = .ok (.aload_n 2, 1) := by decide +kernel
theorem dL_law_273 : decode cL_law 273 = .ok (.aload_n 0, 1) := by decide +kernel
theorem dL_law_274 : decode cL_law 274 = .ok (.iload_n 3, 1) := by decide +kernel
theorem dL_law_275 : decode cL_law 275 = .ok (.iconst 1, 1) := by decide +kernel
theorem dL_law_276 : decode cL_law 276 = .ok (.iadd, 1) := by decide +kernel
theorem dL_law_277 : decode cL_law 277 = .ok (.iaload, 1) := by decide +kernel
theorem dL_law_278 : decode cL_law 278 = .ok (.aload_n 0, 1) := by decide +kernel
theorem dL_law_279 : decode cL_law 279 = .ok (.iload_n 3, 1) := by decide +kernel
theorem dL_law_280 : decode cL_law 280 = .ok (.iconst 2, 1) := by decide +kernel
theorem dL_law_281 : decode cL_law 281 = .ok (.iadd, 1) := by decide +kernel
theorem dL_law_282 : decode cL_law 282 = .ok (.iaload, 1) := by decide +kernel
theorem dL_law_283 : decode cL_law 283 = .ok (.invokevirtual 34, 3) := by decide +kernel
theorem dL_law_286 : decode cL_law 286 = .ok (.if_icmp .eq 306, 3) := by decide +kernel
theorem dL_law_289 : decode cL_law 289 = .ok (.iconst 0, 1) := by decide +kernel
theorem dL_law_290 : decode cL_law 290 = .ok (.ireturn, 1) := by decide +kernel
theorem dL_law_291 : decode cL_law 291 = .ok (.aload_n 1, 1) := by decide +kernel
theorem dL_law_292 : decode cL_law 292 = .ok (.aload_n 0, 1) := by decide +kernel
theorem dL_law_293 : decode cL_law 293 = .ok (.iload_n 3, 1) := by decide +kernel
theorem dL_law_294 : decode cL_law 294 = .ok (.iconst 1, 1) := by decide +kernel
theorem dL_law_295 : decode cL_law 295 = .ok (.iadd, 1) := by decide +kernel
theorem dL_law_296 : decode cL_law 296 = .ok (.iaload, 1) := by decide +kernel
theorem dL_law_297 : decode cL_law 297 = .ok (.invokevirtual 35, 3) := by decide +kernel
theorem dL_law_300 : decode cL_law 300 = .ok (.aload_n 2, 1) := by decide +kernel
theorem dL_law_301 : decode cL_law 301 = .ok (.aload_n 0, 1) := by decide +kernel
theorem dL_law_302 : decode cL_law 302 = .ok (.iload_n 3, 1) := by decide +kernel
theorem dL_law_303 : decode cL_law 303 = .ok (.iconst 1, 1) := by decide +kernel
theorem dL_law_304 : decode cL_law 304 = .ok (.iadd, 1) := by decide +kernel
theorem dL_law_305 : decode cL_law 305 = .ok (.iaload, 1) := by decide +kernel
theorem dL_law_306 : decode cL_law 306 = .ok (.invokevirtual 38, 3) := by decide +kernel
theorem dL_law_309 : decode cL_law 309 = .ok (.if_icmp .eq 283, 3) := by decide +kernel
theorem dL_law_312 : decode cL_law 312 = .ok (.iconst 0, 1) := by decide +kernel
theorem dL_law_313 : decode cL_law 313 = .ok (.ireturn, 1) := by decide +kernel
theorem dL_law_314 : decode cL_law 314 = .ok (.aload_n 1, 1) := by decide +kernel
theorem dL_law_315 : decode cL_law 315 = .ok (.aload_n 0, 1) := by decide +kernel
theorem dL_law_316 : decode cL_law 316 = .ok (.iload_n 3, 1) := by decide +kernel
theorem dL_law_317 : decode cL_law 317 = .ok (.iconst 1, 1) := by decide +kernel
theorem dL_law_318 : decode cL_law 318 = .ok (.iadd, 1) := by decide +kernel
theorem dL_law_319 : decode cL_law 319 = .ok (.iaload, 1) := by decide +kernel
theorem dL_law_320 : decode cL_law 320 = .ok (.invokevirtual 39, 3) := by decide +kernel
theorem dL_law_323 : decode cL_law 323 = .ok (.aload_n 2, 1) := by decide +kernel
theorem dL_law_324 : decode cL_law 324 = .ok (.aload_n 0, 1) := by decide +kernel
theorem dL_law_325 : decode cL_law 325 = .ok (.iload_n 3, 1) := by decide +kernel
theorem dL_law_326 : decode cL_law 326 = .ok (.iconst 1, 1) := by decide +kernel
theorem dL_law_327 : decode cL_law 327 = .ok (.iadd, 1) := by decide +kernel
theorem dL_law_328 : decode cL_law 328 = .ok (.iaload, 1) := by decide +kernel
theorem dL_law_329 : decode cL_law 329 = .ok (.invokevirtual 42, 3) := by decide +kernel
theorem dL_law_332 : decode cL_law 332 = .ok (.if_icmp .eq 260, 3) := by decide +kernel
theorem dL_law_335 : decode cL_law 335 = .ok (.iconst 0, 1) := by decide +kernel
theorem dL_law_336 : decode cL_law 336 = .ok (.ireturn, 1) := by decide +kernel
theorem dL_law_337 : decode cL_law 337 = .ok (.aload_n 1, 1) := by decide +kernel
theorem dL_law_338 : decode cL_law 338 = .ok (.aload_n 0, 1) := by decide +kernel
theorem dL_law_339 : decode cL_law 339 = .ok (.iload_n 3, 1) := by decide +kernel
theorem dL_law_340 : decode cL_law 340 = .ok (.iconst 1, 1) := by decide +kernel
theorem dL_law_341 : decode cL_law 341 = .ok (.iadd, 1) := by decide +kernel
theorem dL_law_342 : decode cL_law 342 = .ok (.iaload, 1) := by decide +kernel
theorem dL_law_343 : decode cL_law 343 = .ok (.aload_n 0, 1) := by decide +kernel
theorem dL_law_344 : decode cL_law 344 = .ok (.iload_n 3, 1) := by decide +kernel
theorem dL_law_345 : decode cL_law 345 = .ok (.iconst 2, 1) := by decide +kernel
theorem dL_law_346 : decode cL_law 346 = .ok (.iadd, 1) := by decide +kernel
theorem dL_law_347 : decode cL_law 347 = .ok (.iaload, 1) := by decide +kernel
theorem dL_law_348 : decode cL_law 348 = .ok (.invokevirtual 43, 3) := by decide +kernel
theorem dL_law_351 : decode cL_law 351 = .ok (.aload_n 2, 1) := by decide +kernel
theorem dL_law_352 : decode cL_law 352 = .ok (.aload_n 0, 1) := by decide +kernel
theorem dL_law_353 : decode cL_law 353 = .ok (.iload_n 3, 1) := by decide +kernel
theorem dL_law_354 : decode cL_law 354 = .ok (.iconst 1, 1) := by decide +kernel
theorem dL_law_355 : decode cL_law 355 = .ok (.iadd, 1) := by decide +kernel
theorem dL_law_356 : decode cL_law 356 = .ok (.iaload, 1) := by decide +kernel
theorem dL_law_357 : decode cL_law 357 = .ok (.aload_n 0, 1) := by decide +kernel
theorem dL_law_358 : decode cL_law 358 = .ok (.iload_n 3, 1) := by decide +kernel
theorem dL_law_359 : decode cL_law 359 = .ok (.iconst 2, 1) := by decide +kernel
theorem dL_law_360 : decode cL_law 360 = .ok (.iadd, 1) := by decide +kernel
theorem dL_law_361 : decode cL_law 361 = .ok (.iaload, 1) := by decide +kernel
theorem dL_law_362 : decode cL_law 362 = .ok (.invokevirtual 46, 3) := by decide +kernel
theorem dL_law_365 : decode cL_law 365 = .ok (.if_icmp .eq 227, 3) := by decide +kernel
theorem dL_law_368 : decode cL_law 368 = .ok (.iconst 0, 1) := by decide +kernel
theorem dL_law_369 : decode cL_law 369 = .ok (.ireturn, 1) := by decide +kernel
theorem dL_law_370 : decode cL_law 370 = .ok (.aload_n 1, 1) := by decide +kernel
theorem dL_law_371 : decode cL_law 371 = .ok (.aload_n 0, 1) := by decide +kernel
theorem dL_law_372 : decode cL_law 372 = .ok (.iload_n 3, 1) := by decide +kernel
theorem dL_law_373 : decode cL_law 373 = .ok (.iconst 1, 1) := by decide +kernel
theorem dL_law_374 : decode cL_law 374 = .ok (.iadd, 1) := by decide +kernel
theorem dL_law_375 : decode cL_law 375 = .ok (.iaload, 1) := by decide +kernel
theorem dL_law_376 : decode cL_law 376 = .ok (.invokevirtual 47, 3) := by decide +kernel
theorem dL_law_379 : decode cL_law 379 = .ok (.aload_n 2, 1) := by decide +kernel
theorem dL_law_380 : decode cL_law 380 = .ok (.aload_n 0, 1) := by decide +kernel
theorem dL_law_381 : decode cL_law 381 = .ok (.iload_n 3, 1) := by decide +kernel
theorem dL_law_382 : decode cL_law 382 = .ok (.iconst 1, 1) := by decide +kernel
theorem dL_law_383 : decode cL_law 383 = .ok (.iadd, 1) := by decide +kernel
theorem dL_law_384 : decode cL_law 384 = .ok (.iaload, 1) := by decide +kernel
theorem dL_law_385 : decode cL_law 385 = .ok (.invokevirtual 50, 3) := by decide +kernel
theorem dL_law_388 : decode cL_law 388 = .ok (.if_icmp .eq 204, 3) := by decide +kernel
theorem dL_law_391 : decode cL_law 391 = .ok (.iconst 0, 1) := by decide +kernel
theorem dL_law_392 : decode cL_law 392 = .ok (.ireturn, 1) := by decide +kernel
theorem dL_law_393 : decode cL_law 393 = .ok (.aload_n 1, 1) := by decide +kernel
theorem dL_law_394 : decode cL_law 394 = .ok (.invokevirtual 51, 3) := by decide +kernel
theorem dL_law_397 : decode cL_law 397 = .ok (.aload_n 2, 1) := by decide +kernel
theorem dL_law_398 : decode cL_law 398 = .ok (.invokevirtual 55, 3) := by decide +kernel
theorem dL_law_401 : decode cL_law 401 = .ok (.if_icmp .eq 191, 3) := by decide +kernel
theorem dL_law_404 : decode cL_law 404 = .ok (.iconst 0, 1) := by decide +kernel
theorem dL_law_405 : decode cL_law 405 = .ok (.ireturn, 1) := by decide +kernel
theorem dL_law_406 : decode cL_law 406 = .ok (.aload_n 1, 1) := by decide +kernel
theorem dL_law_407 : decode cL_law 407 = .ok (.invokevirtual 56, 3) := by decide +kernel
theorem dL_law_410 : decode cL_law 410 = .ok (.aload_n 2, 1) := by decide +kernel
theorem dL_law_411 : decode cL_law 411 = .ok (.invokevirtual 59, 3) := by decide +kernel
theorem dL_law_414 : decode cL_law 414 = .ok (.if_icmp .eq 178, 3) := by decide +kernel
theorem dL_law_417 : decode cL_law 417 = .ok (.iconst 0, 1) := by decide +kernel
theorem dL_law_418 : decode cL_law 418 = .ok (.ireturn, 1) := by decide +kernel
theorem dL_law_419 : decode cL_law 419 = .ok (.aload_n 1, 1) := by decide +kernel
theorem dL_law_420 : decode cL_law 420 = .ok (.invokevirtual 60, 3) := by decide +kernel
theorem dL_law_423 : decode cL_law 423 = .ok (.aload_n 2, 1) := by decide +kernel
theorem dL_law_424 : decode cL_law 424 = .ok (.invokevirtual 63, 3) := by decide +kernel
theorem dL_law_427 : decode cL_law 427 = .ok (.if_icmp .eq 165, 3) := by decide +kernel
theorem dL_law_430 : decode cL_law 430 = .ok (.iconst 0, 1) := by decide +kernel
theorem dL_law_431 : decode cL_law 431 = .ok (.ireturn, 1) := by decide +kernel
theorem dL_law_432 : decode cL_law 432 = .ok (.aload_n 1, 1) := by decide +kernel
theorem dL_law_433 : decode cL_law 433 = .ok (.invokevirtual 64, 3) := by decide +kernel
theorem dL_law_436 : decode cL_law 436 = .ok (.aload_n 2, 1) := by decide +kernel
theorem dL_law_437 : decode cL_law 437 = .ok (.invokevirtual 67, 3) := by decide +kernel
theorem dL_law_440 : decode cL_law 440 = .ok (.if_icmp .eq 152, 3) := by decide +kernel
theorem dL_law_443 : decode cL_law 443 = .ok (.iconst 0, 1) := by decide +kernel
theorem dL_law_444 : decode cL_law 444 = .ok (.ireturn, 1) := by decide +kernel
theorem dL_law_445 : decode cL_law 445 = .ok (.aload_n 1, 1) := by decide +kernel
theorem dL_law_446 : decode cL_law 446 = .ok (.invokevirtual 68, 3) := by decide +kernel
theorem dL_law_449 : decode cL_law 449 = .ok (.aload_n 2, 1) := by decide +kernel
theorem dL_law_450 : decode cL_law 450 = .ok (.invokevirtual 71, 3) := by decide +kernel
theorem dL_law_453 : decode cL_law 453 = .ok (.if_icmp .eq 139, 3) := by decide +kernel
theorem dL_law_456 : decode cL_law 456 = .ok (.iconst 0, 1) := by decide +kernel
theorem dL_law_457 : decode cL_law 457 = .ok (.ireturn, 1) := by decide +kernel
theorem dL_law_458 : decode cL_law 458 = .ok (.aload_n 1, 1) := by decide +kernel
theorem dL_law_459 : decode cL_law 459 = .ok (.invokevirtual 72, 3) := by decide +kernel
theorem dL_law_462 : decode cL_law 462 = .ok (.aload_n 2, 1) := by decide +kernel
theorem dL_law_463 : decode cL_law 463 = .ok (.invokevirtual 75, 3) := by decide +kernel
theorem dL_law_466 : decode cL_law 466 = .ok (.if_icmp .eq 126, 3) := by decide +kernel
theorem dL_law_469 : decode cL_law 469 = .ok (.iconst 0, 1) := by decide +kernel
theorem dL_law_470 : decode cL_law 470 = .ok (.ireturn, 1) := by decide +kernel
theorem dL_law_471 : decode cL_law 471 = .ok (.aload_n 1, 1) := by decide +kernel
theorem dL_law_472 : decode cL_law 472 = .ok (.aload_n 0, 1) := by decide +kernel
theorem dL_law_473 : decode cL_law 473 = .ok (.iload_n 3, 1) := by decide +kernel
theorem dL_law_474 : decode cL_law 474 = .ok (.iconst 1, 1) := by decide +kernel
theorem dL_law_475 : decode cL_law 475 = .ok (.iadd, 1) := by decide +kernel
theorem dL_law_476 : decode cL_law 476 = .ok (.iaload, 1) := by decide +kernel
theorem dL_law_477 : decode cL_law 477 = .ok (.invokevirtual 76, 3) := by decide +kernel
theorem dL_law_480 : decode cL_law 480 = .ok (.aload_n 2, 1) := by decide +kernel
theorem dL_law_481 : decode cL_law 481 = .ok (.aload_n 0, 1) := by decide +kernel
theorem dL_law_482 : decode cL_law 482 = .ok (.iload_n 3, 1) := by decide +kernel
theorem dL_law_483 : decode cL_law 483 = .ok (.iconst 1, 1) := by decide +kernel
theorem dL_law_484 : decode cL_law 484 = .ok (.iadd, 1) := by decide +kernel
theorem dL_law_485 : decode cL_law 485 = .ok (.iaload, 1) := by decide +kernel
theorem dL_law_486 : decode cL_law 486 = .ok (.invokevirtual 79, 3) := by decide +kernel
theorem dL_law_489 : decode cL_law 489 = .ok (.if_icmp .eq 103, 3) := by decide +kernel
theorem dL_law_492 : decode cL_law 492 = .ok (.iconst 0, 1) := by decide +kernel
theorem dL_law_493 : decode cL_law 493 = .ok (.ireturn, 1) := by decide +kernel
theorem dL_law_494 : decode cL_law 494 = .ok (.aload_n 1, 1) := by decide +kernel
theorem dL_law_495 : decode cL_law 495 = .ok (.invokevirtual 80, 3) := by decide +kernel
theorem dL_law_498 : decode cL_law 498 = .ok (.aload_n 2, 1) := by decide +kernel
theorem dL_law_499 : decode cL_law 499 = .ok (.invokevirtual 83, 3) := by decide +kernel
theorem dL_law_502 : decode cL_law 502 = .ok (.if_icmp .eq 90, 3) := by decide +kernel
theorem dL_law_505 : decode cL_law 505 = .ok (.iconst 0, 1) := by decide +kernel
theorem dL_law_506 : decode cL_law 506 = .ok (.ireturn, 1) := by decide +kernel
theorem dL_law_507 : decode cL_law 507 = .ok (.aload_n 1, 1) := by decide +kernel
theorem dL_law_508 : decode cL_law 508 = .ok (.invokevirtual 84, 3) := by decide +kernel
theorem dL_law_511 : decode cL_law 511 = .ok (.aload_n 2, 1) := by decide +kernel
theorem dL_law_512 : decode cL_law 512 = .ok (.invokevirtual 87, 3) := by decide +kernel
theorem dL_law_515 : decode cL_law 515 = .ok (.if_icmp .eq 77, 3) := by decide +kernel
theorem dL_law_518 : decode cL_law 518 = .ok (.iconst 0, 1) := by decide +kernel
theorem dL_law_519 : decode cL_law 519 = .ok (.ireturn, 1) := by decide +kernel
theorem dL_law_520 : decode cL_law 520 = .ok (.aload_n 1, 1) := by decide +kernel
theorem dL_law_521 : decode cL_law 521 = .ok (.invokevirtual 88, 3) := by decide +kernel
theorem dL_law_524 : decode cL_law 524 = .ok (.aload_n 2, 1) := by decide +kernel
theorem dL_law_525 : decode cL_law 525 = .ok (.invokevirtual 91, 3) := by decide +kernel
theorem dL_law_528 : decode cL_law 528 = .ok (.if_icmp .eq 64, 3) := by decide +kernel
theorem dL_law_531 : decode cL_law 531 = .ok (.iconst 0, 1) := by decide +kernel
theorem dL_law_532 : decode cL_law 532 = .ok (.ireturn, 1) := by decide +kernel
theorem dL_law_533 : decode cL_law 533 = .ok (.aload_n 1, 1) := by decide +kernel
theorem dL_law_534 : decode cL_law 534 = .ok (.aload_n 0, 1) := by decide +kernel
theorem dL_law_535 : decode cL_law 535 = .ok (.iload_n 3, 1) := by decide +kernel
theorem dL_law_536 : decode cL_law 536 = .ok (.iconst 1, 1) := by decide +kernel
theorem dL_law_537 : decode cL_law 537 = .ok (.iadd, 1) := by decide +kernel
theorem dL_law_538 : decode cL_law 538 = .ok (.iaload, 1) := by decide +kernel
theorem dL_law_539 : decode cL_law 539 = .ok (.invokevirtual 92, 3) := by decide +kernel
theorem dL_law_542 : decode cL_law 542 = .ok (.aload_n 2, 1) := by decide +kernel
theorem dL_law_543 : decode cL_law 543 = .ok (.aload_n 0, 1) := by decide +kernel
theorem dL_law_544 : decode cL_law 544 = .ok (.iload_n 3, 1) := by decide +kernel
theorem dL_law_545 : decode cL_law 545 = .ok (.iconst 1, 1) := by decide +kernel
theorem dL_law_546 : decode cL_law 546 = .ok (.iadd, 1) := by decide +kernel
theorem dL_law_547 : decode cL_law 547 = .ok (.iaload, 1) := by decide +kernel
theorem dL_law_548 : decode cL_law 548 = .ok (.invokevirtual 95, 3) := by decide +kernel
theorem dL_law_551 : decode cL_law 551 = .ok (.if_icmp .eq 41, 3) := by decide +kernel
theorem dL_law_554 : decode cL_law 554 = .ok (.iconst 0, 1) := by decide +kernel
theorem dL_law_555 : decode cL_law 555 = .ok (.ireturn, 1) := by decide +kernel
theorem dL_law_556 : decode cL_law 556 = .ok (.aload_n 1, 1) := by decide +kernel
theorem dL_law_557 : decode cL_law 557 = .ok (.aload_n 0, 1) := by decide +kernel
theorem dL_law_558 : decode cL_law 558 = .ok (.iload_n 3, 1) := by decide +kernel
theorem dL_law_559 : decode cL_law 559 = .ok (.iconst 1, 1) := by decide +kernel
theorem dL_law_560 : decode cL_law 560 = .ok (.iadd, 1) := by decide +kernel
theorem dL_law_561 : decode cL_law 561 = .ok (.iaload, 1) := by decide +kernel
theorem dL_law_562 : decode cL_law 562 = .ok (.invokevirtual 96, 3) := by decide +kernel
theorem dL_law_565 : decode cL_law 565 = .ok (.aload_n 2, 1) := by decide +kernel
theorem dL_law_566 : decode cL_law 566 = .ok (.aload_n 0, 1) := by decide +kernel
theorem dL_law_567 : decode cL_law 567 = .ok (.iload_n 3, 1) := by decide +kernel
theorem dL_law_568 : decode cL_law 568 = .ok (.iconst 1, 1) := by decide +kernel
theorem dL_law_569 : decode cL_law 569 = .ok (.iadd, 1) := by decide +kernel
theorem dL_law_570 : decode cL_law 570 = .ok (.iaload, 1) := by decide +kernel
theorem dL_law_571 : decode cL_law 571 = .ok (.invokevirtual 99, 3) := by decide +kernel
theorem dL_law_574 : decode cL_law 574 = .ok (.if_icmp .eq 18, 3) := by decide +kernel
theorem dL_law_577 : decode cL_law 577 = .ok (.iconst 0, 1) := by decide +kernel
theorem dL_law_578 : decode cL_law 578 = .ok (.ireturn, 1) := by decide +kernel
theorem dL_law_579 : decode cL_law 579 = .ok (.aload_n 1, 1) := by decide +kernel
theorem dL_law_580 : decode cL_law 580 = .ok (.invokevirtual 100, 3) := by decide +kernel
theorem dL_law_583 : decode cL_law 583 = .ok (.aload_n 2, 1) := by decide +kernel
theorem dL_law_584 : decode cL_law 584 = .ok (.invokevirtual 103, 3) := by decide +kernel
theorem dL_law_587 : decode cL_law 587 = .ok (.if_icmp .eq 5, 3) := by decide +kernel
theorem dL_law_590 : decode cL_law 590 = .ok (.iconst 0, 1) := by decide +kernel
theorem dL_law_591 : decode cL_law 591 = .ok (.ireturn, 1) := by decide +kernel
theorem dL_law_592 : decode cL_law 592 = .ok (.iinc 3 3, 3) := by decide +kernel
theorem dL_law_595 : decode cL_law 595 = .ok (.goto (-577), 3) := by decide +kernel
theorem dL_law_598 : decode cL_law 598 = .ok (.iconst 1, 1) := by decide +kernel
theorem dL_law_599 : decode cL_law 599 = .ok (.ireturn, 1) := by decide +kernel
end
section
-- ===== 03 base: ints as Int, worlds as lists, one judgement G, contracts Con =====
def iI (x : Int) : Int32 := Int32.ofInt x
theorem iI_add (a b : Int) : iI a + iI b = iI (a + b) := (Int32.ofInt_add a b).symm
theorem iI_sub (a b : Int) : iI a - iI b = iI (a - b) := (Int32.ofInt_sub a b).symm
theorem iI_mul (a b : Int) : iI a * iI b = iI (a * b) := (Int32.ofInt_mul a b).symm
theorem iI_toInt {a : Int} (h1 : -2147483648 ≤ a) (h2 : a < 2147483648) : (iI a).toInt = a := Int32.toInt_ofInt_of_le (by omega) (by omega)
theorem iI_of (x : Int32) : iI x.toInt = x := Int32.ofInt_toInt x
theorem iI_bd (x : Int32) : -2147483648 ≤ x.toInt ∧ x.toInt < 2147483648 := ⟨by have := x.le_toInt; omega, by have := x.toInt_lt; omega⟩
theorem iI_eq {a b : Int} (h : -2147483648 ≤ a ∧ a < 2147483648 ∧ -2147483648 ≤ b ∧ b < 2147483648) : iI a = iI b ↔ a = b := by
  constructor
  · intro e
    have e2 := congrArg Int32.toInt e
    rwa [iI_toInt h.1 h.2.1, iI_toInt h.2.2.1 h.2.2.2] at e2
  · intro e
    rw [e]
theorem iI_lt {a b : Int} (h : -2147483648 ≤ a ∧ a < 2147483648 ∧ -2147483648 ≤ b ∧ b < 2147483648) : iI a < iI b ↔ a < b := by
  rw [Int32.lt_iff_toInt_lt, iI_toInt h.1 h.2.1, iI_toInt h.2.2.1 h.2.2.2]
theorem iI_le {a b : Int} (h : -2147483648 ≤ a ∧ a < 2147483648 ∧ -2147483648 ≤ b ∧ b < 2147483648) : iI a ≤ iI b ↔ a ≤ b := by
  rw [Int32.le_iff_toInt_le, iI_toInt h.1 h.2.1, iI_toInt h.2.2.1 h.2.2.2]
theorem iI_cl {i : Int} (h1 : -2147483648 ≤ i) (h2 : i < 2147483648) : (iI i).toNatClampNeg = i.toNat := by
  show (iI i).toInt.toNat = i.toNat
  rw [iI_toInt h1 h2]
theorem iI_in {i : Int} {n : Nat} (hn : n < 2147483648) (h : 0 ≤ i ∧ i < (n : Int)) : vp_in (iI i) n := by
  rw [vp_in_iff, iI_toInt (by omega) (by omega)]
  exact h
theorem iI_nI (n : Nat) : iI (n : Int) = nI n := Int32.ofInt_eq_ofNat
theorem iI_zero : iI 0 = 0 := rfl
theorem iI_inc (a : Int) (c : Int) : iI a + Int32.ofInt c = iI (a + c) := iI_add a c
/-- a power of two -/
def p2 (n : Int) : Int := 2 ^ n.toNat
theorem iI_tn (a : Int) : (iI a).toBitVec.toNat = (a % 4294967296).toNat := by
  show (BitVec.ofInt 32 a).toNat = _
  rw [BitVec.toNat_ofInt]
  rfl
theorem iI_sh : ∀ n : Nat, n < 32 → ((iI (n : Int) &&& 31).toBitVec.smod 32).toNat = n := by decide +kernel
theorem iI_inj_tn {x y : Int32} (h : x.toBitVec.toNat = y.toBitVec.toNat) : x = y := Int32.toBitVec.inj (BitVec.eq_of_toNat_eq h)
theorem iI_shl {a n : Int} (h : 0 ≤ n ∧ n < 32) : iI a <<< (iI n &&& 31) = iI (a * p2 n) := by
  obtain ⟨k, rfl⟩ : ∃ k : Nat, n = (k : Int) := ⟨n.toNat, by omega⟩
  apply iI_inj_tn
  rw [pk_shl (iI a) _ k (iI_sh k (by omega)), iI_tn, iI_tn]
  have e : p2 (k : Int) = ((2 ^ k : Nat) : Int) := by
    show (2 : Int) ^ k = _
    rw [Int.natCast_pow]
    rfl
  rw [e]
  generalize (2 ^ k : Nat) = w
  have h1 : ((a % 4294967296).toNat : Int) = a % 4294967296 := Int.toNat_of_nonneg (Int.emod_nonneg _ (by decide))
  apply Int.ofNat.inj
  show (((a % 4294967296).toNat * w % 2 ^ 32 : Nat) : Int) = (((a * (w : Int)) % 4294967296).toNat : Int)
  rw [Int.toNat_of_nonneg (Int.emod_nonneg _ (by decide)), Int.natCast_emod, Int.natCast_mul, h1]
  show (a % 4294967296 * (w : Int)) % 4294967296 = _
  rw [Int.mul_emod, Int.emod_emod_of_dvd _ (Int.dvd_refl _), ← Int.mul_emod]
theorem iI_shr {a n : Int} (ha : -2147483648 ≤ a ∧ a < 2147483648) (h : 0 ≤ n ∧ n < 32) : iI a >>> (iI n &&& 31) = iI (a / p2 n) := by
  obtain ⟨k, rfl⟩ : ∃ k : Nat, n = (k : Int) := ⟨n.toNat, by omega⟩
  have h1 := pk_shr (iI a) (iI (k : Int) &&& 31) k (iI_sh k (by omega))
  rw [iI_toInt ha.1 ha.2, Int.shiftRight_eq_div_pow] at h1
  have h2 := congrArg iI h1
  rw [iI_of] at h2
  rw [h2]
  congr 2
theorem iI_and {a : Int} {m : Int} (k : Nat) (hk : k ≤ 31) (hm : (iI m).toBitVec.toNat = 2 ^ k - 1) : iI a &&& iI m = iI (a % (2 ^ k : Nat)) := by
  rw [pk_and (iI a) k hm, iI_tn, ← iI_nI]
  congr 1
  rw [Int.natCast_emod, Int.toNat_of_nonneg (Int.emod_nonneg _ (by decide))]
  have hd : ((2 ^ k : Nat) : Int) ∣ 4294967296 := by
    refine ⟨((2 ^ (32 - k) : Nat) : Int), ?_⟩
    rw [← Int.natCast_mul, ← Nat.pow_add, show k + (32 - k) = 32 by omega]
    rfl
  exact Int.emod_emod_of_dvd a hd
theorem iI_div {a b : Int} (ha : 0 ≤ a ∧ a < 2147483648) (hb : 0 < b ∧ b < 2147483648) : iI a / iI b = iI (a / b) := by
  apply Int32.toInt.inj
  rw [Int32.toInt_div_of_ne_right _ _ (fun e => by
    have e2 := congrArg Int32.toInt e
    rw [iI_toInt (by omega) (by omega)] at e2
    have : (-1 : Int32).toInt = -1 := by decide
    omega), iI_toInt (by omega) (by omega), iI_toInt (by omega) (by omega), Int.tdiv_eq_ediv_of_nonneg ha.1]
  have h1 : 0 ≤ a / b := Int.ediv_nonneg ha.1 (by omega)
  have h2 : a / b ≤ a := Int.ediv_le_self b ha.1
  rw [iI_toInt (by omega) (by omega)]
theorem iI_rem {a b : Int} (ha : 0 ≤ a ∧ a < 2147483648) (hb : 0 < b ∧ b < 2147483648) : iI a - iI a / iI b * iI b = iI (a % b) := by
  rw [iI_div ha hb, iI_mul, iI_sub]
  congr 1
  have := Int.emod_add_mul_ediv a b
  rw [Int.mul_comm] at this
  omega
theorem iI_max {a b : Int} (h : -2147483648 ≤ a ∧ a < 2147483648 ∧ -2147483648 ≤ b ∧ b < 2147483648) : (if iI a < iI b then iI b else iI a) = iI (if a < b then b else a) := by
  by_cases c : a < b
  · rw [if_pos c, if_pos ((iI_lt h).mpr c)]
  · rw [if_neg c, if_neg (fun q => c ((iI_lt h).mp q))]
theorem iI_min {a b : Int} (h : -2147483648 ≤ a ∧ a < 2147483648 ∧ -2147483648 ≤ b ∧ b < 2147483648) : (if iI b < iI a then iI b else iI a) = iI (if b < a then b else a) := by
  have h' : -2147483648 ≤ b ∧ b < 2147483648 ∧ -2147483648 ≤ a ∧ a < 2147483648 := ⟨h.2.2.1, h.2.2.2, h.1, h.2.1⟩
  by_cases c : b < a
  · rw [if_pos c, if_pos ((iI_lt h').mpr c)]
  · rw [if_neg c, if_neg (fun q => c ((iI_lt h').mp q))]
-- arrays of ints: a function of Int
def ar (f : Int → Int) : Nat → Int32 := fun k => iI (f (k : Int))
def up (f : Int → Int) (i x : Int) : Int → Int := fun j => if j = i then x else f j
theorem up_s (f : Int → Int) (i x : Int) : up f i x i = x := by simp [up]
theorem up_n {f : Int → Int} {i x j : Int} (h : j ≠ i) : up f i x j = f j := by simp [up, h]
theorem ar_up (f : Int → Int) {i : Int} (x : Int) (hi : 0 ≤ i) : upd (ar f) i.toNat (iI x) = ar (up f i x) := by
  funext k
  by_cases h : k = i.toNat
  · subst h
    simp [upd, ar, up, Int.toNat_of_nonneg hi]
  · have h2 : ¬ (k : Int) = i := fun e => h (by omega)
    simp [upd, ar, up, h, h2]
/-- what a contract knows of the launch: the classes, the class of int[], that of Matching[], the static table's address -/
abbrev DD : Type := va_G × ClassId × ClassId × Nat
abbrev ca (D : DD) (n : Nat) (f : Int → Int) : va_E := .inl (D.2.1, n, .inl (ar f))
abbrev cq (D : DD) (n : Nat) (f : Nat → Option Nat) : va_E := .inl (D.2.2.1, n, .inr (.inr (.inr (.inr f))))
abbrev co (ci : Nat) (fs : List Value) : va_E := .inr (ci, fs)
abbrev vi (x : Int) : Value := .int (iI x)
def pw3 (k : Int) : Int := 3 ^ k.toNat
def KX (D : DD) (A : Nat → Prop) (U : State) : Prop :=
  va_K D.1 vwCl [(D.2.1, .int), (D.2.2.1, .object "PopularMatchings$Matching")] U ∧ va_Z "PopularMatchings$ChallengerSearch" "FILL_OF_POST" "[I" (.ref D.2.2.2) A U U.heap ∧ va_T .int D.2.2.2 6 (fun j => vi (pw3 (j : Int))) A U U.heap ∧ va_AO "PopularMatchings$Matching" U ∧ va_Nw (.methodLinkNest "PopularMatchings" 45 yX4_init "PopularMatchings") U
theorem KX.pass {D : DD} {A B : Nat → Prop} {s U : State} {H : Heap} {locs : List Loc} (h : KX D A s) (hS : va_S A s.heap H locs) (hU : U.heap = H) (hW : s.WarmedH U.vm) (hAB : ∀ q, B q → A q) : KX D B U := by
  obtain ⟨h1, h2, h3, h4, h5⟩ := h
  refine ⟨va_K.moved hW.alike h1, ?_, ?_, va_AO.moved hW.alike h4, va_Nw.warmM hW h5⟩
  · rw [hU]
    exact (va_Z.moved hW.alike (va_Z.kept h2 hS.2.1)).narrow hAB
  · rw [hU]
    exact (va_T.moved hW.alike (va_T.kept h3 hS.2.1)).narrow hAB
theorem KX.call {D : DD} {A : Nat → Prop} {U : State} {g : JFrame} {mk : MethodId} {a : Array Value} (h : KX D A U) : KX D A (U.calling g mk a) := by
  obtain ⟨h1, h2, h3, h4, h5⟩ := h
  exact ⟨va_K.moved (u := U) (U := U.calling g mk a) (Vm.Alike.refl U.vm) h1, va_Z.moved (u := U) (U := U.calling g mk a) (Vm.Alike.refl U.vm) h2, va_T.moved (u := U) (U := U.calling g mk a) (Vm.Alike.refl U.vm) h3, va_AO.moved (u := U) (U := U.calling g mk a) (Vm.Alike.refl U.vm) h4, va_Nw.same (u := U) (U := U.calling g mk a) rfl rfl h5⟩
-- the constant part of a walk
abbrev CX : Type := Program × Launch × Env × Room × State × MethodId × Array Value × List Frame × Method × Code
def Ok (X : CX) (D : DD) (A : Nat → Prop) (cc : ByteArray) (nL : Nat) (own : String) (Ts : List Cond) (ret : Option FieldType) (rm : Room) : Prop :=
  CallFix X.1 X.2.2.2.2.2.1 X.2.2.2.2.2.2.2.2.2 cc nL X.2.2.2.2.1 X.2.2.2.2.2.2.1 Ts own ∧ KX D A X.2.2.2.2.1 ∧ (∀ q, X.2.2.2.2.1.heap.size ≤ q → A q) ∧ X.2.2.2.2.2.2.2.2.1.locks = false ∧ X.2.2.2.2.2.2.2.2.1.sig.returnType = ret ∧ X.2.2.2.1 = rm
def G (X : CX) (D : DD) (A : Nat → Prop) (nL : Nat) (Q : State → Prop) (cs ss pc : Nat) (L : List (Nat × Value)) (st : List Value) (ws : va_W) : Prop :=
  ∀ (H : Heap) (locs : List Loc) (ls : Array Slot), va_P D.1 vwCl ws H → va_D A ws → va_S A X.2.2.2.2.1.heap H locs → lv_has ls nL L →
    W X.1 X.2.1 X.2.2.1 X.2.2.2.1 X.2.2.2.2.1 X.2.2.2.2.2.1 X.2.2.2.2.2.2.1 X.2.2.2.2.2.2.2.1 X.2.2.2.2.2.2.2.2.1 X.2.2.2.2.2.2.2.2.2 H locs cs ss Q (F0 X.2.2.2.2.2.1 pc ls st)
-- locals, kept in their order
def stL (i : Nat) (v : Value) : List (Nat × Value) → List (Nat × Value)
  | [] => [(i, v)]
  | q :: l => if q.1 == i then (i, v) :: l.filter (fun q => !(q.1 == i) && !(q.1 + 1 == i && q.2.category == 2)) else if (!(q.1 == i) && !(q.1 + 1 == i && q.2.category == 2)) then q :: stL i v l else stL i v l
theorem stL_mem {i : Nat} {v : Value} : ∀ {l : List (Nat × Value)} {q : Nat × Value}, q ∈ stL i v l → q ∈ (i, v) :: l.filter (fun q => !(q.1 == i) && !(q.1 + 1 == i && q.2.category == 2))
  | [], q, h => h
  | x :: l, q, h => by
    unfold stL at h
    by_cases h1 : (x.1 == i) = true
    · rw [if_pos h1] at h
      rcases List.mem_cons.mp h with h | h
      · rw [h]; exact List.mem_cons_self
      · refine List.mem_cons_of_mem _ ?_
        rw [List.mem_filter] at h ⊢
        exact ⟨List.mem_cons_of_mem _ h.1, h.2⟩
    · rw [if_neg h1] at h
      by_cases h2 : (!(x.1 == i) && !(x.1 + 1 == i && x.2.category == 2)) = true
      · rw [if_pos h2] at h
        rcases List.mem_cons.mp h with h | h
        · refine List.mem_cons_of_mem _ ?_
          rw [h, List.mem_filter]
          exact ⟨List.mem_cons_self, h2⟩
        · rcases List.mem_cons.mp (stL_mem h) with h3 | h3
          · rw [h3]; exact List.mem_cons_self
          · refine List.mem_cons_of_mem _ ?_
            rw [List.mem_filter] at h3 ⊢
            exact ⟨List.mem_cons_of_mem _ h3.1, h3.2⟩
      · rw [if_neg h2] at h
        rcases List.mem_cons.mp (stL_mem h) with h3 | h3
        · rw [h3]; exact List.mem_cons_self
        · refine List.mem_cons_of_mem _ ?_
          rw [List.mem_filter] at h3 ⊢
          exact ⟨List.mem_cons_of_mem _ h3.1, h3.2⟩
theorem stL_has {ls : Array Slot} {n i : Nat} {v : Value} {l : List (Nat × Value)} (h : lv_has ls n ((i, v) :: l.filter (fun q => !(q.1 == i) && !(q.1 + 1 == i && q.2.category == 2)))) : lv_has ls n (stL i v l) := ⟨h.1, h.2.1, fun q hq => h.2.2 q (stL_mem hq)⟩
section GRules
variable {X : CX} {D : DD} {A : Nat → Prop} {cc : ByteArray} {nL : Nat} {own : String} {Ts : List Cond} {ret : Option FieldType} {rm : Room} {Q : State → Prop} {cs ss pc : Nat} {L : List (Nat × Value)} {st : List Value} {ws : va_W}
theorem g_iconst (O : Ok X D A cc nL own Ts ret rm) {k : Int} (hd : decode cc pc = .ok (.iconst k, 1)) (n : Nat) (hn : pc + 1 = n) (kk : G X D A nL Q cs ss n L (vi k :: st) ws) : G X D A nL Q cs ss pc L st ws := by
  subst hn; intro H locs ls hP hD hS hl
  exact lv_iconst O.1.1 O.1.2.1 hd rfl (kk H locs ls hP hD hS hl)
theorem g_bipush (O : Ok X D A cc nL own Ts ret rm) {k : Int} (hd : decode cc pc = .ok (.bipush k, 2)) (n : Nat) (hn : pc + 2 = n) (hv : (Int8.ofInt k).toInt32 = iI k) (kk : G X D A nL Q cs ss n L (vi k :: st) ws) : G X D A nL Q cs ss pc L st ws := by
  subst hn; intro H locs ls hP hD hS hl
  exact lv_bipush O.1.1 O.1.2.1 hd hv (kk H locs ls hP hD hS hl)
theorem g_sipush (O : Ok X D A cc nL own Ts ret rm) {k : Int} (hd : decode cc pc = .ok (.sipush k, 3)) (n : Nat) (hn : pc + 3 = n) (hv : (Int16.ofInt k).toInt32 = iI k) (kk : G X D A nL Q cs ss n L (vi k :: st) ws) : G X D A nL Q cs ss pc L st ws := by
  subst hn; intro H locs ls hP hD hS hl
  exact lv_sipush O.1.1 O.1.2.1 hd hv (kk H locs ls hP hD hS hl)
theorem g_ldc (O : Ok X D A cc nL own Ts ret rm) {index : Nat} (hd : decode cc pc = .ok (.ldc index, 2)) (n : Nat) (hn : pc + 2 = n) (k : Int) (hc : Cond.constant own index (iI k) ∈ Ts) (kk : G X D A nL Q cs ss n L (vi k :: st) ws) : G X D A nL Q cs ss pc L st ws := by
  subst hn; intro H locs ls hP hD hS hl
  exact lv_ldc O.1.1 O.1.2.1 O.1.2.2.2.1 (O.1.2.2.2.2 _ hc) hd (kk H locs ls hP hD hS hl)
theorem g_iload_n (O : Ok X D A cc nL own Ts ret rm) {k : Fin 4} {x : Int32} (hd : decode cc pc = .ok (.iload_n k, 1)) (n j : Nat) (hn : pc + 1 = n) (hj : L[j]? = some ((k : Nat), .int x)) (kk : G X D A nL Q cs ss n L (.int x :: st) ws) : G X D A nL Q cs ss pc L st ws := by
  subst hn; intro H locs ls hP hD hS hl
  exact lv_iload_n O.1.1 O.1.2.1 hd rfl (lv_at hl j hj) (kk H locs ls hP hD hS hl)
theorem g_iload (O : Ok X D A cc nL own Ts ret rm) {k : Nat} {x : Int32} (hd : decode cc pc = .ok (.iload k, 2)) (n j : Nat) (hn : pc + 2 = n) (hj : L[j]? = some (k, .int x)) (kk : G X D A nL Q cs ss n L (.int x :: st) ws) : G X D A nL Q cs ss pc L st ws := by
  subst hn; intro H locs ls hP hD hS hl
  exact lv_iload O.1.1 O.1.2.1 hd (lv_at hl j hj) (kk H locs ls hP hD hS hl)
theorem g_aload_n (O : Ok X D A cc nL own Ts ret rm) {k : Fin 4} {x : Nat} (hd : decode cc pc = .ok (.aload_n k, 1)) (n j : Nat) (hn : pc + 1 = n) (hj : L[j]? = some ((k : Nat), .ref x)) (kk : G X D A nL Q cs ss n L (.ref x :: st) ws) : G X D A nL Q cs ss pc L st ws := by
  subst hn; intro H locs ls hP hD hS hl
  exact lv_aload_n O.1.1 O.1.2.1 hd rfl (lv_at hl j hj) (kk H locs ls hP hD hS hl)
theorem g_istore_n (O : Ok X D A cc nL own Ts ret rm) {k : Fin 4} {x : Int32} (hd : decode cc pc = .ok (.istore_n k, 1)) (n : Nat) (L' : List (Nat × Value)) (hn : pc + 1 = n) (hk : (k : Nat) < nL) (hL : stL (k : Nat) (.int x) L = L') (kk : G X D A nL Q cs ss n L' st ws) : G X D A nL Q cs ss pc L (.int x :: st) ws := by
  subst hn; subst hL; intro H locs ls hP hD hS hl
  exact lv_istore_n O.1.1 O.1.2.1 hd rfl hl hk rfl (fun ls' hl' => kk H locs ls' hP hD hS (stL_has hl'))
theorem g_istore (O : Ok X D A cc nL own Ts ret rm) {k : Nat} {x : Int32} (hd : decode cc pc = .ok (.istore k, 2)) (n : Nat) (L' : List (Nat × Value)) (hn : pc + 2 = n) (hk : k < nL) (hL : stL k (.int x) L = L') (kk : G X D A nL Q cs ss n L' st ws) : G X D A nL Q cs ss pc L (.int x :: st) ws := by
  subst hn; subst hL; intro H locs ls hP hD hS hl
  exact lv_istore O.1.1 O.1.2.1 hd hl hk rfl (fun ls' hl' => kk H locs ls' hP hD hS (stL_has hl'))
theorem g_astore_n (O : Ok X D A cc nL own Ts ret rm) {k : Fin 4} {x : Nat} (hd : decode cc pc = .ok (.astore_n k, 1)) (n : Nat) (L' : List (Nat × Value)) (hn : pc + 1 = n) (hk : (k : Nat) < nL) (hL : stL (k : Nat) (.ref x) L = L') (kk : G X D A nL Q cs ss n L' st ws) : G X D A nL Q cs ss pc L (.ref x :: st) ws := by
  subst hn; subst hL; intro H locs ls hP hD hS hl
  exact lv_astore_n O.1.1 O.1.2.1 hd rfl hl hk rfl (fun ls' hl' => kk H locs ls' hP hD hS (stL_has hl'))
theorem g_iinc (O : Ok X D A cc nL own Ts ret rm) {k : Nat} {c a : Int} (hd : decode cc pc = .ok (.iinc k c, 3)) (n j : Nat) (L' : List (Nat × Value)) (hn : pc + 3 = n) (hk : k < nL) (hj : L[j]? = some (k, vi a)) (hL : stL k (vi (a + c)) L = L') (kk : G X D A nL Q cs ss n L' st ws) : G X D A nL Q cs ss pc L st ws := by
  subst hn; subst hL; intro H locs ls hP hD hS hl
  exact lv_iinc O.1.1 O.1.2.1 hd hl hj (iI_inc a c) hk rfl (fun ls' hl' => kk H locs ls' hP hD hS (stL_has hl'))
theorem g_iadd (O : Ok X D A cc nL own Ts ret rm) {a b : Int} (hd : decode cc pc = .ok (.iadd, 1)) (n : Nat) (hn : pc + 1 = n) (kk : G X D A nL Q cs ss n L (vi (a + b) :: st) ws) : G X D A nL Q cs ss pc L (vi b :: vi a :: st) ws := by
  subst hn; intro H locs ls hP hD hS hl
  exact lv_iadd O.1.1 O.1.2.1 hd (by rw [iI_add]; exact kk H locs ls hP hD hS hl)
theorem g_isub (O : Ok X D A cc nL own Ts ret rm) {a b : Int} (hd : decode cc pc = .ok (.isub, 1)) (n : Nat) (hn : pc + 1 = n) (kk : G X D A nL Q cs ss n L (vi (a - b) :: st) ws) : G X D A nL Q cs ss pc L (vi b :: vi a :: st) ws := by
  subst hn; intro H locs ls hP hD hS hl
  exact lv_isub O.1.1 O.1.2.1 hd (by rw [iI_sub]; exact kk H locs ls hP hD hS hl)
theorem g_imul (O : Ok X D A cc nL own Ts ret rm) {a b : Int} (hd : decode cc pc = .ok (.imul, 1)) (n : Nat) (hn : pc + 1 = n) (kk : G X D A nL Q cs ss n L (vi (a * b) :: st) ws) : G X D A nL Q cs ss pc L (vi b :: vi a :: st) ws := by
  subst hn; intro H locs ls hP hD hS hl
  exact lv_imul O.1.1 O.1.2.1 hd (by rw [iI_mul]; exact kk H locs ls hP hD hS hl)
theorem g_ishl (O : Ok X D A cc nL own Ts ret rm) {a b : Int} (hd : decode cc pc = .ok (.ishl, 1)) (n : Nat) (hn : pc + 1 = n) (hb : 0 ≤ b ∧ b < 32) (kk : G X D A nL Q cs ss n L (vi (a * p2 b) :: st) ws) : G X D A nL Q cs ss pc L (vi b :: vi a :: st) ws := by
  subst hn; intro H locs ls hP hD hS hl
  exact lv_ishl O.1.1 O.1.2.1 hd (by rw [iI_shl hb]; exact kk H locs ls hP hD hS hl)
theorem g_ishr (O : Ok X D A cc nL own Ts ret rm) {a b : Int} (hd : decode cc pc = .ok (.ishr, 1)) (n : Nat) (hn : pc + 1 = n) (hb : -2147483648 ≤ a ∧ a < 2147483648 ∧ 0 ≤ b ∧ b < 32) (kk : G X D A nL Q cs ss n L (vi (a / p2 b) :: st) ws) : G X D A nL Q cs ss pc L (vi b :: vi a :: st) ws := by
  subst hn; intro H locs ls hP hD hS hl
  exact lv_ishr O.1.1 O.1.2.1 hd (by rw [iI_shr ⟨hb.1, hb.2.1⟩ hb.2.2]; exact kk H locs ls hP hD hS hl)
theorem g_iand (O : Ok X D A cc nL own Ts ret rm) {a m : Int} (hd : decode cc pc = .ok (.iand, 1)) (n : Nat) (hn : pc + 1 = n) (k : Nat) (hk : k ≤ 31) (hm : (iI m).toBitVec.toNat = 2 ^ k - 1) (w : Int) (hw : w = ((2 ^ k : Nat) : Int)) (kk : G X D A nL Q cs ss n L (vi (a % w) :: st) ws) : G X D A nL Q cs ss pc L (vi m :: vi a :: st) ws := by
  subst hn; subst hw; intro H locs ls hP hD hS hl
  exact lv_iand O.1.1 O.1.2.1 hd (by rw [iI_and k hk hm]; exact kk H locs ls hP hD hS hl)
theorem g_idiv (O : Ok X D A cc nL own Ts ret rm) {a b : Int} (hd : decode cc pc = .ok (.idiv, 1)) (n : Nat) (hn : pc + 1 = n) (hb : 0 ≤ a ∧ a < 2147483648 ∧ 0 < b ∧ b < 2147483648) (kk : G X D A nL Q cs ss n L (vi (a / b) :: st) ws) : G X D A nL Q cs ss pc L (vi b :: vi a :: st) ws := by
  subst hn; intro H locs ls hP hD hS hl
  exact lv_idiv O.1.1 O.1.2.1 hd (fun e => by rw [← iI_zero, iI_eq (by omega)] at e; omega) (by rw [iI_div ⟨hb.1, hb.2.1⟩ hb.2.2]; exact kk H locs ls hP hD hS hl)
theorem g_irem (O : Ok X D A cc nL own Ts ret rm) {a b : Int} (hd : decode cc pc = .ok (.irem, 1)) (n : Nat) (hn : pc + 1 = n) (hb : 0 ≤ a ∧ a < 2147483648 ∧ 0 < b ∧ b < 2147483648) (kk : G X D A nL Q cs ss n L (vi (a % b) :: st) ws) : G X D A nL Q cs ss pc L (vi b :: vi a :: st) ws := by
  subst hn; intro H locs ls hP hD hS hl
  exact lv_irem O.1.1 O.1.2.1 hd (fun e => by rw [← iI_zero, iI_eq (by omega)] at e; omega) (by rw [iI_rem ⟨hb.1, hb.2.1⟩ hb.2.2]; exact kk H locs ls hP hD hS hl)
theorem g_dup (O : Ok X D A cc nL own Ts ret rm) {v : Value} (hd : decode cc pc = .ok (.dup, 1)) (n : Nat) (hn : pc + 1 = n) (hv : v.category = 1) (kk : G X D A nL Q cs ss n L (v :: v :: st) ws) : G X D A nL Q cs ss pc L (v :: st) ws := by
  subst hn; intro H locs ls hP hD hS hl
  exact lv_dup O.1.1 O.1.2.1 hd hv (kk H locs ls hP hD hS hl)
theorem g_pop (O : Ok X D A cc nL own Ts ret rm) {v : Value} (hd : decode cc pc = .ok (.pop, 1)) (n : Nat) (hn : pc + 1 = n) (hv : v.category = 1) (kk : G X D A nL Q cs ss n L st ws) : G X D A nL Q cs ss pc L (v :: st) ws := by
  subst hn; intro H locs ls hP hD hS hl
  exact lv_pop O.1.1 O.1.2.1 hd hv (kk H locs ls hP hD hS hl)
theorem g_dup2 (O : Ok X D A cc nL own Ts ret rm) {v w : Value} (hd : decode cc pc = .ok (.dup2, 1)) (n : Nat) (hn : pc + 1 = n) (hv : v.category = 1) (hw : w.category = 1) (kk : G X D A nL Q cs ss n L (v :: w :: v :: w :: st) ws) : G X D A nL Q cs ss pc L (v :: w :: st) ws := by
  subst hn; intro H locs ls hP hD hS hl
  exact lv_dup2_11 O.1.1 O.1.2.1 hd hv hw (kk H locs ls hP hD hS hl)
theorem g_goto (O : Ok X D A cc nL own Ts ret rm) {off : Int} (hd : decode cc pc = .ok (.goto off, 3)) (t : Nat) (ht : (pc : Int) + off = (t : Int)) (kk : G X D A nL Q cs ss t L st ws) : G X D A nL Q cs ss pc L st ws := by
  intro H locs ls hP hD hS hl
  exact lv_goto O.1.1 O.1.2.1 hd ht (kk H locs ls hP hD hS hl)
end GRules
section GBranch
variable {X : CX} {D : DD} {A : Nat → Prop} {cc : ByteArray} {nL : Nat} {own : String} {Ts : List Cond} {ret : Option FieldType} {rm : Room} {Q : State → Prop} {cs ss pc : Nat} {L : List (Nat × Value)} {st : List Value} {ws : va_W}
theorem g_icmp_eq (O : Ok X D A cc nL own Ts ret rm) {off : Int} {a b : Int} (hd : decode cc pc = .ok (.if_icmp .eq off, 3)) (n t : Nat) (hn : pc + 3 = n) (ht : (pc : Int) + off = (t : Int)) (hb : -2147483648 ≤ a ∧ a < 2147483648 ∧ -2147483648 ≤ b ∧ b < 2147483648) (kt : a = b → G X D A nL Q cs ss t L st ws) (kf : ¬ a = b → G X D A nL Q cs ss n L st ws) : G X D A nL Q cs ss pc L (vi b :: vi a :: st) ws := by
  subst hn
  have hb0 := hb
  have hb1 : -2147483648 ≤ b ∧ b < 2147483648 ∧ -2147483648 ≤ a ∧ a < 2147483648 := ⟨hb.2.2.1, hb.2.2.2, hb.1, hb.2.1⟩
  intro H locs ls hP hD hS hl
  exact lv_icmp_eq O.1.1 O.1.2.1 hd ht (fun h => kt ((iI_eq hb0).mp h) H locs ls hP hD hS hl) (fun h => kf (fun e => h ((iI_eq hb0).mpr e)) H locs ls hP hD hS hl)
theorem g_if_eq (O : Ok X D A cc nL own Ts ret rm) {off : Int} {a : Int} (hd : decode cc pc = .ok (.ifCond .eq off, 3)) (n t : Nat) (hn : pc + 3 = n) (ht : (pc : Int) + off = (t : Int)) (hb : -2147483648 ≤ a ∧ a < 2147483648) (kt : a = 0 → G X D A nL Q cs ss t L st ws) (kf : ¬ a = 0 → G X D A nL Q cs ss n L st ws) : G X D A nL Q cs ss pc L (vi a :: st) ws := by
  subst hn
  have hb0 : -2147483648 ≤ a ∧ a < 2147483648 ∧ -2147483648 ≤ (0 : Int) ∧ (0 : Int) < 2147483648 := ⟨hb.1, hb.2, by decide, by decide⟩
  have hb1 : -2147483648 ≤ (0 : Int) ∧ (0 : Int) < 2147483648 ∧ -2147483648 ≤ a ∧ a < 2147483648 := ⟨by decide, by decide, hb.1, hb.2⟩
  intro H locs ls hP hD hS hl
  exact lv_if_eq O.1.1 O.1.2.1 hd ht (fun h => kt ((iI_eq hb0).mp h) H locs ls hP hD hS hl) (fun h => kf (fun e => h ((iI_eq hb0).mpr e)) H locs ls hP hD hS hl)
theorem g_icmp_ne (O : Ok X D A cc nL own Ts ret rm) {off : Int} {a b : Int} (hd : decode cc pc = .ok (.if_icmp .ne off, 3)) (n t : Nat) (hn : pc + 3 = n) (ht : (pc : Int) + off = (t : Int)) (hb : -2147483648 ≤ a ∧ a < 2147483648 ∧ -2147483648 ≤ b ∧ b < 2147483648) (kt : ¬ a = b → G X D A nL Q cs ss t L st ws) (kf : a = b → G X D A nL Q cs ss n L st ws) : G X D A nL Q cs ss pc L (vi b :: vi a :: st) ws := by
  subst hn
  have hb0 := hb
  have hb1 : -2147483648 ≤ b ∧ b < 2147483648 ∧ -2147483648 ≤ a ∧ a < 2147483648 := ⟨hb.2.2.1, hb.2.2.2, hb.1, hb.2.1⟩
  intro H locs ls hP hD hS hl
  exact lv_icmp_ne O.1.1 O.1.2.1 hd ht (fun h => kt (fun e => h ((iI_eq hb0).mpr e)) H locs ls hP hD hS hl) (fun h => kf ((iI_eq hb0).mp h) H locs ls hP hD hS hl)
theorem g_if_ne (O : Ok X D A cc nL own Ts ret rm) {off : Int} {a : Int} (hd : decode cc pc = .ok (.ifCond .ne off, 3)) (n t : Nat) (hn : pc + 3 = n) (ht : (pc : Int) + off = (t : Int)) (hb : -2147483648 ≤ a ∧ a < 2147483648) (kt : ¬ a = 0 → G X D A nL Q cs ss t L st ws) (kf : a = 0 → G X D A nL Q cs ss n L st ws) : G X D A nL Q cs ss pc L (vi a :: st) ws := by
  subst hn
  have hb0 : -2147483648 ≤ a ∧ a < 2147483648 ∧ -2147483648 ≤ (0 : Int) ∧ (0 : Int) < 2147483648 := ⟨hb.1, hb.2, by decide, by decide⟩
  have hb1 : -2147483648 ≤ (0 : Int) ∧ (0 : Int) < 2147483648 ∧ -2147483648 ≤ a ∧ a < 2147483648 := ⟨by decide, by decide, hb.1, hb.2⟩
  intro H locs ls hP hD hS hl
  exact lv_if_ne O.1.1 O.1.2.1 hd ht (fun h => kt (fun e => h ((iI_eq hb0).mpr e)) H locs ls hP hD hS hl) (fun h => kf ((iI_eq hb0).mp h) H locs ls hP hD hS hl)
theorem g_icmp_lt (O : Ok X D A cc nL own Ts ret rm) {off : Int} {a b : Int} (hd : decode cc pc = .ok (.if_icmp .lt off, 3)) (n t : Nat) (hn : pc + 3 = n) (ht : (pc : Int) + off = (t : Int)) (hb : -2147483648 ≤ a ∧ a < 2147483648 ∧ -2147483648 ≤ b ∧ b < 2147483648) (kt : a < b → G X D A nL Q cs ss t L st ws) (kf : b ≤ a → G X D A nL Q cs ss n L st ws) : G X D A nL Q cs ss pc L (vi b :: vi a :: st) ws := by
  subst hn
  have hb0 := hb
  have hb1 : -2147483648 ≤ b ∧ b < 2147483648 ∧ -2147483648 ≤ a ∧ a < 2147483648 := ⟨hb.2.2.1, hb.2.2.2, hb.1, hb.2.1⟩
  intro H locs ls hP hD hS hl
  exact lv_icmp_lt O.1.1 O.1.2.1 hd ht (fun h => kt ((iI_lt hb0).mp h) H locs ls hP hD hS hl) (fun h => kf (Int.not_lt.mp (fun e => h ((iI_lt hb0).mpr e))) H locs ls hP hD hS hl)
theorem g_if_lt (O : Ok X D A cc nL own Ts ret rm) {off : Int} {a : Int} (hd : decode cc pc = .ok (.ifCond .lt off, 3)) (n t : Nat) (hn : pc + 3 = n) (ht : (pc : Int) + off = (t : Int)) (hb : -2147483648 ≤ a ∧ a < 2147483648) (kt : a < 0 → G X D A nL Q cs ss t L st ws) (kf : 0 ≤ a → G X D A nL Q cs ss n L st ws) : G X D A nL Q cs ss pc L (vi a :: st) ws := by
  subst hn
  have hb0 : -2147483648 ≤ a ∧ a < 2147483648 ∧ -2147483648 ≤ (0 : Int) ∧ (0 : Int) < 2147483648 := ⟨hb.1, hb.2, by decide, by decide⟩
  have hb1 : -2147483648 ≤ (0 : Int) ∧ (0 : Int) < 2147483648 ∧ -2147483648 ≤ a ∧ a < 2147483648 := ⟨by decide, by decide, hb.1, hb.2⟩
  intro H locs ls hP hD hS hl
  exact lv_if_lt O.1.1 O.1.2.1 hd ht (fun h => kt ((iI_lt hb0).mp h) H locs ls hP hD hS hl) (fun h => kf (Int.not_lt.mp (fun e => h ((iI_lt hb0).mpr e))) H locs ls hP hD hS hl)
theorem g_icmp_ge (O : Ok X D A cc nL own Ts ret rm) {off : Int} {a b : Int} (hd : decode cc pc = .ok (.if_icmp .ge off, 3)) (n t : Nat) (hn : pc + 3 = n) (ht : (pc : Int) + off = (t : Int)) (hb : -2147483648 ≤ a ∧ a < 2147483648 ∧ -2147483648 ≤ b ∧ b < 2147483648) (kt : b ≤ a → G X D A nL Q cs ss t L st ws) (kf : a < b → G X D A nL Q cs ss n L st ws) : G X D A nL Q cs ss pc L (vi b :: vi a :: st) ws := by
  subst hn
  have hb0 := hb
  have hb1 : -2147483648 ≤ b ∧ b < 2147483648 ∧ -2147483648 ≤ a ∧ a < 2147483648 := ⟨hb.2.2.1, hb.2.2.2, hb.1, hb.2.1⟩
  intro H locs ls hP hD hS hl
  exact lv_icmp_ge O.1.1 O.1.2.1 hd ht (fun h => kt ((iI_le hb1).mp h) H locs ls hP hD hS hl) (fun h => kf (Int.not_le.mp (fun e => h ((iI_le hb1).mpr e))) H locs ls hP hD hS hl)
theorem g_if_ge (O : Ok X D A cc nL own Ts ret rm) {off : Int} {a : Int} (hd : decode cc pc = .ok (.ifCond .ge off, 3)) (n t : Nat) (hn : pc + 3 = n) (ht : (pc : Int) + off = (t : Int)) (hb : -2147483648 ≤ a ∧ a < 2147483648) (kt : 0 ≤ a → G X D A nL Q cs ss t L st ws) (kf : a < 0 → G X D A nL Q cs ss n L st ws) : G X D A nL Q cs ss pc L (vi a :: st) ws := by
  subst hn
  have hb0 : -2147483648 ≤ a ∧ a < 2147483648 ∧ -2147483648 ≤ (0 : Int) ∧ (0 : Int) < 2147483648 := ⟨hb.1, hb.2, by decide, by decide⟩
  have hb1 : -2147483648 ≤ (0 : Int) ∧ (0 : Int) < 2147483648 ∧ -2147483648 ≤ a ∧ a < 2147483648 := ⟨by decide, by decide, hb.1, hb.2⟩
  intro H locs ls hP hD hS hl
  exact lv_if_ge O.1.1 O.1.2.1 hd ht (fun h => kt ((iI_le hb1).mp h) H locs ls hP hD hS hl) (fun h => kf (Int.not_le.mp (fun e => h ((iI_le hb1).mpr e))) H locs ls hP hD hS hl)
theorem g_icmp_gt (O : Ok X D A cc nL own Ts ret rm) {off : Int} {a b : Int} (hd : decode cc pc = .ok (.if_icmp .gt off, 3)) (n t : Nat) (hn : pc + 3 = n) (ht : (pc : Int) + off = (t : Int)) (hb : -2147483648 ≤ a ∧ a < 2147483648 ∧ -2147483648 ≤ b ∧ b < 2147483648) (kt : b < a → G X D A nL Q cs ss t L st ws) (kf : a ≤ b → G X D A nL Q cs ss n L st ws) : G X D A nL Q cs ss pc L (vi b :: vi a :: st) ws := by
  subst hn
  have hb0 := hb
  have hb1 : -2147483648 ≤ b ∧ b < 2147483648 ∧ -2147483648 ≤ a ∧ a < 2147483648 := ⟨hb.2.2.1, hb.2.2.2, hb.1, hb.2.1⟩
  intro H locs ls hP hD hS hl
  exact lv_icmp_gt O.1.1 O.1.2.1 hd ht (fun h => kt ((iI_lt hb1).mp h) H locs ls hP hD hS hl) (fun h => kf (Int.not_lt.mp (fun e => h ((iI_lt hb1).mpr e))) H locs ls hP hD hS hl)
theorem g_if_gt (O : Ok X D A cc nL own Ts ret rm) {off : Int} {a : Int} (hd : decode cc pc = .ok (.ifCond .gt off, 3)) (n t : Nat) (hn : pc + 3 = n) (ht : (pc : Int) + off = (t : Int)) (hb : -2147483648 ≤ a ∧ a < 2147483648) (kt : 0 < a → G X D A nL Q cs ss t L st ws) (kf : a ≤ 0 → G X D A nL Q cs ss n L st ws) : G X D A nL Q cs ss pc L (vi a :: st) ws := by
  subst hn
  have hb0 : -2147483648 ≤ a ∧ a < 2147483648 ∧ -2147483648 ≤ (0 : Int) ∧ (0 : Int) < 2147483648 := ⟨hb.1, hb.2, by decide, by decide⟩
  have hb1 : -2147483648 ≤ (0 : Int) ∧ (0 : Int) < 2147483648 ∧ -2147483648 ≤ a ∧ a < 2147483648 := ⟨by decide, by decide, hb.1, hb.2⟩
  intro H locs ls hP hD hS hl
  exact lv_if_gt O.1.1 O.1.2.1 hd ht (fun h => kt ((iI_lt hb1).mp h) H locs ls hP hD hS hl) (fun h => kf (Int.not_lt.mp (fun e => h ((iI_lt hb1).mpr e))) H locs ls hP hD hS hl)
theorem g_icmp_le (O : Ok X D A cc nL own Ts ret rm) {off : Int} {a b : Int} (hd : decode cc pc = .ok (.if_icmp .le off, 3)) (n t : Nat) (hn : pc + 3 = n) (ht : (pc : Int) + off = (t : Int)) (hb : -2147483648 ≤ a ∧ a < 2147483648 ∧ -2147483648 ≤ b ∧ b < 2147483648) (kt : a ≤ b → G X D A nL Q cs ss t L st ws) (kf : b < a → G X D A nL Q cs ss n L st ws) : G X D A nL Q cs ss pc L (vi b :: vi a :: st) ws := by
  subst hn
  have hb0 := hb
  have hb1 : -2147483648 ≤ b ∧ b < 2147483648 ∧ -2147483648 ≤ a ∧ a < 2147483648 := ⟨hb.2.2.1, hb.2.2.2, hb.1, hb.2.1⟩
  intro H locs ls hP hD hS hl
  exact lv_icmp_le O.1.1 O.1.2.1 hd ht (fun h => kt ((iI_le hb0).mp h) H locs ls hP hD hS hl) (fun h => kf (Int.not_le.mp (fun e => h ((iI_le hb0).mpr e))) H locs ls hP hD hS hl)
theorem g_if_le (O : Ok X D A cc nL own Ts ret rm) {off : Int} {a : Int} (hd : decode cc pc = .ok (.ifCond .le off, 3)) (n t : Nat) (hn : pc + 3 = n) (ht : (pc : Int) + off = (t : Int)) (hb : -2147483648 ≤ a ∧ a < 2147483648) (kt : a ≤ 0 → G X D A nL Q cs ss t L st ws) (kf : 0 < a → G X D A nL Q cs ss n L st ws) : G X D A nL Q cs ss pc L (vi a :: st) ws := by
  subst hn
  have hb0 : -2147483648 ≤ a ∧ a < 2147483648 ∧ -2147483648 ≤ (0 : Int) ∧ (0 : Int) < 2147483648 := ⟨hb.1, hb.2, by decide, by decide⟩
  have hb1 : -2147483648 ≤ (0 : Int) ∧ (0 : Int) < 2147483648 ∧ -2147483648 ≤ a ∧ a < 2147483648 := ⟨by decide, by decide, hb.1, hb.2⟩
  intro H locs ls hP hD hS hl
  exact lv_if_le O.1.1 O.1.2.1 hd ht (fun h => kt ((iI_le hb0).mp h) H locs ls hP hD hS hl) (fun h => kf (Int.not_le.mp (fun e => h ((iI_le hb0).mpr e))) H locs ls hP hD hS hl)
end GBranch
section GMem
variable {X : CX} {D : DD} {A : Nat → Prop} {cc : ByteArray} {nL : Nat} {own : String} {Ts : List Cond} {ret : Option FieldType} {rm : Room} {Q : State → Prop} {cs ss pc : Nat} {L : List (Nat × Value)} {st : List Value} {ws : va_W}
/-- a field's link in a method's words: class ci of vwCl, its field k, the pool's place index -/
def FK (own : String) (Ts : List Cond) (index ci k : Nat) : Prop := ∃ (C : String) (T : u_T) (N : Nat), vwCl[ci]? = some (C, T, N) ∧ (∀ w ∈ u_ws C T N, w ∈ Ts) ∧ k < N ∧ Cond.fieldLink own index (T k).1 (T k).2.1 (T k).2.2.1 ∈ Ts
/-- what a class says of its field k: its type, and whether it is final -/
def FP (ci k : Nat) (fin : Bool) (ty : FieldType) : Prop := ∃ (C : String) (T : u_T) (N : Nat) (ty0 : Nat → FieldType), vwCl[ci]? = some (C, T, N) ∧ (∀ j, j < N → parseFieldDescriptor (T j).2.2.1 = some (ty0 j)) ∧ (∀ a, a < N → ∀ b, b < N → a ≠ b → (T a).2.1 ≠ (T b).2.1) ∧ (T k).2.2.2 = fin ∧ parseFieldDescriptor (T k).2.2.1 = some ty
theorem g_get (O : Ok X D A cc nL own Ts ret rm) {index a : Nat} (hd : decode cc pc = .ok (.getfield index, 3)) (n : Nat) (hn : pc + 3 = n) {ci k : Nat} (hf : FK own Ts index ci k) (q0 : Nat) {fs : List Value} {v : Value} (hq : ws[q0]? = some (a, co ci fs)) (hv : fs[k]? = some v) (kk : G X D A nL Q cs ss n L (v :: st) ws) : G X D A nL Q cs ss pc L (.ref a :: st) ws := by
  subst hn; intro H locs ls hP hD hS hl
  obtain ⟨C, T, N, h1, h2, h3, h4⟩ := hf
  exact va_get (D := D.1) (ci := ci) (v := v) (C := C) (T := T) (N := N) O.1.1 O.1.2.1 O.1.2.2.2.2 h2 O.1.2.2.2.1 O.2.1.1 hP q0 hq h1 k h3 (O.1.2.2.2.2 _ h4) (fun _ h => h) hv hd (kk H locs ls hP hD hS hl)
theorem g_put (O : Ok X D A cc nL own Ts ret rm) {index a : Nat} (hd : decode cc pc = .ok (.putfield index, 3)) (n : Nat) (hn : pc + 3 = n) {ci k : Nat} (hf : FK own Ts index ci k) {ty : FieldType} (hp : FP ci k false ty) (q0 : Nat) {fs : List Value} {v : Value} (hq : ws[q0]? = some (a, co ci fs)) (hnr : narrow ty v = v) (hft : fits ty v = true) (hk : k < fs.length) (ws' : va_W) (hw : ws.set q0 (a, co ci (fs.set k v)) = ws') (kk : G X D A nL Q cs ss n L st ws') : G X D A nL Q cs ss pc L (v :: .ref a :: st) ws := by
  subst hn; subst hw; intro H locs ls hP hD hS hl
  obtain ⟨C, T, N, h1, h2, h3, h4⟩ := hf
  obtain ⟨C', T', N', ty0, g1, g2, g3, g4, g5⟩ := hp
  cases h1.symm.trans g1
  exact va_put (D := D.1) (ci := ci) (v := v) (ty := ty) (C := C) (T := T) (N := N) O.1.1 O.1.2.1 O.1.2.2.2.2 h2 ty0 g2 g3 O.1.2.2.2.1 O.2.1.1 hP hD hS q0 hq h1 k h3 (O.1.2.2.2.2 _ h4) (fun _ h => h) g4 g5 hnr hft hk hd (fun H locs hP hD hS => kk H locs ls hP hD hS hl)
theorem g_putF (O : Ok X D A cc nL own Ts ret rm) (hin : X.2.2.2.2.2.2.2.2.1.name = "<init>") {index a : Nat} (hd : decode cc pc = .ok (.putfield index, 3)) (n : Nat) (hn : pc + 3 = n) {ci k : Nat} (hf : FK own Ts index ci k) {ty : FieldType} (hp : FP ci k true ty) (ho : ∀ C T N, vwCl[ci]? = some (C, T, N) → (T k).1 = own) (q0 : Nat) {fs : List Value} {v : Value} (hq : ws[q0]? = some (a, co ci fs)) (hnr : narrow ty v = v) (hft : fits ty v = true) (hk : k < fs.length) (ws' : va_W) (hw : ws.set q0 (a, co ci (fs.set k v)) = ws') (kk : G X D A nL Q cs ss n L st ws') : G X D A nL Q cs ss pc L (v :: .ref a :: st) ws := by
  subst hn; subst hw; intro H locs ls hP hD hS hl
  obtain ⟨C, T, N, h1, h2, h3, h4⟩ := hf
  obtain ⟨C', T', N', ty0, g1, g2, g3, g4, g5⟩ := hp
  cases h1.symm.trans g1
  exact va_putF (D := D.1) (ci := ci) (v := v) (ty := ty) (C := C) (T := T) (N := N) O.1.1 O.1.2.1 O.1.2.2.2.2 h2 ty0 g2 g3 O.1.2.2.2.1 O.2.1.1 hP hD hS q0 hq h1 k h3 (O.1.2.2.2.2 _ h4) (fun _ h => h) g4 hin (ho _ _ _ h1) g5 hnr hft hk hd (fun H locs hP hD hS => kk H locs ls hP hD hS hl)
theorem g_iald (O : Ok X D A cc nL own Ts ret rm) {a z : Nat} {i : Int} {f : Int → Int} (hd : decode cc pc = .ok (.iaload, 1)) (n : Nat) (hn : pc + 1 = n) (q0 : Nat) (hq : ws[q0]? = some (a, ca D z f)) (hz : z < 2147483648) (hi : 0 ≤ i ∧ i < (z : Int)) (kk : G X D A nL Q cs ss n L (vi (f i) :: st) ws) : G X D A nL Q cs ss pc L (vi i :: .ref a :: st) ws := by
  subst hn; intro H locs ls hP hD hS hl
  refine va_iald O.1.1 O.1.2.1 O.2.1.1 hP q0 0 hq rfl (iI_in hz hi) hd ?_
  rw [iI_cl (by omega) (by omega), show ar f i.toNat = iI (f i) by rw [ar, Int.toNat_of_nonneg hi.1]]
  exact kk H locs ls hP hD hS hl
theorem g_iast (O : Ok X D A cc nL own Ts ret rm) {a z : Nat} {i x : Int} {f : Int → Int} (hd : decode cc pc = .ok (.iastore, 1)) (n : Nat) (hn : pc + 1 = n) (q0 : Nat) (hq : ws[q0]? = some (a, ca D z f)) (hz : z < 2147483648) (hi : 0 ≤ i ∧ i < (z : Int)) (ws' : va_W) (hw : ws.set q0 (a, ca D z (up f i x)) = ws') (kk : G X D A nL Q cs ss n L st ws') : G X D A nL Q cs ss pc L (vi x :: vi i :: .ref a :: st) ws := by
  subst hn; subst hw; intro H locs ls hP hD hS hl
  refine va_iast O.1.1 O.1.2.1 O.2.1.1 hP hD hS q0 0 hq rfl (iI_in hz hi) hd (fun H locs hP hD hS => ?_)
  rw [iI_cl (by omega) (by omega), ar_up f x hi.1] at hP hD
  exact kk H locs ls hP hD hS hl
theorem g_aald (O : Ok X D A cc nL own Ts ret rm) {a z : Nat} {i : Int} {f : Nat → Option Nat} (hd : decode cc pc = .ok (.aaload, 1)) (n : Nat) (hn : pc + 1 = n) (q0 : Nat) (hq : ws[q0]? = some (a, cq D z f)) (hz : z < 2147483648) (hi : 0 ≤ i ∧ i < (z : Int)) (b : Nat) (hb : f i.toNat = some b) (kk : G X D A nL Q cs ss n L (.ref b :: st) ws) : G X D A nL Q cs ss pc L (vi i :: .ref a :: st) ws := by
  subst hn; intro H locs ls hP hD hS hl
  refine va_aldq O.1.1 O.1.2.1 O.2.1.1 hP q0 1 hq rfl (iI_in hz hi) hd ?_
  rw [iI_cl (by omega) (by omega), hb]
  exact kk H locs ls hP hD hS hl
theorem g_aast (O : Ok X D A cc nL own Ts ret rm) {a z : Nat} {i : Int} {f : Nat → Option Nat} {b : Nat} (hd : decode cc pc = .ok (.aastore, 1)) (n : Nat) (hn : pc + 1 = n) (q0 qk : Nat) (hq : ws[q0]? = some (a, cq D z f)) {vs : List Value} (hv : ws[qk]? = some (b, co 3 vs)) (hz : z < 2147483648) (hi : 0 ≤ i ∧ i < (z : Int)) (f' : Nat → Option Nat) (hf : va_up f i.toNat (some b) = f') (ws' : va_W) (hw : ws.set q0 (a, cq D z f') = ws') (kk : G X D A nL Q cs ss n L st ws') : G X D A nL Q cs ss pc L (.ref b :: vi i :: .ref a :: st) ws := by
  subst hn; subst hw; subst hf; intro H locs ls hP hD hS hl
  refine va_astq O.1.1 O.1.2.1 O.2.1.1 hP hD hS q0 1 qk 3 (r := (RX3, TX3, 1)) hq rfl hv rfl (iI_in hz hi) hd (fun H locs hP hD hS => ?_)
  rw [iI_cl (by omega) (by omega)] at hP hD
  exact kk H locs ls hP hD hS hl
/-- the static table -/
theorem g_getsT (O : Ok X D A cc nL own Ts ret rm) {index : Nat} (hd : decode cc pc = .ok (.getstatic index, 3)) (n : Nat) (hn : pc + 3 = n) (hl0 : Cond.fieldLink own index "PopularMatchings$ChallengerSearch" "FILL_OF_POST" "[I" ∈ Ts) (kk : G X D A nL Q cs ss n L (.ref D.2.2.2 :: st) ws) : G X D A nL Q cs ss pc L st ws := by
  subst hn; intro H locs ls hP hD hS hl
  exact va_gets O.1.1 O.1.2.1 O.2.1.2.1 hS O.1.2.2.2.1 (O.1.2.2.2.2 _ hl0) (fun _ h => h) hd (kk H locs ls hP hD hS hl)
theorem g_ialdT (O : Ok X D A cc nL own Ts ret rm) {i : Int} (hd : decode cc pc = .ok (.iaload, 1)) (n : Nat) (hn : pc + 1 = n) (hi : 0 ≤ i ∧ i < 6) (kk : G X D A nL Q cs ss n L (vi (pw3 i) :: st) ws) : G X D A nL Q cs ss pc L (vi i :: .ref D.2.2.2 :: st) ws := by
  subst hn; intro H locs ls hP hD hS hl
  refine va_ti O.1.1 O.1.2.1 O.2.1.2.2.1 hS (iI_in (n := 6) (by decide) (by simpa using hi)) (v := vi (pw3 i)) ?_ hd (kk H locs ls hP hD hS hl)
  show vi (pw3 ((iI i).toNatClampNeg : Int)) = _
  rw [iI_cl (by omega) (by omega), Int.toNat_of_nonneg hi.1]
/-- an array's contents by another function that agrees on its places -/
theorem ca_eq {D : DD} {z : Nat} {f g : Int → Int} (h : ∀ k : Int, 0 ≤ k → k < (z : Int) → f k = g k) : vp_cell D.2.1 (z, .inl (ar f)) = vp_cell D.2.1 (z, .inl (ar g)) := by
  rw [vp_cell_i, vp_cell_i, arrV, arrV]
  congr 1
  apply Array.ext
  · simp
  · intro j h1 h2
    have hj : j < z := by simpa using h1
    simp [ar, h (j : Int) (by omega) (by omega)]
theorem g_arr (q0 : Nat) {a z : Nat} {f : Int → Int} (g : Int → Int) (hq : ws[q0]? = some (a, ca D z f)) (h : ∀ k : Int, 0 ≤ k → k < (z : Int) → f k = g k) (ws' : va_W) (hw : ws.set q0 (a, ca D z g) = ws') (kk : G X D A nL Q cs ss pc L st ws') : G X D A nL Q cs ss pc L st ws := by
  subst hw; intro H locs ls hP hD hS hl
  refine kk H locs ls (hP.set hD hq ?_ (fun _ _ => rfl)) (hD.set hq) hS hl
  show H[a]? = some (vp_cell D.2.1 (z, .inl (ar g)))
  rw [← ca_eq h]
  exact hP q0 _ hq
/-- fewer locals, in any order -/
theorem g_loc {L' : List (Nat × Value)} (ks : List Nat) (hL : lv_pick L ks = L') (kk : G X D A nL Q cs ss pc L' st ws) : G X D A nL Q cs ss pc L st ws := by
  intro H locs ls hP hD hS hl
  exact kk H locs ls hP hD hS (lv_sub hl ks hL)
theorem g_widen (cs' ss' : Nat) (h1 : cs ≤ cs') (h2 : ss ≤ ss') (kk : G X D A nL Q cs' ss' pc L st ws) : G X D A nL Q cs ss pc L st ws := by
  intro H locs ls hP hD hS hl
  exact W.widen h1 h2 (kk H locs ls hP hD hS hl)
theorem g_max (O : Ok X D A cc nL own Ts ret rm) {index : Nat} {a b : Int} (hd : decode cc pc = .ok (.invokestatic index, 3)) (n : Nat) (hn : pc + 3 = n) (h1 : Cond.methodLink own index Lib.Math.max.name ∈ Ts) (h2 : Cond.static Lib.Math.max.name ∈ Ts) (h3 : Cond.initialized "java/lang/Math" ∈ Ts) (h4 : Cond.code Lib.Math.max.name Lib.Math.max.code 2 (some .int) ∈ Ts) (hfr : 1 ≤ rm.frames) (hlo : (st.map fun v => v.category).sum + 13 ≤ rm.locals) (hcs : cs ≤ rm.cells) (hss : ss ≤ rm.slots) (hb : -2147483648 ≤ a ∧ a < 2147483648 ∧ -2147483648 ≤ b ∧ b < 2147483648) (kk : G X D A nL Q cs ss n L (vi (if a < b then b else a) :: st) ws) : G X D A nL Q cs ss pc L (vi b :: vi a :: st) ws := by
  subst hn; intro H locs ls hP hD hS hl
  have hR : X.2.2.2.1 = rm := O.2.2.2.2.2
  exact va_mmax O.1.1 O.1.2.1 (O.1.2.2.1.trans hl.1.symm) O.1.2.2.2.1 (O.1.2.2.2.2 _ h1) (O.1.2.2.2.2 _ h2) (O.1.2.2.2.2 _ h3) (O.1.2.2.2.2 _ h4) (by rw [hR]; exact hfr) (by rw [hR]; exact hlo) (by rw [hR]; exact hcs) (by rw [hR]; exact hss) hd (by rw [iI_max hb]; exact kk H locs ls hP hD hS hl)
theorem g_min (O : Ok X D A cc nL own Ts ret rm) {index : Nat} {a b : Int} (hd : decode cc pc = .ok (.invokestatic index, 3)) (n : Nat) (hn : pc + 3 = n) (h1 : Cond.methodLink own index Lib.Math.min.name ∈ Ts) (h2 : Cond.static Lib.Math.min.name ∈ Ts) (h3 : Cond.initialized "java/lang/Math" ∈ Ts) (h4 : Cond.code Lib.Math.min.name Lib.Math.min.code 2 (some .int) ∈ Ts) (hfr : 1 ≤ rm.frames) (hlo : (st.map fun v => v.category).sum + 13 ≤ rm.locals) (hcs : cs ≤ rm.cells) (hss : ss ≤ rm.slots) (hb : -2147483648 ≤ a ∧ a < 2147483648 ∧ -2147483648 ≤ b ∧ b < 2147483648) (kk : G X D A nL Q cs ss n L (vi (if b < a then b else a) :: st) ws) : G X D A nL Q cs ss pc L (vi b :: vi a :: st) ws := by
  subst hn; intro H locs ls hP hD hS hl
  have hR : X.2.2.2.1 = rm := O.2.2.2.2.2
  exact va_mmin O.1.1 O.1.2.1 (O.1.2.2.1.trans hl.1.symm) O.1.2.2.2.1 (O.1.2.2.2.2 _ h1) (O.1.2.2.2.2 _ h2) (O.1.2.2.2.2 _ h3) (O.1.2.2.2.2 _ h4) (by rw [hR]; exact hfr) (by rw [hR]; exact hlo) (by rw [hR]; exact hcs) (by rw [hR]; exact hss) hd (by rw [iI_min hb]; exact kk H locs ls hP hD hS hl)
theorem g_obj (O : Ok X D A cc nL own Ts ret rm) {index a : Nat} (hd : decode cc pc = .ok (.invokespecial index, 3)) (n : Nat) (hn : pc + 3 = n) (h1 : Cond.methodLink own index objectInit ∈ Ts) (h2 : Cond.instanceMethod objectInit ∈ Ts) (h3 : Cond.code objectInit ⟨#[0xb1]⟩ 1 none ∈ Ts) (hfr : 1 ≤ rm.frames) (hlo : (st.map fun v => v.category).sum + 12 ≤ rm.locals) (kk : G X D A nL Q cs ss n L st ws) : G X D A nL Q cs ss pc L (.ref a :: st) ws := by
  subst hn; intro H locs ls hP hD hS hl
  have hR : X.2.2.2.1 = rm := O.2.2.2.2.2
  refine W.objInit O.1.1 O.1.2.1 O.1.2.2.2.1 (O.1.2.2.2.2 _ h1) (O.1.2.2.2.2 _ h2) (O.1.2.2.2.2 _ h3) rfl (by rw [O.1.2.2.1]; exact hl.1) rfl hd (by rw [hR]; exact hfr) (by rw [hR]; show 2 * 0 + _ + 12 ≤ _; omega) ?_
  exact kk H locs ls hP hD hS hl
end GMem
-- ===== contracts =====
def PB (D : DD) (w0 : va_W) (sz : Nat) (U : State) : Prop := U.heap.size = sz ∧ va_P D.1 vwCl w0 U.heap ∧ KX D (va_A w0 sz) U ∧ va_D (fun _ => True) w0
def QX {S : Type} (D : DD) (A : Nat → Prop) (rv : S → Option Value) (phi : S → Prop) (w1 : S → va_W) : Array Value → State → Outcome → State → Prop :=
  fun _ st oc t => (∃ u : S, oc = .returned (rv u) ∧ phi u ∧ va_P D.1 vwCl (w1 u) t.heap ∧ va_D A (w1 u)) ∧ va_F A st t
def Con {S : Type} (D : DD) (y : MethodName) (wsc : List Cond) (rm : Room) (mc ms : Nat) (av : List Value) (w0 : va_W) (rv : S → Option Value) (phi : S → Prop) (w1 : S → va_W) : Prop :=
  ∀ (l : Launch) (sz : Nat), Met l y wsc rm (va_Pc av (PB D w0 sz)) (QX D (va_A w0 sz) rv phi w1) mc ms (va_A w0 sz)
def RQ {S : Type} (X : CX) (D : DD) (A : Nat → Prop) (rv : S → Option Value) (phi : S → Prop) (w1 : S → va_W) (mc ms : Nat) : State → Prop :=
  MQ X.2.2.2.2.2.2.2.1 (QX D A rv phi w1) X.2.2.2.2.2.2.1 X.2.2.2.2.1 mc ms A
theorem Con.of {S : Type} {D : DD} {y : MethodName} {wsc ws' : List Cond} {rm : Room} {mc ms : Nat} {av : List Value} {w0 : va_W} {rv : S → Option Value} {phi : S → Prop} {w1 : S → va_W} {cc : ByteArray} {nL : Nat} {ret : Option FieldType}
    (hw : wsc = Cond.code y cc nL ret :: ws') (hpl : plainName y.cls = true) (hn : (lg_sl av).length ≤ nL)
    (body : ∀ (X : CX) (A : Nat → Prop) (Q : State → Prop), Ok X D A cc nL y.cls wsc ret rm → Q = RQ X D A rv phi w1 mc ms → X.2.2.2.2.2.2.2.2.1.name = y.name → G X D A nL Q 0 0 0 (lv_args 0 av) [] w0) : Con D y wsc rm mc ms av w0 rv phi w1 := by
  intro l sz
  refine Met.ofW (cc := cc) (maxL := nL) (ret := ret) hpl hw ?_
  intro p e s m args below meth c s₁ B hml hv
  obtain ⟨rfl, hsz, hP, hK, hD0⟩ := hv
  subst hsz
  have hl := lv_entry av hn
  rw [lg_entry_eq]
  have hts := atoms_spec (ws := wsc) B.pre
  refine body (p, l, e, (headSpec wsc rm).room, s, m, av.toArray, below, meth, c) (va_A w0 s.heap.size) _ ⟨⟨B.exec, B.bytes, hml, findClass_of_methodNamed B.named, hts⟩, hK, fun q h => Or.inr h, B.notSynchronized, B.returns, rfl⟩ rfl (name_of_methodNamed B.named B.method).1 s.heap [] _ hP hD0.self va_S.rf hl
section GRet
variable {X : CX} {D : DD} {A : Nat → Prop} {cc : ByteArray} {nL : Nat} {own : String} {Ts : List Cond} {rm : Room} {Q : State → Prop} {cs ss pc : Nat} {L : List (Nat × Value)} {ws : va_W} {S : Type} {rv : S → Option Value} {phi : S → Prop} {w1 : S → va_W} {mc ms : Nat}
theorem g_iret (O : Ok X D A cc nL own Ts (some .int) rm) (hQ : Q = RQ X D A rv phi w1 mc ms) {x : Int} (hd : decode cc pc = .ok (.ireturn, 1)) (u : S) (hv : rv u = some (vi x)) (hw : w1 u = ws) (hp : phi u) (hm : cs ≤ mc ∧ ss ≤ ms) : G X D A nL Q cs ss pc L [vi x] ws := by
  subst hQ; subst hw; intro H locs ls hP hD hS hl
  refine W.widen hm.1 hm.2 ?_
  exact W.iret (v := iI x) O.1.1 O.1.2.1 O.2.2.2.2.1 (fun t ht hW => ⟨⟨u, by rw [hv], hp, by rw [ht]; exact hP, hD⟩, hS.F ht⟩) hS.2.2 hd O.2.2.2.1
theorem g_zret (O : Ok X D A cc nL own Ts (some .boolean) rm) (hQ : Q = RQ X D A rv phi w1 mc ms) {x : Int} (hd : decode cc pc = .ok (.ireturn, 1)) (hx : narrow .boolean (vi x) = vi x) (u : S) (hv : rv u = some (vi x)) (hw : w1 u = ws) (hp : phi u) (hm : cs ≤ mc ∧ ss ≤ ms) : G X D A nL Q cs ss pc L [vi x] ws := by
  subst hQ; subst hw; intro H locs ls hP hD hS hl
  refine W.widen hm.1 hm.2 ?_
  exact W.zret (v := iI x) (ty := .boolean) O.1.1 O.1.2.1 O.2.2.2.2.1 hx (fun t ht hW => ⟨⟨u, by rw [hv], hp, by rw [ht]; exact hP, hD⟩, hS.F ht⟩) hS.2.2 hd O.2.2.2.1
theorem g_vret (O : Ok X D A cc nL own Ts none rm) (hQ : Q = RQ X D A rv phi w1 mc ms) (hd : decode cc pc = .ok (.return_, 1)) (u : S) (hv : rv u = none) (hw : w1 u = ws) (hp : phi u) (hm : cs ≤ mc ∧ ss ≤ ms) : G X D A nL Q cs ss pc L [] ws := by
  subst hQ; subst hw; intro H locs ls hP hD hS hl
  refine W.widen hm.1 hm.2 ?_
  exact W.vret O.1.1 O.1.2.1 O.2.2.2.2.1 (fun t ht hW => ⟨⟨u, by rw [hv], hp, by rw [ht]; exact hP, hD⟩, hS.F ht⟩) hS.2.2 hd O.2.2.2.1
end GRet
-- ===== a callee's world put back into the caller's =====
def wpk : List Nat → va_W → Nat → (Nat × va_E) → (Nat × va_E)
  | [], _, _, q => q
  | _ :: _, [], _, q => q
  | j :: is, x :: w, i, q => cond (Nat.beq j i) x (wpk is w i q)
def wpa (is : List Nat) (w : va_W) : Nat → va_W → va_W
  | _, [] => w.drop is.length
  | i, q :: ws => wpk is w i q :: wpa is w (i + 1) ws
def wput (ws : va_W) (is : List Nat) (w : va_W) : va_W := wpa is w 0 ws
theorem wpk_or : ∀ {is : List Nat} {w : va_W} {i : Nat} {q : Nat × va_E}, is.length ≤ w.length → wpk is w i q ∈ w ∨ (wpk is w i q = q ∧ i ∉ is)
  | [], w, i, q, _ => Or.inr ⟨by cases w <;> rfl, List.not_mem_nil⟩
  | j :: is, [], i, q, h => by simp at h
  | j :: is, x :: w, i, q, h => by
    by_cases e : j = i
    · subst e
      left
      show cond (Nat.beq j j) x _ ∈ _
      rw [Nat.beq_refl]
      exact List.mem_cons_self
    · have hb : Nat.beq j i = false := by
        cases hc : Nat.beq j i with
        | false => rfl
        | true => exact absurd (Nat.eq_of_beq_eq_true hc) e
      have hw : wpk (j :: is) (x :: w) i q = wpk is w i q := by
        show cond (Nat.beq j i) x _ = _
        rw [hb]
        rfl
      rw [hw]
      rcases wpk_or (is := is) (w := w) (i := i) (q := q) (by simpa using h) with h1 | ⟨h1, h2⟩
      · exact Or.inl (List.mem_cons_of_mem _ h1)
      · refine Or.inr ⟨h1, fun z => ?_⟩
        rcases List.mem_cons.mp z with z | z
        · exact e z.symm
        · exact h2 z
theorem wpk_fst : ∀ {is : List Nat} {w : va_W} {i : Nat} {q : Nat × va_E}, (∀ (j : Nat) (x : Nat × va_E), is[j]? = some i → w[j]? = some x → x.1 = q.1) → (wpk is w i q).1 = q.1
  | [], w, i, q, _ => by cases w <;> rfl
  | j :: is, [], i, q, h => rfl
  | j :: is, x :: w, i, q, h => by
    by_cases e : j = i
    · subst e
      show (cond (Nat.beq j j) x _).1 = _
      rw [Nat.beq_refl]
      exact h 0 x rfl rfl
    · have hb : Nat.beq j i = false := by
        cases hc : Nat.beq j i with
        | false => rfl
        | true => exact absurd (Nat.eq_of_beq_eq_true hc) e
      show (cond (Nat.beq j i) x _).1 = _
      rw [hb]
      exact wpk_fst (fun j' x' h1 h2 => h (j' + 1) x' h1 h2)
theorem wpa_mem {is : List Nat} {w : va_W} (hl : is.length ≤ w.length) : ∀ {ws : va_W} {i : Nat} {x : Nat × va_E}, x ∈ wpa is w i ws → x ∈ w ∨ ∃ k, i + k ∉ is ∧ ws[k]? = some x
  | [], i, x, h => Or.inl (List.mem_of_mem_drop h)
  | q :: ws, i, x, h => by
    rcases List.mem_cons.mp (show x ∈ wpk is w i q :: wpa is w (i + 1) ws from h) with h | h
    · rcases wpk_or (is := is) (w := w) (i := i) (q := q) hl with h1 | ⟨h1, h2⟩
      · exact Or.inl (h ▸ h1)
      · exact Or.inr ⟨0, h2, by rw [h, h1]; rfl⟩
    · rcases wpa_mem hl h with h1 | ⟨k, h1, h2⟩
      · exact Or.inl h1
      · exact Or.inr ⟨k + 1, by rwa [show i + (k + 1) = i + 1 + k by omega], h2⟩
theorem wpa_fst {is : List Nat} {w : va_W} : ∀ {ws : va_W} {i : Nat}, (∀ (k : Nat) (q : Nat × va_E), ws[k]? = some q → ∀ (j : Nat) (x : Nat × va_E), is[j]? = some (i + k) → w[j]? = some x → x.1 = q.1) → (wpa is w i ws).map (·.1) = ws.map (·.1) ++ (w.drop is.length).map (·.1)
  | [], i, _ => rfl
  | q :: ws, i, h => by
    show (wpk is w i q).1 :: (wpa is w (i + 1) ws).map (·.1) = q.1 :: (ws.map (·.1) ++ (w.drop is.length).map (·.1))
    rw [show (wpk is w i q).1 = q.1 from wpk_fst (h 0 q rfl), wpa_fst (fun k q' h1 j x h2 h3 => h (k + 1) q' h1 j x (by rw [h2]; congr 1; omega) h3)]
theorem wput_mem {is : List Nat} {ws w : va_W} {q : Nat × va_E} (hl : is.length ≤ w.length) (h : q ∈ wput ws is w) : q ∈ w ∨ ∃ k, k ∉ is ∧ ws[k]? = some q := by
  rcases wpa_mem hl h with h | ⟨k, h1, h2⟩
  · exact Or.inl h
  · exact Or.inr ⟨k, by simpa using h1, h2⟩
theorem wput_fst {is : List Nat} {ws w : va_W} (h : ∀ (j i : Nat) (x q : Nat × va_E), is[j]? = some i → w[j]? = some x → ws[i]? = some q → x.1 = q.1) : (wput ws is w).map (·.1) = ws.map (·.1) ++ (w.drop is.length).map (·.1) :=
  wpa_fst (fun k q h1 j x h2 h3 => h j k x q (by rw [h2]; congr 1; omega) h3 h1)
def aD (A : Nat → Prop) (l : List Nat) : Prop := (∀ i j a : Nat, l[i]? = some a → l[j]? = some a → i = j) ∧ ∀ a ∈ l, A a
theorem va_D_aD {A : Nat → Prop} {ws : va_W} : va_D A ws ↔ aD A (ws.map (·.1)) := by
  constructor
  · intro h
    refine ⟨fun i j a hi hj => ?_, fun a ha => ?_⟩
    · rw [List.getElem?_map] at hi hj
      cases h1 : ws[i]? with
      | none => rw [h1] at hi; cases hi
      | some x =>
        cases h2 : ws[j]? with
        | none => rw [h2] at hj; cases hj
        | some y =>
          rw [h1] at hi; rw [h2] at hj
          exact h.1 i j x y h1 h2 ((Option.some.inj hi).trans (Option.some.inj hj).symm)
    · obtain ⟨x, hx, rfl⟩ := List.mem_map.mp ha
      obtain ⟨k, hk⟩ := List.getElem?_of_mem hx
      exact h.2 k x hk
  · intro h
    refine ⟨fun i j x y hi hj hxy => h.1 i j x.1 (by rw [List.getElem?_map, hi]; rfl) (by rw [List.getElem?_map, hj, hxy]; rfl), fun k x hk => h.2 x.1 (List.mem_map.mpr ⟨x, List.mem_of_getElem? hk, rfl⟩)⟩
theorem map_some_at {is : List Nat} {ws wc : va_W} (h : is.map (fun i => ws[i]?) = wc.map some) {j : Nat} {q : Nat × va_E} (hq : wc[j]? = some q) : ∃ i, is[j]? = some i ∧ ws[i]? = some q := by
  have h1 : (is.map (fun i => ws[i]?))[j]? = some (some q) := by rw [h, List.getElem?_map, hq]; rfl
  rw [List.getElem?_map] at h1
  cases hi : is[j]? with
  | none => rw [hi] at h1; cases h1
  | some i => rw [hi] at h1; exact ⟨i, rfl, Option.some.inj h1⟩
theorem map_some_at' {is : List Nat} {ws wc : va_W} (h : is.map (fun i => ws[i]?) = wc.map some) {j i : Nat} (hi : is[j]? = some i) : ∃ q, wc[j]? = some q ∧ ws[i]? = some q := by
  have h1 : (wc.map some)[j]? = some (ws[i]?) := by rw [← h, List.getElem?_map, hi]; rfl
  rw [List.getElem?_map] at h1
  cases hq : wc[j]? with
  | none => rw [hq] at h1; cases h1
  | some q => rw [hq] at h1; exact ⟨q, rfl, (Option.some.inj h1).symm⟩
/-- behind a call: the callee's cells are put back in their places, its new cells behind all -/
theorem w_join {A : Nat → Prop} {D : DD} {ws wc w1 : va_W} {H H1 : Heap} (hP : va_P D.1 vwCl ws H) (hD : va_D A ws) (is : List Nat) (hC : is.map (fun i => ws[i]?) = wc.map some) (hs : (w1.map (·.1)).take wc.length = wc.map (·.1))
    (hk : ∀ q : Nat, q < H.size → ¬ va_A wc H.size q → H1[q]? = H[q]?) (hF : ∀ q, va_A wc H.size q → A q) (hP1 : va_P D.1 vwCl w1 H1) (hD1 : va_D (va_A wc H.size) w1) : va_P D.1 vwCl (wput ws is w1) H1 ∧ va_D A (wput ws is w1) := by
  have hlen : is.length = wc.length := by simpa using congrArg List.length hC
  have hlen1 : wc.length ≤ w1.length := by
    have h := congrArg List.length hs
    simp at h
    omega
  have hfst : ∀ (j : Nat) (q x : Nat × va_E), wc[j]? = some q → w1[j]? = some x → x.1 = q.1 := by
    intro j q x hq hx
    have hj : j < wc.length := (List.getElem?_eq_some_iff.mp hq).1
    have h1 : ((w1.map (·.1)).take wc.length)[j]? = some x.1 := by
      rw [List.getElem?_take, if_pos hj, List.getElem?_map, hx]; rfl
    rw [hs, List.getElem?_map, hq] at h1
    exact (Option.some.inj h1).symm
  constructor
  · intro k q hq
    rcases wput_mem (by omega) (List.mem_of_getElem? hq) with h | ⟨k', hnot, h⟩
    · obtain ⟨j, hj⟩ := List.getElem?_of_mem h
      exact hP1 j q hj
    · have hl := (hP k' q h).lt
      refine (hP k' q h).kept (hk q.1 hl (fun z => ?_))
      rcases z with ⟨j, e, hj⟩ | z
      · obtain ⟨i, hi, hwi⟩ := map_some_at hC hj
        have := hD.1 k' i q (q.1, e) h hwi rfl
        exact hnot (this ▸ List.mem_of_getElem? hi)
      · omega
  · rw [va_D_aD, wput_fst (fun j i x q' hj hx hq' => by
      obtain ⟨q, hq, hwq⟩ := map_some_at' hC hj
      rw [hwq] at hq'
      rw [← Option.some.inj hq']
      exact hfst j q x hq hx)]
    have hDa := va_D_aD.mp hD
    have hD1a := va_D_aD.mp hD1
    have hnew : ∀ j a : Nat, ((w1.drop is.length).map (·.1))[j]? = some a → (w1.map (·.1))[is.length + j]? = some a := by
      intro j a h
      rw [List.getElem?_map, List.getElem?_drop] at h
      rw [List.getElem?_map]
      exact h
    have hnew2 : ∀ j a : Nat, ((w1.drop is.length).map (·.1))[j]? = some a → H.size ≤ a := by
      intro j a h
      have h2 := hnew j a h
      rcases hD1a.2 a (List.mem_of_getElem? h2) with ⟨k, e, hk'⟩ | z
      · have hkl : k < wc.length := (List.getElem?_eq_some_iff.mp hk').1
        have h3 : ((w1.map (·.1)).take wc.length)[k]? = some a := by rw [hs, List.getElem?_map, hk']; rfl
        rw [List.getElem?_take, if_pos hkl] at h3
        have := hD1a.1 _ _ a h2 h3
        omega
      · exact z
    have hold : ∀ j a : Nat, (ws.map (·.1))[j]? = some a → a < H.size := by
      intro j a h
      rw [List.getElem?_map] at h
      cases hq : ws[j]? with
      | none => rw [hq] at h; cases h
      | some q =>
        rw [hq] at h
        have := (hP j q hq).lt
        cases h
        exact this
    refine ⟨fun i j a hi hj => ?_, fun a ha => ?_⟩
    · rcases Nat.lt_or_ge i (ws.map (·.1)).length with li | li <;> rcases Nat.lt_or_ge j (ws.map (·.1)).length with lj | lj
      · rw [List.getElem?_append_left li] at hi
        rw [List.getElem?_append_left lj] at hj
        exact hDa.1 i j a hi hj
      · rw [List.getElem?_append_left li] at hi
        rw [List.getElem?_append_right lj] at hj
        have := hold _ _ hi
        have := hnew2 _ _ hj
        omega
      · rw [List.getElem?_append_right li] at hi
        rw [List.getElem?_append_left lj] at hj
        have := hold _ _ hj
        have := hnew2 _ _ hi
        omega
      · rw [List.getElem?_append_right li] at hi
        rw [List.getElem?_append_right lj] at hj
        have := hD1a.1 _ _ a (hnew _ _ hi) (hnew _ _ hj)
        omega
    · rcases List.mem_append.mp ha with h | h
      · exact hDa.2 a h
      · obtain ⟨j, hj⟩ := List.getElem?_of_mem h
        exact hF a (Or.inr (hnew2 j a hj))
section GCall
variable {X : CX} {D : DD} {A : Nat → Prop} {cc : ByteArray} {nL : Nat} {own : String} {Ts : List Cond} {ret : Option FieldType} {rm : Room} {Q : State → Prop} {cs ss pc : Nat} {L : List (Nat × Value)} {ws : va_W} {S : Type} {rv : S → Option Value} {phi : S → Prop} {w1 : S → va_W} {mc ms : Nat}
variable {y : MethodName} {wsc wsc' : List Cond} {rmc : Room} {bytes : ByteArray} {maxL na index : Nat} {retc : Option FieldType} {wc : va_W} {As rest st0 : List Value}
theorem g_run {av : List Value} (O : Ok X D A cc nL own Ts ret rm) (is : List Nat) (hnd : va_nd is = true) (hC : is.map (fun i => ws[i]?) = wc.map some) (hs : ∀ u, ((w1 u).map (·.1)).take wc.length = wc.map (·.1))
    (ws1 : S → va_W) (hws : ∀ u, wput ws is (w1 u) = ws1 u) (n : Nat) (hn : pc + 3 = n)
    (run : ∀ (H : Heap) (locs : List Loc) (ls : Array Slot), lv_has ls nL L → va_P D.1 vwCl ws H → FrameBlind (va_Pc av (PB D wc H.size)) → (∀ U : State, U.heap = H → X.2.2.2.2.1.WarmedH U.vm → va_Pc av (PB D wc H.size) av.toArray U) → va_Run X.1 X.2.1 X.2.2.1 X.2.2.2.1 X.2.2.2.2.1 X.2.2.2.2.2.1 X.2.2.2.2.2.2.1 X.2.2.2.2.2.2.2.1 X.2.2.2.2.2.2.2.2.1 X.2.2.2.2.2.2.2.2.2 H locs cs ss mc ms (F0 X.2.2.2.2.2.1 pc ls st0) rest (QX D (va_A wc H.size) rv phi w1 av.toArray) (va_A wc H.size))
    (kk : ∀ u, phi u → G X D A nL Q (cs + mc) (ss + ms) n L ((rv u).toList ++ rest) (ws1 u)) : G X D A nL Q cs ss pc L st0 ws := by
  subst hn
  intro H locs ls hP hD hS hl
  have hF : ∀ q, va_A wc H.size q → A q := va_free hD hS O.2.2.1 is hC
  have hPc : va_P D.1 vwCl wc H := by
    intro k q hk
    obtain ⟨i, -, hi⟩ := map_some_at hC hk
    exact hP i q hi
  have hDc : va_D (fun _ => True) wc := (hD.sub is hnd hC).weaken (fun _ _ _ _ => trivial)
  intro T hT XX
  obtain ⟨v, st₀, t, T', L', h0, X', hL, e1, e2, ⟨⟨u, hv, hp, hP1, hD1⟩, hz, hk⟩, st⟩ := run H locs ls hl hP (fun a U g mk q => by
      obtain ⟨q0, q1, qP, qK, qD⟩ := q
      exact ⟨q0, q1, qP, qK.call, qD⟩) (fun U hU hW => ⟨rfl, by rw [hU], by rw [hU]; exact hPc, O.2.1.pass hS hU hW hF, hDc⟩) T hT XX
  cases hv
  rw [h0] at hz hk
  obtain ⟨hP2, hD2⟩ := w_join hP hD is hC (hs u) hk hF hP1 hD1
  rw [hws u] at hP2 hD2
  obtain ⟨t2, a1, b1⟩ := kk u hp T'.heap (locs ++ L') ls (by rw [e1]; exact hP2) hD2
    ⟨Nat.le_trans hS.1 (by rw [e1]; exact hz), fun q h1 h2 => by rw [e1, hk q (Nat.lt_of_lt_of_le h1 hS.1) (fun z => h2 (hF q z))]; exact hS.2.1 q h1 h2, fun q hq => by
      rcases List.mem_append.mp hq with h | h
      · exact hS.2.2 q h
      · exact hF _ (hL q h)⟩ hl T' rfl X'
  exact ⟨t2, st t2 a1, b1⟩
theorem g_callV {b q0 ci N : Nat} {fs : List Value} {C : String} {T : u_T} (O : Ok X D A cc nL own Ts ret rm) (hM : Con D y wsc rmc mc ms (.ref b :: As) wc rv phi w1) (hd : decode cc pc = .ok (.invokevirtual index, 3)) (hG : GoodIn Ts (wsV own index C y wsc)) (hw : wsc = Cond.code y bytes maxL retc :: wsc') (hrc : rmc.cells = mc ∧ rmc.slots = ms)
    (hdd : y.cls = C ∧ y.cls ≠ "java/lang/invoke/MethodHandle" ∧ y.cls ≠ "java/lang/invoke/VarHandle" ∧ (parseMethodDescriptor y.desc).map (fun d => d.parameters.length) = some na) (hna : As.length = na) (hR : rmc.frames + 1 ≤ rm.frames ∧ 8 + (maxL + 11) + rmc.locals ≤ rm.locals) (hf : cs + mc ≤ rm.cells ∧ ss + ms ≤ rm.slots)
    (hst : st0 = As.reverse ++ .ref b :: rest) (hrest : (rest.map fun v => v.category).sum ≤ 8) (hq : ws[q0]? = some (b, co ci fs)) (hc : vwCl[ci]? = some (C, T, N)) (is : List Nat) (hnd : va_nd is = true) (hC : is.map (fun i => ws[i]?) = wc.map some) (hs : ∀ u, ((w1 u).map (·.1)).take wc.length = wc.map (·.1))
    (ws1 : S → va_W) (hws : ∀ u, wput ws is (w1 u) = ws1 u) (n : Nat) (hn : pc + 3 = n)
    (kk : ∀ u, phi u → G X D A nL Q (cs + mc) (ss + ms) n L ((rv u).toList ++ rest) (ws1 u)) : G X D A nL Q cs ss pc L st0 ws := by
  have hRR : X.2.2.2.1 = rm := O.2.2.2.2.2
  refine g_run (av := .ref b :: As) O is hnd hC hs ws1 hws n hn (fun H locs ls hl hP hB hU => ?_) kk
  exact va_runV (As := As) (rest := rest) O.1 (hM X.2.1 H.size) (cwV na O.1.2.2.2.2 hG hw hrc.1 hrc.2 hdd (by rw [hRR]; exact hR)) ⟨hB, va_recv O.2.1.1 hP hc hq, hU⟩ rfl hna hl.1 hst (lv_room hrest) hd (by rw [hRR]; exact hf)
theorem g_callS (O : Ok X D A cc nL own Ts ret rm) (hM : Con D y wsc rmc mc ms As wc rv phi w1) (hd : decode cc pc = .ok (.invokestatic index, 3)) (hG : GoodIn Ts (va_wsS own index y wsc)) (hw : wsc = Cond.code y bytes maxL retc :: wsc') (hrc : rmc.cells = mc ∧ rmc.slots = ms)
    (hdd : y.cls ≠ "java/lang/invoke/MethodHandle" ∧ y.cls ≠ "java/lang/invoke/VarHandle" ∧ (parseMethodDescriptor y.desc).map (fun d => d.parameters.length) = some na) (hna : As.length = na) (hR : rmc.frames + 1 ≤ rm.frames ∧ 8 + (maxL + 11) + rmc.locals ≤ rm.locals) (hf : cs + mc ≤ rm.cells ∧ ss + ms ≤ rm.slots)
    (hst : st0 = As.reverse ++ rest) (hrest : (rest.map fun v => v.category).sum ≤ 8) (is : List Nat) (hnd : va_nd is = true) (hC : is.map (fun i => ws[i]?) = wc.map some) (hs : ∀ u, ((w1 u).map (·.1)).take wc.length = wc.map (·.1))
    (ws1 : S → va_W) (hws : ∀ u, wput ws is (w1 u) = ws1 u) (n : Nat) (hn : pc + 3 = n)
    (kk : ∀ u, phi u → G X D A nL Q (cs + mc) (ss + ms) n L ((rv u).toList ++ rest) (ws1 u)) : G X D A nL Q cs ss pc L st0 ws := by
  have hRR : X.2.2.2.1 = rm := O.2.2.2.2.2
  refine g_run (av := As) O is hnd hC hs ws1 hws n hn (fun H locs ls hl hP hB hU => ?_) kk
  exact va_runS (As := As) (rest := rest) O.1 (hM X.2.1 H.size) (va_cwS na O.1.2.2.2.2 hG hw hrc.1 hrc.2 hdd (by rw [hRR]; exact hR)) ⟨hB, hU⟩ rfl hna hl.1 hst (lv_room hrest) hd (by rw [hRR]; exact hf)
theorem g_callI {b : Nat} (O : Ok X D A cc nL own Ts ret rm) (hM : Con D y wsc rmc mc ms (.ref b :: As) wc rv phi w1) (hd : decode cc pc = .ok (.invokespecial index, 3)) (hG : GoodIn Ts wsc) (hw : wsc = Cond.code y bytes maxL none :: wsc') (hrc : rmc.cells = mc ∧ rmc.slots = ms) (hi1 : Cond.initialized y.cls ∈ Ts) (hi2 : Cond.methodLink own index y ∈ Ts) (hi3 : Cond.instanceMethod y ∈ Ts) (hy : y.name = "<init>")
    (hdd : y.cls ≠ "java/lang/invoke/MethodHandle" ∧ y.cls ≠ "java/lang/invoke/VarHandle" ∧ (parseMethodDescriptor y.desc).map (fun d => d.parameters.length) = some na) (hna : As.length = na) (hR : rmc.frames + 1 ≤ rm.frames ∧ 8 + (maxL + 11) + rmc.locals ≤ rm.locals) (hf : cs + mc ≤ rm.cells ∧ ss + ms ≤ rm.slots)
    (hst : st0 = As.reverse ++ .ref b :: rest) (hrest : (rest.map fun v => v.category).sum ≤ 8) (is : List Nat) (hnd : va_nd is = true) (hC : is.map (fun i => ws[i]?) = wc.map some) (hs : ∀ u, ((w1 u).map (·.1)).take wc.length = wc.map (·.1))
    (ws1 : S → va_W) (hws : ∀ u, wput ws is (w1 u) = ws1 u) (n : Nat) (hn : pc + 3 = n)
    (kk : ∀ u, phi u → G X D A nL Q (cs + mc) (ss + ms) n L ((rv u).toList ++ rest) (ws1 u)) : G X D A nL Q cs ss pc L st0 ws := by
  have hRR : X.2.2.2.1 = rm := O.2.2.2.2.2
  refine g_run (av := .ref b :: As) O is hnd hC hs ws1 hws n hn (fun H locs ls hl hP hB hU => ?_) kk
  exact va_runI (As := As) (rest := rest) O.1 (hM X.2.1 H.size) (cwI na O.1.2.2.2.2 hG hw hrc.1 hrc.2 (O.1.2.2.2.2 _ hi1) (O.1.2.2.2.2 _ hi2) (O.1.2.2.2.2 _ hi3) hy hdd (by rw [hRR]; exact hR)) ⟨hB, hU⟩ rfl hna hl.1 hst (lv_room hrest) hd (by rw [hRR]; exact hf)
/-- the nest mate's private constructor -/
theorem g_callN {b : Nat} {own' : String} (ho : own = own') (O : Ok X D A cc nL own Ts ret rm) (hM : Con D y wsc rmc mc ms (.ref b :: As) wc rv phi w1) (hd : decode cc pc = .ok (.invokespecial index, 3)) (hl0 : va_Nw (.methodLinkNest own' index y "PopularMatchings") X.2.2.2.2.1) (hG : GoodIn Ts wsc) (hw : wsc = Cond.code y bytes maxL none :: wsc') (hrc : rmc.cells = mc ∧ rmc.slots = ms) (hi1 : Cond.initialized y.cls ∈ Ts) (hi3 : Cond.instanceMethod y ∈ Ts) (hy : y.name = "<init>")
    (hdd : y.cls ≠ "java/lang/invoke/MethodHandle" ∧ y.cls ≠ "java/lang/invoke/VarHandle" ∧ (parseMethodDescriptor y.desc).map (fun d => d.parameters.length) = some na) (hna : As.length = na) (hR : rmc.frames + 1 ≤ rm.frames ∧ 8 + (maxL + 11) + rmc.locals ≤ rm.locals) (hf : cs + mc ≤ rm.cells ∧ ss + ms ≤ rm.slots)
    (hst : st0 = As.reverse ++ .ref b :: rest) (hrest : (rest.map fun v => v.category).sum ≤ 8) (is : List Nat) (hnd : va_nd is = true) (hC : is.map (fun i => ws[i]?) = wc.map some) (hs : ∀ u, ((w1 u).map (·.1)).take wc.length = wc.map (·.1))
    (ws1 : S → va_W) (hws : ∀ u, wput ws is (w1 u) = ws1 u) (n : Nat) (hn : pc + 3 = n)
    (kk : ∀ u, phi u → G X D A nL Q (cs + mc) (ss + ms) n L ((rv u).toList ++ rest) (ws1 u)) : G X D A nL Q cs ss pc L st0 ws := by
  subst ho
  have hRR : X.2.2.2.1 = rm := O.2.2.2.2.2
  refine g_run (av := .ref b :: As) O is hnd hC hs ws1 hws n hn (fun H locs ls hl hP hB hU => ?_) kk
  exact va_runIN (As := As) (rest := rest) O.1 (hM X.2.1 H.size) ⟨va_cnB na O.1.2.2.2.2 hG hw hrc.1 hrc.2 hl0 (O.1.2.2.2.2 _ hi1) hdd (by rw [hRR]; exact hR), hy, O.1.2.2.2.2 _ hi3⟩ ⟨hB, hU⟩ rfl hna hl.1 hst (lv_room hrest) hd (by rw [hRR]; exact hf)
/-- a new object; its cell stands behind all -/
theorem g_new (O : Ok X D A cc nL own Ts ret rm) {C : String} {T : u_T} {N ci : Nat} (ty : Nat → FieldType) (hd : decode cc pc = .ok (.new index, 3)) (hin : ∀ w ∈ u_ws C T N, w ∈ Ts) (hty : ∀ k, k < N → parseFieldDescriptor (T k).2.2.1 = some (ty k)) (h1 : Cond.classLink own index C ∈ Ts) (h2 : Cond.instantiable C N ∈ Ts) (h3 : Cond.initialized C ∈ Ts) (hc : vwCl[ci]? = some (C, T, N)) (fs : List Value) (hfs : ∀ j, j < N → defaultValue (ty j) = vp_V fs j) (hcs : cs + 1 ≤ rm.cells) (hss : ss + N ≤ rm.slots) (n : Nat) (hn : pc + 3 = n)
    (kk : ∀ q : Nat, G X D A nL Q (cs + 1) (ss + N) n L (.ref q :: rest) (ws ++ [(q, co ci fs)])) : G X D A nL Q cs ss pc L rest ws := by
  have hRR : X.2.2.2.1 = rm := O.2.2.2.2.2
  subst hn; intro H locs ls hP hD hS hl
  exact va_new (ci := ci) (fs := fs) (C := C) (T := T) (N := N) O.1.1 O.1.2.1 O.1.2.2.2.2 hin ty hty O.1.2.2.2.1 (O.1.2.2.2.2 _ h1) (O.1.2.2.2.2 _ h2) (O.1.2.2.2.2 _ h3) O.2.1.1 hP hD hS O.2.2.1 hc hfs (by rw [hRR]; exact hcs) (by rw [hRR]; exact hss) hd (fun q H1 hP1 hD1 hS1 => kk q H1 locs ls hP1 hD1 hS1 hl)
/-- a new int[] -/
theorem g_newa (O : Ok X D A cc nL own Ts ret rm) {z : Int} (hd : decode cc pc = .ok (.newarray .int, 2)) (h1 : Cond.arrayClass .int ∈ Ts) (N : Nat) (hz : z = (N : Int) ∧ N ≤ 100000) (hcs : cs + 1 ≤ rm.cells) (hss : ss + N ≤ rm.slots) (n : Nat) (hn : pc + 2 = n)
    (kk : ∀ q : Nat, G X D A nL Q (cs + 1) (ss + N) n L (.ref q :: rest) (ws ++ [(q, ca D N (fun _ => 0))])) : G X D A nL Q cs ss pc L (vi z :: rest) ws := by
  have hRR : X.2.2.2.1 = rm := O.2.2.2.2.2
  subst hn; intro H locs ls hP hD hS hl
  obtain ⟨rfl, hN⟩ := hz
  refine va_newa (atype := .int) (ty := .int) (N' := N) (a0 := (N, .inl (ar (fun _ => 0)))) O.1.1 O.1.2.1 (O.1.2.2.2.2 _ h1) rfl O.2.1.1 hP hD hS O.2.2.1 (fun cA => by rw [vp_cell_i]; rfl) (fun q => by rw [← iI_zero, iI_lt (by omega)] at q; omega) (by rw [iI_cl (by omega) (by omega)]; omega) (by show N * 4 ≤ _; omega) (by rw [hRR]; exact hcs) (by rw [hRR]; exact hss) hd (fun q cA H1 hK1 hP1 hD1 hS1 => ?_)
  have e : cA = D.2.1 := by
    have a1 := (hK1.2 2 (cA, .int) rfl).2
    have a2 := (O.2.1.1.2 0 (D.2.1, .int) rfl).2
    exact Option.some.inj (a1.symm.trans a2)
  subst e
  exact kk q H1 locs ls hP1 hD1 hS1 hl
/-- a new Matching[] -/
theorem g_newq (O : Ok X D A cc nL own Ts ret rm) {z : Int} (hd : decode cc pc = .ok (.anewarray index, 3)) (h1 : Cond.classLink own index "PopularMatchings$Matching" ∈ Ts) (N : Nat) (hz : z = (N : Int) ∧ N ≤ 100000) (hcs : cs + 1 ≤ rm.cells) (hss : ss + N ≤ rm.slots) (n : Nat) (hn : pc + 3 = n)
    (kk : ∀ q : Nat, G X D A nL Q (cs + 1) (ss + N) n L (.ref q :: rest) (ws ++ [(q, cq D N (fun _ => none))])) : G X D A nL Q cs ss pc L (vi z :: rest) ws := by
  have hRR : X.2.2.2.1 = rm := O.2.2.2.2.2
  subst hn; intro H locs ls hP hD hS hl
  obtain ⟨rfl, hN⟩ := hz
  refine va_newq (N' := N) O.1.1 O.1.2.1 O.1.2.2.2.1 (O.1.2.2.2.2 _ h1) O.2.1.2.2.2.1 O.2.1.1 hP hD hS O.2.2.1 (fun q => by rw [← iI_zero, iI_lt (by omega)] at q; omega) (by rw [iI_cl (by omega) (by omega)]; omega) (by omega) (by rw [hRR]; exact hcs) (by rw [hRR]; exact hss) hd (fun q cA H1 hK1 hP1 hD1 hS1 => ?_)
  have e : cA = D.2.2.1 := by
    obtain ⟨-, -, -, -, -, a1⟩ := (hK1.2 2 (cA, .object "PopularMatchings$Matching") rfl).2
    obtain ⟨-, -, -, -, -, a2⟩ := (O.2.1.1.2 1 (D.2.2.1, .object "PopularMatchings$Matching") rfl).2
    exact Option.some.inj (a1.symm.trans a2)
  subst e
  exact kk q H1 locs ls hP1 hD1 hS1 hl
end GCall
section GMore
variable {X : CX} {D : DD} {A : Nat → Prop} {nL : Nat} {Q : State → Prop} {cs ss pc : Nat} {L : List (Nat × Value)} {st : List Value} {ws : va_W}
theorem g_top {x : Int} (kk : ∀ y : Int, y = x → G X D A nL Q cs ss pc L (vi y :: st) ws) : G X D A nL Q cs ss pc L (vi x :: st) ws := kk x rfl
theorem g_q0 {a z : Nat} (q0 : Nat) (hq : ws[q0]? = some (a, cq D z (fun _ => none))) (g : Nat → Option Nat) (ws' : va_W) (hg : g = fun _ => none) (hw : ws.set q0 (a, cq D z g) = ws') (kk : G X D A nL Q cs ss pc L st ws') : G X D A nL Q cs ss pc L st ws := by
  subst hw; subst hg; intro H locs ls hP hD hS hl
  exact kk H locs ls (hP.set hD hq (hP q0 _ hq) (fun _ _ => rfl)) (hD.set hq) hS hl
end GMore
theorem vi_eq {a b : Int} (h : a = b) : some (vi a) = some (vi b) := by rw [h]
/-- a row of addresses -/
def qf (l : List (Option Nat)) : Nat → Option Nat := fun j => (l[j]?).join
theorem qf_none (n : Nat) : qf (List.replicate n none) = fun _ => none := by
  funext j
  unfold qf
  by_cases h : j < n
  · simp [h]
  · simp [h]
theorem qf_up (l : List (Option Nat)) (i : Nat) (b : Nat) (l' : List (Option Nat)) (h : (decide (i < l.length), l.set i (some b)) = (true, l')) : va_up (qf l) i (some b) = qf l' := by
  have h1 := congrArg Prod.fst h
  have h2 := congrArg Prod.snd h
  simp at h1 h2
  subst h2
  funext j
  by_cases e : j = i
  · subst e
    simp [va_up, qf, h1]
  · simp [va_up, qf, e, Ne.symm e]
theorem g_cv {X : CX} {D : DD} {A : Nat → Prop} {nL : Nat} {Q : State → Prop} {cs ss pc : Nat} {L : List (Nat × Value)} {st : List Value} {ws : va_W} {x y : Int} (h : x = y) (kk : G X D A nL Q cs ss pc L (vi y :: st) ws) : G X D A nL Q cs ss pc L (vi x :: st) ws := by rw [h]; exact kk
/-- the same cells in another order -/
theorem g_ws {X : CX} {D : DD} {A : Nat → Prop} {nL : Nat} {Q : State → Prop} {cs ss pc : Nat} {L : List (Nat × Value)} {st : List Value} {ws ws' : va_W} (is : List Nat) (hn : va_nd is = true) (h : is.map (fun i => ws[i]?) = ws'.map some) (kk : G X D A nL Q cs ss pc L st ws') : G X D A nL Q cs ss pc L st ws := by
  intro H locs ls hP hD hS hl
  refine kk H locs ls (fun k q hk => ?_) (hD.sub is hn h) hS hl
  obtain ⟨i, -, hi⟩ := map_some_at h hk
  exact hP i q hi
end
section
-- ===== 04 pure: what the methods compute, over Int =====
/-- the least place below n at which g is p, or n -/
def fnd (g : Int → Int) (p : Int) : Nat → Nat
  | 0 => 0
  | n + 1 => if fnd g p n < n then fnd g p n else if g (n : Int) = p then n else n + 1
theorem fnd_le (g : Int → Int) (p : Int) : ∀ n, fnd g p n ≤ n
  | 0 => Nat.le_refl 0
  | n + 1 => by
    have := fnd_le g p n
    unfold fnd
    split
    · omega
    · split <;> omega
theorem fnd_ne (g : Int → Int) (p : Int) : ∀ (n k : Nat), k < fnd g p n → g (k : Int) ≠ p
  | 0, k, h => absurd h (Nat.not_lt_zero k)
  | n + 1, k, h => by
    have hl := fnd_le g p n
    unfold fnd at h
    split at h
    · exact fnd_ne g p n k h
    · split at h
      · exact fnd_ne g p n k (by omega)
      · rcases Nat.lt_or_ge k n with q | q
        · exact fnd_ne g p n k (by omega)
        · have e : k = n := by omega
          subst e
          assumption
theorem fnd_at (g : Int → Int) (p : Int) : ∀ n : Nat, fnd g p n < n → g (fnd g p n : Int) = p
  | 0, h => absurd h (Nat.not_lt_zero _)
  | n + 1, h => by
    unfold fnd at h ⊢
    split at h
    · rename_i c
      rw [if_pos c]
      exact fnd_at g p n c
    · rename_i c
      rw [if_neg c]
      split at h
      · rename_i c2
        rw [if_pos c2]
        exact c2
      · omega
def rk (g : Int → Int) (p n : Int) : Int := (fnd g p n.toNat : Int)
theorem rk_le (g : Int → Int) (p : Int) {n : Int} (hn : 0 ≤ n) : 0 ≤ rk g p n ∧ rk g p n ≤ n := by
  have := fnd_le g p n.toNat
  unfold rk
  omega
theorem rk_ne {g : Int → Int} {p n k : Int} (h0 : 0 ≤ k) (h : k < rk g p n) : g k ≠ p := by
  have := fnd_ne g p n.toNat k.toNat (by unfold rk at h; omega)
  rwa [Int.toNat_of_nonneg h0] at this
theorem rk_at {g : Int → Int} {p n : Int} (hn : 0 ≤ n) (h : rk g p n < n) : g (rk g p n) = p := fnd_at g p n.toNat (by unfold rk at h; omega)
theorem rk_uniq {g : Int → Int} {p n r : Int} (h0 : 0 ≤ r) (h1 : r ≤ n) (h2 : ∀ k, 0 ≤ k → k < r → g k ≠ p) (h3 : r < n → g r = p) : r = rk g p n := by
  have hl := rk_le g p (n := n) (by omega)
  rcases Int.lt_trichotomy r (rk g p n) with q | q | q
  · exact absurd (h3 (by omega)) (rk_ne h0 q)
  · exact q
  · exact absurd (rk_at (by omega) (by omega)) (h2 _ hl.1 q)
/-- a list's place -/
def row (lst : Int → Int) (a k : Int) : Int := lst (a * 5 + k)
/-- sums -/
def smN (g : Int → Int) : Nat → Int
  | 0 => 0
  | n + 1 => smN g n + g (n : Int)
def sm (g : Int → Int) (i : Int) : Int := smN g i.toNat
theorem sm_0 (g : Int → Int) : sm g 0 = 0 := rfl
theorem sm_s (g : Int → Int) {i : Int} (h : 0 ≤ i) : sm g (i + 1) = sm g i + g i := by
  unfold sm
  rw [show (i + 1).toNat = i.toNat + 1 by omega]
  show smN g i.toNat + g (i.toNat : Int) = _
  rw [Int.toNat_of_nonneg h]
theorem smN_congr {g h : Int → Int} : ∀ n : Nat, (∀ k : Nat, k < n → g (k : Int) = h (k : Int)) → smN g n = smN h n
  | 0, _ => rfl
  | n + 1, e => by
    show smN g n + _ = smN h n + _
    rw [smN_congr n (fun k hk => e k (by omega)), e n (by omega)]
theorem sm_congr {g h : Int → Int} {i : Int} (e : ∀ k, 0 ≤ k → k < i → g k = h k) : sm g i = sm h i := smN_congr _ (fun k hk => e k (by omega) (by omega))
theorem smN_bd {g : Int → Int} (h : ∀ k, 0 ≤ g k ∧ g k ≤ 1) : ∀ n : Nat, 0 ≤ smN g n ∧ smN g n ≤ n
  | 0 => ⟨Int.le_refl 0, Int.le_refl 0⟩
  | n + 1 => by
    have h1 := smN_bd h n
    have h2 := h (n : Int)
    show 0 ≤ smN g n + g (n : Int) ∧ smN g n + g (n : Int) ≤ ((n + 1 : Nat) : Int)
    omega
theorem sm_bd {g : Int → Int} (h : ∀ k, 0 ≤ g k ∧ g k ≤ 1) {i : Int} (hi : 0 ≤ i) : 0 ≤ sm g i ∧ sm g i ≤ i := by
  have := smN_bd h i.toNat
  unfold sm
  omega
/-- what stays of an instance: its numbers are in range, its lists hold different posts -/
def WI (N P : Int) (cap len lst : Int → Int) : Prop :=
  (1 ≤ N ∧ N ≤ 6 ∧ 1 ≤ P ∧ P ≤ 5) ∧ (∀ k, 0 ≤ k → k < 5 → 1 ≤ cap k ∧ cap k ≤ 2) ∧ (∀ a, 0 ≤ a → a < 6 → 0 ≤ len a ∧ len a ≤ P) ∧ (∀ a k, 0 ≤ a → a < 6 → 0 ≤ k → k < len a → 0 ≤ row lst a k ∧ row lst a k < P) ∧ (∀ a j k, 0 ≤ a → a < 6 → 0 ≤ j → j < k → k < len a → row lst a j ≠ row lst a k)
def vt (a b : Int) : Int := if a = b then 0 else if a < b then 1 else -1
theorem vt_bd (a b : Int) : -1 ≤ vt a b ∧ vt a b ≤ 1 := by
  unfold vt
  split
  · omega
  · split <;> omega
def fp (len lst : Int → Int) (a : Int) : Int := if len a = 0 then -1 else row lst a 0
theorem fp_bd {N P : Int} {cap len lst : Int → Int} (hW : WI N P cap len lst) {a : Int} (h0 : 0 ≤ a) (h1 : a < 6) : -1 ≤ fp len lst a ∧ fp len lst a < P := by
  obtain ⟨hN, hcap, hlen, hlst, hdis⟩ := hW
  unfold fp
  split
  · omega
  · have := hlen a h0 h1
    have := hlst a 0 h0 h1 (by omega) (by omega)
    omega
def cfi (len lst : Int → Int) (p : Int) (a : Int) : Int := if fp len lst a = p then 1 else 0
def cf (N : Int) (len lst : Int → Int) (p : Int) : Int := sm (cfi len lst p) N
theorem cf_bd (N : Int) (len lst : Int → Int) (p : Int) (h : 0 ≤ N) : 0 ≤ cf N len lst p ∧ cf N len lst p ≤ N := sm_bd (fun k => by unfold cfi; split <;> omega) h
/-- the second post: the first place from 1 on whose post has room -/
def spg (N : Int) (cap len lst : Int → Int) (a k : Int) : Int := if cf N len lst (row lst a (k + 1)) < cap (row lst a (k + 1)) then 1 else 0
theorem spg_1 {N : Int} {cap len lst : Int → Int} {a k : Int} (h : spg N cap len lst a k = 1) : cf N len lst (row lst a (k + 1)) < cap (row lst a (k + 1)) := by
  unfold spg at h
  split at h
  · assumption
  · omega
def sp (N : Int) (cap len lst : Int → Int) (a : Int) : Int := if rk (spg N cap len lst a) 1 (len a - 1) < len a - 1 then row lst a (rk (spg N cap len lst a) 1 (len a - 1) + 1) else -1
theorem sp_at {N : Int} {cap len lst : Int → Int} {a i : Int} (h1 : 1 ≤ i) (h2 : i < len a) (h3 : ∀ k, 1 ≤ k → k < i → ¬ cf N len lst (row lst a k) < cap (row lst a k)) (h4 : cf N len lst (row lst a i) < cap (row lst a i)) : sp N cap len lst a = row lst a i := by
  have e : i - 1 = rk (spg N cap len lst a) 1 (len a - 1) := by
    refine rk_uniq (by omega) (by omega) (fun k q1 q2 => ?_) (fun _ => ?_)
    · unfold spg
      rw [if_neg (h3 (k + 1) (by omega) (by omega))]
      omega
    · unfold spg
      rw [show i - 1 + 1 = i by omega, if_pos h4]
  unfold sp
  rw [← e, if_pos (by omega), show i - 1 + 1 = i by omega]
theorem sp_no {N : Int} {cap len lst : Int → Int} {a : Int} (h3 : ∀ k, 1 ≤ k → k < len a → ¬ cf N len lst (row lst a k) < cap (row lst a k)) : sp N cap len lst a = -1 := by
  unfold sp
  split
  · rename_i c
    by_cases h : 0 ≤ len a - 1
    · have h5 := rk_le (spg N cap len lst a) 1 h
      have h6 := spg_1 (rk_at h c)
      exact absurd h6 (h3 _ (by omega) (by omega))
    · have : (len a - 1).toNat = 0 := by omega
      unfold rk at c
      rw [this] at c
      simp [fnd] at c
      omega
  · rfl
theorem sp_bd {N P : Int} {cap len lst : Int → Int} (hW : WI N P cap len lst) {a : Int} (h0 : 0 ≤ a) (h1 : a < 6) : -1 ≤ sp N cap len lst a ∧ sp N cap len lst a < P := by
  obtain ⟨hN, hcap, hlen, hlst, hdis⟩ := hW
  unfold sp
  split
  · rename_i c
    have hl := hlen a h0 h1
    by_cases h : 0 ≤ len a - 1
    · have h5 := rk_le (spg N cap len lst a) 1 h
      have := hlst a (rk (spg N cap len lst a) 1 (len a - 1) + 1) h0 h1 (by omega) (by omega)
      omega
    · have : (len a - 1).toNat = 0 := by omega
      unfold rk at c
      rw [this] at c
      simp [fnd] at c
      omega
  · omega
/-- a matching's placed applicants, and those at a post -/
def plc (m : Int → Int) (k : Int) : Int := if m k = -1 then 0 else 1
def oth (m : Int → Int) (p x : Int) (k : Int) : Int := if ¬ k = x ∧ m k = p then 1 else 0
theorem up_inv {f : Int → Int} {i c : Int} (h : ∀ k, 0 ≤ k → k < i → f k = c) : ∀ k, 0 ≤ k → k < i + 1 → up f i c k = c := by
  intro k h0 h1
  unfold up
  split
  · rfl
  · exact h k h0 (by omega)
theorem up_inv2 {f g : Int → Int} {i : Int} (h : ∀ k, 0 ≤ k → k < i → f k = g k) : ∀ k, 0 ≤ k → k < i + 1 → up f i (g i) k = g k := by
  intro k h0 h1
  unfold up
  split
  · rename_i e
    rw [e]
  · exact h k h0 (by omega)
end
section
theorem pF0_0 : FP 0 0 true (.array .int) := ⟨RX0, TX0, 2, tyX0, rfl, tyX0_ok, nmX0, rfl, by decide +kernel⟩
theorem pF0_1 : FP 0 1 true (.array .int) := ⟨RX0, TX0, 2, tyX0, rfl, tyX0_ok, nmX0, rfl, by decide +kernel⟩
theorem pF1_0 : FP 1 0 false .int := ⟨RX1, TX1, 3, tyX1, rfl, tyX1_ok, nmX1, rfl, by decide +kernel⟩
theorem pF1_1 : FP 1 1 true (.array (.object "PopularMatchings$Matching")) := ⟨RX1, TX1, 3, tyX1, rfl, tyX1_ok, nmX1, rfl, by decide +kernel⟩
theorem pF1_2 : FP 1 2 true (.array (.object "PopularMatchings$Matching")) := ⟨RX1, TX1, 3, tyX1, rfl, tyX1_ok, nmX1, rfl, by decide +kernel⟩
theorem pF2_0 : FP 2 0 false .int := ⟨RX2, TX2, 5, tyX2, rfl, tyX2_ok, nmX2, rfl, by decide +kernel⟩
theorem pF2_1 : FP 2 1 false .int := ⟨RX2, TX2, 5, tyX2, rfl, tyX2_ok, nmX2, rfl, by decide +kernel⟩
theorem pF2_2 : FP 2 2 true (.array .int) := ⟨RX2, TX2, 5, tyX2, rfl, tyX2_ok, nmX2, rfl, by decide +kernel⟩
theorem pF2_3 : FP 2 3 true (.array .int) := ⟨RX2, TX2, 5, tyX2, rfl, tyX2_ok, nmX2, rfl, by decide +kernel⟩
theorem pF2_4 : FP 2 4 true (.array .int) := ⟨RX2, TX2, 5, tyX2, rfl, tyX2_ok, nmX2, rfl, by decide +kernel⟩
theorem pF3_0 : FP 3 0 true (.array .int) := ⟨RX3, TX3, 1, tyX3, rfl, tyX3_ok, nmX3, rfl, by decide +kernel⟩
theorem pF4_0 : FP 4 0 true (.array .int) := ⟨RX4, TX4, 7, tyX4, rfl, tyX4_ok, nmX4, rfl, by decide +kernel⟩
theorem pF4_1 : FP 4 1 true (.array .int) := ⟨RX4, TX4, 7, tyX4, rfl, tyX4_ok, nmX4, rfl, by decide +kernel⟩
theorem pF4_2 : FP 4 2 true (.array .int) := ⟨RX4, TX4, 7, tyX4, rfl, tyX4_ok, nmX4, rfl, by decide +kernel⟩
theorem pF4_3 : FP 4 3 true (.array .int) := ⟨RX4, TX4, 7, tyX4, rfl, tyX4_ok, nmX4, rfl, by decide +kernel⟩
theorem pF4_4 : FP 4 4 true (.array .int) := ⟨RX4, TX4, 7, tyX4, rfl, tyX4_ok, nmX4, rfl, by decide +kernel⟩
theorem pF4_5 : FP 4 5 true (.array .int) := ⟨RX4, TX4, 7, tyX4, rfl, tyX4_ok, nmX4, rfl, by decide +kernel⟩
theorem pF4_6 : FP 4 6 true (.array .int) := ⟨RX4, TX4, 7, tyX4, rfl, tyX4_ok, nmX4, rfl, by decide +kernel⟩
theorem pF5_0 : FP 5 0 true (.object "PopularMatchings$Instance") := ⟨RX5, TX5, 7, tyX5, rfl, tyX5_ok, nmX5, rfl, by decide +kernel⟩
theorem pF5_1 : FP 5 1 true (.object "PopularMatchings$Matching") := ⟨RX5, TX5, 7, tyX5, rfl, tyX5_ok, nmX5, rfl, by decide +kernel⟩
theorem pF5_2 : FP 5 2 true (.object "PopularMatchings$Matching") := ⟨RX5, TX5, 7, tyX5, rfl, tyX5_ok, nmX5, rfl, by decide +kernel⟩
theorem pF5_3 : FP 5 3 true (.object "PopularMatchings$Matching") := ⟨RX5, TX5, 7, tyX5, rfl, tyX5_ok, nmX5, rfl, by decide +kernel⟩
theorem pF5_4 : FP 5 4 true (.object "PopularMatchings$History") := ⟨RX5, TX5, 7, tyX5, rfl, tyX5_ok, nmX5, rfl, by decide +kernel⟩
theorem pF5_5 : FP 5 5 true (.object "PopularMatchings$ChallengerSearch") := ⟨RX5, TX5, 7, tyX5, rfl, tyX5_ok, nmX5, rfl, by decide +kernel⟩
theorem pF5_6 : FP 5 6 true (.object "PopularMatchings$PopularSearch") := ⟨RX5, TX5, 7, tyX5, rfl, tyX5_ok, nmX5, rfl, by decide +kernel⟩
theorem pF6_0 : FP 6 0 false .int := ⟨RX6, TX6, 10, tyX6, rfl, tyX6_ok, nmX6, rfl, by decide +kernel⟩
theorem pF6_1 : FP 6 1 false .int := ⟨RX6, TX6, 10, tyX6, rfl, tyX6_ok, nmX6, rfl, by decide +kernel⟩
theorem pF6_2 : FP 6 2 true (.array .int) := ⟨RX6, TX6, 10, tyX6, rfl, tyX6_ok, nmX6, rfl, by decide +kernel⟩
theorem pF6_3 : FP 6 3 true (.array .int) := ⟨RX6, TX6, 10, tyX6, rfl, tyX6_ok, nmX6, rfl, by decide +kernel⟩
theorem pF6_4 : FP 6 4 true (.array .int) := ⟨RX6, TX6, 10, tyX6, rfl, tyX6_ok, nmX6, rfl, by decide +kernel⟩
theorem pF6_5 : FP 6 5 true (.array .int) := ⟨RX6, TX6, 10, tyX6, rfl, tyX6_ok, nmX6, rfl, by decide +kernel⟩
theorem pF6_6 : FP 6 6 true (.array .int) := ⟨RX6, TX6, 10, tyX6, rfl, tyX6_ok, nmX6, rfl, by decide +kernel⟩
theorem pF6_7 : FP 6 7 false .int := ⟨RX6, TX6, 10, tyX6, rfl, tyX6_ok, nmX6, rfl, by decide +kernel⟩
theorem pF6_8 : FP 6 8 true (.array .int) := ⟨RX6, TX6, 10, tyX6, rfl, tyX6_ok, nmX6, rfl, by decide +kernel⟩
theorem pF6_9 : FP 6 9 true (.array .int) := ⟨RX6, TX6, 10, tyX6, rfl, tyX6_ok, nmX6, rfl, by decide +kernel⟩
theorem sX2_isApplicant_2 : ∀ w ∈ wsX20, w ∈ wsX2_isApplicant := by decide +kernel
theorem fX2_isApplicant_25 : FK RX2 wsX2_isApplicant 25 2 0 := ⟨RX2, TX2, 5, rfl, sX2_isApplicant_2, by decide, List.mem_of_getElem? (i := 1) rfl⟩
set_option maxHeartbeats 4000000 in
set_option maxRecDepth 100000 in
theorem k_X2_isApplicant (D : DD) (o c l t : Nat) (N P : Int) (cap len lst : Int → Int) (a : Int) (hW : WI N P cap len lst) (ha : -2147483648 ≤ a ∧ a < 2147483648) : Con (S := Int) D yX2_isApplicant wsX2_isApplicant ({ frames := 0, cells := 0, slots := 0, locals := 0 }) 0 0 [.ref o, vi a] [(o, co 2 [vi N, vi P, .ref c, .ref l, .ref t]), (c, ca D 5 cap), (l, ca D 6 len), (t, ca D 30 lst)] (fun u => some (vi u)) (fun u => ((u = 1 ∧ (0 ≤ a ∧ a < N)) ∨ (u = 0 ∧ ¬ (0 ≤ a ∧ a < N)))) (fun u => [(o, co 2 [vi N, vi P, .ref c, .ref l, .ref t]), (c, ca D 5 cap), (l, ca D 6 len), (t, ca D 30 lst)]) := by
  refine Con.of (cc := cX2_isApplicant) (nL := 2) (ret := (some .boolean)) rfl (by decide +kernel) (Nat.le_of_ble_eq_true rfl) ?_
  intro X A Q O hQ hin
  show G X D A 2 Q 0 0 0 [(0, .ref o), (1, vi a)] [] [(o, co 2 [vi N, vi P, .ref c, .ref l, .ref t]), (c, ca D 5 cap), (l, ca D 6 len), (t, ca D 30 lst)]
  obtain ⟨hN, hcap, hlen, hlst, hdis⟩ := id hW
  refine g_iload_n O dX2_isApplicant_0 1 1 rfl rfl ?_
  refine g_if_lt O dX2_isApplicant_1 4 16 rfl rfl (by omega) (fun h1 => ?_) (fun h1 => ?_)
  · skip
    refine g_iconst O dX2_isApplicant_16 17 rfl ?_
    exact g_zret O hQ dX2_isApplicant_17 (by decide +kernel) 0 rfl rfl (Or.inr ⟨rfl, by first | assumption | omega⟩) ⟨by decide, by decide⟩
  · skip
    refine g_iload_n O dX2_isApplicant_4 5 1 rfl rfl ?_
    refine g_aload_n O dX2_isApplicant_5 6 0 rfl rfl ?_
    refine g_get O dX2_isApplicant_6 9 rfl fX2_isApplicant_25 0 rfl rfl ?_
    refine g_icmp_ge O dX2_isApplicant_9 12 16 rfl rfl (by omega) (fun h9 => ?_) (fun h9 => ?_)
    · skip
      refine g_iconst O dX2_isApplicant_16 17 rfl ?_
      exact g_zret O hQ dX2_isApplicant_17 (by decide +kernel) 0 rfl rfl (Or.inr ⟨rfl, by first | assumption | omega⟩) ⟨by decide, by decide⟩
    · skip
      refine g_iconst O dX2_isApplicant_12 13 rfl ?_
      refine g_goto O dX2_isApplicant_13 17 rfl ?_
      exact g_zret O hQ dX2_isApplicant_17 (by decide +kernel) 1 rfl rfl (Or.inl ⟨rfl, by first | assumption | omega⟩) ⟨by decide, by decide⟩
theorem sX2_isPost_2 : ∀ w ∈ wsX20, w ∈ wsX2_isPost := by decide +kernel
theorem fX2_isPost_29 : FK RX2 wsX2_isPost 29 2 1 := ⟨RX2, TX2, 5, rfl, sX2_isPost_2, by decide, List.mem_of_getElem? (i := 1) rfl⟩
set_option maxHeartbeats 4000000 in
set_option maxRecDepth 100000 in
theorem k_X2_isPost (D : DD) (o c l t : Nat) (N P : Int) (cap len lst : Int → Int) (a : Int) (hW : WI N P cap len lst) (ha : -2147483648 ≤ a ∧ a < 2147483648) : Con (S := Int) D yX2_isPost wsX2_isPost ({ frames := 0, cells := 0, slots := 0, locals := 0 }) 0 0 [.ref o, vi a] [(o, co 2 [vi N, vi P, .ref c, .ref l, .ref t]), (c, ca D 5 cap), (l, ca D 6 len), (t, ca D 30 lst)] (fun u => some (vi u)) (fun u => ((u = 1 ∧ (0 ≤ a ∧ a < P)) ∨ (u = 0 ∧ ¬ (0 ≤ a ∧ a < P)))) (fun u => [(o, co 2 [vi N, vi P, .ref c, .ref l, .ref t]), (c, ca D 5 cap), (l, ca D 6 len), (t, ca D 30 lst)]) := by
  refine Con.of (cc := cX2_isPost) (nL := 2) (ret := (some .boolean)) rfl (by decide +kernel) (Nat.le_of_ble_eq_true rfl) ?_
  intro X A Q O hQ hin
  show G X D A 2 Q 0 0 0 [(0, .ref o), (1, vi a)] [] [(o, co 2 [vi N, vi P, .ref c, .ref l, .ref t]), (c, ca D 5 cap), (l, ca D 6 len), (t, ca D 30 lst)]
  obtain ⟨hN, hcap, hlen, hlst, hdis⟩ := id hW
  refine g_iload_n O dX2_isPost_0 1 1 rfl rfl ?_
  refine g_if_lt O dX2_isPost_1 4 16 rfl rfl (by omega) (fun h1 => ?_) (fun h1 => ?_)
  · skip
    refine g_iconst O dX2_isPost_16 17 rfl ?_
    exact g_zret O hQ dX2_isPost_17 (by decide +kernel) 0 rfl rfl (Or.inr ⟨rfl, by first | assumption | omega⟩) ⟨by decide, by decide⟩
  · skip
    refine g_iload_n O dX2_isPost_4 5 1 rfl rfl ?_
    refine g_aload_n O dX2_isPost_5 6 0 rfl rfl ?_
    refine g_get O dX2_isPost_6 9 rfl fX2_isPost_29 0 rfl rfl ?_
    refine g_icmp_ge O dX2_isPost_9 12 16 rfl rfl (by omega) (fun h9 => ?_) (fun h9 => ?_)
    · skip
      refine g_iconst O dX2_isPost_16 17 rfl ?_
      exact g_zret O hQ dX2_isPost_17 (by decide +kernel) 0 rfl rfl (Or.inr ⟨rfl, by first | assumption | omega⟩) ⟨by decide, by decide⟩
    · skip
      refine g_iconst O dX2_isPost_12 13 rfl ?_
      refine g_goto O dX2_isPost_13 17 rfl ?_
      exact g_zret O hQ dX2_isPost_17 (by decide +kernel) 1 rfl rfl (Or.inl ⟨rfl, by first | assumption | omega⟩) ⟨by decide, by decide⟩
theorem sX2_listed_2 : ∀ w ∈ wsX20, w ∈ wsX2_listed := by decide +kernel
theorem fX2_listed_18 : FK RX2 wsX2_listed 18 2 4 := ⟨RX2, TX2, 5, rfl, sX2_listed_2, by decide, List.mem_of_getElem? (i := 1) rfl⟩
set_option maxHeartbeats 4000000 in
set_option maxRecDepth 100000 in
theorem k_X2_listed (D : DD) (o c l t : Nat) (N P : Int) (cap len lst : Int → Int) (a i : Int) (ha : 0 ≤ a ∧ a < 6) (hi : 0 ≤ i ∧ i < 5) : Con (S := Unit) D yX2_listed wsX2_listed ({ frames := 0, cells := 0, slots := 0, locals := 0 }) 0 0 [.ref o, vi a, vi i] [(o, co 2 [vi N, vi P, .ref c, .ref l, .ref t]), (c, ca D 5 cap), (l, ca D 6 len), (t, ca D 30 lst)] (fun u => some (vi (row lst a i))) (fun u => True) (fun u => [(o, co 2 [vi N, vi P, .ref c, .ref l, .ref t]), (c, ca D 5 cap), (l, ca D 6 len), (t, ca D 30 lst)]) := by
  refine Con.of (cc := cX2_listed) (nL := 3) (ret := (some .int)) rfl (by decide +kernel) (Nat.le_of_ble_eq_true rfl) ?_
  intro X A Q O hQ hin
  show G X D A 3 Q 0 0 0 [(0, .ref o), (1, vi a), (2, vi i)] [] [(o, co 2 [vi N, vi P, .ref c, .ref l, .ref t]), (c, ca D 5 cap), (l, ca D 6 len), (t, ca D 30 lst)]
  refine g_aload_n O dX2_listed_0 1 0 rfl rfl ?_
  refine g_get O dX2_listed_1 4 rfl fX2_listed_18 0 rfl rfl ?_
  refine g_iload_n O dX2_listed_4 5 1 rfl rfl ?_
  refine g_iconst O dX2_listed_5 6 rfl ?_
  refine g_imul O dX2_listed_6 7 rfl ?_
  refine g_iload_n O dX2_listed_7 8 2 rfl rfl ?_
  refine g_iadd O dX2_listed_8 9 rfl ?_
  refine g_iald O dX2_listed_9 10 rfl 3 rfl (by decide) (by omega) ?_
  exact g_iret O hQ dX2_listed_10 () (vi_eq (by first | rfl | omega)) rfl trivial ⟨by decide, by decide⟩
theorem sX2_rankOf_2 : ∀ w ∈ wsX20, w ∈ wsX2_rankOf := by decide +kernel
theorem fX2_rankOf_15 : FK RX2 wsX2_rankOf 15 2 3 := ⟨RX2, TX2, 5, rfl, sX2_rankOf_2, by decide, List.mem_of_getElem? (i := 1) rfl⟩
set_option maxHeartbeats 4000000 in
set_option maxRecDepth 100000 in
theorem k_X2_rankOf (D : DD) (o c l t : Nat) (N P : Int) (cap len lst : Int → Int) (a p : Int) (hW : WI N P cap len lst) (ha : 0 ≤ a ∧ a < 6) (hp : -2147483648 ≤ p ∧ p < 2147483648) : Con (S := Unit) D yX2_rankOf wsX2_rankOf ({ frames := 1, cells := 0, slots := 0, locals := 22 }) 0 0 [.ref o, vi a, vi p] [(o, co 2 [vi N, vi P, .ref c, .ref l, .ref t]), (c, ca D 5 cap), (l, ca D 6 len), (t, ca D 30 lst)] (fun u => some (vi (rk (row lst a) p (len a)))) (fun u => True) (fun u => [(o, co 2 [vi N, vi P, .ref c, .ref l, .ref t]), (c, ca D 5 cap), (l, ca D 6 len), (t, ca D 30 lst)]) := by
  refine Con.of (cc := cX2_rankOf) (nL := 4) (ret := (some .int)) rfl (by decide +kernel) (Nat.le_of_ble_eq_true rfl) ?_
  intro X A Q O hQ hin
  show G X D A 4 Q 0 0 0 [(0, .ref o), (1, vi a), (2, vi p)] [] [(o, co 2 [vi N, vi P, .ref c, .ref l, .ref t]), (c, ca D 5 cap), (l, ca D 6 len), (t, ca D 30 lst)]
  obtain ⟨hN, hcap, hlen, hlst, hdis⟩ := id hW
  have hla := hlen a (by omega) (by omega)
  refine g_iconst O dX2_rankOf_0 1 rfl ?_
  refine g_istore_n O dX2_rankOf_1 2 [(0, .ref o), (1, vi a), (2, vi p), (3, vi 0)] rfl (by decide) rfl ?_
  have lp2 : ∀ (nn : Nat) (i : Int), (0 ≤ i ∧ i ≤ len a) → (∀ kk, 0 ≤ kk → kk < i → row lst a kk ≠ p) → (len a - i < (nn : Int)) → G X D A 4 Q 0 0 2 [(0, .ref o), (1, vi a), (2, vi p), (3, vi i)] [] [(o, co 2 [vi N, vi P, .ref c, .ref l, .ref t]), (c, ca D 5 cap), (l, ca D 6 len), (t, ca D 30 lst)] := by
    intro nn
    induction nn with
    | zero =>
      intro i h1 h2 hm2
      exact absurd hm2 (by omega)
    | succ nn ih2 =>
      intro i h1 h2 hm2
      refine g_iload_n O dX2_rankOf_2 3 3 rfl rfl ?_
      refine g_aload_n O dX2_rankOf_3 4 0 rfl rfl ?_
      refine g_get O dX2_rankOf_4 7 rfl fX2_rankOf_15 0 rfl rfl ?_
      refine g_iload_n O dX2_rankOf_7 8 1 rfl rfl ?_
      refine g_iald O dX2_rankOf_8 9 rfl 2 rfl (by decide) (by omega) ?_
      refine g_icmp_ge O dX2_rankOf_9 12 30 rfl rfl (by omega) (fun h9 => ?_) (fun h9 => ?_)
      · skip
        refine g_aload_n O dX2_rankOf_30 31 0 rfl rfl ?_
        refine g_get O dX2_rankOf_31 34 rfl fX2_rankOf_15 0 rfl rfl ?_
        refine g_iload_n O dX2_rankOf_34 35 1 rfl rfl ?_
        refine g_iald O dX2_rankOf_35 36 rfl 2 rfl (by decide) (by omega) ?_
        exact g_iret O hQ dX2_rankOf_36 () (vi_eq (rk_uniq (by omega) (by omega) (fun kk q1 q2 => h2 kk q1 (by omega)) (fun q => absurd q (by omega))).symm) rfl trivial ⟨by decide, by decide⟩
      · skip
        have hli := hlst a i (by omega) (by omega) (by omega) (by omega)
        refine g_aload_n O dX2_rankOf_12 13 0 rfl rfl ?_
        refine g_iload_n O dX2_rankOf_13 14 1 rfl rfl ?_
        refine g_iload_n O dX2_rankOf_14 15 3 rfl rfl ?_
        refine g_callV (As := [vi a, vi i]) (rest := []) (na := 2) O (k_X2_listed D o c l t N P cap len lst a i (by omega) (by omega)) dX2_rankOf_15 gX2_rankOf_X2_listed rfl ⟨rfl, rfl⟩ (by decide +kernel) rfl (by decide) (by decide) rfl (by decide) (q0 := 0) (ci := 2) rfl rfl [0, 1, 2, 3] (by decide) rfl (fun _ => rfl) (fun _ => [(o, co 2 [vi N, vi P, .ref c, .ref l, .ref t]), (c, ca D 5 cap), (l, ca D 6 len), (t, ca D 30 lst)]) (fun _ => rfl) 18 rfl (fun _ _ => ?_)
        show G X D A 4 Q 0 0 18 [(0, .ref o), (1, vi a), (2, vi p), (3, vi i)] [vi (row lst a i)] [(o, co 2 [vi N, vi P, .ref c, .ref l, .ref t]), (c, ca D 5 cap), (l, ca D 6 len), (t, ca D 30 lst)]
        have hrow : 0 ≤ row lst a i ∧ row lst a i < P := hli
        refine g_iload_n O dX2_rankOf_18 19 2 rfl rfl ?_
        refine g_icmp_ne O dX2_rankOf_19 22 24 rfl rfl (by omega) (fun h19 => ?_) (fun h19 => ?_)
        · skip
          refine g_iinc O dX2_rankOf_24 27 3 [(0, .ref o), (1, vi a), (2, vi p), (3, vi (i + 1))] rfl (by decide) rfl rfl ?_
          refine g_goto O dX2_rankOf_27 2 rfl ?_
          exact ih2 (i + 1) (by omega) (fun kk q1 q2 => by rcases (show kk < i ∨ kk = i by omega) with q | q; exact h2 kk q1 q; rw [q]; exact h19) (by omega)
        · skip
          refine g_iload_n O dX2_rankOf_22 23 3 rfl rfl ?_
          exact g_iret O hQ dX2_rankOf_23 () (vi_eq (rk_uniq (by omega) (by omega) h2 (fun _ => h19)).symm) rfl trivial ⟨by decide, by decide⟩
  exact lp2 1000 0 (by omega) (fun kk q1 q2 => absurd q2 (by omega)) (by omega)
theorem sX2_isListed_2 : ∀ w ∈ wsX20, w ∈ wsX2_isListed := by decide +kernel
theorem fX2_isListed_15 : FK RX2 wsX2_isListed 15 2 3 := ⟨RX2, TX2, 5, rfl, sX2_isListed_2, by decide, List.mem_of_getElem? (i := 1) rfl⟩
set_option maxHeartbeats 4000000 in
set_option maxRecDepth 100000 in
theorem k_X2_isListed (D : DD) (o c l t : Nat) (N P : Int) (cap len lst : Int → Int) (a p : Int) (hW : WI N P cap len lst) (ha : 0 ≤ a ∧ a < 6) (hp : -2147483648 ≤ p ∧ p < 2147483648) : Con (S := Int) D yX2_isListed wsX2_isListed ({ frames := 2, cells := 0, slots := 0, locals := 45 }) 0 0 [.ref o, vi a, vi p] [(o, co 2 [vi N, vi P, .ref c, .ref l, .ref t]), (c, ca D 5 cap), (l, ca D 6 len), (t, ca D 30 lst)] (fun u => some (vi u)) (fun u => ((u = 1 ∧ (rk (row lst a) p (len a) < len a)) ∨ (u = 0 ∧ ¬ (rk (row lst a) p (len a) < len a)))) (fun u => [(o, co 2 [vi N, vi P, .ref c, .ref l, .ref t]), (c, ca D 5 cap), (l, ca D 6 len), (t, ca D 30 lst)]) := by
  refine Con.of (cc := cX2_isListed) (nL := 3) (ret := (some .boolean)) rfl (by decide +kernel) (Nat.le_of_ble_eq_true rfl) ?_
  intro X A Q O hQ hin
  show G X D A 3 Q 0 0 0 [(0, .ref o), (1, vi a), (2, vi p)] [] [(o, co 2 [vi N, vi P, .ref c, .ref l, .ref t]), (c, ca D 5 cap), (l, ca D 6 len), (t, ca D 30 lst)]
  obtain ⟨hN, hcap, hlen, hlst, hdis⟩ := id hW
  have hla := hlen a (by omega) (by omega)
  have hrk := rk_le (row lst a) p (n := len a) (by omega)
  refine g_aload_n O dX2_isListed_0 1 0 rfl rfl ?_
  refine g_iload_n O dX2_isListed_1 2 1 rfl rfl ?_
  refine g_iload_n O dX2_isListed_2 3 2 rfl rfl ?_
  refine g_callV (As := [vi a, vi p]) (rest := []) (na := 2) O (k_X2_rankOf D o c l t N P cap len lst a p hW (by omega) (by omega)) dX2_isListed_3 gX2_isListed_X2_rankOf rfl ⟨rfl, rfl⟩ (by decide +kernel) rfl (by decide) (by decide) rfl (by decide) (q0 := 0) (ci := 2) rfl rfl [0, 1, 2, 3] (by decide) rfl (fun _ => rfl) (fun _ => [(o, co 2 [vi N, vi P, .ref c, .ref l, .ref t]), (c, ca D 5 cap), (l, ca D 6 len), (t, ca D 30 lst)]) (fun _ => rfl) 6 rfl (fun _ _ => ?_)
  show G X D A 3 Q 0 0 6 [(0, .ref o), (1, vi a), (2, vi p)] [vi (rk (row lst a) p (len a))] [(o, co 2 [vi N, vi P, .ref c, .ref l, .ref t]), (c, ca D 5 cap), (l, ca D 6 len), (t, ca D 30 lst)]
  refine g_aload_n O dX2_isListed_6 7 0 rfl rfl ?_
  refine g_get O dX2_isListed_7 10 rfl fX2_isListed_15 0 rfl rfl ?_
  refine g_iload_n O dX2_isListed_10 11 1 rfl rfl ?_
  refine g_iald O dX2_isListed_11 12 rfl 2 rfl (by decide) (by omega) ?_
  refine g_icmp_ge O dX2_isListed_12 15 19 rfl rfl (by omega) (fun h12 => ?_) (fun h12 => ?_)
  · skip
    refine g_iconst O dX2_isListed_19 20 rfl ?_
    exact g_zret O hQ dX2_isListed_20 (by decide +kernel) 0 rfl rfl (Or.inr ⟨rfl, by first | assumption | omega⟩) ⟨by decide, by decide⟩
  · skip
    refine g_iconst O dX2_isListed_15 16 rfl ?_
    refine g_goto O dX2_isListed_16 20 rfl ?_
    exact g_zret O hQ dX2_isListed_20 (by decide +kernel) 1 rfl rfl (Or.inl ⟨rfl, by first | assumption | omega⟩) ⟨by decide, by decide⟩
theorem sX2_append_2 : ∀ w ∈ wsX20, w ∈ wsX2_append := by decide +kernel
theorem fX2_append_15 : FK RX2 wsX2_append 15 2 3 := ⟨RX2, TX2, 5, rfl, sX2_append_2, by decide, List.mem_of_getElem? (i := 2) rfl⟩
theorem fX2_append_18 : FK RX2 wsX2_append 18 2 4 := ⟨RX2, TX2, 5, rfl, sX2_append_2, by decide, List.mem_of_getElem? (i := 1) rfl⟩
set_option maxHeartbeats 4000000 in
set_option maxRecDepth 100000 in
theorem k_X2_append (D : DD) (o c l t : Nat) (N P : Int) (cap len lst : Int → Int) (a p : Int) (hW : WI N P cap len lst) (ha : 0 ≤ a ∧ a < 6) (hl5 : len a < 5) : Con (S := Unit) D yX2_append wsX2_append ({ frames := 0, cells := 0, slots := 0, locals := 0 }) 0 0 [.ref o, vi a, vi p] [(o, co 2 [vi N, vi P, .ref c, .ref l, .ref t]), (c, ca D 5 cap), (l, ca D 6 len), (t, ca D 30 lst)] (fun u => some (vi (len a + 1))) (fun u => True) (fun u => [(o, co 2 [vi N, vi P, .ref c, .ref l, .ref t]), (c, ca D 5 cap), (l, ca D 6 (up len a (len a + 1))), (t, ca D 30 (up lst (a * 5 + len a) p))]) := by
  refine Con.of (cc := cX2_append) (nL := 3) (ret := (some .int)) rfl (by decide +kernel) (Nat.le_of_ble_eq_true rfl) ?_
  intro X A Q O hQ hin
  show G X D A 3 Q 0 0 0 [(0, .ref o), (1, vi a), (2, vi p)] [] [(o, co 2 [vi N, vi P, .ref c, .ref l, .ref t]), (c, ca D 5 cap), (l, ca D 6 len), (t, ca D 30 lst)]
  obtain ⟨hN, hcap, hlen, hlst, hdis⟩ := id hW
  have hla := hlen a (by omega) (by omega)
  refine g_aload_n O dX2_append_0 1 0 rfl rfl ?_
  refine g_get O dX2_append_1 4 rfl fX2_append_18 0 rfl rfl ?_
  refine g_iload_n O dX2_append_4 5 1 rfl rfl ?_
  refine g_iconst O dX2_append_5 6 rfl ?_
  refine g_imul O dX2_append_6 7 rfl ?_
  refine g_aload_n O dX2_append_7 8 0 rfl rfl ?_
  refine g_get O dX2_append_8 11 rfl fX2_append_15 0 rfl rfl ?_
  refine g_iload_n O dX2_append_11 12 1 rfl rfl ?_
  refine g_iald O dX2_append_12 13 rfl 2 rfl (by decide) (by omega) ?_
  refine g_iadd O dX2_append_13 14 rfl ?_
  refine g_iload_n O dX2_append_14 15 2 rfl rfl ?_
  refine g_iast O dX2_append_15 16 rfl 3 rfl (by decide) (by omega) [(o, co 2 [vi N, vi P, .ref c, .ref l, .ref t]), (c, ca D 5 cap), (l, ca D 6 len), (t, ca D 30 (up lst ((a * 5) + (len a)) p))] rfl ?_
  refine g_aload_n O dX2_append_16 17 0 rfl rfl ?_
  refine g_get O dX2_append_17 20 rfl fX2_append_15 0 rfl rfl ?_
  refine g_iload_n O dX2_append_20 21 1 rfl rfl ?_
  refine g_dup2 O dX2_append_21 22 rfl rfl rfl ?_
  refine g_iald O dX2_append_22 23 rfl 2 rfl (by decide) (by omega) ?_
  refine g_iconst O dX2_append_23 24 rfl ?_
  refine g_iadd O dX2_append_24 25 rfl ?_
  refine g_iast O dX2_append_25 26 rfl 2 rfl (by decide) (by omega) [(o, co 2 [vi N, vi P, .ref c, .ref l, .ref t]), (c, ca D 5 cap), (l, ca D 6 (up len a ((len a) + 1))), (t, ca D 30 (up lst ((a * 5) + (len a)) p))] rfl ?_
  refine g_aload_n O dX2_append_26 27 0 rfl rfl ?_
  refine g_get O dX2_append_27 30 rfl fX2_append_15 0 rfl rfl ?_
  refine g_iload_n O dX2_append_30 31 1 rfl rfl ?_
  refine g_iald O dX2_append_31 32 rfl 2 rfl (by decide) (by omega) ?_
  exact g_iret O hQ dX2_append_32 () (vi_eq (up_s _ _ _).symm) rfl trivial ⟨by decide, by decide⟩
set_option maxHeartbeats 4000000 in
set_option maxRecDepth 100000 in
theorem k_X2_vote (D : DD) (a b : Int) (ha : -2147483648 ≤ a ∧ a < 2147483648) (hb : -2147483648 ≤ b ∧ b < 2147483648) : Con (S := Unit) D yX2_vote wsX2_vote ({ frames := 0, cells := 0, slots := 0, locals := 0 }) 0 0 [vi a, vi b] [] (fun u => some (vi (vt a b))) (fun u => True) (fun u => []) := by
  refine Con.of (cc := cX2_vote) (nL := 2) (ret := (some .int)) rfl (by decide +kernel) (Nat.le_of_ble_eq_true rfl) ?_
  intro X A Q O hQ hin
  show G X D A 2 Q 0 0 0 [(0, vi a), (1, vi b)] [] []
  refine g_iload_n O dX2_vote_0 1 0 rfl rfl ?_
  refine g_iload_n O dX2_vote_1 2 1 rfl rfl ?_
  refine g_icmp_ne O dX2_vote_2 5 7 rfl rfl (by omega) (fun h2 => ?_) (fun h2 => ?_)
  · skip
    refine g_iload_n O dX2_vote_7 8 0 rfl rfl ?_
    refine g_iload_n O dX2_vote_8 9 1 rfl rfl ?_
    refine g_icmp_ge O dX2_vote_9 12 16 rfl rfl (by omega) (fun h9 => ?_) (fun h9 => ?_)
    · skip
      refine g_iconst O dX2_vote_16 17 rfl ?_
      exact g_iret O hQ dX2_vote_17 () (vi_eq (by unfold vt; split <;> (try split) <;> omega)) rfl trivial ⟨by decide, by decide⟩
    · skip
      refine g_iconst O dX2_vote_12 13 rfl ?_
      refine g_goto O dX2_vote_13 17 rfl ?_
      exact g_iret O hQ dX2_vote_17 () (vi_eq (by unfold vt; split <;> (try split) <;> omega)) rfl trivial ⟨by decide, by decide⟩
  · skip
    refine g_iconst O dX2_vote_5 6 rfl ?_
    exact g_iret O hQ dX2_vote_6 () (vi_eq (by simp [vt, h2])) rfl trivial ⟨by decide, by decide⟩
theorem sX2_firstOf_2 : ∀ w ∈ wsX20, w ∈ wsX2_firstOf := by decide +kernel
theorem fX2_firstOf_15 : FK RX2 wsX2_firstOf 15 2 3 := ⟨RX2, TX2, 5, rfl, sX2_firstOf_2, by decide, List.mem_of_getElem? (i := 1) rfl⟩
set_option maxHeartbeats 4000000 in
set_option maxRecDepth 100000 in
theorem k_X2_firstOf (D : DD) (o c l t : Nat) (N P : Int) (cap len lst : Int → Int) (a : Int) (hW : WI N P cap len lst) (ha : 0 ≤ a ∧ a < 6) : Con (S := Unit) D yX2_firstOf wsX2_firstOf ({ frames := 1, cells := 0, slots := 0, locals := 22 }) 0 0 [.ref o, vi a] [(o, co 2 [vi N, vi P, .ref c, .ref l, .ref t]), (c, ca D 5 cap), (l, ca D 6 len), (t, ca D 30 lst)] (fun u => some (vi (fp len lst a))) (fun u => True) (fun u => [(o, co 2 [vi N, vi P, .ref c, .ref l, .ref t]), (c, ca D 5 cap), (l, ca D 6 len), (t, ca D 30 lst)]) := by
  refine Con.of (cc := cX2_firstOf) (nL := 2) (ret := (some .int)) rfl (by decide +kernel) (Nat.le_of_ble_eq_true rfl) ?_
  intro X A Q O hQ hin
  show G X D A 2 Q 0 0 0 [(0, .ref o), (1, vi a)] [] [(o, co 2 [vi N, vi P, .ref c, .ref l, .ref t]), (c, ca D 5 cap), (l, ca D 6 len), (t, ca D 30 lst)]
  obtain ⟨hN, hcap, hlen, hlst, hdis⟩ := id hW
  have hla := hlen a (by omega) (by omega)
  refine g_aload_n O dX2_firstOf_0 1 0 rfl rfl ?_
  refine g_get O dX2_firstOf_1 4 rfl fX2_firstOf_15 0 rfl rfl ?_
  refine g_iload_n O dX2_firstOf_4 5 1 rfl rfl ?_
  refine g_iald O dX2_firstOf_5 6 rfl 2 rfl (by decide) (by omega) ?_
  refine g_if_ne O dX2_firstOf_6 9 13 rfl rfl (by omega) (fun h6 => ?_) (fun h6 => ?_)
  · skip
    refine g_aload_n O dX2_firstOf_13 14 0 rfl rfl ?_
    refine g_iload_n O dX2_firstOf_14 15 1 rfl rfl ?_
    refine g_iconst O dX2_firstOf_15 16 rfl ?_
    refine g_callV (As := [vi a, vi 0]) (rest := []) (na := 2) O (k_X2_listed D o c l t N P cap len lst a 0 (by omega) (by omega)) dX2_firstOf_16 gX2_firstOf_X2_listed rfl ⟨rfl, rfl⟩ (by decide +kernel) rfl (by decide) (by decide) rfl (by decide) (q0 := 0) (ci := 2) rfl rfl [0, 1, 2, 3] (by decide) rfl (fun _ => rfl) (fun _ => [(o, co 2 [vi N, vi P, .ref c, .ref l, .ref t]), (c, ca D 5 cap), (l, ca D 6 len), (t, ca D 30 lst)]) (fun _ => rfl) 19 rfl (fun _ _ => ?_)
    show G X D A 2 Q 0 0 19 [(0, .ref o), (1, vi a)] [vi (row lst a 0)] [(o, co 2 [vi N, vi P, .ref c, .ref l, .ref t]), (c, ca D 5 cap), (l, ca D 6 len), (t, ca D 30 lst)]
    exact g_iret O hQ dX2_firstOf_19 () (vi_eq (by unfold fp; split <;> omega)) rfl trivial ⟨by decide, by decide⟩
  · skip
    refine g_iconst O dX2_firstOf_9 10 rfl ?_
    refine g_goto O dX2_firstOf_10 19 rfl ?_
    exact g_iret O hQ dX2_firstOf_19 () (vi_eq (by unfold fp; split <;> omega)) rfl trivial ⟨by decide, by decide⟩
theorem sX2_countFirst_2 : ∀ w ∈ wsX20, w ∈ wsX2_countFirst := by decide +kernel
theorem fX2_countFirst_25 : FK RX2 wsX2_countFirst 25 2 0 := ⟨RX2, TX2, 5, rfl, sX2_countFirst_2, by decide, List.mem_of_getElem? (i := 1) rfl⟩
set_option maxHeartbeats 4000000 in
set_option maxRecDepth 100000 in
theorem k_X2_countFirst (D : DD) (o c l t : Nat) (N P : Int) (cap len lst : Int → Int) (p : Int) (hW : WI N P cap len lst) (hp : -2147483648 ≤ p ∧ p < 2147483648) : Con (S := Unit) D yX2_countFirst wsX2_countFirst ({ frames := 2, cells := 0, slots := 0, locals := 43 }) 0 0 [.ref o, vi p] [(o, co 2 [vi N, vi P, .ref c, .ref l, .ref t]), (c, ca D 5 cap), (l, ca D 6 len), (t, ca D 30 lst)] (fun u => some (vi (cf N len lst p))) (fun u => True) (fun u => [(o, co 2 [vi N, vi P, .ref c, .ref l, .ref t]), (c, ca D 5 cap), (l, ca D 6 len), (t, ca D 30 lst)]) := by
  refine Con.of (cc := cX2_countFirst) (nL := 4) (ret := (some .int)) rfl (by decide +kernel) (Nat.le_of_ble_eq_true rfl) ?_
  intro X A Q O hQ hin
  show G X D A 4 Q 0 0 0 [(0, .ref o), (1, vi p)] [] [(o, co 2 [vi N, vi P, .ref c, .ref l, .ref t]), (c, ca D 5 cap), (l, ca D 6 len), (t, ca D 30 lst)]
  obtain ⟨hN, hcap, hlen, hlst, hdis⟩ := id hW
  refine g_iconst O dX2_countFirst_0 1 rfl ?_
  refine g_istore_n O dX2_countFirst_1 2 [(0, .ref o), (1, vi p), (2, vi 0)] rfl (by decide) rfl ?_
  refine g_iconst O dX2_countFirst_2 3 rfl ?_
  refine g_istore_n O dX2_countFirst_3 4 [(0, .ref o), (1, vi p), (2, vi 0), (3, vi 0)] rfl (by decide) rfl ?_
  have lp4 : ∀ (nn : Nat) (i : Int) (s : Int), (0 ≤ i ∧ i ≤ N) → (s = sm (cfi len lst p) i) → (N - i < (nn : Int)) → G X D A 4 Q 0 0 4 [(0, .ref o), (1, vi p), (2, vi s), (3, vi i)] [] [(o, co 2 [vi N, vi P, .ref c, .ref l, .ref t]), (c, ca D 5 cap), (l, ca D 6 len), (t, ca D 30 lst)] := by
    intro nn
    induction nn with
    | zero =>
      intro i s h1 h2 hm4
      exact absurd hm4 (by omega)
    | succ nn ih4 =>
      intro i s h1 h2 hm4
      refine g_iload_n O dX2_countFirst_4 5 3 rfl rfl ?_
      refine g_aload_n O dX2_countFirst_5 6 0 rfl rfl ?_
      refine g_get O dX2_countFirst_6 9 rfl fX2_countFirst_25 0 rfl rfl ?_
      refine g_icmp_ge O dX2_countFirst_9 12 30 rfl rfl (by omega) (fun h9 => ?_) (fun h9 => ?_)
      · skip
        refine g_iload_n O dX2_countFirst_30 31 2 rfl rfl ?_
        exact g_iret O hQ dX2_countFirst_31 () (vi_eq (by rw [h2, show i = N by omega]; rfl)) rfl trivial ⟨by decide, by decide⟩
      · skip
        refine g_aload_n O dX2_countFirst_12 13 0 rfl rfl ?_
        refine g_iload_n O dX2_countFirst_13 14 3 rfl rfl ?_
        refine g_callV (As := [vi i]) (rest := []) (na := 1) O (k_X2_firstOf D o c l t N P cap len lst i hW (by omega)) dX2_countFirst_14 gX2_countFirst_X2_firstOf rfl ⟨rfl, rfl⟩ (by decide +kernel) rfl (by decide) (by decide) rfl (by decide) (q0 := 0) (ci := 2) rfl rfl [0, 1, 2, 3] (by decide) rfl (fun _ => rfl) (fun _ => [(o, co 2 [vi N, vi P, .ref c, .ref l, .ref t]), (c, ca D 5 cap), (l, ca D 6 len), (t, ca D 30 lst)]) (fun _ => rfl) 17 rfl (fun _ _ => ?_)
        show G X D A 4 Q 0 0 17 [(0, .ref o), (1, vi p), (2, vi s), (3, vi i)] [vi (fp len lst i)] [(o, co 2 [vi N, vi P, .ref c, .ref l, .ref t]), (c, ca D 5 cap), (l, ca D 6 len), (t, ca D 30 lst)]
        have hfp := fp_bd hW (a := i) (by omega) (by omega)
        refine g_iload_n O dX2_countFirst_17 18 1 rfl rfl ?_
        refine g_icmp_ne O dX2_countFirst_18 21 24 rfl rfl (by omega) (fun h18 => ?_) (fun h18 => ?_)
        · skip
          refine g_iinc O dX2_countFirst_24 27 3 [(0, .ref o), (1, vi p), (2, vi s), (3, vi (i + 1))] rfl (by decide) rfl rfl ?_
          refine g_goto O dX2_countFirst_27 4 rfl ?_
          exact ih4 (i + 1) s (by omega) (by rw [sm_s _ h1.1, ← h2]; unfold cfi; split <;> omega) (by omega)
        · skip
          refine g_iinc O dX2_countFirst_21 24 2 [(0, .ref o), (1, vi p), (2, vi (s + 1)), (3, vi i)] rfl (by decide) rfl rfl ?_
          refine g_iinc O dX2_countFirst_24 27 3 [(0, .ref o), (1, vi p), (2, vi (s + 1)), (3, vi (i + 1))] rfl (by decide) rfl rfl ?_
          refine g_goto O dX2_countFirst_27 4 rfl ?_
          exact ih4 (i + 1) (s + 1) (by omega) (by rw [sm_s _ h1.1, ← h2]; unfold cfi; split <;> omega) (by omega)
  exact lp4 1000 0 0 (by omega) (sm_0 _).symm (by omega)
theorem sX2_secondOf_2 : ∀ w ∈ wsX20, w ∈ wsX2_secondOf := by decide +kernel
theorem fX2_secondOf_15 : FK RX2 wsX2_secondOf 15 2 3 := ⟨RX2, TX2, 5, rfl, sX2_secondOf_2, by decide, List.mem_of_getElem? (i := 1) rfl⟩
theorem fX2_secondOf_9 : FK RX2 wsX2_secondOf 9 2 2 := ⟨RX2, TX2, 5, rfl, sX2_secondOf_2, by decide, List.mem_of_getElem? (i := 2) rfl⟩
set_option maxHeartbeats 4000000 in
set_option maxRecDepth 100000 in
theorem k_X2_secondOf (D : DD) (o c l t : Nat) (N P : Int) (cap len lst : Int → Int) (a : Int) (hW : WI N P cap len lst) (ha : 0 ≤ a ∧ a < 6) : Con (S := Unit) D yX2_secondOf wsX2_secondOf ({ frames := 3, cells := 0, slots := 0, locals := 66 }) 0 0 [.ref o, vi a] [(o, co 2 [vi N, vi P, .ref c, .ref l, .ref t]), (c, ca D 5 cap), (l, ca D 6 len), (t, ca D 30 lst)] (fun u => some (vi (sp N cap len lst a))) (fun u => True) (fun u => [(o, co 2 [vi N, vi P, .ref c, .ref l, .ref t]), (c, ca D 5 cap), (l, ca D 6 len), (t, ca D 30 lst)]) := by
  refine Con.of (cc := cX2_secondOf) (nL := 4) (ret := (some .int)) rfl (by decide +kernel) (Nat.le_of_ble_eq_true rfl) ?_
  intro X A Q O hQ hin
  show G X D A 4 Q 0 0 0 [(0, .ref o), (1, vi a)] [] [(o, co 2 [vi N, vi P, .ref c, .ref l, .ref t]), (c, ca D 5 cap), (l, ca D 6 len), (t, ca D 30 lst)]
  obtain ⟨hN, hcap, hlen, hlst, hdis⟩ := id hW
  have hla := hlen a (by omega) (by omega)
  refine g_iconst O dX2_secondOf_0 1 rfl ?_
  refine g_istore_n O dX2_secondOf_1 2 [(0, .ref o), (1, vi a), (2, vi 1)] rfl (by decide) rfl ?_
  have lp2 : ∀ (nn : Nat) (i : Int), (1 ≤ i ∧ (i ≤ len a ∨ i = 1)) → (∀ kk, 1 ≤ kk → kk < i → ¬ cf N len lst (row lst a kk) < cap (row lst a kk)) → (7 - i < (nn : Int)) → G X D A 4 Q 0 0 2 [(0, .ref o), (1, vi a), (2, vi i)] [] [(o, co 2 [vi N, vi P, .ref c, .ref l, .ref t]), (c, ca D 5 cap), (l, ca D 6 len), (t, ca D 30 lst)] := by
    intro nn
    induction nn with
    | zero =>
      intro i h1 h2 hm2
      exact absurd hm2 (by omega)
    | succ nn ih2 =>
      intro i h1 h2 hm2
      refine g_iload_n O dX2_secondOf_2 3 2 rfl rfl ?_
      refine g_aload_n O dX2_secondOf_3 4 0 rfl rfl ?_
      refine g_get O dX2_secondOf_4 7 rfl fX2_secondOf_15 0 rfl rfl ?_
      refine g_iload_n O dX2_secondOf_7 8 1 rfl rfl ?_
      refine g_iald O dX2_secondOf_8 9 rfl 2 rfl (by decide) (by omega) ?_
      refine g_icmp_ge O dX2_secondOf_9 12 41 rfl rfl (by omega) (fun h9 => ?_) (fun h9 => ?_)
      · skip
        refine g_iconst O dX2_secondOf_41 42 rfl ?_
        exact g_iret O hQ dX2_secondOf_42 () (vi_eq (sp_no (fun kk q1 q2 => h2 kk q1 (by omega)))) rfl trivial ⟨by decide, by decide⟩
      · skip
        have hli : 0 ≤ row lst a i ∧ row lst a i < P := hlst a i (by omega) (by omega) (by omega) (by omega)
        have hci := hcap (row lst a i) (by omega) (by omega)
        have hcf := cf_bd N len lst (row lst a i) (by omega)
        refine g_aload_n O dX2_secondOf_12 13 0 rfl rfl ?_
        refine g_iload_n O dX2_secondOf_13 14 1 rfl rfl ?_
        refine g_iload_n O dX2_secondOf_14 15 2 rfl rfl ?_
        refine g_callV (As := [vi a, vi i]) (rest := []) (na := 2) O (k_X2_listed D o c l t N P cap len lst a i (by omega) (by omega)) dX2_secondOf_15 gX2_secondOf_X2_listed rfl ⟨rfl, rfl⟩ (by decide +kernel) rfl (by decide) (by decide) rfl (by decide) (q0 := 0) (ci := 2) rfl rfl [0, 1, 2, 3] (by decide) rfl (fun _ => rfl) (fun _ => [(o, co 2 [vi N, vi P, .ref c, .ref l, .ref t]), (c, ca D 5 cap), (l, ca D 6 len), (t, ca D 30 lst)]) (fun _ => rfl) 18 rfl (fun _ _ => ?_)
        show G X D A 4 Q 0 0 18 [(0, .ref o), (1, vi a), (2, vi i)] [vi (row lst a i)] [(o, co 2 [vi N, vi P, .ref c, .ref l, .ref t]), (c, ca D 5 cap), (l, ca D 6 len), (t, ca D 30 lst)]
        refine g_istore_n O dX2_secondOf_18 19 [(0, .ref o), (1, vi a), (2, vi i), (3, vi (row lst a i))] rfl (by decide) rfl ?_
        refine g_aload_n O dX2_secondOf_19 20 0 rfl rfl ?_
        refine g_iload_n O dX2_secondOf_20 21 3 rfl rfl ?_
        refine g_callV (As := [vi (row lst a i)]) (rest := []) (na := 1) O (k_X2_countFirst D o c l t N P cap len lst (row lst a i) hW (by omega)) dX2_secondOf_21 gX2_secondOf_X2_countFirst rfl ⟨rfl, rfl⟩ (by decide +kernel) rfl (by decide) (by decide) rfl (by decide) (q0 := 0) (ci := 2) rfl rfl [0, 1, 2, 3] (by decide) rfl (fun _ => rfl) (fun _ => [(o, co 2 [vi N, vi P, .ref c, .ref l, .ref t]), (c, ca D 5 cap), (l, ca D 6 len), (t, ca D 30 lst)]) (fun _ => rfl) 24 rfl (fun _ _ => ?_)
        show G X D A 4 Q 0 0 24 [(0, .ref o), (1, vi a), (2, vi i), (3, vi (row lst a i))] [vi (cf N len lst (row lst a i))] [(o, co 2 [vi N, vi P, .ref c, .ref l, .ref t]), (c, ca D 5 cap), (l, ca D 6 len), (t, ca D 30 lst)]
        refine g_aload_n O dX2_secondOf_24 25 0 rfl rfl ?_
        refine g_get O dX2_secondOf_25 28 rfl fX2_secondOf_9 0 rfl rfl ?_
        refine g_iload_n O dX2_secondOf_28 29 3 rfl rfl ?_
        refine g_iald O dX2_secondOf_29 30 rfl 1 rfl (by decide) (by omega) ?_
        refine g_icmp_ge O dX2_secondOf_30 33 35 rfl rfl (by omega) (fun h30 => ?_) (fun h30 => ?_)
        · skip
          refine g_iinc O dX2_secondOf_35 38 2 [(0, .ref o), (1, vi a), (2, vi (i + 1)), (3, vi (row lst a i))] rfl (by decide) rfl rfl ?_
          refine g_goto O dX2_secondOf_38 2 rfl ?_
          refine g_loc (L' := [(0, .ref o), (1, vi a), (2, vi (i + 1))]) [0, 1, 2] rfl ?_
          exact ih2 (i + 1) (by omega) (fun kk q1 q2 => by rcases (show kk < i ∨ kk = i by omega) with q | q; exact h2 kk q1 q; rw [q]; omega) (by omega)
        · skip
          refine g_iload_n O dX2_secondOf_33 34 3 rfl rfl ?_
          exact g_iret O hQ dX2_secondOf_34 () (vi_eq (sp_at (by omega) (by omega) h2 h30)) rfl trivial ⟨by decide, by decide⟩
  exact lp2 1000 1 (by omega) (fun kk q1 q2 => absurd q2 (by omega)) (by omega)
theorem sX2_startAnew_2 : ∀ w ∈ wsX20, w ∈ wsX2_startAnew := by decide +kernel
theorem fX2_startAnew_15 : FK RX2 wsX2_startAnew 15 2 3 := ⟨RX2, TX2, 5, rfl, sX2_startAnew_2, by decide, List.mem_of_getElem? (i := 4) rfl⟩
theorem fX2_startAnew_25 : FK RX2 wsX2_startAnew 25 2 0 := ⟨RX2, TX2, 5, rfl, sX2_startAnew_2, by decide, List.mem_of_getElem? (i := 1) rfl⟩
theorem fX2_startAnew_29 : FK RX2 wsX2_startAnew 29 2 1 := ⟨RX2, TX2, 5, rfl, sX2_startAnew_2, by decide, List.mem_of_getElem? (i := 2) rfl⟩
theorem fX2_startAnew_9 : FK RX2 wsX2_startAnew 9 2 2 := ⟨RX2, TX2, 5, rfl, sX2_startAnew_2, by decide, List.mem_of_getElem? (i := 3) rfl⟩
set_option maxHeartbeats 4000000 in
set_option maxRecDepth 100000 in
theorem k_X2_startAnew (D : DD) (o c l t : Nat) (N P : Int) (cap len lst : Int → Int) (n p : Int) : Con (S := Unit) D yX2_startAnew wsX2_startAnew ({ frames := 0, cells := 0, slots := 0, locals := 0 }) 0 0 [.ref o, vi n, vi p] [(o, co 2 [vi N, vi P, .ref c, .ref l, .ref t]), (c, ca D 5 cap), (l, ca D 6 len), (t, ca D 30 lst)] (fun u => none) (fun u => True) (fun u => [(o, co 2 [vi n, vi p, .ref c, .ref l, .ref t]), (c, ca D 5 (fun _ => 1)), (l, ca D 6 (fun _ => 0)), (t, ca D 30 lst)]) := by
  refine Con.of (cc := cX2_startAnew) (nL := 4) (ret := none) rfl (by decide +kernel) (Nat.le_of_ble_eq_true rfl) ?_
  intro X A Q O hQ hin
  show G X D A 4 Q 0 0 0 [(0, .ref o), (1, vi n), (2, vi p)] [] [(o, co 2 [vi N, vi P, .ref c, .ref l, .ref t]), (c, ca D 5 cap), (l, ca D 6 len), (t, ca D 30 lst)]
  refine g_aload_n O dX2_startAnew_0 1 0 rfl rfl ?_
  refine g_iload_n O dX2_startAnew_1 2 1 rfl rfl ?_
  refine g_put O dX2_startAnew_2 5 rfl fX2_startAnew_25 pF2_0 0 rfl rfl rfl (Nat.le_of_ble_eq_true rfl) [(o, co 2 [vi n, vi P, .ref c, .ref l, .ref t]), (c, ca D 5 cap), (l, ca D 6 len), (t, ca D 30 lst)] rfl ?_
  refine g_aload_n O dX2_startAnew_5 6 0 rfl rfl ?_
  refine g_iload_n O dX2_startAnew_6 7 2 rfl rfl ?_
  refine g_put O dX2_startAnew_7 10 rfl fX2_startAnew_29 pF2_1 0 rfl rfl rfl (Nat.le_of_ble_eq_true rfl) [(o, co 2 [vi n, vi p, .ref c, .ref l, .ref t]), (c, ca D 5 cap), (l, ca D 6 len), (t, ca D 30 lst)] rfl ?_
  refine g_iconst O dX2_startAnew_10 11 rfl ?_
  refine g_istore_n O dX2_startAnew_11 12 [(0, .ref o), (1, vi n), (2, vi p), (3, vi 0)] rfl (by decide) rfl ?_
  have lp12 : ∀ (nn : Nat) (i : Int) (f : Int → Int), (0 ≤ i ∧ i ≤ 5) → (∀ kk, 0 ≤ kk → kk < i → f kk = 1) → (5 - i < (nn : Int)) → G X D A 4 Q 0 0 12 [(0, .ref o), (1, vi n), (2, vi p), (3, vi i)] [] [(o, co 2 [vi n, vi p, .ref c, .ref l, .ref t]), (c, ca D 5 f), (l, ca D 6 len), (t, ca D 30 lst)] := by
    intro nn
    induction nn with
    | zero =>
      intro i f h1 h2 hm12
      exact absurd hm12 (by omega)
    | succ nn ih12 =>
      intro i f h1 h2 hm12
      refine g_iload_n O dX2_startAnew_12 13 3 rfl rfl ?_
      refine g_iconst O dX2_startAnew_13 14 rfl ?_
      refine g_icmp_ge O dX2_startAnew_14 17 30 rfl rfl (by omega) (fun h14 => ?_) (fun h14 => ?_)
      · skip
        refine g_arr 1 (fun _ => 1) rfl (fun kk q1 q2 => h2 kk q1 (by omega)) [(o, co 2 [vi n, vi p, .ref c, .ref l, .ref t]), (c, ca D 5 (fun _ => 1)), (l, ca D 6 len), (t, ca D 30 lst)] rfl ?_
        refine g_iconst O dX2_startAnew_30 31 rfl ?_
        refine g_istore_n O dX2_startAnew_31 32 [(0, .ref o), (1, vi n), (2, vi p), (3, vi 0)] rfl (by decide) rfl ?_
        have lp32 : ∀ (nn : Nat) (i : Int) (g : Int → Int), (0 ≤ i ∧ i ≤ 6) → (∀ kk, 0 ≤ kk → kk < i → g kk = 0) → (6 - i < (nn : Int)) → G X D A 4 Q 0 0 32 [(0, .ref o), (1, vi n), (2, vi p), (3, vi i)] [] [(o, co 2 [vi n, vi p, .ref c, .ref l, .ref t]), (c, ca D 5 (fun _ => 1)), (l, ca D 6 g), (t, ca D 30 lst)] := by
          intro nn
          induction nn with
          | zero =>
            intro i g h1 h2 hm32
            exact absurd hm32 (by omega)
          | succ nn ih32 =>
            intro i g h1 h2 hm32
            refine g_iload_n O dX2_startAnew_32 33 3 rfl rfl ?_
            refine g_bipush O dX2_startAnew_33 35 rfl (by decide) ?_
            refine g_icmp_ge O dX2_startAnew_35 38 51 rfl rfl (by omega) (fun h35 => ?_) (fun h35 => ?_)
            · skip
              refine g_arr 2 (fun _ => 0) rfl (fun kk q1 q2 => h2 kk q1 (by omega)) [(o, co 2 [vi n, vi p, .ref c, .ref l, .ref t]), (c, ca D 5 (fun _ => 1)), (l, ca D 6 (fun _ => 0)), (t, ca D 30 lst)] rfl ?_
              exact g_vret O hQ dX2_startAnew_51 () rfl rfl trivial ⟨by decide, by decide⟩
            · skip
              refine g_aload_n O dX2_startAnew_38 39 0 rfl rfl ?_
              refine g_get O dX2_startAnew_39 42 rfl fX2_startAnew_15 0 rfl rfl ?_
              refine g_iload_n O dX2_startAnew_42 43 3 rfl rfl ?_
              refine g_iconst O dX2_startAnew_43 44 rfl ?_
              refine g_iast O dX2_startAnew_44 45 rfl 2 rfl (by decide) (by omega) [(o, co 2 [vi n, vi p, .ref c, .ref l, .ref t]), (c, ca D 5 (fun _ => 1)), (l, ca D 6 (up g i 0)), (t, ca D 30 lst)] rfl ?_
              refine g_iinc O dX2_startAnew_45 48 3 [(0, .ref o), (1, vi n), (2, vi p), (3, vi (i + 1))] rfl (by decide) rfl rfl ?_
              refine g_goto O dX2_startAnew_48 32 rfl ?_
              exact ih32 (i + 1) (up g i 0) (by omega) (up_inv h2) (by omega)
        exact lp32 1000 0 len (by omega) (fun kk q1 q2 => absurd q2 (by omega)) (by omega)
      · skip
        refine g_aload_n O dX2_startAnew_17 18 0 rfl rfl ?_
        refine g_get O dX2_startAnew_18 21 rfl fX2_startAnew_9 0 rfl rfl ?_
        refine g_iload_n O dX2_startAnew_21 22 3 rfl rfl ?_
        refine g_iconst O dX2_startAnew_22 23 rfl ?_
        refine g_iast O dX2_startAnew_23 24 rfl 1 rfl (by decide) (by omega) [(o, co 2 [vi n, vi p, .ref c, .ref l, .ref t]), (c, ca D 5 (up f i 1)), (l, ca D 6 len), (t, ca D 30 lst)] rfl ?_
        refine g_iinc O dX2_startAnew_24 27 3 [(0, .ref o), (1, vi n), (2, vi p), (3, vi (i + 1))] rfl (by decide) rfl rfl ?_
        refine g_goto O dX2_startAnew_27 12 rfl ?_
        exact ih12 (i + 1) (up f i 1) (by omega) (up_inv h2) (by omega)
  exact lp12 1000 0 cap (by omega) (fun kk q1 q2 => absurd q2 (by omega)) (by omega)
theorem sX3_clear_3 : ∀ w ∈ wsX30, w ∈ wsX3_clear := by decide +kernel
theorem fX3_clear_9 : FK RX3 wsX3_clear 9 3 0 := ⟨RX3, TX3, 1, rfl, sX3_clear_3, by decide, List.mem_of_getElem? (i := 1) rfl⟩
set_option maxHeartbeats 4000000 in
set_option maxRecDepth 100000 in
theorem k_X3_clear (D : DD) (o b : Nat) (m : Int → Int) : Con (S := Unit) D yX3_clear wsX3_clear ({ frames := 0, cells := 0, slots := 0, locals := 0 }) 0 0 [.ref o] [(o, co 3 [.ref b]), (b, ca D 6 m)] (fun u => none) (fun u => True) (fun u => [(o, co 3 [.ref b]), (b, ca D 6 (fun _ => -1))]) := by
  refine Con.of (cc := cX3_clear) (nL := 2) (ret := none) rfl (by decide +kernel) (Nat.le_of_ble_eq_true rfl) ?_
  intro X A Q O hQ hin
  show G X D A 2 Q 0 0 0 [(0, .ref o)] [] [(o, co 3 [.ref b]), (b, ca D 6 m)]
  refine g_iconst O dX3_clear_0 1 rfl ?_
  refine g_istore_n O dX3_clear_1 2 [(0, .ref o), (1, vi 0)] rfl (by decide) rfl ?_
  have lp2 : ∀ (nn : Nat) (i : Int) (f : Int → Int), (0 ≤ i ∧ i ≤ 6) → (∀ kk, 0 ≤ kk → kk < i → f kk = -1) → (6 - i < (nn : Int)) → G X D A 2 Q 0 0 2 [(0, .ref o), (1, vi i)] [] [(o, co 3 [.ref b]), (b, ca D 6 f)] := by
    intro nn
    induction nn with
    | zero =>
      intro i f h1 h2 hm2
      exact absurd hm2 (by omega)
    | succ nn ih2 =>
      intro i f h1 h2 hm2
      refine g_iload_n O dX3_clear_2 3 1 rfl rfl ?_
      refine g_bipush O dX3_clear_3 5 rfl (by decide) ?_
      refine g_icmp_ge O dX3_clear_5 8 21 rfl rfl (by omega) (fun h5 => ?_) (fun h5 => ?_)
      · skip
        refine g_arr 1 (fun _ => -1) rfl (fun kk q1 q2 => h2 kk q1 (by omega)) [(o, co 3 [.ref b]), (b, ca D 6 (fun _ => -1))] rfl ?_
        exact g_vret O hQ dX3_clear_21 () rfl rfl trivial ⟨by decide, by decide⟩
      · skip
        refine g_aload_n O dX3_clear_8 9 0 rfl rfl ?_
        refine g_get O dX3_clear_9 12 rfl fX3_clear_9 0 rfl rfl ?_
        refine g_iload_n O dX3_clear_12 13 1 rfl rfl ?_
        refine g_iconst O dX3_clear_13 14 rfl ?_
        refine g_iast O dX3_clear_14 15 rfl 1 rfl (by decide) (by omega) [(o, co 3 [.ref b]), (b, ca D 6 (up f i (-1)))] rfl ?_
        refine g_iinc O dX3_clear_15 18 1 [(0, .ref o), (1, vi (i + 1))] rfl (by decide) rfl rfl ?_
        refine g_goto O dX3_clear_18 2 rfl ?_
        exact ih2 (i + 1) (up f i (-1)) (by omega) (up_inv h2) (by omega)
  exact lp2 1000 0 m (by omega) (fun kk q1 q2 => absurd q2 (by omega)) (by omega)
theorem sX3_copyFrom_3 : ∀ w ∈ wsX30, w ∈ wsX3_copyFrom := by decide +kernel
theorem fX3_copyFrom_9 : FK RX3 wsX3_copyFrom 9 3 0 := ⟨RX3, TX3, 1, rfl, sX3_copyFrom_3, by decide, List.mem_of_getElem? (i := 1) rfl⟩
set_option maxHeartbeats 4000000 in
set_option maxRecDepth 100000 in
theorem k_X3_copyFrom (D : DD) (o b o2 b2 : Nat) (m m2 : Int → Int) : Con (S := Unit) D yX3_copyFrom wsX3_copyFrom ({ frames := 0, cells := 0, slots := 0, locals := 0 }) 0 0 [.ref o, .ref o2] [(o, co 3 [.ref b]), (b, ca D 6 m), (o2, co 3 [.ref b2]), (b2, ca D 6 m2)] (fun u => none) (fun u => True) (fun u => [(o, co 3 [.ref b]), (b, ca D 6 m2), (o2, co 3 [.ref b2]), (b2, ca D 6 m2)]) := by
  refine Con.of (cc := cX3_copyFrom) (nL := 3) (ret := none) rfl (by decide +kernel) (Nat.le_of_ble_eq_true rfl) ?_
  intro X A Q O hQ hin
  show G X D A 3 Q 0 0 0 [(0, .ref o), (1, .ref o2)] [] [(o, co 3 [.ref b]), (b, ca D 6 m), (o2, co 3 [.ref b2]), (b2, ca D 6 m2)]
  refine g_iconst O dX3_copyFrom_0 1 rfl ?_
  refine g_istore_n O dX3_copyFrom_1 2 [(0, .ref o), (1, .ref o2), (2, vi 0)] rfl (by decide) rfl ?_
  have lp2 : ∀ (nn : Nat) (i : Int) (f : Int → Int), (0 ≤ i ∧ i ≤ 6) → (∀ kk, 0 ≤ kk → kk < i → f kk = m2 kk) → (6 - i < (nn : Int)) → G X D A 3 Q 0 0 2 [(0, .ref o), (1, .ref o2), (2, vi i)] [] [(o, co 3 [.ref b]), (b, ca D 6 f), (o2, co 3 [.ref b2]), (b2, ca D 6 m2)] := by
    intro nn
    induction nn with
    | zero =>
      intro i f h1 h2 hm2
      exact absurd hm2 (by omega)
    | succ nn ih2 =>
      intro i f h1 h2 hm2
      refine g_iload_n O dX3_copyFrom_2 3 2 rfl rfl ?_
      refine g_bipush O dX3_copyFrom_3 5 rfl (by decide) ?_
      refine g_icmp_ge O dX3_copyFrom_5 8 26 rfl rfl (by omega) (fun h5 => ?_) (fun h5 => ?_)
      · skip
        refine g_arr 1 m2 rfl (fun kk q1 q2 => h2 kk q1 (by omega)) [(o, co 3 [.ref b]), (b, ca D 6 m2), (o2, co 3 [.ref b2]), (b2, ca D 6 m2)] rfl ?_
        exact g_vret O hQ dX3_copyFrom_26 () rfl rfl trivial ⟨by decide, by decide⟩
      · skip
        refine g_aload_n O dX3_copyFrom_8 9 0 rfl rfl ?_
        refine g_get O dX3_copyFrom_9 12 rfl fX3_copyFrom_9 0 rfl rfl ?_
        refine g_iload_n O dX3_copyFrom_12 13 2 rfl rfl ?_
        refine g_aload_n O dX3_copyFrom_13 14 1 rfl rfl ?_
        refine g_get O dX3_copyFrom_14 17 rfl fX3_copyFrom_9 2 rfl rfl ?_
        refine g_iload_n O dX3_copyFrom_17 18 2 rfl rfl ?_
        refine g_iald O dX3_copyFrom_18 19 rfl 3 rfl (by decide) (by omega) ?_
        refine g_iast O dX3_copyFrom_19 20 rfl 1 rfl (by decide) (by omega) [(o, co 3 [.ref b]), (b, ca D 6 (up f i (m2 i))), (o2, co 3 [.ref b2]), (b2, ca D 6 m2)] rfl ?_
        refine g_iinc O dX3_copyFrom_20 23 2 [(0, .ref o), (1, .ref o2), (2, vi (i + 1))] rfl (by decide) rfl rfl ?_
        refine g_goto O dX3_copyFrom_23 2 rfl ?_
        exact ih2 (i + 1) (up f i (m2 i)) (by omega) (up_inv2 h2) (by omega)
  exact lp2 1000 0 m (by omega) (fun kk q1 q2 => absurd q2 (by omega)) (by omega)
theorem sX3_countPlaced_3 : ∀ w ∈ wsX30, w ∈ wsX3_countPlaced := by decide +kernel
theorem fX3_countPlaced_9 : FK RX3 wsX3_countPlaced 9 3 0 := ⟨RX3, TX3, 1, rfl, sX3_countPlaced_3, by decide, List.mem_of_getElem? (i := 1) rfl⟩
set_option maxHeartbeats 4000000 in
set_option maxRecDepth 100000 in
theorem k_X3_countPlaced (D : DD) (o b : Nat) (m : Int → Int) (hm : ∀ kk, 0 ≤ kk → kk < 6 → -1 ≤ m kk ∧ m kk < 5) : Con (S := Unit) D yX3_countPlaced wsX3_countPlaced ({ frames := 0, cells := 0, slots := 0, locals := 0 }) 0 0 [.ref o] [(o, co 3 [.ref b]), (b, ca D 6 m)] (fun u => some (vi (sm (plc m) 6))) (fun u => True) (fun u => [(o, co 3 [.ref b]), (b, ca D 6 m)]) := by
  refine Con.of (cc := cX3_countPlaced) (nL := 3) (ret := (some .int)) rfl (by decide +kernel) (Nat.le_of_ble_eq_true rfl) ?_
  intro X A Q O hQ hin
  show G X D A 3 Q 0 0 0 [(0, .ref o)] [] [(o, co 3 [.ref b]), (b, ca D 6 m)]
  refine g_iconst O dX3_countPlaced_0 1 rfl ?_
  refine g_istore_n O dX3_countPlaced_1 2 [(0, .ref o), (1, vi 0)] rfl (by decide) rfl ?_
  refine g_iconst O dX3_countPlaced_2 3 rfl ?_
  refine g_istore_n O dX3_countPlaced_3 4 [(0, .ref o), (1, vi 0), (2, vi 0)] rfl (by decide) rfl ?_
  have lp4 : ∀ (nn : Nat) (i : Int) (s : Int), (0 ≤ i ∧ i ≤ 6) → (s = sm (plc m) i) → (6 - i < (nn : Int)) → G X D A 3 Q 0 0 4 [(0, .ref o), (1, vi s), (2, vi i)] [] [(o, co 3 [.ref b]), (b, ca D 6 m)] := by
    intro nn
    induction nn with
    | zero =>
      intro i s h1 h2 hm4
      exact absurd hm4 (by omega)
    | succ nn ih4 =>
      intro i s h1 h2 hm4
      refine g_iload_n O dX3_countPlaced_4 5 2 rfl rfl ?_
      refine g_bipush O dX3_countPlaced_5 7 rfl (by decide) ?_
      refine g_icmp_ge O dX3_countPlaced_7 10 29 rfl rfl (by omega) (fun h7 => ?_) (fun h7 => ?_)
      · skip
        refine g_iload_n O dX3_countPlaced_29 30 1 rfl rfl ?_
        exact g_iret O hQ dX3_countPlaced_30 () (vi_eq (by rw [h2, show i = 6 by omega])) rfl trivial ⟨by decide, by decide⟩
      · skip
        have hmi := hm i (by omega) (by omega)
        refine g_aload_n O dX3_countPlaced_10 11 0 rfl rfl ?_
        refine g_get O dX3_countPlaced_11 14 rfl fX3_countPlaced_9 0 rfl rfl ?_
        refine g_iload_n O dX3_countPlaced_14 15 2 rfl rfl ?_
        refine g_iald O dX3_countPlaced_15 16 rfl 1 rfl (by decide) (by omega) ?_
        refine g_iconst O dX3_countPlaced_16 17 rfl ?_
        refine g_icmp_eq O dX3_countPlaced_17 20 23 rfl rfl (by omega) (fun h17 => ?_) (fun h17 => ?_)
        · skip
          refine g_iinc O dX3_countPlaced_23 26 2 [(0, .ref o), (1, vi s), (2, vi (i + 1))] rfl (by decide) rfl rfl ?_
          refine g_goto O dX3_countPlaced_26 4 rfl ?_
          exact ih4 (i + 1) s (by omega) (by rw [sm_s _ h1.1, ← h2]; unfold plc; split <;> omega) (by omega)
        · skip
          refine g_iinc O dX3_countPlaced_20 23 1 [(0, .ref o), (1, vi (s + 1)), (2, vi i)] rfl (by decide) rfl rfl ?_
          refine g_iinc O dX3_countPlaced_23 26 2 [(0, .ref o), (1, vi (s + 1)), (2, vi (i + 1))] rfl (by decide) rfl rfl ?_
          refine g_goto O dX3_countPlaced_26 4 rfl ?_
          exact ih4 (i + 1) (s + 1) (by omega) (by rw [sm_s _ h1.1, ← h2]; unfold plc; split <;> omega) (by omega)
  exact lp4 1000 0 0 (by omega) (sm_0 _).symm (by omega)
theorem sX3_othersAt_3 : ∀ w ∈ wsX30, w ∈ wsX3_othersAt := by decide +kernel
theorem fX3_othersAt_9 : FK RX3 wsX3_othersAt 9 3 0 := ⟨RX3, TX3, 1, rfl, sX3_othersAt_3, by decide, List.mem_of_getElem? (i := 1) rfl⟩
set_option maxHeartbeats 4000000 in
set_option maxRecDepth 100000 in
theorem k_X3_othersAt (D : DD) (o b : Nat) (m : Int → Int) (p x : Int) (hm : ∀ kk, 0 ≤ kk → kk < 6 → -1 ≤ m kk ∧ m kk < 5) (hp : -2147483648 ≤ p ∧ p < 2147483648) (hx : -2147483648 ≤ x ∧ x < 2147483648) : Con (S := Unit) D yX3_othersAt wsX3_othersAt ({ frames := 0, cells := 0, slots := 0, locals := 0 }) 0 0 [.ref o, vi p, vi x] [(o, co 3 [.ref b]), (b, ca D 6 m)] (fun u => some (vi (sm (oth m p x) 6))) (fun u => True) (fun u => [(o, co 3 [.ref b]), (b, ca D 6 m)]) := by
  refine Con.of (cc := cX3_othersAt) (nL := 5) (ret := (some .int)) rfl (by decide +kernel) (Nat.le_of_ble_eq_true rfl) ?_
  intro X A Q O hQ hin
  show G X D A 5 Q 0 0 0 [(0, .ref o), (1, vi p), (2, vi x)] [] [(o, co 3 [.ref b]), (b, ca D 6 m)]
  refine g_iconst O dX3_othersAt_0 1 rfl ?_
  refine g_istore_n O dX3_othersAt_1 2 [(0, .ref o), (1, vi p), (2, vi x), (3, vi 0)] rfl (by decide) rfl ?_
  refine g_iconst O dX3_othersAt_2 3 rfl ?_
  refine g_istore O dX3_othersAt_3 5 [(0, .ref o), (1, vi p), (2, vi x), (3, vi 0), (4, vi 0)] rfl (by decide) rfl ?_
  have lp5 : ∀ (nn : Nat) (i : Int) (s : Int), (0 ≤ i ∧ i ≤ 6) → (s = sm (oth m p x) i) → (6 - i < (nn : Int)) → G X D A 5 Q 0 0 5 [(0, .ref o), (1, vi p), (2, vi x), (3, vi s), (4, vi i)] [] [(o, co 3 [.ref b]), (b, ca D 6 m)] := by
    intro nn
    induction nn with
    | zero =>
      intro i s h1 h2 hm5
      exact absurd hm5 (by omega)
    | succ nn ih5 =>
      intro i s h1 h2 hm5
      refine g_iload O dX3_othersAt_5 7 4 rfl rfl ?_
      refine g_bipush O dX3_othersAt_7 9 rfl (by decide) ?_
      refine g_icmp_ge O dX3_othersAt_9 12 38 rfl rfl (by omega) (fun h9 => ?_) (fun h9 => ?_)
      · skip
        refine g_iload_n O dX3_othersAt_38 39 3 rfl rfl ?_
        exact g_iret O hQ dX3_othersAt_39 () (vi_eq (by rw [h2, show i = 6 by omega])) rfl trivial ⟨by decide, by decide⟩
      · skip
        refine g_iload O dX3_othersAt_12 14 4 rfl rfl ?_
        refine g_iload_n O dX3_othersAt_14 15 2 rfl rfl ?_
        refine g_icmp_eq O dX3_othersAt_15 18 32 rfl rfl (by omega) (fun h15 => ?_) (fun h15 => ?_)
        · skip
          refine g_iinc O dX3_othersAt_32 35 4 [(0, .ref o), (1, vi p), (2, vi x), (3, vi s), (4, vi (i + 1))] rfl (by decide) rfl rfl ?_
          refine g_goto O dX3_othersAt_35 5 rfl ?_
          exact ih5 (i + 1) s (by omega) (by rw [sm_s _ h1.1, ← h2]; unfold oth; split <;> omega) (by omega)
        · skip
          have hmi := hm i (by omega) (by omega)
          refine g_aload_n O dX3_othersAt_18 19 0 rfl rfl ?_
          refine g_get O dX3_othersAt_19 22 rfl fX3_othersAt_9 0 rfl rfl ?_
          refine g_iload O dX3_othersAt_22 24 4 rfl rfl ?_
          refine g_iald O dX3_othersAt_24 25 rfl 1 rfl (by decide) (by omega) ?_
          refine g_iload_n O dX3_othersAt_25 26 1 rfl rfl ?_
          refine g_icmp_ne O dX3_othersAt_26 29 32 rfl rfl (by omega) (fun h26 => ?_) (fun h26 => ?_)
          · skip
            refine g_iinc O dX3_othersAt_32 35 4 [(0, .ref o), (1, vi p), (2, vi x), (3, vi s), (4, vi (i + 1))] rfl (by decide) rfl rfl ?_
            refine g_goto O dX3_othersAt_35 5 rfl ?_
            exact ih5 (i + 1) s (by omega) (by rw [sm_s _ h1.1, ← h2]; unfold oth; split <;> omega) (by omega)
          · skip
            refine g_iinc O dX3_othersAt_29 32 3 [(0, .ref o), (1, vi p), (2, vi x), (3, vi (s + 1)), (4, vi i)] rfl (by decide) rfl rfl ?_
            refine g_iinc O dX3_othersAt_32 35 4 [(0, .ref o), (1, vi p), (2, vi x), (3, vi (s + 1)), (4, vi (i + 1))] rfl (by decide) rfl rfl ?_
            refine g_goto O dX3_othersAt_35 5 rfl ?_
            exact ih5 (i + 1) (s + 1) (by omega) (by rw [sm_s _ h1.1, ← h2]; unfold oth; split <;> omega) (by omega)
  exact lp5 1000 0 0 (by omega) (sm_0 _).symm (by omega)
end
section
/-- what the history holds behind an edit -/
def hpc (cnt : Int) : Int := if cnt = 5 then 5 else cnt + 1
def hpu (cnt : Int) (hp : Int → Int → Int) (v : Int → Int) (e : Int) : Int → Int := if cnt = 5 then (if e = 4 then v else hp (e + 1)) else if e = cnt then v else hp e
theorem sX1_forget_1 : ∀ w ∈ wsX10, w ∈ wsX1_forget := by decide +kernel
theorem fX1_forget_9 : FK RX1 wsX1_forget 9 1 0 := ⟨RX1, TX1, 3, rfl, sX1_forget_1, by decide, List.mem_of_getElem? (i := 1) rfl⟩
set_option maxHeartbeats 4000000 in
set_option maxRecDepth 100000 in
theorem k_X1_forget (D : DD) (ad : Nat → Nat) (cnt : Int) (hp hs : Int → Int → Int) : Con (S := Unit) D yX1_forget wsX1_forget ({ frames := 0, cells := 0, slots := 0, locals := 0 }) 0 0 [.ref (ad 11)] [(ad 11, co 1 [vi cnt, .ref (ad 12), .ref (ad 13)]), (ad 12, cq D 5 (qf [some (ad 14), some (ad 16), some (ad 18), some (ad 20), some (ad 22)])), (ad 13, cq D 5 (qf [some (ad 24), some (ad 26), some (ad 28), some (ad 30), some (ad 32)])), (ad 14, co 3 [.ref (ad 15)]), (ad 15, ca D 6 (hp 0)), (ad 16, co 3 [.ref (ad 17)]), (ad 17, ca D 6 (hp 1)), (ad 18, co 3 [.ref (ad 19)]), (ad 19, ca D 6 (hp 2)), (ad 20, co 3 [.ref (ad 21)]), (ad 21, ca D 6 (hp 3)), (ad 22, co 3 [.ref (ad 23)]), (ad 23, ca D 6 (hp 4)), (ad 24, co 3 [.ref (ad 25)]), (ad 25, ca D 6 (hs 0)), (ad 26, co 3 [.ref (ad 27)]), (ad 27, ca D 6 (hs 1)), (ad 28, co 3 [.ref (ad 29)]), (ad 29, ca D 6 (hs 2)), (ad 30, co 3 [.ref (ad 31)]), (ad 31, ca D 6 (hs 3)), (ad 32, co 3 [.ref (ad 33)]), (ad 33, ca D 6 (hs 4))] (fun u => none) (fun u => True) (fun u => [(ad 11, co 1 [vi 0, .ref (ad 12), .ref (ad 13)]), (ad 12, cq D 5 (qf [some (ad 14), some (ad 16), some (ad 18), some (ad 20), some (ad 22)])), (ad 13, cq D 5 (qf [some (ad 24), some (ad 26), some (ad 28), some (ad 30), some (ad 32)])), (ad 14, co 3 [.ref (ad 15)]), (ad 15, ca D 6 (hp 0)), (ad 16, co 3 [.ref (ad 17)]), (ad 17, ca D 6 (hp 1)), (ad 18, co 3 [.ref (ad 19)]), (ad 19, ca D 6 (hp 2)), (ad 20, co 3 [.ref (ad 21)]), (ad 21, ca D 6 (hp 3)), (ad 22, co 3 [.ref (ad 23)]), (ad 23, ca D 6 (hp 4)), (ad 24, co 3 [.ref (ad 25)]), (ad 25, ca D 6 (hs 0)), (ad 26, co 3 [.ref (ad 27)]), (ad 27, ca D 6 (hs 1)), (ad 28, co 3 [.ref (ad 29)]), (ad 29, ca D 6 (hs 2)), (ad 30, co 3 [.ref (ad 31)]), (ad 31, ca D 6 (hs 3)), (ad 32, co 3 [.ref (ad 33)]), (ad 33, ca D 6 (hs 4))]) := by
  refine Con.of (cc := cX1_forget) (nL := 1) (ret := none) rfl (by decide +kernel) (Nat.le_of_ble_eq_true rfl) ?_
  intro X A Q O hQ hin
  show G X D A 1 Q 0 0 0 [(0, .ref (ad 11))] [] [(ad 11, co 1 [vi cnt, .ref (ad 12), .ref (ad 13)]), (ad 12, cq D 5 (qf [some (ad 14), some (ad 16), some (ad 18), some (ad 20), some (ad 22)])), (ad 13, cq D 5 (qf [some (ad 24), some (ad 26), some (ad 28), some (ad 30), some (ad 32)])), (ad 14, co 3 [.ref (ad 15)]), (ad 15, ca D 6 (hp 0)), (ad 16, co 3 [.ref (ad 17)]), (ad 17, ca D 6 (hp 1)), (ad 18, co 3 [.ref (ad 19)]), (ad 19, ca D 6 (hp 2)), (ad 20, co 3 [.ref (ad 21)]), (ad 21, ca D 6 (hp 3)), (ad 22, co 3 [.ref (ad 23)]), (ad 23, ca D 6 (hp 4)), (ad 24, co 3 [.ref (ad 25)]), (ad 25, ca D 6 (hs 0)), (ad 26, co 3 [.ref (ad 27)]), (ad 27, ca D 6 (hs 1)), (ad 28, co 3 [.ref (ad 29)]), (ad 29, ca D 6 (hs 2)), (ad 30, co 3 [.ref (ad 31)]), (ad 31, ca D 6 (hs 3)), (ad 32, co 3 [.ref (ad 33)]), (ad 33, ca D 6 (hs 4))]
  refine g_aload_n O dX1_forget_0 1 0 rfl rfl ?_
  refine g_iconst O dX1_forget_1 2 rfl ?_
  refine g_put O dX1_forget_2 5 rfl fX1_forget_9 pF1_0 0 rfl rfl rfl (Nat.le_of_ble_eq_true rfl) [(ad 11, co 1 [vi 0, .ref (ad 12), .ref (ad 13)]), (ad 12, cq D 5 (qf [some (ad 14), some (ad 16), some (ad 18), some (ad 20), some (ad 22)])), (ad 13, cq D 5 (qf [some (ad 24), some (ad 26), some (ad 28), some (ad 30), some (ad 32)])), (ad 14, co 3 [.ref (ad 15)]), (ad 15, ca D 6 (hp 0)), (ad 16, co 3 [.ref (ad 17)]), (ad 17, ca D 6 (hp 1)), (ad 18, co 3 [.ref (ad 19)]), (ad 19, ca D 6 (hp 2)), (ad 20, co 3 [.ref (ad 21)]), (ad 21, ca D 6 (hp 3)), (ad 22, co 3 [.ref (ad 23)]), (ad 23, ca D 6 (hp 4)), (ad 24, co 3 [.ref (ad 25)]), (ad 25, ca D 6 (hs 0)), (ad 26, co 3 [.ref (ad 27)]), (ad 27, ca D 6 (hs 1)), (ad 28, co 3 [.ref (ad 29)]), (ad 29, ca D 6 (hs 2)), (ad 30, co 3 [.ref (ad 31)]), (ad 31, ca D 6 (hs 3)), (ad 32, co 3 [.ref (ad 33)]), (ad 33, ca D 6 (hs 4))] rfl ?_
  exact g_vret O hQ dX1_forget_5 () rfl rfl trivial ⟨by decide, by decide⟩
theorem sX1_dropOldest_1 : ∀ w ∈ wsX10, w ∈ wsX1_dropOldest := by decide +kernel
theorem fX1_dropOldest_17 : FK RX1 wsX1_dropOldest 17 1 1 := ⟨RX1, TX1, 3, rfl, sX1_dropOldest_1, by decide, List.mem_of_getElem? (i := 1) rfl⟩
theorem fX1_dropOldest_21 : FK RX1 wsX1_dropOldest 21 1 2 := ⟨RX1, TX1, 3, rfl, sX1_dropOldest_1, by decide, List.mem_of_getElem? (i := 2) rfl⟩
theorem fX1_dropOldest_9 : FK RX1 wsX1_dropOldest 9 1 0 := ⟨RX1, TX1, 3, rfl, sX1_dropOldest_1, by decide, List.mem_of_getElem? (i := 3) rfl⟩
set_option maxHeartbeats 4000000 in
set_option maxRecDepth 100000 in
theorem k_X1_dropOldest (D : DD) (ad : Nat → Nat) (cnt : Int) (hp hs : Int → Int → Int) : Con (S := Unit) D yX1_dropOldest wsX1_dropOldest ({ frames := 1, cells := 0, slots := 0, locals := 22 }) 0 0 [.ref (ad 11)] [(ad 11, co 1 [vi cnt, .ref (ad 12), .ref (ad 13)]), (ad 12, cq D 5 (qf [some (ad 14), some (ad 16), some (ad 18), some (ad 20), some (ad 22)])), (ad 13, cq D 5 (qf [some (ad 24), some (ad 26), some (ad 28), some (ad 30), some (ad 32)])), (ad 14, co 3 [.ref (ad 15)]), (ad 15, ca D 6 (hp 0)), (ad 16, co 3 [.ref (ad 17)]), (ad 17, ca D 6 (hp 1)), (ad 18, co 3 [.ref (ad 19)]), (ad 19, ca D 6 (hp 2)), (ad 20, co 3 [.ref (ad 21)]), (ad 21, ca D 6 (hp 3)), (ad 22, co 3 [.ref (ad 23)]), (ad 23, ca D 6 (hp 4)), (ad 24, co 3 [.ref (ad 25)]), (ad 25, ca D 6 (hs 0)), (ad 26, co 3 [.ref (ad 27)]), (ad 27, ca D 6 (hs 1)), (ad 28, co 3 [.ref (ad 29)]), (ad 29, ca D 6 (hs 2)), (ad 30, co 3 [.ref (ad 31)]), (ad 31, ca D 6 (hs 3)), (ad 32, co 3 [.ref (ad 33)]), (ad 33, ca D 6 (hs 4))] (fun u => none) (fun u => True) (fun u => [(ad 11, co 1 [vi 4, .ref (ad 12), .ref (ad 13)]), (ad 12, cq D 5 (qf [some (ad 14), some (ad 16), some (ad 18), some (ad 20), some (ad 22)])), (ad 13, cq D 5 (qf [some (ad 24), some (ad 26), some (ad 28), some (ad 30), some (ad 32)])), (ad 14, co 3 [.ref (ad 15)]), (ad 15, ca D 6 (hp 1)), (ad 16, co 3 [.ref (ad 17)]), (ad 17, ca D 6 (hp 2)), (ad 18, co 3 [.ref (ad 19)]), (ad 19, ca D 6 (hp 3)), (ad 20, co 3 [.ref (ad 21)]), (ad 21, ca D 6 (hp 4)), (ad 22, co 3 [.ref (ad 23)]), (ad 23, ca D 6 (hp 4)), (ad 24, co 3 [.ref (ad 25)]), (ad 25, ca D 6 (hs 1)), (ad 26, co 3 [.ref (ad 27)]), (ad 27, ca D 6 (hs 2)), (ad 28, co 3 [.ref (ad 29)]), (ad 29, ca D 6 (hs 3)), (ad 30, co 3 [.ref (ad 31)]), (ad 31, ca D 6 (hs 4)), (ad 32, co 3 [.ref (ad 33)]), (ad 33, ca D 6 (hs 4))]) := by
  refine Con.of (cc := cX1_dropOldest) (nL := 2) (ret := none) rfl (by decide +kernel) (Nat.le_of_ble_eq_true rfl) ?_
  intro X A Q O hQ hin
  show G X D A 2 Q 0 0 0 [(0, .ref (ad 11))] [] [(ad 11, co 1 [vi cnt, .ref (ad 12), .ref (ad 13)]), (ad 12, cq D 5 (qf [some (ad 14), some (ad 16), some (ad 18), some (ad 20), some (ad 22)])), (ad 13, cq D 5 (qf [some (ad 24), some (ad 26), some (ad 28), some (ad 30), some (ad 32)])), (ad 14, co 3 [.ref (ad 15)]), (ad 15, ca D 6 (hp 0)), (ad 16, co 3 [.ref (ad 17)]), (ad 17, ca D 6 (hp 1)), (ad 18, co 3 [.ref (ad 19)]), (ad 19, ca D 6 (hp 2)), (ad 20, co 3 [.ref (ad 21)]), (ad 21, ca D 6 (hp 3)), (ad 22, co 3 [.ref (ad 23)]), (ad 23, ca D 6 (hp 4)), (ad 24, co 3 [.ref (ad 25)]), (ad 25, ca D 6 (hs 0)), (ad 26, co 3 [.ref (ad 27)]), (ad 27, ca D 6 (hs 1)), (ad 28, co 3 [.ref (ad 29)]), (ad 29, ca D 6 (hs 2)), (ad 30, co 3 [.ref (ad 31)]), (ad 31, ca D 6 (hs 3)), (ad 32, co 3 [.ref (ad 33)]), (ad 33, ca D 6 (hs 4))]
  refine g_iconst O dX1_dropOldest_0 1 rfl ?_
  refine g_istore_n O dX1_dropOldest_1 2 [(0, .ref (ad 11)), (1, vi 1)] rfl (by decide) rfl ?_
  refine g_iload_n O dX1_dropOldest_2 3 1 rfl rfl ?_
  refine g_iconst O dX1_dropOldest_3 4 rfl ?_
  refine g_icmp_ge O dX1_dropOldest_4 7 47 rfl rfl (by omega) (fun h => absurd h (by decide)) (fun _ => ?_)
  refine g_aload_n O dX1_dropOldest_7 8 0 rfl rfl ?_
  refine g_get O dX1_dropOldest_8 11 rfl fX1_dropOldest_17 0 rfl rfl ?_
  refine g_iload_n O dX1_dropOldest_11 12 1 rfl rfl ?_
  refine g_iconst O dX1_dropOldest_12 13 rfl ?_
  refine g_isub O dX1_dropOldest_13 14 rfl ?_
  refine g_aald O dX1_dropOldest_14 15 rfl 1 rfl (by decide) (by decide) (ad 14) rfl ?_
  refine g_aload_n O dX1_dropOldest_15 16 0 rfl rfl ?_
  refine g_get O dX1_dropOldest_16 19 rfl fX1_dropOldest_17 0 rfl rfl ?_
  refine g_iload_n O dX1_dropOldest_19 20 1 rfl rfl ?_
  refine g_aald O dX1_dropOldest_20 21 rfl 1 rfl (by decide) (by decide) (ad 16) rfl ?_
  refine g_callV (As := [.ref (ad 16)]) (rest := []) (na := 1) O (k_X3_copyFrom D (ad 14) (ad 15) (ad 16) (ad 17) (hp 0) (hp 1)) dX1_dropOldest_21 gX1_dropOldest_X3_copyFrom rfl ⟨rfl, rfl⟩ (by decide +kernel) rfl (by decide) (by decide) rfl (by decide) (q0 := 3) (ci := 3) rfl rfl [3, 4, 5, 6] (by decide) rfl (fun _ => rfl) (fun _ => [(ad 11, co 1 [vi cnt, .ref (ad 12), .ref (ad 13)]), (ad 12, cq D 5 (qf [some (ad 14), some (ad 16), some (ad 18), some (ad 20), some (ad 22)])), (ad 13, cq D 5 (qf [some (ad 24), some (ad 26), some (ad 28), some (ad 30), some (ad 32)])), (ad 14, co 3 [.ref (ad 15)]), (ad 15, ca D 6 (hp 1)), (ad 16, co 3 [.ref (ad 17)]), (ad 17, ca D 6 (hp 1)), (ad 18, co 3 [.ref (ad 19)]), (ad 19, ca D 6 (hp 2)), (ad 20, co 3 [.ref (ad 21)]), (ad 21, ca D 6 (hp 3)), (ad 22, co 3 [.ref (ad 23)]), (ad 23, ca D 6 (hp 4)), (ad 24, co 3 [.ref (ad 25)]), (ad 25, ca D 6 (hs 0)), (ad 26, co 3 [.ref (ad 27)]), (ad 27, ca D 6 (hs 1)), (ad 28, co 3 [.ref (ad 29)]), (ad 29, ca D 6 (hs 2)), (ad 30, co 3 [.ref (ad 31)]), (ad 31, ca D 6 (hs 3)), (ad 32, co 3 [.ref (ad 33)]), (ad 33, ca D 6 (hs 4))]) (fun _ => rfl) 24 rfl (fun _ _ => ?_)
  show G X D A 2 Q 0 0 24 [(0, .ref (ad 11)), (1, vi 1)] [] [(ad 11, co 1 [vi cnt, .ref (ad 12), .ref (ad 13)]), (ad 12, cq D 5 (qf [some (ad 14), some (ad 16), some (ad 18), some (ad 20), some (ad 22)])), (ad 13, cq D 5 (qf [some (ad 24), some (ad 26), some (ad 28), some (ad 30), some (ad 32)])), (ad 14, co 3 [.ref (ad 15)]), (ad 15, ca D 6 (hp 1)), (ad 16, co 3 [.ref (ad 17)]), (ad 17, ca D 6 (hp 1)), (ad 18, co 3 [.ref (ad 19)]), (ad 19, ca D 6 (hp 2)), (ad 20, co 3 [.ref (ad 21)]), (ad 21, ca D 6 (hp 3)), (ad 22, co 3 [.ref (ad 23)]), (ad 23, ca D 6 (hp 4)), (ad 24, co 3 [.ref (ad 25)]), (ad 25, ca D 6 (hs 0)), (ad 26, co 3 [.ref (ad 27)]), (ad 27, ca D 6 (hs 1)), (ad 28, co 3 [.ref (ad 29)]), (ad 29, ca D 6 (hs 2)), (ad 30, co 3 [.ref (ad 31)]), (ad 31, ca D 6 (hs 3)), (ad 32, co 3 [.ref (ad 33)]), (ad 33, ca D 6 (hs 4))]
  refine g_aload_n O dX1_dropOldest_24 25 0 rfl rfl ?_
  refine g_get O dX1_dropOldest_25 28 rfl fX1_dropOldest_21 0 rfl rfl ?_
  refine g_iload_n O dX1_dropOldest_28 29 1 rfl rfl ?_
  refine g_iconst O dX1_dropOldest_29 30 rfl ?_
  refine g_isub O dX1_dropOldest_30 31 rfl ?_
  refine g_aald O dX1_dropOldest_31 32 rfl 2 rfl (by decide) (by decide) (ad 24) rfl ?_
  refine g_aload_n O dX1_dropOldest_32 33 0 rfl rfl ?_
  refine g_get O dX1_dropOldest_33 36 rfl fX1_dropOldest_21 0 rfl rfl ?_
  refine g_iload_n O dX1_dropOldest_36 37 1 rfl rfl ?_
  refine g_aald O dX1_dropOldest_37 38 rfl 2 rfl (by decide) (by decide) (ad 26) rfl ?_
  refine g_callV (As := [.ref (ad 26)]) (rest := []) (na := 1) O (k_X3_copyFrom D (ad 24) (ad 25) (ad 26) (ad 27) (hs 0) (hs 1)) dX1_dropOldest_38 gX1_dropOldest_X3_copyFrom rfl ⟨rfl, rfl⟩ (by decide +kernel) rfl (by decide) (by decide) rfl (by decide) (q0 := 13) (ci := 3) rfl rfl [13, 14, 15, 16] (by decide) rfl (fun _ => rfl) (fun _ => [(ad 11, co 1 [vi cnt, .ref (ad 12), .ref (ad 13)]), (ad 12, cq D 5 (qf [some (ad 14), some (ad 16), some (ad 18), some (ad 20), some (ad 22)])), (ad 13, cq D 5 (qf [some (ad 24), some (ad 26), some (ad 28), some (ad 30), some (ad 32)])), (ad 14, co 3 [.ref (ad 15)]), (ad 15, ca D 6 (hp 1)), (ad 16, co 3 [.ref (ad 17)]), (ad 17, ca D 6 (hp 1)), (ad 18, co 3 [.ref (ad 19)]), (ad 19, ca D 6 (hp 2)), (ad 20, co 3 [.ref (ad 21)]), (ad 21, ca D 6 (hp 3)), (ad 22, co 3 [.ref (ad 23)]), (ad 23, ca D 6 (hp 4)), (ad 24, co 3 [.ref (ad 25)]), (ad 25, ca D 6 (hs 1)), (ad 26, co 3 [.ref (ad 27)]), (ad 27, ca D 6 (hs 1)), (ad 28, co 3 [.ref (ad 29)]), (ad 29, ca D 6 (hs 2)), (ad 30, co 3 [.ref (ad 31)]), (ad 31, ca D 6 (hs 3)), (ad 32, co 3 [.ref (ad 33)]), (ad 33, ca D 6 (hs 4))]) (fun _ => rfl) 41 rfl (fun _ _ => ?_)
  show G X D A 2 Q 0 0 41 [(0, .ref (ad 11)), (1, vi 1)] [] [(ad 11, co 1 [vi cnt, .ref (ad 12), .ref (ad 13)]), (ad 12, cq D 5 (qf [some (ad 14), some (ad 16), some (ad 18), some (ad 20), some (ad 22)])), (ad 13, cq D 5 (qf [some (ad 24), some (ad 26), some (ad 28), some (ad 30), some (ad 32)])), (ad 14, co 3 [.ref (ad 15)]), (ad 15, ca D 6 (hp 1)), (ad 16, co 3 [.ref (ad 17)]), (ad 17, ca D 6 (hp 1)), (ad 18, co 3 [.ref (ad 19)]), (ad 19, ca D 6 (hp 2)), (ad 20, co 3 [.ref (ad 21)]), (ad 21, ca D 6 (hp 3)), (ad 22, co 3 [.ref (ad 23)]), (ad 23, ca D 6 (hp 4)), (ad 24, co 3 [.ref (ad 25)]), (ad 25, ca D 6 (hs 1)), (ad 26, co 3 [.ref (ad 27)]), (ad 27, ca D 6 (hs 1)), (ad 28, co 3 [.ref (ad 29)]), (ad 29, ca D 6 (hs 2)), (ad 30, co 3 [.ref (ad 31)]), (ad 31, ca D 6 (hs 3)), (ad 32, co 3 [.ref (ad 33)]), (ad 33, ca D 6 (hs 4))]
  refine g_iinc O dX1_dropOldest_41 44 1 [(0, .ref (ad 11)), (1, vi 2)] rfl (by decide) rfl rfl ?_
  refine g_goto O dX1_dropOldest_44 2 rfl ?_
  refine g_iload_n O dX1_dropOldest_2 3 1 rfl rfl ?_
  refine g_iconst O dX1_dropOldest_3 4 rfl ?_
  refine g_icmp_ge O dX1_dropOldest_4 7 47 rfl rfl (by omega) (fun h => absurd h (by decide)) (fun _ => ?_)
  refine g_aload_n O dX1_dropOldest_7 8 0 rfl rfl ?_
  refine g_get O dX1_dropOldest_8 11 rfl fX1_dropOldest_17 0 rfl rfl ?_
  refine g_iload_n O dX1_dropOldest_11 12 1 rfl rfl ?_
  refine g_iconst O dX1_dropOldest_12 13 rfl ?_
  refine g_isub O dX1_dropOldest_13 14 rfl ?_
  refine g_aald O dX1_dropOldest_14 15 rfl 1 rfl (by decide) (by decide) (ad 16) rfl ?_
  refine g_aload_n O dX1_dropOldest_15 16 0 rfl rfl ?_
  refine g_get O dX1_dropOldest_16 19 rfl fX1_dropOldest_17 0 rfl rfl ?_
  refine g_iload_n O dX1_dropOldest_19 20 1 rfl rfl ?_
  refine g_aald O dX1_dropOldest_20 21 rfl 1 rfl (by decide) (by decide) (ad 18) rfl ?_
  refine g_callV (As := [.ref (ad 18)]) (rest := []) (na := 1) O (k_X3_copyFrom D (ad 16) (ad 17) (ad 18) (ad 19) (hp 1) (hp 2)) dX1_dropOldest_21 gX1_dropOldest_X3_copyFrom rfl ⟨rfl, rfl⟩ (by decide +kernel) rfl (by decide) (by decide) rfl (by decide) (q0 := 5) (ci := 3) rfl rfl [5, 6, 7, 8] (by decide) rfl (fun _ => rfl) (fun _ => [(ad 11, co 1 [vi cnt, .ref (ad 12), .ref (ad 13)]), (ad 12, cq D 5 (qf [some (ad 14), some (ad 16), some (ad 18), some (ad 20), some (ad 22)])), (ad 13, cq D 5 (qf [some (ad 24), some (ad 26), some (ad 28), some (ad 30), some (ad 32)])), (ad 14, co 3 [.ref (ad 15)]), (ad 15, ca D 6 (hp 1)), (ad 16, co 3 [.ref (ad 17)]), (ad 17, ca D 6 (hp 2)), (ad 18, co 3 [.ref (ad 19)]), (ad 19, ca D 6 (hp 2)), (ad 20, co 3 [.ref (ad 21)]), (ad 21, ca D 6 (hp 3)), (ad 22, co 3 [.ref (ad 23)]), (ad 23, ca D 6 (hp 4)), (ad 24, co 3 [.ref (ad 25)]), (ad 25, ca D 6 (hs 1)), (ad 26, co 3 [.ref (ad 27)]), (ad 27, ca D 6 (hs 1)), (ad 28, co 3 [.ref (ad 29)]), (ad 29, ca D 6 (hs 2)), (ad 30, co 3 [.ref (ad 31)]), (ad 31, ca D 6 (hs 3)), (ad 32, co 3 [.ref (ad 33)]), (ad 33, ca D 6 (hs 4))]) (fun _ => rfl) 24 rfl (fun _ _ => ?_)
  show G X D A 2 Q 0 0 24 [(0, .ref (ad 11)), (1, vi 2)] [] [(ad 11, co 1 [vi cnt, .ref (ad 12), .ref (ad 13)]), (ad 12, cq D 5 (qf [some (ad 14), some (ad 16), some (ad 18), some (ad 20), some (ad 22)])), (ad 13, cq D 5 (qf [some (ad 24), some (ad 26), some (ad 28), some (ad 30), some (ad 32)])), (ad 14, co 3 [.ref (ad 15)]), (ad 15, ca D 6 (hp 1)), (ad 16, co 3 [.ref (ad 17)]), (ad 17, ca D 6 (hp 2)), (ad 18, co 3 [.ref (ad 19)]), (ad 19, ca D 6 (hp 2)), (ad 20, co 3 [.ref (ad 21)]), (ad 21, ca D 6 (hp 3)), (ad 22, co 3 [.ref (ad 23)]), (ad 23, ca D 6 (hp 4)), (ad 24, co 3 [.ref (ad 25)]), (ad 25, ca D 6 (hs 1)), (ad 26, co 3 [.ref (ad 27)]), (ad 27, ca D 6 (hs 1)), (ad 28, co 3 [.ref (ad 29)]), (ad 29, ca D 6 (hs 2)), (ad 30, co 3 [.ref (ad 31)]), (ad 31, ca D 6 (hs 3)), (ad 32, co 3 [.ref (ad 33)]), (ad 33, ca D 6 (hs 4))]
  refine g_aload_n O dX1_dropOldest_24 25 0 rfl rfl ?_
  refine g_get O dX1_dropOldest_25 28 rfl fX1_dropOldest_21 0 rfl rfl ?_
  refine g_iload_n O dX1_dropOldest_28 29 1 rfl rfl ?_
  refine g_iconst O dX1_dropOldest_29 30 rfl ?_
  refine g_isub O dX1_dropOldest_30 31 rfl ?_
  refine g_aald O dX1_dropOldest_31 32 rfl 2 rfl (by decide) (by decide) (ad 26) rfl ?_
  refine g_aload_n O dX1_dropOldest_32 33 0 rfl rfl ?_
  refine g_get O dX1_dropOldest_33 36 rfl fX1_dropOldest_21 0 rfl rfl ?_
  refine g_iload_n O dX1_dropOldest_36 37 1 rfl rfl ?_
  refine g_aald O dX1_dropOldest_37 38 rfl 2 rfl (by decide) (by decide) (ad 28) rfl ?_
  refine g_callV (As := [.ref (ad 28)]) (rest := []) (na := 1) O (k_X3_copyFrom D (ad 26) (ad 27) (ad 28) (ad 29) (hs 1) (hs 2)) dX1_dropOldest_38 gX1_dropOldest_X3_copyFrom rfl ⟨rfl, rfl⟩ (by decide +kernel) rfl (by decide) (by decide) rfl (by decide) (q0 := 15) (ci := 3) rfl rfl [15, 16, 17, 18] (by decide) rfl (fun _ => rfl) (fun _ => [(ad 11, co 1 [vi cnt, .ref (ad 12), .ref (ad 13)]), (ad 12, cq D 5 (qf [some (ad 14), some (ad 16), some (ad 18), some (ad 20), some (ad 22)])), (ad 13, cq D 5 (qf [some (ad 24), some (ad 26), some (ad 28), some (ad 30), some (ad 32)])), (ad 14, co 3 [.ref (ad 15)]), (ad 15, ca D 6 (hp 1)), (ad 16, co 3 [.ref (ad 17)]), (ad 17, ca D 6 (hp 2)), (ad 18, co 3 [.ref (ad 19)]), (ad 19, ca D 6 (hp 2)), (ad 20, co 3 [.ref (ad 21)]), (ad 21, ca D 6 (hp 3)), (ad 22, co 3 [.ref (ad 23)]), (ad 23, ca D 6 (hp 4)), (ad 24, co 3 [.ref (ad 25)]), (ad 25, ca D 6 (hs 1)), (ad 26, co 3 [.ref (ad 27)]), (ad 27, ca D 6 (hs 2)), (ad 28, co 3 [.ref (ad 29)]), (ad 29, ca D 6 (hs 2)), (ad 30, co 3 [.ref (ad 31)]), (ad 31, ca D 6 (hs 3)), (ad 32, co 3 [.ref (ad 33)]), (ad 33, ca D 6 (hs 4))]) (fun _ => rfl) 41 rfl (fun _ _ => ?_)
  show G X D A 2 Q 0 0 41 [(0, .ref (ad 11)), (1, vi 2)] [] [(ad 11, co 1 [vi cnt, .ref (ad 12), .ref (ad 13)]), (ad 12, cq D 5 (qf [some (ad 14), some (ad 16), some (ad 18), some (ad 20), some (ad 22)])), (ad 13, cq D 5 (qf [some (ad 24), some (ad 26), some (ad 28), some (ad 30), some (ad 32)])), (ad 14, co 3 [.ref (ad 15)]), (ad 15, ca D 6 (hp 1)), (ad 16, co 3 [.ref (ad 17)]), (ad 17, ca D 6 (hp 2)), (ad 18, co 3 [.ref (ad 19)]), (ad 19, ca D 6 (hp 2)), (ad 20, co 3 [.ref (ad 21)]), (ad 21, ca D 6 (hp 3)), (ad 22, co 3 [.ref (ad 23)]), (ad 23, ca D 6 (hp 4)), (ad 24, co 3 [.ref (ad 25)]), (ad 25, ca D 6 (hs 1)), (ad 26, co 3 [.ref (ad 27)]), (ad 27, ca D 6 (hs 2)), (ad 28, co 3 [.ref (ad 29)]), (ad 29, ca D 6 (hs 2)), (ad 30, co 3 [.ref (ad 31)]), (ad 31, ca D 6 (hs 3)), (ad 32, co 3 [.ref (ad 33)]), (ad 33, ca D 6 (hs 4))]
  refine g_iinc O dX1_dropOldest_41 44 1 [(0, .ref (ad 11)), (1, vi 3)] rfl (by decide) rfl rfl ?_
  refine g_goto O dX1_dropOldest_44 2 rfl ?_
  refine g_iload_n O dX1_dropOldest_2 3 1 rfl rfl ?_
  refine g_iconst O dX1_dropOldest_3 4 rfl ?_
  refine g_icmp_ge O dX1_dropOldest_4 7 47 rfl rfl (by omega) (fun h => absurd h (by decide)) (fun _ => ?_)
  refine g_aload_n O dX1_dropOldest_7 8 0 rfl rfl ?_
  refine g_get O dX1_dropOldest_8 11 rfl fX1_dropOldest_17 0 rfl rfl ?_
  refine g_iload_n O dX1_dropOldest_11 12 1 rfl rfl ?_
  refine g_iconst O dX1_dropOldest_12 13 rfl ?_
  refine g_isub O dX1_dropOldest_13 14 rfl ?_
  refine g_aald O dX1_dropOldest_14 15 rfl 1 rfl (by decide) (by decide) (ad 18) rfl ?_
  refine g_aload_n O dX1_dropOldest_15 16 0 rfl rfl ?_
  refine g_get O dX1_dropOldest_16 19 rfl fX1_dropOldest_17 0 rfl rfl ?_
  refine g_iload_n O dX1_dropOldest_19 20 1 rfl rfl ?_
  refine g_aald O dX1_dropOldest_20 21 rfl 1 rfl (by decide) (by decide) (ad 20) rfl ?_
  refine g_callV (As := [.ref (ad 20)]) (rest := []) (na := 1) O (k_X3_copyFrom D (ad 18) (ad 19) (ad 20) (ad 21) (hp 2) (hp 3)) dX1_dropOldest_21 gX1_dropOldest_X3_copyFrom rfl ⟨rfl, rfl⟩ (by decide +kernel) rfl (by decide) (by decide) rfl (by decide) (q0 := 7) (ci := 3) rfl rfl [7, 8, 9, 10] (by decide) rfl (fun _ => rfl) (fun _ => [(ad 11, co 1 [vi cnt, .ref (ad 12), .ref (ad 13)]), (ad 12, cq D 5 (qf [some (ad 14), some (ad 16), some (ad 18), some (ad 20), some (ad 22)])), (ad 13, cq D 5 (qf [some (ad 24), some (ad 26), some (ad 28), some (ad 30), some (ad 32)])), (ad 14, co 3 [.ref (ad 15)]), (ad 15, ca D 6 (hp 1)), (ad 16, co 3 [.ref (ad 17)]), (ad 17, ca D 6 (hp 2)), (ad 18, co 3 [.ref (ad 19)]), (ad 19, ca D 6 (hp 3)), (ad 20, co 3 [.ref (ad 21)]), (ad 21, ca D 6 (hp 3)), (ad 22, co 3 [.ref (ad 23)]), (ad 23, ca D 6 (hp 4)), (ad 24, co 3 [.ref (ad 25)]), (ad 25, ca D 6 (hs 1)), (ad 26, co 3 [.ref (ad 27)]), (ad 27, ca D 6 (hs 2)), (ad 28, co 3 [.ref (ad 29)]), (ad 29, ca D 6 (hs 2)), (ad 30, co 3 [.ref (ad 31)]), (ad 31, ca D 6 (hs 3)), (ad 32, co 3 [.ref (ad 33)]), (ad 33, ca D 6 (hs 4))]) (fun _ => rfl) 24 rfl (fun _ _ => ?_)
  show G X D A 2 Q 0 0 24 [(0, .ref (ad 11)), (1, vi 3)] [] [(ad 11, co 1 [vi cnt, .ref (ad 12), .ref (ad 13)]), (ad 12, cq D 5 (qf [some (ad 14), some (ad 16), some (ad 18), some (ad 20), some (ad 22)])), (ad 13, cq D 5 (qf [some (ad 24), some (ad 26), some (ad 28), some (ad 30), some (ad 32)])), (ad 14, co 3 [.ref (ad 15)]), (ad 15, ca D 6 (hp 1)), (ad 16, co 3 [.ref (ad 17)]), (ad 17, ca D 6 (hp 2)), (ad 18, co 3 [.ref (ad 19)]), (ad 19, ca D 6 (hp 3)), (ad 20, co 3 [.ref (ad 21)]), (ad 21, ca D 6 (hp 3)), (ad 22, co 3 [.ref (ad 23)]), (ad 23, ca D 6 (hp 4)), (ad 24, co 3 [.ref (ad 25)]), (ad 25, ca D 6 (hs 1)), (ad 26, co 3 [.ref (ad 27)]), (ad 27, ca D 6 (hs 2)), (ad 28, co 3 [.ref (ad 29)]), (ad 29, ca D 6 (hs 2)), (ad 30, co 3 [.ref (ad 31)]), (ad 31, ca D 6 (hs 3)), (ad 32, co 3 [.ref (ad 33)]), (ad 33, ca D 6 (hs 4))]
  refine g_aload_n O dX1_dropOldest_24 25 0 rfl rfl ?_
  refine g_get O dX1_dropOldest_25 28 rfl fX1_dropOldest_21 0 rfl rfl ?_
  refine g_iload_n O dX1_dropOldest_28 29 1 rfl rfl ?_
  refine g_iconst O dX1_dropOldest_29 30 rfl ?_
  refine g_isub O dX1_dropOldest_30 31 rfl ?_
  refine g_aald O dX1_dropOldest_31 32 rfl 2 rfl (by decide) (by decide) (ad 28) rfl ?_
  refine g_aload_n O dX1_dropOldest_32 33 0 rfl rfl ?_
  refine g_get O dX1_dropOldest_33 36 rfl fX1_dropOldest_21 0 rfl rfl ?_
  refine g_iload_n O dX1_dropOldest_36 37 1 rfl rfl ?_
  refine g_aald O dX1_dropOldest_37 38 rfl 2 rfl (by decide) (by decide) (ad 30) rfl ?_
  refine g_callV (As := [.ref (ad 30)]) (rest := []) (na := 1) O (k_X3_copyFrom D (ad 28) (ad 29) (ad 30) (ad 31) (hs 2) (hs 3)) dX1_dropOldest_38 gX1_dropOldest_X3_copyFrom rfl ⟨rfl, rfl⟩ (by decide +kernel) rfl (by decide) (by decide) rfl (by decide) (q0 := 17) (ci := 3) rfl rfl [17, 18, 19, 20] (by decide) rfl (fun _ => rfl) (fun _ => [(ad 11, co 1 [vi cnt, .ref (ad 12), .ref (ad 13)]), (ad 12, cq D 5 (qf [some (ad 14), some (ad 16), some (ad 18), some (ad 20), some (ad 22)])), (ad 13, cq D 5 (qf [some (ad 24), some (ad 26), some (ad 28), some (ad 30), some (ad 32)])), (ad 14, co 3 [.ref (ad 15)]), (ad 15, ca D 6 (hp 1)), (ad 16, co 3 [.ref (ad 17)]), (ad 17, ca D 6 (hp 2)), (ad 18, co 3 [.ref (ad 19)]), (ad 19, ca D 6 (hp 3)), (ad 20, co 3 [.ref (ad 21)]), (ad 21, ca D 6 (hp 3)), (ad 22, co 3 [.ref (ad 23)]), (ad 23, ca D 6 (hp 4)), (ad 24, co 3 [.ref (ad 25)]), (ad 25, ca D 6 (hs 1)), (ad 26, co 3 [.ref (ad 27)]), (ad 27, ca D 6 (hs 2)), (ad 28, co 3 [.ref (ad 29)]), (ad 29, ca D 6 (hs 3)), (ad 30, co 3 [.ref (ad 31)]), (ad 31, ca D 6 (hs 3)), (ad 32, co 3 [.ref (ad 33)]), (ad 33, ca D 6 (hs 4))]) (fun _ => rfl) 41 rfl (fun _ _ => ?_)
  show G X D A 2 Q 0 0 41 [(0, .ref (ad 11)), (1, vi 3)] [] [(ad 11, co 1 [vi cnt, .ref (ad 12), .ref (ad 13)]), (ad 12, cq D 5 (qf [some (ad 14), some (ad 16), some (ad 18), some (ad 20), some (ad 22)])), (ad 13, cq D 5 (qf [some (ad 24), some (ad 26), some (ad 28), some (ad 30), some (ad 32)])), (ad 14, co 3 [.ref (ad 15)]), (ad 15, ca D 6 (hp 1)), (ad 16, co 3 [.ref (ad 17)]), (ad 17, ca D 6 (hp 2)), (ad 18, co 3 [.ref (ad 19)]), (ad 19, ca D 6 (hp 3)), (ad 20, co 3 [.ref (ad 21)]), (ad 21, ca D 6 (hp 3)), (ad 22, co 3 [.ref (ad 23)]), (ad 23, ca D 6 (hp 4)), (ad 24, co 3 [.ref (ad 25)]), (ad 25, ca D 6 (hs 1)), (ad 26, co 3 [.ref (ad 27)]), (ad 27, ca D 6 (hs 2)), (ad 28, co 3 [.ref (ad 29)]), (ad 29, ca D 6 (hs 3)), (ad 30, co 3 [.ref (ad 31)]), (ad 31, ca D 6 (hs 3)), (ad 32, co 3 [.ref (ad 33)]), (ad 33, ca D 6 (hs 4))]
  refine g_iinc O dX1_dropOldest_41 44 1 [(0, .ref (ad 11)), (1, vi 4)] rfl (by decide) rfl rfl ?_
  refine g_goto O dX1_dropOldest_44 2 rfl ?_
  refine g_iload_n O dX1_dropOldest_2 3 1 rfl rfl ?_
  refine g_iconst O dX1_dropOldest_3 4 rfl ?_
  refine g_icmp_ge O dX1_dropOldest_4 7 47 rfl rfl (by omega) (fun h => absurd h (by decide)) (fun _ => ?_)
  refine g_aload_n O dX1_dropOldest_7 8 0 rfl rfl ?_
  refine g_get O dX1_dropOldest_8 11 rfl fX1_dropOldest_17 0 rfl rfl ?_
  refine g_iload_n O dX1_dropOldest_11 12 1 rfl rfl ?_
  refine g_iconst O dX1_dropOldest_12 13 rfl ?_
  refine g_isub O dX1_dropOldest_13 14 rfl ?_
  refine g_aald O dX1_dropOldest_14 15 rfl 1 rfl (by decide) (by decide) (ad 20) rfl ?_
  refine g_aload_n O dX1_dropOldest_15 16 0 rfl rfl ?_
  refine g_get O dX1_dropOldest_16 19 rfl fX1_dropOldest_17 0 rfl rfl ?_
  refine g_iload_n O dX1_dropOldest_19 20 1 rfl rfl ?_
  refine g_aald O dX1_dropOldest_20 21 rfl 1 rfl (by decide) (by decide) (ad 22) rfl ?_
  refine g_callV (As := [.ref (ad 22)]) (rest := []) (na := 1) O (k_X3_copyFrom D (ad 20) (ad 21) (ad 22) (ad 23) (hp 3) (hp 4)) dX1_dropOldest_21 gX1_dropOldest_X3_copyFrom rfl ⟨rfl, rfl⟩ (by decide +kernel) rfl (by decide) (by decide) rfl (by decide) (q0 := 9) (ci := 3) rfl rfl [9, 10, 11, 12] (by decide) rfl (fun _ => rfl) (fun _ => [(ad 11, co 1 [vi cnt, .ref (ad 12), .ref (ad 13)]), (ad 12, cq D 5 (qf [some (ad 14), some (ad 16), some (ad 18), some (ad 20), some (ad 22)])), (ad 13, cq D 5 (qf [some (ad 24), some (ad 26), some (ad 28), some (ad 30), some (ad 32)])), (ad 14, co 3 [.ref (ad 15)]), (ad 15, ca D 6 (hp 1)), (ad 16, co 3 [.ref (ad 17)]), (ad 17, ca D 6 (hp 2)), (ad 18, co 3 [.ref (ad 19)]), (ad 19, ca D 6 (hp 3)), (ad 20, co 3 [.ref (ad 21)]), (ad 21, ca D 6 (hp 4)), (ad 22, co 3 [.ref (ad 23)]), (ad 23, ca D 6 (hp 4)), (ad 24, co 3 [.ref (ad 25)]), (ad 25, ca D 6 (hs 1)), (ad 26, co 3 [.ref (ad 27)]), (ad 27, ca D 6 (hs 2)), (ad 28, co 3 [.ref (ad 29)]), (ad 29, ca D 6 (hs 3)), (ad 30, co 3 [.ref (ad 31)]), (ad 31, ca D 6 (hs 3)), (ad 32, co 3 [.ref (ad 33)]), (ad 33, ca D 6 (hs 4))]) (fun _ => rfl) 24 rfl (fun _ _ => ?_)
  show G X D A 2 Q 0 0 24 [(0, .ref (ad 11)), (1, vi 4)] [] [(ad 11, co 1 [vi cnt, .ref (ad 12), .ref (ad 13)]), (ad 12, cq D 5 (qf [some (ad 14), some (ad 16), some (ad 18), some (ad 20), some (ad 22)])), (ad 13, cq D 5 (qf [some (ad 24), some (ad 26), some (ad 28), some (ad 30), some (ad 32)])), (ad 14, co 3 [.ref (ad 15)]), (ad 15, ca D 6 (hp 1)), (ad 16, co 3 [.ref (ad 17)]), (ad 17, ca D 6 (hp 2)), (ad 18, co 3 [.ref (ad 19)]), (ad 19, ca D 6 (hp 3)), (ad 20, co 3 [.ref (ad 21)]), (ad 21, ca D 6 (hp 4)), (ad 22, co 3 [.ref (ad 23)]), (ad 23, ca D 6 (hp 4)), (ad 24, co 3 [.ref (ad 25)]), (ad 25, ca D 6 (hs 1)), (ad 26, co 3 [.ref (ad 27)]), (ad 27, ca D 6 (hs 2)), (ad 28, co 3 [.ref (ad 29)]), (ad 29, ca D 6 (hs 3)), (ad 30, co 3 [.ref (ad 31)]), (ad 31, ca D 6 (hs 3)), (ad 32, co 3 [.ref (ad 33)]), (ad 33, ca D 6 (hs 4))]
  refine g_aload_n O dX1_dropOldest_24 25 0 rfl rfl ?_
  refine g_get O dX1_dropOldest_25 28 rfl fX1_dropOldest_21 0 rfl rfl ?_
  refine g_iload_n O dX1_dropOldest_28 29 1 rfl rfl ?_
  refine g_iconst O dX1_dropOldest_29 30 rfl ?_
  refine g_isub O dX1_dropOldest_30 31 rfl ?_
  refine g_aald O dX1_dropOldest_31 32 rfl 2 rfl (by decide) (by decide) (ad 30) rfl ?_
  refine g_aload_n O dX1_dropOldest_32 33 0 rfl rfl ?_
  refine g_get O dX1_dropOldest_33 36 rfl fX1_dropOldest_21 0 rfl rfl ?_
  refine g_iload_n O dX1_dropOldest_36 37 1 rfl rfl ?_
  refine g_aald O dX1_dropOldest_37 38 rfl 2 rfl (by decide) (by decide) (ad 32) rfl ?_
  refine g_callV (As := [.ref (ad 32)]) (rest := []) (na := 1) O (k_X3_copyFrom D (ad 30) (ad 31) (ad 32) (ad 33) (hs 3) (hs 4)) dX1_dropOldest_38 gX1_dropOldest_X3_copyFrom rfl ⟨rfl, rfl⟩ (by decide +kernel) rfl (by decide) (by decide) rfl (by decide) (q0 := 19) (ci := 3) rfl rfl [19, 20, 21, 22] (by decide) rfl (fun _ => rfl) (fun _ => [(ad 11, co 1 [vi cnt, .ref (ad 12), .ref (ad 13)]), (ad 12, cq D 5 (qf [some (ad 14), some (ad 16), some (ad 18), some (ad 20), some (ad 22)])), (ad 13, cq D 5 (qf [some (ad 24), some (ad 26), some (ad 28), some (ad 30), some (ad 32)])), (ad 14, co 3 [.ref (ad 15)]), (ad 15, ca D 6 (hp 1)), (ad 16, co 3 [.ref (ad 17)]), (ad 17, ca D 6 (hp 2)), (ad 18, co 3 [.ref (ad 19)]), (ad 19, ca D 6 (hp 3)), (ad 20, co 3 [.ref (ad 21)]), (ad 21, ca D 6 (hp 4)), (ad 22, co 3 [.ref (ad 23)]), (ad 23, ca D 6 (hp 4)), (ad 24, co 3 [.ref (ad 25)]), (ad 25, ca D 6 (hs 1)), (ad 26, co 3 [.ref (ad 27)]), (ad 27, ca D 6 (hs 2)), (ad 28, co 3 [.ref (ad 29)]), (ad 29, ca D 6 (hs 3)), (ad 30, co 3 [.ref (ad 31)]), (ad 31, ca D 6 (hs 4)), (ad 32, co 3 [.ref (ad 33)]), (ad 33, ca D 6 (hs 4))]) (fun _ => rfl) 41 rfl (fun _ _ => ?_)
  show G X D A 2 Q 0 0 41 [(0, .ref (ad 11)), (1, vi 4)] [] [(ad 11, co 1 [vi cnt, .ref (ad 12), .ref (ad 13)]), (ad 12, cq D 5 (qf [some (ad 14), some (ad 16), some (ad 18), some (ad 20), some (ad 22)])), (ad 13, cq D 5 (qf [some (ad 24), some (ad 26), some (ad 28), some (ad 30), some (ad 32)])), (ad 14, co 3 [.ref (ad 15)]), (ad 15, ca D 6 (hp 1)), (ad 16, co 3 [.ref (ad 17)]), (ad 17, ca D 6 (hp 2)), (ad 18, co 3 [.ref (ad 19)]), (ad 19, ca D 6 (hp 3)), (ad 20, co 3 [.ref (ad 21)]), (ad 21, ca D 6 (hp 4)), (ad 22, co 3 [.ref (ad 23)]), (ad 23, ca D 6 (hp 4)), (ad 24, co 3 [.ref (ad 25)]), (ad 25, ca D 6 (hs 1)), (ad 26, co 3 [.ref (ad 27)]), (ad 27, ca D 6 (hs 2)), (ad 28, co 3 [.ref (ad 29)]), (ad 29, ca D 6 (hs 3)), (ad 30, co 3 [.ref (ad 31)]), (ad 31, ca D 6 (hs 4)), (ad 32, co 3 [.ref (ad 33)]), (ad 33, ca D 6 (hs 4))]
  refine g_iinc O dX1_dropOldest_41 44 1 [(0, .ref (ad 11)), (1, vi 5)] rfl (by decide) rfl rfl ?_
  refine g_goto O dX1_dropOldest_44 2 rfl ?_
  refine g_iload_n O dX1_dropOldest_2 3 1 rfl rfl ?_
  refine g_iconst O dX1_dropOldest_3 4 rfl ?_
  refine g_icmp_ge O dX1_dropOldest_4 7 47 rfl rfl (by omega) (fun _ => ?_) (fun h => absurd h (by decide))
  refine g_aload_n O dX1_dropOldest_47 48 0 rfl rfl ?_
  refine g_iconst O dX1_dropOldest_48 49 rfl ?_
  refine g_put O dX1_dropOldest_49 52 rfl fX1_dropOldest_9 pF1_0 0 rfl rfl rfl (Nat.le_of_ble_eq_true rfl) [(ad 11, co 1 [vi 4, .ref (ad 12), .ref (ad 13)]), (ad 12, cq D 5 (qf [some (ad 14), some (ad 16), some (ad 18), some (ad 20), some (ad 22)])), (ad 13, cq D 5 (qf [some (ad 24), some (ad 26), some (ad 28), some (ad 30), some (ad 32)])), (ad 14, co 3 [.ref (ad 15)]), (ad 15, ca D 6 (hp 1)), (ad 16, co 3 [.ref (ad 17)]), (ad 17, ca D 6 (hp 2)), (ad 18, co 3 [.ref (ad 19)]), (ad 19, ca D 6 (hp 3)), (ad 20, co 3 [.ref (ad 21)]), (ad 21, ca D 6 (hp 4)), (ad 22, co 3 [.ref (ad 23)]), (ad 23, ca D 6 (hp 4)), (ad 24, co 3 [.ref (ad 25)]), (ad 25, ca D 6 (hs 1)), (ad 26, co 3 [.ref (ad 27)]), (ad 27, ca D 6 (hs 2)), (ad 28, co 3 [.ref (ad 29)]), (ad 29, ca D 6 (hs 3)), (ad 30, co 3 [.ref (ad 31)]), (ad 31, ca D 6 (hs 4)), (ad 32, co 3 [.ref (ad 33)]), (ad 33, ca D 6 (hs 4))] rfl ?_
  exact g_vret O hQ dX1_dropOldest_52 () rfl rfl trivial ⟨by decide, by decide⟩
theorem sX1_remember_1 : ∀ w ∈ wsX10, w ∈ wsX1_remember := by decide +kernel
theorem fX1_remember_17 : FK RX1 wsX1_remember 17 1 1 := ⟨RX1, TX1, 3, rfl, sX1_remember_1, by decide, List.mem_of_getElem? (i := 2) rfl⟩
theorem fX1_remember_21 : FK RX1 wsX1_remember 21 1 2 := ⟨RX1, TX1, 3, rfl, sX1_remember_1, by decide, List.mem_of_getElem? (i := 3) rfl⟩
theorem fX1_remember_9 : FK RX1 wsX1_remember 9 1 0 := ⟨RX1, TX1, 3, rfl, sX1_remember_1, by decide, List.mem_of_getElem? (i := 1) rfl⟩
set_option maxHeartbeats 4000000 in
set_option maxRecDepth 100000 in
theorem k_X1_remember (D : DD) (ad : Nat → Nat) (cnt : Int) (hp hs : Int → Int → Int) (pr sv : Int → Int) (hcn : 0 ≤ cnt ∧ cnt ≤ 5) : Con (S := Unit) D yX1_remember wsX1_remember ({ frames := 2, cells := 0, slots := 0, locals := 43 }) 0 0 [.ref (ad 11), .ref (ad 5), .ref (ad 7)] [(ad 11, co 1 [vi cnt, .ref (ad 12), .ref (ad 13)]), (ad 12, cq D 5 (qf [some (ad 14), some (ad 16), some (ad 18), some (ad 20), some (ad 22)])), (ad 13, cq D 5 (qf [some (ad 24), some (ad 26), some (ad 28), some (ad 30), some (ad 32)])), (ad 14, co 3 [.ref (ad 15)]), (ad 15, ca D 6 (hp 0)), (ad 16, co 3 [.ref (ad 17)]), (ad 17, ca D 6 (hp 1)), (ad 18, co 3 [.ref (ad 19)]), (ad 19, ca D 6 (hp 2)), (ad 20, co 3 [.ref (ad 21)]), (ad 21, ca D 6 (hp 3)), (ad 22, co 3 [.ref (ad 23)]), (ad 23, ca D 6 (hp 4)), (ad 24, co 3 [.ref (ad 25)]), (ad 25, ca D 6 (hs 0)), (ad 26, co 3 [.ref (ad 27)]), (ad 27, ca D 6 (hs 1)), (ad 28, co 3 [.ref (ad 29)]), (ad 29, ca D 6 (hs 2)), (ad 30, co 3 [.ref (ad 31)]), (ad 31, ca D 6 (hs 3)), (ad 32, co 3 [.ref (ad 33)]), (ad 33, ca D 6 (hs 4)), (ad 5, co 3 [.ref (ad 6)]), (ad 6, ca D 6 pr), (ad 7, co 3 [.ref (ad 8)]), (ad 8, ca D 6 sv)] (fun u => none) (fun u => True) (fun u => [(ad 11, co 1 [vi (hpc cnt), .ref (ad 12), .ref (ad 13)]), (ad 12, cq D 5 (qf [some (ad 14), some (ad 16), some (ad 18), some (ad 20), some (ad 22)])), (ad 13, cq D 5 (qf [some (ad 24), some (ad 26), some (ad 28), some (ad 30), some (ad 32)])), (ad 14, co 3 [.ref (ad 15)]), (ad 15, ca D 6 (hpu cnt hp pr 0)), (ad 16, co 3 [.ref (ad 17)]), (ad 17, ca D 6 (hpu cnt hp pr 1)), (ad 18, co 3 [.ref (ad 19)]), (ad 19, ca D 6 (hpu cnt hp pr 2)), (ad 20, co 3 [.ref (ad 21)]), (ad 21, ca D 6 (hpu cnt hp pr 3)), (ad 22, co 3 [.ref (ad 23)]), (ad 23, ca D 6 (hpu cnt hp pr 4)), (ad 24, co 3 [.ref (ad 25)]), (ad 25, ca D 6 (hpu cnt hs sv 0)), (ad 26, co 3 [.ref (ad 27)]), (ad 27, ca D 6 (hpu cnt hs sv 1)), (ad 28, co 3 [.ref (ad 29)]), (ad 29, ca D 6 (hpu cnt hs sv 2)), (ad 30, co 3 [.ref (ad 31)]), (ad 31, ca D 6 (hpu cnt hs sv 3)), (ad 32, co 3 [.ref (ad 33)]), (ad 33, ca D 6 (hpu cnt hs sv 4)), (ad 5, co 3 [.ref (ad 6)]), (ad 6, ca D 6 pr), (ad 7, co 3 [.ref (ad 8)]), (ad 8, ca D 6 sv)]) := by
  refine Con.of (cc := cX1_remember) (nL := 3) (ret := none) rfl (by decide +kernel) (Nat.le_of_ble_eq_true rfl) ?_
  intro X A Q O hQ hin
  show G X D A 3 Q 0 0 0 [(0, .ref (ad 11)), (1, .ref (ad 5)), (2, .ref (ad 7))] [] [(ad 11, co 1 [vi cnt, .ref (ad 12), .ref (ad 13)]), (ad 12, cq D 5 (qf [some (ad 14), some (ad 16), some (ad 18), some (ad 20), some (ad 22)])), (ad 13, cq D 5 (qf [some (ad 24), some (ad 26), some (ad 28), some (ad 30), some (ad 32)])), (ad 14, co 3 [.ref (ad 15)]), (ad 15, ca D 6 (hp 0)), (ad 16, co 3 [.ref (ad 17)]), (ad 17, ca D 6 (hp 1)), (ad 18, co 3 [.ref (ad 19)]), (ad 19, ca D 6 (hp 2)), (ad 20, co 3 [.ref (ad 21)]), (ad 21, ca D 6 (hp 3)), (ad 22, co 3 [.ref (ad 23)]), (ad 23, ca D 6 (hp 4)), (ad 24, co 3 [.ref (ad 25)]), (ad 25, ca D 6 (hs 0)), (ad 26, co 3 [.ref (ad 27)]), (ad 27, ca D 6 (hs 1)), (ad 28, co 3 [.ref (ad 29)]), (ad 29, ca D 6 (hs 2)), (ad 30, co 3 [.ref (ad 31)]), (ad 31, ca D 6 (hs 3)), (ad 32, co 3 [.ref (ad 33)]), (ad 33, ca D 6 (hs 4)), (ad 5, co 3 [.ref (ad 6)]), (ad 6, ca D 6 pr), (ad 7, co 3 [.ref (ad 8)]), (ad 8, ca D 6 sv)]
  rcases (show cnt = 0 ∨ cnt = 1 ∨ cnt = 2 ∨ cnt = 3 ∨ cnt = 4 ∨ cnt = 5 by omega) with rfl | rfl | rfl | rfl | rfl | rfl
  · skip
    refine g_aload_n O dX1_remember_0 1 0 rfl rfl ?_
    refine g_get O dX1_remember_1 4 rfl fX1_remember_9 0 rfl rfl ?_
    refine g_iconst O dX1_remember_4 5 rfl ?_
    refine g_icmp_ne O dX1_remember_5 8 12 rfl rfl (by omega) (fun _ => ?_) (fun h => absurd h (by decide))
    refine g_aload_n O dX1_remember_12 13 0 rfl rfl ?_
    refine g_get O dX1_remember_13 16 rfl fX1_remember_17 0 rfl rfl ?_
    refine g_aload_n O dX1_remember_16 17 0 rfl rfl ?_
    refine g_get O dX1_remember_17 20 rfl fX1_remember_9 0 rfl rfl ?_
    refine g_aald O dX1_remember_20 21 rfl 1 rfl (by decide) (by decide) (ad 14) rfl ?_
    refine g_aload_n O dX1_remember_21 22 1 rfl rfl ?_
    refine g_callV (As := [.ref (ad 5)]) (rest := []) (na := 1) O (k_X3_copyFrom D (ad 14) (ad 15) (ad 5) (ad 6) (hp 0) pr) dX1_remember_22 gX1_remember_X3_copyFrom rfl ⟨rfl, rfl⟩ (by decide +kernel) rfl (by decide) (by decide) rfl (by decide) (q0 := 3) (ci := 3) rfl rfl [3, 4, 23, 24] (by decide) rfl (fun _ => rfl) (fun _ => [(ad 11, co 1 [vi 0, .ref (ad 12), .ref (ad 13)]), (ad 12, cq D 5 (qf [some (ad 14), some (ad 16), some (ad 18), some (ad 20), some (ad 22)])), (ad 13, cq D 5 (qf [some (ad 24), some (ad 26), some (ad 28), some (ad 30), some (ad 32)])), (ad 14, co 3 [.ref (ad 15)]), (ad 15, ca D 6 pr), (ad 16, co 3 [.ref (ad 17)]), (ad 17, ca D 6 (hp 1)), (ad 18, co 3 [.ref (ad 19)]), (ad 19, ca D 6 (hp 2)), (ad 20, co 3 [.ref (ad 21)]), (ad 21, ca D 6 (hp 3)), (ad 22, co 3 [.ref (ad 23)]), (ad 23, ca D 6 (hp 4)), (ad 24, co 3 [.ref (ad 25)]), (ad 25, ca D 6 (hs 0)), (ad 26, co 3 [.ref (ad 27)]), (ad 27, ca D 6 (hs 1)), (ad 28, co 3 [.ref (ad 29)]), (ad 29, ca D 6 (hs 2)), (ad 30, co 3 [.ref (ad 31)]), (ad 31, ca D 6 (hs 3)), (ad 32, co 3 [.ref (ad 33)]), (ad 33, ca D 6 (hs 4)), (ad 5, co 3 [.ref (ad 6)]), (ad 6, ca D 6 pr), (ad 7, co 3 [.ref (ad 8)]), (ad 8, ca D 6 sv)]) (fun _ => rfl) 25 rfl (fun _ _ => ?_)
    show G X D A 3 Q 0 0 25 [(0, .ref (ad 11)), (1, .ref (ad 5)), (2, .ref (ad 7))] [] [(ad 11, co 1 [vi 0, .ref (ad 12), .ref (ad 13)]), (ad 12, cq D 5 (qf [some (ad 14), some (ad 16), some (ad 18), some (ad 20), some (ad 22)])), (ad 13, cq D 5 (qf [some (ad 24), some (ad 26), some (ad 28), some (ad 30), some (ad 32)])), (ad 14, co 3 [.ref (ad 15)]), (ad 15, ca D 6 pr), (ad 16, co 3 [.ref (ad 17)]), (ad 17, ca D 6 (hp 1)), (ad 18, co 3 [.ref (ad 19)]), (ad 19, ca D 6 (hp 2)), (ad 20, co 3 [.ref (ad 21)]), (ad 21, ca D 6 (hp 3)), (ad 22, co 3 [.ref (ad 23)]), (ad 23, ca D 6 (hp 4)), (ad 24, co 3 [.ref (ad 25)]), (ad 25, ca D 6 (hs 0)), (ad 26, co 3 [.ref (ad 27)]), (ad 27, ca D 6 (hs 1)), (ad 28, co 3 [.ref (ad 29)]), (ad 29, ca D 6 (hs 2)), (ad 30, co 3 [.ref (ad 31)]), (ad 31, ca D 6 (hs 3)), (ad 32, co 3 [.ref (ad 33)]), (ad 33, ca D 6 (hs 4)), (ad 5, co 3 [.ref (ad 6)]), (ad 6, ca D 6 pr), (ad 7, co 3 [.ref (ad 8)]), (ad 8, ca D 6 sv)]
    refine g_aload_n O dX1_remember_25 26 0 rfl rfl ?_
    refine g_get O dX1_remember_26 29 rfl fX1_remember_21 0 rfl rfl ?_
    refine g_aload_n O dX1_remember_29 30 0 rfl rfl ?_
    refine g_get O dX1_remember_30 33 rfl fX1_remember_9 0 rfl rfl ?_
    refine g_aald O dX1_remember_33 34 rfl 2 rfl (by decide) (by decide) (ad 24) rfl ?_
    refine g_aload_n O dX1_remember_34 35 2 rfl rfl ?_
    refine g_callV (As := [.ref (ad 7)]) (rest := []) (na := 1) O (k_X3_copyFrom D (ad 24) (ad 25) (ad 7) (ad 8) (hs 0) sv) dX1_remember_35 gX1_remember_X3_copyFrom rfl ⟨rfl, rfl⟩ (by decide +kernel) rfl (by decide) (by decide) rfl (by decide) (q0 := 13) (ci := 3) rfl rfl [13, 14, 25, 26] (by decide) rfl (fun _ => rfl) (fun _ => [(ad 11, co 1 [vi 0, .ref (ad 12), .ref (ad 13)]), (ad 12, cq D 5 (qf [some (ad 14), some (ad 16), some (ad 18), some (ad 20), some (ad 22)])), (ad 13, cq D 5 (qf [some (ad 24), some (ad 26), some (ad 28), some (ad 30), some (ad 32)])), (ad 14, co 3 [.ref (ad 15)]), (ad 15, ca D 6 pr), (ad 16, co 3 [.ref (ad 17)]), (ad 17, ca D 6 (hp 1)), (ad 18, co 3 [.ref (ad 19)]), (ad 19, ca D 6 (hp 2)), (ad 20, co 3 [.ref (ad 21)]), (ad 21, ca D 6 (hp 3)), (ad 22, co 3 [.ref (ad 23)]), (ad 23, ca D 6 (hp 4)), (ad 24, co 3 [.ref (ad 25)]), (ad 25, ca D 6 sv), (ad 26, co 3 [.ref (ad 27)]), (ad 27, ca D 6 (hs 1)), (ad 28, co 3 [.ref (ad 29)]), (ad 29, ca D 6 (hs 2)), (ad 30, co 3 [.ref (ad 31)]), (ad 31, ca D 6 (hs 3)), (ad 32, co 3 [.ref (ad 33)]), (ad 33, ca D 6 (hs 4)), (ad 5, co 3 [.ref (ad 6)]), (ad 6, ca D 6 pr), (ad 7, co 3 [.ref (ad 8)]), (ad 8, ca D 6 sv)]) (fun _ => rfl) 38 rfl (fun _ _ => ?_)
    show G X D A 3 Q 0 0 38 [(0, .ref (ad 11)), (1, .ref (ad 5)), (2, .ref (ad 7))] [] [(ad 11, co 1 [vi 0, .ref (ad 12), .ref (ad 13)]), (ad 12, cq D 5 (qf [some (ad 14), some (ad 16), some (ad 18), some (ad 20), some (ad 22)])), (ad 13, cq D 5 (qf [some (ad 24), some (ad 26), some (ad 28), some (ad 30), some (ad 32)])), (ad 14, co 3 [.ref (ad 15)]), (ad 15, ca D 6 pr), (ad 16, co 3 [.ref (ad 17)]), (ad 17, ca D 6 (hp 1)), (ad 18, co 3 [.ref (ad 19)]), (ad 19, ca D 6 (hp 2)), (ad 20, co 3 [.ref (ad 21)]), (ad 21, ca D 6 (hp 3)), (ad 22, co 3 [.ref (ad 23)]), (ad 23, ca D 6 (hp 4)), (ad 24, co 3 [.ref (ad 25)]), (ad 25, ca D 6 sv), (ad 26, co 3 [.ref (ad 27)]), (ad 27, ca D 6 (hs 1)), (ad 28, co 3 [.ref (ad 29)]), (ad 29, ca D 6 (hs 2)), (ad 30, co 3 [.ref (ad 31)]), (ad 31, ca D 6 (hs 3)), (ad 32, co 3 [.ref (ad 33)]), (ad 33, ca D 6 (hs 4)), (ad 5, co 3 [.ref (ad 6)]), (ad 6, ca D 6 pr), (ad 7, co 3 [.ref (ad 8)]), (ad 8, ca D 6 sv)]
    refine g_aload_n O dX1_remember_38 39 0 rfl rfl ?_
    refine g_dup O dX1_remember_39 40 rfl rfl ?_
    refine g_get O dX1_remember_40 43 rfl fX1_remember_9 0 rfl rfl ?_
    refine g_iconst O dX1_remember_43 44 rfl ?_
    refine g_iadd O dX1_remember_44 45 rfl ?_
    refine g_put O dX1_remember_45 48 rfl fX1_remember_9 pF1_0 0 rfl rfl rfl (Nat.le_of_ble_eq_true rfl) [(ad 11, co 1 [vi 1, .ref (ad 12), .ref (ad 13)]), (ad 12, cq D 5 (qf [some (ad 14), some (ad 16), some (ad 18), some (ad 20), some (ad 22)])), (ad 13, cq D 5 (qf [some (ad 24), some (ad 26), some (ad 28), some (ad 30), some (ad 32)])), (ad 14, co 3 [.ref (ad 15)]), (ad 15, ca D 6 pr), (ad 16, co 3 [.ref (ad 17)]), (ad 17, ca D 6 (hp 1)), (ad 18, co 3 [.ref (ad 19)]), (ad 19, ca D 6 (hp 2)), (ad 20, co 3 [.ref (ad 21)]), (ad 21, ca D 6 (hp 3)), (ad 22, co 3 [.ref (ad 23)]), (ad 23, ca D 6 (hp 4)), (ad 24, co 3 [.ref (ad 25)]), (ad 25, ca D 6 sv), (ad 26, co 3 [.ref (ad 27)]), (ad 27, ca D 6 (hs 1)), (ad 28, co 3 [.ref (ad 29)]), (ad 29, ca D 6 (hs 2)), (ad 30, co 3 [.ref (ad 31)]), (ad 31, ca D 6 (hs 3)), (ad 32, co 3 [.ref (ad 33)]), (ad 33, ca D 6 (hs 4)), (ad 5, co 3 [.ref (ad 6)]), (ad 6, ca D 6 pr), (ad 7, co 3 [.ref (ad 8)]), (ad 8, ca D 6 sv)] rfl ?_
    exact g_vret O hQ dX1_remember_48 () rfl rfl trivial ⟨by decide, by decide⟩
  · skip
    refine g_aload_n O dX1_remember_0 1 0 rfl rfl ?_
    refine g_get O dX1_remember_1 4 rfl fX1_remember_9 0 rfl rfl ?_
    refine g_iconst O dX1_remember_4 5 rfl ?_
    refine g_icmp_ne O dX1_remember_5 8 12 rfl rfl (by omega) (fun _ => ?_) (fun h => absurd h (by decide))
    refine g_aload_n O dX1_remember_12 13 0 rfl rfl ?_
    refine g_get O dX1_remember_13 16 rfl fX1_remember_17 0 rfl rfl ?_
    refine g_aload_n O dX1_remember_16 17 0 rfl rfl ?_
    refine g_get O dX1_remember_17 20 rfl fX1_remember_9 0 rfl rfl ?_
    refine g_aald O dX1_remember_20 21 rfl 1 rfl (by decide) (by decide) (ad 16) rfl ?_
    refine g_aload_n O dX1_remember_21 22 1 rfl rfl ?_
    refine g_callV (As := [.ref (ad 5)]) (rest := []) (na := 1) O (k_X3_copyFrom D (ad 16) (ad 17) (ad 5) (ad 6) (hp 1) pr) dX1_remember_22 gX1_remember_X3_copyFrom rfl ⟨rfl, rfl⟩ (by decide +kernel) rfl (by decide) (by decide) rfl (by decide) (q0 := 5) (ci := 3) rfl rfl [5, 6, 23, 24] (by decide) rfl (fun _ => rfl) (fun _ => [(ad 11, co 1 [vi 1, .ref (ad 12), .ref (ad 13)]), (ad 12, cq D 5 (qf [some (ad 14), some (ad 16), some (ad 18), some (ad 20), some (ad 22)])), (ad 13, cq D 5 (qf [some (ad 24), some (ad 26), some (ad 28), some (ad 30), some (ad 32)])), (ad 14, co 3 [.ref (ad 15)]), (ad 15, ca D 6 (hp 0)), (ad 16, co 3 [.ref (ad 17)]), (ad 17, ca D 6 pr), (ad 18, co 3 [.ref (ad 19)]), (ad 19, ca D 6 (hp 2)), (ad 20, co 3 [.ref (ad 21)]), (ad 21, ca D 6 (hp 3)), (ad 22, co 3 [.ref (ad 23)]), (ad 23, ca D 6 (hp 4)), (ad 24, co 3 [.ref (ad 25)]), (ad 25, ca D 6 (hs 0)), (ad 26, co 3 [.ref (ad 27)]), (ad 27, ca D 6 (hs 1)), (ad 28, co 3 [.ref (ad 29)]), (ad 29, ca D 6 (hs 2)), (ad 30, co 3 [.ref (ad 31)]), (ad 31, ca D 6 (hs 3)), (ad 32, co 3 [.ref (ad 33)]), (ad 33, ca D 6 (hs 4)), (ad 5, co 3 [.ref (ad 6)]), (ad 6, ca D 6 pr), (ad 7, co 3 [.ref (ad 8)]), (ad 8, ca D 6 sv)]) (fun _ => rfl) 25 rfl (fun _ _ => ?_)
    show G X D A 3 Q 0 0 25 [(0, .ref (ad 11)), (1, .ref (ad 5)), (2, .ref (ad 7))] [] [(ad 11, co 1 [vi 1, .ref (ad 12), .ref (ad 13)]), (ad 12, cq D 5 (qf [some (ad 14), some (ad 16), some (ad 18), some (ad 20), some (ad 22)])), (ad 13, cq D 5 (qf [some (ad 24), some (ad 26), some (ad 28), some (ad 30), some (ad 32)])), (ad 14, co 3 [.ref (ad 15)]), (ad 15, ca D 6 (hp 0)), (ad 16, co 3 [.ref (ad 17)]), (ad 17, ca D 6 pr), (ad 18, co 3 [.ref (ad 19)]), (ad 19, ca D 6 (hp 2)), (ad 20, co 3 [.ref (ad 21)]), (ad 21, ca D 6 (hp 3)), (ad 22, co 3 [.ref (ad 23)]), (ad 23, ca D 6 (hp 4)), (ad 24, co 3 [.ref (ad 25)]), (ad 25, ca D 6 (hs 0)), (ad 26, co 3 [.ref (ad 27)]), (ad 27, ca D 6 (hs 1)), (ad 28, co 3 [.ref (ad 29)]), (ad 29, ca D 6 (hs 2)), (ad 30, co 3 [.ref (ad 31)]), (ad 31, ca D 6 (hs 3)), (ad 32, co 3 [.ref (ad 33)]), (ad 33, ca D 6 (hs 4)), (ad 5, co 3 [.ref (ad 6)]), (ad 6, ca D 6 pr), (ad 7, co 3 [.ref (ad 8)]), (ad 8, ca D 6 sv)]
    refine g_aload_n O dX1_remember_25 26 0 rfl rfl ?_
    refine g_get O dX1_remember_26 29 rfl fX1_remember_21 0 rfl rfl ?_
    refine g_aload_n O dX1_remember_29 30 0 rfl rfl ?_
    refine g_get O dX1_remember_30 33 rfl fX1_remember_9 0 rfl rfl ?_
    refine g_aald O dX1_remember_33 34 rfl 2 rfl (by decide) (by decide) (ad 26) rfl ?_
    refine g_aload_n O dX1_remember_34 35 2 rfl rfl ?_
    refine g_callV (As := [.ref (ad 7)]) (rest := []) (na := 1) O (k_X3_copyFrom D (ad 26) (ad 27) (ad 7) (ad 8) (hs 1) sv) dX1_remember_35 gX1_remember_X3_copyFrom rfl ⟨rfl, rfl⟩ (by decide +kernel) rfl (by decide) (by decide) rfl (by decide) (q0 := 15) (ci := 3) rfl rfl [15, 16, 25, 26] (by decide) rfl (fun _ => rfl) (fun _ => [(ad 11, co 1 [vi 1, .ref (ad 12), .ref (ad 13)]), (ad 12, cq D 5 (qf [some (ad 14), some (ad 16), some (ad 18), some (ad 20), some (ad 22)])), (ad 13, cq D 5 (qf [some (ad 24), some (ad 26), some (ad 28), some (ad 30), some (ad 32)])), (ad 14, co 3 [.ref (ad 15)]), (ad 15, ca D 6 (hp 0)), (ad 16, co 3 [.ref (ad 17)]), (ad 17, ca D 6 pr), (ad 18, co 3 [.ref (ad 19)]), (ad 19, ca D 6 (hp 2)), (ad 20, co 3 [.ref (ad 21)]), (ad 21, ca D 6 (hp 3)), (ad 22, co 3 [.ref (ad 23)]), (ad 23, ca D 6 (hp 4)), (ad 24, co 3 [.ref (ad 25)]), (ad 25, ca D 6 (hs 0)), (ad 26, co 3 [.ref (ad 27)]), (ad 27, ca D 6 sv), (ad 28, co 3 [.ref (ad 29)]), (ad 29, ca D 6 (hs 2)), (ad 30, co 3 [.ref (ad 31)]), (ad 31, ca D 6 (hs 3)), (ad 32, co 3 [.ref (ad 33)]), (ad 33, ca D 6 (hs 4)), (ad 5, co 3 [.ref (ad 6)]), (ad 6, ca D 6 pr), (ad 7, co 3 [.ref (ad 8)]), (ad 8, ca D 6 sv)]) (fun _ => rfl) 38 rfl (fun _ _ => ?_)
    show G X D A 3 Q 0 0 38 [(0, .ref (ad 11)), (1, .ref (ad 5)), (2, .ref (ad 7))] [] [(ad 11, co 1 [vi 1, .ref (ad 12), .ref (ad 13)]), (ad 12, cq D 5 (qf [some (ad 14), some (ad 16), some (ad 18), some (ad 20), some (ad 22)])), (ad 13, cq D 5 (qf [some (ad 24), some (ad 26), some (ad 28), some (ad 30), some (ad 32)])), (ad 14, co 3 [.ref (ad 15)]), (ad 15, ca D 6 (hp 0)), (ad 16, co 3 [.ref (ad 17)]), (ad 17, ca D 6 pr), (ad 18, co 3 [.ref (ad 19)]), (ad 19, ca D 6 (hp 2)), (ad 20, co 3 [.ref (ad 21)]), (ad 21, ca D 6 (hp 3)), (ad 22, co 3 [.ref (ad 23)]), (ad 23, ca D 6 (hp 4)), (ad 24, co 3 [.ref (ad 25)]), (ad 25, ca D 6 (hs 0)), (ad 26, co 3 [.ref (ad 27)]), (ad 27, ca D 6 sv), (ad 28, co 3 [.ref (ad 29)]), (ad 29, ca D 6 (hs 2)), (ad 30, co 3 [.ref (ad 31)]), (ad 31, ca D 6 (hs 3)), (ad 32, co 3 [.ref (ad 33)]), (ad 33, ca D 6 (hs 4)), (ad 5, co 3 [.ref (ad 6)]), (ad 6, ca D 6 pr), (ad 7, co 3 [.ref (ad 8)]), (ad 8, ca D 6 sv)]
    refine g_aload_n O dX1_remember_38 39 0 rfl rfl ?_
    refine g_dup O dX1_remember_39 40 rfl rfl ?_
    refine g_get O dX1_remember_40 43 rfl fX1_remember_9 0 rfl rfl ?_
    refine g_iconst O dX1_remember_43 44 rfl ?_
    refine g_iadd O dX1_remember_44 45 rfl ?_
    refine g_put O dX1_remember_45 48 rfl fX1_remember_9 pF1_0 0 rfl rfl rfl (Nat.le_of_ble_eq_true rfl) [(ad 11, co 1 [vi 2, .ref (ad 12), .ref (ad 13)]), (ad 12, cq D 5 (qf [some (ad 14), some (ad 16), some (ad 18), some (ad 20), some (ad 22)])), (ad 13, cq D 5 (qf [some (ad 24), some (ad 26), some (ad 28), some (ad 30), some (ad 32)])), (ad 14, co 3 [.ref (ad 15)]), (ad 15, ca D 6 (hp 0)), (ad 16, co 3 [.ref (ad 17)]), (ad 17, ca D 6 pr), (ad 18, co 3 [.ref (ad 19)]), (ad 19, ca D 6 (hp 2)), (ad 20, co 3 [.ref (ad 21)]), (ad 21, ca D 6 (hp 3)), (ad 22, co 3 [.ref (ad 23)]), (ad 23, ca D 6 (hp 4)), (ad 24, co 3 [.ref (ad 25)]), (ad 25, ca D 6 (hs 0)), (ad 26, co 3 [.ref (ad 27)]), (ad 27, ca D 6 sv), (ad 28, co 3 [.ref (ad 29)]), (ad 29, ca D 6 (hs 2)), (ad 30, co 3 [.ref (ad 31)]), (ad 31, ca D 6 (hs 3)), (ad 32, co 3 [.ref (ad 33)]), (ad 33, ca D 6 (hs 4)), (ad 5, co 3 [.ref (ad 6)]), (ad 6, ca D 6 pr), (ad 7, co 3 [.ref (ad 8)]), (ad 8, ca D 6 sv)] rfl ?_
    exact g_vret O hQ dX1_remember_48 () rfl rfl trivial ⟨by decide, by decide⟩
  · skip
    refine g_aload_n O dX1_remember_0 1 0 rfl rfl ?_
    refine g_get O dX1_remember_1 4 rfl fX1_remember_9 0 rfl rfl ?_
    refine g_iconst O dX1_remember_4 5 rfl ?_
    refine g_icmp_ne O dX1_remember_5 8 12 rfl rfl (by omega) (fun _ => ?_) (fun h => absurd h (by decide))
    refine g_aload_n O dX1_remember_12 13 0 rfl rfl ?_
    refine g_get O dX1_remember_13 16 rfl fX1_remember_17 0 rfl rfl ?_
    refine g_aload_n O dX1_remember_16 17 0 rfl rfl ?_
    refine g_get O dX1_remember_17 20 rfl fX1_remember_9 0 rfl rfl ?_
    refine g_aald O dX1_remember_20 21 rfl 1 rfl (by decide) (by decide) (ad 18) rfl ?_
    refine g_aload_n O dX1_remember_21 22 1 rfl rfl ?_
    refine g_callV (As := [.ref (ad 5)]) (rest := []) (na := 1) O (k_X3_copyFrom D (ad 18) (ad 19) (ad 5) (ad 6) (hp 2) pr) dX1_remember_22 gX1_remember_X3_copyFrom rfl ⟨rfl, rfl⟩ (by decide +kernel) rfl (by decide) (by decide) rfl (by decide) (q0 := 7) (ci := 3) rfl rfl [7, 8, 23, 24] (by decide) rfl (fun _ => rfl) (fun _ => [(ad 11, co 1 [vi 2, .ref (ad 12), .ref (ad 13)]), (ad 12, cq D 5 (qf [some (ad 14), some (ad 16), some (ad 18), some (ad 20), some (ad 22)])), (ad 13, cq D 5 (qf [some (ad 24), some (ad 26), some (ad 28), some (ad 30), some (ad 32)])), (ad 14, co 3 [.ref (ad 15)]), (ad 15, ca D 6 (hp 0)), (ad 16, co 3 [.ref (ad 17)]), (ad 17, ca D 6 (hp 1)), (ad 18, co 3 [.ref (ad 19)]), (ad 19, ca D 6 pr), (ad 20, co 3 [.ref (ad 21)]), (ad 21, ca D 6 (hp 3)), (ad 22, co 3 [.ref (ad 23)]), (ad 23, ca D 6 (hp 4)), (ad 24, co 3 [.ref (ad 25)]), (ad 25, ca D 6 (hs 0)), (ad 26, co 3 [.ref (ad 27)]), (ad 27, ca D 6 (hs 1)), (ad 28, co 3 [.ref (ad 29)]), (ad 29, ca D 6 (hs 2)), (ad 30, co 3 [.ref (ad 31)]), (ad 31, ca D 6 (hs 3)), (ad 32, co 3 [.ref (ad 33)]), (ad 33, ca D 6 (hs 4)), (ad 5, co 3 [.ref (ad 6)]), (ad 6, ca D 6 pr), (ad 7, co 3 [.ref (ad 8)]), (ad 8, ca D 6 sv)]) (fun _ => rfl) 25 rfl (fun _ _ => ?_)
    show G X D A 3 Q 0 0 25 [(0, .ref (ad 11)), (1, .ref (ad 5)), (2, .ref (ad 7))] [] [(ad 11, co 1 [vi 2, .ref (ad 12), .ref (ad 13)]), (ad 12, cq D 5 (qf [some (ad 14), some (ad 16), some (ad 18), some (ad 20), some (ad 22)])), (ad 13, cq D 5 (qf [some (ad 24), some (ad 26), some (ad 28), some (ad 30), some (ad 32)])), (ad 14, co 3 [.ref (ad 15)]), (ad 15, ca D 6 (hp 0)), (ad 16, co 3 [.ref (ad 17)]), (ad 17, ca D 6 (hp 1)), (ad 18, co 3 [.ref (ad 19)]), (ad 19, ca D 6 pr), (ad 20, co 3 [.ref (ad 21)]), (ad 21, ca D 6 (hp 3)), (ad 22, co 3 [.ref (ad 23)]), (ad 23, ca D 6 (hp 4)), (ad 24, co 3 [.ref (ad 25)]), (ad 25, ca D 6 (hs 0)), (ad 26, co 3 [.ref (ad 27)]), (ad 27, ca D 6 (hs 1)), (ad 28, co 3 [.ref (ad 29)]), (ad 29, ca D 6 (hs 2)), (ad 30, co 3 [.ref (ad 31)]), (ad 31, ca D 6 (hs 3)), (ad 32, co 3 [.ref (ad 33)]), (ad 33, ca D 6 (hs 4)), (ad 5, co 3 [.ref (ad 6)]), (ad 6, ca D 6 pr), (ad 7, co 3 [.ref (ad 8)]), (ad 8, ca D 6 sv)]
    refine g_aload_n O dX1_remember_25 26 0 rfl rfl ?_
    refine g_get O dX1_remember_26 29 rfl fX1_remember_21 0 rfl rfl ?_
    refine g_aload_n O dX1_remember_29 30 0 rfl rfl ?_
    refine g_get O dX1_remember_30 33 rfl fX1_remember_9 0 rfl rfl ?_
    refine g_aald O dX1_remember_33 34 rfl 2 rfl (by decide) (by decide) (ad 28) rfl ?_
    refine g_aload_n O dX1_remember_34 35 2 rfl rfl ?_
    refine g_callV (As := [.ref (ad 7)]) (rest := []) (na := 1) O (k_X3_copyFrom D (ad 28) (ad 29) (ad 7) (ad 8) (hs 2) sv) dX1_remember_35 gX1_remember_X3_copyFrom rfl ⟨rfl, rfl⟩ (by decide +kernel) rfl (by decide) (by decide) rfl (by decide) (q0 := 17) (ci := 3) rfl rfl [17, 18, 25, 26] (by decide) rfl (fun _ => rfl) (fun _ => [(ad 11, co 1 [vi 2, .ref (ad 12), .ref (ad 13)]), (ad 12, cq D 5 (qf [some (ad 14), some (ad 16), some (ad 18), some (ad 20), some (ad 22)])), (ad 13, cq D 5 (qf [some (ad 24), some (ad 26), some (ad 28), some (ad 30), some (ad 32)])), (ad 14, co 3 [.ref (ad 15)]), (ad 15, ca D 6 (hp 0)), (ad 16, co 3 [.ref (ad 17)]), (ad 17, ca D 6 (hp 1)), (ad 18, co 3 [.ref (ad 19)]), (ad 19, ca D 6 pr), (ad 20, co 3 [.ref (ad 21)]), (ad 21, ca D 6 (hp 3)), (ad 22, co 3 [.ref (ad 23)]), (ad 23, ca D 6 (hp 4)), (ad 24, co 3 [.ref (ad 25)]), (ad 25, ca D 6 (hs 0)), (ad 26, co 3 [.ref (ad 27)]), (ad 27, ca D 6 (hs 1)), (ad 28, co 3 [.ref (ad 29)]), (ad 29, ca D 6 sv), (ad 30, co 3 [.ref (ad 31)]), (ad 31, ca D 6 (hs 3)), (ad 32, co 3 [.ref (ad 33)]), (ad 33, ca D 6 (hs 4)), (ad 5, co 3 [.ref (ad 6)]), (ad 6, ca D 6 pr), (ad 7, co 3 [.ref (ad 8)]), (ad 8, ca D 6 sv)]) (fun _ => rfl) 38 rfl (fun _ _ => ?_)
    show G X D A 3 Q 0 0 38 [(0, .ref (ad 11)), (1, .ref (ad 5)), (2, .ref (ad 7))] [] [(ad 11, co 1 [vi 2, .ref (ad 12), .ref (ad 13)]), (ad 12, cq D 5 (qf [some (ad 14), some (ad 16), some (ad 18), some (ad 20), some (ad 22)])), (ad 13, cq D 5 (qf [some (ad 24), some (ad 26), some (ad 28), some (ad 30), some (ad 32)])), (ad 14, co 3 [.ref (ad 15)]), (ad 15, ca D 6 (hp 0)), (ad 16, co 3 [.ref (ad 17)]), (ad 17, ca D 6 (hp 1)), (ad 18, co 3 [.ref (ad 19)]), (ad 19, ca D 6 pr), (ad 20, co 3 [.ref (ad 21)]), (ad 21, ca D 6 (hp 3)), (ad 22, co 3 [.ref (ad 23)]), (ad 23, ca D 6 (hp 4)), (ad 24, co 3 [.ref (ad 25)]), (ad 25, ca D 6 (hs 0)), (ad 26, co 3 [.ref (ad 27)]), (ad 27, ca D 6 (hs 1)), (ad 28, co 3 [.ref (ad 29)]), (ad 29, ca D 6 sv), (ad 30, co 3 [.ref (ad 31)]), (ad 31, ca D 6 (hs 3)), (ad 32, co 3 [.ref (ad 33)]), (ad 33, ca D 6 (hs 4)), (ad 5, co 3 [.ref (ad 6)]), (ad 6, ca D 6 pr), (ad 7, co 3 [.ref (ad 8)]), (ad 8, ca D 6 sv)]
    refine g_aload_n O dX1_remember_38 39 0 rfl rfl ?_
    refine g_dup O dX1_remember_39 40 rfl rfl ?_
    refine g_get O dX1_remember_40 43 rfl fX1_remember_9 0 rfl rfl ?_
    refine g_iconst O dX1_remember_43 44 rfl ?_
    refine g_iadd O dX1_remember_44 45 rfl ?_
    refine g_put O dX1_remember_45 48 rfl fX1_remember_9 pF1_0 0 rfl rfl rfl (Nat.le_of_ble_eq_true rfl) [(ad 11, co 1 [vi 3, .ref (ad 12), .ref (ad 13)]), (ad 12, cq D 5 (qf [some (ad 14), some (ad 16), some (ad 18), some (ad 20), some (ad 22)])), (ad 13, cq D 5 (qf [some (ad 24), some (ad 26), some (ad 28), some (ad 30), some (ad 32)])), (ad 14, co 3 [.ref (ad 15)]), (ad 15, ca D 6 (hp 0)), (ad 16, co 3 [.ref (ad 17)]), (ad 17, ca D 6 (hp 1)), (ad 18, co 3 [.ref (ad 19)]), (ad 19, ca D 6 pr), (ad 20, co 3 [.ref (ad 21)]), (ad 21, ca D 6 (hp 3)), (ad 22, co 3 [.ref (ad 23)]), (ad 23, ca D 6 (hp 4)), (ad 24, co 3 [.ref (ad 25)]), (ad 25, ca D 6 (hs 0)), (ad 26, co 3 [.ref (ad 27)]), (ad 27, ca D 6 (hs 1)), (ad 28, co 3 [.ref (ad 29)]), (ad 29, ca D 6 sv), (ad 30, co 3 [.ref (ad 31)]), (ad 31, ca D 6 (hs 3)), (ad 32, co 3 [.ref (ad 33)]), (ad 33, ca D 6 (hs 4)), (ad 5, co 3 [.ref (ad 6)]), (ad 6, ca D 6 pr), (ad 7, co 3 [.ref (ad 8)]), (ad 8, ca D 6 sv)] rfl ?_
    exact g_vret O hQ dX1_remember_48 () rfl rfl trivial ⟨by decide, by decide⟩
  · skip
    refine g_aload_n O dX1_remember_0 1 0 rfl rfl ?_
    refine g_get O dX1_remember_1 4 rfl fX1_remember_9 0 rfl rfl ?_
    refine g_iconst O dX1_remember_4 5 rfl ?_
    refine g_icmp_ne O dX1_remember_5 8 12 rfl rfl (by omega) (fun _ => ?_) (fun h => absurd h (by decide))
    refine g_aload_n O dX1_remember_12 13 0 rfl rfl ?_
    refine g_get O dX1_remember_13 16 rfl fX1_remember_17 0 rfl rfl ?_
    refine g_aload_n O dX1_remember_16 17 0 rfl rfl ?_
    refine g_get O dX1_remember_17 20 rfl fX1_remember_9 0 rfl rfl ?_
    refine g_aald O dX1_remember_20 21 rfl 1 rfl (by decide) (by decide) (ad 20) rfl ?_
    refine g_aload_n O dX1_remember_21 22 1 rfl rfl ?_
    refine g_callV (As := [.ref (ad 5)]) (rest := []) (na := 1) O (k_X3_copyFrom D (ad 20) (ad 21) (ad 5) (ad 6) (hp 3) pr) dX1_remember_22 gX1_remember_X3_copyFrom rfl ⟨rfl, rfl⟩ (by decide +kernel) rfl (by decide) (by decide) rfl (by decide) (q0 := 9) (ci := 3) rfl rfl [9, 10, 23, 24] (by decide) rfl (fun _ => rfl) (fun _ => [(ad 11, co 1 [vi 3, .ref (ad 12), .ref (ad 13)]), (ad 12, cq D 5 (qf [some (ad 14), some (ad 16), some (ad 18), some (ad 20), some (ad 22)])), (ad 13, cq D 5 (qf [some (ad 24), some (ad 26), some (ad 28), some (ad 30), some (ad 32)])), (ad 14, co 3 [.ref (ad 15)]), (ad 15, ca D 6 (hp 0)), (ad 16, co 3 [.ref (ad 17)]), (ad 17, ca D 6 (hp 1)), (ad 18, co 3 [.ref (ad 19)]), (ad 19, ca D 6 (hp 2)), (ad 20, co 3 [.ref (ad 21)]), (ad 21, ca D 6 pr), (ad 22, co 3 [.ref (ad 23)]), (ad 23, ca D 6 (hp 4)), (ad 24, co 3 [.ref (ad 25)]), (ad 25, ca D 6 (hs 0)), (ad 26, co 3 [.ref (ad 27)]), (ad 27, ca D 6 (hs 1)), (ad 28, co 3 [.ref (ad 29)]), (ad 29, ca D 6 (hs 2)), (ad 30, co 3 [.ref (ad 31)]), (ad 31, ca D 6 (hs 3)), (ad 32, co 3 [.ref (ad 33)]), (ad 33, ca D 6 (hs 4)), (ad 5, co 3 [.ref (ad 6)]), (ad 6, ca D 6 pr), (ad 7, co 3 [.ref (ad 8)]), (ad 8, ca D 6 sv)]) (fun _ => rfl) 25 rfl (fun _ _ => ?_)
    show G X D A 3 Q 0 0 25 [(0, .ref (ad 11)), (1, .ref (ad 5)), (2, .ref (ad 7))] [] [(ad 11, co 1 [vi 3, .ref (ad 12), .ref (ad 13)]), (ad 12, cq D 5 (qf [some (ad 14), some (ad 16), some (ad 18), some (ad 20), some (ad 22)])), (ad 13, cq D 5 (qf [some (ad 24), some (ad 26), some (ad 28), some (ad 30), some (ad 32)])), (ad 14, co 3 [.ref (ad 15)]), (ad 15, ca D 6 (hp 0)), (ad 16, co 3 [.ref (ad 17)]), (ad 17, ca D 6 (hp 1)), (ad 18, co 3 [.ref (ad 19)]), (ad 19, ca D 6 (hp 2)), (ad 20, co 3 [.ref (ad 21)]), (ad 21, ca D 6 pr), (ad 22, co 3 [.ref (ad 23)]), (ad 23, ca D 6 (hp 4)), (ad 24, co 3 [.ref (ad 25)]), (ad 25, ca D 6 (hs 0)), (ad 26, co 3 [.ref (ad 27)]), (ad 27, ca D 6 (hs 1)), (ad 28, co 3 [.ref (ad 29)]), (ad 29, ca D 6 (hs 2)), (ad 30, co 3 [.ref (ad 31)]), (ad 31, ca D 6 (hs 3)), (ad 32, co 3 [.ref (ad 33)]), (ad 33, ca D 6 (hs 4)), (ad 5, co 3 [.ref (ad 6)]), (ad 6, ca D 6 pr), (ad 7, co 3 [.ref (ad 8)]), (ad 8, ca D 6 sv)]
    refine g_aload_n O dX1_remember_25 26 0 rfl rfl ?_
    refine g_get O dX1_remember_26 29 rfl fX1_remember_21 0 rfl rfl ?_
    refine g_aload_n O dX1_remember_29 30 0 rfl rfl ?_
    refine g_get O dX1_remember_30 33 rfl fX1_remember_9 0 rfl rfl ?_
    refine g_aald O dX1_remember_33 34 rfl 2 rfl (by decide) (by decide) (ad 30) rfl ?_
    refine g_aload_n O dX1_remember_34 35 2 rfl rfl ?_
    refine g_callV (As := [.ref (ad 7)]) (rest := []) (na := 1) O (k_X3_copyFrom D (ad 30) (ad 31) (ad 7) (ad 8) (hs 3) sv) dX1_remember_35 gX1_remember_X3_copyFrom rfl ⟨rfl, rfl⟩ (by decide +kernel) rfl (by decide) (by decide) rfl (by decide) (q0 := 19) (ci := 3) rfl rfl [19, 20, 25, 26] (by decide) rfl (fun _ => rfl) (fun _ => [(ad 11, co 1 [vi 3, .ref (ad 12), .ref (ad 13)]), (ad 12, cq D 5 (qf [some (ad 14), some (ad 16), some (ad 18), some (ad 20), some (ad 22)])), (ad 13, cq D 5 (qf [some (ad 24), some (ad 26), some (ad 28), some (ad 30), some (ad 32)])), (ad 14, co 3 [.ref (ad 15)]), (ad 15, ca D 6 (hp 0)), (ad 16, co 3 [.ref (ad 17)]), (ad 17, ca D 6 (hp 1)), (ad 18, co 3 [.ref (ad 19)]), (ad 19, ca D 6 (hp 2)), (ad 20, co 3 [.ref (ad 21)]), (ad 21, ca D 6 pr), (ad 22, co 3 [.ref (ad 23)]), (ad 23, ca D 6 (hp 4)), (ad 24, co 3 [.ref (ad 25)]), (ad 25, ca D 6 (hs 0)), (ad 26, co 3 [.ref (ad 27)]), (ad 27, ca D 6 (hs 1)), (ad 28, co 3 [.ref (ad 29)]), (ad 29, ca D 6 (hs 2)), (ad 30, co 3 [.ref (ad 31)]), (ad 31, ca D 6 sv), (ad 32, co 3 [.ref (ad 33)]), (ad 33, ca D 6 (hs 4)), (ad 5, co 3 [.ref (ad 6)]), (ad 6, ca D 6 pr), (ad 7, co 3 [.ref (ad 8)]), (ad 8, ca D 6 sv)]) (fun _ => rfl) 38 rfl (fun _ _ => ?_)
    show G X D A 3 Q 0 0 38 [(0, .ref (ad 11)), (1, .ref (ad 5)), (2, .ref (ad 7))] [] [(ad 11, co 1 [vi 3, .ref (ad 12), .ref (ad 13)]), (ad 12, cq D 5 (qf [some (ad 14), some (ad 16), some (ad 18), some (ad 20), some (ad 22)])), (ad 13, cq D 5 (qf [some (ad 24), some (ad 26), some (ad 28), some (ad 30), some (ad 32)])), (ad 14, co 3 [.ref (ad 15)]), (ad 15, ca D 6 (hp 0)), (ad 16, co 3 [.ref (ad 17)]), (ad 17, ca D 6 (hp 1)), (ad 18, co 3 [.ref (ad 19)]), (ad 19, ca D 6 (hp 2)), (ad 20, co 3 [.ref (ad 21)]), (ad 21, ca D 6 pr), (ad 22, co 3 [.ref (ad 23)]), (ad 23, ca D 6 (hp 4)), (ad 24, co 3 [.ref (ad 25)]), (ad 25, ca D 6 (hs 0)), (ad 26, co 3 [.ref (ad 27)]), (ad 27, ca D 6 (hs 1)), (ad 28, co 3 [.ref (ad 29)]), (ad 29, ca D 6 (hs 2)), (ad 30, co 3 [.ref (ad 31)]), (ad 31, ca D 6 sv), (ad 32, co 3 [.ref (ad 33)]), (ad 33, ca D 6 (hs 4)), (ad 5, co 3 [.ref (ad 6)]), (ad 6, ca D 6 pr), (ad 7, co 3 [.ref (ad 8)]), (ad 8, ca D 6 sv)]
    refine g_aload_n O dX1_remember_38 39 0 rfl rfl ?_
    refine g_dup O dX1_remember_39 40 rfl rfl ?_
    refine g_get O dX1_remember_40 43 rfl fX1_remember_9 0 rfl rfl ?_
    refine g_iconst O dX1_remember_43 44 rfl ?_
    refine g_iadd O dX1_remember_44 45 rfl ?_
    refine g_put O dX1_remember_45 48 rfl fX1_remember_9 pF1_0 0 rfl rfl rfl (Nat.le_of_ble_eq_true rfl) [(ad 11, co 1 [vi 4, .ref (ad 12), .ref (ad 13)]), (ad 12, cq D 5 (qf [some (ad 14), some (ad 16), some (ad 18), some (ad 20), some (ad 22)])), (ad 13, cq D 5 (qf [some (ad 24), some (ad 26), some (ad 28), some (ad 30), some (ad 32)])), (ad 14, co 3 [.ref (ad 15)]), (ad 15, ca D 6 (hp 0)), (ad 16, co 3 [.ref (ad 17)]), (ad 17, ca D 6 (hp 1)), (ad 18, co 3 [.ref (ad 19)]), (ad 19, ca D 6 (hp 2)), (ad 20, co 3 [.ref (ad 21)]), (ad 21, ca D 6 pr), (ad 22, co 3 [.ref (ad 23)]), (ad 23, ca D 6 (hp 4)), (ad 24, co 3 [.ref (ad 25)]), (ad 25, ca D 6 (hs 0)), (ad 26, co 3 [.ref (ad 27)]), (ad 27, ca D 6 (hs 1)), (ad 28, co 3 [.ref (ad 29)]), (ad 29, ca D 6 (hs 2)), (ad 30, co 3 [.ref (ad 31)]), (ad 31, ca D 6 sv), (ad 32, co 3 [.ref (ad 33)]), (ad 33, ca D 6 (hs 4)), (ad 5, co 3 [.ref (ad 6)]), (ad 6, ca D 6 pr), (ad 7, co 3 [.ref (ad 8)]), (ad 8, ca D 6 sv)] rfl ?_
    exact g_vret O hQ dX1_remember_48 () rfl rfl trivial ⟨by decide, by decide⟩
  · skip
    refine g_aload_n O dX1_remember_0 1 0 rfl rfl ?_
    refine g_get O dX1_remember_1 4 rfl fX1_remember_9 0 rfl rfl ?_
    refine g_iconst O dX1_remember_4 5 rfl ?_
    refine g_icmp_ne O dX1_remember_5 8 12 rfl rfl (by omega) (fun _ => ?_) (fun h => absurd h (by decide))
    refine g_aload_n O dX1_remember_12 13 0 rfl rfl ?_
    refine g_get O dX1_remember_13 16 rfl fX1_remember_17 0 rfl rfl ?_
    refine g_aload_n O dX1_remember_16 17 0 rfl rfl ?_
    refine g_get O dX1_remember_17 20 rfl fX1_remember_9 0 rfl rfl ?_
    refine g_aald O dX1_remember_20 21 rfl 1 rfl (by decide) (by decide) (ad 22) rfl ?_
    refine g_aload_n O dX1_remember_21 22 1 rfl rfl ?_
    refine g_callV (As := [.ref (ad 5)]) (rest := []) (na := 1) O (k_X3_copyFrom D (ad 22) (ad 23) (ad 5) (ad 6) (hp 4) pr) dX1_remember_22 gX1_remember_X3_copyFrom rfl ⟨rfl, rfl⟩ (by decide +kernel) rfl (by decide) (by decide) rfl (by decide) (q0 := 11) (ci := 3) rfl rfl [11, 12, 23, 24] (by decide) rfl (fun _ => rfl) (fun _ => [(ad 11, co 1 [vi 4, .ref (ad 12), .ref (ad 13)]), (ad 12, cq D 5 (qf [some (ad 14), some (ad 16), some (ad 18), some (ad 20), some (ad 22)])), (ad 13, cq D 5 (qf [some (ad 24), some (ad 26), some (ad 28), some (ad 30), some (ad 32)])), (ad 14, co 3 [.ref (ad 15)]), (ad 15, ca D 6 (hp 0)), (ad 16, co 3 [.ref (ad 17)]), (ad 17, ca D 6 (hp 1)), (ad 18, co 3 [.ref (ad 19)]), (ad 19, ca D 6 (hp 2)), (ad 20, co 3 [.ref (ad 21)]), (ad 21, ca D 6 (hp 3)), (ad 22, co 3 [.ref (ad 23)]), (ad 23, ca D 6 pr), (ad 24, co 3 [.ref (ad 25)]), (ad 25, ca D 6 (hs 0)), (ad 26, co 3 [.ref (ad 27)]), (ad 27, ca D 6 (hs 1)), (ad 28, co 3 [.ref (ad 29)]), (ad 29, ca D 6 (hs 2)), (ad 30, co 3 [.ref (ad 31)]), (ad 31, ca D 6 (hs 3)), (ad 32, co 3 [.ref (ad 33)]), (ad 33, ca D 6 (hs 4)), (ad 5, co 3 [.ref (ad 6)]), (ad 6, ca D 6 pr), (ad 7, co 3 [.ref (ad 8)]), (ad 8, ca D 6 sv)]) (fun _ => rfl) 25 rfl (fun _ _ => ?_)
    show G X D A 3 Q 0 0 25 [(0, .ref (ad 11)), (1, .ref (ad 5)), (2, .ref (ad 7))] [] [(ad 11, co 1 [vi 4, .ref (ad 12), .ref (ad 13)]), (ad 12, cq D 5 (qf [some (ad 14), some (ad 16), some (ad 18), some (ad 20), some (ad 22)])), (ad 13, cq D 5 (qf [some (ad 24), some (ad 26), some (ad 28), some (ad 30), some (ad 32)])), (ad 14, co 3 [.ref (ad 15)]), (ad 15, ca D 6 (hp 0)), (ad 16, co 3 [.ref (ad 17)]), (ad 17, ca D 6 (hp 1)), (ad 18, co 3 [.ref (ad 19)]), (ad 19, ca D 6 (hp 2)), (ad 20, co 3 [.ref (ad 21)]), (ad 21, ca D 6 (hp 3)), (ad 22, co 3 [.ref (ad 23)]), (ad 23, ca D 6 pr), (ad 24, co 3 [.ref (ad 25)]), (ad 25, ca D 6 (hs 0)), (ad 26, co 3 [.ref (ad 27)]), (ad 27, ca D 6 (hs 1)), (ad 28, co 3 [.ref (ad 29)]), (ad 29, ca D 6 (hs 2)), (ad 30, co 3 [.ref (ad 31)]), (ad 31, ca D 6 (hs 3)), (ad 32, co 3 [.ref (ad 33)]), (ad 33, ca D 6 (hs 4)), (ad 5, co 3 [.ref (ad 6)]), (ad 6, ca D 6 pr), (ad 7, co 3 [.ref (ad 8)]), (ad 8, ca D 6 sv)]
    refine g_aload_n O dX1_remember_25 26 0 rfl rfl ?_
    refine g_get O dX1_remember_26 29 rfl fX1_remember_21 0 rfl rfl ?_
    refine g_aload_n O dX1_remember_29 30 0 rfl rfl ?_
    refine g_get O dX1_remember_30 33 rfl fX1_remember_9 0 rfl rfl ?_
    refine g_aald O dX1_remember_33 34 rfl 2 rfl (by decide) (by decide) (ad 32) rfl ?_
    refine g_aload_n O dX1_remember_34 35 2 rfl rfl ?_
    refine g_callV (As := [.ref (ad 7)]) (rest := []) (na := 1) O (k_X3_copyFrom D (ad 32) (ad 33) (ad 7) (ad 8) (hs 4) sv) dX1_remember_35 gX1_remember_X3_copyFrom rfl ⟨rfl, rfl⟩ (by decide +kernel) rfl (by decide) (by decide) rfl (by decide) (q0 := 21) (ci := 3) rfl rfl [21, 22, 25, 26] (by decide) rfl (fun _ => rfl) (fun _ => [(ad 11, co 1 [vi 4, .ref (ad 12), .ref (ad 13)]), (ad 12, cq D 5 (qf [some (ad 14), some (ad 16), some (ad 18), some (ad 20), some (ad 22)])), (ad 13, cq D 5 (qf [some (ad 24), some (ad 26), some (ad 28), some (ad 30), some (ad 32)])), (ad 14, co 3 [.ref (ad 15)]), (ad 15, ca D 6 (hp 0)), (ad 16, co 3 [.ref (ad 17)]), (ad 17, ca D 6 (hp 1)), (ad 18, co 3 [.ref (ad 19)]), (ad 19, ca D 6 (hp 2)), (ad 20, co 3 [.ref (ad 21)]), (ad 21, ca D 6 (hp 3)), (ad 22, co 3 [.ref (ad 23)]), (ad 23, ca D 6 pr), (ad 24, co 3 [.ref (ad 25)]), (ad 25, ca D 6 (hs 0)), (ad 26, co 3 [.ref (ad 27)]), (ad 27, ca D 6 (hs 1)), (ad 28, co 3 [.ref (ad 29)]), (ad 29, ca D 6 (hs 2)), (ad 30, co 3 [.ref (ad 31)]), (ad 31, ca D 6 (hs 3)), (ad 32, co 3 [.ref (ad 33)]), (ad 33, ca D 6 sv), (ad 5, co 3 [.ref (ad 6)]), (ad 6, ca D 6 pr), (ad 7, co 3 [.ref (ad 8)]), (ad 8, ca D 6 sv)]) (fun _ => rfl) 38 rfl (fun _ _ => ?_)
    show G X D A 3 Q 0 0 38 [(0, .ref (ad 11)), (1, .ref (ad 5)), (2, .ref (ad 7))] [] [(ad 11, co 1 [vi 4, .ref (ad 12), .ref (ad 13)]), (ad 12, cq D 5 (qf [some (ad 14), some (ad 16), some (ad 18), some (ad 20), some (ad 22)])), (ad 13, cq D 5 (qf [some (ad 24), some (ad 26), some (ad 28), some (ad 30), some (ad 32)])), (ad 14, co 3 [.ref (ad 15)]), (ad 15, ca D 6 (hp 0)), (ad 16, co 3 [.ref (ad 17)]), (ad 17, ca D 6 (hp 1)), (ad 18, co 3 [.ref (ad 19)]), (ad 19, ca D 6 (hp 2)), (ad 20, co 3 [.ref (ad 21)]), (ad 21, ca D 6 (hp 3)), (ad 22, co 3 [.ref (ad 23)]), (ad 23, ca D 6 pr), (ad 24, co 3 [.ref (ad 25)]), (ad 25, ca D 6 (hs 0)), (ad 26, co 3 [.ref (ad 27)]), (ad 27, ca D 6 (hs 1)), (ad 28, co 3 [.ref (ad 29)]), (ad 29, ca D 6 (hs 2)), (ad 30, co 3 [.ref (ad 31)]), (ad 31, ca D 6 (hs 3)), (ad 32, co 3 [.ref (ad 33)]), (ad 33, ca D 6 sv), (ad 5, co 3 [.ref (ad 6)]), (ad 6, ca D 6 pr), (ad 7, co 3 [.ref (ad 8)]), (ad 8, ca D 6 sv)]
    refine g_aload_n O dX1_remember_38 39 0 rfl rfl ?_
    refine g_dup O dX1_remember_39 40 rfl rfl ?_
    refine g_get O dX1_remember_40 43 rfl fX1_remember_9 0 rfl rfl ?_
    refine g_iconst O dX1_remember_43 44 rfl ?_
    refine g_iadd O dX1_remember_44 45 rfl ?_
    refine g_put O dX1_remember_45 48 rfl fX1_remember_9 pF1_0 0 rfl rfl rfl (Nat.le_of_ble_eq_true rfl) [(ad 11, co 1 [vi 5, .ref (ad 12), .ref (ad 13)]), (ad 12, cq D 5 (qf [some (ad 14), some (ad 16), some (ad 18), some (ad 20), some (ad 22)])), (ad 13, cq D 5 (qf [some (ad 24), some (ad 26), some (ad 28), some (ad 30), some (ad 32)])), (ad 14, co 3 [.ref (ad 15)]), (ad 15, ca D 6 (hp 0)), (ad 16, co 3 [.ref (ad 17)]), (ad 17, ca D 6 (hp 1)), (ad 18, co 3 [.ref (ad 19)]), (ad 19, ca D 6 (hp 2)), (ad 20, co 3 [.ref (ad 21)]), (ad 21, ca D 6 (hp 3)), (ad 22, co 3 [.ref (ad 23)]), (ad 23, ca D 6 pr), (ad 24, co 3 [.ref (ad 25)]), (ad 25, ca D 6 (hs 0)), (ad 26, co 3 [.ref (ad 27)]), (ad 27, ca D 6 (hs 1)), (ad 28, co 3 [.ref (ad 29)]), (ad 29, ca D 6 (hs 2)), (ad 30, co 3 [.ref (ad 31)]), (ad 31, ca D 6 (hs 3)), (ad 32, co 3 [.ref (ad 33)]), (ad 33, ca D 6 sv), (ad 5, co 3 [.ref (ad 6)]), (ad 6, ca D 6 pr), (ad 7, co 3 [.ref (ad 8)]), (ad 8, ca D 6 sv)] rfl ?_
    exact g_vret O hQ dX1_remember_48 () rfl rfl trivial ⟨by decide, by decide⟩
  · skip
    refine g_aload_n O dX1_remember_0 1 0 rfl rfl ?_
    refine g_get O dX1_remember_1 4 rfl fX1_remember_9 0 rfl rfl ?_
    refine g_iconst O dX1_remember_4 5 rfl ?_
    refine g_icmp_ne O dX1_remember_5 8 12 rfl rfl (by omega) (fun h => absurd h (by decide)) (fun _ => ?_)
    refine g_aload_n O dX1_remember_8 9 0 rfl rfl ?_
    refine g_callV (As := []) (rest := []) (na := 0) O (k_X1_dropOldest D ad 5 hp hs) dX1_remember_9 gX1_remember_X1_dropOldest rfl ⟨rfl, rfl⟩ (by decide +kernel) rfl (by decide) (by decide) rfl (by decide) (q0 := 0) (ci := 1) rfl rfl [0, 1, 2, 3, 4, 5, 6, 7, 8, 9, 10, 11, 12, 13, 14, 15, 16, 17, 18, 19, 20, 21, 22] (by decide) rfl (fun _ => rfl) (fun _ => [(ad 11, co 1 [vi 4, .ref (ad 12), .ref (ad 13)]), (ad 12, cq D 5 (qf [some (ad 14), some (ad 16), some (ad 18), some (ad 20), some (ad 22)])), (ad 13, cq D 5 (qf [some (ad 24), some (ad 26), some (ad 28), some (ad 30), some (ad 32)])), (ad 14, co 3 [.ref (ad 15)]), (ad 15, ca D 6 (hp 1)), (ad 16, co 3 [.ref (ad 17)]), (ad 17, ca D 6 (hp 2)), (ad 18, co 3 [.ref (ad 19)]), (ad 19, ca D 6 (hp 3)), (ad 20, co 3 [.ref (ad 21)]), (ad 21, ca D 6 (hp 4)), (ad 22, co 3 [.ref (ad 23)]), (ad 23, ca D 6 (hp 4)), (ad 24, co 3 [.ref (ad 25)]), (ad 25, ca D 6 (hs 1)), (ad 26, co 3 [.ref (ad 27)]), (ad 27, ca D 6 (hs 2)), (ad 28, co 3 [.ref (ad 29)]), (ad 29, ca D 6 (hs 3)), (ad 30, co 3 [.ref (ad 31)]), (ad 31, ca D 6 (hs 4)), (ad 32, co 3 [.ref (ad 33)]), (ad 33, ca D 6 (hs 4)), (ad 5, co 3 [.ref (ad 6)]), (ad 6, ca D 6 pr), (ad 7, co 3 [.ref (ad 8)]), (ad 8, ca D 6 sv)]) (fun _ => rfl) 12 rfl (fun _ _ => ?_)
    show G X D A 3 Q 0 0 12 [(0, .ref (ad 11)), (1, .ref (ad 5)), (2, .ref (ad 7))] [] [(ad 11, co 1 [vi 4, .ref (ad 12), .ref (ad 13)]), (ad 12, cq D 5 (qf [some (ad 14), some (ad 16), some (ad 18), some (ad 20), some (ad 22)])), (ad 13, cq D 5 (qf [some (ad 24), some (ad 26), some (ad 28), some (ad 30), some (ad 32)])), (ad 14, co 3 [.ref (ad 15)]), (ad 15, ca D 6 (hp 1)), (ad 16, co 3 [.ref (ad 17)]), (ad 17, ca D 6 (hp 2)), (ad 18, co 3 [.ref (ad 19)]), (ad 19, ca D 6 (hp 3)), (ad 20, co 3 [.ref (ad 21)]), (ad 21, ca D 6 (hp 4)), (ad 22, co 3 [.ref (ad 23)]), (ad 23, ca D 6 (hp 4)), (ad 24, co 3 [.ref (ad 25)]), (ad 25, ca D 6 (hs 1)), (ad 26, co 3 [.ref (ad 27)]), (ad 27, ca D 6 (hs 2)), (ad 28, co 3 [.ref (ad 29)]), (ad 29, ca D 6 (hs 3)), (ad 30, co 3 [.ref (ad 31)]), (ad 31, ca D 6 (hs 4)), (ad 32, co 3 [.ref (ad 33)]), (ad 33, ca D 6 (hs 4)), (ad 5, co 3 [.ref (ad 6)]), (ad 6, ca D 6 pr), (ad 7, co 3 [.ref (ad 8)]), (ad 8, ca D 6 sv)]
    refine g_aload_n O dX1_remember_12 13 0 rfl rfl ?_
    refine g_get O dX1_remember_13 16 rfl fX1_remember_17 0 rfl rfl ?_
    refine g_aload_n O dX1_remember_16 17 0 rfl rfl ?_
    refine g_get O dX1_remember_17 20 rfl fX1_remember_9 0 rfl rfl ?_
    refine g_aald O dX1_remember_20 21 rfl 1 rfl (by decide) (by decide) (ad 22) rfl ?_
    refine g_aload_n O dX1_remember_21 22 1 rfl rfl ?_
    refine g_callV (As := [.ref (ad 5)]) (rest := []) (na := 1) O (k_X3_copyFrom D (ad 22) (ad 23) (ad 5) (ad 6) (hp 4) pr) dX1_remember_22 gX1_remember_X3_copyFrom rfl ⟨rfl, rfl⟩ (by decide +kernel) rfl (by decide) (by decide) rfl (by decide) (q0 := 11) (ci := 3) rfl rfl [11, 12, 23, 24] (by decide) rfl (fun _ => rfl) (fun _ => [(ad 11, co 1 [vi 4, .ref (ad 12), .ref (ad 13)]), (ad 12, cq D 5 (qf [some (ad 14), some (ad 16), some (ad 18), some (ad 20), some (ad 22)])), (ad 13, cq D 5 (qf [some (ad 24), some (ad 26), some (ad 28), some (ad 30), some (ad 32)])), (ad 14, co 3 [.ref (ad 15)]), (ad 15, ca D 6 (hp 1)), (ad 16, co 3 [.ref (ad 17)]), (ad 17, ca D 6 (hp 2)), (ad 18, co 3 [.ref (ad 19)]), (ad 19, ca D 6 (hp 3)), (ad 20, co 3 [.ref (ad 21)]), (ad 21, ca D 6 (hp 4)), (ad 22, co 3 [.ref (ad 23)]), (ad 23, ca D 6 pr), (ad 24, co 3 [.ref (ad 25)]), (ad 25, ca D 6 (hs 1)), (ad 26, co 3 [.ref (ad 27)]), (ad 27, ca D 6 (hs 2)), (ad 28, co 3 [.ref (ad 29)]), (ad 29, ca D 6 (hs 3)), (ad 30, co 3 [.ref (ad 31)]), (ad 31, ca D 6 (hs 4)), (ad 32, co 3 [.ref (ad 33)]), (ad 33, ca D 6 (hs 4)), (ad 5, co 3 [.ref (ad 6)]), (ad 6, ca D 6 pr), (ad 7, co 3 [.ref (ad 8)]), (ad 8, ca D 6 sv)]) (fun _ => rfl) 25 rfl (fun _ _ => ?_)
    show G X D A 3 Q 0 0 25 [(0, .ref (ad 11)), (1, .ref (ad 5)), (2, .ref (ad 7))] [] [(ad 11, co 1 [vi 4, .ref (ad 12), .ref (ad 13)]), (ad 12, cq D 5 (qf [some (ad 14), some (ad 16), some (ad 18), some (ad 20), some (ad 22)])), (ad 13, cq D 5 (qf [some (ad 24), some (ad 26), some (ad 28), some (ad 30), some (ad 32)])), (ad 14, co 3 [.ref (ad 15)]), (ad 15, ca D 6 (hp 1)), (ad 16, co 3 [.ref (ad 17)]), (ad 17, ca D 6 (hp 2)), (ad 18, co 3 [.ref (ad 19)]), (ad 19, ca D 6 (hp 3)), (ad 20, co 3 [.ref (ad 21)]), (ad 21, ca D 6 (hp 4)), (ad 22, co 3 [.ref (ad 23)]), (ad 23, ca D 6 pr), (ad 24, co 3 [.ref (ad 25)]), (ad 25, ca D 6 (hs 1)), (ad 26, co 3 [.ref (ad 27)]), (ad 27, ca D 6 (hs 2)), (ad 28, co 3 [.ref (ad 29)]), (ad 29, ca D 6 (hs 3)), (ad 30, co 3 [.ref (ad 31)]), (ad 31, ca D 6 (hs 4)), (ad 32, co 3 [.ref (ad 33)]), (ad 33, ca D 6 (hs 4)), (ad 5, co 3 [.ref (ad 6)]), (ad 6, ca D 6 pr), (ad 7, co 3 [.ref (ad 8)]), (ad 8, ca D 6 sv)]
    refine g_aload_n O dX1_remember_25 26 0 rfl rfl ?_
    refine g_get O dX1_remember_26 29 rfl fX1_remember_21 0 rfl rfl ?_
    refine g_aload_n O dX1_remember_29 30 0 rfl rfl ?_
    refine g_get O dX1_remember_30 33 rfl fX1_remember_9 0 rfl rfl ?_
    refine g_aald O dX1_remember_33 34 rfl 2 rfl (by decide) (by decide) (ad 32) rfl ?_
    refine g_aload_n O dX1_remember_34 35 2 rfl rfl ?_
    refine g_callV (As := [.ref (ad 7)]) (rest := []) (na := 1) O (k_X3_copyFrom D (ad 32) (ad 33) (ad 7) (ad 8) (hs 4) sv) dX1_remember_35 gX1_remember_X3_copyFrom rfl ⟨rfl, rfl⟩ (by decide +kernel) rfl (by decide) (by decide) rfl (by decide) (q0 := 21) (ci := 3) rfl rfl [21, 22, 25, 26] (by decide) rfl (fun _ => rfl) (fun _ => [(ad 11, co 1 [vi 4, .ref (ad 12), .ref (ad 13)]), (ad 12, cq D 5 (qf [some (ad 14), some (ad 16), some (ad 18), some (ad 20), some (ad 22)])), (ad 13, cq D 5 (qf [some (ad 24), some (ad 26), some (ad 28), some (ad 30), some (ad 32)])), (ad 14, co 3 [.ref (ad 15)]), (ad 15, ca D 6 (hp 1)), (ad 16, co 3 [.ref (ad 17)]), (ad 17, ca D 6 (hp 2)), (ad 18, co 3 [.ref (ad 19)]), (ad 19, ca D 6 (hp 3)), (ad 20, co 3 [.ref (ad 21)]), (ad 21, ca D 6 (hp 4)), (ad 22, co 3 [.ref (ad 23)]), (ad 23, ca D 6 pr), (ad 24, co 3 [.ref (ad 25)]), (ad 25, ca D 6 (hs 1)), (ad 26, co 3 [.ref (ad 27)]), (ad 27, ca D 6 (hs 2)), (ad 28, co 3 [.ref (ad 29)]), (ad 29, ca D 6 (hs 3)), (ad 30, co 3 [.ref (ad 31)]), (ad 31, ca D 6 (hs 4)), (ad 32, co 3 [.ref (ad 33)]), (ad 33, ca D 6 sv), (ad 5, co 3 [.ref (ad 6)]), (ad 6, ca D 6 pr), (ad 7, co 3 [.ref (ad 8)]), (ad 8, ca D 6 sv)]) (fun _ => rfl) 38 rfl (fun _ _ => ?_)
    show G X D A 3 Q 0 0 38 [(0, .ref (ad 11)), (1, .ref (ad 5)), (2, .ref (ad 7))] [] [(ad 11, co 1 [vi 4, .ref (ad 12), .ref (ad 13)]), (ad 12, cq D 5 (qf [some (ad 14), some (ad 16), some (ad 18), some (ad 20), some (ad 22)])), (ad 13, cq D 5 (qf [some (ad 24), some (ad 26), some (ad 28), some (ad 30), some (ad 32)])), (ad 14, co 3 [.ref (ad 15)]), (ad 15, ca D 6 (hp 1)), (ad 16, co 3 [.ref (ad 17)]), (ad 17, ca D 6 (hp 2)), (ad 18, co 3 [.ref (ad 19)]), (ad 19, ca D 6 (hp 3)), (ad 20, co 3 [.ref (ad 21)]), (ad 21, ca D 6 (hp 4)), (ad 22, co 3 [.ref (ad 23)]), (ad 23, ca D 6 pr), (ad 24, co 3 [.ref (ad 25)]), (ad 25, ca D 6 (hs 1)), (ad 26, co 3 [.ref (ad 27)]), (ad 27, ca D 6 (hs 2)), (ad 28, co 3 [.ref (ad 29)]), (ad 29, ca D 6 (hs 3)), (ad 30, co 3 [.ref (ad 31)]), (ad 31, ca D 6 (hs 4)), (ad 32, co 3 [.ref (ad 33)]), (ad 33, ca D 6 sv), (ad 5, co 3 [.ref (ad 6)]), (ad 6, ca D 6 pr), (ad 7, co 3 [.ref (ad 8)]), (ad 8, ca D 6 sv)]
    refine g_aload_n O dX1_remember_38 39 0 rfl rfl ?_
    refine g_dup O dX1_remember_39 40 rfl rfl ?_
    refine g_get O dX1_remember_40 43 rfl fX1_remember_9 0 rfl rfl ?_
    refine g_iconst O dX1_remember_43 44 rfl ?_
    refine g_iadd O dX1_remember_44 45 rfl ?_
    refine g_put O dX1_remember_45 48 rfl fX1_remember_9 pF1_0 0 rfl rfl rfl (Nat.le_of_ble_eq_true rfl) [(ad 11, co 1 [vi 5, .ref (ad 12), .ref (ad 13)]), (ad 12, cq D 5 (qf [some (ad 14), some (ad 16), some (ad 18), some (ad 20), some (ad 22)])), (ad 13, cq D 5 (qf [some (ad 24), some (ad 26), some (ad 28), some (ad 30), some (ad 32)])), (ad 14, co 3 [.ref (ad 15)]), (ad 15, ca D 6 (hp 1)), (ad 16, co 3 [.ref (ad 17)]), (ad 17, ca D 6 (hp 2)), (ad 18, co 3 [.ref (ad 19)]), (ad 19, ca D 6 (hp 3)), (ad 20, co 3 [.ref (ad 21)]), (ad 21, ca D 6 (hp 4)), (ad 22, co 3 [.ref (ad 23)]), (ad 23, ca D 6 pr), (ad 24, co 3 [.ref (ad 25)]), (ad 25, ca D 6 (hs 1)), (ad 26, co 3 [.ref (ad 27)]), (ad 27, ca D 6 (hs 2)), (ad 28, co 3 [.ref (ad 29)]), (ad 29, ca D 6 (hs 3)), (ad 30, co 3 [.ref (ad 31)]), (ad 31, ca D 6 (hs 4)), (ad 32, co 3 [.ref (ad 33)]), (ad 33, ca D 6 sv), (ad 5, co 3 [.ref (ad 6)]), (ad 6, ca D 6 pr), (ad 7, co 3 [.ref (ad 8)]), (ad 8, ca D 6 sv)] rfl ?_
    exact g_vret O hQ dX1_remember_48 () rfl rfl trivial ⟨by decide, by decide⟩
theorem sX1_restore_1 : ∀ w ∈ wsX10, w ∈ wsX1_restore := by decide +kernel
theorem fX1_restore_17 : FK RX1 wsX1_restore 17 1 1 := ⟨RX1, TX1, 3, rfl, sX1_restore_1, by decide, List.mem_of_getElem? (i := 2) rfl⟩
theorem fX1_restore_21 : FK RX1 wsX1_restore 21 1 2 := ⟨RX1, TX1, 3, rfl, sX1_restore_1, by decide, List.mem_of_getElem? (i := 3) rfl⟩
theorem fX1_restore_9 : FK RX1 wsX1_restore 9 1 0 := ⟨RX1, TX1, 3, rfl, sX1_restore_1, by decide, List.mem_of_getElem? (i := 1) rfl⟩
set_option maxHeartbeats 4000000 in
set_option maxRecDepth 100000 in
theorem k_X1_restore (D : DD) (ad : Nat → Nat) (cnt : Int) (hp hs : Int → Int → Int) (pr sv : Int → Int) (hcn : 1 ≤ cnt ∧ cnt ≤ 5) : Con (S := Unit) D yX1_restore wsX1_restore ({ frames := 1, cells := 0, slots := 0, locals := 22 }) 0 0 [.ref (ad 11), .ref (ad 5), .ref (ad 7)] [(ad 11, co 1 [vi cnt, .ref (ad 12), .ref (ad 13)]), (ad 12, cq D 5 (qf [some (ad 14), some (ad 16), some (ad 18), some (ad 20), some (ad 22)])), (ad 13, cq D 5 (qf [some (ad 24), some (ad 26), some (ad 28), some (ad 30), some (ad 32)])), (ad 14, co 3 [.ref (ad 15)]), (ad 15, ca D 6 (hp 0)), (ad 16, co 3 [.ref (ad 17)]), (ad 17, ca D 6 (hp 1)), (ad 18, co 3 [.ref (ad 19)]), (ad 19, ca D 6 (hp 2)), (ad 20, co 3 [.ref (ad 21)]), (ad 21, ca D 6 (hp 3)), (ad 22, co 3 [.ref (ad 23)]), (ad 23, ca D 6 (hp 4)), (ad 24, co 3 [.ref (ad 25)]), (ad 25, ca D 6 (hs 0)), (ad 26, co 3 [.ref (ad 27)]), (ad 27, ca D 6 (hs 1)), (ad 28, co 3 [.ref (ad 29)]), (ad 29, ca D 6 (hs 2)), (ad 30, co 3 [.ref (ad 31)]), (ad 31, ca D 6 (hs 3)), (ad 32, co 3 [.ref (ad 33)]), (ad 33, ca D 6 (hs 4)), (ad 5, co 3 [.ref (ad 6)]), (ad 6, ca D 6 pr), (ad 7, co 3 [.ref (ad 8)]), (ad 8, ca D 6 sv)] (fun u => none) (fun u => True) (fun u => [(ad 11, co 1 [vi (cnt - 1), .ref (ad 12), .ref (ad 13)]), (ad 12, cq D 5 (qf [some (ad 14), some (ad 16), some (ad 18), some (ad 20), some (ad 22)])), (ad 13, cq D 5 (qf [some (ad 24), some (ad 26), some (ad 28), some (ad 30), some (ad 32)])), (ad 14, co 3 [.ref (ad 15)]), (ad 15, ca D 6 (hp 0)), (ad 16, co 3 [.ref (ad 17)]), (ad 17, ca D 6 (hp 1)), (ad 18, co 3 [.ref (ad 19)]), (ad 19, ca D 6 (hp 2)), (ad 20, co 3 [.ref (ad 21)]), (ad 21, ca D 6 (hp 3)), (ad 22, co 3 [.ref (ad 23)]), (ad 23, ca D 6 (hp 4)), (ad 24, co 3 [.ref (ad 25)]), (ad 25, ca D 6 (hs 0)), (ad 26, co 3 [.ref (ad 27)]), (ad 27, ca D 6 (hs 1)), (ad 28, co 3 [.ref (ad 29)]), (ad 29, ca D 6 (hs 2)), (ad 30, co 3 [.ref (ad 31)]), (ad 31, ca D 6 (hs 3)), (ad 32, co 3 [.ref (ad 33)]), (ad 33, ca D 6 (hs 4)), (ad 5, co 3 [.ref (ad 6)]), (ad 6, ca D 6 (hp (cnt - 1))), (ad 7, co 3 [.ref (ad 8)]), (ad 8, ca D 6 (hs (cnt - 1)))]) := by
  refine Con.of (cc := cX1_restore) (nL := 3) (ret := none) rfl (by decide +kernel) (Nat.le_of_ble_eq_true rfl) ?_
  intro X A Q O hQ hin
  show G X D A 3 Q 0 0 0 [(0, .ref (ad 11)), (1, .ref (ad 5)), (2, .ref (ad 7))] [] [(ad 11, co 1 [vi cnt, .ref (ad 12), .ref (ad 13)]), (ad 12, cq D 5 (qf [some (ad 14), some (ad 16), some (ad 18), some (ad 20), some (ad 22)])), (ad 13, cq D 5 (qf [some (ad 24), some (ad 26), some (ad 28), some (ad 30), some (ad 32)])), (ad 14, co 3 [.ref (ad 15)]), (ad 15, ca D 6 (hp 0)), (ad 16, co 3 [.ref (ad 17)]), (ad 17, ca D 6 (hp 1)), (ad 18, co 3 [.ref (ad 19)]), (ad 19, ca D 6 (hp 2)), (ad 20, co 3 [.ref (ad 21)]), (ad 21, ca D 6 (hp 3)), (ad 22, co 3 [.ref (ad 23)]), (ad 23, ca D 6 (hp 4)), (ad 24, co 3 [.ref (ad 25)]), (ad 25, ca D 6 (hs 0)), (ad 26, co 3 [.ref (ad 27)]), (ad 27, ca D 6 (hs 1)), (ad 28, co 3 [.ref (ad 29)]), (ad 29, ca D 6 (hs 2)), (ad 30, co 3 [.ref (ad 31)]), (ad 31, ca D 6 (hs 3)), (ad 32, co 3 [.ref (ad 33)]), (ad 33, ca D 6 (hs 4)), (ad 5, co 3 [.ref (ad 6)]), (ad 6, ca D 6 pr), (ad 7, co 3 [.ref (ad 8)]), (ad 8, ca D 6 sv)]
  rcases (show cnt = 1 ∨ cnt = 2 ∨ cnt = 3 ∨ cnt = 4 ∨ cnt = 5 by omega) with rfl | rfl | rfl | rfl | rfl
  · skip
    refine g_aload_n O dX1_restore_0 1 0 rfl rfl ?_
    refine g_get O dX1_restore_1 4 rfl fX1_restore_9 0 rfl rfl ?_
    refine g_if_le O dX1_restore_4 7 43 rfl rfl (by omega) (fun h => absurd h (by decide)) (fun _ => ?_)
    refine g_aload_n O dX1_restore_7 8 0 rfl rfl ?_
    refine g_dup O dX1_restore_8 9 rfl rfl ?_
    refine g_get O dX1_restore_9 12 rfl fX1_restore_9 0 rfl rfl ?_
    refine g_iconst O dX1_restore_12 13 rfl ?_
    refine g_isub O dX1_restore_13 14 rfl ?_
    refine g_put O dX1_restore_14 17 rfl fX1_restore_9 pF1_0 0 rfl rfl rfl (Nat.le_of_ble_eq_true rfl) [(ad 11, co 1 [vi 0, .ref (ad 12), .ref (ad 13)]), (ad 12, cq D 5 (qf [some (ad 14), some (ad 16), some (ad 18), some (ad 20), some (ad 22)])), (ad 13, cq D 5 (qf [some (ad 24), some (ad 26), some (ad 28), some (ad 30), some (ad 32)])), (ad 14, co 3 [.ref (ad 15)]), (ad 15, ca D 6 (hp 0)), (ad 16, co 3 [.ref (ad 17)]), (ad 17, ca D 6 (hp 1)), (ad 18, co 3 [.ref (ad 19)]), (ad 19, ca D 6 (hp 2)), (ad 20, co 3 [.ref (ad 21)]), (ad 21, ca D 6 (hp 3)), (ad 22, co 3 [.ref (ad 23)]), (ad 23, ca D 6 (hp 4)), (ad 24, co 3 [.ref (ad 25)]), (ad 25, ca D 6 (hs 0)), (ad 26, co 3 [.ref (ad 27)]), (ad 27, ca D 6 (hs 1)), (ad 28, co 3 [.ref (ad 29)]), (ad 29, ca D 6 (hs 2)), (ad 30, co 3 [.ref (ad 31)]), (ad 31, ca D 6 (hs 3)), (ad 32, co 3 [.ref (ad 33)]), (ad 33, ca D 6 (hs 4)), (ad 5, co 3 [.ref (ad 6)]), (ad 6, ca D 6 pr), (ad 7, co 3 [.ref (ad 8)]), (ad 8, ca D 6 sv)] rfl ?_
    refine g_aload_n O dX1_restore_17 18 1 rfl rfl ?_
    refine g_aload_n O dX1_restore_18 19 0 rfl rfl ?_
    refine g_get O dX1_restore_19 22 rfl fX1_restore_17 0 rfl rfl ?_
    refine g_aload_n O dX1_restore_22 23 0 rfl rfl ?_
    refine g_get O dX1_restore_23 26 rfl fX1_restore_9 0 rfl rfl ?_
    refine g_aald O dX1_restore_26 27 rfl 1 rfl (by decide) (by decide) (ad 14) rfl ?_
    refine g_callV (As := [.ref (ad 14)]) (rest := []) (na := 1) O (k_X3_copyFrom D (ad 5) (ad 6) (ad 14) (ad 15) pr (hp 0)) dX1_restore_27 gX1_restore_X3_copyFrom rfl ⟨rfl, rfl⟩ (by decide +kernel) rfl (by decide) (by decide) rfl (by decide) (q0 := 23) (ci := 3) rfl rfl [23, 24, 3, 4] (by decide) rfl (fun _ => rfl) (fun _ => [(ad 11, co 1 [vi 0, .ref (ad 12), .ref (ad 13)]), (ad 12, cq D 5 (qf [some (ad 14), some (ad 16), some (ad 18), some (ad 20), some (ad 22)])), (ad 13, cq D 5 (qf [some (ad 24), some (ad 26), some (ad 28), some (ad 30), some (ad 32)])), (ad 14, co 3 [.ref (ad 15)]), (ad 15, ca D 6 (hp 0)), (ad 16, co 3 [.ref (ad 17)]), (ad 17, ca D 6 (hp 1)), (ad 18, co 3 [.ref (ad 19)]), (ad 19, ca D 6 (hp 2)), (ad 20, co 3 [.ref (ad 21)]), (ad 21, ca D 6 (hp 3)), (ad 22, co 3 [.ref (ad 23)]), (ad 23, ca D 6 (hp 4)), (ad 24, co 3 [.ref (ad 25)]), (ad 25, ca D 6 (hs 0)), (ad 26, co 3 [.ref (ad 27)]), (ad 27, ca D 6 (hs 1)), (ad 28, co 3 [.ref (ad 29)]), (ad 29, ca D 6 (hs 2)), (ad 30, co 3 [.ref (ad 31)]), (ad 31, ca D 6 (hs 3)), (ad 32, co 3 [.ref (ad 33)]), (ad 33, ca D 6 (hs 4)), (ad 5, co 3 [.ref (ad 6)]), (ad 6, ca D 6 (hp 0)), (ad 7, co 3 [.ref (ad 8)]), (ad 8, ca D 6 sv)]) (fun _ => rfl) 30 rfl (fun _ _ => ?_)
    show G X D A 3 Q 0 0 30 [(0, .ref (ad 11)), (1, .ref (ad 5)), (2, .ref (ad 7))] [] [(ad 11, co 1 [vi 0, .ref (ad 12), .ref (ad 13)]), (ad 12, cq D 5 (qf [some (ad 14), some (ad 16), some (ad 18), some (ad 20), some (ad 22)])), (ad 13, cq D 5 (qf [some (ad 24), some (ad 26), some (ad 28), some (ad 30), some (ad 32)])), (ad 14, co 3 [.ref (ad 15)]), (ad 15, ca D 6 (hp 0)), (ad 16, co 3 [.ref (ad 17)]), (ad 17, ca D 6 (hp 1)), (ad 18, co 3 [.ref (ad 19)]), (ad 19, ca D 6 (hp 2)), (ad 20, co 3 [.ref (ad 21)]), (ad 21, ca D 6 (hp 3)), (ad 22, co 3 [.ref (ad 23)]), (ad 23, ca D 6 (hp 4)), (ad 24, co 3 [.ref (ad 25)]), (ad 25, ca D 6 (hs 0)), (ad 26, co 3 [.ref (ad 27)]), (ad 27, ca D 6 (hs 1)), (ad 28, co 3 [.ref (ad 29)]), (ad 29, ca D 6 (hs 2)), (ad 30, co 3 [.ref (ad 31)]), (ad 31, ca D 6 (hs 3)), (ad 32, co 3 [.ref (ad 33)]), (ad 33, ca D 6 (hs 4)), (ad 5, co 3 [.ref (ad 6)]), (ad 6, ca D 6 (hp 0)), (ad 7, co 3 [.ref (ad 8)]), (ad 8, ca D 6 sv)]
    refine g_aload_n O dX1_restore_30 31 2 rfl rfl ?_
    refine g_aload_n O dX1_restore_31 32 0 rfl rfl ?_
    refine g_get O dX1_restore_32 35 rfl fX1_restore_21 0 rfl rfl ?_
    refine g_aload_n O dX1_restore_35 36 0 rfl rfl ?_
    refine g_get O dX1_restore_36 39 rfl fX1_restore_9 0 rfl rfl ?_
    refine g_aald O dX1_restore_39 40 rfl 2 rfl (by decide) (by decide) (ad 24) rfl ?_
    refine g_callV (As := [.ref (ad 24)]) (rest := []) (na := 1) O (k_X3_copyFrom D (ad 7) (ad 8) (ad 24) (ad 25) sv (hs 0)) dX1_restore_40 gX1_restore_X3_copyFrom rfl ⟨rfl, rfl⟩ (by decide +kernel) rfl (by decide) (by decide) rfl (by decide) (q0 := 25) (ci := 3) rfl rfl [25, 26, 13, 14] (by decide) rfl (fun _ => rfl) (fun _ => [(ad 11, co 1 [vi 0, .ref (ad 12), .ref (ad 13)]), (ad 12, cq D 5 (qf [some (ad 14), some (ad 16), some (ad 18), some (ad 20), some (ad 22)])), (ad 13, cq D 5 (qf [some (ad 24), some (ad 26), some (ad 28), some (ad 30), some (ad 32)])), (ad 14, co 3 [.ref (ad 15)]), (ad 15, ca D 6 (hp 0)), (ad 16, co 3 [.ref (ad 17)]), (ad 17, ca D 6 (hp 1)), (ad 18, co 3 [.ref (ad 19)]), (ad 19, ca D 6 (hp 2)), (ad 20, co 3 [.ref (ad 21)]), (ad 21, ca D 6 (hp 3)), (ad 22, co 3 [.ref (ad 23)]), (ad 23, ca D 6 (hp 4)), (ad 24, co 3 [.ref (ad 25)]), (ad 25, ca D 6 (hs 0)), (ad 26, co 3 [.ref (ad 27)]), (ad 27, ca D 6 (hs 1)), (ad 28, co 3 [.ref (ad 29)]), (ad 29, ca D 6 (hs 2)), (ad 30, co 3 [.ref (ad 31)]), (ad 31, ca D 6 (hs 3)), (ad 32, co 3 [.ref (ad 33)]), (ad 33, ca D 6 (hs 4)), (ad 5, co 3 [.ref (ad 6)]), (ad 6, ca D 6 (hp 0)), (ad 7, co 3 [.ref (ad 8)]), (ad 8, ca D 6 (hs 0))]) (fun _ => rfl) 43 rfl (fun _ _ => ?_)
    show G X D A 3 Q 0 0 43 [(0, .ref (ad 11)), (1, .ref (ad 5)), (2, .ref (ad 7))] [] [(ad 11, co 1 [vi 0, .ref (ad 12), .ref (ad 13)]), (ad 12, cq D 5 (qf [some (ad 14), some (ad 16), some (ad 18), some (ad 20), some (ad 22)])), (ad 13, cq D 5 (qf [some (ad 24), some (ad 26), some (ad 28), some (ad 30), some (ad 32)])), (ad 14, co 3 [.ref (ad 15)]), (ad 15, ca D 6 (hp 0)), (ad 16, co 3 [.ref (ad 17)]), (ad 17, ca D 6 (hp 1)), (ad 18, co 3 [.ref (ad 19)]), (ad 19, ca D 6 (hp 2)), (ad 20, co 3 [.ref (ad 21)]), (ad 21, ca D 6 (hp 3)), (ad 22, co 3 [.ref (ad 23)]), (ad 23, ca D 6 (hp 4)), (ad 24, co 3 [.ref (ad 25)]), (ad 25, ca D 6 (hs 0)), (ad 26, co 3 [.ref (ad 27)]), (ad 27, ca D 6 (hs 1)), (ad 28, co 3 [.ref (ad 29)]), (ad 29, ca D 6 (hs 2)), (ad 30, co 3 [.ref (ad 31)]), (ad 31, ca D 6 (hs 3)), (ad 32, co 3 [.ref (ad 33)]), (ad 33, ca D 6 (hs 4)), (ad 5, co 3 [.ref (ad 6)]), (ad 6, ca D 6 (hp 0)), (ad 7, co 3 [.ref (ad 8)]), (ad 8, ca D 6 (hs 0))]
    exact g_vret O hQ dX1_restore_43 () rfl rfl trivial ⟨by decide, by decide⟩
  · skip
    refine g_aload_n O dX1_restore_0 1 0 rfl rfl ?_
    refine g_get O dX1_restore_1 4 rfl fX1_restore_9 0 rfl rfl ?_
    refine g_if_le O dX1_restore_4 7 43 rfl rfl (by omega) (fun h => absurd h (by decide)) (fun _ => ?_)
    refine g_aload_n O dX1_restore_7 8 0 rfl rfl ?_
    refine g_dup O dX1_restore_8 9 rfl rfl ?_
    refine g_get O dX1_restore_9 12 rfl fX1_restore_9 0 rfl rfl ?_
    refine g_iconst O dX1_restore_12 13 rfl ?_
    refine g_isub O dX1_restore_13 14 rfl ?_
    refine g_put O dX1_restore_14 17 rfl fX1_restore_9 pF1_0 0 rfl rfl rfl (Nat.le_of_ble_eq_true rfl) [(ad 11, co 1 [vi 1, .ref (ad 12), .ref (ad 13)]), (ad 12, cq D 5 (qf [some (ad 14), some (ad 16), some (ad 18), some (ad 20), some (ad 22)])), (ad 13, cq D 5 (qf [some (ad 24), some (ad 26), some (ad 28), some (ad 30), some (ad 32)])), (ad 14, co 3 [.ref (ad 15)]), (ad 15, ca D 6 (hp 0)), (ad 16, co 3 [.ref (ad 17)]), (ad 17, ca D 6 (hp 1)), (ad 18, co 3 [.ref (ad 19)]), (ad 19, ca D 6 (hp 2)), (ad 20, co 3 [.ref (ad 21)]), (ad 21, ca D 6 (hp 3)), (ad 22, co 3 [.ref (ad 23)]), (ad 23, ca D 6 (hp 4)), (ad 24, co 3 [.ref (ad 25)]), (ad 25, ca D 6 (hs 0)), (ad 26, co 3 [.ref (ad 27)]), (ad 27, ca D 6 (hs 1)), (ad 28, co 3 [.ref (ad 29)]), (ad 29, ca D 6 (hs 2)), (ad 30, co 3 [.ref (ad 31)]), (ad 31, ca D 6 (hs 3)), (ad 32, co 3 [.ref (ad 33)]), (ad 33, ca D 6 (hs 4)), (ad 5, co 3 [.ref (ad 6)]), (ad 6, ca D 6 pr), (ad 7, co 3 [.ref (ad 8)]), (ad 8, ca D 6 sv)] rfl ?_
    refine g_aload_n O dX1_restore_17 18 1 rfl rfl ?_
    refine g_aload_n O dX1_restore_18 19 0 rfl rfl ?_
    refine g_get O dX1_restore_19 22 rfl fX1_restore_17 0 rfl rfl ?_
    refine g_aload_n O dX1_restore_22 23 0 rfl rfl ?_
    refine g_get O dX1_restore_23 26 rfl fX1_restore_9 0 rfl rfl ?_
    refine g_aald O dX1_restore_26 27 rfl 1 rfl (by decide) (by decide) (ad 16) rfl ?_
    refine g_callV (As := [.ref (ad 16)]) (rest := []) (na := 1) O (k_X3_copyFrom D (ad 5) (ad 6) (ad 16) (ad 17) pr (hp 1)) dX1_restore_27 gX1_restore_X3_copyFrom rfl ⟨rfl, rfl⟩ (by decide +kernel) rfl (by decide) (by decide) rfl (by decide) (q0 := 23) (ci := 3) rfl rfl [23, 24, 5, 6] (by decide) rfl (fun _ => rfl) (fun _ => [(ad 11, co 1 [vi 1, .ref (ad 12), .ref (ad 13)]), (ad 12, cq D 5 (qf [some (ad 14), some (ad 16), some (ad 18), some (ad 20), some (ad 22)])), (ad 13, cq D 5 (qf [some (ad 24), some (ad 26), some (ad 28), some (ad 30), some (ad 32)])), (ad 14, co 3 [.ref (ad 15)]), (ad 15, ca D 6 (hp 0)), (ad 16, co 3 [.ref (ad 17)]), (ad 17, ca D 6 (hp 1)), (ad 18, co 3 [.ref (ad 19)]), (ad 19, ca D 6 (hp 2)), (ad 20, co 3 [.ref (ad 21)]), (ad 21, ca D 6 (hp 3)), (ad 22, co 3 [.ref (ad 23)]), (ad 23, ca D 6 (hp 4)), (ad 24, co 3 [.ref (ad 25)]), (ad 25, ca D 6 (hs 0)), (ad 26, co 3 [.ref (ad 27)]), (ad 27, ca D 6 (hs 1)), (ad 28, co 3 [.ref (ad 29)]), (ad 29, ca D 6 (hs 2)), (ad 30, co 3 [.ref (ad 31)]), (ad 31, ca D 6 (hs 3)), (ad 32, co 3 [.ref (ad 33)]), (ad 33, ca D 6 (hs 4)), (ad 5, co 3 [.ref (ad 6)]), (ad 6, ca D 6 (hp 1)), (ad 7, co 3 [.ref (ad 8)]), (ad 8, ca D 6 sv)]) (fun _ => rfl) 30 rfl (fun _ _ => ?_)
    show G X D A 3 Q 0 0 30 [(0, .ref (ad 11)), (1, .ref (ad 5)), (2, .ref (ad 7))] [] [(ad 11, co 1 [vi 1, .ref (ad 12), .ref (ad 13)]), (ad 12, cq D 5 (qf [some (ad 14), some (ad 16), some (ad 18), some (ad 20), some (ad 22)])), (ad 13, cq D 5 (qf [some (ad 24), some (ad 26), some (ad 28), some (ad 30), some (ad 32)])), (ad 14, co 3 [.ref (ad 15)]), (ad 15, ca D 6 (hp 0)), (ad 16, co 3 [.ref (ad 17)]), (ad 17, ca D 6 (hp 1)), (ad 18, co 3 [.ref (ad 19)]), (ad 19, ca D 6 (hp 2)), (ad 20, co 3 [.ref (ad 21)]), (ad 21, ca D 6 (hp 3)), (ad 22, co 3 [.ref (ad 23)]), (ad 23, ca D 6 (hp 4)), (ad 24, co 3 [.ref (ad 25)]), (ad 25, ca D 6 (hs 0)), (ad 26, co 3 [.ref (ad 27)]), (ad 27, ca D 6 (hs 1)), (ad 28, co 3 [.ref (ad 29)]), (ad 29, ca D 6 (hs 2)), (ad 30, co 3 [.ref (ad 31)]), (ad 31, ca D 6 (hs 3)), (ad 32, co 3 [.ref (ad 33)]), (ad 33, ca D 6 (hs 4)), (ad 5, co 3 [.ref (ad 6)]), (ad 6, ca D 6 (hp 1)), (ad 7, co 3 [.ref (ad 8)]), (ad 8, ca D 6 sv)]
    refine g_aload_n O dX1_restore_30 31 2 rfl rfl ?_
    refine g_aload_n O dX1_restore_31 32 0 rfl rfl ?_
    refine g_get O dX1_restore_32 35 rfl fX1_restore_21 0 rfl rfl ?_
    refine g_aload_n O dX1_restore_35 36 0 rfl rfl ?_
    refine g_get O dX1_restore_36 39 rfl fX1_restore_9 0 rfl rfl ?_
    refine g_aald O dX1_restore_39 40 rfl 2 rfl (by decide) (by decide) (ad 26) rfl ?_
    refine g_callV (As := [.ref (ad 26)]) (rest := []) (na := 1) O (k_X3_copyFrom D (ad 7) (ad 8) (ad 26) (ad 27) sv (hs 1)) dX1_restore_40 gX1_restore_X3_copyFrom rfl ⟨rfl, rfl⟩ (by decide +kernel) rfl (by decide) (by decide) rfl (by decide) (q0 := 25) (ci := 3) rfl rfl [25, 26, 15, 16] (by decide) rfl (fun _ => rfl) (fun _ => [(ad 11, co 1 [vi 1, .ref (ad 12), .ref (ad 13)]), (ad 12, cq D 5 (qf [some (ad 14), some (ad 16), some (ad 18), some (ad 20), some (ad 22)])), (ad 13, cq D 5 (qf [some (ad 24), some (ad 26), some (ad 28), some (ad 30), some (ad 32)])), (ad 14, co 3 [.ref (ad 15)]), (ad 15, ca D 6 (hp 0)), (ad 16, co 3 [.ref (ad 17)]), (ad 17, ca D 6 (hp 1)), (ad 18, co 3 [.ref (ad 19)]), (ad 19, ca D 6 (hp 2)), (ad 20, co 3 [.ref (ad 21)]), (ad 21, ca D 6 (hp 3)), (ad 22, co 3 [.ref (ad 23)]), (ad 23, ca D 6 (hp 4)), (ad 24, co 3 [.ref (ad 25)]), (ad 25, ca D 6 (hs 0)), (ad 26, co 3 [.ref (ad 27)]), (ad 27, ca D 6 (hs 1)), (ad 28, co 3 [.ref (ad 29)]), (ad 29, ca D 6 (hs 2)), (ad 30, co 3 [.ref (ad 31)]), (ad 31, ca D 6 (hs 3)), (ad 32, co 3 [.ref (ad 33)]), (ad 33, ca D 6 (hs 4)), (ad 5, co 3 [.ref (ad 6)]), (ad 6, ca D 6 (hp 1)), (ad 7, co 3 [.ref (ad 8)]), (ad 8, ca D 6 (hs 1))]) (fun _ => rfl) 43 rfl (fun _ _ => ?_)
    show G X D A 3 Q 0 0 43 [(0, .ref (ad 11)), (1, .ref (ad 5)), (2, .ref (ad 7))] [] [(ad 11, co 1 [vi 1, .ref (ad 12), .ref (ad 13)]), (ad 12, cq D 5 (qf [some (ad 14), some (ad 16), some (ad 18), some (ad 20), some (ad 22)])), (ad 13, cq D 5 (qf [some (ad 24), some (ad 26), some (ad 28), some (ad 30), some (ad 32)])), (ad 14, co 3 [.ref (ad 15)]), (ad 15, ca D 6 (hp 0)), (ad 16, co 3 [.ref (ad 17)]), (ad 17, ca D 6 (hp 1)), (ad 18, co 3 [.ref (ad 19)]), (ad 19, ca D 6 (hp 2)), (ad 20, co 3 [.ref (ad 21)]), (ad 21, ca D 6 (hp 3)), (ad 22, co 3 [.ref (ad 23)]), (ad 23, ca D 6 (hp 4)), (ad 24, co 3 [.ref (ad 25)]), (ad 25, ca D 6 (hs 0)), (ad 26, co 3 [.ref (ad 27)]), (ad 27, ca D 6 (hs 1)), (ad 28, co 3 [.ref (ad 29)]), (ad 29, ca D 6 (hs 2)), (ad 30, co 3 [.ref (ad 31)]), (ad 31, ca D 6 (hs 3)), (ad 32, co 3 [.ref (ad 33)]), (ad 33, ca D 6 (hs 4)), (ad 5, co 3 [.ref (ad 6)]), (ad 6, ca D 6 (hp 1)), (ad 7, co 3 [.ref (ad 8)]), (ad 8, ca D 6 (hs 1))]
    exact g_vret O hQ dX1_restore_43 () rfl rfl trivial ⟨by decide, by decide⟩
  · skip
    refine g_aload_n O dX1_restore_0 1 0 rfl rfl ?_
    refine g_get O dX1_restore_1 4 rfl fX1_restore_9 0 rfl rfl ?_
    refine g_if_le O dX1_restore_4 7 43 rfl rfl (by omega) (fun h => absurd h (by decide)) (fun _ => ?_)
    refine g_aload_n O dX1_restore_7 8 0 rfl rfl ?_
    refine g_dup O dX1_restore_8 9 rfl rfl ?_
    refine g_get O dX1_restore_9 12 rfl fX1_restore_9 0 rfl rfl ?_
    refine g_iconst O dX1_restore_12 13 rfl ?_
    refine g_isub O dX1_restore_13 14 rfl ?_
    refine g_put O dX1_restore_14 17 rfl fX1_restore_9 pF1_0 0 rfl rfl rfl (Nat.le_of_ble_eq_true rfl) [(ad 11, co 1 [vi 2, .ref (ad 12), .ref (ad 13)]), (ad 12, cq D 5 (qf [some (ad 14), some (ad 16), some (ad 18), some (ad 20), some (ad 22)])), (ad 13, cq D 5 (qf [some (ad 24), some (ad 26), some (ad 28), some (ad 30), some (ad 32)])), (ad 14, co 3 [.ref (ad 15)]), (ad 15, ca D 6 (hp 0)), (ad 16, co 3 [.ref (ad 17)]), (ad 17, ca D 6 (hp 1)), (ad 18, co 3 [.ref (ad 19)]), (ad 19, ca D 6 (hp 2)), (ad 20, co 3 [.ref (ad 21)]), (ad 21, ca D 6 (hp 3)), (ad 22, co 3 [.ref (ad 23)]), (ad 23, ca D 6 (hp 4)), (ad 24, co 3 [.ref (ad 25)]), (ad 25, ca D 6 (hs 0)), (ad 26, co 3 [.ref (ad 27)]), (ad 27, ca D 6 (hs 1)), (ad 28, co 3 [.ref (ad 29)]), (ad 29, ca D 6 (hs 2)), (ad 30, co 3 [.ref (ad 31)]), (ad 31, ca D 6 (hs 3)), (ad 32, co 3 [.ref (ad 33)]), (ad 33, ca D 6 (hs 4)), (ad 5, co 3 [.ref (ad 6)]), (ad 6, ca D 6 pr), (ad 7, co 3 [.ref (ad 8)]), (ad 8, ca D 6 sv)] rfl ?_
    refine g_aload_n O dX1_restore_17 18 1 rfl rfl ?_
    refine g_aload_n O dX1_restore_18 19 0 rfl rfl ?_
    refine g_get O dX1_restore_19 22 rfl fX1_restore_17 0 rfl rfl ?_
    refine g_aload_n O dX1_restore_22 23 0 rfl rfl ?_
    refine g_get O dX1_restore_23 26 rfl fX1_restore_9 0 rfl rfl ?_
    refine g_aald O dX1_restore_26 27 rfl 1 rfl (by decide) (by decide) (ad 18) rfl ?_
    refine g_callV (As := [.ref (ad 18)]) (rest := []) (na := 1) O (k_X3_copyFrom D (ad 5) (ad 6) (ad 18) (ad 19) pr (hp 2)) dX1_restore_27 gX1_restore_X3_copyFrom rfl ⟨rfl, rfl⟩ (by decide +kernel) rfl (by decide) (by decide) rfl (by decide) (q0 := 23) (ci := 3) rfl rfl [23, 24, 7, 8] (by decide) rfl (fun _ => rfl) (fun _ => [(ad 11, co 1 [vi 2, .ref (ad 12), .ref (ad 13)]), (ad 12, cq D 5 (qf [some (ad 14), some (ad 16), some (ad 18), some (ad 20), some (ad 22)])), (ad 13, cq D 5 (qf [some (ad 24), some (ad 26), some (ad 28), some (ad 30), some (ad 32)])), (ad 14, co 3 [.ref (ad 15)]), (ad 15, ca D 6 (hp 0)), (ad 16, co 3 [.ref (ad 17)]), (ad 17, ca D 6 (hp 1)), (ad 18, co 3 [.ref (ad 19)]), (ad 19, ca D 6 (hp 2)), (ad 20, co 3 [.ref (ad 21)]), (ad 21, ca D 6 (hp 3)), (ad 22, co 3 [.ref (ad 23)]), (ad 23, ca D 6 (hp 4)), (ad 24, co 3 [.ref (ad 25)]), (ad 25, ca D 6 (hs 0)), (ad 26, co 3 [.ref (ad 27)]), (ad 27, ca D 6 (hs 1)), (ad 28, co 3 [.ref (ad 29)]), (ad 29, ca D 6 (hs 2)), (ad 30, co 3 [.ref (ad 31)]), (ad 31, ca D 6 (hs 3)), (ad 32, co 3 [.ref (ad 33)]), (ad 33, ca D 6 (hs 4)), (ad 5, co 3 [.ref (ad 6)]), (ad 6, ca D 6 (hp 2)), (ad 7, co 3 [.ref (ad 8)]), (ad 8, ca D 6 sv)]) (fun _ => rfl) 30 rfl (fun _ _ => ?_)
    show G X D A 3 Q 0 0 30 [(0, .ref (ad 11)), (1, .ref (ad 5)), (2, .ref (ad 7))] [] [(ad 11, co 1 [vi 2, .ref (ad 12), .ref (ad 13)]), (ad 12, cq D 5 (qf [some (ad 14), some (ad 16), some (ad 18), some (ad 20), some (ad 22)])), (ad 13, cq D 5 (qf [some (ad 24), some (ad 26), some (ad 28), some (ad 30), some (ad 32)])), (ad 14, co 3 [.ref (ad 15)]), (ad 15, ca D 6 (hp 0)), (ad 16, co 3 [.ref (ad 17)]), (ad 17, ca D 6 (hp 1)), (ad 18, co 3 [.ref (ad 19)]), (ad 19, ca D 6 (hp 2)), (ad 20, co 3 [.ref (ad 21)]), (ad 21, ca D 6 (hp 3)), (ad 22, co 3 [.ref (ad 23)]), (ad 23, ca D 6 (hp 4)), (ad 24, co 3 [.ref (ad 25)]), (ad 25, ca D 6 (hs 0)), (ad 26, co 3 [.ref (ad 27)]), (ad 27, ca D 6 (hs 1)), (ad 28, co 3 [.ref (ad 29)]), (ad 29, ca D 6 (hs 2)), (ad 30, co 3 [.ref (ad 31)]), (ad 31, ca D 6 (hs 3)), (ad 32, co 3 [.ref (ad 33)]), (ad 33, ca D 6 (hs 4)), (ad 5, co 3 [.ref (ad 6)]), (ad 6, ca D 6 (hp 2)), (ad 7, co 3 [.ref (ad 8)]), (ad 8, ca D 6 sv)]
    refine g_aload_n O dX1_restore_30 31 2 rfl rfl ?_
    refine g_aload_n O dX1_restore_31 32 0 rfl rfl ?_
    refine g_get O dX1_restore_32 35 rfl fX1_restore_21 0 rfl rfl ?_
    refine g_aload_n O dX1_restore_35 36 0 rfl rfl ?_
    refine g_get O dX1_restore_36 39 rfl fX1_restore_9 0 rfl rfl ?_
    refine g_aald O dX1_restore_39 40 rfl 2 rfl (by decide) (by decide) (ad 28) rfl ?_
    refine g_callV (As := [.ref (ad 28)]) (rest := []) (na := 1) O (k_X3_copyFrom D (ad 7) (ad 8) (ad 28) (ad 29) sv (hs 2)) dX1_restore_40 gX1_restore_X3_copyFrom rfl ⟨rfl, rfl⟩ (by decide +kernel) rfl (by decide) (by decide) rfl (by decide) (q0 := 25) (ci := 3) rfl rfl [25, 26, 17, 18] (by decide) rfl (fun _ => rfl) (fun _ => [(ad 11, co 1 [vi 2, .ref (ad 12), .ref (ad 13)]), (ad 12, cq D 5 (qf [some (ad 14), some (ad 16), some (ad 18), some (ad 20), some (ad 22)])), (ad 13, cq D 5 (qf [some (ad 24), some (ad 26), some (ad 28), some (ad 30), some (ad 32)])), (ad 14, co 3 [.ref (ad 15)]), (ad 15, ca D 6 (hp 0)), (ad 16, co 3 [.ref (ad 17)]), (ad 17, ca D 6 (hp 1)), (ad 18, co 3 [.ref (ad 19)]), (ad 19, ca D 6 (hp 2)), (ad 20, co 3 [.ref (ad 21)]), (ad 21, ca D 6 (hp 3)), (ad 22, co 3 [.ref (ad 23)]), (ad 23, ca D 6 (hp 4)), (ad 24, co 3 [.ref (ad 25)]), (ad 25, ca D 6 (hs 0)), (ad 26, co 3 [.ref (ad 27)]), (ad 27, ca D 6 (hs 1)), (ad 28, co 3 [.ref (ad 29)]), (ad 29, ca D 6 (hs 2)), (ad 30, co 3 [.ref (ad 31)]), (ad 31, ca D 6 (hs 3)), (ad 32, co 3 [.ref (ad 33)]), (ad 33, ca D 6 (hs 4)), (ad 5, co 3 [.ref (ad 6)]), (ad 6, ca D 6 (hp 2)), (ad 7, co 3 [.ref (ad 8)]), (ad 8, ca D 6 (hs 2))]) (fun _ => rfl) 43 rfl (fun _ _ => ?_)
    show G X D A 3 Q 0 0 43 [(0, .ref (ad 11)), (1, .ref (ad 5)), (2, .ref (ad 7))] [] [(ad 11, co 1 [vi 2, .ref (ad 12), .ref (ad 13)]), (ad 12, cq D 5 (qf [some (ad 14), some (ad 16), some (ad 18), some (ad 20), some (ad 22)])), (ad 13, cq D 5 (qf [some (ad 24), some (ad 26), some (ad 28), some (ad 30), some (ad 32)])), (ad 14, co 3 [.ref (ad 15)]), (ad 15, ca D 6 (hp 0)), (ad 16, co 3 [.ref (ad 17)]), (ad 17, ca D 6 (hp 1)), (ad 18, co 3 [.ref (ad 19)]), (ad 19, ca D 6 (hp 2)), (ad 20, co 3 [.ref (ad 21)]), (ad 21, ca D 6 (hp 3)), (ad 22, co 3 [.ref (ad 23)]), (ad 23, ca D 6 (hp 4)), (ad 24, co 3 [.ref (ad 25)]), (ad 25, ca D 6 (hs 0)), (ad 26, co 3 [.ref (ad 27)]), (ad 27, ca D 6 (hs 1)), (ad 28, co 3 [.ref (ad 29)]), (ad 29, ca D 6 (hs 2)), (ad 30, co 3 [.ref (ad 31)]), (ad 31, ca D 6 (hs 3)), (ad 32, co 3 [.ref (ad 33)]), (ad 33, ca D 6 (hs 4)), (ad 5, co 3 [.ref (ad 6)]), (ad 6, ca D 6 (hp 2)), (ad 7, co 3 [.ref (ad 8)]), (ad 8, ca D 6 (hs 2))]
    exact g_vret O hQ dX1_restore_43 () rfl rfl trivial ⟨by decide, by decide⟩
  · skip
    refine g_aload_n O dX1_restore_0 1 0 rfl rfl ?_
    refine g_get O dX1_restore_1 4 rfl fX1_restore_9 0 rfl rfl ?_
    refine g_if_le O dX1_restore_4 7 43 rfl rfl (by omega) (fun h => absurd h (by decide)) (fun _ => ?_)
    refine g_aload_n O dX1_restore_7 8 0 rfl rfl ?_
    refine g_dup O dX1_restore_8 9 rfl rfl ?_
    refine g_get O dX1_restore_9 12 rfl fX1_restore_9 0 rfl rfl ?_
    refine g_iconst O dX1_restore_12 13 rfl ?_
    refine g_isub O dX1_restore_13 14 rfl ?_
    refine g_put O dX1_restore_14 17 rfl fX1_restore_9 pF1_0 0 rfl rfl rfl (Nat.le_of_ble_eq_true rfl) [(ad 11, co 1 [vi 3, .ref (ad 12), .ref (ad 13)]), (ad 12, cq D 5 (qf [some (ad 14), some (ad 16), some (ad 18), some (ad 20), some (ad 22)])), (ad 13, cq D 5 (qf [some (ad 24), some (ad 26), some (ad 28), some (ad 30), some (ad 32)])), (ad 14, co 3 [.ref (ad 15)]), (ad 15, ca D 6 (hp 0)), (ad 16, co 3 [.ref (ad 17)]), (ad 17, ca D 6 (hp 1)), (ad 18, co 3 [.ref (ad 19)]), (ad 19, ca D 6 (hp 2)), (ad 20, co 3 [.ref (ad 21)]), (ad 21, ca D 6 (hp 3)), (ad 22, co 3 [.ref (ad 23)]), (ad 23, ca D 6 (hp 4)), (ad 24, co 3 [.ref (ad 25)]), (ad 25, ca D 6 (hs 0)), (ad 26, co 3 [.ref (ad 27)]), (ad 27, ca D 6 (hs 1)), (ad 28, co 3 [.ref (ad 29)]), (ad 29, ca D 6 (hs 2)), (ad 30, co 3 [.ref (ad 31)]), (ad 31, ca D 6 (hs 3)), (ad 32, co 3 [.ref (ad 33)]), (ad 33, ca D 6 (hs 4)), (ad 5, co 3 [.ref (ad 6)]), (ad 6, ca D 6 pr), (ad 7, co 3 [.ref (ad 8)]), (ad 8, ca D 6 sv)] rfl ?_
    refine g_aload_n O dX1_restore_17 18 1 rfl rfl ?_
    refine g_aload_n O dX1_restore_18 19 0 rfl rfl ?_
    refine g_get O dX1_restore_19 22 rfl fX1_restore_17 0 rfl rfl ?_
    refine g_aload_n O dX1_restore_22 23 0 rfl rfl ?_
    refine g_get O dX1_restore_23 26 rfl fX1_restore_9 0 rfl rfl ?_
    refine g_aald O dX1_restore_26 27 rfl 1 rfl (by decide) (by decide) (ad 20) rfl ?_
    refine g_callV (As := [.ref (ad 20)]) (rest := []) (na := 1) O (k_X3_copyFrom D (ad 5) (ad 6) (ad 20) (ad 21) pr (hp 3)) dX1_restore_27 gX1_restore_X3_copyFrom rfl ⟨rfl, rfl⟩ (by decide +kernel) rfl (by decide) (by decide) rfl (by decide) (q0 := 23) (ci := 3) rfl rfl [23, 24, 9, 10] (by decide) rfl (fun _ => rfl) (fun _ => [(ad 11, co 1 [vi 3, .ref (ad 12), .ref (ad 13)]), (ad 12, cq D 5 (qf [some (ad 14), some (ad 16), some (ad 18), some (ad 20), some (ad 22)])), (ad 13, cq D 5 (qf [some (ad 24), some (ad 26), some (ad 28), some (ad 30), some (ad 32)])), (ad 14, co 3 [.ref (ad 15)]), (ad 15, ca D 6 (hp 0)), (ad 16, co 3 [.ref (ad 17)]), (ad 17, ca D 6 (hp 1)), (ad 18, co 3 [.ref (ad 19)]), (ad 19, ca D 6 (hp 2)), (ad 20, co 3 [.ref (ad 21)]), (ad 21, ca D 6 (hp 3)), (ad 22, co 3 [.ref (ad 23)]), (ad 23, ca D 6 (hp 4)), (ad 24, co 3 [.ref (ad 25)]), (ad 25, ca D 6 (hs 0)), (ad 26, co 3 [.ref (ad 27)]), (ad 27, ca D 6 (hs 1)), (ad 28, co 3 [.ref (ad 29)]), (ad 29, ca D 6 (hs 2)), (ad 30, co 3 [.ref (ad 31)]), (ad 31, ca D 6 (hs 3)), (ad 32, co 3 [.ref (ad 33)]), (ad 33, ca D 6 (hs 4)), (ad 5, co 3 [.ref (ad 6)]), (ad 6, ca D 6 (hp 3)), (ad 7, co 3 [.ref (ad 8)]), (ad 8, ca D 6 sv)]) (fun _ => rfl) 30 rfl (fun _ _ => ?_)
    show G X D A 3 Q 0 0 30 [(0, .ref (ad 11)), (1, .ref (ad 5)), (2, .ref (ad 7))] [] [(ad 11, co 1 [vi 3, .ref (ad 12), .ref (ad 13)]), (ad 12, cq D 5 (qf [some (ad 14), some (ad 16), some (ad 18), some (ad 20), some (ad 22)])), (ad 13, cq D 5 (qf [some (ad 24), some (ad 26), some (ad 28), some (ad 30), some (ad 32)])), (ad 14, co 3 [.ref (ad 15)]), (ad 15, ca D 6 (hp 0)), (ad 16, co 3 [.ref (ad 17)]), (ad 17, ca D 6 (hp 1)), (ad 18, co 3 [.ref (ad 19)]), (ad 19, ca D 6 (hp 2)), (ad 20, co 3 [.ref (ad 21)]), (ad 21, ca D 6 (hp 3)), (ad 22, co 3 [.ref (ad 23)]), (ad 23, ca D 6 (hp 4)), (ad 24, co 3 [.ref (ad 25)]), (ad 25, ca D 6 (hs 0)), (ad 26, co 3 [.ref (ad 27)]), (ad 27, ca D 6 (hs 1)), (ad 28, co 3 [.ref (ad 29)]), (ad 29, ca D 6 (hs 2)), (ad 30, co 3 [.ref (ad 31)]), (ad 31, ca D 6 (hs 3)), (ad 32, co 3 [.ref (ad 33)]), (ad 33, ca D 6 (hs 4)), (ad 5, co 3 [.ref (ad 6)]), (ad 6, ca D 6 (hp 3)), (ad 7, co 3 [.ref (ad 8)]), (ad 8, ca D 6 sv)]
    refine g_aload_n O dX1_restore_30 31 2 rfl rfl ?_
    refine g_aload_n O dX1_restore_31 32 0 rfl rfl ?_
    refine g_get O dX1_restore_32 35 rfl fX1_restore_21 0 rfl rfl ?_
    refine g_aload_n O dX1_restore_35 36 0 rfl rfl ?_
    refine g_get O dX1_restore_36 39 rfl fX1_restore_9 0 rfl rfl ?_
    refine g_aald O dX1_restore_39 40 rfl 2 rfl (by decide) (by decide) (ad 30) rfl ?_
    refine g_callV (As := [.ref (ad 30)]) (rest := []) (na := 1) O (k_X3_copyFrom D (ad 7) (ad 8) (ad 30) (ad 31) sv (hs 3)) dX1_restore_40 gX1_restore_X3_copyFrom rfl ⟨rfl, rfl⟩ (by decide +kernel) rfl (by decide) (by decide) rfl (by decide) (q0 := 25) (ci := 3) rfl rfl [25, 26, 19, 20] (by decide) rfl (fun _ => rfl) (fun _ => [(ad 11, co 1 [vi 3, .ref (ad 12), .ref (ad 13)]), (ad 12, cq D 5 (qf [some (ad 14), some (ad 16), some (ad 18), some (ad 20), some (ad 22)])), (ad 13, cq D 5 (qf [some (ad 24), some (ad 26), some (ad 28), some (ad 30), some (ad 32)])), (ad 14, co 3 [.ref (ad 15)]), (ad 15, ca D 6 (hp 0)), (ad 16, co 3 [.ref (ad 17)]), (ad 17, ca D 6 (hp 1)), (ad 18, co 3 [.ref (ad 19)]), (ad 19, ca D 6 (hp 2)), (ad 20, co 3 [.ref (ad 21)]), (ad 21, ca D 6 (hp 3)), (ad 22, co 3 [.ref (ad 23)]), (ad 23, ca D 6 (hp 4)), (ad 24, co 3 [.ref (ad 25)]), (ad 25, ca D 6 (hs 0)), (ad 26, co 3 [.ref (ad 27)]), (ad 27, ca D 6 (hs 1)), (ad 28, co 3 [.ref (ad 29)]), (ad 29, ca D 6 (hs 2)), (ad 30, co 3 [.ref (ad 31)]), (ad 31, ca D 6 (hs 3)), (ad 32, co 3 [.ref (ad 33)]), (ad 33, ca D 6 (hs 4)), (ad 5, co 3 [.ref (ad 6)]), (ad 6, ca D 6 (hp 3)), (ad 7, co 3 [.ref (ad 8)]), (ad 8, ca D 6 (hs 3))]) (fun _ => rfl) 43 rfl (fun _ _ => ?_)
    show G X D A 3 Q 0 0 43 [(0, .ref (ad 11)), (1, .ref (ad 5)), (2, .ref (ad 7))] [] [(ad 11, co 1 [vi 3, .ref (ad 12), .ref (ad 13)]), (ad 12, cq D 5 (qf [some (ad 14), some (ad 16), some (ad 18), some (ad 20), some (ad 22)])), (ad 13, cq D 5 (qf [some (ad 24), some (ad 26), some (ad 28), some (ad 30), some (ad 32)])), (ad 14, co 3 [.ref (ad 15)]), (ad 15, ca D 6 (hp 0)), (ad 16, co 3 [.ref (ad 17)]), (ad 17, ca D 6 (hp 1)), (ad 18, co 3 [.ref (ad 19)]), (ad 19, ca D 6 (hp 2)), (ad 20, co 3 [.ref (ad 21)]), (ad 21, ca D 6 (hp 3)), (ad 22, co 3 [.ref (ad 23)]), (ad 23, ca D 6 (hp 4)), (ad 24, co 3 [.ref (ad 25)]), (ad 25, ca D 6 (hs 0)), (ad 26, co 3 [.ref (ad 27)]), (ad 27, ca D 6 (hs 1)), (ad 28, co 3 [.ref (ad 29)]), (ad 29, ca D 6 (hs 2)), (ad 30, co 3 [.ref (ad 31)]), (ad 31, ca D 6 (hs 3)), (ad 32, co 3 [.ref (ad 33)]), (ad 33, ca D 6 (hs 4)), (ad 5, co 3 [.ref (ad 6)]), (ad 6, ca D 6 (hp 3)), (ad 7, co 3 [.ref (ad 8)]), (ad 8, ca D 6 (hs 3))]
    exact g_vret O hQ dX1_restore_43 () rfl rfl trivial ⟨by decide, by decide⟩
  · skip
    refine g_aload_n O dX1_restore_0 1 0 rfl rfl ?_
    refine g_get O dX1_restore_1 4 rfl fX1_restore_9 0 rfl rfl ?_
    refine g_if_le O dX1_restore_4 7 43 rfl rfl (by omega) (fun h => absurd h (by decide)) (fun _ => ?_)
    refine g_aload_n O dX1_restore_7 8 0 rfl rfl ?_
    refine g_dup O dX1_restore_8 9 rfl rfl ?_
    refine g_get O dX1_restore_9 12 rfl fX1_restore_9 0 rfl rfl ?_
    refine g_iconst O dX1_restore_12 13 rfl ?_
    refine g_isub O dX1_restore_13 14 rfl ?_
    refine g_put O dX1_restore_14 17 rfl fX1_restore_9 pF1_0 0 rfl rfl rfl (Nat.le_of_ble_eq_true rfl) [(ad 11, co 1 [vi 4, .ref (ad 12), .ref (ad 13)]), (ad 12, cq D 5 (qf [some (ad 14), some (ad 16), some (ad 18), some (ad 20), some (ad 22)])), (ad 13, cq D 5 (qf [some (ad 24), some (ad 26), some (ad 28), some (ad 30), some (ad 32)])), (ad 14, co 3 [.ref (ad 15)]), (ad 15, ca D 6 (hp 0)), (ad 16, co 3 [.ref (ad 17)]), (ad 17, ca D 6 (hp 1)), (ad 18, co 3 [.ref (ad 19)]), (ad 19, ca D 6 (hp 2)), (ad 20, co 3 [.ref (ad 21)]), (ad 21, ca D 6 (hp 3)), (ad 22, co 3 [.ref (ad 23)]), (ad 23, ca D 6 (hp 4)), (ad 24, co 3 [.ref (ad 25)]), (ad 25, ca D 6 (hs 0)), (ad 26, co 3 [.ref (ad 27)]), (ad 27, ca D 6 (hs 1)), (ad 28, co 3 [.ref (ad 29)]), (ad 29, ca D 6 (hs 2)), (ad 30, co 3 [.ref (ad 31)]), (ad 31, ca D 6 (hs 3)), (ad 32, co 3 [.ref (ad 33)]), (ad 33, ca D 6 (hs 4)), (ad 5, co 3 [.ref (ad 6)]), (ad 6, ca D 6 pr), (ad 7, co 3 [.ref (ad 8)]), (ad 8, ca D 6 sv)] rfl ?_
    refine g_aload_n O dX1_restore_17 18 1 rfl rfl ?_
    refine g_aload_n O dX1_restore_18 19 0 rfl rfl ?_
    refine g_get O dX1_restore_19 22 rfl fX1_restore_17 0 rfl rfl ?_
    refine g_aload_n O dX1_restore_22 23 0 rfl rfl ?_
    refine g_get O dX1_restore_23 26 rfl fX1_restore_9 0 rfl rfl ?_
    refine g_aald O dX1_restore_26 27 rfl 1 rfl (by decide) (by decide) (ad 22) rfl ?_
    refine g_callV (As := [.ref (ad 22)]) (rest := []) (na := 1) O (k_X3_copyFrom D (ad 5) (ad 6) (ad 22) (ad 23) pr (hp 4)) dX1_restore_27 gX1_restore_X3_copyFrom rfl ⟨rfl, rfl⟩ (by decide +kernel) rfl (by decide) (by decide) rfl (by decide) (q0 := 23) (ci := 3) rfl rfl [23, 24, 11, 12] (by decide) rfl (fun _ => rfl) (fun _ => [(ad 11, co 1 [vi 4, .ref (ad 12), .ref (ad 13)]), (ad 12, cq D 5 (qf [some (ad 14), some (ad 16), some (ad 18), some (ad 20), some (ad 22)])), (ad 13, cq D 5 (qf [some (ad 24), some (ad 26), some (ad 28), some (ad 30), some (ad 32)])), (ad 14, co 3 [.ref (ad 15)]), (ad 15, ca D 6 (hp 0)), (ad 16, co 3 [.ref (ad 17)]), (ad 17, ca D 6 (hp 1)), (ad 18, co 3 [.ref (ad 19)]), (ad 19, ca D 6 (hp 2)), (ad 20, co 3 [.ref (ad 21)]), (ad 21, ca D 6 (hp 3)), (ad 22, co 3 [.ref (ad 23)]), (ad 23, ca D 6 (hp 4)), (ad 24, co 3 [.ref (ad 25)]), (ad 25, ca D 6 (hs 0)), (ad 26, co 3 [.ref (ad 27)]), (ad 27, ca D 6 (hs 1)), (ad 28, co 3 [.ref (ad 29)]), (ad 29, ca D 6 (hs 2)), (ad 30, co 3 [.ref (ad 31)]), (ad 31, ca D 6 (hs 3)), (ad 32, co 3 [.ref (ad 33)]), (ad 33, ca D 6 (hs 4)), (ad 5, co 3 [.ref (ad 6)]), (ad 6, ca D 6 (hp 4)), (ad 7, co 3 [.ref (ad 8)]), (ad 8, ca D 6 sv)]) (fun _ => rfl) 30 rfl (fun _ _ => ?_)
    show G X D A 3 Q 0 0 30 [(0, .ref (ad 11)), (1, .ref (ad 5)), (2, .ref (ad 7))] [] [(ad 11, co 1 [vi 4, .ref (ad 12), .ref (ad 13)]), (ad 12, cq D 5 (qf [some (ad 14), some (ad 16), some (ad 18), some (ad 20), some (ad 22)])), (ad 13, cq D 5 (qf [some (ad 24), some (ad 26), some (ad 28), some (ad 30), some (ad 32)])), (ad 14, co 3 [.ref (ad 15)]), (ad 15, ca D 6 (hp 0)), (ad 16, co 3 [.ref (ad 17)]), (ad 17, ca D 6 (hp 1)), (ad 18, co 3 [.ref (ad 19)]), (ad 19, ca D 6 (hp 2)), (ad 20, co 3 [.ref (ad 21)]), (ad 21, ca D 6 (hp 3)), (ad 22, co 3 [.ref (ad 23)]), (ad 23, ca D 6 (hp 4)), (ad 24, co 3 [.ref (ad 25)]), (ad 25, ca D 6 (hs 0)), (ad 26, co 3 [.ref (ad 27)]), (ad 27, ca D 6 (hs 1)), (ad 28, co 3 [.ref (ad 29)]), (ad 29, ca D 6 (hs 2)), (ad 30, co 3 [.ref (ad 31)]), (ad 31, ca D 6 (hs 3)), (ad 32, co 3 [.ref (ad 33)]), (ad 33, ca D 6 (hs 4)), (ad 5, co 3 [.ref (ad 6)]), (ad 6, ca D 6 (hp 4)), (ad 7, co 3 [.ref (ad 8)]), (ad 8, ca D 6 sv)]
    refine g_aload_n O dX1_restore_30 31 2 rfl rfl ?_
    refine g_aload_n O dX1_restore_31 32 0 rfl rfl ?_
    refine g_get O dX1_restore_32 35 rfl fX1_restore_21 0 rfl rfl ?_
    refine g_aload_n O dX1_restore_35 36 0 rfl rfl ?_
    refine g_get O dX1_restore_36 39 rfl fX1_restore_9 0 rfl rfl ?_
    refine g_aald O dX1_restore_39 40 rfl 2 rfl (by decide) (by decide) (ad 32) rfl ?_
    refine g_callV (As := [.ref (ad 32)]) (rest := []) (na := 1) O (k_X3_copyFrom D (ad 7) (ad 8) (ad 32) (ad 33) sv (hs 4)) dX1_restore_40 gX1_restore_X3_copyFrom rfl ⟨rfl, rfl⟩ (by decide +kernel) rfl (by decide) (by decide) rfl (by decide) (q0 := 25) (ci := 3) rfl rfl [25, 26, 21, 22] (by decide) rfl (fun _ => rfl) (fun _ => [(ad 11, co 1 [vi 4, .ref (ad 12), .ref (ad 13)]), (ad 12, cq D 5 (qf [some (ad 14), some (ad 16), some (ad 18), some (ad 20), some (ad 22)])), (ad 13, cq D 5 (qf [some (ad 24), some (ad 26), some (ad 28), some (ad 30), some (ad 32)])), (ad 14, co 3 [.ref (ad 15)]), (ad 15, ca D 6 (hp 0)), (ad 16, co 3 [.ref (ad 17)]), (ad 17, ca D 6 (hp 1)), (ad 18, co 3 [.ref (ad 19)]), (ad 19, ca D 6 (hp 2)), (ad 20, co 3 [.ref (ad 21)]), (ad 21, ca D 6 (hp 3)), (ad 22, co 3 [.ref (ad 23)]), (ad 23, ca D 6 (hp 4)), (ad 24, co 3 [.ref (ad 25)]), (ad 25, ca D 6 (hs 0)), (ad 26, co 3 [.ref (ad 27)]), (ad 27, ca D 6 (hs 1)), (ad 28, co 3 [.ref (ad 29)]), (ad 29, ca D 6 (hs 2)), (ad 30, co 3 [.ref (ad 31)]), (ad 31, ca D 6 (hs 3)), (ad 32, co 3 [.ref (ad 33)]), (ad 33, ca D 6 (hs 4)), (ad 5, co 3 [.ref (ad 6)]), (ad 6, ca D 6 (hp 4)), (ad 7, co 3 [.ref (ad 8)]), (ad 8, ca D 6 (hs 4))]) (fun _ => rfl) 43 rfl (fun _ _ => ?_)
    show G X D A 3 Q 0 0 43 [(0, .ref (ad 11)), (1, .ref (ad 5)), (2, .ref (ad 7))] [] [(ad 11, co 1 [vi 4, .ref (ad 12), .ref (ad 13)]), (ad 12, cq D 5 (qf [some (ad 14), some (ad 16), some (ad 18), some (ad 20), some (ad 22)])), (ad 13, cq D 5 (qf [some (ad 24), some (ad 26), some (ad 28), some (ad 30), some (ad 32)])), (ad 14, co 3 [.ref (ad 15)]), (ad 15, ca D 6 (hp 0)), (ad 16, co 3 [.ref (ad 17)]), (ad 17, ca D 6 (hp 1)), (ad 18, co 3 [.ref (ad 19)]), (ad 19, ca D 6 (hp 2)), (ad 20, co 3 [.ref (ad 21)]), (ad 21, ca D 6 (hp 3)), (ad 22, co 3 [.ref (ad 23)]), (ad 23, ca D 6 (hp 4)), (ad 24, co 3 [.ref (ad 25)]), (ad 25, ca D 6 (hs 0)), (ad 26, co 3 [.ref (ad 27)]), (ad 27, ca D 6 (hs 1)), (ad 28, co 3 [.ref (ad 29)]), (ad 29, ca D 6 (hs 2)), (ad 30, co 3 [.ref (ad 31)]), (ad 31, ca D 6 (hs 3)), (ad 32, co 3 [.ref (ad 33)]), (ad 33, ca D 6 (hs 4)), (ad 5, co 3 [.ref (ad 6)]), (ad 6, ca D 6 (hp 4)), (ad 7, co 3 [.ref (ad 8)]), (ad 8, ca D 6 (hs 4))]
    exact g_vret O hQ dX1_restore_43 () rfl rfl trivial ⟨by decide, by decide⟩
end
section
-- ===== pure words of the reference =====
def rm9 (len lst : Int → Int) (a p : Int) : Int := if rk (row lst a) p (len a) < len a then rk (row lst a) p (len a) else 9
theorem rk_nn (g : Int → Int) (p n : Int) : 0 ≤ rk g p n := by unfold rk; omega
theorem rm9_at {len lst : Int → Int} {a p i : Int} (h0 : 0 ≤ i) (h1 : i < len a) (h2 : ∀ k, 0 ≤ k → k < i → row lst a k ≠ p) (h3 : row lst a i = p) : rm9 len lst a p = i := by
  have e : i = rk (row lst a) p (len a) := rk_uniq h0 (by omega) h2 (fun _ => h3)
  unfold rm9
  rw [← e, if_pos h1]
theorem rm9_no {len lst : Int → Int} {a p : Int} (h2 : ∀ k, 0 ≤ k → k < len a → row lst a k ≠ p) : rm9 len lst a p = 9 := by
  unfold rm9
  split
  · rename_i c
    have := rk_nn (row lst a) p (len a)
    exact absurd (rk_at (by omega) c) (h2 _ this c)
  · rfl
theorem rm9_bd {N P : Int} {cap len lst : Int → Int} (hW : WI N P cap len lst) {a p : Int} (h0 : 0 ≤ a) (h1 : a < 6) : 0 ≤ rm9 len lst a p ∧ rm9 len lst a p ≤ 9 := by
  obtain ⟨hN, hcap, hlen, hlst, hdis⟩ := hW
  have := hlen a h0 h1
  have := rk_nn (row lst a) p (len a)
  unfold rm9
  split <;> omega
theorem rm9_lt {len lst : Int → Int} {a p : Int} (h : ¬ rm9 len lst a p = 9) : rk (row lst a) p (len a) < len a := by
  unfold rm9 at h
  split at h
  · assumption
  · exact absurd rfl h
theorem rm9_ge {N P : Int} {cap len lst : Int → Int} (hW : WI N P cap len lst) {a p : Int} (h0 : 0 ≤ a) (h1 : a < 6) (h : 9 ≤ rm9 len lst a p) : ¬ rk (row lst a) p (len a) < len a := by
  obtain ⟨hN, hcap, hlen, hlst, hdis⟩ := hW
  have := hlen a h0 h1
  unfold rm9 at h
  split at h
  · omega
  · assumption
/-- n + 1 numbers below n: two are the same -/
theorem pig : ∀ (n : Nat) (g : Int → Int), (∀ k : Int, 0 ≤ k → k ≤ n → 0 ≤ g k ∧ g k < n) → ∃ j k : Int, 0 ≤ j ∧ j < k ∧ k ≤ n ∧ g j = g k
  | 0, g, h => by
    have := h 0 (by omega) (by omega)
    omega
  | n + 1, g, h => by
    by_cases c : ∃ k : Int, 0 ≤ k ∧ k ≤ n ∧ g k = g ((n + 1 : Nat) : Int)
    · obtain ⟨k, h1, h2, h3⟩ := c
      exact ⟨k, ((n + 1 : Nat) : Int), h1, by omega, by omega, h3⟩
    · have hv := h ((n + 1 : Nat) : Int) (by omega) (by omega)
      have hne : ∀ k : Int, 0 ≤ k → k ≤ n → g k ≠ g ((n + 1 : Nat) : Int) := fun k h1 h2 h3 => c ⟨k, h1, h2, h3⟩
      obtain ⟨j, k, h1, h2, h3, h4⟩ := pig n (fun k => if g k = n then g ((n + 1 : Nat) : Int) else g k) (fun k h1 h2 => by
        have hk := h k h1 (by omega)
        have hn := hne k h1 h2
        split <;> omega)
      refine ⟨j, k, h1, h2, by omega, ?_⟩
      have n1 := hne j h1 (by omega)
      have n2 := hne k (by omega) (by omega)
      split at h4 <;> split at h4
      · omega
      · exact absurd h4.symm n2
      · exact absurd h4 n1
      · exact h4
theorem WI_room {N P : Int} {cap len lst : Int → Int} (hW : WI N P cap len lst) {a p : Int} (h0 : 0 ≤ a) (h1 : a < 6) (p0 : 0 ≤ p) (p1 : p < P) (h : ¬ rk (row lst a) p (len a) < len a) : len a < P := by
  obtain ⟨hN, hcap, hlen, hlst, hdis⟩ := hW
  have hl := hlen a h0 h1
  rcases Int.lt_or_le (len a) P with q | q
  · exact q
  · have e : len a = P := by omega
    have hr := rk_le (row lst a) p (n := len a) (by omega)
    obtain ⟨j, k, j0, jk, kn, he⟩ := pig P.toNat (fun k => if k < len a then row lst a k else p) (fun k k0 k1 => by
      split
      · have := hlst a k h0 h1 k0 (by assumption)
        omega
      · omega)
    rw [if_pos (by omega)] at he
    split at he
    · exact absurd he (hdis a j k h0 h1 j0 jk (by assumption))
    · exact absurd he (rk_ne (n := len a) j0 (by omega))
/-- the reference's history behind an edit -/
def edh (e : Int) (nw hi : Int → Int) (k : Int) : Int := if 12 * (if e = 5 then 4 else e) ≤ k ∧ k < 12 * (if e = 5 then 4 else e) + 12 then nw (k - 12 * (if e = 5 then 4 else e)) else if e = 5 ∧ k < 48 then hi (k + 12) else hi k
theorem edx1 {e : Int} {hi : Int → Int} (h : ¬ e = 5) : ∀ k, 0 ≤ k → k < 60 → hi k = if e = 5 ∧ k < 48 then hi (k + 12) else hi k := by
  intro k _ _
  rw [if_neg (fun q => h q.1)]
theorem edx2 {e i : Int} {hi g : Int → Int} (h : e = 5) (hi' : i = 48) (h2 : ∀ k, 0 ≤ k → k < i → g k = hi (k + 12)) (h3 : ∀ k, i ≤ k → g k = hi k) : ∀ k, 0 ≤ k → k < 60 → g k = if e = 5 ∧ k < 48 then hi (k + 12) else hi k := by
  intro k q1 _
  split
  · exact h2 k q1 (by omega)
  · exact h3 k (by omega)
theorem edy {e e0 : Int} {nw hi g0 g : Int → Int} (g1 : e0 = (if e = 5 then 4 else e)) (g2 : ∀ k, 0 ≤ k → k < 60 → g0 k = if e = 5 ∧ k < 48 then hi (k + 12) else hi k) (h2 : ∀ k, 0 ≤ k → k < 12 → g (12 * e0 + k) = nw k) (h3 : ∀ k, (k < 12 * e0 ∨ 12 * e0 + 12 ≤ k) → g k = g0 k) : ∀ k, 0 ≤ k → k < 60 → g k = edh e nw hi k := by
  intro k q1 q2
  unfold edh
  rw [← g1]
  split
  · have := h2 (k - 12 * e0) (by omega) (by omega)
    rwa [show 12 * e0 + (k - 12 * e0) = k by omega] at this
  · rw [h3 k (by omega), g2 k q1 q2]
def pls (nw : Int → Int) (k : Int) : Int := if 0 ≤ nw k then 1 else 0
def NW (nw : Int → Int) : Prop := ∀ k, 0 ≤ k → k < 12 → -1 ≤ nw k ∧ nw k < 5
def svd (nw : Int → Int) (k : Int) : Int := if k < 6 then nw k else nw (k - 6)
def swp (nw : Int → Int) (k : Int) : Int := if k < 6 then nw (k + 6) else nw (k - 6)
theorem NW_svd {nw : Int → Int} (h : NW nw) : NW (svd nw) := by
  intro k h0 h1
  unfold svd
  split
  · exact h k h0 h1
  · exact h (k - 6) (by omega) (by omega)
theorem NW_swp {nw : Int → Int} (h : NW nw) : NW (swp nw) := by
  intro k h0 h1
  unfold swp
  split
  · exact h (k + 6) (by omega) (by omega)
  · exact h (k - 6) (by omega) (by omega)
theorem swx {nw g : Int → Int} {i : Int} (h1 : 0 ≤ i ∧ i < 6) (h2 : ∀ k, 0 ≤ k → k < i → g k = nw (k + 6) ∧ g (6 + k) = nw k) (h3 : ∀ k, ((i ≤ k ∧ k < 6) ∨ 6 + i ≤ k) → g k = nw k) : ∀ k, 0 ≤ k → k < i + 1 → up (up g i (g (6 + i))) (6 + i) (g i) k = nw (k + 6) ∧ up (up g i (g (6 + i))) (6 + i) (g i) (6 + k) = nw k := by
  intro k q1 q2
  by_cases e : k = i
  · subst e
    rw [up_n (by omega), up_s, up_s, h3 k (by omega), h3 (6 + k) (by omega), Int.add_comm 6 k]
    exact ⟨rfl, rfl⟩
  · rw [up_n (by omega), up_n (by omega), up_n (by omega), up_n (by omega)]
    exact h2 k q1 (by omega)
def vm (len lst : Int → Int) (a p q : Int) : Int := vt (rm9 len lst a p) (rm9 len lst a q)
theorem pw3_s {i : Int} (h : 0 ≤ i) : pw3 (i + 1) = pw3 i * 3 := by
  unfold pw3
  rw [show (i + 1).toNat = i.toNat + 1 by omega, Int.pow_succ]
theorem pw3_pos (i : Int) : 0 < pw3 i := by
  unfold pw3
  exact Int.pow_pos (by decide)
def dg (x p : Int) : Int := x / pw3 p % 3
def mos (len lst nw : Int → Int) (a : Int) : Int := vm len lst a (nw a) (nw (6 + a))
set_option maxHeartbeats 4000000 in
set_option maxRecDepth 100000 in
theorem k_X6_in (D : DD) (v lo hi : Int) (hv : -2147483648 ≤ v ∧ v < 2147483648) (hlo : -2147483648 ≤ lo ∧ lo < 2147483648) (hhi : -2147483648 ≤ hi ∧ hi < 2147483648) : Con (S := Int) D yX6_in wsX6_in ({ frames := 0, cells := 0, slots := 0, locals := 0 }) 0 0 [vi v, vi lo, vi hi] [] (fun u => some (vi u)) (fun u => ((u = 1 ∧ (lo ≤ v ∧ v ≤ hi)) ∨ (u = 0 ∧ ¬ (lo ≤ v ∧ v ≤ hi)))) (fun u => []) := by
  refine Con.of (cc := cX6_in) (nL := 3) (ret := (some .boolean)) rfl (by decide +kernel) (Nat.le_of_ble_eq_true rfl) ?_
  intro X A Q O hQ hin
  show G X D A 3 Q 0 0 0 [(0, vi v), (1, vi lo), (2, vi hi)] [] []
  refine g_iload_n O dX6_in_0 1 0 rfl rfl ?_
  refine g_iload_n O dX6_in_1 2 1 rfl rfl ?_
  refine g_icmp_lt O dX6_in_2 5 14 rfl rfl (by omega) (fun h2 => ?_) (fun h2 => ?_)
  · skip
    refine g_iconst O dX6_in_14 15 rfl ?_
    exact g_zret O hQ dX6_in_15 (by decide +kernel) 0 rfl rfl (Or.inr ⟨rfl, by first | assumption | omega⟩) ⟨by decide, by decide⟩
  · skip
    refine g_iload_n O dX6_in_5 6 0 rfl rfl ?_
    refine g_iload_n O dX6_in_6 7 2 rfl rfl ?_
    refine g_icmp_gt O dX6_in_7 10 14 rfl rfl (by omega) (fun h7 => ?_) (fun h7 => ?_)
    · skip
      refine g_iconst O dX6_in_14 15 rfl ?_
      exact g_zret O hQ dX6_in_15 (by decide +kernel) 0 rfl rfl (Or.inr ⟨rfl, by first | assumption | omega⟩) ⟨by decide, by decide⟩
    · skip
      refine g_iconst O dX6_in_10 11 rfl ?_
      refine g_goto O dX6_in_11 15 rfl ?_
      exact g_zret O hQ dX6_in_15 (by decide +kernel) 1 rfl rfl (Or.inl ⟨rfl, by first | assumption | omega⟩) ⟨by decide, by decide⟩
theorem sX6_isApplicant_6 : ∀ w ∈ wsX60, w ∈ wsX6_isApplicant := by decide +kernel
theorem fX6_isApplicant_7 : FK RX6 wsX6_isApplicant 7 6 0 := ⟨RX6, TX6, 10, rfl, sX6_isApplicant_6, by decide, List.mem_of_getElem? (i := 1) rfl⟩
set_option maxHeartbeats 4000000 in
set_option maxRecDepth 100000 in
theorem k_X6_isApplicant (D : DD) (o c l t n h b f : Nat) (N P : Int) (cap len lst nw hi : Int → Int) (e : Int) (be fo : Int → Int) (a : Int) (hW : WI N P cap len lst) (ha : -2147483648 ≤ a ∧ a < 2147483648) : Con (S := Int) D yX6_isApplicant wsX6_isApplicant ({ frames := 1, cells := 0, slots := 0, locals := 22 }) 0 0 [.ref o, vi a] [(o, co 6 [vi N, vi P, .ref c, .ref l, .ref t, .ref n, .ref h, vi e, .ref b, .ref f]), (c, ca D 5 cap), (l, ca D 6 len), (t, ca D 30 lst), (n, ca D 12 nw), (h, ca D 60 hi), (b, ca D 1701 be), (f, ca D 6 fo)] (fun u => some (vi u)) (fun u => ((u = 1 ∧ (0 ≤ a ∧ a < N)) ∨ (u = 0 ∧ ¬ (0 ≤ a ∧ a < N)))) (fun u => [(o, co 6 [vi N, vi P, .ref c, .ref l, .ref t, .ref n, .ref h, vi e, .ref b, .ref f]), (c, ca D 5 cap), (l, ca D 6 len), (t, ca D 30 lst), (n, ca D 12 nw), (h, ca D 60 hi), (b, ca D 1701 be), (f, ca D 6 fo)]) := by
  refine Con.of (cc := cX6_isApplicant) (nL := 2) (ret := (some .boolean)) rfl (by decide +kernel) (Nat.le_of_ble_eq_true rfl) ?_
  intro X A Q O hQ hin
  show G X D A 2 Q 0 0 0 [(0, .ref o), (1, vi a)] [] [(o, co 6 [vi N, vi P, .ref c, .ref l, .ref t, .ref n, .ref h, vi e, .ref b, .ref f]), (c, ca D 5 cap), (l, ca D 6 len), (t, ca D 30 lst), (n, ca D 12 nw), (h, ca D 60 hi), (b, ca D 1701 be), (f, ca D 6 fo)]
  obtain ⟨hN, hcap, hlen, hlst, hdis⟩ := id hW
  refine g_iload_n O dX6_isApplicant_0 1 1 rfl rfl ?_
  refine g_iconst O dX6_isApplicant_1 2 rfl ?_
  refine g_aload_n O dX6_isApplicant_2 3 0 rfl rfl ?_
  refine g_get O dX6_isApplicant_3 6 rfl fX6_isApplicant_7 0 rfl rfl ?_
  refine g_iconst O dX6_isApplicant_6 7 rfl ?_
  refine g_isub O dX6_isApplicant_7 8 rfl ?_
  refine g_callS (As := [vi a, vi 0, vi (N - 1)]) (rest := []) (na := 3) O (k_X6_in D a 0 (N - 1) (by omega) (by omega) (by omega)) dX6_isApplicant_8 gX6_isApplicant_X6_in rfl ⟨rfl, rfl⟩ (by decide +kernel) rfl (by decide) (by decide) rfl (Nat.le_of_ble_eq_true rfl) [] (by decide) rfl (fun _ => rfl) (fun u => [(o, co 6 [vi N, vi P, .ref c, .ref l, .ref t, .ref n, .ref h, vi e, .ref b, .ref f]), (c, ca D 5 cap), (l, ca D 6 len), (t, ca D 30 lst), (n, ca D 12 nw), (h, ca D 60 hi), (b, ca D 1701 be), (f, ca D 6 fo)]) (fun _ => rfl) 11 rfl (fun u8 hu8 => ?_)
  obtain ⟨bz8, rfl⟩ : ∃ z, z = u8 := ⟨_, rfl⟩
  rcases hu8 with ⟨rfl, hb8⟩ | ⟨rfl, hb8⟩
  · skip
    have hb8 : 0 ≤ a ∧ a ≤ (N - 1) := hb8
    show G X D A 2 Q 0 0 11 [(0, .ref o), (1, vi a)] [vi 1] [(o, co 6 [vi N, vi P, .ref c, .ref l, .ref t, .ref n, .ref h, vi e, .ref b, .ref f]), (c, ca D 5 cap), (l, ca D 6 len), (t, ca D 30 lst), (n, ca D 12 nw), (h, ca D 60 hi), (b, ca D 1701 be), (f, ca D 6 fo)]
    exact g_zret O hQ dX6_isApplicant_11 (by decide +kernel) 1 rfl rfl (Or.inl ⟨rfl, by first | assumption | omega⟩) ⟨by decide, by decide⟩
  · skip
    have hb8 : ¬ (0 ≤ a ∧ a ≤ (N - 1)) := hb8
    show G X D A 2 Q 0 0 11 [(0, .ref o), (1, vi a)] [vi 0] [(o, co 6 [vi N, vi P, .ref c, .ref l, .ref t, .ref n, .ref h, vi e, .ref b, .ref f]), (c, ca D 5 cap), (l, ca D 6 len), (t, ca D 30 lst), (n, ca D 12 nw), (h, ca D 60 hi), (b, ca D 1701 be), (f, ca D 6 fo)]
    exact g_zret O hQ dX6_isApplicant_11 (by decide +kernel) 0 rfl rfl (Or.inr ⟨rfl, by first | assumption | omega⟩) ⟨by decide, by decide⟩
theorem sX6_isPost_6 : ∀ w ∈ wsX60, w ∈ wsX6_isPost := by decide +kernel
theorem fX6_isPost_13 : FK RX6 wsX6_isPost 13 6 1 := ⟨RX6, TX6, 10, rfl, sX6_isPost_6, by decide, List.mem_of_getElem? (i := 1) rfl⟩
set_option maxHeartbeats 4000000 in
set_option maxRecDepth 100000 in
theorem k_X6_isPost (D : DD) (o c l t n h b f : Nat) (N P : Int) (cap len lst nw hi : Int → Int) (e : Int) (be fo : Int → Int) (a : Int) (hW : WI N P cap len lst) (ha : -2147483648 ≤ a ∧ a < 2147483648) : Con (S := Int) D yX6_isPost wsX6_isPost ({ frames := 1, cells := 0, slots := 0, locals := 22 }) 0 0 [.ref o, vi a] [(o, co 6 [vi N, vi P, .ref c, .ref l, .ref t, .ref n, .ref h, vi e, .ref b, .ref f]), (c, ca D 5 cap), (l, ca D 6 len), (t, ca D 30 lst), (n, ca D 12 nw), (h, ca D 60 hi), (b, ca D 1701 be), (f, ca D 6 fo)] (fun u => some (vi u)) (fun u => ((u = 1 ∧ (0 ≤ a ∧ a < P)) ∨ (u = 0 ∧ ¬ (0 ≤ a ∧ a < P)))) (fun u => [(o, co 6 [vi N, vi P, .ref c, .ref l, .ref t, .ref n, .ref h, vi e, .ref b, .ref f]), (c, ca D 5 cap), (l, ca D 6 len), (t, ca D 30 lst), (n, ca D 12 nw), (h, ca D 60 hi), (b, ca D 1701 be), (f, ca D 6 fo)]) := by
  refine Con.of (cc := cX6_isPost) (nL := 2) (ret := (some .boolean)) rfl (by decide +kernel) (Nat.le_of_ble_eq_true rfl) ?_
  intro X A Q O hQ hin
  show G X D A 2 Q 0 0 0 [(0, .ref o), (1, vi a)] [] [(o, co 6 [vi N, vi P, .ref c, .ref l, .ref t, .ref n, .ref h, vi e, .ref b, .ref f]), (c, ca D 5 cap), (l, ca D 6 len), (t, ca D 30 lst), (n, ca D 12 nw), (h, ca D 60 hi), (b, ca D 1701 be), (f, ca D 6 fo)]
  obtain ⟨hN, hcap, hlen, hlst, hdis⟩ := id hW
  refine g_iload_n O dX6_isPost_0 1 1 rfl rfl ?_
  refine g_iconst O dX6_isPost_1 2 rfl ?_
  refine g_aload_n O dX6_isPost_2 3 0 rfl rfl ?_
  refine g_get O dX6_isPost_3 6 rfl fX6_isPost_13 0 rfl rfl ?_
  refine g_iconst O dX6_isPost_6 7 rfl ?_
  refine g_isub O dX6_isPost_7 8 rfl ?_
  refine g_callS (As := [vi a, vi 0, vi (P - 1)]) (rest := []) (na := 3) O (k_X6_in D a 0 (P - 1) (by omega) (by omega) (by omega)) dX6_isPost_8 gX6_isPost_X6_in rfl ⟨rfl, rfl⟩ (by decide +kernel) rfl (by decide) (by decide) rfl (Nat.le_of_ble_eq_true rfl) [] (by decide) rfl (fun _ => rfl) (fun u => [(o, co 6 [vi N, vi P, .ref c, .ref l, .ref t, .ref n, .ref h, vi e, .ref b, .ref f]), (c, ca D 5 cap), (l, ca D 6 len), (t, ca D 30 lst), (n, ca D 12 nw), (h, ca D 60 hi), (b, ca D 1701 be), (f, ca D 6 fo)]) (fun _ => rfl) 11 rfl (fun u8 hu8 => ?_)
  obtain ⟨bz8, rfl⟩ : ∃ z, z = u8 := ⟨_, rfl⟩
  rcases hu8 with ⟨rfl, hb8⟩ | ⟨rfl, hb8⟩
  · skip
    have hb8 : 0 ≤ a ∧ a ≤ (P - 1) := hb8
    show G X D A 2 Q 0 0 11 [(0, .ref o), (1, vi a)] [vi 1] [(o, co 6 [vi N, vi P, .ref c, .ref l, .ref t, .ref n, .ref h, vi e, .ref b, .ref f]), (c, ca D 5 cap), (l, ca D 6 len), (t, ca D 30 lst), (n, ca D 12 nw), (h, ca D 60 hi), (b, ca D 1701 be), (f, ca D 6 fo)]
    exact g_zret O hQ dX6_isPost_11 (by decide +kernel) 1 rfl rfl (Or.inl ⟨rfl, by first | assumption | omega⟩) ⟨by decide, by decide⟩
  · skip
    have hb8 : ¬ (0 ≤ a ∧ a ≤ (P - 1)) := hb8
    show G X D A 2 Q 0 0 11 [(0, .ref o), (1, vi a)] [vi 0] [(o, co 6 [vi N, vi P, .ref c, .ref l, .ref t, .ref n, .ref h, vi e, .ref b, .ref f]), (c, ca D 5 cap), (l, ca D 6 len), (t, ca D 30 lst), (n, ca D 12 nw), (h, ca D 60 hi), (b, ca D 1701 be), (f, ca D 6 fo)]
    exact g_zret O hQ dX6_isPost_11 (by decide +kernel) 0 rfl rfl (Or.inr ⟨rfl, by first | assumption | omega⟩) ⟨by decide, by decide⟩
theorem sX6_clears_6 : ∀ w ∈ wsX60, w ∈ wsX6_clears := by decide +kernel
theorem fX6_clears_26 : FK RX6 wsX6_clears 26 6 5 := ⟨RX6, TX6, 10, rfl, sX6_clears_6, by decide, List.mem_of_getElem? (i := 1) rfl⟩
theorem fX6_clears_45 : FK RX6 wsX6_clears 45 6 7 := ⟨RX6, TX6, 10, rfl, sX6_clears_6, by decide, List.mem_of_getElem? (i := 2) rfl⟩
set_option maxHeartbeats 4000000 in
set_option maxRecDepth 100000 in
theorem k_X6_clears (D : DD) (o c l t n h b f : Nat) (N P : Int) (cap len lst nw hi : Int → Int) (e : Int) (be fo : Int → Int) : Con (S := Unit) D yX6_clears wsX6_clears ({ frames := 0, cells := 0, slots := 0, locals := 0 }) 0 0 [.ref o] [(o, co 6 [vi N, vi P, .ref c, .ref l, .ref t, .ref n, .ref h, vi e, .ref b, .ref f]), (c, ca D 5 cap), (l, ca D 6 len), (t, ca D 30 lst), (n, ca D 12 nw), (h, ca D 60 hi), (b, ca D 1701 be), (f, ca D 6 fo)] (fun u => none) (fun u => True) (fun u => [(o, co 6 [vi N, vi P, .ref c, .ref l, .ref t, .ref n, .ref h, vi 0, .ref b, .ref f]), (c, ca D 5 cap), (l, ca D 6 len), (t, ca D 30 lst), (n, ca D 12 (fun _ => -1)), (h, ca D 60 hi), (b, ca D 1701 be), (f, ca D 6 fo)]) := by
  refine Con.of (cc := cX6_clears) (nL := 2) (ret := none) rfl (by decide +kernel) (Nat.le_of_ble_eq_true rfl) ?_
  intro X A Q O hQ hin
  show G X D A 2 Q 0 0 0 [(0, .ref o)] [] [(o, co 6 [vi N, vi P, .ref c, .ref l, .ref t, .ref n, .ref h, vi e, .ref b, .ref f]), (c, ca D 5 cap), (l, ca D 6 len), (t, ca D 30 lst), (n, ca D 12 nw), (h, ca D 60 hi), (b, ca D 1701 be), (f, ca D 6 fo)]
  refine g_iconst O dX6_clears_0 1 rfl ?_
  refine g_istore_n O dX6_clears_1 2 [(0, .ref o), (1, vi 0)] rfl (by decide) rfl ?_
  have lp2 : ∀ (nn : Nat) (i : Int) (g : Int → Int), (0 ≤ i ∧ i ≤ 12) → (∀ kk, 0 ≤ kk → kk < i → g kk = -1) → (12 - i < (nn : Int)) → G X D A 2 Q 0 0 2 [(0, .ref o), (1, vi i)] [] [(o, co 6 [vi N, vi P, .ref c, .ref l, .ref t, .ref n, .ref h, vi e, .ref b, .ref f]), (c, ca D 5 cap), (l, ca D 6 len), (t, ca D 30 lst), (n, ca D 12 g), (h, ca D 60 hi), (b, ca D 1701 be), (f, ca D 6 fo)] := by
    intro nn
    induction nn with
    | zero =>
      intro i g h1 h2 hm2
      exact absurd hm2 (by omega)
    | succ nn ih2 =>
      intro i g h1 h2 hm2
      refine g_iload_n O dX6_clears_2 3 1 rfl rfl ?_
      refine g_bipush O dX6_clears_3 5 rfl (by decide) ?_
      refine g_icmp_ge O dX6_clears_5 8 21 rfl rfl (by omega) (fun h5 => ?_) (fun h5 => ?_)
      · skip
        refine g_arr 4 (fun _ => -1) rfl (fun kk q1 q2 => h2 kk q1 (by omega)) [(o, co 6 [vi N, vi P, .ref c, .ref l, .ref t, .ref n, .ref h, vi e, .ref b, .ref f]), (c, ca D 5 cap), (l, ca D 6 len), (t, ca D 30 lst), (n, ca D 12 (fun _ => -1)), (h, ca D 60 hi), (b, ca D 1701 be), (f, ca D 6 fo)] rfl ?_
        refine g_aload_n O dX6_clears_21 22 0 rfl rfl ?_
        refine g_iconst O dX6_clears_22 23 rfl ?_
        refine g_put O dX6_clears_23 26 rfl fX6_clears_45 pF6_7 0 rfl rfl rfl (Nat.le_of_ble_eq_true rfl) [(o, co 6 [vi N, vi P, .ref c, .ref l, .ref t, .ref n, .ref h, vi 0, .ref b, .ref f]), (c, ca D 5 cap), (l, ca D 6 len), (t, ca D 30 lst), (n, ca D 12 (fun _ => -1)), (h, ca D 60 hi), (b, ca D 1701 be), (f, ca D 6 fo)] rfl ?_
        exact g_vret O hQ dX6_clears_26 () rfl rfl trivial ⟨by decide, by decide⟩
      · skip
        refine g_aload_n O dX6_clears_8 9 0 rfl rfl ?_
        refine g_get O dX6_clears_9 12 rfl fX6_clears_26 0 rfl rfl ?_
        refine g_iload_n O dX6_clears_12 13 1 rfl rfl ?_
        refine g_iconst O dX6_clears_13 14 rfl ?_
        refine g_iast O dX6_clears_14 15 rfl 4 rfl (by decide) (by omega) [(o, co 6 [vi N, vi P, .ref c, .ref l, .ref t, .ref n, .ref h, vi e, .ref b, .ref f]), (c, ca D 5 cap), (l, ca D 6 len), (t, ca D 30 lst), (n, ca D 12 (up g i (-1))), (h, ca D 60 hi), (b, ca D 1701 be), (f, ca D 6 fo)] rfl ?_
        refine g_iinc O dX6_clears_15 18 1 [(0, .ref o), (1, vi (i + 1))] rfl (by decide) rfl rfl ?_
        refine g_goto O dX6_clears_18 2 rfl ?_
        exact ih2 (i + 1) (up g i (-1)) (by omega) (up_inv h2) (by omega)
  exact lp2 1000 0 nw (by omega) (fun kk q1 q2 => absurd q2 (by omega)) (by omega)
theorem sX6_builds_6 : ∀ w ∈ wsX60, w ∈ wsX6_builds := by decide +kernel
theorem fX6_builds_13 : FK RX6 wsX6_builds 13 6 1 := ⟨RX6, TX6, 10, rfl, sX6_builds_6, by decide, List.mem_of_getElem? (i := 2) rfl⟩
theorem fX6_builds_16 : FK RX6 wsX6_builds 16 6 2 := ⟨RX6, TX6, 10, rfl, sX6_builds_6, by decide, List.mem_of_getElem? (i := 3) rfl⟩
theorem fX6_builds_20 : FK RX6 wsX6_builds 20 6 3 := ⟨RX6, TX6, 10, rfl, sX6_builds_6, by decide, List.mem_of_getElem? (i := 4) rfl⟩
theorem fX6_builds_7 : FK RX6 wsX6_builds 7 6 0 := ⟨RX6, TX6, 10, rfl, sX6_builds_6, by decide, List.mem_of_getElem? (i := 1) rfl⟩
set_option maxHeartbeats 4000000 in
set_option maxRecDepth 100000 in
theorem k_X6_builds (D : DD) (o c l t n h b f : Nat) (N P : Int) (cap len lst nw hi : Int → Int) (e : Int) (be fo : Int → Int) (m p : Int) : Con (S := Unit) D yX6_builds wsX6_builds ({ frames := 1, cells := 0, slots := 0, locals := 21 }) 0 0 [.ref o, vi m, vi p] [(o, co 6 [vi N, vi P, .ref c, .ref l, .ref t, .ref n, .ref h, vi e, .ref b, .ref f]), (c, ca D 5 cap), (l, ca D 6 len), (t, ca D 30 lst), (n, ca D 12 nw), (h, ca D 60 hi), (b, ca D 1701 be), (f, ca D 6 fo)] (fun u => none) (fun u => True) (fun u => [(o, co 6 [vi m, vi p, .ref c, .ref l, .ref t, .ref n, .ref h, vi 0, .ref b, .ref f]), (c, ca D 5 (fun _ => 1)), (l, ca D 6 (fun _ => 0)), (t, ca D 30 lst), (n, ca D 12 (fun _ => -1)), (h, ca D 60 hi), (b, ca D 1701 be), (f, ca D 6 fo)]) := by
  refine Con.of (cc := cX6_builds) (nL := 4) (ret := none) rfl (by decide +kernel) (Nat.le_of_ble_eq_true rfl) ?_
  intro X A Q O hQ hin
  show G X D A 4 Q 0 0 0 [(0, .ref o), (1, vi m), (2, vi p)] [] [(o, co 6 [vi N, vi P, .ref c, .ref l, .ref t, .ref n, .ref h, vi e, .ref b, .ref f]), (c, ca D 5 cap), (l, ca D 6 len), (t, ca D 30 lst), (n, ca D 12 nw), (h, ca D 60 hi), (b, ca D 1701 be), (f, ca D 6 fo)]
  refine g_aload_n O dX6_builds_0 1 0 rfl rfl ?_
  refine g_iload_n O dX6_builds_1 2 1 rfl rfl ?_
  refine g_put O dX6_builds_2 5 rfl fX6_builds_7 pF6_0 0 rfl rfl rfl (Nat.le_of_ble_eq_true rfl) [(o, co 6 [vi m, vi P, .ref c, .ref l, .ref t, .ref n, .ref h, vi e, .ref b, .ref f]), (c, ca D 5 cap), (l, ca D 6 len), (t, ca D 30 lst), (n, ca D 12 nw), (h, ca D 60 hi), (b, ca D 1701 be), (f, ca D 6 fo)] rfl ?_
  refine g_aload_n O dX6_builds_5 6 0 rfl rfl ?_
  refine g_iload_n O dX6_builds_6 7 2 rfl rfl ?_
  refine g_put O dX6_builds_7 10 rfl fX6_builds_13 pF6_1 0 rfl rfl rfl (Nat.le_of_ble_eq_true rfl) [(o, co 6 [vi m, vi p, .ref c, .ref l, .ref t, .ref n, .ref h, vi e, .ref b, .ref f]), (c, ca D 5 cap), (l, ca D 6 len), (t, ca D 30 lst), (n, ca D 12 nw), (h, ca D 60 hi), (b, ca D 1701 be), (f, ca D 6 fo)] rfl ?_
  refine g_iconst O dX6_builds_10 11 rfl ?_
  refine g_istore_n O dX6_builds_11 12 [(0, .ref o), (1, vi m), (2, vi p), (3, vi 0)] rfl (by decide) rfl ?_
  have lp12 : ∀ (nn : Nat) (i : Int) (g : Int → Int), (0 ≤ i ∧ i ≤ 5) → (∀ kk, 0 ≤ kk → kk < i → g kk = 1) → (5 - i < (nn : Int)) → G X D A 4 Q 0 0 12 [(0, .ref o), (1, vi m), (2, vi p), (3, vi i)] [] [(o, co 6 [vi m, vi p, .ref c, .ref l, .ref t, .ref n, .ref h, vi e, .ref b, .ref f]), (c, ca D 5 g), (l, ca D 6 len), (t, ca D 30 lst), (n, ca D 12 nw), (h, ca D 60 hi), (b, ca D 1701 be), (f, ca D 6 fo)] := by
    intro nn
    induction nn with
    | zero =>
      intro i g h1 h2 hm12
      exact absurd hm12 (by omega)
    | succ nn ih12 =>
      intro i g h1 h2 hm12
      refine g_iload_n O dX6_builds_12 13 3 rfl rfl ?_
      refine g_iconst O dX6_builds_13 14 rfl ?_
      refine g_icmp_ge O dX6_builds_14 17 30 rfl rfl (by omega) (fun h14 => ?_) (fun h14 => ?_)
      · skip
        refine g_arr 1 (fun _ => 1) rfl (fun kk q1 q2 => h2 kk q1 (by omega)) [(o, co 6 [vi m, vi p, .ref c, .ref l, .ref t, .ref n, .ref h, vi e, .ref b, .ref f]), (c, ca D 5 (fun _ => 1)), (l, ca D 6 len), (t, ca D 30 lst), (n, ca D 12 nw), (h, ca D 60 hi), (b, ca D 1701 be), (f, ca D 6 fo)] rfl ?_
        refine g_iconst O dX6_builds_30 31 rfl ?_
        refine g_istore_n O dX6_builds_31 32 [(0, .ref o), (1, vi m), (2, vi p), (3, vi 0)] rfl (by decide) rfl ?_
        have lp32 : ∀ (nn : Nat) (i : Int) (k : Int → Int), (0 ≤ i ∧ i ≤ 6) → (∀ kk, 0 ≤ kk → kk < i → k kk = 0) → (6 - i < (nn : Int)) → G X D A 4 Q 0 0 32 [(0, .ref o), (1, vi m), (2, vi p), (3, vi i)] [] [(o, co 6 [vi m, vi p, .ref c, .ref l, .ref t, .ref n, .ref h, vi e, .ref b, .ref f]), (c, ca D 5 (fun _ => 1)), (l, ca D 6 k), (t, ca D 30 lst), (n, ca D 12 nw), (h, ca D 60 hi), (b, ca D 1701 be), (f, ca D 6 fo)] := by
          intro nn
          induction nn with
          | zero =>
            intro i k h1 h2 hm32
            exact absurd hm32 (by omega)
          | succ nn ih32 =>
            intro i k h1 h2 hm32
            refine g_iload_n O dX6_builds_32 33 3 rfl rfl ?_
            refine g_bipush O dX6_builds_33 35 rfl (by decide) ?_
            refine g_icmp_ge O dX6_builds_35 38 51 rfl rfl (by omega) (fun h35 => ?_) (fun h35 => ?_)
            · skip
              refine g_arr 2 (fun _ => 0) rfl (fun kk q1 q2 => h2 kk q1 (by omega)) [(o, co 6 [vi m, vi p, .ref c, .ref l, .ref t, .ref n, .ref h, vi e, .ref b, .ref f]), (c, ca D 5 (fun _ => 1)), (l, ca D 6 (fun _ => 0)), (t, ca D 30 lst), (n, ca D 12 nw), (h, ca D 60 hi), (b, ca D 1701 be), (f, ca D 6 fo)] rfl ?_
              refine g_aload_n O dX6_builds_51 52 0 rfl rfl ?_
              refine g_callV (As := []) (rest := []) (na := 0) O (k_X6_clears D o c l t n h b f m p (fun _ => 1) (fun _ => 0) lst nw hi e be fo) dX6_builds_52 gX6_builds_X6_clears rfl ⟨rfl, rfl⟩ (by decide +kernel) rfl (by decide) (by decide) rfl (Nat.le_of_ble_eq_true rfl) (q0 := 0) (ci := 6) rfl rfl [0, 1, 2, 3, 4, 5, 6, 7] (by decide) rfl (fun _ => rfl) (fun _ => [(o, co 6 [vi m, vi p, .ref c, .ref l, .ref t, .ref n, .ref h, vi 0, .ref b, .ref f]), (c, ca D 5 (fun _ => 1)), (l, ca D 6 (fun _ => 0)), (t, ca D 30 lst), (n, ca D 12 (fun _ => -1)), (h, ca D 60 hi), (b, ca D 1701 be), (f, ca D 6 fo)]) (fun _ => rfl) 55 rfl (fun _ _ => ?_)
              show G X D A 4 Q 0 0 55 [(0, .ref o), (1, vi m), (2, vi p), (3, vi i)] [] [(o, co 6 [vi m, vi p, .ref c, .ref l, .ref t, .ref n, .ref h, vi 0, .ref b, .ref f]), (c, ca D 5 (fun _ => 1)), (l, ca D 6 (fun _ => 0)), (t, ca D 30 lst), (n, ca D 12 (fun _ => -1)), (h, ca D 60 hi), (b, ca D 1701 be), (f, ca D 6 fo)]
              exact g_vret O hQ dX6_builds_55 () rfl rfl trivial ⟨by decide, by decide⟩
            · skip
              refine g_aload_n O dX6_builds_38 39 0 rfl rfl ?_
              refine g_get O dX6_builds_39 42 rfl fX6_builds_20 0 rfl rfl ?_
              refine g_iload_n O dX6_builds_42 43 3 rfl rfl ?_
              refine g_iconst O dX6_builds_43 44 rfl ?_
              refine g_iast O dX6_builds_44 45 rfl 2 rfl (by decide) (by omega) [(o, co 6 [vi m, vi p, .ref c, .ref l, .ref t, .ref n, .ref h, vi e, .ref b, .ref f]), (c, ca D 5 (fun _ => 1)), (l, ca D 6 (up k i 0)), (t, ca D 30 lst), (n, ca D 12 nw), (h, ca D 60 hi), (b, ca D 1701 be), (f, ca D 6 fo)] rfl ?_
              refine g_iinc O dX6_builds_45 48 3 [(0, .ref o), (1, vi m), (2, vi p), (3, vi (i + 1))] rfl (by decide) rfl rfl ?_
              refine g_goto O dX6_builds_48 32 rfl ?_
              exact ih32 (i + 1) (up k i 0) (by omega) (up_inv h2) (by omega)
        exact lp32 1000 0 len (by omega) (fun kk q1 q2 => absurd q2 (by omega)) (by omega)
      · skip
        refine g_aload_n O dX6_builds_17 18 0 rfl rfl ?_
        refine g_get O dX6_builds_18 21 rfl fX6_builds_16 0 rfl rfl ?_
        refine g_iload_n O dX6_builds_21 22 3 rfl rfl ?_
        refine g_iconst O dX6_builds_22 23 rfl ?_
        refine g_iast O dX6_builds_23 24 rfl 1 rfl (by decide) (by omega) [(o, co 6 [vi m, vi p, .ref c, .ref l, .ref t, .ref n, .ref h, vi e, .ref b, .ref f]), (c, ca D 5 (up g i 1)), (l, ca D 6 len), (t, ca D 30 lst), (n, ca D 12 nw), (h, ca D 60 hi), (b, ca D 1701 be), (f, ca D 6 fo)] rfl ?_
        refine g_iinc O dX6_builds_24 27 3 [(0, .ref o), (1, vi m), (2, vi p), (3, vi (i + 1))] rfl (by decide) rfl rfl ?_
        refine g_goto O dX6_builds_27 12 rfl ?_
        exact ih12 (i + 1) (up g i 1) (by omega) (up_inv h2) (by omega)
  exact lp12 1000 0 cap (by omega) (fun kk q1 q2 => absurd q2 (by omega)) (by omega)
theorem sX6_rank_6 : ∀ w ∈ wsX60, w ∈ wsX6_rank := by decide +kernel
theorem fX6_rank_20 : FK RX6 wsX6_rank 20 6 3 := ⟨RX6, TX6, 10, rfl, sX6_rank_6, by decide, List.mem_of_getElem? (i := 1) rfl⟩
theorem fX6_rank_23 : FK RX6 wsX6_rank 23 6 4 := ⟨RX6, TX6, 10, rfl, sX6_rank_6, by decide, List.mem_of_getElem? (i := 2) rfl⟩
set_option maxHeartbeats 4000000 in
set_option maxRecDepth 100000 in
theorem k_X6_rank (D : DD) (o c l t n h b f : Nat) (N P : Int) (cap len lst nw hi : Int → Int) (e : Int) (be fo : Int → Int) (a p : Int) (hW : WI N P cap len lst) (ha : 0 ≤ a ∧ a < 6) (hp : -2147483648 ≤ p ∧ p < 2147483648) : Con (S := Unit) D yX6_rank wsX6_rank ({ frames := 0, cells := 0, slots := 0, locals := 0 }) 0 0 [.ref o, vi a, vi p] [(o, co 6 [vi N, vi P, .ref c, .ref l, .ref t, .ref n, .ref h, vi e, .ref b, .ref f]), (c, ca D 5 cap), (l, ca D 6 len), (t, ca D 30 lst), (n, ca D 12 nw), (h, ca D 60 hi), (b, ca D 1701 be), (f, ca D 6 fo)] (fun u => some (vi (rm9 len lst a p))) (fun u => True) (fun u => [(o, co 6 [vi N, vi P, .ref c, .ref l, .ref t, .ref n, .ref h, vi e, .ref b, .ref f]), (c, ca D 5 cap), (l, ca D 6 len), (t, ca D 30 lst), (n, ca D 12 nw), (h, ca D 60 hi), (b, ca D 1701 be), (f, ca D 6 fo)]) := by
  refine Con.of (cc := cX6_rank) (nL := 4) (ret := (some .int)) rfl (by decide +kernel) (Nat.le_of_ble_eq_true rfl) ?_
  intro X A Q O hQ hin
  show G X D A 4 Q 0 0 0 [(0, .ref o), (1, vi a), (2, vi p)] [] [(o, co 6 [vi N, vi P, .ref c, .ref l, .ref t, .ref n, .ref h, vi e, .ref b, .ref f]), (c, ca D 5 cap), (l, ca D 6 len), (t, ca D 30 lst), (n, ca D 12 nw), (h, ca D 60 hi), (b, ca D 1701 be), (f, ca D 6 fo)]
  obtain ⟨hN, hcap, hlen, hlst, hdis⟩ := id hW
  have hla := hlen a (by omega) (by omega)
  refine g_iconst O dX6_rank_0 1 rfl ?_
  refine g_istore_n O dX6_rank_1 2 [(0, .ref o), (1, vi a), (2, vi p), (3, vi 0)] rfl (by decide) rfl ?_
  have lp2 : ∀ (nn : Nat) (i : Int), (0 ≤ i ∧ i ≤ len a) → (∀ kk, 0 ≤ kk → kk < i → row lst a kk ≠ p) → (len a - i < (nn : Int)) → G X D A 4 Q 0 0 2 [(0, .ref o), (1, vi a), (2, vi p), (3, vi i)] [] [(o, co 6 [vi N, vi P, .ref c, .ref l, .ref t, .ref n, .ref h, vi e, .ref b, .ref f]), (c, ca D 5 cap), (l, ca D 6 len), (t, ca D 30 lst), (n, ca D 12 nw), (h, ca D 60 hi), (b, ca D 1701 be), (f, ca D 6 fo)] := by
    intro nn
    induction nn with
    | zero =>
      intro i h1 h2 hm2
      exact absurd hm2 (by omega)
    | succ nn ih2 =>
      intro i h1 h2 hm2
      refine g_iload_n O dX6_rank_2 3 3 rfl rfl ?_
      refine g_aload_n O dX6_rank_3 4 0 rfl rfl ?_
      refine g_get O dX6_rank_4 7 rfl fX6_rank_20 0 rfl rfl ?_
      refine g_iload_n O dX6_rank_7 8 1 rfl rfl ?_
      refine g_iald O dX6_rank_8 9 rfl 2 rfl (by decide) (by omega) ?_
      refine g_icmp_ge O dX6_rank_9 12 34 rfl rfl (by omega) (fun h9 => ?_) (fun h9 => ?_)
      · skip
        refine g_bipush O dX6_rank_34 36 rfl (by decide) ?_
        exact g_iret O hQ dX6_rank_36 () (vi_eq (rm9_no (fun kk q1 q2 => h2 kk q1 (by omega)))) rfl trivial ⟨by decide, by decide⟩
      · skip
        have hli := hlst a i (by omega) (by omega) (by omega) (by omega)
        refine g_aload_n O dX6_rank_12 13 0 rfl rfl ?_
        refine g_get O dX6_rank_13 16 rfl fX6_rank_23 0 rfl rfl ?_
        refine g_iconst O dX6_rank_16 17 rfl ?_
        refine g_iload_n O dX6_rank_17 18 1 rfl rfl ?_
        refine g_imul O dX6_rank_18 19 rfl ?_
        refine g_iload_n O dX6_rank_19 20 3 rfl rfl ?_
        refine g_iadd O dX6_rank_20 21 rfl ?_
        refine g_iald O dX6_rank_21 22 rfl 3 rfl (by decide) (by omega) ?_
        refine g_cv (y := row lst a i) (by unfold row; congr 1; omega) ?_
        refine g_iload_n O dX6_rank_22 23 2 rfl rfl ?_
        refine g_icmp_ne O dX6_rank_23 26 28 rfl rfl (by omega) (fun h23 => ?_) (fun h23 => ?_)
        · skip
          refine g_iinc O dX6_rank_28 31 3 [(0, .ref o), (1, vi a), (2, vi p), (3, vi (i + 1))] rfl (by decide) rfl rfl ?_
          refine g_goto O dX6_rank_31 2 rfl ?_
          exact ih2 (i + 1) (by omega) (fun kk q1 q2 => by rcases (show kk < i ∨ kk = i by omega) with q | q; exact h2 kk q1 q; rw [q]; exact h23) (by omega)
        · skip
          refine g_iload_n O dX6_rank_26 27 3 rfl rfl ?_
          exact g_iret O hQ dX6_rank_27 () (vi_eq (rm9_at h1.1 (by omega) h2 h23)) rfl trivial ⟨by decide, by decide⟩
  exact lp2 1000 0 (by omega) (fun kk q1 q2 => absurd q2 (by omega)) (by omega)
theorem sX6_first_6 : ∀ w ∈ wsX60, w ∈ wsX6_first := by decide +kernel
theorem fX6_first_20 : FK RX6 wsX6_first 20 6 3 := ⟨RX6, TX6, 10, rfl, sX6_first_6, by decide, List.mem_of_getElem? (i := 1) rfl⟩
theorem fX6_first_23 : FK RX6 wsX6_first 23 6 4 := ⟨RX6, TX6, 10, rfl, sX6_first_6, by decide, List.mem_of_getElem? (i := 2) rfl⟩
set_option maxHeartbeats 4000000 in
set_option maxRecDepth 100000 in
theorem k_X6_first (D : DD) (o c l t n h b f : Nat) (N P : Int) (cap len lst nw hi : Int → Int) (e : Int) (be fo : Int → Int) (a : Int) (hW : WI N P cap len lst) (ha : 0 ≤ a ∧ a < 6) : Con (S := Unit) D yX6_first wsX6_first ({ frames := 0, cells := 0, slots := 0, locals := 0 }) 0 0 [.ref o, vi a] [(o, co 6 [vi N, vi P, .ref c, .ref l, .ref t, .ref n, .ref h, vi e, .ref b, .ref f]), (c, ca D 5 cap), (l, ca D 6 len), (t, ca D 30 lst), (n, ca D 12 nw), (h, ca D 60 hi), (b, ca D 1701 be), (f, ca D 6 fo)] (fun u => some (vi (fp len lst a))) (fun u => True) (fun u => [(o, co 6 [vi N, vi P, .ref c, .ref l, .ref t, .ref n, .ref h, vi e, .ref b, .ref f]), (c, ca D 5 cap), (l, ca D 6 len), (t, ca D 30 lst), (n, ca D 12 nw), (h, ca D 60 hi), (b, ca D 1701 be), (f, ca D 6 fo)]) := by
  refine Con.of (cc := cX6_first) (nL := 2) (ret := (some .int)) rfl (by decide +kernel) (Nat.le_of_ble_eq_true rfl) ?_
  intro X A Q O hQ hin
  show G X D A 2 Q 0 0 0 [(0, .ref o), (1, vi a)] [] [(o, co 6 [vi N, vi P, .ref c, .ref l, .ref t, .ref n, .ref h, vi e, .ref b, .ref f]), (c, ca D 5 cap), (l, ca D 6 len), (t, ca D 30 lst), (n, ca D 12 nw), (h, ca D 60 hi), (b, ca D 1701 be), (f, ca D 6 fo)]
  obtain ⟨hN, hcap, hlen, hlst, hdis⟩ := id hW
  have hla := hlen a (by omega) (by omega)
  refine g_aload_n O dX6_first_0 1 0 rfl rfl ?_
  refine g_get O dX6_first_1 4 rfl fX6_first_20 0 rfl rfl ?_
  refine g_iload_n O dX6_first_4 5 1 rfl rfl ?_
  refine g_iald O dX6_first_5 6 rfl 2 rfl (by decide) (by omega) ?_
  refine g_if_le O dX6_first_6 9 20 rfl rfl (by omega) (fun h6 => ?_) (fun h6 => ?_)
  · skip
    refine g_iconst O dX6_first_20 21 rfl ?_
    exact g_iret O hQ dX6_first_21 () (vi_eq (by unfold fp; split <;> omega)) rfl trivial ⟨by decide, by decide⟩
  · skip
    refine g_aload_n O dX6_first_9 10 0 rfl rfl ?_
    refine g_get O dX6_first_10 13 rfl fX6_first_23 0 rfl rfl ?_
    refine g_iconst O dX6_first_13 14 rfl ?_
    refine g_iload_n O dX6_first_14 15 1 rfl rfl ?_
    refine g_imul O dX6_first_15 16 rfl ?_
    refine g_iald O dX6_first_16 17 rfl 3 rfl (by decide) (by omega) ?_
    refine g_cv (y := row lst a 0) (by unfold row; congr 1; omega) ?_
    refine g_goto O dX6_first_17 21 rfl ?_
    exact g_iret O hQ dX6_first_21 () (vi_eq (by unfold fp; split <;> omega)) rfl trivial ⟨by decide, by decide⟩
theorem sX6_firsts_6 : ∀ w ∈ wsX60, w ∈ wsX6_firsts := by decide +kernel
theorem fX6_firsts_7 : FK RX6 wsX6_firsts 7 6 0 := ⟨RX6, TX6, 10, rfl, sX6_firsts_6, by decide, List.mem_of_getElem? (i := 1) rfl⟩
set_option maxHeartbeats 4000000 in
set_option maxRecDepth 100000 in
theorem k_X6_firsts (D : DD) (o c l t n h b f : Nat) (N P : Int) (cap len lst nw hi : Int → Int) (e : Int) (be fo : Int → Int) (p : Int) (hW : WI N P cap len lst) (hp : -2147483648 ≤ p ∧ p < 2147483648) : Con (S := Unit) D yX6_firsts wsX6_firsts ({ frames := 1, cells := 0, slots := 0, locals := 21 }) 0 0 [.ref o, vi p] [(o, co 6 [vi N, vi P, .ref c, .ref l, .ref t, .ref n, .ref h, vi e, .ref b, .ref f]), (c, ca D 5 cap), (l, ca D 6 len), (t, ca D 30 lst), (n, ca D 12 nw), (h, ca D 60 hi), (b, ca D 1701 be), (f, ca D 6 fo)] (fun u => some (vi (cf N len lst p))) (fun u => True) (fun u => [(o, co 6 [vi N, vi P, .ref c, .ref l, .ref t, .ref n, .ref h, vi e, .ref b, .ref f]), (c, ca D 5 cap), (l, ca D 6 len), (t, ca D 30 lst), (n, ca D 12 nw), (h, ca D 60 hi), (b, ca D 1701 be), (f, ca D 6 fo)]) := by
  refine Con.of (cc := cX6_firsts) (nL := 4) (ret := (some .int)) rfl (by decide +kernel) (Nat.le_of_ble_eq_true rfl) ?_
  intro X A Q O hQ hin
  show G X D A 4 Q 0 0 0 [(0, .ref o), (1, vi p)] [] [(o, co 6 [vi N, vi P, .ref c, .ref l, .ref t, .ref n, .ref h, vi e, .ref b, .ref f]), (c, ca D 5 cap), (l, ca D 6 len), (t, ca D 30 lst), (n, ca D 12 nw), (h, ca D 60 hi), (b, ca D 1701 be), (f, ca D 6 fo)]
  obtain ⟨hN, hcap, hlen, hlst, hdis⟩ := id hW
  refine g_iconst O dX6_firsts_0 1 rfl ?_
  refine g_istore_n O dX6_firsts_1 2 [(0, .ref o), (1, vi p), (2, vi 0)] rfl (by decide) rfl ?_
  refine g_iconst O dX6_firsts_2 3 rfl ?_
  refine g_istore_n O dX6_firsts_3 4 [(0, .ref o), (1, vi p), (2, vi 0), (3, vi 0)] rfl (by decide) rfl ?_
  have lp4 : ∀ (nn : Nat) (i : Int) (s : Int), (0 ≤ i ∧ i ≤ N) → (s = sm (cfi len lst p) i) → (N - i < (nn : Int)) → G X D A 4 Q 0 0 4 [(0, .ref o), (1, vi p), (2, vi s), (3, vi i)] [] [(o, co 6 [vi N, vi P, .ref c, .ref l, .ref t, .ref n, .ref h, vi e, .ref b, .ref f]), (c, ca D 5 cap), (l, ca D 6 len), (t, ca D 30 lst), (n, ca D 12 nw), (h, ca D 60 hi), (b, ca D 1701 be), (f, ca D 6 fo)] := by
    intro nn
    induction nn with
    | zero =>
      intro i s h1 h2 hm4
      exact absurd hm4 (by omega)
    | succ nn ih4 =>
      intro i s h1 h2 hm4
      refine g_iload_n O dX6_firsts_4 5 3 rfl rfl ?_
      refine g_aload_n O dX6_firsts_5 6 0 rfl rfl ?_
      refine g_get O dX6_firsts_6 9 rfl fX6_firsts_7 0 rfl rfl ?_
      refine g_icmp_ge O dX6_firsts_9 12 35 rfl rfl (by omega) (fun h9 => ?_) (fun h9 => ?_)
      · skip
        refine g_iload_n O dX6_firsts_35 36 2 rfl rfl ?_
        exact g_iret O hQ dX6_firsts_36 () (vi_eq (by rw [h2, show i = N by omega]; rfl)) rfl trivial ⟨by decide, by decide⟩
      · skip
        refine g_iload_n O dX6_firsts_12 13 2 rfl rfl ?_
        refine g_aload_n O dX6_firsts_13 14 0 rfl rfl ?_
        refine g_iload_n O dX6_firsts_14 15 3 rfl rfl ?_
        refine g_callV (As := [vi i]) (rest := [vi s]) (na := 1) O (k_X6_first D o c l t n h b f N P cap len lst nw hi e be fo i hW (by omega)) dX6_firsts_15 gX6_firsts_X6_first rfl ⟨rfl, rfl⟩ (by decide +kernel) rfl (by decide) (by decide) rfl (Nat.le_of_ble_eq_true rfl) (q0 := 0) (ci := 6) rfl rfl [0, 1, 2, 3, 4, 5, 6, 7] (by decide) rfl (fun _ => rfl) (fun _ => [(o, co 6 [vi N, vi P, .ref c, .ref l, .ref t, .ref n, .ref h, vi e, .ref b, .ref f]), (c, ca D 5 cap), (l, ca D 6 len), (t, ca D 30 lst), (n, ca D 12 nw), (h, ca D 60 hi), (b, ca D 1701 be), (f, ca D 6 fo)]) (fun _ => rfl) 18 rfl (fun _ _ => ?_)
        show G X D A 4 Q 0 0 18 [(0, .ref o), (1, vi p), (2, vi s), (3, vi i)] [vi (fp len lst i), vi s] [(o, co 6 [vi N, vi P, .ref c, .ref l, .ref t, .ref n, .ref h, vi e, .ref b, .ref f]), (c, ca D 5 cap), (l, ca D 6 len), (t, ca D 30 lst), (n, ca D 12 nw), (h, ca D 60 hi), (b, ca D 1701 be), (f, ca D 6 fo)]
        have hfp := fp_bd hW (a := i) (by omega) (by omega)
        refine g_iload_n O dX6_firsts_18 19 1 rfl rfl ?_
        refine g_icmp_ne O dX6_firsts_19 22 26 rfl rfl (by omega) (fun h19 => ?_) (fun h19 => ?_)
        · skip
          refine g_iconst O dX6_firsts_26 27 rfl ?_
          refine g_iadd O dX6_firsts_27 28 rfl ?_
          refine g_istore_n O dX6_firsts_28 29 [(0, .ref o), (1, vi p), (2, vi (s + 0)), (3, vi i)] rfl (by decide) rfl ?_
          refine g_iinc O dX6_firsts_29 32 3 [(0, .ref o), (1, vi p), (2, vi (s + 0)), (3, vi (i + 1))] rfl (by decide) rfl rfl ?_
          refine g_goto O dX6_firsts_32 4 rfl ?_
          exact ih4 (i + 1) (s + 0) (by omega) (by rw [sm_s _ h1.1, ← h2]; unfold cfi; split <;> omega) (by omega)
        · skip
          refine g_iconst O dX6_firsts_22 23 rfl ?_
          refine g_goto O dX6_firsts_23 27 rfl ?_
          refine g_iadd O dX6_firsts_27 28 rfl ?_
          refine g_istore_n O dX6_firsts_28 29 [(0, .ref o), (1, vi p), (2, vi (s + 1)), (3, vi i)] rfl (by decide) rfl ?_
          refine g_iinc O dX6_firsts_29 32 3 [(0, .ref o), (1, vi p), (2, vi (s + 1)), (3, vi (i + 1))] rfl (by decide) rfl rfl ?_
          refine g_goto O dX6_firsts_32 4 rfl ?_
          exact ih4 (i + 1) (s + 1) (by omega) (by rw [sm_s _ h1.1, ← h2]; unfold cfi; split <;> omega) (by omega)
  exact lp4 1000 0 0 (by omega) (sm_0 _).symm (by omega)
theorem sX6_second_6 : ∀ w ∈ wsX60, w ∈ wsX6_second := by decide +kernel
theorem fX6_second_16 : FK RX6 wsX6_second 16 6 2 := ⟨RX6, TX6, 10, rfl, sX6_second_6, by decide, List.mem_of_getElem? (i := 3) rfl⟩
theorem fX6_second_20 : FK RX6 wsX6_second 20 6 3 := ⟨RX6, TX6, 10, rfl, sX6_second_6, by decide, List.mem_of_getElem? (i := 1) rfl⟩
theorem fX6_second_23 : FK RX6 wsX6_second 23 6 4 := ⟨RX6, TX6, 10, rfl, sX6_second_6, by decide, List.mem_of_getElem? (i := 2) rfl⟩
set_option maxHeartbeats 4000000 in
set_option maxRecDepth 100000 in
theorem k_X6_second (D : DD) (o c l t n h b f : Nat) (N P : Int) (cap len lst nw hi : Int → Int) (e : Int) (be fo : Int → Int) (a : Int) (hW : WI N P cap len lst) (ha : 0 ≤ a ∧ a < 6) : Con (S := Unit) D yX6_second wsX6_second ({ frames := 2, cells := 0, slots := 0, locals := 44 }) 0 0 [.ref o, vi a] [(o, co 6 [vi N, vi P, .ref c, .ref l, .ref t, .ref n, .ref h, vi e, .ref b, .ref f]), (c, ca D 5 cap), (l, ca D 6 len), (t, ca D 30 lst), (n, ca D 12 nw), (h, ca D 60 hi), (b, ca D 1701 be), (f, ca D 6 fo)] (fun u => some (vi (sp N cap len lst a))) (fun u => True) (fun u => [(o, co 6 [vi N, vi P, .ref c, .ref l, .ref t, .ref n, .ref h, vi e, .ref b, .ref f]), (c, ca D 5 cap), (l, ca D 6 len), (t, ca D 30 lst), (n, ca D 12 nw), (h, ca D 60 hi), (b, ca D 1701 be), (f, ca D 6 fo)]) := by
  refine Con.of (cc := cX6_second) (nL := 4) (ret := (some .int)) rfl (by decide +kernel) (Nat.le_of_ble_eq_true rfl) ?_
  intro X A Q O hQ hin
  show G X D A 4 Q 0 0 0 [(0, .ref o), (1, vi a)] [] [(o, co 6 [vi N, vi P, .ref c, .ref l, .ref t, .ref n, .ref h, vi e, .ref b, .ref f]), (c, ca D 5 cap), (l, ca D 6 len), (t, ca D 30 lst), (n, ca D 12 nw), (h, ca D 60 hi), (b, ca D 1701 be), (f, ca D 6 fo)]
  obtain ⟨hN, hcap, hlen, hlst, hdis⟩ := id hW
  have hla := hlen a (by omega) (by omega)
  refine g_iconst O dX6_second_0 1 rfl ?_
  refine g_istore_n O dX6_second_1 2 [(0, .ref o), (1, vi a), (2, vi 1)] rfl (by decide) rfl ?_
  have lp2 : ∀ (nn : Nat) (i : Int), (1 ≤ i ∧ (i ≤ len a ∨ i = 1)) → (∀ kk, 1 ≤ kk → kk < i → ¬ cf N len lst (row lst a kk) < cap (row lst a kk)) → (7 - i < (nn : Int)) → G X D A 4 Q 0 0 2 [(0, .ref o), (1, vi a), (2, vi i)] [] [(o, co 6 [vi N, vi P, .ref c, .ref l, .ref t, .ref n, .ref h, vi e, .ref b, .ref f]), (c, ca D 5 cap), (l, ca D 6 len), (t, ca D 30 lst), (n, ca D 12 nw), (h, ca D 60 hi), (b, ca D 1701 be), (f, ca D 6 fo)] := by
    intro nn
    induction nn with
    | zero =>
      intro i h1 h2 hm2
      exact absurd hm2 (by omega)
    | succ nn ih2 =>
      intro i h1 h2 hm2
      refine g_iload_n O dX6_second_2 3 2 rfl rfl ?_
      refine g_aload_n O dX6_second_3 4 0 rfl rfl ?_
      refine g_get O dX6_second_4 7 rfl fX6_second_20 0 rfl rfl ?_
      refine g_iload_n O dX6_second_7 8 1 rfl rfl ?_
      refine g_iald O dX6_second_8 9 rfl 2 rfl (by decide) (by omega) ?_
      refine g_icmp_ge O dX6_second_9 12 45 rfl rfl (by omega) (fun h9 => ?_) (fun h9 => ?_)
      · skip
        refine g_iconst O dX6_second_45 46 rfl ?_
        exact g_iret O hQ dX6_second_46 () (vi_eq (sp_no (fun kk q1 q2 => h2 kk q1 (by omega)))) rfl trivial ⟨by decide, by decide⟩
      · skip
        have hli : 0 ≤ row lst a i ∧ row lst a i < P := hlst a i (by omega) (by omega) (by omega) (by omega)
        have hci := hcap (row lst a i) (by omega) (by omega)
        have hcf := cf_bd N len lst (row lst a i) (by omega)
        refine g_aload_n O dX6_second_12 13 0 rfl rfl ?_
        refine g_get O dX6_second_13 16 rfl fX6_second_23 0 rfl rfl ?_
        refine g_iconst O dX6_second_16 17 rfl ?_
        refine g_iload_n O dX6_second_17 18 1 rfl rfl ?_
        refine g_imul O dX6_second_18 19 rfl ?_
        refine g_iload_n O dX6_second_19 20 2 rfl rfl ?_
        refine g_iadd O dX6_second_20 21 rfl ?_
        refine g_iald O dX6_second_21 22 rfl 3 rfl (by decide) (by omega) ?_
        refine g_cv (y := row lst a i) (by unfold row; congr 1; omega) ?_
        refine g_istore_n O dX6_second_22 23 [(0, .ref o), (1, vi a), (2, vi i), (3, vi (row lst a i))] rfl (by decide) rfl ?_
        refine g_aload_n O dX6_second_23 24 0 rfl rfl ?_
        refine g_iload_n O dX6_second_24 25 3 rfl rfl ?_
        refine g_callV (As := [vi (row lst a i)]) (rest := []) (na := 1) O (k_X6_firsts D o c l t n h b f N P cap len lst nw hi e be fo (row lst a i) hW (by omega)) dX6_second_25 gX6_second_X6_firsts rfl ⟨rfl, rfl⟩ (by decide +kernel) rfl (by decide) (by decide) rfl (Nat.le_of_ble_eq_true rfl) (q0 := 0) (ci := 6) rfl rfl [0, 1, 2, 3, 4, 5, 6, 7] (by decide) rfl (fun _ => rfl) (fun _ => [(o, co 6 [vi N, vi P, .ref c, .ref l, .ref t, .ref n, .ref h, vi e, .ref b, .ref f]), (c, ca D 5 cap), (l, ca D 6 len), (t, ca D 30 lst), (n, ca D 12 nw), (h, ca D 60 hi), (b, ca D 1701 be), (f, ca D 6 fo)]) (fun _ => rfl) 28 rfl (fun _ _ => ?_)
        show G X D A 4 Q 0 0 28 [(0, .ref o), (1, vi a), (2, vi i), (3, vi (row lst a i))] [vi (cf N len lst (row lst a i))] [(o, co 6 [vi N, vi P, .ref c, .ref l, .ref t, .ref n, .ref h, vi e, .ref b, .ref f]), (c, ca D 5 cap), (l, ca D 6 len), (t, ca D 30 lst), (n, ca D 12 nw), (h, ca D 60 hi), (b, ca D 1701 be), (f, ca D 6 fo)]
        refine g_aload_n O dX6_second_28 29 0 rfl rfl ?_
        refine g_get O dX6_second_29 32 rfl fX6_second_16 0 rfl rfl ?_
        refine g_iload_n O dX6_second_32 33 3 rfl rfl ?_
        refine g_iald O dX6_second_33 34 rfl 1 rfl (by decide) (by omega) ?_
        refine g_icmp_ge O dX6_second_34 37 39 rfl rfl (by omega) (fun h34 => ?_) (fun h34 => ?_)
        · skip
          refine g_iinc O dX6_second_39 42 2 [(0, .ref o), (1, vi a), (2, vi (i + 1)), (3, vi (row lst a i))] rfl (by decide) rfl rfl ?_
          refine g_goto O dX6_second_42 2 rfl ?_
          refine g_loc (L' := [(0, .ref o), (1, vi a), (2, vi (i + 1))]) [0, 1, 2] rfl ?_
          exact ih2 (i + 1) (by omega) (fun kk q1 q2 => by rcases (show kk < i ∨ kk = i by omega) with q | q; exact h2 kk q1 q; rw [q]; omega) (by omega)
        · skip
          refine g_iload_n O dX6_second_37 38 3 rfl rfl ?_
          exact g_iret O hQ dX6_second_38 () (vi_eq (sp_at (by omega) (by omega) h2 h34)) rfl trivial ⟨by decide, by decide⟩
  exact lp2 1000 1 (by omega) (fun kk q1 q2 => absurd q2 (by omega)) (by omega)
theorem sX6_edit_6 : ∀ w ∈ wsX60, w ∈ wsX6_edit := by decide +kernel
theorem fX6_edit_26 : FK RX6 wsX6_edit 26 6 5 := ⟨RX6, TX6, 10, rfl, sX6_edit_6, by decide, List.mem_of_getElem? (i := 3) rfl⟩
theorem fX6_edit_29 : FK RX6 wsX6_edit 29 6 6 := ⟨RX6, TX6, 10, rfl, sX6_edit_6, by decide, List.mem_of_getElem? (i := 2) rfl⟩
theorem fX6_edit_45 : FK RX6 wsX6_edit 45 6 7 := ⟨RX6, TX6, 10, rfl, sX6_edit_6, by decide, List.mem_of_getElem? (i := 1) rfl⟩
set_option maxHeartbeats 4000000 in
set_option maxRecDepth 100000 in
theorem k_X6_edit (D : DD) (o c l t n h b f : Nat) (N P : Int) (cap len lst nw hi : Int → Int) (e : Int) (be fo : Int → Int) (he : 0 ≤ e ∧ e ≤ 5) : Con (S := Unit) D yX6_edit wsX6_edit ({ frames := 0, cells := 0, slots := 0, locals := 0 }) 0 0 [.ref o] [(o, co 6 [vi N, vi P, .ref c, .ref l, .ref t, .ref n, .ref h, vi e, .ref b, .ref f]), (c, ca D 5 cap), (l, ca D 6 len), (t, ca D 30 lst), (n, ca D 12 nw), (h, ca D 60 hi), (b, ca D 1701 be), (f, ca D 6 fo)] (fun u => none) (fun u => True) (fun u => [(o, co 6 [vi N, vi P, .ref c, .ref l, .ref t, .ref n, .ref h, vi (hpc e), .ref b, .ref f]), (c, ca D 5 cap), (l, ca D 6 len), (t, ca D 30 lst), (n, ca D 12 nw), (h, ca D 60 (edh e nw hi)), (b, ca D 1701 be), (f, ca D 6 fo)]) := by
  refine Con.of (cc := cX6_edit) (nL := 2) (ret := none) rfl (by decide +kernel) (Nat.le_of_ble_eq_true rfl) ?_
  intro X A Q O hQ hin
  show G X D A 2 Q 0 0 0 [(0, .ref o)] [] [(o, co 6 [vi N, vi P, .ref c, .ref l, .ref t, .ref n, .ref h, vi e, .ref b, .ref f]), (c, ca D 5 cap), (l, ca D 6 len), (t, ca D 30 lst), (n, ca D 12 nw), (h, ca D 60 hi), (b, ca D 1701 be), (f, ca D 6 fo)]
  have lp47 : ∀ (g0 : Int → Int) (e0 : Int), (e0 = (if e = 5 then 4 else e)) → (∀ kk, 0 ≤ kk → kk < 60 → g0 kk = if e = 5 ∧ kk < 48 then hi (kk + 12) else hi kk) → G X D A 2 Q 0 0 47 [(0, .ref o)] [] [(o, co 6 [vi N, vi P, .ref c, .ref l, .ref t, .ref n, .ref h, vi e0, .ref b, .ref f]), (c, ca D 5 cap), (l, ca D 6 len), (t, ca D 30 lst), (n, ca D 12 nw), (h, ca D 60 g0), (b, ca D 1701 be), (f, ca D 6 fo)] := by
    intro g0 e0 g1 g2
    refine g_iconst O dX6_edit_47 48 rfl ?_
    refine g_istore_n O dX6_edit_48 49 [(0, .ref o), (1, vi 0)] rfl (by decide) rfl ?_
    have lp49 : ∀ (nn : Nat) (i : Int) (g : Int → Int), (0 ≤ i ∧ i ≤ 12) → (∀ kk, 0 ≤ kk → kk < i → g (12 * e0 + kk) = nw kk) → (∀ kk, (kk < 12 * e0 ∨ 12 * e0 + i ≤ kk) → g kk = g0 kk) → (12 - i < (nn : Int)) → G X D A 2 Q 0 0 49 [(0, .ref o), (1, vi i)] [] [(o, co 6 [vi N, vi P, .ref c, .ref l, .ref t, .ref n, .ref h, vi e0, .ref b, .ref f]), (c, ca D 5 cap), (l, ca D 6 len), (t, ca D 30 lst), (n, ca D 12 nw), (h, ca D 60 g), (b, ca D 1701 be), (f, ca D 6 fo)] := by
      intro nn
      induction nn with
      | zero =>
        intro i g h1 h2 h3 hm49
        exact absurd hm49 (by omega)
      | succ nn ih49 =>
        intro i g h1 h2 h3 hm49
        have he0 : 0 ≤ e0 ∧ e0 ≤ 4 := by rw [g1]; split <;> omega
        refine g_iload_n O dX6_edit_49 50 1 rfl rfl ?_
        refine g_bipush O dX6_edit_50 52 rfl (by decide) ?_
        refine g_icmp_ge O dX6_edit_52 55 81 rfl rfl (by omega) (fun h52 => ?_) (fun h52 => ?_)
        · skip
          refine g_arr 5 (edh e nw hi) rfl (fun kk q1 q2 => edy g1 g2 (fun kk q1 q2 => h2 kk q1 (by omega)) (fun kk q => h3 kk (by omega)) kk q1 q2) [(o, co 6 [vi N, vi P, .ref c, .ref l, .ref t, .ref n, .ref h, vi e0, .ref b, .ref f]), (c, ca D 5 cap), (l, ca D 6 len), (t, ca D 30 lst), (n, ca D 12 nw), (h, ca D 60 (edh e nw hi)), (b, ca D 1701 be), (f, ca D 6 fo)] rfl ?_
          refine g_aload_n O dX6_edit_81 82 0 rfl rfl ?_
          refine g_dup O dX6_edit_82 83 rfl rfl ?_
          refine g_get O dX6_edit_83 86 rfl fX6_edit_45 0 rfl rfl ?_
          refine g_iconst O dX6_edit_86 87 rfl ?_
          refine g_iadd O dX6_edit_87 88 rfl ?_
          refine g_cv (y := hpc e) (by rw [g1]; unfold hpc; split <;> omega) ?_
          refine g_put O dX6_edit_88 91 rfl fX6_edit_45 pF6_7 0 rfl rfl rfl (Nat.le_of_ble_eq_true rfl) [(o, co 6 [vi N, vi P, .ref c, .ref l, .ref t, .ref n, .ref h, vi (hpc e), .ref b, .ref f]), (c, ca D 5 cap), (l, ca D 6 len), (t, ca D 30 lst), (n, ca D 12 nw), (h, ca D 60 (edh e nw hi)), (b, ca D 1701 be), (f, ca D 6 fo)] rfl ?_
          exact g_vret O hQ dX6_edit_91 () rfl rfl trivial ⟨by decide, by decide⟩
        · skip
          refine g_aload_n O dX6_edit_55 56 0 rfl rfl ?_
          refine g_get O dX6_edit_56 59 rfl fX6_edit_29 0 rfl rfl ?_
          refine g_bipush O dX6_edit_59 61 rfl (by decide) ?_
          refine g_aload_n O dX6_edit_61 62 0 rfl rfl ?_
          refine g_get O dX6_edit_62 65 rfl fX6_edit_45 0 rfl rfl ?_
          refine g_imul O dX6_edit_65 66 rfl ?_
          refine g_iload_n O dX6_edit_66 67 1 rfl rfl ?_
          refine g_iadd O dX6_edit_67 68 rfl ?_
          refine g_aload_n O dX6_edit_68 69 0 rfl rfl ?_
          refine g_get O dX6_edit_69 72 rfl fX6_edit_26 0 rfl rfl ?_
          refine g_iload_n O dX6_edit_72 73 1 rfl rfl ?_
          refine g_iald O dX6_edit_73 74 rfl 4 rfl (by decide) (by omega) ?_
          refine g_iast O dX6_edit_74 75 rfl 5 rfl (by decide) (by omega) [(o, co 6 [vi N, vi P, .ref c, .ref l, .ref t, .ref n, .ref h, vi e0, .ref b, .ref f]), (c, ca D 5 cap), (l, ca D 6 len), (t, ca D 30 lst), (n, ca D 12 nw), (h, ca D 60 (up g ((12 * e0) + i) (nw i))), (b, ca D 1701 be), (f, ca D 6 fo)] rfl ?_
          refine g_iinc O dX6_edit_75 78 1 [(0, .ref o), (1, vi (i + 1))] rfl (by decide) rfl rfl ?_
          refine g_goto O dX6_edit_78 49 rfl ?_
          exact ih49 (i + 1) (up g ((12 * e0) + i) (nw i)) (by omega) (fun kk q1 q2 => by unfold up; split; congr 1; omega; exact h2 kk q1 (by omega)) (fun kk q => by unfold up; rw [if_neg (by omega)]; exact h3 kk (by omega)) (by omega)
    exact lp49 1000 0 g0 (by omega) (fun kk q1 q2 => absurd q2 (by omega)) (fun kk _ => rfl) (by omega)
  refine g_aload_n O dX6_edit_0 1 0 rfl rfl ?_
  refine g_get O dX6_edit_1 4 rfl fX6_edit_45 0 rfl rfl ?_
  refine g_iconst O dX6_edit_4 5 rfl ?_
  refine g_icmp_ne O dX6_edit_5 8 47 rfl rfl (by omega) (fun h5 => ?_) (fun h5 => ?_)
  · skip
    exact lp47 hi e (by first | (rw [if_neg (by omega)]) | (rw [if_pos (by omega)]; omega)) (by first | exact edx1 (by omega) | exact edx2 (by omega) (by omega) h2 h3)
  · skip
    refine g_iconst O dX6_edit_8 9 rfl ?_
    refine g_istore_n O dX6_edit_9 10 [(0, .ref o), (1, vi 0)] rfl (by decide) rfl ?_
    have lp10 : ∀ (nn : Nat) (i : Int) (g : Int → Int), (0 ≤ i ∧ i ≤ 48) → (∀ kk, 0 ≤ kk → kk < i → g kk = hi (kk + 12)) → (∀ kk, i ≤ kk → g kk = hi kk) → (48 - i < (nn : Int)) → G X D A 2 Q 0 0 10 [(0, .ref o), (1, vi i)] [] [(o, co 6 [vi N, vi P, .ref c, .ref l, .ref t, .ref n, .ref h, vi e, .ref b, .ref f]), (c, ca D 5 cap), (l, ca D 6 len), (t, ca D 30 lst), (n, ca D 12 nw), (h, ca D 60 g), (b, ca D 1701 be), (f, ca D 6 fo)] := by
      intro nn
      induction nn with
      | zero =>
        intro i g h1 h2 h3 hm10
        exact absurd hm10 (by omega)
      | succ nn ih10 =>
        intro i g h1 h2 h3 hm10
        refine g_iload_n O dX6_edit_10 11 1 rfl rfl ?_
        refine g_bipush O dX6_edit_11 13 rfl (by decide) ?_
        refine g_icmp_ge O dX6_edit_13 16 37 rfl rfl (by omega) (fun h13 => ?_) (fun h13 => ?_)
        · skip
          refine g_aload_n O dX6_edit_37 38 0 rfl rfl ?_
          refine g_dup O dX6_edit_38 39 rfl rfl ?_
          refine g_get O dX6_edit_39 42 rfl fX6_edit_45 0 rfl rfl ?_
          refine g_iconst O dX6_edit_42 43 rfl ?_
          refine g_isub O dX6_edit_43 44 rfl ?_
          refine g_put O dX6_edit_44 47 rfl fX6_edit_45 pF6_7 0 rfl rfl rfl (Nat.le_of_ble_eq_true rfl) [(o, co 6 [vi N, vi P, .ref c, .ref l, .ref t, .ref n, .ref h, vi (e - 1), .ref b, .ref f]), (c, ca D 5 cap), (l, ca D 6 len), (t, ca D 30 lst), (n, ca D 12 nw), (h, ca D 60 g), (b, ca D 1701 be), (f, ca D 6 fo)] rfl ?_
          refine g_loc (L' := [(0, .ref o)]) [0] rfl ?_
          exact lp47 g (e - 1) (by first | (rw [if_neg (by omega)]) | (rw [if_pos (by omega)]; omega)) (by first | exact edx1 (by omega) | exact edx2 (by omega) (by omega) h2 h3)
        · skip
          refine g_aload_n O dX6_edit_16 17 0 rfl rfl ?_
          refine g_get O dX6_edit_17 20 rfl fX6_edit_29 0 rfl rfl ?_
          refine g_iload_n O dX6_edit_20 21 1 rfl rfl ?_
          refine g_aload_n O dX6_edit_21 22 0 rfl rfl ?_
          refine g_get O dX6_edit_22 25 rfl fX6_edit_29 0 rfl rfl ?_
          refine g_iload_n O dX6_edit_25 26 1 rfl rfl ?_
          refine g_bipush O dX6_edit_26 28 rfl (by decide) ?_
          refine g_iadd O dX6_edit_28 29 rfl ?_
          refine g_iald O dX6_edit_29 30 rfl 5 rfl (by decide) (by omega) ?_
          refine g_iast O dX6_edit_30 31 rfl 5 rfl (by decide) (by omega) [(o, co 6 [vi N, vi P, .ref c, .ref l, .ref t, .ref n, .ref h, vi e, .ref b, .ref f]), (c, ca D 5 cap), (l, ca D 6 len), (t, ca D 30 lst), (n, ca D 12 nw), (h, ca D 60 (up g i (g (i + 12)))), (b, ca D 1701 be), (f, ca D 6 fo)] rfl ?_
          refine g_iinc O dX6_edit_31 34 1 [(0, .ref o), (1, vi (i + 1))] rfl (by decide) rfl rfl ?_
          refine g_goto O dX6_edit_34 10 rfl ?_
          exact ih10 (i + 1) (up g i (g (i + 12))) (by omega) (fun kk q1 q2 => by unfold up; split; rename_i q; rw [q]; exact h3 _ (by omega); exact h2 kk q1 (by omega)) (fun kk q => by unfold up; rw [if_neg (by omega)]; exact h3 kk (by omega)) (by omega)
    exact lp10 1000 0 hi (by omega) (fun kk q1 q2 => absurd q2 (by omega)) (fun kk _ => rfl) (by omega)
theorem sX6_undo_6 : ∀ w ∈ wsX60, w ∈ wsX6_undo := by decide +kernel
theorem fX6_undo_26 : FK RX6 wsX6_undo 26 6 5 := ⟨RX6, TX6, 10, rfl, sX6_undo_6, by decide, List.mem_of_getElem? (i := 2) rfl⟩
theorem fX6_undo_29 : FK RX6 wsX6_undo 29 6 6 := ⟨RX6, TX6, 10, rfl, sX6_undo_6, by decide, List.mem_of_getElem? (i := 3) rfl⟩
theorem fX6_undo_45 : FK RX6 wsX6_undo 45 6 7 := ⟨RX6, TX6, 10, rfl, sX6_undo_6, by decide, List.mem_of_getElem? (i := 1) rfl⟩
set_option maxHeartbeats 4000000 in
set_option maxRecDepth 100000 in
theorem k_X6_undo (D : DD) (o c l t n h b f : Nat) (N P : Int) (cap len lst nw hi : Int → Int) (e : Int) (be fo : Int → Int) (he : 0 ≤ e ∧ e ≤ 5) : Con (S := Int × (Int → Int) × Int) D yX6_undo wsX6_undo ({ frames := 0, cells := 0, slots := 0, locals := 0 }) 0 0 [.ref o] [(o, co 6 [vi N, vi P, .ref c, .ref l, .ref t, .ref n, .ref h, vi e, .ref b, .ref f]), (c, ca D 5 cap), (l, ca D 6 len), (t, ca D 30 lst), (n, ca D 12 nw), (h, ca D 60 hi), (b, ca D 1701 be), (f, ca D 6 fo)] (fun u => some (vi u.1)) (fun u => (e = 0 ∧ u.1 = -104 ∧ u.2.1 = nw ∧ u.2.2 = e) ∨ (0 < e ∧ u.1 = e - 1 ∧ u.2.1 = (fun kk => hi (12 * (e - 1) + kk)) ∧ u.2.2 = e - 1)) (fun u => [(o, co 6 [vi N, vi P, .ref c, .ref l, .ref t, .ref n, .ref h, vi u.2.2, .ref b, .ref f]), (c, ca D 5 cap), (l, ca D 6 len), (t, ca D 30 lst), (n, ca D 12 u.2.1), (h, ca D 60 hi), (b, ca D 1701 be), (f, ca D 6 fo)]) := by
  refine Con.of (cc := cX6_undo) (nL := 2) (ret := (some .int)) rfl (by decide +kernel) (Nat.le_of_ble_eq_true rfl) ?_
  intro X A Q O hQ hin
  show G X D A 2 Q 0 0 0 [(0, .ref o)] [] [(o, co 6 [vi N, vi P, .ref c, .ref l, .ref t, .ref n, .ref h, vi e, .ref b, .ref f]), (c, ca D 5 cap), (l, ca D 6 len), (t, ca D 30 lst), (n, ca D 12 nw), (h, ca D 60 hi), (b, ca D 1701 be), (f, ca D 6 fo)]
  refine g_aload_n O dX6_undo_0 1 0 rfl rfl ?_
  refine g_get O dX6_undo_1 4 rfl fX6_undo_45 0 rfl rfl ?_
  refine g_if_ne O dX6_undo_4 7 10 rfl rfl (by omega) (fun h4 => ?_) (fun h4 => ?_)
  · skip
    refine g_aload_n O dX6_undo_10 11 0 rfl rfl ?_
    refine g_dup O dX6_undo_11 12 rfl rfl ?_
    refine g_get O dX6_undo_12 15 rfl fX6_undo_45 0 rfl rfl ?_
    refine g_iconst O dX6_undo_15 16 rfl ?_
    refine g_isub O dX6_undo_16 17 rfl ?_
    refine g_put O dX6_undo_17 20 rfl fX6_undo_45 pF6_7 0 rfl rfl rfl (Nat.le_of_ble_eq_true rfl) [(o, co 6 [vi N, vi P, .ref c, .ref l, .ref t, .ref n, .ref h, vi (e - 1), .ref b, .ref f]), (c, ca D 5 cap), (l, ca D 6 len), (t, ca D 30 lst), (n, ca D 12 nw), (h, ca D 60 hi), (b, ca D 1701 be), (f, ca D 6 fo)] rfl ?_
    refine g_iconst O dX6_undo_20 21 rfl ?_
    refine g_istore_n O dX6_undo_21 22 [(0, .ref o), (1, vi 0)] rfl (by decide) rfl ?_
    have lp22 : ∀ (nn : Nat) (i : Int) (g : Int → Int), (0 ≤ i ∧ i ≤ 12) → (∀ kk, 0 ≤ kk → kk < i → g kk = hi (12 * (e - 1) + kk)) → (12 - i < (nn : Int)) → G X D A 2 Q 0 0 22 [(0, .ref o), (1, vi i)] [] [(o, co 6 [vi N, vi P, .ref c, .ref l, .ref t, .ref n, .ref h, vi (e - 1), .ref b, .ref f]), (c, ca D 5 cap), (l, ca D 6 len), (t, ca D 30 lst), (n, ca D 12 g), (h, ca D 60 hi), (b, ca D 1701 be), (f, ca D 6 fo)] := by
      intro nn
      induction nn with
      | zero =>
        intro i g h1 h2 hm22
        exact absurd hm22 (by omega)
      | succ nn ih22 =>
        intro i g h1 h2 hm22
        refine g_iload_n O dX6_undo_22 23 1 rfl rfl ?_
        refine g_bipush O dX6_undo_23 25 rfl (by decide) ?_
        refine g_icmp_ge O dX6_undo_25 28 54 rfl rfl (by omega) (fun h25 => ?_) (fun h25 => ?_)
        · skip
          refine g_arr 4 (fun kk => hi (12 * (e - 1) + kk)) rfl (fun kk q1 q2 => h2 kk q1 (by omega)) [(o, co 6 [vi N, vi P, .ref c, .ref l, .ref t, .ref n, .ref h, vi (e - 1), .ref b, .ref f]), (c, ca D 5 cap), (l, ca D 6 len), (t, ca D 30 lst), (n, ca D 12 (fun kk => hi (12 * (e - 1) + kk))), (h, ca D 60 hi), (b, ca D 1701 be), (f, ca D 6 fo)] rfl ?_
          refine g_aload_n O dX6_undo_54 55 0 rfl rfl ?_
          refine g_get O dX6_undo_55 58 rfl fX6_undo_45 0 rfl rfl ?_
          exact g_iret O hQ dX6_undo_58 (e - 1, fun kk => hi (12 * (e - 1) + kk), e - 1) rfl rfl (Or.inr ⟨by omega, rfl, rfl, rfl⟩) ⟨by decide, by decide⟩
        · skip
          refine g_aload_n O dX6_undo_28 29 0 rfl rfl ?_
          refine g_get O dX6_undo_29 32 rfl fX6_undo_26 0 rfl rfl ?_
          refine g_iload_n O dX6_undo_32 33 1 rfl rfl ?_
          refine g_aload_n O dX6_undo_33 34 0 rfl rfl ?_
          refine g_get O dX6_undo_34 37 rfl fX6_undo_29 0 rfl rfl ?_
          refine g_bipush O dX6_undo_37 39 rfl (by decide) ?_
          refine g_aload_n O dX6_undo_39 40 0 rfl rfl ?_
          refine g_get O dX6_undo_40 43 rfl fX6_undo_45 0 rfl rfl ?_
          refine g_imul O dX6_undo_43 44 rfl ?_
          refine g_iload_n O dX6_undo_44 45 1 rfl rfl ?_
          refine g_iadd O dX6_undo_45 46 rfl ?_
          refine g_iald O dX6_undo_46 47 rfl 5 rfl (by decide) (by omega) ?_
          refine g_iast O dX6_undo_47 48 rfl 4 rfl (by decide) (by omega) [(o, co 6 [vi N, vi P, .ref c, .ref l, .ref t, .ref n, .ref h, vi (e - 1), .ref b, .ref f]), (c, ca D 5 cap), (l, ca D 6 len), (t, ca D 30 lst), (n, ca D 12 (up g i (hi ((12 * (e - 1)) + i)))), (h, ca D 60 hi), (b, ca D 1701 be), (f, ca D 6 fo)] rfl ?_
          refine g_iinc O dX6_undo_48 51 1 [(0, .ref o), (1, vi (i + 1))] rfl (by decide) rfl rfl ?_
          refine g_goto O dX6_undo_51 22 rfl ?_
          exact ih22 (i + 1) (up g i (hi ((12 * (e - 1)) + i))) (by omega) (up_inv2 (g := fun kk => hi (12 * (e - 1) + kk)) h2) (by omega)
    exact lp22 1000 0 nw (by omega) (fun kk q1 q2 => absurd q2 (by omega)) (by omega)
  · skip
    refine g_bipush O dX6_undo_7 9 rfl (by decide) ?_
    exact g_iret O hQ dX6_undo_9 (-104, nw, e) rfl rfl (Or.inl ⟨by omega, rfl, rfl, rfl⟩) ⟨by decide, by decide⟩
theorem sX6_postOf_6 : ∀ w ∈ wsX60, w ∈ wsX6_postOf := by decide +kernel
theorem fX6_postOf_26 : FK RX6 wsX6_postOf 26 6 5 := ⟨RX6, TX6, 10, rfl, sX6_postOf_6, by decide, List.mem_of_getElem? (i := 1) rfl⟩
set_option maxHeartbeats 4000000 in
set_option maxRecDepth 100000 in
theorem k_X6_postOf (D : DD) (o c l t n h b f : Nat) (N P : Int) (cap len lst nw hi : Int → Int) (e : Int) (be fo : Int → Int) (a : Int) (hW : WI N P cap len lst) (ha : -2147483648 ≤ a ∧ a < 2147483648) : Con (S := Unit) D yX6_postOf wsX6_postOf ({ frames := 2, cells := 0, slots := 0, locals := 43 }) 0 0 [.ref o, vi a] [(o, co 6 [vi N, vi P, .ref c, .ref l, .ref t, .ref n, .ref h, vi e, .ref b, .ref f]), (c, ca D 5 cap), (l, ca D 6 len), (t, ca D 30 lst), (n, ca D 12 nw), (h, ca D 60 hi), (b, ca D 1701 be), (f, ca D 6 fo)] (fun u => some (vi (if 0 ≤ a ∧ a < N then nw a else -101))) (fun u => True) (fun u => [(o, co 6 [vi N, vi P, .ref c, .ref l, .ref t, .ref n, .ref h, vi e, .ref b, .ref f]), (c, ca D 5 cap), (l, ca D 6 len), (t, ca D 30 lst), (n, ca D 12 nw), (h, ca D 60 hi), (b, ca D 1701 be), (f, ca D 6 fo)]) := by
  refine Con.of (cc := cX6_postOf) (nL := 2) (ret := (some .int)) rfl (by decide +kernel) (Nat.le_of_ble_eq_true rfl) ?_
  intro X A Q O hQ hin
  show G X D A 2 Q 0 0 0 [(0, .ref o), (1, vi a)] [] [(o, co 6 [vi N, vi P, .ref c, .ref l, .ref t, .ref n, .ref h, vi e, .ref b, .ref f]), (c, ca D 5 cap), (l, ca D 6 len), (t, ca D 30 lst), (n, ca D 12 nw), (h, ca D 60 hi), (b, ca D 1701 be), (f, ca D 6 fo)]
  obtain ⟨hN, hcap, hlen, hlst, hdis⟩ := id hW
  refine g_aload_n O dX6_postOf_0 1 0 rfl rfl ?_
  refine g_iload_n O dX6_postOf_1 2 1 rfl rfl ?_
  refine g_callV (As := [vi a]) (rest := []) (na := 1) O (k_X6_isApplicant D o c l t n h b f N P cap len lst nw hi e be fo a hW (by omega)) dX6_postOf_2 gX6_postOf_X6_isApplicant rfl ⟨rfl, rfl⟩ (by decide +kernel) rfl (by decide) (by decide) rfl (Nat.le_of_ble_eq_true rfl) (q0 := 0) (ci := 6) rfl rfl [0, 1, 2, 3, 4, 5, 6, 7] (by decide) rfl (fun _ => rfl) (fun u => [(o, co 6 [vi N, vi P, .ref c, .ref l, .ref t, .ref n, .ref h, vi e, .ref b, .ref f]), (c, ca D 5 cap), (l, ca D 6 len), (t, ca D 30 lst), (n, ca D 12 nw), (h, ca D 60 hi), (b, ca D 1701 be), (f, ca D 6 fo)]) (fun _ => rfl) 5 rfl (fun u2 hu2 => ?_)
  obtain ⟨bz2, rfl⟩ : ∃ z, z = u2 := ⟨_, rfl⟩
  rcases hu2 with ⟨rfl, hb2⟩ | ⟨rfl, hb2⟩
  · skip
    have hb2 : 0 ≤ a ∧ a < N := hb2
    show G X D A 2 Q 0 0 5 [(0, .ref o), (1, vi a)] [vi 1] [(o, co 6 [vi N, vi P, .ref c, .ref l, .ref t, .ref n, .ref h, vi e, .ref b, .ref f]), (c, ca D 5 cap), (l, ca D 6 len), (t, ca D 30 lst), (n, ca D 12 nw), (h, ca D 60 hi), (b, ca D 1701 be), (f, ca D 6 fo)]
    refine g_if_eq O dX6_postOf_5 8 17 rfl rfl (by omega) (fun h => absurd h (by decide)) (fun _ => ?_)
    refine g_aload_n O dX6_postOf_8 9 0 rfl rfl ?_
    refine g_get O dX6_postOf_9 12 rfl fX6_postOf_26 0 rfl rfl ?_
    refine g_iload_n O dX6_postOf_12 13 1 rfl rfl ?_
    refine g_iald O dX6_postOf_13 14 rfl 4 rfl (by decide) (by omega) ?_
    refine g_goto O dX6_postOf_14 19 rfl ?_
    exact g_iret O hQ dX6_postOf_19 () (vi_eq (by split <;> omega)) rfl trivial ⟨by decide, by decide⟩
  · skip
    have hb2 : ¬ (0 ≤ a ∧ a < N) := hb2
    show G X D A 2 Q 0 0 5 [(0, .ref o), (1, vi a)] [vi 0] [(o, co 6 [vi N, vi P, .ref c, .ref l, .ref t, .ref n, .ref h, vi e, .ref b, .ref f]), (c, ca D 5 cap), (l, ca D 6 len), (t, ca D 30 lst), (n, ca D 12 nw), (h, ca D 60 hi), (b, ca D 1701 be), (f, ca D 6 fo)]
    refine g_if_eq O dX6_postOf_5 8 17 rfl rfl (by omega) (fun _ => ?_) (fun h => absurd h (by decide))
    refine g_bipush O dX6_postOf_17 19 rfl (by decide) ?_
    exact g_iret O hQ dX6_postOf_19 () (vi_eq (by split <;> omega)) rfl trivial ⟨by decide, by decide⟩
theorem sX6_size_6 : ∀ w ∈ wsX60, w ∈ wsX6_size := by decide +kernel
theorem fX6_size_26 : FK RX6 wsX6_size 26 6 5 := ⟨RX6, TX6, 10, rfl, sX6_size_6, by decide, List.mem_of_getElem? (i := 2) rfl⟩
theorem fX6_size_7 : FK RX6 wsX6_size 7 6 0 := ⟨RX6, TX6, 10, rfl, sX6_size_6, by decide, List.mem_of_getElem? (i := 1) rfl⟩
set_option maxHeartbeats 4000000 in
set_option maxRecDepth 100000 in
theorem k_X6_size (D : DD) (o c l t n h b f : Nat) (N P : Int) (cap len lst nw hi : Int → Int) (e : Int) (be fo : Int → Int) (hW : WI N P cap len lst) (hnw : NW nw) : Con (S := Unit) D yX6_size wsX6_size ({ frames := 0, cells := 0, slots := 0, locals := 0 }) 0 0 [.ref o] [(o, co 6 [vi N, vi P, .ref c, .ref l, .ref t, .ref n, .ref h, vi e, .ref b, .ref f]), (c, ca D 5 cap), (l, ca D 6 len), (t, ca D 30 lst), (n, ca D 12 nw), (h, ca D 60 hi), (b, ca D 1701 be), (f, ca D 6 fo)] (fun u => some (vi (sm (pls nw) N))) (fun u => True) (fun u => [(o, co 6 [vi N, vi P, .ref c, .ref l, .ref t, .ref n, .ref h, vi e, .ref b, .ref f]), (c, ca D 5 cap), (l, ca D 6 len), (t, ca D 30 lst), (n, ca D 12 nw), (h, ca D 60 hi), (b, ca D 1701 be), (f, ca D 6 fo)]) := by
  refine Con.of (cc := cX6_size) (nL := 3) (ret := (some .int)) rfl (by decide +kernel) (Nat.le_of_ble_eq_true rfl) ?_
  intro X A Q O hQ hin
  show G X D A 3 Q 0 0 0 [(0, .ref o)] [] [(o, co 6 [vi N, vi P, .ref c, .ref l, .ref t, .ref n, .ref h, vi e, .ref b, .ref f]), (c, ca D 5 cap), (l, ca D 6 len), (t, ca D 30 lst), (n, ca D 12 nw), (h, ca D 60 hi), (b, ca D 1701 be), (f, ca D 6 fo)]
  obtain ⟨hN, hcap, hlen, hlst, hdis⟩ := id hW
  refine g_iconst O dX6_size_0 1 rfl ?_
  refine g_istore_n O dX6_size_1 2 [(0, .ref o), (1, vi 0)] rfl (by decide) rfl ?_
  refine g_iconst O dX6_size_2 3 rfl ?_
  refine g_istore_n O dX6_size_3 4 [(0, .ref o), (1, vi 0), (2, vi 0)] rfl (by decide) rfl ?_
  have lp4 : ∀ (nn : Nat) (i : Int) (s : Int), (0 ≤ i ∧ i ≤ N) → (s = sm (pls nw) i) → (N - i < (nn : Int)) → G X D A 3 Q 0 0 4 [(0, .ref o), (1, vi s), (2, vi i)] [] [(o, co 6 [vi N, vi P, .ref c, .ref l, .ref t, .ref n, .ref h, vi e, .ref b, .ref f]), (c, ca D 5 cap), (l, ca D 6 len), (t, ca D 30 lst), (n, ca D 12 nw), (h, ca D 60 hi), (b, ca D 1701 be), (f, ca D 6 fo)] := by
    intro nn
    induction nn with
    | zero =>
      intro i s h1 h2 hm4
      exact absurd hm4 (by omega)
    | succ nn ih4 =>
      intro i s h1 h2 hm4
      refine g_iload_n O dX6_size_4 5 2 rfl rfl ?_
      refine g_aload_n O dX6_size_5 6 0 rfl rfl ?_
      refine g_get O dX6_size_6 9 rfl fX6_size_7 0 rfl rfl ?_
      refine g_icmp_ge O dX6_size_9 12 35 rfl rfl (by omega) (fun h9 => ?_) (fun h9 => ?_)
      · skip
        refine g_iload_n O dX6_size_35 36 1 rfl rfl ?_
        exact g_iret O hQ dX6_size_36 () (vi_eq (by rw [h2, show i = N by omega])) rfl trivial ⟨by decide, by decide⟩
      · skip
        refine g_iload_n O dX6_size_12 13 1 rfl rfl ?_
        refine g_aload_n O dX6_size_13 14 0 rfl rfl ?_
        refine g_get O dX6_size_14 17 rfl fX6_size_26 0 rfl rfl ?_
        refine g_iload_n O dX6_size_17 18 2 rfl rfl ?_
        refine g_iald O dX6_size_18 19 rfl 4 rfl (by decide) (by omega) ?_
        have hni := hnw i (by omega) (by omega)
        refine g_if_lt O dX6_size_19 22 26 rfl rfl (by omega) (fun h19 => ?_) (fun h19 => ?_)
        · skip
          refine g_iconst O dX6_size_26 27 rfl ?_
          refine g_iadd O dX6_size_27 28 rfl ?_
          refine g_istore_n O dX6_size_28 29 [(0, .ref o), (1, vi (s + 0)), (2, vi i)] rfl (by decide) rfl ?_
          refine g_iinc O dX6_size_29 32 2 [(0, .ref o), (1, vi (s + 0)), (2, vi (i + 1))] rfl (by decide) rfl rfl ?_
          refine g_goto O dX6_size_32 4 rfl ?_
          exact ih4 (i + 1) (s + 0) (by omega) (by rw [sm_s _ h1.1, ← h2]; unfold pls; split <;> omega) (by omega)
        · skip
          refine g_iconst O dX6_size_22 23 rfl ?_
          refine g_goto O dX6_size_23 27 rfl ?_
          refine g_iadd O dX6_size_27 28 rfl ?_
          refine g_istore_n O dX6_size_28 29 [(0, .ref o), (1, vi (s + 1)), (2, vi i)] rfl (by decide) rfl ?_
          refine g_iinc O dX6_size_29 32 2 [(0, .ref o), (1, vi (s + 1)), (2, vi (i + 1))] rfl (by decide) rfl rfl ?_
          refine g_goto O dX6_size_32 4 rfl ?_
          exact ih4 (i + 1) (s + 1) (by omega) (by rw [sm_s _ h1.1, ← h2]; unfold pls; split <;> omega) (by omega)
  exact lp4 1000 0 0 (by omega) (sm_0 _).symm (by omega)
set_option maxHeartbeats 4000000 in
set_option maxRecDepth 100000 in
theorem k_X6_vote (D : DD) (o c l t n h b f : Nat) (N P : Int) (cap len lst nw hi : Int → Int) (e : Int) (be fo : Int → Int) (a p q : Int) (hW : WI N P cap len lst) (ha : 0 ≤ a ∧ a < 6) (hp : -2147483648 ≤ p ∧ p < 2147483648) (hq : -2147483648 ≤ q ∧ q < 2147483648) : Con (S := Unit) D yX6_vote wsX6_vote ({ frames := 1, cells := 0, slots := 0, locals := 23 }) 0 0 [.ref o, vi a, vi p, vi q] [(o, co 6 [vi N, vi P, .ref c, .ref l, .ref t, .ref n, .ref h, vi e, .ref b, .ref f]), (c, ca D 5 cap), (l, ca D 6 len), (t, ca D 30 lst), (n, ca D 12 nw), (h, ca D 60 hi), (b, ca D 1701 be), (f, ca D 6 fo)] (fun u => some (vi (vm len lst a p q))) (fun u => True) (fun u => [(o, co 6 [vi N, vi P, .ref c, .ref l, .ref t, .ref n, .ref h, vi e, .ref b, .ref f]), (c, ca D 5 cap), (l, ca D 6 len), (t, ca D 30 lst), (n, ca D 12 nw), (h, ca D 60 hi), (b, ca D 1701 be), (f, ca D 6 fo)]) := by
  refine Con.of (cc := cX6_vote) (nL := 6) (ret := (some .int)) rfl (by decide +kernel) (Nat.le_of_ble_eq_true rfl) ?_
  intro X A Q O hQ hin
  show G X D A 6 Q 0 0 0 [(0, .ref o), (1, vi a), (2, vi p), (3, vi q)] [] [(o, co 6 [vi N, vi P, .ref c, .ref l, .ref t, .ref n, .ref h, vi e, .ref b, .ref f]), (c, ca D 5 cap), (l, ca D 6 len), (t, ca D 30 lst), (n, ca D 12 nw), (h, ca D 60 hi), (b, ca D 1701 be), (f, ca D 6 fo)]
  have b1 := rm9_bd hW (a := a) (p := p) (by omega) (by omega)
  have b2 := rm9_bd hW (a := a) (p := q) (by omega) (by omega)
  refine g_aload_n O dX6_vote_0 1 0 rfl rfl ?_
  refine g_iload_n O dX6_vote_1 2 1 rfl rfl ?_
  refine g_iload_n O dX6_vote_2 3 2 rfl rfl ?_
  refine g_callV (As := [vi a, vi p]) (rest := []) (na := 2) O (k_X6_rank D o c l t n h b f N P cap len lst nw hi e be fo a p hW (by omega) (by omega)) dX6_vote_3 gX6_vote_X6_rank rfl ⟨rfl, rfl⟩ (by decide +kernel) rfl (by decide) (by decide) rfl (Nat.le_of_ble_eq_true rfl) (q0 := 0) (ci := 6) rfl rfl [0, 1, 2, 3, 4, 5, 6, 7] (by decide) rfl (fun _ => rfl) (fun _ => [(o, co 6 [vi N, vi P, .ref c, .ref l, .ref t, .ref n, .ref h, vi e, .ref b, .ref f]), (c, ca D 5 cap), (l, ca D 6 len), (t, ca D 30 lst), (n, ca D 12 nw), (h, ca D 60 hi), (b, ca D 1701 be), (f, ca D 6 fo)]) (fun _ => rfl) 6 rfl (fun _ _ => ?_)
  show G X D A 6 Q 0 0 6 [(0, .ref o), (1, vi a), (2, vi p), (3, vi q)] [vi (rm9 len lst a p)] [(o, co 6 [vi N, vi P, .ref c, .ref l, .ref t, .ref n, .ref h, vi e, .ref b, .ref f]), (c, ca D 5 cap), (l, ca D 6 len), (t, ca D 30 lst), (n, ca D 12 nw), (h, ca D 60 hi), (b, ca D 1701 be), (f, ca D 6 fo)]
  refine g_istore O dX6_vote_6 8 [(0, .ref o), (1, vi a), (2, vi p), (3, vi q), (4, vi (rm9 len lst a p))] rfl (by decide) rfl ?_
  refine g_aload_n O dX6_vote_8 9 0 rfl rfl ?_
  refine g_iload_n O dX6_vote_9 10 1 rfl rfl ?_
  refine g_iload_n O dX6_vote_10 11 3 rfl rfl ?_
  refine g_callV (As := [vi a, vi q]) (rest := []) (na := 2) O (k_X6_rank D o c l t n h b f N P cap len lst nw hi e be fo a q hW (by omega) (by omega)) dX6_vote_11 gX6_vote_X6_rank rfl ⟨rfl, rfl⟩ (by decide +kernel) rfl (by decide) (by decide) rfl (Nat.le_of_ble_eq_true rfl) (q0 := 0) (ci := 6) rfl rfl [0, 1, 2, 3, 4, 5, 6, 7] (by decide) rfl (fun _ => rfl) (fun _ => [(o, co 6 [vi N, vi P, .ref c, .ref l, .ref t, .ref n, .ref h, vi e, .ref b, .ref f]), (c, ca D 5 cap), (l, ca D 6 len), (t, ca D 30 lst), (n, ca D 12 nw), (h, ca D 60 hi), (b, ca D 1701 be), (f, ca D 6 fo)]) (fun _ => rfl) 14 rfl (fun _ _ => ?_)
  show G X D A 6 Q 0 0 14 [(0, .ref o), (1, vi a), (2, vi p), (3, vi q), (4, vi (rm9 len lst a p))] [vi (rm9 len lst a q)] [(o, co 6 [vi N, vi P, .ref c, .ref l, .ref t, .ref n, .ref h, vi e, .ref b, .ref f]), (c, ca D 5 cap), (l, ca D 6 len), (t, ca D 30 lst), (n, ca D 12 nw), (h, ca D 60 hi), (b, ca D 1701 be), (f, ca D 6 fo)]
  refine g_istore O dX6_vote_14 16 [(0, .ref o), (1, vi a), (2, vi p), (3, vi q), (4, vi (rm9 len lst a p)), (5, vi (rm9 len lst a q))] rfl (by decide) rfl ?_
  refine g_iload O dX6_vote_16 18 4 rfl rfl ?_
  refine g_iload O dX6_vote_18 20 5 rfl rfl ?_
  refine g_icmp_ge O dX6_vote_20 23 27 rfl rfl (by omega) (fun h20 => ?_) (fun h20 => ?_)
  · skip
    refine g_iload O dX6_vote_27 29 4 rfl rfl ?_
    refine g_iload O dX6_vote_29 31 5 rfl rfl ?_
    refine g_icmp_le O dX6_vote_31 34 38 rfl rfl (by omega) (fun h31 => ?_) (fun h31 => ?_)
    · skip
      refine g_iconst O dX6_vote_38 39 rfl ?_
      exact g_iret O hQ dX6_vote_39 () (vi_eq (by unfold vm vt; split <;> (try split) <;> omega)) rfl trivial ⟨by decide, by decide⟩
    · skip
      refine g_iconst O dX6_vote_34 35 rfl ?_
      refine g_goto O dX6_vote_35 39 rfl ?_
      exact g_iret O hQ dX6_vote_39 () (vi_eq (by unfold vm vt; split <;> (try split) <;> omega)) rfl trivial ⟨by decide, by decide⟩
  · skip
    refine g_iconst O dX6_vote_23 24 rfl ?_
    refine g_goto O dX6_vote_24 39 rfl ?_
    exact g_iret O hQ dX6_vote_39 () (vi_eq (by unfold vm vt; split <;> (try split) <;> omega)) rfl trivial ⟨by decide, by decide⟩
set_option maxHeartbeats 4000000 in
set_option maxRecDepth 100000 in
theorem k_X6_digit (D : DD) (x p : Int) (hx : 0 ≤ x ∧ x < 1000) (hp : 0 ≤ p ∧ p < 6) : Con (S := Unit) D yX6_digit wsX6_digit ({ frames := 0, cells := 0, slots := 0, locals := 0 }) 0 0 [vi x, vi p] [] (fun u => some (vi (dg x p))) (fun u => True) (fun u => []) := by
  refine Con.of (cc := cX6_digit) (nL := 4) (ret := (some .int)) rfl (by decide +kernel) (Nat.le_of_ble_eq_true rfl) ?_
  intro X A Q O hQ hin
  show G X D A 4 Q 0 0 0 [(0, vi x), (1, vi p)] [] []
  refine g_iload_n O dX6_digit_0 1 0 rfl rfl ?_
  refine g_istore_n O dX6_digit_1 2 [(0, vi x), (1, vi p), (2, vi x)] rfl (by decide) rfl ?_
  refine g_iconst O dX6_digit_2 3 rfl ?_
  refine g_istore_n O dX6_digit_3 4 [(0, vi x), (1, vi p), (2, vi x), (3, vi 0)] rfl (by decide) rfl ?_
  have lp4 : ∀ (nn : Nat) (i : Int) (y : Int), (0 ≤ i ∧ i ≤ p) → (y = x / pw3 i) → (0 ≤ y ∧ y < 1000) → (p - i < (nn : Int)) → G X D A 4 Q 0 0 4 [(0, vi x), (1, vi p), (2, vi y), (3, vi i)] [] [] := by
    intro nn
    induction nn with
    | zero =>
      intro i y h1 h2 h3 hm4
      exact absurd hm4 (by omega)
    | succ nn ih4 =>
      intro i y h1 h2 h3 hm4
      refine g_iload_n O dX6_digit_4 5 3 rfl rfl ?_
      refine g_iload_n O dX6_digit_5 6 1 rfl rfl ?_
      refine g_icmp_ge O dX6_digit_6 9 19 rfl rfl (by omega) (fun h6 => ?_) (fun h6 => ?_)
      · skip
        refine g_iload_n O dX6_digit_19 20 2 rfl rfl ?_
        refine g_iconst O dX6_digit_20 21 rfl ?_
        refine g_irem O dX6_digit_21 22 rfl (by omega) ?_
        exact g_iret O hQ dX6_digit_22 () (vi_eq (by rw [h2, show i = p by omega]; rfl)) rfl trivial ⟨by decide, by decide⟩
      · skip
        refine g_iload_n O dX6_digit_9 10 2 rfl rfl ?_
        refine g_iconst O dX6_digit_10 11 rfl ?_
        refine g_idiv O dX6_digit_11 12 rfl (by omega) ?_
        refine g_istore_n O dX6_digit_12 13 [(0, vi x), (1, vi p), (2, vi (y / 3)), (3, vi i)] rfl (by decide) rfl ?_
        refine g_iinc O dX6_digit_13 16 3 [(0, vi x), (1, vi p), (2, vi (y / 3)), (3, vi (i + 1))] rfl (by decide) rfl rfl ?_
        refine g_goto O dX6_digit_16 4 rfl ?_
        exact ih4 (i + 1) (y / 3) (by omega) (by rw [h2, pw3_s h1.1, Int.ediv_ediv_of_nonneg (Int.le_of_lt (pw3_pos i))]) (by omega) (by omega)
  exact lp4 1000 0 x (by omega) (by rw [show pw3 0 = 1 from rfl]; omega) (by omega) (by omega)
set_option maxHeartbeats 4000000 in
set_option maxRecDepth 100000 in
theorem k_X6_power (D : DD) (p : Int) (hp : 0 ≤ p ∧ p < 6) : Con (S := Unit) D yX6_power wsX6_power ({ frames := 0, cells := 0, slots := 0, locals := 0 }) 0 0 [vi p] [] (fun u => some (vi (pw3 p))) (fun u => True) (fun u => []) := by
  refine Con.of (cc := cX6_power) (nL := 3) (ret := (some .int)) rfl (by decide +kernel) (Nat.le_of_ble_eq_true rfl) ?_
  intro X A Q O hQ hin
  show G X D A 3 Q 0 0 0 [(0, vi p)] [] []
  refine g_iconst O dX6_power_0 1 rfl ?_
  refine g_istore_n O dX6_power_1 2 [(0, vi p), (1, vi 1)] rfl (by decide) rfl ?_
  refine g_iconst O dX6_power_2 3 rfl ?_
  refine g_istore_n O dX6_power_3 4 [(0, vi p), (1, vi 1), (2, vi 0)] rfl (by decide) rfl ?_
  have lp4 : ∀ (nn : Nat) (i : Int) (y : Int), (0 ≤ i ∧ i ≤ p) → (y = pw3 i) → (p - i < (nn : Int)) → G X D A 3 Q 0 0 4 [(0, vi p), (1, vi y), (2, vi i)] [] [] := by
    intro nn
    induction nn with
    | zero =>
      intro i y h1 h2 hm4
      exact absurd hm4 (by omega)
    | succ nn ih4 =>
      intro i y h1 h2 hm4
      refine g_iload_n O dX6_power_4 5 2 rfl rfl ?_
      refine g_iload_n O dX6_power_5 6 0 rfl rfl ?_
      refine g_icmp_ge O dX6_power_6 9 19 rfl rfl (by omega) (fun h6 => ?_) (fun h6 => ?_)
      · skip
        refine g_iload_n O dX6_power_19 20 1 rfl rfl ?_
        exact g_iret O hQ dX6_power_20 () (vi_eq (by rw [h2, show i = p by omega])) rfl trivial ⟨by decide, by decide⟩
      · skip
        refine g_iload_n O dX6_power_9 10 1 rfl rfl ?_
        refine g_iconst O dX6_power_10 11 rfl ?_
        refine g_imul O dX6_power_11 12 rfl ?_
        refine g_istore_n O dX6_power_12 13 [(0, vi p), (1, vi (y * 3)), (2, vi i)] rfl (by decide) rfl ?_
        refine g_iinc O dX6_power_13 16 2 [(0, vi p), (1, vi (y * 3)), (2, vi (i + 1))] rfl (by decide) rfl rfl ?_
        refine g_goto O dX6_power_16 4 rfl ?_
        exact ih4 (i + 1) (y * 3) (by omega) (by rw [h2, pw3_s h1.1]) (by omega)
  exact lp4 1000 0 1 (by omega) rfl (by omega)
theorem sX6_save_6 : ∀ w ∈ wsX60, w ∈ wsX6_save := by decide +kernel
theorem fX6_save_26 : FK RX6 wsX6_save 26 6 5 := ⟨RX6, TX6, 10, rfl, sX6_save_6, by decide, List.mem_of_getElem? (i := 1) rfl⟩
set_option maxHeartbeats 4000000 in
set_option maxRecDepth 100000 in
theorem k_X6_save (D : DD) (o c l t n h b f : Nat) (N P : Int) (cap len lst nw hi : Int → Int) (e : Int) (be fo : Int → Int) (hW : WI N P cap len lst) (hnw : NW nw) : Con (S := Unit) D yX6_save wsX6_save ({ frames := 1, cells := 0, slots := 0, locals := 22 }) 0 0 [.ref o] [(o, co 6 [vi N, vi P, .ref c, .ref l, .ref t, .ref n, .ref h, vi e, .ref b, .ref f]), (c, ca D 5 cap), (l, ca D 6 len), (t, ca D 30 lst), (n, ca D 12 nw), (h, ca D 60 hi), (b, ca D 1701 be), (f, ca D 6 fo)] (fun u => some (vi (sm (pls nw) N))) (fun u => True) (fun u => [(o, co 6 [vi N, vi P, .ref c, .ref l, .ref t, .ref n, .ref h, vi e, .ref b, .ref f]), (c, ca D 5 cap), (l, ca D 6 len), (t, ca D 30 lst), (n, ca D 12 (svd nw)), (h, ca D 60 hi), (b, ca D 1701 be), (f, ca D 6 fo)]) := by
  refine Con.of (cc := cX6_save) (nL := 2) (ret := (some .int)) rfl (by decide +kernel) (Nat.le_of_ble_eq_true rfl) ?_
  intro X A Q O hQ hin
  show G X D A 2 Q 0 0 0 [(0, .ref o)] [] [(o, co 6 [vi N, vi P, .ref c, .ref l, .ref t, .ref n, .ref h, vi e, .ref b, .ref f]), (c, ca D 5 cap), (l, ca D 6 len), (t, ca D 30 lst), (n, ca D 12 nw), (h, ca D 60 hi), (b, ca D 1701 be), (f, ca D 6 fo)]
  obtain ⟨hN, hcap, hlen, hlst, hdis⟩ := id hW
  refine g_iconst O dX6_save_0 1 rfl ?_
  refine g_istore_n O dX6_save_1 2 [(0, .ref o), (1, vi 0)] rfl (by decide) rfl ?_
  have lp2 : ∀ (nn : Nat) (i : Int) (g : Int → Int), (0 ≤ i ∧ i ≤ 6) → (∀ kk, 0 ≤ kk → kk < i → g (6 + kk) = nw kk) → (∀ kk, (kk < 6 ∨ 6 + i ≤ kk) → g kk = nw kk) → (6 - i < (nn : Int)) → G X D A 2 Q 0 0 2 [(0, .ref o), (1, vi i)] [] [(o, co 6 [vi N, vi P, .ref c, .ref l, .ref t, .ref n, .ref h, vi e, .ref b, .ref f]), (c, ca D 5 cap), (l, ca D 6 len), (t, ca D 30 lst), (n, ca D 12 g), (h, ca D 60 hi), (b, ca D 1701 be), (f, ca D 6 fo)] := by
    intro nn
    induction nn with
    | zero =>
      intro i g h1 h2 h3 hm2
      exact absurd hm2 (by omega)
    | succ nn ih2 =>
      intro i g h1 h2 h3 hm2
      refine g_iload_n O dX6_save_2 3 1 rfl rfl ?_
      refine g_bipush O dX6_save_3 5 rfl (by decide) ?_
      refine g_icmp_ge O dX6_save_5 8 29 rfl rfl (by omega) (fun h5 => ?_) (fun h5 => ?_)
      · skip
        refine g_arr 4 (svd nw) rfl (fun kk q1 q2 => by unfold svd; split; exact h3 kk (by omega); have h4 := h2 (kk - 6) (by omega) (by omega); rw [show 6 + (kk - 6) = kk by omega] at h4; exact h4) [(o, co 6 [vi N, vi P, .ref c, .ref l, .ref t, .ref n, .ref h, vi e, .ref b, .ref f]), (c, ca D 5 cap), (l, ca D 6 len), (t, ca D 30 lst), (n, ca D 12 (svd nw)), (h, ca D 60 hi), (b, ca D 1701 be), (f, ca D 6 fo)] rfl ?_
        refine g_aload_n O dX6_save_29 30 0 rfl rfl ?_
        refine g_callV (As := []) (rest := []) (na := 0) O (k_X6_size D o c l t n h b f N P cap len lst (svd nw) hi e be fo hW (NW_svd hnw)) dX6_save_30 gX6_save_X6_size rfl ⟨rfl, rfl⟩ (by decide +kernel) rfl (by decide) (by decide) rfl (Nat.le_of_ble_eq_true rfl) (q0 := 0) (ci := 6) rfl rfl [0, 1, 2, 3, 4, 5, 6, 7] (by decide) rfl (fun _ => rfl) (fun _ => [(o, co 6 [vi N, vi P, .ref c, .ref l, .ref t, .ref n, .ref h, vi e, .ref b, .ref f]), (c, ca D 5 cap), (l, ca D 6 len), (t, ca D 30 lst), (n, ca D 12 (svd nw)), (h, ca D 60 hi), (b, ca D 1701 be), (f, ca D 6 fo)]) (fun _ => rfl) 33 rfl (fun _ _ => ?_)
        show G X D A 2 Q 0 0 33 [(0, .ref o), (1, vi i)] [vi (sm (pls (svd nw)) N)] [(o, co 6 [vi N, vi P, .ref c, .ref l, .ref t, .ref n, .ref h, vi e, .ref b, .ref f]), (c, ca D 5 cap), (l, ca D 6 len), (t, ca D 30 lst), (n, ca D 12 (svd nw)), (h, ca D 60 hi), (b, ca D 1701 be), (f, ca D 6 fo)]
        exact g_iret O hQ dX6_save_33 () (vi_eq (by refine sm_congr (fun kk q1 q2 => ?_); unfold pls svd; rw [show (if kk < 6 then nw kk else nw (kk - 6)) = nw kk from if_pos (by omega)])) rfl trivial ⟨by decide, by decide⟩
      · skip
        refine g_aload_n O dX6_save_8 9 0 rfl rfl ?_
        refine g_get O dX6_save_9 12 rfl fX6_save_26 0 rfl rfl ?_
        refine g_bipush O dX6_save_12 14 rfl (by decide) ?_
        refine g_iload_n O dX6_save_14 15 1 rfl rfl ?_
        refine g_iadd O dX6_save_15 16 rfl ?_
        refine g_aload_n O dX6_save_16 17 0 rfl rfl ?_
        refine g_get O dX6_save_17 20 rfl fX6_save_26 0 rfl rfl ?_
        refine g_iload_n O dX6_save_20 21 1 rfl rfl ?_
        refine g_iald O dX6_save_21 22 rfl 4 rfl (by decide) (by omega) ?_
        refine g_iast O dX6_save_22 23 rfl 4 rfl (by decide) (by omega) [(o, co 6 [vi N, vi P, .ref c, .ref l, .ref t, .ref n, .ref h, vi e, .ref b, .ref f]), (c, ca D 5 cap), (l, ca D 6 len), (t, ca D 30 lst), (n, ca D 12 (up g (6 + i) (g i))), (h, ca D 60 hi), (b, ca D 1701 be), (f, ca D 6 fo)] rfl ?_
        refine g_iinc O dX6_save_23 26 1 [(0, .ref o), (1, vi (i + 1))] rfl (by decide) rfl rfl ?_
        refine g_goto O dX6_save_26 2 rfl ?_
        exact ih2 (i + 1) (up g (6 + i) (g i)) (by omega) (fun kk q1 q2 => by unfold up; split; rename_i q; rw [h3 i (by omega)]; congr 1; omega; exact h2 kk q1 (by omega)) (fun kk q => by unfold up; rw [if_neg (by omega)]; exact h3 kk (by omega)) (by omega)
  exact lp2 1000 0 nw (by omega) (fun kk q1 q2 => absurd q2 (by omega)) (fun kk _ => rfl) (by omega)
theorem sX6_swapSaved_6 : ∀ w ∈ wsX60, w ∈ wsX6_swapSaved := by decide +kernel
theorem fX6_swapSaved_26 : FK RX6 wsX6_swapSaved 26 6 5 := ⟨RX6, TX6, 10, rfl, sX6_swapSaved_6, by decide, List.mem_of_getElem? (i := 1) rfl⟩
set_option maxHeartbeats 4000000 in
set_option maxRecDepth 100000 in
theorem k_X6_swapSaved (D : DD) (o c l t n h b f : Nat) (N P : Int) (cap len lst nw hi : Int → Int) (e : Int) (be fo : Int → Int) (hW : WI N P cap len lst) (hnw : NW nw) (he : 0 ≤ e ∧ e ≤ 5) : Con (S := Unit) D yX6_swapSaved wsX6_swapSaved ({ frames := 1, cells := 0, slots := 0, locals := 22 }) 0 0 [.ref o] [(o, co 6 [vi N, vi P, .ref c, .ref l, .ref t, .ref n, .ref h, vi e, .ref b, .ref f]), (c, ca D 5 cap), (l, ca D 6 len), (t, ca D 30 lst), (n, ca D 12 nw), (h, ca D 60 hi), (b, ca D 1701 be), (f, ca D 6 fo)] (fun u => some (vi (sm (pls (swp nw)) N))) (fun u => True) (fun u => [(o, co 6 [vi N, vi P, .ref c, .ref l, .ref t, .ref n, .ref h, vi (hpc e), .ref b, .ref f]), (c, ca D 5 cap), (l, ca D 6 len), (t, ca D 30 lst), (n, ca D 12 (swp nw)), (h, ca D 60 (edh e nw hi)), (b, ca D 1701 be), (f, ca D 6 fo)]) := by
  refine Con.of (cc := cX6_swapSaved) (nL := 3) (ret := (some .int)) rfl (by decide +kernel) (Nat.le_of_ble_eq_true rfl) ?_
  intro X A Q O hQ hin
  show G X D A 3 Q 0 0 0 [(0, .ref o)] [] [(o, co 6 [vi N, vi P, .ref c, .ref l, .ref t, .ref n, .ref h, vi e, .ref b, .ref f]), (c, ca D 5 cap), (l, ca D 6 len), (t, ca D 30 lst), (n, ca D 12 nw), (h, ca D 60 hi), (b, ca D 1701 be), (f, ca D 6 fo)]
  obtain ⟨hN, hcap, hlen, hlst, hdis⟩ := id hW
  refine g_aload_n O dX6_swapSaved_0 1 0 rfl rfl ?_
  refine g_callV (As := []) (rest := []) (na := 0) O (k_X6_edit D o c l t n h b f N P cap len lst nw hi e be fo (by omega)) dX6_swapSaved_1 gX6_swapSaved_X6_edit rfl ⟨rfl, rfl⟩ (by decide +kernel) rfl (by decide) (by decide) rfl (Nat.le_of_ble_eq_true rfl) (q0 := 0) (ci := 6) rfl rfl [0, 1, 2, 3, 4, 5, 6, 7] (by decide) rfl (fun _ => rfl) (fun _ => [(o, co 6 [vi N, vi P, .ref c, .ref l, .ref t, .ref n, .ref h, vi (hpc e), .ref b, .ref f]), (c, ca D 5 cap), (l, ca D 6 len), (t, ca D 30 lst), (n, ca D 12 nw), (h, ca D 60 (edh e nw hi)), (b, ca D 1701 be), (f, ca D 6 fo)]) (fun _ => rfl) 4 rfl (fun _ _ => ?_)
  show G X D A 3 Q 0 0 4 [(0, .ref o)] [] [(o, co 6 [vi N, vi P, .ref c, .ref l, .ref t, .ref n, .ref h, vi (hpc e), .ref b, .ref f]), (c, ca D 5 cap), (l, ca D 6 len), (t, ca D 30 lst), (n, ca D 12 nw), (h, ca D 60 (edh e nw hi)), (b, ca D 1701 be), (f, ca D 6 fo)]
  refine g_iconst O dX6_swapSaved_4 5 rfl ?_
  refine g_istore_n O dX6_swapSaved_5 6 [(0, .ref o), (1, vi 0)] rfl (by decide) rfl ?_
  have lp6 : ∀ (nn : Nat) (i : Int) (g : Int → Int), (0 ≤ i ∧ i ≤ 6) → (∀ kk, 0 ≤ kk → kk < i → g kk = nw (kk + 6) ∧ g (6 + kk) = nw kk) → (∀ kk, ((i ≤ kk ∧ kk < 6) ∨ 6 + i ≤ kk) → g kk = nw kk) → (6 - i < (nn : Int)) → G X D A 3 Q 0 0 6 [(0, .ref o), (1, vi i)] [] [(o, co 6 [vi N, vi P, .ref c, .ref l, .ref t, .ref n, .ref h, vi (hpc e), .ref b, .ref f]), (c, ca D 5 cap), (l, ca D 6 len), (t, ca D 30 lst), (n, ca D 12 g), (h, ca D 60 (edh e nw hi)), (b, ca D 1701 be), (f, ca D 6 fo)] := by
    intro nn
    induction nn with
    | zero =>
      intro i g h1 h2 h3 hm6
      exact absurd hm6 (by omega)
    | succ nn ih6 =>
      intro i g h1 h2 h3 hm6
      refine g_iload_n O dX6_swapSaved_6 7 1 rfl rfl ?_
      refine g_bipush O dX6_swapSaved_7 9 rfl (by decide) ?_
      refine g_icmp_ge O dX6_swapSaved_9 12 50 rfl rfl (by omega) (fun h9 => ?_) (fun h9 => ?_)
      · skip
        refine g_arr 4 (swp nw) rfl (fun kk q1 q2 => by unfold swp; split; exact (h2 kk q1 (by omega)).1; have h4 := (h2 (kk - 6) (by omega) (by omega)).2; rw [show 6 + (kk - 6) = kk by omega] at h4; exact h4) [(o, co 6 [vi N, vi P, .ref c, .ref l, .ref t, .ref n, .ref h, vi (hpc e), .ref b, .ref f]), (c, ca D 5 cap), (l, ca D 6 len), (t, ca D 30 lst), (n, ca D 12 (swp nw)), (h, ca D 60 (edh e nw hi)), (b, ca D 1701 be), (f, ca D 6 fo)] rfl ?_
        refine g_aload_n O dX6_swapSaved_50 51 0 rfl rfl ?_
        refine g_callV (As := []) (rest := []) (na := 0) O (k_X6_size D o c l t n h b f N P cap len lst (swp nw) (edh e nw hi) (hpc e) be fo hW (NW_swp hnw)) dX6_swapSaved_51 gX6_swapSaved_X6_size rfl ⟨rfl, rfl⟩ (by decide +kernel) rfl (by decide) (by decide) rfl (Nat.le_of_ble_eq_true rfl) (q0 := 0) (ci := 6) rfl rfl [0, 1, 2, 3, 4, 5, 6, 7] (by decide) rfl (fun _ => rfl) (fun _ => [(o, co 6 [vi N, vi P, .ref c, .ref l, .ref t, .ref n, .ref h, vi (hpc e), .ref b, .ref f]), (c, ca D 5 cap), (l, ca D 6 len), (t, ca D 30 lst), (n, ca D 12 (swp nw)), (h, ca D 60 (edh e nw hi)), (b, ca D 1701 be), (f, ca D 6 fo)]) (fun _ => rfl) 54 rfl (fun _ _ => ?_)
        show G X D A 3 Q 0 0 54 [(0, .ref o), (1, vi i)] [vi (sm (pls (swp nw)) N)] [(o, co 6 [vi N, vi P, .ref c, .ref l, .ref t, .ref n, .ref h, vi (hpc e), .ref b, .ref f]), (c, ca D 5 cap), (l, ca D 6 len), (t, ca D 30 lst), (n, ca D 12 (swp nw)), (h, ca D 60 (edh e nw hi)), (b, ca D 1701 be), (f, ca D 6 fo)]
        exact g_iret O hQ dX6_swapSaved_54 () rfl rfl trivial ⟨by decide, by decide⟩
      · skip
        refine g_aload_n O dX6_swapSaved_12 13 0 rfl rfl ?_
        refine g_get O dX6_swapSaved_13 16 rfl fX6_swapSaved_26 0 rfl rfl ?_
        refine g_iload_n O dX6_swapSaved_16 17 1 rfl rfl ?_
        refine g_iald O dX6_swapSaved_17 18 rfl 4 rfl (by decide) (by omega) ?_
        refine g_istore_n O dX6_swapSaved_18 19 [(0, .ref o), (1, vi i), (2, vi (g i))] rfl (by decide) rfl ?_
        refine g_aload_n O dX6_swapSaved_19 20 0 rfl rfl ?_
        refine g_get O dX6_swapSaved_20 23 rfl fX6_swapSaved_26 0 rfl rfl ?_
        refine g_iload_n O dX6_swapSaved_23 24 1 rfl rfl ?_
        refine g_aload_n O dX6_swapSaved_24 25 0 rfl rfl ?_
        refine g_get O dX6_swapSaved_25 28 rfl fX6_swapSaved_26 0 rfl rfl ?_
        refine g_bipush O dX6_swapSaved_28 30 rfl (by decide) ?_
        refine g_iload_n O dX6_swapSaved_30 31 1 rfl rfl ?_
        refine g_iadd O dX6_swapSaved_31 32 rfl ?_
        refine g_iald O dX6_swapSaved_32 33 rfl 4 rfl (by decide) (by omega) ?_
        refine g_iast O dX6_swapSaved_33 34 rfl 4 rfl (by decide) (by omega) [(o, co 6 [vi N, vi P, .ref c, .ref l, .ref t, .ref n, .ref h, vi (hpc e), .ref b, .ref f]), (c, ca D 5 cap), (l, ca D 6 len), (t, ca D 30 lst), (n, ca D 12 (up g i (g (6 + i)))), (h, ca D 60 (edh e nw hi)), (b, ca D 1701 be), (f, ca D 6 fo)] rfl ?_
        refine g_aload_n O dX6_swapSaved_34 35 0 rfl rfl ?_
        refine g_get O dX6_swapSaved_35 38 rfl fX6_swapSaved_26 0 rfl rfl ?_
        refine g_bipush O dX6_swapSaved_38 40 rfl (by decide) ?_
        refine g_iload_n O dX6_swapSaved_40 41 1 rfl rfl ?_
        refine g_iadd O dX6_swapSaved_41 42 rfl ?_
        refine g_iload_n O dX6_swapSaved_42 43 2 rfl rfl ?_
        refine g_iast O dX6_swapSaved_43 44 rfl 4 rfl (by decide) (by omega) [(o, co 6 [vi N, vi P, .ref c, .ref l, .ref t, .ref n, .ref h, vi (hpc e), .ref b, .ref f]), (c, ca D 5 cap), (l, ca D 6 len), (t, ca D 30 lst), (n, ca D 12 (up (up g i (g (6 + i))) (6 + i) (g i))), (h, ca D 60 (edh e nw hi)), (b, ca D 1701 be), (f, ca D 6 fo)] rfl ?_
        refine g_iinc O dX6_swapSaved_44 47 1 [(0, .ref o), (1, vi (i + 1)), (2, vi (g i))] rfl (by decide) rfl rfl ?_
        refine g_goto O dX6_swapSaved_47 6 rfl ?_
        refine g_loc (L' := [(0, .ref o), (1, vi (i + 1))]) [0, 1] rfl ?_
        exact ih6 (i + 1) (up (up g i (g (6 + i))) (6 + i) (g i)) (by omega) (swx (by omega) h2 h3) (fun kk q => by unfold up; rw [if_neg (by omega), if_neg (by omega)]; exact h3 kk (by omega)) (by omega)
  exact lp6 1000 0 nw (by omega) (fun kk q1 q2 => absurd q2 (by omega)) (fun kk _ => rfl) (by omega)
theorem sX6_marginOverSaved_6 : ∀ w ∈ wsX60, w ∈ wsX6_marginOverSaved := by decide +kernel
theorem fX6_marginOverSaved_26 : FK RX6 wsX6_marginOverSaved 26 6 5 := ⟨RX6, TX6, 10, rfl, sX6_marginOverSaved_6, by decide, List.mem_of_getElem? (i := 2) rfl⟩
theorem fX6_marginOverSaved_7 : FK RX6 wsX6_marginOverSaved 7 6 0 := ⟨RX6, TX6, 10, rfl, sX6_marginOverSaved_6, by decide, List.mem_of_getElem? (i := 1) rfl⟩
set_option maxHeartbeats 4000000 in
set_option maxRecDepth 100000 in
theorem k_X6_marginOverSaved (D : DD) (o c l t n h b f : Nat) (N P : Int) (cap len lst nw hi : Int → Int) (e : Int) (be fo : Int → Int) (hW : WI N P cap len lst) (hnw : NW nw) : Con (S := Unit) D yX6_marginOverSaved wsX6_marginOverSaved ({ frames := 2, cells := 0, slots := 0, locals := 48 }) 0 0 [.ref o] [(o, co 6 [vi N, vi P, .ref c, .ref l, .ref t, .ref n, .ref h, vi e, .ref b, .ref f]), (c, ca D 5 cap), (l, ca D 6 len), (t, ca D 30 lst), (n, ca D 12 nw), (h, ca D 60 hi), (b, ca D 1701 be), (f, ca D 6 fo)] (fun u => some (vi (sm (mos len lst nw) N))) (fun u => True) (fun u => [(o, co 6 [vi N, vi P, .ref c, .ref l, .ref t, .ref n, .ref h, vi e, .ref b, .ref f]), (c, ca D 5 cap), (l, ca D 6 len), (t, ca D 30 lst), (n, ca D 12 nw), (h, ca D 60 hi), (b, ca D 1701 be), (f, ca D 6 fo)]) := by
  refine Con.of (cc := cX6_marginOverSaved) (nL := 3) (ret := (some .int)) rfl (by decide +kernel) (Nat.le_of_ble_eq_true rfl) ?_
  intro X A Q O hQ hin
  show G X D A 3 Q 0 0 0 [(0, .ref o)] [] [(o, co 6 [vi N, vi P, .ref c, .ref l, .ref t, .ref n, .ref h, vi e, .ref b, .ref f]), (c, ca D 5 cap), (l, ca D 6 len), (t, ca D 30 lst), (n, ca D 12 nw), (h, ca D 60 hi), (b, ca D 1701 be), (f, ca D 6 fo)]
  obtain ⟨hN, hcap, hlen, hlst, hdis⟩ := id hW
  refine g_iconst O dX6_marginOverSaved_0 1 rfl ?_
  refine g_istore_n O dX6_marginOverSaved_1 2 [(0, .ref o), (1, vi 0)] rfl (by decide) rfl ?_
  refine g_iconst O dX6_marginOverSaved_2 3 rfl ?_
  refine g_istore_n O dX6_marginOverSaved_3 4 [(0, .ref o), (1, vi 0), (2, vi 0)] rfl (by decide) rfl ?_
  have lp4 : ∀ (nn : Nat) (i : Int) (s : Int), (0 ≤ i ∧ i ≤ N) → (s = sm (mos len lst nw) i) → (N - i < (nn : Int)) → G X D A 3 Q 0 0 4 [(0, .ref o), (1, vi s), (2, vi i)] [] [(o, co 6 [vi N, vi P, .ref c, .ref l, .ref t, .ref n, .ref h, vi e, .ref b, .ref f]), (c, ca D 5 cap), (l, ca D 6 len), (t, ca D 30 lst), (n, ca D 12 nw), (h, ca D 60 hi), (b, ca D 1701 be), (f, ca D 6 fo)] := by
    intro nn
    induction nn with
    | zero =>
      intro i s h1 h2 hm4
      exact absurd hm4 (by omega)
    | succ nn ih4 =>
      intro i s h1 h2 hm4
      refine g_iload_n O dX6_marginOverSaved_4 5 2 rfl rfl ?_
      refine g_aload_n O dX6_marginOverSaved_5 6 0 rfl rfl ?_
      refine g_get O dX6_marginOverSaved_6 9 rfl fX6_marginOverSaved_7 0 rfl rfl ?_
      refine g_icmp_ge O dX6_marginOverSaved_9 12 41 rfl rfl (by omega) (fun h9 => ?_) (fun h9 => ?_)
      · skip
        refine g_iload_n O dX6_marginOverSaved_41 42 1 rfl rfl ?_
        exact g_iret O hQ dX6_marginOverSaved_42 () (vi_eq (by rw [h2, show i = N by omega])) rfl trivial ⟨by decide, by decide⟩
      · skip
        refine g_iload_n O dX6_marginOverSaved_12 13 1 rfl rfl ?_
        refine g_aload_n O dX6_marginOverSaved_13 14 0 rfl rfl ?_
        refine g_iload_n O dX6_marginOverSaved_14 15 2 rfl rfl ?_
        refine g_aload_n O dX6_marginOverSaved_15 16 0 rfl rfl ?_
        refine g_get O dX6_marginOverSaved_16 19 rfl fX6_marginOverSaved_26 0 rfl rfl ?_
        refine g_iload_n O dX6_marginOverSaved_19 20 2 rfl rfl ?_
        refine g_iald O dX6_marginOverSaved_20 21 rfl 4 rfl (by decide) (by omega) ?_
        refine g_aload_n O dX6_marginOverSaved_21 22 0 rfl rfl ?_
        refine g_get O dX6_marginOverSaved_22 25 rfl fX6_marginOverSaved_26 0 rfl rfl ?_
        refine g_bipush O dX6_marginOverSaved_25 27 rfl (by decide) ?_
        refine g_iload_n O dX6_marginOverSaved_27 28 2 rfl rfl ?_
        refine g_iadd O dX6_marginOverSaved_28 29 rfl ?_
        refine g_iald O dX6_marginOverSaved_29 30 rfl 4 rfl (by decide) (by omega) ?_
        have hn1 := hnw i (by omega) (by omega)
        have hn2 := hnw (6 + i) (by omega) (by omega)
        refine g_callV (As := [vi i, vi (nw i), vi (nw (6 + i))]) (rest := [vi s]) (na := 3) O (k_X6_vote D o c l t n h b f N P cap len lst nw hi e be fo i (nw i) (nw (6 + i)) hW (by omega) (by omega) (by omega)) dX6_marginOverSaved_30 gX6_marginOverSaved_X6_vote rfl ⟨rfl, rfl⟩ (by decide +kernel) rfl (by decide) (by decide) rfl (Nat.le_of_ble_eq_true rfl) (q0 := 0) (ci := 6) rfl rfl [0, 1, 2, 3, 4, 5, 6, 7] (by decide) rfl (fun _ => rfl) (fun _ => [(o, co 6 [vi N, vi P, .ref c, .ref l, .ref t, .ref n, .ref h, vi e, .ref b, .ref f]), (c, ca D 5 cap), (l, ca D 6 len), (t, ca D 30 lst), (n, ca D 12 nw), (h, ca D 60 hi), (b, ca D 1701 be), (f, ca D 6 fo)]) (fun _ => rfl) 33 rfl (fun _ _ => ?_)
        show G X D A 3 Q 0 0 33 [(0, .ref o), (1, vi s), (2, vi i)] [vi (vm len lst i (nw i) (nw (6 + i))), vi s] [(o, co 6 [vi N, vi P, .ref c, .ref l, .ref t, .ref n, .ref h, vi e, .ref b, .ref f]), (c, ca D 5 cap), (l, ca D 6 len), (t, ca D 30 lst), (n, ca D 12 nw), (h, ca D 60 hi), (b, ca D 1701 be), (f, ca D 6 fo)]
        refine g_iadd O dX6_marginOverSaved_33 34 rfl ?_
        refine g_istore_n O dX6_marginOverSaved_34 35 [(0, .ref o), (1, vi (s + (vm len lst i (nw i) (nw (6 + i))))), (2, vi i)] rfl (by decide) rfl ?_
        refine g_iinc O dX6_marginOverSaved_35 38 2 [(0, .ref o), (1, vi (s + (vm len lst i (nw i) (nw (6 + i))))), (2, vi (i + 1))] rfl (by decide) rfl rfl ?_
        refine g_goto O dX6_marginOverSaved_38 4 rfl ?_
        exact ih4 (i + 1) (s + (vm len lst i (nw i) (nw (6 + i)))) (by omega) (by rw [sm_s _ h1.1, ← h2]; rfl) (by omega)
  exact lp4 1000 0 0 (by omega) (sm_0 _).symm (by omega)
theorem sX6_reset_6 : ∀ w ∈ wsX60, w ∈ wsX6_reset := by decide +kernel
theorem fX6_reset_7 : FK RX6 wsX6_reset 7 6 0 := ⟨RX6, TX6, 10, rfl, sX6_reset_6, by decide, List.mem_of_getElem? (i := 1) rfl⟩
set_option maxHeartbeats 4000000 in
set_option maxRecDepth 100000 in
theorem k_X6_reset (D : DD) (o c l t n h b f : Nat) (N P : Int) (cap len lst nw hi : Int → Int) (e : Int) (be fo : Int → Int) (m p : Int) (hW : WI N P cap len lst) (hm : -2147483648 ≤ m ∧ m < 2147483648) (hp : -2147483648 ≤ p ∧ p < 2147483648) : Con (S := Int × Int × Int × (Int → Int) × (Int → Int) × (Int → Int) × Int) D yX6_reset wsX6_reset ({ frames := 2, cells := 0, slots := 0, locals := 44 }) 0 0 [.ref o, vi m, vi p] [(o, co 6 [vi N, vi P, .ref c, .ref l, .ref t, .ref n, .ref h, vi e, .ref b, .ref f]), (c, ca D 5 cap), (l, ca D 6 len), (t, ca D 30 lst), (n, ca D 12 nw), (h, ca D 60 hi), (b, ca D 1701 be), (f, ca D 6 fo)] (fun u => some (vi u.1)) (fun u => ((1 ≤ m ∧ m ≤ 6 ∧ 1 ≤ p ∧ p ≤ 5) ∧ u.1 = N ∧ u.2.1 = m ∧ u.2.2.1 = p ∧ u.2.2.2.1 = (fun _ => 1) ∧ u.2.2.2.2.1 = (fun _ => 0) ∧ u.2.2.2.2.2.1 = (fun _ => -1) ∧ u.2.2.2.2.2.2 = 0) ∨ (¬ (1 ≤ m ∧ m ≤ 6 ∧ 1 ≤ p ∧ p ≤ 5) ∧ u.1 = -101 ∧ u.2.1 = N ∧ u.2.2.1 = P ∧ u.2.2.2.1 = cap ∧ u.2.2.2.2.1 = len ∧ u.2.2.2.2.2.1 = nw ∧ u.2.2.2.2.2.2 = e)) (fun u => [(o, co 6 [vi u.2.1, vi u.2.2.1, .ref c, .ref l, .ref t, .ref n, .ref h, vi u.2.2.2.2.2.2, .ref b, .ref f]), (c, ca D 5 u.2.2.2.1), (l, ca D 6 u.2.2.2.2.1), (t, ca D 30 lst), (n, ca D 12 u.2.2.2.2.2.1), (h, ca D 60 hi), (b, ca D 1701 be), (f, ca D 6 fo)]) := by
  refine Con.of (cc := cX6_reset) (nL := 4) (ret := (some .int)) rfl (by decide +kernel) (Nat.le_of_ble_eq_true rfl) ?_
  intro X A Q O hQ hin
  show G X D A 4 Q 0 0 0 [(0, .ref o), (1, vi m), (2, vi p)] [] [(o, co 6 [vi N, vi P, .ref c, .ref l, .ref t, .ref n, .ref h, vi e, .ref b, .ref f]), (c, ca D 5 cap), (l, ca D 6 len), (t, ca D 30 lst), (n, ca D 12 nw), (h, ca D 60 hi), (b, ca D 1701 be), (f, ca D 6 fo)]
  obtain ⟨hN, hcap, hlen, hlst, hdis⟩ := id hW
  refine g_iload_n O dX6_reset_0 1 1 rfl rfl ?_
  refine g_iconst O dX6_reset_1 2 rfl ?_
  refine g_bipush O dX6_reset_2 4 rfl (by decide) ?_
  refine g_callS (As := [vi m, vi 1, vi 6]) (rest := []) (na := 3) O (k_X6_in D m 1 6 (by omega) (by omega) (by omega)) dX6_reset_4 gX6_reset_X6_in rfl ⟨rfl, rfl⟩ (by decide +kernel) rfl (by decide) (by decide) rfl (Nat.le_of_ble_eq_true rfl) [] (by decide) rfl (fun _ => rfl) (fun u => [(o, co 6 [vi N, vi P, .ref c, .ref l, .ref t, .ref n, .ref h, vi e, .ref b, .ref f]), (c, ca D 5 cap), (l, ca D 6 len), (t, ca D 30 lst), (n, ca D 12 nw), (h, ca D 60 hi), (b, ca D 1701 be), (f, ca D 6 fo)]) (fun _ => rfl) 7 rfl (fun u4 hu4 => ?_)
  obtain ⟨bz4, rfl⟩ : ∃ z, z = u4 := ⟨_, rfl⟩
  rcases hu4 with ⟨rfl, hb4⟩ | ⟨rfl, hb4⟩
  · skip
    have hb4 : 1 ≤ m ∧ m ≤ 6 := hb4
    show G X D A 4 Q 0 0 7 [(0, .ref o), (1, vi m), (2, vi p)] [vi 1] [(o, co 6 [vi N, vi P, .ref c, .ref l, .ref t, .ref n, .ref h, vi e, .ref b, .ref f]), (c, ca D 5 cap), (l, ca D 6 len), (t, ca D 30 lst), (n, ca D 12 nw), (h, ca D 60 hi), (b, ca D 1701 be), (f, ca D 6 fo)]
    refine g_if_eq O dX6_reset_7 10 19 rfl rfl (by omega) (fun h => absurd h (by decide)) (fun _ => ?_)
    refine g_iload_n O dX6_reset_10 11 2 rfl rfl ?_
    refine g_iconst O dX6_reset_11 12 rfl ?_
    refine g_iconst O dX6_reset_12 13 rfl ?_
    refine g_callS (As := [vi p, vi 1, vi 5]) (rest := []) (na := 3) O (k_X6_in D p 1 5 (by omega) (by omega) (by omega)) dX6_reset_13 gX6_reset_X6_in rfl ⟨rfl, rfl⟩ (by decide +kernel) rfl (by decide) (by decide) rfl (Nat.le_of_ble_eq_true rfl) [] (by decide) rfl (fun _ => rfl) (fun u => [(o, co 6 [vi N, vi P, .ref c, .ref l, .ref t, .ref n, .ref h, vi e, .ref b, .ref f]), (c, ca D 5 cap), (l, ca D 6 len), (t, ca D 30 lst), (n, ca D 12 nw), (h, ca D 60 hi), (b, ca D 1701 be), (f, ca D 6 fo)]) (fun _ => rfl) 16 rfl (fun u13 hu13 => ?_)
    obtain ⟨bz13, rfl⟩ : ∃ z, z = u13 := ⟨_, rfl⟩
    rcases hu13 with ⟨rfl, hb13⟩ | ⟨rfl, hb13⟩
    · skip
      have hb13 : 1 ≤ p ∧ p ≤ 5 := hb13
      show G X D A 4 Q 0 0 16 [(0, .ref o), (1, vi m), (2, vi p)] [vi 1] [(o, co 6 [vi N, vi P, .ref c, .ref l, .ref t, .ref n, .ref h, vi e, .ref b, .ref f]), (c, ca D 5 cap), (l, ca D 6 len), (t, ca D 30 lst), (n, ca D 12 nw), (h, ca D 60 hi), (b, ca D 1701 be), (f, ca D 6 fo)]
      refine g_if_ne O dX6_reset_16 19 22 rfl rfl (by omega) (fun _ => ?_) (fun h => absurd h (by decide))
      refine g_aload_n O dX6_reset_22 23 0 rfl rfl ?_
      refine g_get O dX6_reset_23 26 rfl fX6_reset_7 0 rfl rfl ?_
      refine g_istore_n O dX6_reset_26 27 [(0, .ref o), (1, vi m), (2, vi p), (3, vi N)] rfl (by decide) rfl ?_
      refine g_aload_n O dX6_reset_27 28 0 rfl rfl ?_
      refine g_iload_n O dX6_reset_28 29 1 rfl rfl ?_
      refine g_iload_n O dX6_reset_29 30 2 rfl rfl ?_
      refine g_callV (As := [vi m, vi p]) (rest := []) (na := 2) O (k_X6_builds D o c l t n h b f N P cap len lst nw hi e be fo m p) dX6_reset_30 gX6_reset_X6_builds rfl ⟨rfl, rfl⟩ (by decide +kernel) rfl (by decide) (by decide) rfl (Nat.le_of_ble_eq_true rfl) (q0 := 0) (ci := 6) rfl rfl [0, 1, 2, 3, 4, 5, 6, 7] (by decide) rfl (fun _ => rfl) (fun _ => [(o, co 6 [vi m, vi p, .ref c, .ref l, .ref t, .ref n, .ref h, vi 0, .ref b, .ref f]), (c, ca D 5 (fun _ => 1)), (l, ca D 6 (fun _ => 0)), (t, ca D 30 lst), (n, ca D 12 (fun _ => -1)), (h, ca D 60 hi), (b, ca D 1701 be), (f, ca D 6 fo)]) (fun _ => rfl) 33 rfl (fun _ _ => ?_)
      show G X D A 4 Q 0 0 33 [(0, .ref o), (1, vi m), (2, vi p), (3, vi N)] [] [(o, co 6 [vi m, vi p, .ref c, .ref l, .ref t, .ref n, .ref h, vi 0, .ref b, .ref f]), (c, ca D 5 (fun _ => 1)), (l, ca D 6 (fun _ => 0)), (t, ca D 30 lst), (n, ca D 12 (fun _ => -1)), (h, ca D 60 hi), (b, ca D 1701 be), (f, ca D 6 fo)]
      refine g_iload_n O dX6_reset_33 34 3 rfl rfl ?_
      exact g_iret O hQ dX6_reset_34 (N, m, p, fun _ => 1, fun _ => 0, fun _ => -1, 0) rfl rfl (Or.inl ⟨by omega, rfl, rfl, rfl, rfl, rfl, rfl, rfl⟩) ⟨by decide, by decide⟩
    · skip
      have hb13 : ¬ (1 ≤ p ∧ p ≤ 5) := hb13
      show G X D A 4 Q 0 0 16 [(0, .ref o), (1, vi m), (2, vi p)] [vi 0] [(o, co 6 [vi N, vi P, .ref c, .ref l, .ref t, .ref n, .ref h, vi e, .ref b, .ref f]), (c, ca D 5 cap), (l, ca D 6 len), (t, ca D 30 lst), (n, ca D 12 nw), (h, ca D 60 hi), (b, ca D 1701 be), (f, ca D 6 fo)]
      refine g_if_ne O dX6_reset_16 19 22 rfl rfl (by omega) (fun h => absurd h (by decide)) (fun _ => ?_)
      refine g_bipush O dX6_reset_19 21 rfl (by decide) ?_
      exact g_iret O hQ dX6_reset_21 (-101, N, P, cap, len, nw, e) rfl rfl (Or.inr ⟨by omega, rfl, rfl, rfl, rfl, rfl, rfl, rfl⟩) ⟨by decide, by decide⟩
  · skip
    have hb4 : ¬ (1 ≤ m ∧ m ≤ 6) := hb4
    show G X D A 4 Q 0 0 7 [(0, .ref o), (1, vi m), (2, vi p)] [vi 0] [(o, co 6 [vi N, vi P, .ref c, .ref l, .ref t, .ref n, .ref h, vi e, .ref b, .ref f]), (c, ca D 5 cap), (l, ca D 6 len), (t, ca D 30 lst), (n, ca D 12 nw), (h, ca D 60 hi), (b, ca D 1701 be), (f, ca D 6 fo)]
    refine g_if_eq O dX6_reset_7 10 19 rfl rfl (by omega) (fun _ => ?_) (fun h => absurd h (by decide))
    refine g_bipush O dX6_reset_19 21 rfl (by decide) ?_
    exact g_iret O hQ dX6_reset_21 (-101, N, P, cap, len, nw, e) rfl rfl (Or.inr ⟨by omega, rfl, rfl, rfl, rfl, rfl, rfl, rfl⟩) ⟨by decide, by decide⟩
theorem sX6_setCapacity_6 : ∀ w ∈ wsX60, w ∈ wsX6_setCapacity := by decide +kernel
theorem fX6_setCapacity_16 : FK RX6 wsX6_setCapacity 16 6 2 := ⟨RX6, TX6, 10, rfl, sX6_setCapacity_6, by decide, List.mem_of_getElem? (i := 1) rfl⟩
set_option maxHeartbeats 4000000 in
set_option maxRecDepth 100000 in
theorem k_X6_setCapacity (D : DD) (o c l t n h b f : Nat) (N P : Int) (cap len lst nw hi : Int → Int) (e : Int) (be fo : Int → Int) (p x : Int) (hW : WI N P cap len lst) (hp : -2147483648 ≤ p ∧ p < 2147483648) (hx : -2147483648 ≤ x ∧ x < 2147483648) : Con (S := Int × (Int → Int) × (Int → Int) × Int) D yX6_setCapacity wsX6_setCapacity ({ frames := 2, cells := 0, slots := 0, locals := 43 }) 0 0 [.ref o, vi p, vi x] [(o, co 6 [vi N, vi P, .ref c, .ref l, .ref t, .ref n, .ref h, vi e, .ref b, .ref f]), (c, ca D 5 cap), (l, ca D 6 len), (t, ca D 30 lst), (n, ca D 12 nw), (h, ca D 60 hi), (b, ca D 1701 be), (f, ca D 6 fo)] (fun u => some (vi u.1)) (fun u => ((0 ≤ p ∧ p < P ∧ 1 ≤ x ∧ x ≤ 2) ∧ u.1 = cap p ∧ u.2.1 = up cap p x ∧ u.2.2.1 = (fun _ => -1) ∧ u.2.2.2 = 0) ∨ (¬ (0 ≤ p ∧ p < P ∧ 1 ≤ x ∧ x ≤ 2) ∧ u.1 = -101 ∧ u.2.1 = cap ∧ u.2.2.1 = nw ∧ u.2.2.2 = e)) (fun u => [(o, co 6 [vi N, vi P, .ref c, .ref l, .ref t, .ref n, .ref h, vi u.2.2.2, .ref b, .ref f]), (c, ca D 5 u.2.1), (l, ca D 6 len), (t, ca D 30 lst), (n, ca D 12 u.2.2.1), (h, ca D 60 hi), (b, ca D 1701 be), (f, ca D 6 fo)]) := by
  refine Con.of (cc := cX6_setCapacity) (nL := 4) (ret := (some .int)) rfl (by decide +kernel) (Nat.le_of_ble_eq_true rfl) ?_
  intro X A Q O hQ hin
  show G X D A 4 Q 0 0 0 [(0, .ref o), (1, vi p), (2, vi x)] [] [(o, co 6 [vi N, vi P, .ref c, .ref l, .ref t, .ref n, .ref h, vi e, .ref b, .ref f]), (c, ca D 5 cap), (l, ca D 6 len), (t, ca D 30 lst), (n, ca D 12 nw), (h, ca D 60 hi), (b, ca D 1701 be), (f, ca D 6 fo)]
  obtain ⟨hN, hcap, hlen, hlst, hdis⟩ := id hW
  refine g_aload_n O dX6_setCapacity_0 1 0 rfl rfl ?_
  refine g_iload_n O dX6_setCapacity_1 2 1 rfl rfl ?_
  refine g_callV (As := [vi p]) (rest := []) (na := 1) O (k_X6_isPost D o c l t n h b f N P cap len lst nw hi e be fo p hW (by omega)) dX6_setCapacity_2 gX6_setCapacity_X6_isPost rfl ⟨rfl, rfl⟩ (by decide +kernel) rfl (by decide) (by decide) rfl (Nat.le_of_ble_eq_true rfl) (q0 := 0) (ci := 6) rfl rfl [0, 1, 2, 3, 4, 5, 6, 7] (by decide) rfl (fun _ => rfl) (fun u => [(o, co 6 [vi N, vi P, .ref c, .ref l, .ref t, .ref n, .ref h, vi e, .ref b, .ref f]), (c, ca D 5 cap), (l, ca D 6 len), (t, ca D 30 lst), (n, ca D 12 nw), (h, ca D 60 hi), (b, ca D 1701 be), (f, ca D 6 fo)]) (fun _ => rfl) 5 rfl (fun u2 hu2 => ?_)
  obtain ⟨bz2, rfl⟩ : ∃ z, z = u2 := ⟨_, rfl⟩
  rcases hu2 with ⟨rfl, hb2⟩ | ⟨rfl, hb2⟩
  · skip
    have hb2 : 0 ≤ p ∧ p < P := hb2
    show G X D A 4 Q 0 0 5 [(0, .ref o), (1, vi p), (2, vi x)] [vi 1] [(o, co 6 [vi N, vi P, .ref c, .ref l, .ref t, .ref n, .ref h, vi e, .ref b, .ref f]), (c, ca D 5 cap), (l, ca D 6 len), (t, ca D 30 lst), (n, ca D 12 nw), (h, ca D 60 hi), (b, ca D 1701 be), (f, ca D 6 fo)]
    refine g_if_eq O dX6_setCapacity_5 8 17 rfl rfl (by omega) (fun h => absurd h (by decide)) (fun _ => ?_)
    refine g_iload_n O dX6_setCapacity_8 9 2 rfl rfl ?_
    refine g_iconst O dX6_setCapacity_9 10 rfl ?_
    refine g_iconst O dX6_setCapacity_10 11 rfl ?_
    refine g_callS (As := [vi x, vi 1, vi 2]) (rest := []) (na := 3) O (k_X6_in D x 1 2 (by omega) (by omega) (by omega)) dX6_setCapacity_11 gX6_setCapacity_X6_in rfl ⟨rfl, rfl⟩ (by decide +kernel) rfl (by decide) (by decide) rfl (Nat.le_of_ble_eq_true rfl) [] (by decide) rfl (fun _ => rfl) (fun u => [(o, co 6 [vi N, vi P, .ref c, .ref l, .ref t, .ref n, .ref h, vi e, .ref b, .ref f]), (c, ca D 5 cap), (l, ca D 6 len), (t, ca D 30 lst), (n, ca D 12 nw), (h, ca D 60 hi), (b, ca D 1701 be), (f, ca D 6 fo)]) (fun _ => rfl) 14 rfl (fun u11 hu11 => ?_)
    obtain ⟨bz11, rfl⟩ : ∃ z, z = u11 := ⟨_, rfl⟩
    rcases hu11 with ⟨rfl, hb11⟩ | ⟨rfl, hb11⟩
    · skip
      have hb11 : 1 ≤ x ∧ x ≤ 2 := hb11
      show G X D A 4 Q 0 0 14 [(0, .ref o), (1, vi p), (2, vi x)] [vi 1] [(o, co 6 [vi N, vi P, .ref c, .ref l, .ref t, .ref n, .ref h, vi e, .ref b, .ref f]), (c, ca D 5 cap), (l, ca D 6 len), (t, ca D 30 lst), (n, ca D 12 nw), (h, ca D 60 hi), (b, ca D 1701 be), (f, ca D 6 fo)]
      refine g_if_ne O dX6_setCapacity_14 17 20 rfl rfl (by omega) (fun _ => ?_) (fun h => absurd h (by decide))
      refine g_aload_n O dX6_setCapacity_20 21 0 rfl rfl ?_
      refine g_get O dX6_setCapacity_21 24 rfl fX6_setCapacity_16 0 rfl rfl ?_
      refine g_iload_n O dX6_setCapacity_24 25 1 rfl rfl ?_
      refine g_iald O dX6_setCapacity_25 26 rfl 1 rfl (by decide) (by omega) ?_
      refine g_istore_n O dX6_setCapacity_26 27 [(0, .ref o), (1, vi p), (2, vi x), (3, vi (cap p))] rfl (by decide) rfl ?_
      refine g_aload_n O dX6_setCapacity_27 28 0 rfl rfl ?_
      refine g_get O dX6_setCapacity_28 31 rfl fX6_setCapacity_16 0 rfl rfl ?_
      refine g_iload_n O dX6_setCapacity_31 32 1 rfl rfl ?_
      refine g_iload_n O dX6_setCapacity_32 33 2 rfl rfl ?_
      refine g_iast O dX6_setCapacity_33 34 rfl 1 rfl (by decide) (by omega) [(o, co 6 [vi N, vi P, .ref c, .ref l, .ref t, .ref n, .ref h, vi e, .ref b, .ref f]), (c, ca D 5 (up cap p x)), (l, ca D 6 len), (t, ca D 30 lst), (n, ca D 12 nw), (h, ca D 60 hi), (b, ca D 1701 be), (f, ca D 6 fo)] rfl ?_
      refine g_aload_n O dX6_setCapacity_34 35 0 rfl rfl ?_
      refine g_callV (As := []) (rest := []) (na := 0) O (k_X6_clears D o c l t n h b f N P (up cap p x) len lst nw hi e be fo) dX6_setCapacity_35 gX6_setCapacity_X6_clears rfl ⟨rfl, rfl⟩ (by decide +kernel) rfl (by decide) (by decide) rfl (Nat.le_of_ble_eq_true rfl) (q0 := 0) (ci := 6) rfl rfl [0, 1, 2, 3, 4, 5, 6, 7] (by decide) rfl (fun _ => rfl) (fun _ => [(o, co 6 [vi N, vi P, .ref c, .ref l, .ref t, .ref n, .ref h, vi 0, .ref b, .ref f]), (c, ca D 5 (up cap p x)), (l, ca D 6 len), (t, ca D 30 lst), (n, ca D 12 (fun _ => -1)), (h, ca D 60 hi), (b, ca D 1701 be), (f, ca D 6 fo)]) (fun _ => rfl) 38 rfl (fun _ _ => ?_)
      show G X D A 4 Q 0 0 38 [(0, .ref o), (1, vi p), (2, vi x), (3, vi (cap p))] [] [(o, co 6 [vi N, vi P, .ref c, .ref l, .ref t, .ref n, .ref h, vi 0, .ref b, .ref f]), (c, ca D 5 (up cap p x)), (l, ca D 6 len), (t, ca D 30 lst), (n, ca D 12 (fun _ => -1)), (h, ca D 60 hi), (b, ca D 1701 be), (f, ca D 6 fo)]
      refine g_iload_n O dX6_setCapacity_38 39 3 rfl rfl ?_
      exact g_iret O hQ dX6_setCapacity_39 (cap p, up cap p x, fun _ => -1, 0) rfl rfl (Or.inl ⟨by omega, rfl, rfl, rfl, rfl⟩) ⟨by decide, by decide⟩
    · skip
      have hb11 : ¬ (1 ≤ x ∧ x ≤ 2) := hb11
      show G X D A 4 Q 0 0 14 [(0, .ref o), (1, vi p), (2, vi x)] [vi 0] [(o, co 6 [vi N, vi P, .ref c, .ref l, .ref t, .ref n, .ref h, vi e, .ref b, .ref f]), (c, ca D 5 cap), (l, ca D 6 len), (t, ca D 30 lst), (n, ca D 12 nw), (h, ca D 60 hi), (b, ca D 1701 be), (f, ca D 6 fo)]
      refine g_if_ne O dX6_setCapacity_14 17 20 rfl rfl (by omega) (fun h => absurd h (by decide)) (fun _ => ?_)
      refine g_bipush O dX6_setCapacity_17 19 rfl (by decide) ?_
      exact g_iret O hQ dX6_setCapacity_19 (-101, cap, nw, e) rfl rfl (Or.inr ⟨by omega, rfl, rfl, rfl, rfl⟩) ⟨by decide, by decide⟩
  · skip
    have hb2 : ¬ (0 ≤ p ∧ p < P) := hb2
    show G X D A 4 Q 0 0 5 [(0, .ref o), (1, vi p), (2, vi x)] [vi 0] [(o, co 6 [vi N, vi P, .ref c, .ref l, .ref t, .ref n, .ref h, vi e, .ref b, .ref f]), (c, ca D 5 cap), (l, ca D 6 len), (t, ca D 30 lst), (n, ca D 12 nw), (h, ca D 60 hi), (b, ca D 1701 be), (f, ca D 6 fo)]
    refine g_if_eq O dX6_setCapacity_5 8 17 rfl rfl (by omega) (fun _ => ?_) (fun h => absurd h (by decide))
    refine g_bipush O dX6_setCapacity_17 19 rfl (by decide) ?_
    exact g_iret O hQ dX6_setCapacity_19 (-101, cap, nw, e) rfl rfl (Or.inr ⟨by omega, rfl, rfl, rfl, rfl⟩) ⟨by decide, by decide⟩
theorem sX6_appendPreference_6 : ∀ w ∈ wsX60, w ∈ wsX6_appendPreference := by decide +kernel
theorem fX6_appendPreference_20 : FK RX6 wsX6_appendPreference 20 6 3 := ⟨RX6, TX6, 10, rfl, sX6_appendPreference_6, by decide, List.mem_of_getElem? (i := 2) rfl⟩
theorem fX6_appendPreference_23 : FK RX6 wsX6_appendPreference 23 6 4 := ⟨RX6, TX6, 10, rfl, sX6_appendPreference_6, by decide, List.mem_of_getElem? (i := 1) rfl⟩
set_option maxHeartbeats 4000000 in
set_option maxRecDepth 100000 in
theorem k_X6_appendPreference (D : DD) (o c l t n h b f : Nat) (N P : Int) (cap len lst nw hi : Int → Int) (e : Int) (be fo : Int → Int) (a p : Int) (hW : WI N P cap len lst) (ha : -2147483648 ≤ a ∧ a < 2147483648) (hp : -2147483648 ≤ p ∧ p < 2147483648) : Con (S := Int × (Int → Int) × (Int → Int) × (Int → Int) × Int) D yX6_appendPreference wsX6_appendPreference ({ frames := 2, cells := 0, slots := 0, locals := 43 }) 0 0 [.ref o, vi a, vi p] [(o, co 6 [vi N, vi P, .ref c, .ref l, .ref t, .ref n, .ref h, vi e, .ref b, .ref f]), (c, ca D 5 cap), (l, ca D 6 len), (t, ca D 30 lst), (n, ca D 12 nw), (h, ca D 60 hi), (b, ca D 1701 be), (f, ca D 6 fo)] (fun u => some (vi u.1)) (fun u => (¬ (0 ≤ a ∧ a < N ∧ 0 ≤ p ∧ p < P) ∧ u.1 = -101 ∧ u.2.1 = len ∧ u.2.2.1 = lst ∧ u.2.2.2.1 = nw ∧ u.2.2.2.2 = e) ∨ ((0 ≤ a ∧ a < N ∧ 0 ≤ p ∧ p < P) ∧ rk (row lst a) p (len a) < len a ∧ u.1 = -102 ∧ u.2.1 = len ∧ u.2.2.1 = lst ∧ u.2.2.2.1 = nw ∧ u.2.2.2.2 = e) ∨ ((0 ≤ a ∧ a < N ∧ 0 ≤ p ∧ p < P) ∧ ¬ rk (row lst a) p (len a) < len a ∧ u.1 = len a + 1 ∧ u.2.1 = up len a (len a + 1) ∧ u.2.2.1 = up lst (a * 5 + len a) p ∧ u.2.2.2.1 = (fun _ => -1) ∧ u.2.2.2.2 = 0)) (fun u => [(o, co 6 [vi N, vi P, .ref c, .ref l, .ref t, .ref n, .ref h, vi u.2.2.2.2, .ref b, .ref f]), (c, ca D 5 cap), (l, ca D 6 u.2.1), (t, ca D 30 u.2.2.1), (n, ca D 12 u.2.2.2.1), (h, ca D 60 hi), (b, ca D 1701 be), (f, ca D 6 fo)]) := by
  refine Con.of (cc := cX6_appendPreference) (nL := 3) (ret := (some .int)) rfl (by decide +kernel) (Nat.le_of_ble_eq_true rfl) ?_
  intro X A Q O hQ hin
  show G X D A 3 Q 0 0 0 [(0, .ref o), (1, vi a), (2, vi p)] [] [(o, co 6 [vi N, vi P, .ref c, .ref l, .ref t, .ref n, .ref h, vi e, .ref b, .ref f]), (c, ca D 5 cap), (l, ca D 6 len), (t, ca D 30 lst), (n, ca D 12 nw), (h, ca D 60 hi), (b, ca D 1701 be), (f, ca D 6 fo)]
  obtain ⟨hN, hcap, hlen, hlst, hdis⟩ := id hW
  refine g_aload_n O dX6_appendPreference_0 1 0 rfl rfl ?_
  refine g_iload_n O dX6_appendPreference_1 2 1 rfl rfl ?_
  refine g_callV (As := [vi a]) (rest := []) (na := 1) O (k_X6_isApplicant D o c l t n h b f N P cap len lst nw hi e be fo a hW (by omega)) dX6_appendPreference_2 gX6_appendPreference_X6_isApplicant rfl ⟨rfl, rfl⟩ (by decide +kernel) rfl (by decide) (by decide) rfl (Nat.le_of_ble_eq_true rfl) (q0 := 0) (ci := 6) rfl rfl [0, 1, 2, 3, 4, 5, 6, 7] (by decide) rfl (fun _ => rfl) (fun u => [(o, co 6 [vi N, vi P, .ref c, .ref l, .ref t, .ref n, .ref h, vi e, .ref b, .ref f]), (c, ca D 5 cap), (l, ca D 6 len), (t, ca D 30 lst), (n, ca D 12 nw), (h, ca D 60 hi), (b, ca D 1701 be), (f, ca D 6 fo)]) (fun _ => rfl) 5 rfl (fun u2 hu2 => ?_)
  obtain ⟨bz2, rfl⟩ : ∃ z, z = u2 := ⟨_, rfl⟩
  rcases hu2 with ⟨rfl, hb2⟩ | ⟨rfl, hb2⟩
  · skip
    have hb2 : 0 ≤ a ∧ a < N := hb2
    show G X D A 3 Q 0 0 5 [(0, .ref o), (1, vi a), (2, vi p)] [vi 1] [(o, co 6 [vi N, vi P, .ref c, .ref l, .ref t, .ref n, .ref h, vi e, .ref b, .ref f]), (c, ca D 5 cap), (l, ca D 6 len), (t, ca D 30 lst), (n, ca D 12 nw), (h, ca D 60 hi), (b, ca D 1701 be), (f, ca D 6 fo)]
    refine g_if_eq O dX6_appendPreference_5 8 16 rfl rfl (by omega) (fun h => absurd h (by decide)) (fun _ => ?_)
    refine g_aload_n O dX6_appendPreference_8 9 0 rfl rfl ?_
    refine g_iload_n O dX6_appendPreference_9 10 2 rfl rfl ?_
    refine g_callV (As := [vi p]) (rest := []) (na := 1) O (k_X6_isPost D o c l t n h b f N P cap len lst nw hi e be fo p hW (by omega)) dX6_appendPreference_10 gX6_appendPreference_X6_isPost rfl ⟨rfl, rfl⟩ (by decide +kernel) rfl (by decide) (by decide) rfl (Nat.le_of_ble_eq_true rfl) (q0 := 0) (ci := 6) rfl rfl [0, 1, 2, 3, 4, 5, 6, 7] (by decide) rfl (fun _ => rfl) (fun u => [(o, co 6 [vi N, vi P, .ref c, .ref l, .ref t, .ref n, .ref h, vi e, .ref b, .ref f]), (c, ca D 5 cap), (l, ca D 6 len), (t, ca D 30 lst), (n, ca D 12 nw), (h, ca D 60 hi), (b, ca D 1701 be), (f, ca D 6 fo)]) (fun _ => rfl) 13 rfl (fun u10 hu10 => ?_)
    obtain ⟨bz10, rfl⟩ : ∃ z, z = u10 := ⟨_, rfl⟩
    rcases hu10 with ⟨rfl, hb10⟩ | ⟨rfl, hb10⟩
    · skip
      have hb10 : 0 ≤ p ∧ p < P := hb10
      show G X D A 3 Q 0 0 13 [(0, .ref o), (1, vi a), (2, vi p)] [vi 1] [(o, co 6 [vi N, vi P, .ref c, .ref l, .ref t, .ref n, .ref h, vi e, .ref b, .ref f]), (c, ca D 5 cap), (l, ca D 6 len), (t, ca D 30 lst), (n, ca D 12 nw), (h, ca D 60 hi), (b, ca D 1701 be), (f, ca D 6 fo)]
      refine g_if_ne O dX6_appendPreference_13 16 19 rfl rfl (by omega) (fun _ => ?_) (fun h => absurd h (by decide))
      refine g_aload_n O dX6_appendPreference_19 20 0 rfl rfl ?_
      refine g_iload_n O dX6_appendPreference_20 21 1 rfl rfl ?_
      refine g_iload_n O dX6_appendPreference_21 22 2 rfl rfl ?_
      refine g_callV (As := [vi a, vi p]) (rest := []) (na := 2) O (k_X6_rank D o c l t n h b f N P cap len lst nw hi e be fo a p hW (by omega) (by omega)) dX6_appendPreference_22 gX6_appendPreference_X6_rank rfl ⟨rfl, rfl⟩ (by decide +kernel) rfl (by decide) (by decide) rfl (Nat.le_of_ble_eq_true rfl) (q0 := 0) (ci := 6) rfl rfl [0, 1, 2, 3, 4, 5, 6, 7] (by decide) rfl (fun _ => rfl) (fun _ => [(o, co 6 [vi N, vi P, .ref c, .ref l, .ref t, .ref n, .ref h, vi e, .ref b, .ref f]), (c, ca D 5 cap), (l, ca D 6 len), (t, ca D 30 lst), (n, ca D 12 nw), (h, ca D 60 hi), (b, ca D 1701 be), (f, ca D 6 fo)]) (fun _ => rfl) 25 rfl (fun _ _ => ?_)
      show G X D A 3 Q 0 0 25 [(0, .ref o), (1, vi a), (2, vi p)] [vi (rm9 len lst a p)] [(o, co 6 [vi N, vi P, .ref c, .ref l, .ref t, .ref n, .ref h, vi e, .ref b, .ref f]), (c, ca D 5 cap), (l, ca D 6 len), (t, ca D 30 lst), (n, ca D 12 nw), (h, ca D 60 hi), (b, ca D 1701 be), (f, ca D 6 fo)]
      have hla := hlen a (by omega) (by omega)
      have hrb := rm9_bd hW (a := a) (p := p) (by omega) (by omega)
      refine g_bipush O dX6_appendPreference_25 27 rfl (by decide) ?_
      refine g_icmp_ge O dX6_appendPreference_27 30 33 rfl rfl (by omega) (fun h27 => ?_) (fun h27 => ?_)
      · skip
        have hnl : ¬ rk (row lst a) p (len a) < len a := rm9_ge hW (by omega) (by omega) h27
        have hl4 := WI_room hW (by omega) (by omega) (by omega) (by omega) hnl
        refine g_aload_n O dX6_appendPreference_33 34 0 rfl rfl ?_
        refine g_get O dX6_appendPreference_34 37 rfl fX6_appendPreference_23 0 rfl rfl ?_
        refine g_iconst O dX6_appendPreference_37 38 rfl ?_
        refine g_iload_n O dX6_appendPreference_38 39 1 rfl rfl ?_
        refine g_imul O dX6_appendPreference_39 40 rfl ?_
        refine g_aload_n O dX6_appendPreference_40 41 0 rfl rfl ?_
        refine g_get O dX6_appendPreference_41 44 rfl fX6_appendPreference_20 0 rfl rfl ?_
        refine g_iload_n O dX6_appendPreference_44 45 1 rfl rfl ?_
        refine g_iald O dX6_appendPreference_45 46 rfl 2 rfl (by decide) (by omega) ?_
        refine g_iadd O dX6_appendPreference_46 47 rfl ?_
        refine g_iload_n O dX6_appendPreference_47 48 2 rfl rfl ?_
        refine g_iast O dX6_appendPreference_48 49 rfl 3 rfl (by decide) (by omega) [(o, co 6 [vi N, vi P, .ref c, .ref l, .ref t, .ref n, .ref h, vi e, .ref b, .ref f]), (c, ca D 5 cap), (l, ca D 6 len), (t, ca D 30 (up lst ((5 * a) + (len a)) p)), (n, ca D 12 nw), (h, ca D 60 hi), (b, ca D 1701 be), (f, ca D 6 fo)] rfl ?_
        refine g_arr 3 (up lst (a * 5 + len a) p) rfl (fun kk _ _ => by congr 1; omega) [(o, co 6 [vi N, vi P, .ref c, .ref l, .ref t, .ref n, .ref h, vi e, .ref b, .ref f]), (c, ca D 5 cap), (l, ca D 6 len), (t, ca D 30 (up lst (a * 5 + len a) p)), (n, ca D 12 nw), (h, ca D 60 hi), (b, ca D 1701 be), (f, ca D 6 fo)] rfl ?_
        refine g_aload_n O dX6_appendPreference_49 50 0 rfl rfl ?_
        refine g_get O dX6_appendPreference_50 53 rfl fX6_appendPreference_20 0 rfl rfl ?_
        refine g_iload_n O dX6_appendPreference_53 54 1 rfl rfl ?_
        refine g_dup2 O dX6_appendPreference_54 55 rfl rfl rfl ?_
        refine g_iald O dX6_appendPreference_55 56 rfl 2 rfl (by decide) (by omega) ?_
        refine g_iconst O dX6_appendPreference_56 57 rfl ?_
        refine g_iadd O dX6_appendPreference_57 58 rfl ?_
        refine g_iast O dX6_appendPreference_58 59 rfl 2 rfl (by decide) (by omega) [(o, co 6 [vi N, vi P, .ref c, .ref l, .ref t, .ref n, .ref h, vi e, .ref b, .ref f]), (c, ca D 5 cap), (l, ca D 6 (up len a ((len a) + 1))), (t, ca D 30 (up lst (a * 5 + len a) p)), (n, ca D 12 nw), (h, ca D 60 hi), (b, ca D 1701 be), (f, ca D 6 fo)] rfl ?_
        refine g_aload_n O dX6_appendPreference_59 60 0 rfl rfl ?_
        refine g_callV (As := []) (rest := []) (na := 0) O (k_X6_clears D o c l t n h b f N P cap (up len a ((len a) + 1)) (up lst (a * 5 + len a) p) nw hi e be fo) dX6_appendPreference_60 gX6_appendPreference_X6_clears rfl ⟨rfl, rfl⟩ (by decide +kernel) rfl (by decide) (by decide) rfl (Nat.le_of_ble_eq_true rfl) (q0 := 0) (ci := 6) rfl rfl [0, 1, 2, 3, 4, 5, 6, 7] (by decide) rfl (fun _ => rfl) (fun _ => [(o, co 6 [vi N, vi P, .ref c, .ref l, .ref t, .ref n, .ref h, vi 0, .ref b, .ref f]), (c, ca D 5 cap), (l, ca D 6 (up len a ((len a) + 1))), (t, ca D 30 (up lst (a * 5 + len a) p)), (n, ca D 12 (fun _ => -1)), (h, ca D 60 hi), (b, ca D 1701 be), (f, ca D 6 fo)]) (fun _ => rfl) 63 rfl (fun _ _ => ?_)
        show G X D A 3 Q 0 0 63 [(0, .ref o), (1, vi a), (2, vi p)] [] [(o, co 6 [vi N, vi P, .ref c, .ref l, .ref t, .ref n, .ref h, vi 0, .ref b, .ref f]), (c, ca D 5 cap), (l, ca D 6 (up len a ((len a) + 1))), (t, ca D 30 (up lst (a * 5 + len a) p)), (n, ca D 12 (fun _ => -1)), (h, ca D 60 hi), (b, ca D 1701 be), (f, ca D 6 fo)]
        refine g_aload_n O dX6_appendPreference_63 64 0 rfl rfl ?_
        refine g_get O dX6_appendPreference_64 67 rfl fX6_appendPreference_20 0 rfl rfl ?_
        refine g_iload_n O dX6_appendPreference_67 68 1 rfl rfl ?_
        refine g_iald O dX6_appendPreference_68 69 rfl 2 rfl (by decide) (by omega) ?_
        refine g_cv (y := len a + 1) (up_s _ _ _) ?_
        exact g_iret O hQ dX6_appendPreference_69 (len a + 1, up len a ((len a) + 1), up lst (a * 5 + len a) p, fun _ => -1, 0) rfl rfl (Or.inr (Or.inr ⟨by omega, hnl, rfl, rfl, rfl, rfl, rfl⟩)) ⟨by decide, by decide⟩
      · skip
        refine g_bipush O dX6_appendPreference_30 32 rfl (by decide) ?_
        exact g_iret O hQ dX6_appendPreference_32 (-102, len, lst, nw, e) rfl rfl (Or.inr (Or.inl ⟨by omega, rm9_lt (by omega), rfl, rfl, rfl, rfl, rfl⟩)) ⟨by decide, by decide⟩
    · skip
      have hb10 : ¬ (0 ≤ p ∧ p < P) := hb10
      show G X D A 3 Q 0 0 13 [(0, .ref o), (1, vi a), (2, vi p)] [vi 0] [(o, co 6 [vi N, vi P, .ref c, .ref l, .ref t, .ref n, .ref h, vi e, .ref b, .ref f]), (c, ca D 5 cap), (l, ca D 6 len), (t, ca D 30 lst), (n, ca D 12 nw), (h, ca D 60 hi), (b, ca D 1701 be), (f, ca D 6 fo)]
      refine g_if_ne O dX6_appendPreference_13 16 19 rfl rfl (by omega) (fun h => absurd h (by decide)) (fun _ => ?_)
      refine g_bipush O dX6_appendPreference_16 18 rfl (by decide) ?_
      exact g_iret O hQ dX6_appendPreference_18 (-101, len, lst, nw, e) rfl rfl (Or.inl ⟨by omega, rfl, rfl, rfl, rfl, rfl⟩) ⟨by decide, by decide⟩
  · skip
    have hb2 : ¬ (0 ≤ a ∧ a < N) := hb2
    show G X D A 3 Q 0 0 5 [(0, .ref o), (1, vi a), (2, vi p)] [vi 0] [(o, co 6 [vi N, vi P, .ref c, .ref l, .ref t, .ref n, .ref h, vi e, .ref b, .ref f]), (c, ca D 5 cap), (l, ca D 6 len), (t, ca D 30 lst), (n, ca D 12 nw), (h, ca D 60 hi), (b, ca D 1701 be), (f, ca D 6 fo)]
    refine g_if_eq O dX6_appendPreference_5 8 16 rfl rfl (by omega) (fun _ => ?_) (fun h => absurd h (by decide))
    refine g_bipush O dX6_appendPreference_16 18 rfl (by decide) ?_
    exact g_iret O hQ dX6_appendPreference_18 (-101, len, lst, nw, e) rfl rfl (Or.inl ⟨by omega, rfl, rfl, rfl, rfl, rfl⟩) ⟨by decide, by decide⟩
theorem sX6_clearPreferences_6 : ∀ w ∈ wsX60, w ∈ wsX6_clearPreferences := by decide +kernel
theorem fX6_clearPreferences_20 : FK RX6 wsX6_clearPreferences 20 6 3 := ⟨RX6, TX6, 10, rfl, sX6_clearPreferences_6, by decide, List.mem_of_getElem? (i := 1) rfl⟩
set_option maxHeartbeats 4000000 in
set_option maxRecDepth 100000 in
theorem k_X6_clearPreferences (D : DD) (o c l t n h b f : Nat) (N P : Int) (cap len lst nw hi : Int → Int) (e : Int) (be fo : Int → Int) (a : Int) (hW : WI N P cap len lst) (ha : -2147483648 ≤ a ∧ a < 2147483648) : Con (S := Int × (Int → Int) × (Int → Int) × Int) D yX6_clearPreferences wsX6_clearPreferences ({ frames := 2, cells := 0, slots := 0, locals := 43 }) 0 0 [.ref o, vi a] [(o, co 6 [vi N, vi P, .ref c, .ref l, .ref t, .ref n, .ref h, vi e, .ref b, .ref f]), (c, ca D 5 cap), (l, ca D 6 len), (t, ca D 30 lst), (n, ca D 12 nw), (h, ca D 60 hi), (b, ca D 1701 be), (f, ca D 6 fo)] (fun u => some (vi u.1)) (fun u => ((0 ≤ a ∧ a < N) ∧ u.1 = len a ∧ u.2.1 = up len a 0 ∧ u.2.2.1 = (fun _ => -1) ∧ u.2.2.2 = 0) ∨ (¬ (0 ≤ a ∧ a < N) ∧ u.1 = -101 ∧ u.2.1 = len ∧ u.2.2.1 = nw ∧ u.2.2.2 = e)) (fun u => [(o, co 6 [vi N, vi P, .ref c, .ref l, .ref t, .ref n, .ref h, vi u.2.2.2, .ref b, .ref f]), (c, ca D 5 cap), (l, ca D 6 u.2.1), (t, ca D 30 lst), (n, ca D 12 u.2.2.1), (h, ca D 60 hi), (b, ca D 1701 be), (f, ca D 6 fo)]) := by
  refine Con.of (cc := cX6_clearPreferences) (nL := 3) (ret := (some .int)) rfl (by decide +kernel) (Nat.le_of_ble_eq_true rfl) ?_
  intro X A Q O hQ hin
  show G X D A 3 Q 0 0 0 [(0, .ref o), (1, vi a)] [] [(o, co 6 [vi N, vi P, .ref c, .ref l, .ref t, .ref n, .ref h, vi e, .ref b, .ref f]), (c, ca D 5 cap), (l, ca D 6 len), (t, ca D 30 lst), (n, ca D 12 nw), (h, ca D 60 hi), (b, ca D 1701 be), (f, ca D 6 fo)]
  obtain ⟨hN, hcap, hlen, hlst, hdis⟩ := id hW
  refine g_aload_n O dX6_clearPreferences_0 1 0 rfl rfl ?_
  refine g_iload_n O dX6_clearPreferences_1 2 1 rfl rfl ?_
  refine g_callV (As := [vi a]) (rest := []) (na := 1) O (k_X6_isApplicant D o c l t n h b f N P cap len lst nw hi e be fo a hW (by omega)) dX6_clearPreferences_2 gX6_clearPreferences_X6_isApplicant rfl ⟨rfl, rfl⟩ (by decide +kernel) rfl (by decide) (by decide) rfl (Nat.le_of_ble_eq_true rfl) (q0 := 0) (ci := 6) rfl rfl [0, 1, 2, 3, 4, 5, 6, 7] (by decide) rfl (fun _ => rfl) (fun u => [(o, co 6 [vi N, vi P, .ref c, .ref l, .ref t, .ref n, .ref h, vi e, .ref b, .ref f]), (c, ca D 5 cap), (l, ca D 6 len), (t, ca D 30 lst), (n, ca D 12 nw), (h, ca D 60 hi), (b, ca D 1701 be), (f, ca D 6 fo)]) (fun _ => rfl) 5 rfl (fun u2 hu2 => ?_)
  obtain ⟨bz2, rfl⟩ : ∃ z, z = u2 := ⟨_, rfl⟩
  rcases hu2 with ⟨rfl, hb2⟩ | ⟨rfl, hb2⟩
  · skip
    have hb2 : 0 ≤ a ∧ a < N := hb2
    show G X D A 3 Q 0 0 5 [(0, .ref o), (1, vi a)] [vi 1] [(o, co 6 [vi N, vi P, .ref c, .ref l, .ref t, .ref n, .ref h, vi e, .ref b, .ref f]), (c, ca D 5 cap), (l, ca D 6 len), (t, ca D 30 lst), (n, ca D 12 nw), (h, ca D 60 hi), (b, ca D 1701 be), (f, ca D 6 fo)]
    refine g_if_ne O dX6_clearPreferences_5 8 11 rfl rfl (by omega) (fun _ => ?_) (fun h => absurd h (by decide))
    refine g_aload_n O dX6_clearPreferences_11 12 0 rfl rfl ?_
    refine g_get O dX6_clearPreferences_12 15 rfl fX6_clearPreferences_20 0 rfl rfl ?_
    refine g_iload_n O dX6_clearPreferences_15 16 1 rfl rfl ?_
    refine g_iald O dX6_clearPreferences_16 17 rfl 2 rfl (by decide) (by omega) ?_
    refine g_istore_n O dX6_clearPreferences_17 18 [(0, .ref o), (1, vi a), (2, vi (len a))] rfl (by decide) rfl ?_
    refine g_aload_n O dX6_clearPreferences_18 19 0 rfl rfl ?_
    refine g_get O dX6_clearPreferences_19 22 rfl fX6_clearPreferences_20 0 rfl rfl ?_
    refine g_iload_n O dX6_clearPreferences_22 23 1 rfl rfl ?_
    refine g_iconst O dX6_clearPreferences_23 24 rfl ?_
    refine g_iast O dX6_clearPreferences_24 25 rfl 2 rfl (by decide) (by omega) [(o, co 6 [vi N, vi P, .ref c, .ref l, .ref t, .ref n, .ref h, vi e, .ref b, .ref f]), (c, ca D 5 cap), (l, ca D 6 (up len a 0)), (t, ca D 30 lst), (n, ca D 12 nw), (h, ca D 60 hi), (b, ca D 1701 be), (f, ca D 6 fo)] rfl ?_
    refine g_aload_n O dX6_clearPreferences_25 26 0 rfl rfl ?_
    refine g_callV (As := []) (rest := []) (na := 0) O (k_X6_clears D o c l t n h b f N P cap (up len a 0) lst nw hi e be fo) dX6_clearPreferences_26 gX6_clearPreferences_X6_clears rfl ⟨rfl, rfl⟩ (by decide +kernel) rfl (by decide) (by decide) rfl (Nat.le_of_ble_eq_true rfl) (q0 := 0) (ci := 6) rfl rfl [0, 1, 2, 3, 4, 5, 6, 7] (by decide) rfl (fun _ => rfl) (fun _ => [(o, co 6 [vi N, vi P, .ref c, .ref l, .ref t, .ref n, .ref h, vi 0, .ref b, .ref f]), (c, ca D 5 cap), (l, ca D 6 (up len a 0)), (t, ca D 30 lst), (n, ca D 12 (fun _ => -1)), (h, ca D 60 hi), (b, ca D 1701 be), (f, ca D 6 fo)]) (fun _ => rfl) 29 rfl (fun _ _ => ?_)
    show G X D A 3 Q 0 0 29 [(0, .ref o), (1, vi a), (2, vi (len a))] [] [(o, co 6 [vi N, vi P, .ref c, .ref l, .ref t, .ref n, .ref h, vi 0, .ref b, .ref f]), (c, ca D 5 cap), (l, ca D 6 (up len a 0)), (t, ca D 30 lst), (n, ca D 12 (fun _ => -1)), (h, ca D 60 hi), (b, ca D 1701 be), (f, ca D 6 fo)]
    refine g_iload_n O dX6_clearPreferences_29 30 2 rfl rfl ?_
    exact g_iret O hQ dX6_clearPreferences_30 (len a, up len a 0, fun _ => -1, 0) rfl rfl (Or.inl ⟨by omega, rfl, rfl, rfl, rfl⟩) ⟨by decide, by decide⟩
  · skip
    have hb2 : ¬ (0 ≤ a ∧ a < N) := hb2
    show G X D A 3 Q 0 0 5 [(0, .ref o), (1, vi a)] [vi 0] [(o, co 6 [vi N, vi P, .ref c, .ref l, .ref t, .ref n, .ref h, vi e, .ref b, .ref f]), (c, ca D 5 cap), (l, ca D 6 len), (t, ca D 30 lst), (n, ca D 12 nw), (h, ca D 60 hi), (b, ca D 1701 be), (f, ca D 6 fo)]
    refine g_if_ne O dX6_clearPreferences_5 8 11 rfl rfl (by omega) (fun h => absurd h (by decide)) (fun _ => ?_)
    refine g_bipush O dX6_clearPreferences_8 10 rfl (by decide) ?_
    exact g_iret O hQ dX6_clearPreferences_10 (-101, len, nw, e) rfl rfl (Or.inr ⟨by omega, rfl, rfl, rfl, rfl⟩) ⟨by decide, by decide⟩
theorem sX6_preferenceAt_6 : ∀ w ∈ wsX60, w ∈ wsX6_preferenceAt := by decide +kernel
theorem fX6_preferenceAt_20 : FK RX6 wsX6_preferenceAt 20 6 3 := ⟨RX6, TX6, 10, rfl, sX6_preferenceAt_6, by decide, List.mem_of_getElem? (i := 1) rfl⟩
theorem fX6_preferenceAt_23 : FK RX6 wsX6_preferenceAt 23 6 4 := ⟨RX6, TX6, 10, rfl, sX6_preferenceAt_6, by decide, List.mem_of_getElem? (i := 2) rfl⟩
set_option maxHeartbeats 4000000 in
set_option maxRecDepth 100000 in
theorem k_X6_preferenceAt (D : DD) (o c l t n h b f : Nat) (N P : Int) (cap len lst nw hi : Int → Int) (e : Int) (be fo : Int → Int) (a i : Int) (hW : WI N P cap len lst) (ha : -2147483648 ≤ a ∧ a < 2147483648) (hi1 : -2147483648 ≤ i ∧ i < 2147483648) : Con (S := Unit) D yX6_preferenceAt wsX6_preferenceAt ({ frames := 2, cells := 0, slots := 0, locals := 43 }) 0 0 [.ref o, vi a, vi i] [(o, co 6 [vi N, vi P, .ref c, .ref l, .ref t, .ref n, .ref h, vi e, .ref b, .ref f]), (c, ca D 5 cap), (l, ca D 6 len), (t, ca D 30 lst), (n, ca D 12 nw), (h, ca D 60 hi), (b, ca D 1701 be), (f, ca D 6 fo)] (fun u => some (vi (if 0 ≤ a ∧ a < N ∧ 0 ≤ i then (if i < len a then row lst a i else -104) else -101))) (fun u => True) (fun u => [(o, co 6 [vi N, vi P, .ref c, .ref l, .ref t, .ref n, .ref h, vi e, .ref b, .ref f]), (c, ca D 5 cap), (l, ca D 6 len), (t, ca D 30 lst), (n, ca D 12 nw), (h, ca D 60 hi), (b, ca D 1701 be), (f, ca D 6 fo)]) := by
  refine Con.of (cc := cX6_preferenceAt) (nL := 3) (ret := (some .int)) rfl (by decide +kernel) (Nat.le_of_ble_eq_true rfl) ?_
  intro X A Q O hQ hin
  show G X D A 3 Q 0 0 0 [(0, .ref o), (1, vi a), (2, vi i)] [] [(o, co 6 [vi N, vi P, .ref c, .ref l, .ref t, .ref n, .ref h, vi e, .ref b, .ref f]), (c, ca D 5 cap), (l, ca D 6 len), (t, ca D 30 lst), (n, ca D 12 nw), (h, ca D 60 hi), (b, ca D 1701 be), (f, ca D 6 fo)]
  obtain ⟨hN, hcap, hlen, hlst, hdis⟩ := id hW
  refine g_aload_n O dX6_preferenceAt_0 1 0 rfl rfl ?_
  refine g_iload_n O dX6_preferenceAt_1 2 1 rfl rfl ?_
  refine g_callV (As := [vi a]) (rest := []) (na := 1) O (k_X6_isApplicant D o c l t n h b f N P cap len lst nw hi e be fo a hW (by omega)) dX6_preferenceAt_2 gX6_preferenceAt_X6_isApplicant rfl ⟨rfl, rfl⟩ (by decide +kernel) rfl (by decide) (by decide) rfl (Nat.le_of_ble_eq_true rfl) (q0 := 0) (ci := 6) rfl rfl [0, 1, 2, 3, 4, 5, 6, 7] (by decide) rfl (fun _ => rfl) (fun u => [(o, co 6 [vi N, vi P, .ref c, .ref l, .ref t, .ref n, .ref h, vi e, .ref b, .ref f]), (c, ca D 5 cap), (l, ca D 6 len), (t, ca D 30 lst), (n, ca D 12 nw), (h, ca D 60 hi), (b, ca D 1701 be), (f, ca D 6 fo)]) (fun _ => rfl) 5 rfl (fun u2 hu2 => ?_)
  obtain ⟨bz2, rfl⟩ : ∃ z, z = u2 := ⟨_, rfl⟩
  rcases hu2 with ⟨rfl, hb2⟩ | ⟨rfl, hb2⟩
  · skip
    have hb2 : 0 ≤ a ∧ a < N := hb2
    show G X D A 3 Q 0 0 5 [(0, .ref o), (1, vi a), (2, vi i)] [vi 1] [(o, co 6 [vi N, vi P, .ref c, .ref l, .ref t, .ref n, .ref h, vi e, .ref b, .ref f]), (c, ca D 5 cap), (l, ca D 6 len), (t, ca D 30 lst), (n, ca D 12 nw), (h, ca D 60 hi), (b, ca D 1701 be), (f, ca D 6 fo)]
    refine g_if_eq O dX6_preferenceAt_5 8 12 rfl rfl (by omega) (fun h => absurd h (by decide)) (fun _ => ?_)
    refine g_iload_n O dX6_preferenceAt_8 9 2 rfl rfl ?_
    refine g_if_ge O dX6_preferenceAt_9 12 15 rfl rfl (by omega) (fun h9 => ?_) (fun h9 => ?_)
    · skip
      have hla := hlen a (by omega) (by omega)
      refine g_iload_n O dX6_preferenceAt_15 16 2 rfl rfl ?_
      refine g_aload_n O dX6_preferenceAt_16 17 0 rfl rfl ?_
      refine g_get O dX6_preferenceAt_17 20 rfl fX6_preferenceAt_20 0 rfl rfl ?_
      refine g_iload_n O dX6_preferenceAt_20 21 1 rfl rfl ?_
      refine g_iald O dX6_preferenceAt_21 22 rfl 2 rfl (by decide) (by omega) ?_
      refine g_icmp_ge O dX6_preferenceAt_22 25 38 rfl rfl (by omega) (fun h22 => ?_) (fun h22 => ?_)
      · skip
        refine g_bipush O dX6_preferenceAt_38 40 rfl (by decide) ?_
        exact g_iret O hQ dX6_preferenceAt_40 () (vi_eq (by split <;> (try split) <;> omega)) rfl trivial ⟨by decide, by decide⟩
      · skip
        refine g_aload_n O dX6_preferenceAt_25 26 0 rfl rfl ?_
        refine g_get O dX6_preferenceAt_26 29 rfl fX6_preferenceAt_23 0 rfl rfl ?_
        refine g_iconst O dX6_preferenceAt_29 30 rfl ?_
        refine g_iload_n O dX6_preferenceAt_30 31 1 rfl rfl ?_
        refine g_imul O dX6_preferenceAt_31 32 rfl ?_
        refine g_iload_n O dX6_preferenceAt_32 33 2 rfl rfl ?_
        refine g_iadd O dX6_preferenceAt_33 34 rfl ?_
        refine g_iald O dX6_preferenceAt_34 35 rfl 3 rfl (by decide) (by omega) ?_
        refine g_cv (y := row lst a i) (by unfold row; congr 1; omega) ?_
        refine g_goto O dX6_preferenceAt_35 40 rfl ?_
        exact g_iret O hQ dX6_preferenceAt_40 () (vi_eq (by split <;> (try split) <;> omega)) rfl trivial ⟨by decide, by decide⟩
    · skip
      refine g_bipush O dX6_preferenceAt_12 14 rfl (by decide) ?_
      exact g_iret O hQ dX6_preferenceAt_14 () (vi_eq (by split <;> omega)) rfl trivial ⟨by decide, by decide⟩
  · skip
    have hb2 : ¬ (0 ≤ a ∧ a < N) := hb2
    show G X D A 3 Q 0 0 5 [(0, .ref o), (1, vi a), (2, vi i)] [vi 0] [(o, co 6 [vi N, vi P, .ref c, .ref l, .ref t, .ref n, .ref h, vi e, .ref b, .ref f]), (c, ca D 5 cap), (l, ca D 6 len), (t, ca D 30 lst), (n, ca D 12 nw), (h, ca D 60 hi), (b, ca D 1701 be), (f, ca D 6 fo)]
    refine g_if_eq O dX6_preferenceAt_5 8 12 rfl rfl (by omega) (fun _ => ?_) (fun h => absurd h (by decide))
    refine g_bipush O dX6_preferenceAt_12 14 rfl (by decide) ?_
    exact g_iret O hQ dX6_preferenceAt_14 () (vi_eq (by split <;> omega)) rfl trivial ⟨by decide, by decide⟩
set_option maxHeartbeats 4000000 in
set_option maxRecDepth 100000 in
theorem k_X6_firstPost (D : DD) (o c l t n h b f : Nat) (N P : Int) (cap len lst nw hi : Int → Int) (e : Int) (be fo : Int → Int) (a : Int) (hW : WI N P cap len lst) (ha : -2147483648 ≤ a ∧ a < 2147483648) : Con (S := Unit) D yX6_firstPost wsX6_firstPost ({ frames := 2, cells := 0, slots := 0, locals := 43 }) 0 0 [.ref o, vi a] [(o, co 6 [vi N, vi P, .ref c, .ref l, .ref t, .ref n, .ref h, vi e, .ref b, .ref f]), (c, ca D 5 cap), (l, ca D 6 len), (t, ca D 30 lst), (n, ca D 12 nw), (h, ca D 60 hi), (b, ca D 1701 be), (f, ca D 6 fo)] (fun u => some (vi (if 0 ≤ a ∧ a < N then fp len lst a else -101))) (fun u => True) (fun u => [(o, co 6 [vi N, vi P, .ref c, .ref l, .ref t, .ref n, .ref h, vi e, .ref b, .ref f]), (c, ca D 5 cap), (l, ca D 6 len), (t, ca D 30 lst), (n, ca D 12 nw), (h, ca D 60 hi), (b, ca D 1701 be), (f, ca D 6 fo)]) := by
  refine Con.of (cc := cX6_firstPost) (nL := 2) (ret := (some .int)) rfl (by decide +kernel) (Nat.le_of_ble_eq_true rfl) ?_
  intro X A Q O hQ hin
  show G X D A 2 Q 0 0 0 [(0, .ref o), (1, vi a)] [] [(o, co 6 [vi N, vi P, .ref c, .ref l, .ref t, .ref n, .ref h, vi e, .ref b, .ref f]), (c, ca D 5 cap), (l, ca D 6 len), (t, ca D 30 lst), (n, ca D 12 nw), (h, ca D 60 hi), (b, ca D 1701 be), (f, ca D 6 fo)]
  obtain ⟨hN, hcap, hlen, hlst, hdis⟩ := id hW
  refine g_aload_n O dX6_firstPost_0 1 0 rfl rfl ?_
  refine g_iload_n O dX6_firstPost_1 2 1 rfl rfl ?_
  refine g_callV (As := [vi a]) (rest := []) (na := 1) O (k_X6_isApplicant D o c l t n h b f N P cap len lst nw hi e be fo a hW (by omega)) dX6_firstPost_2 gX6_firstPost_X6_isApplicant rfl ⟨rfl, rfl⟩ (by decide +kernel) rfl (by decide) (by decide) rfl (Nat.le_of_ble_eq_true rfl) (q0 := 0) (ci := 6) rfl rfl [0, 1, 2, 3, 4, 5, 6, 7] (by decide) rfl (fun _ => rfl) (fun u => [(o, co 6 [vi N, vi P, .ref c, .ref l, .ref t, .ref n, .ref h, vi e, .ref b, .ref f]), (c, ca D 5 cap), (l, ca D 6 len), (t, ca D 30 lst), (n, ca D 12 nw), (h, ca D 60 hi), (b, ca D 1701 be), (f, ca D 6 fo)]) (fun _ => rfl) 5 rfl (fun u2 hu2 => ?_)
  obtain ⟨bz2, rfl⟩ : ∃ z, z = u2 := ⟨_, rfl⟩
  rcases hu2 with ⟨rfl, hb2⟩ | ⟨rfl, hb2⟩
  · skip
    have hb2 : 0 ≤ a ∧ a < N := hb2
    show G X D A 2 Q 0 0 5 [(0, .ref o), (1, vi a)] [vi 1] [(o, co 6 [vi N, vi P, .ref c, .ref l, .ref t, .ref n, .ref h, vi e, .ref b, .ref f]), (c, ca D 5 cap), (l, ca D 6 len), (t, ca D 30 lst), (n, ca D 12 nw), (h, ca D 60 hi), (b, ca D 1701 be), (f, ca D 6 fo)]
    refine g_if_eq O dX6_firstPost_5 8 16 rfl rfl (by omega) (fun h => absurd h (by decide)) (fun _ => ?_)
    refine g_aload_n O dX6_firstPost_8 9 0 rfl rfl ?_
    refine g_iload_n O dX6_firstPost_9 10 1 rfl rfl ?_
    refine g_callV (As := [vi a]) (rest := []) (na := 1) O (k_X6_first D o c l t n h b f N P cap len lst nw hi e be fo a hW (by omega)) dX6_firstPost_10 gX6_firstPost_X6_first rfl ⟨rfl, rfl⟩ (by decide +kernel) rfl (by decide) (by decide) rfl (Nat.le_of_ble_eq_true rfl) (q0 := 0) (ci := 6) rfl rfl [0, 1, 2, 3, 4, 5, 6, 7] (by decide) rfl (fun _ => rfl) (fun _ => [(o, co 6 [vi N, vi P, .ref c, .ref l, .ref t, .ref n, .ref h, vi e, .ref b, .ref f]), (c, ca D 5 cap), (l, ca D 6 len), (t, ca D 30 lst), (n, ca D 12 nw), (h, ca D 60 hi), (b, ca D 1701 be), (f, ca D 6 fo)]) (fun _ => rfl) 13 rfl (fun _ _ => ?_)
    show G X D A 2 Q 0 0 13 [(0, .ref o), (1, vi a)] [vi (fp len lst a)] [(o, co 6 [vi N, vi P, .ref c, .ref l, .ref t, .ref n, .ref h, vi e, .ref b, .ref f]), (c, ca D 5 cap), (l, ca D 6 len), (t, ca D 30 lst), (n, ca D 12 nw), (h, ca D 60 hi), (b, ca D 1701 be), (f, ca D 6 fo)]
    refine g_goto O dX6_firstPost_13 18 rfl ?_
    exact g_iret O hQ dX6_firstPost_18 () (vi_eq (by split <;> omega)) rfl trivial ⟨by decide, by decide⟩
  · skip
    have hb2 : ¬ (0 ≤ a ∧ a < N) := hb2
    show G X D A 2 Q 0 0 5 [(0, .ref o), (1, vi a)] [vi 0] [(o, co 6 [vi N, vi P, .ref c, .ref l, .ref t, .ref n, .ref h, vi e, .ref b, .ref f]), (c, ca D 5 cap), (l, ca D 6 len), (t, ca D 30 lst), (n, ca D 12 nw), (h, ca D 60 hi), (b, ca D 1701 be), (f, ca D 6 fo)]
    refine g_if_eq O dX6_firstPost_5 8 16 rfl rfl (by omega) (fun _ => ?_) (fun h => absurd h (by decide))
    refine g_bipush O dX6_firstPost_16 18 rfl (by decide) ?_
    exact g_iret O hQ dX6_firstPost_18 () (vi_eq (by split <;> omega)) rfl trivial ⟨by decide, by decide⟩
set_option maxHeartbeats 4000000 in
set_option maxRecDepth 100000 in
theorem k_X6_secondPost (D : DD) (o c l t n h b f : Nat) (N P : Int) (cap len lst nw hi : Int → Int) (e : Int) (be fo : Int → Int) (a : Int) (hW : WI N P cap len lst) (ha : -2147483648 ≤ a ∧ a < 2147483648) : Con (S := Unit) D yX6_secondPost wsX6_secondPost ({ frames := 3, cells := 0, slots := 0, locals := 67 }) 0 0 [.ref o, vi a] [(o, co 6 [vi N, vi P, .ref c, .ref l, .ref t, .ref n, .ref h, vi e, .ref b, .ref f]), (c, ca D 5 cap), (l, ca D 6 len), (t, ca D 30 lst), (n, ca D 12 nw), (h, ca D 60 hi), (b, ca D 1701 be), (f, ca D 6 fo)] (fun u => some (vi (if 0 ≤ a ∧ a < N then sp N cap len lst a else -101))) (fun u => True) (fun u => [(o, co 6 [vi N, vi P, .ref c, .ref l, .ref t, .ref n, .ref h, vi e, .ref b, .ref f]), (c, ca D 5 cap), (l, ca D 6 len), (t, ca D 30 lst), (n, ca D 12 nw), (h, ca D 60 hi), (b, ca D 1701 be), (f, ca D 6 fo)]) := by
  refine Con.of (cc := cX6_secondPost) (nL := 2) (ret := (some .int)) rfl (by decide +kernel) (Nat.le_of_ble_eq_true rfl) ?_
  intro X A Q O hQ hin
  show G X D A 2 Q 0 0 0 [(0, .ref o), (1, vi a)] [] [(o, co 6 [vi N, vi P, .ref c, .ref l, .ref t, .ref n, .ref h, vi e, .ref b, .ref f]), (c, ca D 5 cap), (l, ca D 6 len), (t, ca D 30 lst), (n, ca D 12 nw), (h, ca D 60 hi), (b, ca D 1701 be), (f, ca D 6 fo)]
  obtain ⟨hN, hcap, hlen, hlst, hdis⟩ := id hW
  refine g_aload_n O dX6_secondPost_0 1 0 rfl rfl ?_
  refine g_iload_n O dX6_secondPost_1 2 1 rfl rfl ?_
  refine g_callV (As := [vi a]) (rest := []) (na := 1) O (k_X6_isApplicant D o c l t n h b f N P cap len lst nw hi e be fo a hW (by omega)) dX6_secondPost_2 gX6_secondPost_X6_isApplicant rfl ⟨rfl, rfl⟩ (by decide +kernel) rfl (by decide) (by decide) rfl (Nat.le_of_ble_eq_true rfl) (q0 := 0) (ci := 6) rfl rfl [0, 1, 2, 3, 4, 5, 6, 7] (by decide) rfl (fun _ => rfl) (fun u => [(o, co 6 [vi N, vi P, .ref c, .ref l, .ref t, .ref n, .ref h, vi e, .ref b, .ref f]), (c, ca D 5 cap), (l, ca D 6 len), (t, ca D 30 lst), (n, ca D 12 nw), (h, ca D 60 hi), (b, ca D 1701 be), (f, ca D 6 fo)]) (fun _ => rfl) 5 rfl (fun u2 hu2 => ?_)
  obtain ⟨bz2, rfl⟩ : ∃ z, z = u2 := ⟨_, rfl⟩
  rcases hu2 with ⟨rfl, hb2⟩ | ⟨rfl, hb2⟩
  · skip
    have hb2 : 0 ≤ a ∧ a < N := hb2
    show G X D A 2 Q 0 0 5 [(0, .ref o), (1, vi a)] [vi 1] [(o, co 6 [vi N, vi P, .ref c, .ref l, .ref t, .ref n, .ref h, vi e, .ref b, .ref f]), (c, ca D 5 cap), (l, ca D 6 len), (t, ca D 30 lst), (n, ca D 12 nw), (h, ca D 60 hi), (b, ca D 1701 be), (f, ca D 6 fo)]
    refine g_if_eq O dX6_secondPost_5 8 16 rfl rfl (by omega) (fun h => absurd h (by decide)) (fun _ => ?_)
    refine g_aload_n O dX6_secondPost_8 9 0 rfl rfl ?_
    refine g_iload_n O dX6_secondPost_9 10 1 rfl rfl ?_
    refine g_callV (As := [vi a]) (rest := []) (na := 1) O (k_X6_second D o c l t n h b f N P cap len lst nw hi e be fo a hW (by omega)) dX6_secondPost_10 gX6_secondPost_X6_second rfl ⟨rfl, rfl⟩ (by decide +kernel) rfl (by decide) (by decide) rfl (Nat.le_of_ble_eq_true rfl) (q0 := 0) (ci := 6) rfl rfl [0, 1, 2, 3, 4, 5, 6, 7] (by decide) rfl (fun _ => rfl) (fun _ => [(o, co 6 [vi N, vi P, .ref c, .ref l, .ref t, .ref n, .ref h, vi e, .ref b, .ref f]), (c, ca D 5 cap), (l, ca D 6 len), (t, ca D 30 lst), (n, ca D 12 nw), (h, ca D 60 hi), (b, ca D 1701 be), (f, ca D 6 fo)]) (fun _ => rfl) 13 rfl (fun _ _ => ?_)
    show G X D A 2 Q 0 0 13 [(0, .ref o), (1, vi a)] [vi (sp N cap len lst a)] [(o, co 6 [vi N, vi P, .ref c, .ref l, .ref t, .ref n, .ref h, vi e, .ref b, .ref f]), (c, ca D 5 cap), (l, ca D 6 len), (t, ca D 30 lst), (n, ca D 12 nw), (h, ca D 60 hi), (b, ca D 1701 be), (f, ca D 6 fo)]
    refine g_goto O dX6_secondPost_13 18 rfl ?_
    exact g_iret O hQ dX6_secondPost_18 () (vi_eq (by split <;> omega)) rfl trivial ⟨by decide, by decide⟩
  · skip
    have hb2 : ¬ (0 ≤ a ∧ a < N) := hb2
    show G X D A 2 Q 0 0 5 [(0, .ref o), (1, vi a)] [vi 0] [(o, co 6 [vi N, vi P, .ref c, .ref l, .ref t, .ref n, .ref h, vi e, .ref b, .ref f]), (c, ca D 5 cap), (l, ca D 6 len), (t, ca D 30 lst), (n, ca D 12 nw), (h, ca D 60 hi), (b, ca D 1701 be), (f, ca D 6 fo)]
    refine g_if_eq O dX6_secondPost_5 8 16 rfl rfl (by omega) (fun _ => ?_) (fun h => absurd h (by decide))
    refine g_bipush O dX6_secondPost_16 18 rfl (by decide) ?_
    exact g_iret O hQ dX6_secondPost_18 () (vi_eq (by split <;> omega)) rfl trivial ⟨by decide, by decide⟩
theorem sX6_assign_6 : ∀ w ∈ wsX60, w ∈ wsX6_assign := by decide +kernel
theorem fX6_assign_13 : FK RX6 wsX6_assign 13 6 1 := ⟨RX6, TX6, 10, rfl, sX6_assign_6, by decide, List.mem_of_getElem? (i := 1) rfl⟩
theorem fX6_assign_16 : FK RX6 wsX6_assign 16 6 2 := ⟨RX6, TX6, 10, rfl, sX6_assign_6, by decide, List.mem_of_getElem? (i := 4) rfl⟩
theorem fX6_assign_26 : FK RX6 wsX6_assign 26 6 5 := ⟨RX6, TX6, 10, rfl, sX6_assign_6, by decide, List.mem_of_getElem? (i := 3) rfl⟩
theorem fX6_assign_7 : FK RX6 wsX6_assign 7 6 0 := ⟨RX6, TX6, 10, rfl, sX6_assign_6, by decide, List.mem_of_getElem? (i := 2) rfl⟩
set_option maxHeartbeats 4000000 in
set_option maxRecDepth 100000 in
theorem k_X6_assign (D : DD) (o c l t n h b f : Nat) (N P : Int) (cap len lst nw hi : Int → Int) (e : Int) (be fo : Int → Int) (a p : Int) (hW : WI N P cap len lst) (hnw : NW nw) (he : 0 ≤ e ∧ e ≤ 5) (ha : -2147483648 ≤ a ∧ a < 2147483648) (hp : -2147483648 ≤ p ∧ p < 2147483648) : Con (S := Int × (Int → Int) × (Int → Int) × Int) D yX6_assign wsX6_assign ({ frames := 2, cells := 0, slots := 0, locals := 43 }) 0 0 [.ref o, vi a, vi p] [(o, co 6 [vi N, vi P, .ref c, .ref l, .ref t, .ref n, .ref h, vi e, .ref b, .ref f]), (c, ca D 5 cap), (l, ca D 6 len), (t, ca D 30 lst), (n, ca D 12 nw), (h, ca D 60 hi), (b, ca D 1701 be), (f, ca D 6 fo)] (fun u => some (vi u.1)) (fun u => (¬ (0 ≤ a ∧ a < N ∧ -1 ≤ p ∧ p < P) ∧ u.1 = -101 ∧ u.2.1 = nw ∧ u.2.2.1 = hi ∧ u.2.2.2 = e) ∨ ((0 ≤ a ∧ a < N ∧ 0 ≤ p ∧ p < P) ∧ ¬ rk (row lst a) p (len a) < len a ∧ u.1 = -102 ∧ u.2.1 = nw ∧ u.2.2.1 = hi ∧ u.2.2.2 = e) ∨ ((0 ≤ a ∧ a < N ∧ 0 ≤ p ∧ p < P) ∧ rk (row lst a) p (len a) < len a ∧ cap p ≤ sm (oth nw p a) N ∧ u.1 = -103 ∧ u.2.1 = nw ∧ u.2.2.1 = hi ∧ u.2.2.2 = e) ∨ ((0 ≤ a ∧ a < N ∧ -1 ≤ p ∧ p < P) ∧ (p = -1 ∨ (rk (row lst a) p (len a) < len a ∧ sm (oth nw p a) N < cap p)) ∧ u.1 = nw a ∧ u.2.1 = up nw a p ∧ u.2.2.1 = edh e nw hi ∧ u.2.2.2 = hpc e)) (fun u => [(o, co 6 [vi N, vi P, .ref c, .ref l, .ref t, .ref n, .ref h, vi u.2.2.2, .ref b, .ref f]), (c, ca D 5 cap), (l, ca D 6 len), (t, ca D 30 lst), (n, ca D 12 u.2.1), (h, ca D 60 u.2.2.1), (b, ca D 1701 be), (f, ca D 6 fo)]) := by
  refine Con.of (cc := cX6_assign) (nL := 5) (ret := (some .int)) rfl (by decide +kernel) (Nat.le_of_ble_eq_true rfl) ?_
  intro X A Q O hQ hin
  show G X D A 5 Q 0 0 0 [(0, .ref o), (1, vi a), (2, vi p)] [] [(o, co 6 [vi N, vi P, .ref c, .ref l, .ref t, .ref n, .ref h, vi e, .ref b, .ref f]), (c, ca D 5 cap), (l, ca D 6 len), (t, ca D 30 lst), (n, ca D 12 nw), (h, ca D 60 hi), (b, ca D 1701 be), (f, ca D 6 fo)]
  obtain ⟨hN, hcap, hlen, hlst, hdis⟩ := id hW
  refine g_aload_n O dX6_assign_0 1 0 rfl rfl ?_
  refine g_iload_n O dX6_assign_1 2 1 rfl rfl ?_
  refine g_callV (As := [vi a]) (rest := []) (na := 1) O (k_X6_isApplicant D o c l t n h b f N P cap len lst nw hi e be fo a hW (by omega)) dX6_assign_2 gX6_assign_X6_isApplicant rfl ⟨rfl, rfl⟩ (by decide +kernel) rfl (by decide) (by decide) rfl (Nat.le_of_ble_eq_true rfl) (q0 := 0) (ci := 6) rfl rfl [0, 1, 2, 3, 4, 5, 6, 7] (by decide) rfl (fun _ => rfl) (fun u => [(o, co 6 [vi N, vi P, .ref c, .ref l, .ref t, .ref n, .ref h, vi e, .ref b, .ref f]), (c, ca D 5 cap), (l, ca D 6 len), (t, ca D 30 lst), (n, ca D 12 nw), (h, ca D 60 hi), (b, ca D 1701 be), (f, ca D 6 fo)]) (fun _ => rfl) 5 rfl (fun u2 hu2 => ?_)
  obtain ⟨bz2, rfl⟩ : ∃ z, z = u2 := ⟨_, rfl⟩
  rcases hu2 with ⟨rfl, hb2⟩ | ⟨rfl, hb2⟩
  · skip
    have hb2 : 0 ≤ a ∧ a < N := hb2
    show G X D A 5 Q 0 0 5 [(0, .ref o), (1, vi a), (2, vi p)] [vi 1] [(o, co 6 [vi N, vi P, .ref c, .ref l, .ref t, .ref n, .ref h, vi e, .ref b, .ref f]), (c, ca D 5 cap), (l, ca D 6 len), (t, ca D 30 lst), (n, ca D 12 nw), (h, ca D 60 hi), (b, ca D 1701 be), (f, ca D 6 fo)]
    refine g_if_eq O dX6_assign_5 8 22 rfl rfl (by omega) (fun h => absurd h (by decide)) (fun _ => ?_)
    refine g_iload_n O dX6_assign_8 9 2 rfl rfl ?_
    refine g_iconst O dX6_assign_9 10 rfl ?_
    refine g_aload_n O dX6_assign_10 11 0 rfl rfl ?_
    refine g_get O dX6_assign_11 14 rfl fX6_assign_13 0 rfl rfl ?_
    refine g_iconst O dX6_assign_14 15 rfl ?_
    refine g_isub O dX6_assign_15 16 rfl ?_
    refine g_callS (As := [vi p, vi (-1), vi (P - 1)]) (rest := []) (na := 3) O (k_X6_in D p (-1) (P - 1) (by omega) (by omega) (by omega)) dX6_assign_16 gX6_assign_X6_in rfl ⟨rfl, rfl⟩ (by decide +kernel) rfl (by decide) (by decide) rfl (Nat.le_of_ble_eq_true rfl) [] (by decide) rfl (fun _ => rfl) (fun u => [(o, co 6 [vi N, vi P, .ref c, .ref l, .ref t, .ref n, .ref h, vi e, .ref b, .ref f]), (c, ca D 5 cap), (l, ca D 6 len), (t, ca D 30 lst), (n, ca D 12 nw), (h, ca D 60 hi), (b, ca D 1701 be), (f, ca D 6 fo)]) (fun _ => rfl) 19 rfl (fun u16 hu16 => ?_)
    obtain ⟨bz16, rfl⟩ : ∃ z, z = u16 := ⟨_, rfl⟩
    rcases hu16 with ⟨rfl, hb16⟩ | ⟨rfl, hb16⟩
    · skip
      have hb16 : (-1) ≤ p ∧ p ≤ (P - 1) := hb16
      show G X D A 5 Q 0 0 19 [(0, .ref o), (1, vi a), (2, vi p)] [vi 1] [(o, co 6 [vi N, vi P, .ref c, .ref l, .ref t, .ref n, .ref h, vi e, .ref b, .ref f]), (c, ca D 5 cap), (l, ca D 6 len), (t, ca D 30 lst), (n, ca D 12 nw), (h, ca D 60 hi), (b, ca D 1701 be), (f, ca D 6 fo)]
      refine g_if_ne O dX6_assign_19 22 25 rfl rfl (by omega) (fun _ => ?_) (fun h => absurd h (by decide))
      have hla := hlen a (by omega) (by omega)
      have hrb := rm9_bd hW (a := a) (p := p) (by omega) (by omega)
      have lp43 : (p = -1 ∨ rk (row lst a) p (len a) < len a) → G X D A 5 Q 0 0 43 [(0, .ref o), (1, vi a), (2, vi p)] [] [(o, co 6 [vi N, vi P, .ref c, .ref l, .ref t, .ref n, .ref h, vi e, .ref b, .ref f]), (c, ca D 5 cap), (l, ca D 6 len), (t, ca D 30 lst), (n, ca D 12 nw), (h, ca D 60 hi), (b, ca D 1701 be), (f, ca D 6 fo)] := by
        intro  hs
        refine g_iconst O dX6_assign_43 44 rfl ?_
        refine g_istore_n O dX6_assign_44 45 [(0, .ref o), (1, vi a), (2, vi p), (3, vi 0)] rfl (by decide) rfl ?_
        refine g_iconst O dX6_assign_45 46 rfl ?_
        refine g_istore O dX6_assign_46 48 [(0, .ref o), (1, vi a), (2, vi p), (3, vi 0), (4, vi 0)] rfl (by decide) rfl ?_
        have lp48 : ∀ (nn : Nat) (i : Int) (s : Int), (0 ≤ i ∧ i ≤ N) → (s = sm (oth nw p a) i) → (N - i < (nn : Int)) → G X D A 5 Q 0 0 48 [(0, .ref o), (1, vi a), (2, vi p), (3, vi s), (4, vi i)] [] [(o, co 6 [vi N, vi P, .ref c, .ref l, .ref t, .ref n, .ref h, vi e, .ref b, .ref f]), (c, ca D 5 cap), (l, ca D 6 len), (t, ca D 30 lst), (n, ca D 12 nw), (h, ca D 60 hi), (b, ca D 1701 be), (f, ca D 6 fo)] := by
          intro nn
          induction nn with
          | zero =>
            intro i s h1 h2 hm48
            exact absurd hm48 (by omega)
          | succ nn ih48 =>
            intro i s h1 h2 hm48
            refine g_iload O dX6_assign_48 50 4 rfl rfl ?_
            refine g_aload_n O dX6_assign_50 51 0 rfl rfl ?_
            refine g_get O dX6_assign_51 54 rfl fX6_assign_7 0 rfl rfl ?_
            refine g_icmp_ge O dX6_assign_54 57 88 rfl rfl (by omega) (fun h54 => ?_) (fun h54 => ?_)
            · skip
              have hsb := sm_bd (g := oth nw p a) (fun kk => by unfold oth; split <;> omega) h1.1
              have hiN : i = N := by omega
              have hsN : s = sm (oth nw p a) N := by rw [h2, hiN]
              refine g_iload_n O dX6_assign_88 89 2 rfl rfl ?_
              refine g_if_lt O dX6_assign_89 92 105 rfl rfl (by omega) (fun h89 => ?_) (fun h89 => ?_)
              · skip
                refine g_aload_n O dX6_assign_105 106 0 rfl rfl ?_
                refine g_callV (As := []) (rest := []) (na := 0) O (k_X6_edit D o c l t n h b f N P cap len lst nw hi e be fo (by omega)) dX6_assign_106 gX6_assign_X6_edit rfl ⟨rfl, rfl⟩ (by decide +kernel) rfl (by decide) (by decide) rfl (Nat.le_of_ble_eq_true rfl) (q0 := 0) (ci := 6) rfl rfl [0, 1, 2, 3, 4, 5, 6, 7] (by decide) rfl (fun _ => rfl) (fun _ => [(o, co 6 [vi N, vi P, .ref c, .ref l, .ref t, .ref n, .ref h, vi (hpc e), .ref b, .ref f]), (c, ca D 5 cap), (l, ca D 6 len), (t, ca D 30 lst), (n, ca D 12 nw), (h, ca D 60 (edh e nw hi)), (b, ca D 1701 be), (f, ca D 6 fo)]) (fun _ => rfl) 109 rfl (fun _ _ => ?_)
                show G X D A 5 Q 0 0 109 [(0, .ref o), (1, vi a), (2, vi p), (3, vi s), (4, vi i)] [] [(o, co 6 [vi N, vi P, .ref c, .ref l, .ref t, .ref n, .ref h, vi (hpc e), .ref b, .ref f]), (c, ca D 5 cap), (l, ca D 6 len), (t, ca D 30 lst), (n, ca D 12 nw), (h, ca D 60 (edh e nw hi)), (b, ca D 1701 be), (f, ca D 6 fo)]
                refine g_aload_n O dX6_assign_109 110 0 rfl rfl ?_
                refine g_get O dX6_assign_110 113 rfl fX6_assign_26 0 rfl rfl ?_
                refine g_iload_n O dX6_assign_113 114 1 rfl rfl ?_
                refine g_iald O dX6_assign_114 115 rfl 4 rfl (by decide) (by omega) ?_
                refine g_istore O dX6_assign_115 117 [(0, .ref o), (1, vi a), (2, vi p), (3, vi s), (4, vi (nw a))] rfl (by decide) rfl ?_
                refine g_aload_n O dX6_assign_117 118 0 rfl rfl ?_
                refine g_get O dX6_assign_118 121 rfl fX6_assign_26 0 rfl rfl ?_
                refine g_iload_n O dX6_assign_121 122 1 rfl rfl ?_
                refine g_iload_n O dX6_assign_122 123 2 rfl rfl ?_
                refine g_iast O dX6_assign_123 124 rfl 4 rfl (by decide) (by omega) [(o, co 6 [vi N, vi P, .ref c, .ref l, .ref t, .ref n, .ref h, vi (hpc e), .ref b, .ref f]), (c, ca D 5 cap), (l, ca D 6 len), (t, ca D 30 lst), (n, ca D 12 (up nw a p)), (h, ca D 60 (edh e nw hi)), (b, ca D 1701 be), (f, ca D 6 fo)] rfl ?_
                refine g_iload O dX6_assign_124 126 4 rfl rfl ?_
                exact g_iret O hQ dX6_assign_126 (nw a, up nw a p, edh e nw hi, hpc e) rfl rfl (Or.inr (Or.inr (Or.inr ⟨by omega, by first | (left; omega) | (rcases hs with q | q; exact Or.inl q; right; exact ⟨q, by omega⟩), rfl, rfl, rfl, rfl⟩))) ⟨by decide, by decide⟩
              · skip
                have hcp := hcap p (by omega) (by omega)
                refine g_iload_n O dX6_assign_92 93 3 rfl rfl ?_
                refine g_aload_n O dX6_assign_93 94 0 rfl rfl ?_
                refine g_get O dX6_assign_94 97 rfl fX6_assign_16 0 rfl rfl ?_
                refine g_iload_n O dX6_assign_97 98 2 rfl rfl ?_
                refine g_iald O dX6_assign_98 99 rfl 1 rfl (by decide) (by omega) ?_
                refine g_icmp_lt O dX6_assign_99 102 105 rfl rfl (by omega) (fun h99 => ?_) (fun h99 => ?_)
                · skip
                  refine g_aload_n O dX6_assign_105 106 0 rfl rfl ?_
                  refine g_callV (As := []) (rest := []) (na := 0) O (k_X6_edit D o c l t n h b f N P cap len lst nw hi e be fo (by omega)) dX6_assign_106 gX6_assign_X6_edit rfl ⟨rfl, rfl⟩ (by decide +kernel) rfl (by decide) (by decide) rfl (Nat.le_of_ble_eq_true rfl) (q0 := 0) (ci := 6) rfl rfl [0, 1, 2, 3, 4, 5, 6, 7] (by decide) rfl (fun _ => rfl) (fun _ => [(o, co 6 [vi N, vi P, .ref c, .ref l, .ref t, .ref n, .ref h, vi (hpc e), .ref b, .ref f]), (c, ca D 5 cap), (l, ca D 6 len), (t, ca D 30 lst), (n, ca D 12 nw), (h, ca D 60 (edh e nw hi)), (b, ca D 1701 be), (f, ca D 6 fo)]) (fun _ => rfl) 109 rfl (fun _ _ => ?_)
                  show G X D A 5 Q 0 0 109 [(0, .ref o), (1, vi a), (2, vi p), (3, vi s), (4, vi i)] [] [(o, co 6 [vi N, vi P, .ref c, .ref l, .ref t, .ref n, .ref h, vi (hpc e), .ref b, .ref f]), (c, ca D 5 cap), (l, ca D 6 len), (t, ca D 30 lst), (n, ca D 12 nw), (h, ca D 60 (edh e nw hi)), (b, ca D 1701 be), (f, ca D 6 fo)]
                  refine g_aload_n O dX6_assign_109 110 0 rfl rfl ?_
                  refine g_get O dX6_assign_110 113 rfl fX6_assign_26 0 rfl rfl ?_
                  refine g_iload_n O dX6_assign_113 114 1 rfl rfl ?_
                  refine g_iald O dX6_assign_114 115 rfl 4 rfl (by decide) (by omega) ?_
                  refine g_istore O dX6_assign_115 117 [(0, .ref o), (1, vi a), (2, vi p), (3, vi s), (4, vi (nw a))] rfl (by decide) rfl ?_
                  refine g_aload_n O dX6_assign_117 118 0 rfl rfl ?_
                  refine g_get O dX6_assign_118 121 rfl fX6_assign_26 0 rfl rfl ?_
                  refine g_iload_n O dX6_assign_121 122 1 rfl rfl ?_
                  refine g_iload_n O dX6_assign_122 123 2 rfl rfl ?_
                  refine g_iast O dX6_assign_123 124 rfl 4 rfl (by decide) (by omega) [(o, co 6 [vi N, vi P, .ref c, .ref l, .ref t, .ref n, .ref h, vi (hpc e), .ref b, .ref f]), (c, ca D 5 cap), (l, ca D 6 len), (t, ca D 30 lst), (n, ca D 12 (up nw a p)), (h, ca D 60 (edh e nw hi)), (b, ca D 1701 be), (f, ca D 6 fo)] rfl ?_
                  refine g_iload O dX6_assign_124 126 4 rfl rfl ?_
                  exact g_iret O hQ dX6_assign_126 (nw a, up nw a p, edh e nw hi, hpc e) rfl rfl (Or.inr (Or.inr (Or.inr ⟨by omega, by first | (left; omega) | (rcases hs with q | q; exact Or.inl q; right; exact ⟨q, by omega⟩), rfl, rfl, rfl, rfl⟩))) ⟨by decide, by decide⟩
                · skip
                  refine g_bipush O dX6_assign_102 104 rfl (by decide) ?_
                  exact g_iret O hQ dX6_assign_104 (-103, nw, hi, e) rfl rfl (Or.inr (Or.inr (Or.inl ⟨by omega, by rcases hs with q | q; omega; exact q, by omega, rfl, rfl, rfl, rfl⟩))) ⟨by decide, by decide⟩
            · skip
              refine g_iload_n O dX6_assign_57 58 3 rfl rfl ?_
              refine g_iload O dX6_assign_58 60 4 rfl rfl ?_
              refine g_iload_n O dX6_assign_60 61 1 rfl rfl ?_
              refine g_icmp_eq O dX6_assign_61 64 79 rfl rfl (by omega) (fun h61 => ?_) (fun h61 => ?_)
              · skip
                refine g_iconst O dX6_assign_79 80 rfl ?_
                refine g_iadd O dX6_assign_80 81 rfl ?_
                refine g_istore_n O dX6_assign_81 82 [(0, .ref o), (1, vi a), (2, vi p), (3, vi (s + 0)), (4, vi i)] rfl (by decide) rfl ?_
                refine g_iinc O dX6_assign_82 85 4 [(0, .ref o), (1, vi a), (2, vi p), (3, vi (s + 0)), (4, vi (i + 1))] rfl (by decide) rfl rfl ?_
                refine g_goto O dX6_assign_85 48 rfl ?_
                exact ih48 (i + 1) (s + 0) (by omega) (by rw [sm_s _ h1.1, ← h2]; unfold oth; split <;> omega) (by omega)
              · skip
                have hni := hnw i (by omega) (by omega)
                refine g_aload_n O dX6_assign_64 65 0 rfl rfl ?_
                refine g_get O dX6_assign_65 68 rfl fX6_assign_26 0 rfl rfl ?_
                refine g_iload O dX6_assign_68 70 4 rfl rfl ?_
                refine g_iald O dX6_assign_70 71 rfl 4 rfl (by decide) (by omega) ?_
                refine g_iload_n O dX6_assign_71 72 2 rfl rfl ?_
                refine g_icmp_ne O dX6_assign_72 75 79 rfl rfl (by omega) (fun h72 => ?_) (fun h72 => ?_)
                · skip
                  refine g_iconst O dX6_assign_79 80 rfl ?_
                  refine g_iadd O dX6_assign_80 81 rfl ?_
                  refine g_istore_n O dX6_assign_81 82 [(0, .ref o), (1, vi a), (2, vi p), (3, vi (s + 0)), (4, vi i)] rfl (by decide) rfl ?_
                  refine g_iinc O dX6_assign_82 85 4 [(0, .ref o), (1, vi a), (2, vi p), (3, vi (s + 0)), (4, vi (i + 1))] rfl (by decide) rfl rfl ?_
                  refine g_goto O dX6_assign_85 48 rfl ?_
                  exact ih48 (i + 1) (s + 0) (by omega) (by rw [sm_s _ h1.1, ← h2]; unfold oth; split <;> omega) (by omega)
                · skip
                  refine g_iconst O dX6_assign_75 76 rfl ?_
                  refine g_goto O dX6_assign_76 80 rfl ?_
                  refine g_iadd O dX6_assign_80 81 rfl ?_
                  refine g_istore_n O dX6_assign_81 82 [(0, .ref o), (1, vi a), (2, vi p), (3, vi (s + 1)), (4, vi i)] rfl (by decide) rfl ?_
                  refine g_iinc O dX6_assign_82 85 4 [(0, .ref o), (1, vi a), (2, vi p), (3, vi (s + 1)), (4, vi (i + 1))] rfl (by decide) rfl rfl ?_
                  refine g_goto O dX6_assign_85 48 rfl ?_
                  exact ih48 (i + 1) (s + 1) (by omega) (by rw [sm_s _ h1.1, ← h2]; unfold oth; split <;> omega) (by omega)
        exact lp48 1000 0 0 (by omega) (sm_0 _).symm (by omega)
      refine g_iload_n O dX6_assign_25 26 2 rfl rfl ?_
      refine g_if_lt O dX6_assign_26 29 43 rfl rfl (by omega) (fun h26 => ?_) (fun h26 => ?_)
      · skip
        exact lp43 (by first | (left; omega) | (right; exact rm9_lt (by omega)))
      · skip
        refine g_aload_n O dX6_assign_29 30 0 rfl rfl ?_
        refine g_iload_n O dX6_assign_30 31 1 rfl rfl ?_
        refine g_iload_n O dX6_assign_31 32 2 rfl rfl ?_
        refine g_callV (As := [vi a, vi p]) (rest := []) (na := 2) O (k_X6_rank D o c l t n h b f N P cap len lst nw hi e be fo a p hW (by omega) (by omega)) dX6_assign_32 gX6_assign_X6_rank rfl ⟨rfl, rfl⟩ (by decide +kernel) rfl (by decide) (by decide) rfl (Nat.le_of_ble_eq_true rfl) (q0 := 0) (ci := 6) rfl rfl [0, 1, 2, 3, 4, 5, 6, 7] (by decide) rfl (fun _ => rfl) (fun _ => [(o, co 6 [vi N, vi P, .ref c, .ref l, .ref t, .ref n, .ref h, vi e, .ref b, .ref f]), (c, ca D 5 cap), (l, ca D 6 len), (t, ca D 30 lst), (n, ca D 12 nw), (h, ca D 60 hi), (b, ca D 1701 be), (f, ca D 6 fo)]) (fun _ => rfl) 35 rfl (fun _ _ => ?_)
        show G X D A 5 Q 0 0 35 [(0, .ref o), (1, vi a), (2, vi p)] [vi (rm9 len lst a p)] [(o, co 6 [vi N, vi P, .ref c, .ref l, .ref t, .ref n, .ref h, vi e, .ref b, .ref f]), (c, ca D 5 cap), (l, ca D 6 len), (t, ca D 30 lst), (n, ca D 12 nw), (h, ca D 60 hi), (b, ca D 1701 be), (f, ca D 6 fo)]
        refine g_bipush O dX6_assign_35 37 rfl (by decide) ?_
        refine g_icmp_ne O dX6_assign_37 40 43 rfl rfl (by omega) (fun h37 => ?_) (fun h37 => ?_)
        · skip
          exact lp43 (by first | (left; omega) | (right; exact rm9_lt (by omega)))
        · skip
          refine g_bipush O dX6_assign_40 42 rfl (by decide) ?_
          exact g_iret O hQ dX6_assign_42 (-102, nw, hi, e) rfl rfl (Or.inr (Or.inl ⟨by omega, rm9_ge hW (by omega) (by omega) (by omega), rfl, rfl, rfl, rfl⟩)) ⟨by decide, by decide⟩
    · skip
      have hb16 : ¬ ((-1) ≤ p ∧ p ≤ (P - 1)) := hb16
      show G X D A 5 Q 0 0 19 [(0, .ref o), (1, vi a), (2, vi p)] [vi 0] [(o, co 6 [vi N, vi P, .ref c, .ref l, .ref t, .ref n, .ref h, vi e, .ref b, .ref f]), (c, ca D 5 cap), (l, ca D 6 len), (t, ca D 30 lst), (n, ca D 12 nw), (h, ca D 60 hi), (b, ca D 1701 be), (f, ca D 6 fo)]
      refine g_if_ne O dX6_assign_19 22 25 rfl rfl (by omega) (fun h => absurd h (by decide)) (fun _ => ?_)
      refine g_bipush O dX6_assign_22 24 rfl (by decide) ?_
      exact g_iret O hQ dX6_assign_24 (-101, nw, hi, e) rfl rfl (Or.inl ⟨by omega, rfl, rfl, rfl, rfl⟩) ⟨by decide, by decide⟩
  · skip
    have hb2 : ¬ (0 ≤ a ∧ a < N) := hb2
    show G X D A 5 Q 0 0 5 [(0, .ref o), (1, vi a), (2, vi p)] [vi 0] [(o, co 6 [vi N, vi P, .ref c, .ref l, .ref t, .ref n, .ref h, vi e, .ref b, .ref f]), (c, ca D 5 cap), (l, ca D 6 len), (t, ca D 30 lst), (n, ca D 12 nw), (h, ca D 60 hi), (b, ca D 1701 be), (f, ca D 6 fo)]
    refine g_if_eq O dX6_assign_5 8 22 rfl rfl (by omega) (fun _ => ?_) (fun h => absurd h (by decide))
    refine g_bipush O dX6_assign_22 24 rfl (by decide) ?_
    exact g_iret O hQ dX6_assign_24 (-101, nw, hi, e) rfl rfl (Or.inl ⟨by omega, rfl, rfl, rfl, rfl⟩) ⟨by decide, by decide⟩
end
