-- ===== 03 base: ints as Int, worlds as lists, one judgement G, contracts Con =====
def iI (x : Int) : Int32 := Int32.ofInt x
theorem iI_add (a b : Int) : iI a + iI b = iI (a + b) := (Int32.ofInt_add a b).symm
theorem iI_sub (a b : Int) : iI a - iI b = iI (a - b) := (Int32.ofInt_sub a b).symm
theorem iI_mul (a b : Int) : iI a * iI b = iI (a * b) := (Int32.ofInt_mul a b).symm
theorem iI_toInt {a : Int} (h1 : -2147483648 ≤ a) (h2 : a < 2147483648) : (iI a).toInt = a := Int32.toInt_ofInt_of_le (by omega) (by omega)
theorem iI_of (x : Int32) : iI x.toInt = x := Int32.ofInt_toInt x
theorem iI_bd (x : Int32) : -2147483648 ≤ x.toInt ∧ x.toInt < 2147483648 := ⟨by have := x.le_toInt; omega, by have := x.toInt_lt; omega⟩
theorem iI_eq {a b : Int} (h : -2147483648 ≤ a ∧ a < 2147483648 ∧ -2147483648 ≤ b ∧ b < 2147483648) : iI a = iI b ↔ a = b := by
  constructor
  · intro e
    have e2 := congrArg Int32.toInt e
    rwa [iI_toInt h.1 h.2.1, iI_toInt h.2.2.1 h.2.2.2] at e2
  · intro e
    rw [e]
theorem iI_lt {a b : Int} (h : -2147483648 ≤ a ∧ a < 2147483648 ∧ -2147483648 ≤ b ∧ b < 2147483648) : iI a < iI b ↔ a < b := by
  rw [Int32.lt_iff_toInt_lt, iI_toInt h.1 h.2.1, iI_toInt h.2.2.1 h.2.2.2]
theorem iI_le {a b : Int} (h : -2147483648 ≤ a ∧ a < 2147483648 ∧ -2147483648 ≤ b ∧ b < 2147483648) : iI a ≤ iI b ↔ a ≤ b := by
  rw [Int32.le_iff_toInt_le, iI_toInt h.1 h.2.1, iI_toInt h.2.2.1 h.2.2.2]
theorem iI_cl {i : Int} (h1 : -2147483648 ≤ i) (h2 : i < 2147483648) : (iI i).toNatClampNeg = i.toNat := by
  show (iI i).toInt.toNat = i.toNat
  rw [iI_toInt h1 h2]
theorem iI_in {i : Int} {n : Nat} (hn : n < 2147483648) (h : 0 ≤ i ∧ i < (n : Int)) : vp_in (iI i) n := by
  rw [vp_in_iff, iI_toInt (by omega) (by omega)]
  exact h
theorem iI_nI (n : Nat) : iI (n : Int) = nI n := Int32.ofInt_eq_ofNat
theorem iI_zero : iI 0 = 0 := rfl
theorem iI_inc (a : Int) (c : Int) : iI a + Int32.ofInt c = iI (a + c) := iI_add a c
/-- a power of two -/
def p2 (n : Int) : Int := 2 ^ n.toNat
theorem iI_tn (a : Int) : (iI a).toBitVec.toNat = (a % 4294967296).toNat := by
  show (BitVec.ofInt 32 a).toNat = _
  rw [BitVec.toNat_ofInt]
  rfl
theorem iI_sh : ∀ n : Nat, n < 32 → ((iI (n : Int) &&& 31).toBitVec.smod 32).toNat = n := by decide +kernel
theorem iI_inj_tn {x y : Int32} (h : x.toBitVec.toNat = y.toBitVec.toNat) : x = y := Int32.toBitVec.inj (BitVec.eq_of_toNat_eq h)
theorem iI_shl {a n : Int} (h : 0 ≤ n ∧ n < 32) : iI a <<< (iI n &&& 31) = iI (a * p2 n) := by
  obtain ⟨k, rfl⟩ : ∃ k : Nat, n = (k : Int) := ⟨n.toNat, by omega⟩
  apply iI_inj_tn
  rw [pk_shl (iI a) _ k (iI_sh k (by omega)), iI_tn, iI_tn]
  have e : p2 (k : Int) = ((2 ^ k : Nat) : Int) := by
    show (2 : Int) ^ k = _
    rw [Int.natCast_pow]
    rfl
  rw [e]
  generalize (2 ^ k : Nat) = w
  have h1 : ((a % 4294967296).toNat : Int) = a % 4294967296 := Int.toNat_of_nonneg (Int.emod_nonneg _ (by decide))
  apply Int.ofNat.inj
  show (((a % 4294967296).toNat * w % 2 ^ 32 : Nat) : Int) = (((a * (w : Int)) % 4294967296).toNat : Int)
  rw [Int.toNat_of_nonneg (Int.emod_nonneg _ (by decide)), Int.natCast_emod, Int.natCast_mul, h1]
  show (a % 4294967296 * (w : Int)) % 4294967296 = _
  rw [Int.mul_emod, Int.emod_emod_of_dvd _ (Int.dvd_refl _), ← Int.mul_emod]
theorem iI_shr {a n : Int} (ha : -2147483648 ≤ a ∧ a < 2147483648) (h : 0 ≤ n ∧ n < 32) : iI a >>> (iI n &&& 31) = iI (a / p2 n) := by
  obtain ⟨k, rfl⟩ : ∃ k : Nat, n = (k : Int) := ⟨n.toNat, by omega⟩
  have h1 := pk_shr (iI a) (iI (k : Int) &&& 31) k (iI_sh k (by omega))
  rw [iI_toInt ha.1 ha.2, Int.shiftRight_eq_div_pow] at h1
  have h2 := congrArg iI h1
  rw [iI_of] at h2
  rw [h2]
  congr 2
theorem iI_and {a : Int} {m : Int} (k : Nat) (hk : k ≤ 31) (hm : (iI m).toBitVec.toNat = 2 ^ k - 1) : iI a &&& iI m = iI (a % (2 ^ k : Nat)) := by
  rw [pk_and (iI a) k hm, iI_tn, ← iI_nI]
  congr 1
  rw [Int.natCast_emod, Int.toNat_of_nonneg (Int.emod_nonneg _ (by decide))]
  have hd : ((2 ^ k : Nat) : Int) ∣ 4294967296 := by
    refine ⟨((2 ^ (32 - k) : Nat) : Int), ?_⟩
    rw [← Int.natCast_mul, ← Nat.pow_add, show k + (32 - k) = 32 by omega]
    rfl
  exact Int.emod_emod_of_dvd a hd
theorem iI_div {a b : Int} (ha : 0 ≤ a ∧ a < 2147483648) (hb : 0 < b ∧ b < 2147483648) : iI a / iI b = iI (a / b) := by
  apply Int32.toInt.inj
  rw [Int32.toInt_div_of_ne_right _ _ (fun e => by
    have e2 := congrArg Int32.toInt e
    rw [iI_toInt (by omega) (by omega)] at e2
    have : (-1 : Int32).toInt = -1 := by decide
    omega), iI_toInt (by omega) (by omega), iI_toInt (by omega) (by omega), Int.tdiv_eq_ediv_of_nonneg ha.1]
  have h1 : 0 ≤ a / b := Int.ediv_nonneg ha.1 (by omega)
  have h2 : a / b ≤ a := Int.ediv_le_self b ha.1
  rw [iI_toInt (by omega) (by omega)]
theorem iI_rem {a b : Int} (ha : 0 ≤ a ∧ a < 2147483648) (hb : 0 < b ∧ b < 2147483648) : iI a - iI a / iI b * iI b = iI (a % b) := by
  rw [iI_div ha hb, iI_mul, iI_sub]
  congr 1
  have := Int.emod_add_mul_ediv a b
  rw [Int.mul_comm] at this
  omega
theorem iI_max {a b : Int} (h : -2147483648 ≤ a ∧ a < 2147483648 ∧ -2147483648 ≤ b ∧ b < 2147483648) : (if iI a < iI b then iI b else iI a) = iI (if a < b then b else a) := by
  by_cases c : a < b
  · rw [if_pos c, if_pos ((iI_lt h).mpr c)]
  · rw [if_neg c, if_neg (fun q => c ((iI_lt h).mp q))]
theorem iI_min {a b : Int} (h : -2147483648 ≤ a ∧ a < 2147483648 ∧ -2147483648 ≤ b ∧ b < 2147483648) : (if iI b < iI a then iI b else iI a) = iI (if b < a then b else a) := by
  have h' : -2147483648 ≤ b ∧ b < 2147483648 ∧ -2147483648 ≤ a ∧ a < 2147483648 := ⟨h.2.2.1, h.2.2.2, h.1, h.2.1⟩
  by_cases c : b < a
  · rw [if_pos c, if_pos ((iI_lt h').mpr c)]
  · rw [if_neg c, if_neg (fun q => c ((iI_lt h').mp q))]
-- arrays of ints: a function of Int
def ar (f : Int → Int) : Nat → Int32 := fun k => iI (f (k : Int))
def up (f : Int → Int) (i x : Int) : Int → Int := fun j => if j = i then x else f j
theorem up_s (f : Int → Int) (i x : Int) : up f i x i = x := by simp [up]
theorem up_n {f : Int → Int} {i x j : Int} (h : j ≠ i) : up f i x j = f j := by simp [up, h]
theorem ar_up (f : Int → Int) {i : Int} (x : Int) (hi : 0 ≤ i) : upd (ar f) i.toNat (iI x) = ar (up f i x) := by
  funext k
  by_cases h : k = i.toNat
  · subst h
    simp [upd, ar, up, Int.toNat_of_nonneg hi]
  · have h2 : ¬ (k : Int) = i := fun e => h (by omega)
    simp [upd, ar, up, h, h2]
/-- what a contract knows of the launch: the classes, the class of int[], that of Matching[], the static table's address -/
abbrev DD : Type := va_G × ClassId × ClassId × Nat
abbrev ca (D : DD) (n : Nat) (f : Int → Int) : va_E := .inl (D.2.1, n, .inl (ar f))
abbrev cq (D : DD) (n : Nat) (f : Nat → Option Nat) : va_E := .inl (D.2.2.1, n, .inr (.inr (.inr (.inr f))))
abbrev co (ci : Nat) (fs : List Value) : va_E := .inr (ci, fs)
abbrev vi (x : Int) : Value := .int (iI x)
def pw3 (k : Int) : Int := 3 ^ k.toNat
def KX (D : DD) (A : Nat → Prop) (U : State) : Prop :=
  va_K D.1 vwCl [(D.2.1, .int), (D.2.2.1, .object "PopularMatchings$Matching")] U ∧ va_Z "PopularMatchings$ChallengerSearch" "FILL_OF_POST" "[I" (.ref D.2.2.2) A U U.heap ∧ va_T .int D.2.2.2 6 (fun j => vi (pw3 (j : Int))) A U U.heap ∧ va_AO "PopularMatchings$Matching" U ∧ va_Nw (.methodLinkNest "PopularMatchings" 45 yX4_init "PopularMatchings") U
theorem KX.pass {D : DD} {A B : Nat → Prop} {s U : State} {H : Heap} {locs : List Loc} (h : KX D A s) (hS : va_S A s.heap H locs) (hU : U.heap = H) (hW : s.WarmedH U.vm) (hAB : ∀ q, B q → A q) : KX D B U := by
  obtain ⟨h1, h2, h3, h4, h5⟩ := h
  refine ⟨va_K.moved hW.alike h1, ?_, ?_, va_AO.moved hW.alike h4, va_Nw.warmM hW h5⟩
  · rw [hU]
    exact (va_Z.moved hW.alike (va_Z.kept h2 hS.2.1)).narrow hAB
  · rw [hU]
    exact (va_T.moved hW.alike (va_T.kept h3 hS.2.1)).narrow hAB
theorem KX.call {D : DD} {A : Nat → Prop} {U : State} {g : JFrame} {mk : MethodId} {a : Array Value} (h : KX D A U) : KX D A (U.calling g mk a) := by
  obtain ⟨h1, h2, h3, h4, h5⟩ := h
  exact ⟨va_K.moved (u := U) (U := U.calling g mk a) (Vm.Alike.refl U.vm) h1, va_Z.moved (u := U) (U := U.calling g mk a) (Vm.Alike.refl U.vm) h2, va_T.moved (u := U) (U := U.calling g mk a) (Vm.Alike.refl U.vm) h3, va_AO.moved (u := U) (U := U.calling g mk a) (Vm.Alike.refl U.vm) h4, va_Nw.same (u := U) (U := U.calling g mk a) rfl rfl h5⟩
-- the constant part of a walk
abbrev CX : Type := Program × Launch × Env × Room × State × MethodId × Array Value × List Frame × Method × Code
def Ok (X : CX) (D : DD) (A : Nat → Prop) (cc : ByteArray) (nL : Nat) (own : String) (Ts : List Cond) (ret : Option FieldType) (rm : Room) : Prop :=
  CallFix X.1 X.2.2.2.2.2.1 X.2.2.2.2.2.2.2.2.2 cc nL X.2.2.2.2.1 X.2.2.2.2.2.2.1 Ts own ∧ KX D A X.2.2.2.2.1 ∧ (∀ q, X.2.2.2.2.1.heap.size ≤ q → A q) ∧ X.2.2.2.2.2.2.2.2.1.locks = false ∧ X.2.2.2.2.2.2.2.2.1.sig.returnType = ret ∧ X.2.2.2.1 = rm
def G (X : CX) (D : DD) (A : Nat → Prop) (nL : Nat) (Q : State → Prop) (cs ss pc : Nat) (L : List (Nat × Value)) (st : List Value) (ws : va_W) : Prop :=
  ∀ (H : Heap) (locs : List Loc) (ls : Array Slot), va_P D.1 vwCl ws H → va_D A ws → va_S A X.2.2.2.2.1.heap H locs → lv_has ls nL L →
    W X.1 X.2.1 X.2.2.1 X.2.2.2.1 X.2.2.2.2.1 X.2.2.2.2.2.1 X.2.2.2.2.2.2.1 X.2.2.2.2.2.2.2.1 X.2.2.2.2.2.2.2.2.1 X.2.2.2.2.2.2.2.2.2 H locs cs ss Q (F0 X.2.2.2.2.2.1 pc ls st)
-- locals, kept in their order
def stL (i : Nat) (v : Value) : List (Nat × Value) → List (Nat × Value)
  | [] => [(i, v)]
  | q :: l => if q.1 == i then (i, v) :: l.filter (fun q => !(q.1 == i) && !(q.1 + 1 == i && q.2.category == 2)) else if (!(q.1 == i) && !(q.1 + 1 == i && q.2.category == 2)) then q :: stL i v l else stL i v l
theorem stL_mem {i : Nat} {v : Value} : ∀ {l : List (Nat × Value)} {q : Nat × Value}, q ∈ stL i v l → q ∈ (i, v) :: l.filter (fun q => !(q.1 == i) && !(q.1 + 1 == i && q.2.category == 2))
  | [], q, h => h
  | x :: l, q, h => by
    unfold stL at h
    by_cases h1 : (x.1 == i) = true
    · rw [if_pos h1] at h
      rcases List.mem_cons.mp h with h | h
      · rw [h]; exact List.mem_cons_self
      · refine List.mem_cons_of_mem _ ?_
        rw [List.mem_filter] at h ⊢
        exact ⟨List.mem_cons_of_mem _ h.1, h.2⟩
    · rw [if_neg h1] at h
      by_cases h2 : (!(x.1 == i) && !(x.1 + 1 == i && x.2.category == 2)) = true
      · rw [if_pos h2] at h
        rcases List.mem_cons.mp h with h | h
        · refine List.mem_cons_of_mem _ ?_
          rw [h, List.mem_filter]
          exact ⟨List.mem_cons_self, h2⟩
        · rcases List.mem_cons.mp (stL_mem h) with h3 | h3
          · rw [h3]; exact List.mem_cons_self
          · refine List.mem_cons_of_mem _ ?_
            rw [List.mem_filter] at h3 ⊢
            exact ⟨List.mem_cons_of_mem _ h3.1, h3.2⟩
      · rw [if_neg h2] at h
        rcases List.mem_cons.mp (stL_mem h) with h3 | h3
        · rw [h3]; exact List.mem_cons_self
        · refine List.mem_cons_of_mem _ ?_
          rw [List.mem_filter] at h3 ⊢
          exact ⟨List.mem_cons_of_mem _ h3.1, h3.2⟩
theorem stL_has {ls : Array Slot} {n i : Nat} {v : Value} {l : List (Nat × Value)} (h : lv_has ls n ((i, v) :: l.filter (fun q => !(q.1 == i) && !(q.1 + 1 == i && q.2.category == 2)))) : lv_has ls n (stL i v l) := ⟨h.1, h.2.1, fun q hq => h.2.2 q (stL_mem hq)⟩
section GRules
variable {X : CX} {D : DD} {A : Nat → Prop} {cc : ByteArray} {nL : Nat} {own : String} {Ts : List Cond} {ret : Option FieldType} {rm : Room} {Q : State → Prop} {cs ss pc : Nat} {L : List (Nat × Value)} {st : List Value} {ws : va_W}
theorem g_iconst (O : Ok X D A cc nL own Ts ret rm) {k : Int} (hd : decode cc pc = .ok (.iconst k, 1)) (n : Nat) (hn : pc + 1 = n) (kk : G X D A nL Q cs ss n L (vi k :: st) ws) : G X D A nL Q cs ss pc L st ws := by
  subst hn; intro H locs ls hP hD hS hl
  exact lv_iconst O.1.1 O.1.2.1 hd rfl (kk H locs ls hP hD hS hl)
theorem g_bipush (O : Ok X D A cc nL own Ts ret rm) {k : Int} (hd : decode cc pc = .ok (.bipush k, 2)) (n : Nat) (hn : pc + 2 = n) (hv : (Int8.ofInt k).toInt32 = iI k) (kk : G X D A nL Q cs ss n L (vi k :: st) ws) : G X D A nL Q cs ss pc L st ws := by
  subst hn; intro H locs ls hP hD hS hl
  exact lv_bipush O.1.1 O.1.2.1 hd hv (kk H locs ls hP hD hS hl)
theorem g_sipush (O : Ok X D A cc nL own Ts ret rm) {k : Int} (hd : decode cc pc = .ok (.sipush k, 3)) (n : Nat) (hn : pc + 3 = n) (hv : (Int16.ofInt k).toInt32 = iI k) (kk : G X D A nL Q cs ss n L (vi k :: st) ws) : G X D A nL Q cs ss pc L st ws := by
  subst hn; intro H locs ls hP hD hS hl
  exact lv_sipush O.1.1 O.1.2.1 hd hv (kk H locs ls hP hD hS hl)
theorem g_ldc (O : Ok X D A cc nL own Ts ret rm) {index : Nat} (hd : decode cc pc = .ok (.ldc index, 2)) (n : Nat) (hn : pc + 2 = n) (k : Int) (hc : Cond.constant own index (iI k) ∈ Ts) (kk : G X D A nL Q cs ss n L (vi k :: st) ws) : G X D A nL Q cs ss pc L st ws := by
  subst hn; intro H locs ls hP hD hS hl
  exact lv_ldc O.1.1 O.1.2.1 O.1.2.2.2.1 (O.1.2.2.2.2 _ hc) hd (kk H locs ls hP hD hS hl)
theorem g_iload_n (O : Ok X D A cc nL own Ts ret rm) {k : Fin 4} {x : Int32} (hd : decode cc pc = .ok (.iload_n k, 1)) (n j : Nat) (hn : pc + 1 = n) (hj : L[j]? = some ((k : Nat), .int x)) (kk : G X D A nL Q cs ss n L (.int x :: st) ws) : G X D A nL Q cs ss pc L st ws := by
  subst hn; intro H locs ls hP hD hS hl
  exact lv_iload_n O.1.1 O.1.2.1 hd rfl (lv_at hl j hj) (kk H locs ls hP hD hS hl)
theorem g_iload (O : Ok X D A cc nL own Ts ret rm) {k : Nat} {x : Int32} (hd : decode cc pc = .ok (.iload k, 2)) (n j : Nat) (hn : pc + 2 = n) (hj : L[j]? = some (k, .int x)) (kk : G X D A nL Q cs ss n L (.int x :: st) ws) : G X D A nL Q cs ss pc L st ws := by
  subst hn; intro H locs ls hP hD hS hl
  exact lv_iload O.1.1 O.1.2.1 hd (lv_at hl j hj) (kk H locs ls hP hD hS hl)
theorem g_aload_n (O : Ok X D A cc nL own Ts ret rm) {k : Fin 4} {x : Nat} (hd : decode cc pc = .ok (.aload_n k, 1)) (n j : Nat) (hn : pc + 1 = n) (hj : L[j]? = some ((k : Nat), .ref x)) (kk : G X D A nL Q cs ss n L (.ref x :: st) ws) : G X D A nL Q cs ss pc L st ws := by
  subst hn; intro H locs ls hP hD hS hl
  exact lv_aload_n O.1.1 O.1.2.1 hd rfl (lv_at hl j hj) (kk H locs ls hP hD hS hl)
theorem g_istore_n (O : Ok X D A cc nL own Ts ret rm) {k : Fin 4} {x : Int32} (hd : decode cc pc = .ok (.istore_n k, 1)) (n : Nat) (L' : List (Nat × Value)) (hn : pc + 1 = n) (hk : (k : Nat) < nL) (hL : stL (k : Nat) (.int x) L = L') (kk : G X D A nL Q cs ss n L' st ws) : G X D A nL Q cs ss pc L (.int x :: st) ws := by
  subst hn; subst hL; intro H locs ls hP hD hS hl
  exact lv_istore_n O.1.1 O.1.2.1 hd rfl hl hk rfl (fun ls' hl' => kk H locs ls' hP hD hS (stL_has hl'))
theorem g_istore (O : Ok X D A cc nL own Ts ret rm) {k : Nat} {x : Int32} (hd : decode cc pc = .ok (.istore k, 2)) (n : Nat) (L' : List (Nat × Value)) (hn : pc + 2 = n) (hk : k < nL) (hL : stL k (.int x) L = L') (kk : G X D A nL Q cs ss n L' st ws) : G X D A nL Q cs ss pc L (.int x :: st) ws := by
  subst hn; subst hL; intro H locs ls hP hD hS hl
  exact lv_istore O.1.1 O.1.2.1 hd hl hk rfl (fun ls' hl' => kk H locs ls' hP hD hS (stL_has hl'))
theorem g_astore_n (O : Ok X D A cc nL own Ts ret rm) {k : Fin 4} {x : Nat} (hd : decode cc pc = .ok (.astore_n k, 1)) (n : Nat) (L' : List (Nat × Value)) (hn : pc + 1 = n) (hk : (k : Nat) < nL) (hL : stL (k : Nat) (.ref x) L = L') (kk : G X D A nL Q cs ss n L' st ws) : G X D A nL Q cs ss pc L (.ref x :: st) ws := by
  subst hn; subst hL; intro H locs ls hP hD hS hl
  exact lv_astore_n O.1.1 O.1.2.1 hd rfl hl hk rfl (fun ls' hl' => kk H locs ls' hP hD hS (stL_has hl'))
theorem g_iinc (O : Ok X D A cc nL own Ts ret rm) {k : Nat} {c a : Int} (hd : decode cc pc = .ok (.iinc k c, 3)) (n j : Nat) (L' : List (Nat × Value)) (hn : pc + 3 = n) (hk : k < nL) (hj : L[j]? = some (k, vi a)) (hL : stL k (vi (a + c)) L = L') (kk : G X D A nL Q cs ss n L' st ws) : G X D A nL Q cs ss pc L st ws := by
  subst hn; subst hL; intro H locs ls hP hD hS hl
  exact lv_iinc O.1.1 O.1.2.1 hd hl hj (iI_inc a c) hk rfl (fun ls' hl' => kk H locs ls' hP hD hS (stL_has hl'))
theorem g_iadd (O : Ok X D A cc nL own Ts ret rm) {a b : Int} (hd : decode cc pc = .ok (.iadd, 1)) (n : Nat) (hn : pc + 1 = n) (kk : G X D A nL Q cs ss n L (vi (a + b) :: st) ws) : G X D A nL Q cs ss pc L (vi b :: vi a :: st) ws := by
  subst hn; intro H locs ls hP hD hS hl
  exact lv_iadd O.1.1 O.1.2.1 hd (by rw [iI_add]; exact kk H locs ls hP hD hS hl)
theorem g_isub (O : Ok X D A cc nL own Ts ret rm) {a b : Int} (hd : decode cc pc = .ok (.isub, 1)) (n : Nat) (hn : pc + 1 = n) (kk : G X D A nL Q cs ss n L (vi (a - b) :: st) ws) : G X D A nL Q cs ss pc L (vi b :: vi a :: st) ws := by
  subst hn; intro H locs ls hP hD hS hl
  exact lv_isub O.1.1 O.1.2.1 hd (by rw [iI_sub]; exact kk H locs ls hP hD hS hl)
theorem g_imul (O : Ok X D A cc nL own Ts ret rm) {a b : Int} (hd : decode cc pc = .ok (.imul, 1)) (n : Nat) (hn : pc + 1 = n) (kk : G X D A nL Q cs ss n L (vi (a * b) :: st) ws) : G X D A nL Q cs ss pc L (vi b :: vi a :: st) ws := by
  subst hn; intro H locs ls hP hD hS hl
  exact lv_imul O.1.1 O.1.2.1 hd (by rw [iI_mul]; exact kk H locs ls hP hD hS hl)
theorem g_ishl (O : Ok X D A cc nL own Ts ret rm) {a b : Int} (hd : decode cc pc = .ok (.ishl, 1)) (n : Nat) (hn : pc + 1 = n) (hb : 0 ≤ b ∧ b < 32) (kk : G X D A nL Q cs ss n L (vi (a * p2 b) :: st) ws) : G X D A nL Q cs ss pc L (vi b :: vi a :: st) ws := by
  subst hn; intro H locs ls hP hD hS hl
  exact lv_ishl O.1.1 O.1.2.1 hd (by rw [iI_shl hb]; exact kk H locs ls hP hD hS hl)
theorem g_ishr (O : Ok X D A cc nL own Ts ret rm) {a b : Int} (hd : decode cc pc = .ok (.ishr, 1)) (n : Nat) (hn : pc + 1 = n) (hb : -2147483648 ≤ a ∧ a < 2147483648 ∧ 0 ≤ b ∧ b < 32) (kk : G X D A nL Q cs ss n L (vi (a / p2 b) :: st) ws) : G X D A nL Q cs ss pc L (vi b :: vi a :: st) ws := by
  subst hn; intro H locs ls hP hD hS hl
  exact lv_ishr O.1.1 O.1.2.1 hd (by rw [iI_shr ⟨hb.1, hb.2.1⟩ hb.2.2]; exact kk H locs ls hP hD hS hl)
theorem g_iand (O : Ok X D A cc nL own Ts ret rm) {a m : Int} (hd : decode cc pc = .ok (.iand, 1)) (n : Nat) (hn : pc + 1 = n) (k : Nat) (hk : k ≤ 31) (hm : (iI m).toBitVec.toNat = 2 ^ k - 1) (w : Int) (hw : w = ((2 ^ k : Nat) : Int)) (kk : G X D A nL Q cs ss n L (vi (a % w) :: st) ws) : G X D A nL Q cs ss pc L (vi m :: vi a :: st) ws := by
  subst hn; subst hw; intro H locs ls hP hD hS hl
  exact lv_iand O.1.1 O.1.2.1 hd (by rw [iI_and k hk hm]; exact kk H locs ls hP hD hS hl)
theorem g_idiv (O : Ok X D A cc nL own Ts ret rm) {a b : Int} (hd : decode cc pc = .ok (.idiv, 1)) (n : Nat) (hn : pc + 1 = n) (hb : 0 ≤ a ∧ a < 2147483648 ∧ 0 < b ∧ b < 2147483648) (kk : G X D A nL Q cs ss n L (vi (a / b) :: st) ws) : G X D A nL Q cs ss pc L (vi b :: vi a :: st) ws := by
  subst hn; intro H locs ls hP hD hS hl
  exact lv_idiv O.1.1 O.1.2.1 hd (fun e => by rw [← iI_zero, iI_eq (by omega)] at e; omega) (by rw [iI_div ⟨hb.1, hb.2.1⟩ hb.2.2]; exact kk H locs ls hP hD hS hl)
theorem g_irem (O : Ok X D A cc nL own Ts ret rm) {a b : Int} (hd : decode cc pc = .ok (.irem, 1)) (n : Nat) (hn : pc + 1 = n) (hb : 0 ≤ a ∧ a < 2147483648 ∧ 0 < b ∧ b < 2147483648) (kk : G X D A nL Q cs ss n L (vi (a % b) :: st) ws) : G X D A nL Q cs ss pc L (vi b :: vi a :: st) ws := by
  subst hn; intro H locs ls hP hD hS hl
  exact lv_irem O.1.1 O.1.2.1 hd (fun e => by rw [← iI_zero, iI_eq (by omega)] at e; omega) (by rw [iI_rem ⟨hb.1, hb.2.1⟩ hb.2.2]; exact kk H locs ls hP hD hS hl)
theorem g_dup (O : Ok X D A cc nL own Ts ret rm) {v : Value} (hd : decode cc pc = .ok (.dup, 1)) (n : Nat) (hn : pc + 1 = n) (hv : v.category = 1) (kk : G X D A nL Q cs ss n L (v :: v :: st) ws) : G X D A nL Q cs ss pc L (v :: st) ws := by
  subst hn; intro H locs ls hP hD hS hl
  exact lv_dup O.1.1 O.1.2.1 hd hv (kk H locs ls hP hD hS hl)
theorem g_pop (O : Ok X D A cc nL own Ts ret rm) {v : Value} (hd : decode cc pc = .ok (.pop, 1)) (n : Nat) (hn : pc + 1 = n) (hv : v.category = 1) (kk : G X D A nL Q cs ss n L st ws) : G X D A nL Q cs ss pc L (v :: st) ws := by
  subst hn; intro H locs ls hP hD hS hl
  exact lv_pop O.1.1 O.1.2.1 hd hv (kk H locs ls hP hD hS hl)
theorem g_dup2 (O : Ok X D A cc nL own Ts ret rm) {v w : Value} (hd : decode cc pc = .ok (.dup2, 1)) (n : Nat) (hn : pc + 1 = n) (hv : v.category = 1) (hw : w.category = 1) (kk : G X D A nL Q cs ss n L (v :: w :: v :: w :: st) ws) : G X D A nL Q cs ss pc L (v :: w :: st) ws := by
  subst hn; intro H locs ls hP hD hS hl
  exact lv_dup2_11 O.1.1 O.1.2.1 hd hv hw (kk H locs ls hP hD hS hl)
theorem g_goto (O : Ok X D A cc nL own Ts ret rm) {off : Int} (hd : decode cc pc = .ok (.goto off, 3)) (t : Nat) (ht : (pc : Int) + off = (t : Int)) (kk : G X D A nL Q cs ss t L st ws) : G X D A nL Q cs ss pc L st ws := by
  intro H locs ls hP hD hS hl
  exact lv_goto O.1.1 O.1.2.1 hd ht (kk H locs ls hP hD hS hl)
end GRules
section GBranch
variable {X : CX} {D : DD} {A : Nat → Prop} {cc : ByteArray} {nL : Nat} {own : String} {Ts : List Cond} {ret : Option FieldType} {rm : Room} {Q : State → Prop} {cs ss pc : Nat} {L : List (Nat × Value)} {st : List Value} {ws : va_W}
theorem g_icmp_eq (O : Ok X D A cc nL own Ts ret rm) {off : Int} {a b : Int} (hd : decode cc pc = .ok (.if_icmp .eq off, 3)) (n t : Nat) (hn : pc + 3 = n) (ht : (pc : Int) + off = (t : Int)) (hb : -2147483648 ≤ a ∧ a < 2147483648 ∧ -2147483648 ≤ b ∧ b < 2147483648) (kt : a = b → G X D A nL Q cs ss t L st ws) (kf : ¬ a = b → G X D A nL Q cs ss n L st ws) : G X D A nL Q cs ss pc L (vi b :: vi a :: st) ws := by
  subst hn
  have hb0 := hb
  have hb1 : -2147483648 ≤ b ∧ b < 2147483648 ∧ -2147483648 ≤ a ∧ a < 2147483648 := ⟨hb.2.2.1, hb.2.2.2, hb.1, hb.2.1⟩
  intro H locs ls hP hD hS hl
  exact lv_icmp_eq O.1.1 O.1.2.1 hd ht (fun h => kt ((iI_eq hb0).mp h) H locs ls hP hD hS hl) (fun h => kf (fun e => h ((iI_eq hb0).mpr e)) H locs ls hP hD hS hl)
theorem g_if_eq (O : Ok X D A cc nL own Ts ret rm) {off : Int} {a : Int} (hd : decode cc pc = .ok (.ifCond .eq off, 3)) (n t : Nat) (hn : pc + 3 = n) (ht : (pc : Int) + off = (t : Int)) (hb : -2147483648 ≤ a ∧ a < 2147483648) (kt : a = 0 → G X D A nL Q cs ss t L st ws) (kf : ¬ a = 0 → G X D A nL Q cs ss n L st ws) : G X D A nL Q cs ss pc L (vi a :: st) ws := by
  subst hn
  have hb0 : -2147483648 ≤ a ∧ a < 2147483648 ∧ -2147483648 ≤ (0 : Int) ∧ (0 : Int) < 2147483648 := ⟨hb.1, hb.2, by decide, by decide⟩
  have hb1 : -2147483648 ≤ (0 : Int) ∧ (0 : Int) < 2147483648 ∧ -2147483648 ≤ a ∧ a < 2147483648 := ⟨by decide, by decide, hb.1, hb.2⟩
  intro H locs ls hP hD hS hl
  exact lv_if_eq O.1.1 O.1.2.1 hd ht (fun h => kt ((iI_eq hb0).mp h) H locs ls hP hD hS hl) (fun h => kf (fun e => h ((iI_eq hb0).mpr e)) H locs ls hP hD hS hl)
theorem g_icmp_ne (O : Ok X D A cc nL own Ts ret rm) {off : Int} {a b : Int} (hd : decode cc pc = .ok (.if_icmp .ne off, 3)) (n t : Nat) (hn : pc + 3 = n) (ht : (pc : Int) + off = (t : Int)) (hb : -2147483648 ≤ a ∧ a < 2147483648 ∧ -2147483648 ≤ b ∧ b < 2147483648) (kt : ¬ a = b → G X D A nL Q cs ss t L st ws) (kf : a = b → G X D A nL Q cs ss n L st ws) : G X D A nL Q cs ss pc L (vi b :: vi a :: st) ws := by
  subst hn
  have hb0 := hb
  have hb1 : -2147483648 ≤ b ∧ b < 2147483648 ∧ -2147483648 ≤ a ∧ a < 2147483648 := ⟨hb.2.2.1, hb.2.2.2, hb.1, hb.2.1⟩
  intro H locs ls hP hD hS hl
  exact lv_icmp_ne O.1.1 O.1.2.1 hd ht (fun h => kt (fun e => h ((iI_eq hb0).mpr e)) H locs ls hP hD hS hl) (fun h => kf ((iI_eq hb0).mp h) H locs ls hP hD hS hl)
theorem g_if_ne (O : Ok X D A cc nL own Ts ret rm) {off : Int} {a : Int} (hd : decode cc pc = .ok (.ifCond .ne off, 3)) (n t : Nat) (hn : pc + 3 = n) (ht : (pc : Int) + off = (t : Int)) (hb : -2147483648 ≤ a ∧ a < 2147483648) (kt : ¬ a = 0 → G X D A nL Q cs ss t L st ws) (kf : a = 0 → G X D A nL Q cs ss n L st ws) : G X D A nL Q cs ss pc L (vi a :: st) ws := by
  subst hn
  have hb0 : -2147483648 ≤ a ∧ a < 2147483648 ∧ -2147483648 ≤ (0 : Int) ∧ (0 : Int) < 2147483648 := ⟨hb.1, hb.2, by decide, by decide⟩
  have hb1 : -2147483648 ≤ (0 : Int) ∧ (0 : Int) < 2147483648 ∧ -2147483648 ≤ a ∧ a < 2147483648 := ⟨by decide, by decide, hb.1, hb.2⟩
  intro H locs ls hP hD hS hl
  exact lv_if_ne O.1.1 O.1.2.1 hd ht (fun h => kt (fun e => h ((iI_eq hb0).mpr e)) H locs ls hP hD hS hl) (fun h => kf ((iI_eq hb0).mp h) H locs ls hP hD hS hl)
theorem g_icmp_lt (O : Ok X D A cc nL own Ts ret rm) {off : Int} {a b : Int} (hd : decode cc pc = .ok (.if_icmp .lt off, 3)) (n t : Nat) (hn : pc + 3 = n) (ht : (pc : Int) + off = (t : Int)) (hb : -2147483648 ≤ a ∧ a < 2147483648 ∧ -2147483648 ≤ b ∧ b < 2147483648) (kt : a < b → G X D A nL Q cs ss t L st ws) (kf : b ≤ a → G X D A nL Q cs ss n L st ws) : G X D A nL Q cs ss pc L (vi b :: vi a :: st) ws := by
  subst hn
  have hb0 := hb
  have hb1 : -2147483648 ≤ b ∧ b < 2147483648 ∧ -2147483648 ≤ a ∧ a < 2147483648 := ⟨hb.2.2.1, hb.2.2.2, hb.1, hb.2.1⟩
  intro H locs ls hP hD hS hl
  exact lv_icmp_lt O.1.1 O.1.2.1 hd ht (fun h => kt ((iI_lt hb0).mp h) H locs ls hP hD hS hl) (fun h => kf (Int.not_lt.mp (fun e => h ((iI_lt hb0).mpr e))) H locs ls hP hD hS hl)
theorem g_if_lt (O : Ok X D A cc nL own Ts ret rm) {off : Int} {a : Int} (hd : decode cc pc = .ok (.ifCond .lt off, 3)) (n t : Nat) (hn : pc + 3 = n) (ht : (pc : Int) + off = (t : Int)) (hb : -2147483648 ≤ a ∧ a < 2147483648) (kt : a < 0 → G X D A nL Q cs ss t L st ws) (kf : 0 ≤ a → G X D A nL Q cs ss n L st ws) : G X D A nL Q cs ss pc L (vi a :: st) ws := by
  subst hn
  have hb0 : -2147483648 ≤ a ∧ a < 2147483648 ∧ -2147483648 ≤ (0 : Int) ∧ (0 : Int) < 2147483648 := ⟨hb.1, hb.2, by decide, by decide⟩
  have hb1 : -2147483648 ≤ (0 : Int) ∧ (0 : Int) < 2147483648 ∧ -2147483648 ≤ a ∧ a < 2147483648 := ⟨by decide, by decide, hb.1, hb.2⟩
  intro H locs ls hP hD hS hl
  exact lv_if_lt O.1.1 O.1.2.1 hd ht (fun h => kt ((iI_lt hb0).mp h) H locs ls hP hD hS hl) (fun h => kf (Int.not_lt.mp (fun e => h ((iI_lt hb0).mpr e))) H locs ls hP hD hS hl)
theorem g_icmp_ge (O : Ok X D A cc nL own Ts ret rm) {off : Int} {a b : Int} (hd : decode cc pc = .ok (.if_icmp .ge off, 3)) (n t : Nat) (hn : pc + 3 = n) (ht : (pc : Int) + off = (t : Int)) (hb : -2147483648 ≤ a ∧ a < 2147483648 ∧ -2147483648 ≤ b ∧ b < 2147483648) (kt : b ≤ a → G X D A nL Q cs ss t L st ws) (kf : a < b → G X D A nL Q cs ss n L st ws) : G X D A nL Q cs ss pc L (vi b :: vi a :: st) ws := by
  subst hn
  have hb0 := hb
  have hb1 : -2147483648 ≤ b ∧ b < 2147483648 ∧ -2147483648 ≤ a ∧ a < 2147483648 := ⟨hb.2.2.1, hb.2.2.2, hb.1, hb.2.1⟩
  intro H locs ls hP hD hS hl
  exact lv_icmp_ge O.1.1 O.1.2.1 hd ht (fun h => kt ((iI_le hb1).mp h) H locs ls hP hD hS hl) (fun h => kf (Int.not_le.mp (fun e => h ((iI_le hb1).mpr e))) H locs ls hP hD hS hl)
theorem g_if_ge (O : Ok X D A cc nL own Ts ret rm) {off : Int} {a : Int} (hd : decode cc pc = .ok (.ifCond .ge off, 3)) (n t : Nat) (hn : pc + 3 = n) (ht : (pc : Int) + off = (t : Int)) (hb : -2147483648 ≤ a ∧ a < 2147483648) (kt : 0 ≤ a → G X D A nL Q cs ss t L st ws) (kf : a < 0 → G X D A nL Q cs ss n L st ws) : G X D A nL Q cs ss pc L (vi a :: st) ws := by
  subst hn
  have hb0 : -2147483648 ≤ a ∧ a < 2147483648 ∧ -2147483648 ≤ (0 : Int) ∧ (0 : Int) < 2147483648 := ⟨hb.1, hb.2, by decide, by decide⟩
  have hb1 : -2147483648 ≤ (0 : Int) ∧ (0 : Int) < 2147483648 ∧ -2147483648 ≤ a ∧ a < 2147483648 := ⟨by decide, by decide, hb.1, hb.2⟩
  intro H locs ls hP hD hS hl
  exact lv_if_ge O.1.1 O.1.2.1 hd ht (fun h => kt ((iI_le hb1).mp h) H locs ls hP hD hS hl) (fun h => kf (Int.not_le.mp (fun e => h ((iI_le hb1).mpr e))) H locs ls hP hD hS hl)
theorem g_icmp_gt (O : Ok X D A cc nL own Ts ret rm) {off : Int} {a b : Int} (hd : decode cc pc = .ok (.if_icmp .gt off, 3)) (n t : Nat) (hn : pc + 3 = n) (ht : (pc : Int) + off = (t : Int)) (hb : -2147483648 ≤ a ∧ a < 2147483648 ∧ -2147483648 ≤ b ∧ b < 2147483648) (kt : b < a → G X D A nL Q cs ss t L st ws) (kf : a ≤ b → G X D A nL Q cs ss n L st ws) : G X D A nL Q cs ss pc L (vi b :: vi a :: st) ws := by
  subst hn
  have hb0 := hb
  have hb1 : -2147483648 ≤ b ∧ b < 2147483648 ∧ -2147483648 ≤ a ∧ a < 2147483648 := ⟨hb.2.2.1, hb.2.2.2, hb.1, hb.2.1⟩
  intro H locs ls hP hD hS hl
  exact lv_icmp_gt O.1.1 O.1.2.1 hd ht (fun h => kt ((iI_lt hb1).mp h) H locs ls hP hD hS hl) (fun h => kf (Int.not_lt.mp (fun e => h ((iI_lt hb1).mpr e))) H locs ls hP hD hS hl)
theorem g_if_gt (O : Ok X D A cc nL own Ts ret rm) {off : Int} {a : Int} (hd : decode cc pc = .ok (.ifCond .gt off, 3)) (n t : Nat) (hn : pc + 3 = n) (ht : (pc : Int) + off = (t : Int)) (hb : -2147483648 ≤ a ∧ a < 2147483648) (kt : 0 < a → G X D A nL Q cs ss t L st ws) (kf : a ≤ 0 → G X D A nL Q cs ss n L st ws) : G X D A nL Q cs ss pc L (vi a :: st) ws := by
  subst hn
  have hb0 : -2147483648 ≤ a ∧ a < 2147483648 ∧ -2147483648 ≤ (0 : Int) ∧ (0 : Int) < 2147483648 := ⟨hb.1, hb.2, by decide, by decide⟩
  have hb1 : -2147483648 ≤ (0 : Int) ∧ (0 : Int) < 2147483648 ∧ -2147483648 ≤ a ∧ a < 2147483648 := ⟨by decide, by decide, hb.1, hb.2⟩
  intro H locs ls hP hD hS hl
  exact lv_if_gt O.1.1 O.1.2.1 hd ht (fun h => kt ((iI_lt hb1).mp h) H locs ls hP hD hS hl) (fun h => kf (Int.not_lt.mp (fun e => h ((iI_lt hb1).mpr e))) H locs ls hP hD hS hl)
theorem g_icmp_le (O : Ok X D A cc nL own Ts ret rm) {off : Int} {a b : Int} (hd : decode cc pc = .ok (.if_icmp .le off, 3)) (n t : Nat) (hn : pc + 3 = n) (ht : (pc : Int) + off = (t : Int)) (hb : -2147483648 ≤ a ∧ a < 2147483648 ∧ -2147483648 ≤ b ∧ b < 2147483648) (kt : a ≤ b → G X D A nL Q cs ss t L st ws) (kf : b < a → G X D A nL Q cs ss n L st ws) : G X D A nL Q cs ss pc L (vi b :: vi a :: st) ws := by
  subst hn
  have hb0 := hb
  have hb1 : -2147483648 ≤ b ∧ b < 2147483648 ∧ -2147483648 ≤ a ∧ a < 2147483648 := ⟨hb.2.2.1, hb.2.2.2, hb.1, hb.2.1⟩
  intro H locs ls hP hD hS hl
  exact lv_icmp_le O.1.1 O.1.2.1 hd ht (fun h => kt ((iI_le hb0).mp h) H locs ls hP hD hS hl) (fun h => kf (Int.not_le.mp (fun e => h ((iI_le hb0).mpr e))) H locs ls hP hD hS hl)
theorem g_if_le (O : Ok X D A cc nL own Ts ret rm) {off : Int} {a : Int} (hd : decode cc pc = .ok (.ifCond .le off, 3)) (n t : Nat) (hn : pc + 3 = n) (ht : (pc : Int) + off = (t : Int)) (hb : -2147483648 ≤ a ∧ a < 2147483648) (kt : a ≤ 0 → G X D A nL Q cs ss t L st ws) (kf : 0 < a → G X D A nL Q cs ss n L st ws) : G X D A nL Q cs ss pc L (vi a :: st) ws := by
  subst hn
  have hb0 : -2147483648 ≤ a ∧ a < 2147483648 ∧ -2147483648 ≤ (0 : Int) ∧ (0 : Int) < 2147483648 := ⟨hb.1, hb.2, by decide, by decide⟩
  have hb1 : -2147483648 ≤ (0 : Int) ∧ (0 : Int) < 2147483648 ∧ -2147483648 ≤ a ∧ a < 2147483648 := ⟨by decide, by decide, hb.1, hb.2⟩
  intro H locs ls hP hD hS hl
  exact lv_if_le O.1.1 O.1.2.1 hd ht (fun h => kt ((iI_le hb0).mp h) H locs ls hP hD hS hl) (fun h => kf (Int.not_le.mp (fun e => h ((iI_le hb0).mpr e))) H locs ls hP hD hS hl)
end GBranch
section GMem
variable {X : CX} {D : DD} {A : Nat → Prop} {cc : ByteArray} {nL : Nat} {own : String} {Ts : List Cond} {ret : Option FieldType} {rm : Room} {Q : State → Prop} {cs ss pc : Nat} {L : List (Nat × Value)} {st : List Value} {ws : va_W}
/-- a field's link in a method's words: class ci of vwCl, its field k, the pool's place index -/
def FK (own : String) (Ts : List Cond) (index ci k : Nat) : Prop := ∃ (C : String) (T : u_T) (N : Nat), vwCl[ci]? = some (C, T, N) ∧ (∀ w ∈ u_ws C T N, w ∈ Ts) ∧ k < N ∧ Cond.fieldLink own index (T k).1 (T k).2.1 (T k).2.2.1 ∈ Ts
/-- what a class says of its field k: its type, and whether it is final -/
def FP (ci k : Nat) (fin : Bool) (ty : FieldType) : Prop := ∃ (C : String) (T : u_T) (N : Nat) (ty0 : Nat → FieldType), vwCl[ci]? = some (C, T, N) ∧ (∀ j, j < N → parseFieldDescriptor (T j).2.2.1 = some (ty0 j)) ∧ (∀ a, a < N → ∀ b, b < N → a ≠ b → (T a).2.1 ≠ (T b).2.1) ∧ (T k).2.2.2 = fin ∧ parseFieldDescriptor (T k).2.2.1 = some ty
theorem g_get (O : Ok X D A cc nL own Ts ret rm) {index a : Nat} (hd : decode cc pc = .ok (.getfield index, 3)) (n : Nat) (hn : pc + 3 = n) {ci k : Nat} (hf : FK own Ts index ci k) (q0 : Nat) {fs : List Value} {v : Value} (hq : ws[q0]? = some (a, co ci fs)) (hv : fs[k]? = some v) (kk : G X D A nL Q cs ss n L (v :: st) ws) : G X D A nL Q cs ss pc L (.ref a :: st) ws := by
  subst hn; intro H locs ls hP hD hS hl
  obtain ⟨C, T, N, h1, h2, h3, h4⟩ := hf
  exact va_get (D := D.1) (ci := ci) (v := v) (C := C) (T := T) (N := N) O.1.1 O.1.2.1 O.1.2.2.2.2 h2 O.1.2.2.2.1 O.2.1.1 hP q0 hq h1 k h3 (O.1.2.2.2.2 _ h4) (fun _ h => h) hv hd (kk H locs ls hP hD hS hl)
theorem g_put (O : Ok X D A cc nL own Ts ret rm) {index a : Nat} (hd : decode cc pc = .ok (.putfield index, 3)) (n : Nat) (hn : pc + 3 = n) {ci k : Nat} (hf : FK own Ts index ci k) {ty : FieldType} (hp : FP ci k false ty) (q0 : Nat) {fs : List Value} {v : Value} (hq : ws[q0]? = some (a, co ci fs)) (hnr : narrow ty v = v) (hft : fits ty v = true) (hk : k < fs.length) (ws' : va_W) (hw : ws.set q0 (a, co ci (fs.set k v)) = ws') (kk : G X D A nL Q cs ss n L st ws') : G X D A nL Q cs ss pc L (v :: .ref a :: st) ws := by
  subst hn; subst hw; intro H locs ls hP hD hS hl
  obtain ⟨C, T, N, h1, h2, h3, h4⟩ := hf
  obtain ⟨C', T', N', ty0, g1, g2, g3, g4, g5⟩ := hp
  cases h1.symm.trans g1
  exact va_put (D := D.1) (ci := ci) (v := v) (ty := ty) (C := C) (T := T) (N := N) O.1.1 O.1.2.1 O.1.2.2.2.2 h2 ty0 g2 g3 O.1.2.2.2.1 O.2.1.1 hP hD hS q0 hq h1 k h3 (O.1.2.2.2.2 _ h4) (fun _ h => h) g4 g5 hnr hft hk hd (fun H locs hP hD hS => kk H locs ls hP hD hS hl)
theorem g_putF (O : Ok X D A cc nL own Ts ret rm) (hin : X.2.2.2.2.2.2.2.2.1.name = "<init>") {index a : Nat} (hd : decode cc pc = .ok (.putfield index, 3)) (n : Nat) (hn : pc + 3 = n) {ci k : Nat} (hf : FK own Ts index ci k) {ty : FieldType} (hp : FP ci k true ty) (ho : ∀ C T N, vwCl[ci]? = some (C, T, N) → (T k).1 = own) (q0 : Nat) {fs : List Value} {v : Value} (hq : ws[q0]? = some (a, co ci fs)) (hnr : narrow ty v = v) (hft : fits ty v = true) (hk : k < fs.length) (ws' : va_W) (hw : ws.set q0 (a, co ci (fs.set k v)) = ws') (kk : G X D A nL Q cs ss n L st ws') : G X D A nL Q cs ss pc L (v :: .ref a :: st) ws := by
  subst hn; subst hw; intro H locs ls hP hD hS hl
  obtain ⟨C, T, N, h1, h2, h3, h4⟩ := hf
  obtain ⟨C', T', N', ty0, g1, g2, g3, g4, g5⟩ := hp
  cases h1.symm.trans g1
  exact va_putF (D := D.1) (ci := ci) (v := v) (ty := ty) (C := C) (T := T) (N := N) O.1.1 O.1.2.1 O.1.2.2.2.2 h2 ty0 g2 g3 O.1.2.2.2.1 O.2.1.1 hP hD hS q0 hq h1 k h3 (O.1.2.2.2.2 _ h4) (fun _ h => h) g4 hin (ho _ _ _ h1) g5 hnr hft hk hd (fun H locs hP hD hS => kk H locs ls hP hD hS hl)
theorem g_iald (O : Ok X D A cc nL own Ts ret rm) {a z : Nat} {i : Int} {f : Int → Int} (hd : decode cc pc = .ok (.iaload, 1)) (n : Nat) (hn : pc + 1 = n) (q0 : Nat) (hq : ws[q0]? = some (a, ca D z f)) (hz : z < 2147483648) (hi : 0 ≤ i ∧ i < (z : Int)) (kk : G X D A nL Q cs ss n L (vi (f i) :: st) ws) : G X D A nL Q cs ss pc L (vi i :: .ref a :: st) ws := by
  subst hn; intro H locs ls hP hD hS hl
  refine va_iald O.1.1 O.1.2.1 O.2.1.1 hP q0 0 hq rfl (iI_in hz hi) hd ?_
  rw [iI_cl (by omega) (by omega), show ar f i.toNat = iI (f i) by rw [ar, Int.toNat_of_nonneg hi.1]]
  exact kk H locs ls hP hD hS hl
theorem g_iast (O : Ok X D A cc nL own Ts ret rm) {a z : Nat} {i x : Int} {f : Int → Int} (hd : decode cc pc = .ok (.iastore, 1)) (n : Nat) (hn : pc + 1 = n) (q0 : Nat) (hq : ws[q0]? = some (a, ca D z f)) (hz : z < 2147483648) (hi : 0 ≤ i ∧ i < (z : Int)) (ws' : va_W) (hw : ws.set q0 (a, ca D z (up f i x)) = ws') (kk : G X D A nL Q cs ss n L st ws') : G X D A nL Q cs ss pc L (vi x :: vi i :: .ref a :: st) ws := by
  subst hn; subst hw; intro H locs ls hP hD hS hl
  refine va_iast O.1.1 O.1.2.1 O.2.1.1 hP hD hS q0 0 hq rfl (iI_in hz hi) hd (fun H locs hP hD hS => ?_)
  rw [iI_cl (by omega) (by omega), ar_up f x hi.1] at hP hD
  exact kk H locs ls hP hD hS hl
theorem g_aald (O : Ok X D A cc nL own Ts ret rm) {a z : Nat} {i : Int} {f : Nat → Option Nat} (hd : decode cc pc = .ok (.aaload, 1)) (n : Nat) (hn : pc + 1 = n) (q0 : Nat) (hq : ws[q0]? = some (a, cq D z f)) (hz : z < 2147483648) (hi : 0 ≤ i ∧ i < (z : Int)) (b : Nat) (hb : f i.toNat = some b) (kk : G X D A nL Q cs ss n L (.ref b :: st) ws) : G X D A nL Q cs ss pc L (vi i :: .ref a :: st) ws := by
  subst hn; intro H locs ls hP hD hS hl
  refine va_aldq O.1.1 O.1.2.1 O.2.1.1 hP q0 1 hq rfl (iI_in hz hi) hd ?_
  rw [iI_cl (by omega) (by omega), hb]
  exact kk H locs ls hP hD hS hl
theorem g_aast (O : Ok X D A cc nL own Ts ret rm) {a z : Nat} {i : Int} {f : Nat → Option Nat} {b : Nat} (hd : decode cc pc = .ok (.aastore, 1)) (n : Nat) (hn : pc + 1 = n) (q0 qk : Nat) (hq : ws[q0]? = some (a, cq D z f)) {vs : List Value} (hv : ws[qk]? = some (b, co 3 vs)) (hz : z < 2147483648) (hi : 0 ≤ i ∧ i < (z : Int)) (f' : Nat → Option Nat) (hf : va_up f i.toNat (some b) = f') (ws' : va_W) (hw : ws.set q0 (a, cq D z f') = ws') (kk : G X D A nL Q cs ss n L st ws') : G X D A nL Q cs ss pc L (.ref b :: vi i :: .ref a :: st) ws := by
  subst hn; subst hw; subst hf; intro H locs ls hP hD hS hl
  refine va_astq O.1.1 O.1.2.1 O.2.1.1 hP hD hS q0 1 qk 3 (r := (RX3, TX3, 1)) hq rfl hv rfl (iI_in hz hi) hd (fun H locs hP hD hS => ?_)
  rw [iI_cl (by omega) (by omega)] at hP hD
  exact kk H locs ls hP hD hS hl
/-- the static table -/
theorem g_getsT (O : Ok X D A cc nL own Ts ret rm) {index : Nat} (hd : decode cc pc = .ok (.getstatic index, 3)) (n : Nat) (hn : pc + 3 = n) (hl0 : Cond.fieldLink own index "PopularMatchings$ChallengerSearch" "FILL_OF_POST" "[I" ∈ Ts) (kk : G X D A nL Q cs ss n L (.ref D.2.2.2 :: st) ws) : G X D A nL Q cs ss pc L st ws := by
  subst hn; intro H locs ls hP hD hS hl
  exact va_gets O.1.1 O.1.2.1 O.2.1.2.1 hS O.1.2.2.2.1 (O.1.2.2.2.2 _ hl0) (fun _ h => h) hd (kk H locs ls hP hD hS hl)
theorem g_ialdT (O : Ok X D A cc nL own Ts ret rm) {i : Int} (hd : decode cc pc = .ok (.iaload, 1)) (n : Nat) (hn : pc + 1 = n) (hi : 0 ≤ i ∧ i < 6) (kk : G X D A nL Q cs ss n L (vi (pw3 i) :: st) ws) : G X D A nL Q cs ss pc L (vi i :: .ref D.2.2.2 :: st) ws := by
  subst hn; intro H locs ls hP hD hS hl
  refine va_ti O.1.1 O.1.2.1 O.2.1.2.2.1 hS (iI_in (n := 6) (by decide) (by simpa using hi)) (v := vi (pw3 i)) ?_ hd (kk H locs ls hP hD hS hl)
  show vi (pw3 ((iI i).toNatClampNeg : Int)) = _
  rw [iI_cl (by omega) (by omega), Int.toNat_of_nonneg hi.1]
/-- an array's contents by another function that agrees on its places -/
theorem ca_eq {D : DD} {z : Nat} {f g : Int → Int} (h : ∀ k : Int, 0 ≤ k → k < (z : Int) → f k = g k) : vp_cell D.2.1 (z, .inl (ar f)) = vp_cell D.2.1 (z, .inl (ar g)) := by
  rw [vp_cell_i, vp_cell_i, arrV, arrV]
  congr 1
  apply Array.ext
  · simp
  · intro j h1 h2
    have hj : j < z := by simpa using h1
    simp [ar, h (j : Int) (by omega) (by omega)]
theorem g_arr (q0 : Nat) {a z : Nat} {f : Int → Int} (g : Int → Int) (hq : ws[q0]? = some (a, ca D z f)) (h : ∀ k : Int, 0 ≤ k → k < (z : Int) → f k = g k) (ws' : va_W) (hw : ws.set q0 (a, ca D z g) = ws') (kk : G X D A nL Q cs ss pc L st ws') : G X D A nL Q cs ss pc L st ws := by
  subst hw; intro H locs ls hP hD hS hl
  refine kk H locs ls (hP.set hD hq ?_ (fun _ _ => rfl)) (hD.set hq) hS hl
  show H[a]? = some (vp_cell D.2.1 (z, .inl (ar g)))
  rw [← ca_eq h]
  exact hP q0 _ hq
/-- fewer locals, in any order -/
theorem g_loc {L' : List (Nat × Value)} (ks : List Nat) (hL : lv_pick L ks = L') (kk : G X D A nL Q cs ss pc L' st ws) : G X D A nL Q cs ss pc L st ws := by
  intro H locs ls hP hD hS hl
  exact kk H locs ls hP hD hS (lv_sub hl ks hL)
theorem g_widen (cs' ss' : Nat) (h1 : cs ≤ cs') (h2 : ss ≤ ss') (kk : G X D A nL Q cs' ss' pc L st ws) : G X D A nL Q cs ss pc L st ws := by
  intro H locs ls hP hD hS hl
  exact W.widen h1 h2 (kk H locs ls hP hD hS hl)
theorem g_max (O : Ok X D A cc nL own Ts ret rm) {index : Nat} {a b : Int} (hd : decode cc pc = .ok (.invokestatic index, 3)) (n : Nat) (hn : pc + 3 = n) (h1 : Cond.methodLink own index Lib.Math.max.name ∈ Ts) (h2 : Cond.static Lib.Math.max.name ∈ Ts) (h3 : Cond.initialized "java/lang/Math" ∈ Ts) (h4 : Cond.code Lib.Math.max.name Lib.Math.max.code 2 (some .int) ∈ Ts) (hfr : 1 ≤ rm.frames) (hlo : (st.map fun v => v.category).sum + 13 ≤ rm.locals) (hcs : cs ≤ rm.cells) (hss : ss ≤ rm.slots) (hb : -2147483648 ≤ a ∧ a < 2147483648 ∧ -2147483648 ≤ b ∧ b < 2147483648) (kk : G X D A nL Q cs ss n L (vi (if a < b then b else a) :: st) ws) : G X D A nL Q cs ss pc L (vi b :: vi a :: st) ws := by
  subst hn; intro H locs ls hP hD hS hl
  have hR : X.2.2.2.1 = rm := O.2.2.2.2.2
  exact va_mmax O.1.1 O.1.2.1 (O.1.2.2.1.trans hl.1.symm) O.1.2.2.2.1 (O.1.2.2.2.2 _ h1) (O.1.2.2.2.2 _ h2) (O.1.2.2.2.2 _ h3) (O.1.2.2.2.2 _ h4) (by rw [hR]; exact hfr) (by rw [hR]; exact hlo) (by rw [hR]; exact hcs) (by rw [hR]; exact hss) hd (by rw [iI_max hb]; exact kk H locs ls hP hD hS hl)
theorem g_min (O : Ok X D A cc nL own Ts ret rm) {index : Nat} {a b : Int} (hd : decode cc pc = .ok (.invokestatic index, 3)) (n : Nat) (hn : pc + 3 = n) (h1 : Cond.methodLink own index Lib.Math.min.name ∈ Ts) (h2 : Cond.static Lib.Math.min.name ∈ Ts) (h3 : Cond.initialized "java/lang/Math" ∈ Ts) (h4 : Cond.code Lib.Math.min.name Lib.Math.min.code 2 (some .int) ∈ Ts) (hfr : 1 ≤ rm.frames) (hlo : (st.map fun v => v.category).sum + 13 ≤ rm.locals) (hcs : cs ≤ rm.cells) (hss : ss ≤ rm.slots) (hb : -2147483648 ≤ a ∧ a < 2147483648 ∧ -2147483648 ≤ b ∧ b < 2147483648) (kk : G X D A nL Q cs ss n L (vi (if b < a then b else a) :: st) ws) : G X D A nL Q cs ss pc L (vi b :: vi a :: st) ws := by
  subst hn; intro H locs ls hP hD hS hl
  have hR : X.2.2.2.1 = rm := O.2.2.2.2.2
  exact va_mmin O.1.1 O.1.2.1 (O.1.2.2.1.trans hl.1.symm) O.1.2.2.2.1 (O.1.2.2.2.2 _ h1) (O.1.2.2.2.2 _ h2) (O.1.2.2.2.2 _ h3) (O.1.2.2.2.2 _ h4) (by rw [hR]; exact hfr) (by rw [hR]; exact hlo) (by rw [hR]; exact hcs) (by rw [hR]; exact hss) hd (by rw [iI_min hb]; exact kk H locs ls hP hD hS hl)
theorem g_obj (O : Ok X D A cc nL own Ts ret rm) {index a : Nat} (hd : decode cc pc = .ok (.invokespecial index, 3)) (n : Nat) (hn : pc + 3 = n) (h1 : Cond.methodLink own index objectInit ∈ Ts) (h2 : Cond.instanceMethod objectInit ∈ Ts) (h3 : Cond.code objectInit ⟨#[0xb1]⟩ 1 none ∈ Ts) (hfr : 1 ≤ rm.frames) (hlo : (st.map fun v => v.category).sum + 12 ≤ rm.locals) (kk : G X D A nL Q cs ss n L st ws) : G X D A nL Q cs ss pc L (.ref a :: st) ws := by
  subst hn; intro H locs ls hP hD hS hl
  have hR : X.2.2.2.1 = rm := O.2.2.2.2.2
  refine W.objInit O.1.1 O.1.2.1 O.1.2.2.2.1 (O.1.2.2.2.2 _ h1) (O.1.2.2.2.2 _ h2) (O.1.2.2.2.2 _ h3) rfl (by rw [O.1.2.2.1]; exact hl.1) rfl hd (by rw [hR]; exact hfr) (by rw [hR]; show 2 * 0 + _ + 12 ≤ _; omega) ?_
  exact kk H locs ls hP hD hS hl
end GMem
-- ===== contracts =====
def PB (D : DD) (w0 : va_W) (sz : Nat) (U : State) : Prop := U.heap.size = sz ∧ va_P D.1 vwCl w0 U.heap ∧ KX D (va_A w0 sz) U ∧ va_D (fun _ => True) w0
def QX {S : Type} (D : DD) (A : Nat → Prop) (rv : S → Option Value) (phi : S → Prop) (w1 : S → va_W) : Array Value → State → Outcome → State → Prop :=
  fun _ st oc t => (∃ u : S, oc = .returned (rv u) ∧ phi u ∧ va_P D.1 vwCl (w1 u) t.heap ∧ va_D A (w1 u)) ∧ va_F A st t
def Con {S : Type} (D : DD) (y : MethodName) (wsc : List Cond) (rm : Room) (mc ms : Nat) (av : List Value) (w0 : va_W) (rv : S → Option Value) (phi : S → Prop) (w1 : S → va_W) : Prop :=
  ∀ (l : Launch) (sz : Nat), Met l y wsc rm (va_Pc av (PB D w0 sz)) (QX D (va_A w0 sz) rv phi w1) mc ms (va_A w0 sz)
def RQ {S : Type} (X : CX) (D : DD) (A : Nat → Prop) (rv : S → Option Value) (phi : S → Prop) (w1 : S → va_W) (mc ms : Nat) : State → Prop :=
  MQ X.2.2.2.2.2.2.2.1 (QX D A rv phi w1) X.2.2.2.2.2.2.1 X.2.2.2.2.1 mc ms A
theorem Con.of {S : Type} {D : DD} {y : MethodName} {wsc ws' : List Cond} {rm : Room} {mc ms : Nat} {av : List Value} {w0 : va_W} {rv : S → Option Value} {phi : S → Prop} {w1 : S → va_W} {cc : ByteArray} {nL : Nat} {ret : Option FieldType}
    (hw : wsc = Cond.code y cc nL ret :: ws') (hpl : plainName y.cls = true) (hn : (lg_sl av).length ≤ nL)
    (body : ∀ (X : CX) (A : Nat → Prop) (Q : State → Prop), Ok X D A cc nL y.cls wsc ret rm → Q = RQ X D A rv phi w1 mc ms → X.2.2.2.2.2.2.2.2.1.name = y.name → G X D A nL Q 0 0 0 (lv_args 0 av) [] w0) : Con D y wsc rm mc ms av w0 rv phi w1 := by
  intro l sz
  refine Met.ofW (cc := cc) (maxL := nL) (ret := ret) hpl hw ?_
  intro p e s m args below meth c s₁ B hml hv
  obtain ⟨rfl, hsz, hP, hK, hD0⟩ := hv
  subst hsz
  have hl := lv_entry av hn
  rw [lg_entry_eq]
  have hts := atoms_spec (ws := wsc) B.pre
  refine body (p, l, e, (headSpec wsc rm).room, s, m, av.toArray, below, meth, c) (va_A w0 s.heap.size) _ ⟨⟨B.exec, B.bytes, hml, findClass_of_methodNamed B.named, hts⟩, hK, fun q h => Or.inr h, B.notSynchronized, B.returns, rfl⟩ rfl (name_of_methodNamed B.named B.method).1 s.heap [] _ hP hD0.self va_S.rf hl
section GRet
variable {X : CX} {D : DD} {A : Nat → Prop} {cc : ByteArray} {nL : Nat} {own : String} {Ts : List Cond} {rm : Room} {Q : State → Prop} {cs ss pc : Nat} {L : List (Nat × Value)} {ws : va_W} {S : Type} {rv : S → Option Value} {phi : S → Prop} {w1 : S → va_W} {mc ms : Nat}
theorem g_iret (O : Ok X D A cc nL own Ts (some .int) rm) (hQ : Q = RQ X D A rv phi w1 mc ms) {x : Int} (hd : decode cc pc = .ok (.ireturn, 1)) (u : S) (hv : rv u = some (vi x)) (hw : w1 u = ws) (hp : phi u) (hm : cs ≤ mc ∧ ss ≤ ms) : G X D A nL Q cs ss pc L [vi x] ws := by
  subst hQ; subst hw; intro H locs ls hP hD hS hl
  refine W.widen hm.1 hm.2 ?_
  exact W.iret (v := iI x) O.1.1 O.1.2.1 O.2.2.2.2.1 (fun t ht hW => ⟨⟨u, by rw [hv], hp, by rw [ht]; exact hP, hD⟩, hS.F ht⟩) hS.2.2 hd O.2.2.2.1
theorem g_zret (O : Ok X D A cc nL own Ts (some .boolean) rm) (hQ : Q = RQ X D A rv phi w1 mc ms) {x : Int} (hd : decode cc pc = .ok (.ireturn, 1)) (hx : narrow .boolean (vi x) = vi x) (u : S) (hv : rv u = some (vi x)) (hw : w1 u = ws) (hp : phi u) (hm : cs ≤ mc ∧ ss ≤ ms) : G X D A nL Q cs ss pc L [vi x] ws := by
  subst hQ; subst hw; intro H locs ls hP hD hS hl
  refine W.widen hm.1 hm.2 ?_
  exact W.zret (v := iI x) (ty := .boolean) O.1.1 O.1.2.1 O.2.2.2.2.1 hx (fun t ht hW => ⟨⟨u, by rw [hv], hp, by rw [ht]; exact hP, hD⟩, hS.F ht⟩) hS.2.2 hd O.2.2.2.1
theorem g_vret (O : Ok X D A cc nL own Ts none rm) (hQ : Q = RQ X D A rv phi w1 mc ms) (hd : decode cc pc = .ok (.return_, 1)) (u : S) (hv : rv u = none) (hw : w1 u = ws) (hp : phi u) (hm : cs ≤ mc ∧ ss ≤ ms) : G X D A nL Q cs ss pc L [] ws := by
  subst hQ; subst hw; intro H locs ls hP hD hS hl
  refine W.widen hm.1 hm.2 ?_
  exact W.vret O.1.1 O.1.2.1 O.2.2.2.2.1 (fun t ht hW => ⟨⟨u, by rw [hv], hp, by rw [ht]; exact hP, hD⟩, hS.F ht⟩) hS.2.2 hd O.2.2.2.1
end GRet
-- ===== a callee's world put back into the caller's =====
def wpk : List Nat → va_W → Nat → (Nat × va_E) → (Nat × va_E)
  | [], _, _, q => q
  | _ :: _, [], _, q => q
  | j :: is, x :: w, i, q => cond (Nat.beq j i) x (wpk is w i q)
def wpa (is : List Nat) (w : va_W) : Nat → va_W → va_W
  | _, [] => w.drop is.length
  | i, q :: ws => wpk is w i q :: wpa is w (i + 1) ws
def wput (ws : va_W) (is : List Nat) (w : va_W) : va_W := wpa is w 0 ws
theorem wpk_or : ∀ {is : List Nat} {w : va_W} {i : Nat} {q : Nat × va_E}, is.length ≤ w.length → wpk is w i q ∈ w ∨ (wpk is w i q = q ∧ i ∉ is)
  | [], w, i, q, _ => Or.inr ⟨by cases w <;> rfl, List.not_mem_nil⟩
  | j :: is, [], i, q, h => by simp at h
  | j :: is, x :: w, i, q, h => by
    by_cases e : j = i
    · subst e
      left
      show cond (Nat.beq j j) x _ ∈ _
      rw [Nat.beq_refl]
      exact List.mem_cons_self
    · have hb : Nat.beq j i = false := by
        cases hc : Nat.beq j i with
        | false => rfl
        | true => exact absurd (Nat.eq_of_beq_eq_true hc) e
      have hw : wpk (j :: is) (x :: w) i q = wpk is w i q := by
        show cond (Nat.beq j i) x _ = _
        rw [hb]
        rfl
      rw [hw]
      rcases wpk_or (is := is) (w := w) (i := i) (q := q) (by simpa using h) with h1 | ⟨h1, h2⟩
      · exact Or.inl (List.mem_cons_of_mem _ h1)
      · refine Or.inr ⟨h1, fun z => ?_⟩
        rcases List.mem_cons.mp z with z | z
        · exact e z.symm
        · exact h2 z
theorem wpk_fst : ∀ {is : List Nat} {w : va_W} {i : Nat} {q : Nat × va_E}, (∀ (j : Nat) (x : Nat × va_E), is[j]? = some i → w[j]? = some x → x.1 = q.1) → (wpk is w i q).1 = q.1
  | [], w, i, q, _ => by cases w <;> rfl
  | j :: is, [], i, q, h => rfl
  | j :: is, x :: w, i, q, h => by
    by_cases e : j = i
    · subst e
      show (cond (Nat.beq j j) x _).1 = _
      rw [Nat.beq_refl]
      exact h 0 x rfl rfl
    · have hb : Nat.beq j i = false := by
        cases hc : Nat.beq j i with
        | false => rfl
        | true => exact absurd (Nat.eq_of_beq_eq_true hc) e
      show (cond (Nat.beq j i) x _).1 = _
      rw [hb]
      exact wpk_fst (fun j' x' h1 h2 => h (j' + 1) x' h1 h2)
theorem wpa_mem {is : List Nat} {w : va_W} (hl : is.length ≤ w.length) : ∀ {ws : va_W} {i : Nat} {x : Nat × va_E}, x ∈ wpa is w i ws → x ∈ w ∨ ∃ k, i + k ∉ is ∧ ws[k]? = some x
  | [], i, x, h => Or.inl (List.mem_of_mem_drop h)
  | q :: ws, i, x, h => by
    rcases List.mem_cons.mp (show x ∈ wpk is w i q :: wpa is w (i + 1) ws from h) with h | h
    · rcases wpk_or (is := is) (w := w) (i := i) (q := q) hl with h1 | ⟨h1, h2⟩
      · exact Or.inl (h ▸ h1)
      · exact Or.inr ⟨0, h2, by rw [h, h1]; rfl⟩
    · rcases wpa_mem hl h with h1 | ⟨k, h1, h2⟩
      · exact Or.inl h1
      · exact Or.inr ⟨k + 1, by rwa [show i + (k + 1) = i + 1 + k by omega], h2⟩
theorem wpa_fst {is : List Nat} {w : va_W} : ∀ {ws : va_W} {i : Nat}, (∀ (k : Nat) (q : Nat × va_E), ws[k]? = some q → ∀ (j : Nat) (x : Nat × va_E), is[j]? = some (i + k) → w[j]? = some x → x.1 = q.1) → (wpa is w i ws).map (·.1) = ws.map (·.1) ++ (w.drop is.length).map (·.1)
  | [], i, _ => rfl
  | q :: ws, i, h => by
    show (wpk is w i q).1 :: (wpa is w (i + 1) ws).map (·.1) = q.1 :: (ws.map (·.1) ++ (w.drop is.length).map (·.1))
    rw [show (wpk is w i q).1 = q.1 from wpk_fst (h 0 q rfl), wpa_fst (fun k q' h1 j x h2 h3 => h (k + 1) q' h1 j x (by rw [h2]; congr 1; omega) h3)]
theorem wput_mem {is : List Nat} {ws w : va_W} {q : Nat × va_E} (hl : is.length ≤ w.length) (h : q ∈ wput ws is w) : q ∈ w ∨ ∃ k, k ∉ is ∧ ws[k]? = some q := by
  rcases wpa_mem hl h with h | ⟨k, h1, h2⟩
  · exact Or.inl h
  · exact Or.inr ⟨k, by simpa using h1, h2⟩
theorem wput_fst {is : List Nat} {ws w : va_W} (h : ∀ (j i : Nat) (x q : Nat × va_E), is[j]? = some i → w[j]? = some x → ws[i]? = some q → x.1 = q.1) : (wput ws is w).map (·.1) = ws.map (·.1) ++ (w.drop is.length).map (·.1) :=
  wpa_fst (fun k q h1 j x h2 h3 => h j k x q (by rw [h2]; congr 1; omega) h3 h1)
def aD (A : Nat → Prop) (l : List Nat) : Prop := (∀ i j a : Nat, l[i]? = some a → l[j]? = some a → i = j) ∧ ∀ a ∈ l, A a
theorem va_D_aD {A : Nat → Prop} {ws : va_W} : va_D A ws ↔ aD A (ws.map (·.1)) := by
  constructor
  · intro h
    refine ⟨fun i j a hi hj => ?_, fun a ha => ?_⟩
    · rw [List.getElem?_map] at hi hj
      cases h1 : ws[i]? with
      | none => rw [h1] at hi; cases hi
      | some x =>
        cases h2 : ws[j]? with
        | none => rw [h2] at hj; cases hj
        | some y =>
          rw [h1] at hi; rw [h2] at hj
          exact h.1 i j x y h1 h2 ((Option.some.inj hi).trans (Option.some.inj hj).symm)
    · obtain ⟨x, hx, rfl⟩ := List.mem_map.mp ha
      obtain ⟨k, hk⟩ := List.getElem?_of_mem hx
      exact h.2 k x hk
  · intro h
    refine ⟨fun i j x y hi hj hxy => h.1 i j x.1 (by rw [List.getElem?_map, hi]; rfl) (by rw [List.getElem?_map, hj, hxy]; rfl), fun k x hk => h.2 x.1 (List.mem_map.mpr ⟨x, List.mem_of_getElem? hk, rfl⟩)⟩
theorem map_some_at {is : List Nat} {ws wc : va_W} (h : is.map (fun i => ws[i]?) = wc.map some) {j : Nat} {q : Nat × va_E} (hq : wc[j]? = some q) : ∃ i, is[j]? = some i ∧ ws[i]? = some q := by
  have h1 : (is.map (fun i => ws[i]?))[j]? = some (some q) := by rw [h, List.getElem?_map, hq]; rfl
  rw [List.getElem?_map] at h1
  cases hi : is[j]? with
  | none => rw [hi] at h1; cases h1
  | some i => rw [hi] at h1; exact ⟨i, rfl, Option.some.inj h1⟩
theorem map_some_at' {is : List Nat} {ws wc : va_W} (h : is.map (fun i => ws[i]?) = wc.map some) {j i : Nat} (hi : is[j]? = some i) : ∃ q, wc[j]? = some q ∧ ws[i]? = some q := by
  have h1 : (wc.map some)[j]? = some (ws[i]?) := by rw [← h, List.getElem?_map, hi]; rfl
  rw [List.getElem?_map] at h1
  cases hq : wc[j]? with
  | none => rw [hq] at h1; cases h1
  | some q => rw [hq] at h1; exact ⟨q, rfl, (Option.some.inj h1).symm⟩
/-- behind a call: the callee's cells are put back in their places, its new cells behind all -/
theorem w_join {A : Nat → Prop} {D : DD} {ws wc w1 : va_W} {H H1 : Heap} (hP : va_P D.1 vwCl ws H) (hD : va_D A ws) (is : List Nat) (hC : is.map (fun i => ws[i]?) = wc.map some) (hs : (w1.map (·.1)).take wc.length = wc.map (·.1))
    (hk : ∀ q : Nat, q < H.size → ¬ va_A wc H.size q → H1[q]? = H[q]?) (hF : ∀ q, va_A wc H.size q → A q) (hP1 : va_P D.1 vwCl w1 H1) (hD1 : va_D (va_A wc H.size) w1) : va_P D.1 vwCl (wput ws is w1) H1 ∧ va_D A (wput ws is w1) := by
  have hlen : is.length = wc.length := by simpa using congrArg List.length hC
  have hlen1 : wc.length ≤ w1.length := by
    have h := congrArg List.length hs
    simp at h
    omega
  have hfst : ∀ (j : Nat) (q x : Nat × va_E), wc[j]? = some q → w1[j]? = some x → x.1 = q.1 := by
    intro j q x hq hx
    have hj : j < wc.length := (List.getElem?_eq_some_iff.mp hq).1
    have h1 : ((w1.map (·.1)).take wc.length)[j]? = some x.1 := by
      rw [List.getElem?_take, if_pos hj, List.getElem?_map, hx]; rfl
    rw [hs, List.getElem?_map, hq] at h1
    exact (Option.some.inj h1).symm
  constructor
  · intro k q hq
    rcases wput_mem (by omega) (List.mem_of_getElem? hq) with h | ⟨k', hnot, h⟩
    · obtain ⟨j, hj⟩ := List.getElem?_of_mem h
      exact hP1 j q hj
    · have hl := (hP k' q h).lt
      refine (hP k' q h).kept (hk q.1 hl (fun z => ?_))
      rcases z with ⟨j, e, hj⟩ | z
      · obtain ⟨i, hi, hwi⟩ := map_some_at hC hj
        have := hD.1 k' i q (q.1, e) h hwi rfl
        exact hnot (this ▸ List.mem_of_getElem? hi)
      · omega
  · rw [va_D_aD, wput_fst (fun j i x q' hj hx hq' => by
      obtain ⟨q, hq, hwq⟩ := map_some_at' hC hj
      rw [hwq] at hq'
      rw [← Option.some.inj hq']
      exact hfst j q x hq hx)]
    have hDa := va_D_aD.mp hD
    have hD1a := va_D_aD.mp hD1
    have hnew : ∀ j a : Nat, ((w1.drop is.length).map (·.1))[j]? = some a → (w1.map (·.1))[is.length + j]? = some a := by
      intro j a h
      rw [List.getElem?_map, List.getElem?_drop] at h
      rw [List.getElem?_map]
      exact h
    have hnew2 : ∀ j a : Nat, ((w1.drop is.length).map (·.1))[j]? = some a → H.size ≤ a := by
      intro j a h
      have h2 := hnew j a h
      rcases hD1a.2 a (List.mem_of_getElem? h2) with ⟨k, e, hk'⟩ | z
      · have hkl : k < wc.length := (List.getElem?_eq_some_iff.mp hk').1
        have h3 : ((w1.map (·.1)).take wc.length)[k]? = some a := by rw [hs, List.getElem?_map, hk']; rfl
        rw [List.getElem?_take, if_pos hkl] at h3
        have := hD1a.1 _ _ a h2 h3
        omega
      · exact z
    have hold : ∀ j a : Nat, (ws.map (·.1))[j]? = some a → a < H.size := by
      intro j a h
      rw [List.getElem?_map] at h
      cases hq : ws[j]? with
      | none => rw [hq] at h; cases h
      | some q =>
        rw [hq] at h
        have := (hP j q hq).lt
        cases h
        exact this
    refine ⟨fun i j a hi hj => ?_, fun a ha => ?_⟩
    · rcases Nat.lt_or_ge i (ws.map (·.1)).length with li | li <;> rcases Nat.lt_or_ge j (ws.map (·.1)).length with lj | lj
      · rw [List.getElem?_append_left li] at hi
        rw [List.getElem?_append_left lj] at hj
        exact hDa.1 i j a hi hj
      · rw [List.getElem?_append_left li] at hi
        rw [List.getElem?_append_right lj] at hj
        have := hold _ _ hi
        have := hnew2 _ _ hj
        omega
      · rw [List.getElem?_append_right li] at hi
        rw [List.getElem?_append_left lj] at hj
        have := hold _ _ hj
        have := hnew2 _ _ hi
        omega
      · rw [List.getElem?_append_right li] at hi
        rw [List.getElem?_append_right lj] at hj
        have := hD1a.1 _ _ a (hnew _ _ hi) (hnew _ _ hj)
        omega
    · rcases List.mem_append.mp ha with h | h
      · exact hDa.2 a h
      · obtain ⟨j, hj⟩ := List.getElem?_of_mem h
        exact hF a (Or.inr (hnew2 j a hj))
section GCall
variable {X : CX} {D : DD} {A : Nat → Prop} {cc : ByteArray} {nL : Nat} {own : String} {Ts : List Cond} {ret : Option FieldType} {rm : Room} {Q : State → Prop} {cs ss pc : Nat} {L : List (Nat × Value)} {ws : va_W} {S : Type} {rv : S → Option Value} {phi : S → Prop} {w1 : S → va_W} {mc ms : Nat}
variable {y : MethodName} {wsc wsc' : List Cond} {rmc : Room} {bytes : ByteArray} {maxL na index : Nat} {retc : Option FieldType} {wc : va_W} {As rest st0 : List Value}
theorem g_run {av : List Value} (O : Ok X D A cc nL own Ts ret rm) (is : List Nat) (hnd : va_nd is = true) (hC : is.map (fun i => ws[i]?) = wc.map some) (hs : ∀ u, ((w1 u).map (·.1)).take wc.length = wc.map (·.1))
    (ws1 : S → va_W) (hws : ∀ u, wput ws is (w1 u) = ws1 u) (n : Nat) (hn : pc + 3 = n)
    (run : ∀ (H : Heap) (locs : List Loc) (ls : Array Slot), lv_has ls nL L → va_P D.1 vwCl ws H → FrameBlind (va_Pc av (PB D wc H.size)) → (∀ U : State, U.heap = H → X.2.2.2.2.1.WarmedH U.vm → va_Pc av (PB D wc H.size) av.toArray U) → va_Run X.1 X.2.1 X.2.2.1 X.2.2.2.1 X.2.2.2.2.1 X.2.2.2.2.2.1 X.2.2.2.2.2.2.1 X.2.2.2.2.2.2.2.1 X.2.2.2.2.2.2.2.2.1 X.2.2.2.2.2.2.2.2.2 H locs cs ss mc ms (F0 X.2.2.2.2.2.1 pc ls st0) rest (QX D (va_A wc H.size) rv phi w1 av.toArray) (va_A wc H.size))
    (kk : ∀ u, phi u → G X D A nL Q (cs + mc) (ss + ms) n L ((rv u).toList ++ rest) (ws1 u)) : G X D A nL Q cs ss pc L st0 ws := by
  subst hn
  intro H locs ls hP hD hS hl
  have hF : ∀ q, va_A wc H.size q → A q := va_free hD hS O.2.2.1 is hC
  have hPc : va_P D.1 vwCl wc H := by
    intro k q hk
    obtain ⟨i, -, hi⟩ := map_some_at hC hk
    exact hP i q hi
  have hDc : va_D (fun _ => True) wc := (hD.sub is hnd hC).weaken (fun _ _ _ _ => trivial)
  intro T hT XX
  obtain ⟨v, st₀, t, T', L', h0, X', hL, e1, e2, ⟨⟨u, hv, hp, hP1, hD1⟩, hz, hk⟩, st⟩ := run H locs ls hl hP (fun a U g mk q => by
      obtain ⟨q0, q1, qP, qK, qD⟩ := q
      exact ⟨q0, q1, qP, qK.call, qD⟩) (fun U hU hW => ⟨rfl, by rw [hU], by rw [hU]; exact hPc, O.2.1.pass hS hU hW hF, hDc⟩) T hT XX
  cases hv
  rw [h0] at hz hk
  obtain ⟨hP2, hD2⟩ := w_join hP hD is hC (hs u) hk hF hP1 hD1
  rw [hws u] at hP2 hD2
  obtain ⟨t2, a1, b1⟩ := kk u hp T'.heap (locs ++ L') ls (by rw [e1]; exact hP2) hD2
    ⟨Nat.le_trans hS.1 (by rw [e1]; exact hz), fun q h1 h2 => by rw [e1, hk q (Nat.lt_of_lt_of_le h1 hS.1) (fun z => h2 (hF q z))]; exact hS.2.1 q h1 h2, fun q hq => by
      rcases List.mem_append.mp hq with h | h
      · exact hS.2.2 q h
      · exact hF _ (hL q h)⟩ hl T' rfl X'
  exact ⟨t2, st t2 a1, b1⟩
theorem g_callV {b q0 ci N : Nat} {fs : List Value} {C : String} {T : u_T} (O : Ok X D A cc nL own Ts ret rm) (hM : Con D y wsc rmc mc ms (.ref b :: As) wc rv phi w1) (hd : decode cc pc = .ok (.invokevirtual index, 3)) (hG : GoodIn Ts (wsV own index C y wsc)) (hw : wsc = Cond.code y bytes maxL retc :: wsc') (hrc : rmc.cells = mc ∧ rmc.slots = ms)
    (hdd : y.cls = C ∧ y.cls ≠ "java/lang/invoke/MethodHandle" ∧ y.cls ≠ "java/lang/invoke/VarHandle" ∧ (parseMethodDescriptor y.desc).map (fun d => d.parameters.length) = some na) (hna : As.length = na) (hR : rmc.frames + 1 ≤ rm.frames ∧ 8 + (maxL + 11) + rmc.locals ≤ rm.locals) (hf : cs + mc ≤ rm.cells ∧ ss + ms ≤ rm.slots)
    (hst : st0 = As.reverse ++ .ref b :: rest) (hrest : (rest.map fun v => v.category).sum ≤ 8) (hq : ws[q0]? = some (b, co ci fs)) (hc : vwCl[ci]? = some (C, T, N)) (is : List Nat) (hnd : va_nd is = true) (hC : is.map (fun i => ws[i]?) = wc.map some) (hs : ∀ u, ((w1 u).map (·.1)).take wc.length = wc.map (·.1))
    (ws1 : S → va_W) (hws : ∀ u, wput ws is (w1 u) = ws1 u) (n : Nat) (hn : pc + 3 = n)
    (kk : ∀ u, phi u → G X D A nL Q (cs + mc) (ss + ms) n L ((rv u).toList ++ rest) (ws1 u)) : G X D A nL Q cs ss pc L st0 ws := by
  have hRR : X.2.2.2.1 = rm := O.2.2.2.2.2
  refine g_run (av := .ref b :: As) O is hnd hC hs ws1 hws n hn (fun H locs ls hl hP hB hU => ?_) kk
  exact va_runV (As := As) (rest := rest) O.1 (hM X.2.1 H.size) (cwV na O.1.2.2.2.2 hG hw hrc.1 hrc.2 hdd (by rw [hRR]; exact hR)) ⟨hB, va_recv O.2.1.1 hP hc hq, hU⟩ rfl hna hl.1 hst (lv_room hrest) hd (by rw [hRR]; exact hf)
theorem g_callS (O : Ok X D A cc nL own Ts ret rm) (hM : Con D y wsc rmc mc ms As wc rv phi w1) (hd : decode cc pc = .ok (.invokestatic index, 3)) (hG : GoodIn Ts (va_wsS own index y wsc)) (hw : wsc = Cond.code y bytes maxL retc :: wsc') (hrc : rmc.cells = mc ∧ rmc.slots = ms)
    (hdd : y.cls ≠ "java/lang/invoke/MethodHandle" ∧ y.cls ≠ "java/lang/invoke/VarHandle" ∧ (parseMethodDescriptor y.desc).map (fun d => d.parameters.length) = some na) (hna : As.length = na) (hR : rmc.frames + 1 ≤ rm.frames ∧ 8 + (maxL + 11) + rmc.locals ≤ rm.locals) (hf : cs + mc ≤ rm.cells ∧ ss + ms ≤ rm.slots)
    (hst : st0 = As.reverse ++ rest) (hrest : (rest.map fun v => v.category).sum ≤ 8) (is : List Nat) (hnd : va_nd is = true) (hC : is.map (fun i => ws[i]?) = wc.map some) (hs : ∀ u, ((w1 u).map (·.1)).take wc.length = wc.map (·.1))
    (ws1 : S → va_W) (hws : ∀ u, wput ws is (w1 u) = ws1 u) (n : Nat) (hn : pc + 3 = n)
    (kk : ∀ u, phi u → G X D A nL Q (cs + mc) (ss + ms) n L ((rv u).toList ++ rest) (ws1 u)) : G X D A nL Q cs ss pc L st0 ws := by
  have hRR : X.2.2.2.1 = rm := O.2.2.2.2.2
  refine g_run (av := As) O is hnd hC hs ws1 hws n hn (fun H locs ls hl hP hB hU => ?_) kk
  exact va_runS (As := As) (rest := rest) O.1 (hM X.2.1 H.size) (va_cwS na O.1.2.2.2.2 hG hw hrc.1 hrc.2 hdd (by rw [hRR]; exact hR)) ⟨hB, hU⟩ rfl hna hl.1 hst (lv_room hrest) hd (by rw [hRR]; exact hf)
theorem g_callI {b : Nat} (O : Ok X D A cc nL own Ts ret rm) (hM : Con D y wsc rmc mc ms (.ref b :: As) wc rv phi w1) (hd : decode cc pc = .ok (.invokespecial index, 3)) (hG : GoodIn Ts wsc) (hw : wsc = Cond.code y bytes maxL none :: wsc') (hrc : rmc.cells = mc ∧ rmc.slots = ms) (hi1 : Cond.initialized y.cls ∈ Ts) (hi2 : Cond.methodLink own index y ∈ Ts) (hi3 : Cond.instanceMethod y ∈ Ts) (hy : y.name = "<init>")
    (hdd : y.cls ≠ "java/lang/invoke/MethodHandle" ∧ y.cls ≠ "java/lang/invoke/VarHandle" ∧ (parseMethodDescriptor y.desc).map (fun d => d.parameters.length) = some na) (hna : As.length = na) (hR : rmc.frames + 1 ≤ rm.frames ∧ 8 + (maxL + 11) + rmc.locals ≤ rm.locals) (hf : cs + mc ≤ rm.cells ∧ ss + ms ≤ rm.slots)
    (hst : st0 = As.reverse ++ .ref b :: rest) (hrest : (rest.map fun v => v.category).sum ≤ 8) (is : List Nat) (hnd : va_nd is = true) (hC : is.map (fun i => ws[i]?) = wc.map some) (hs : ∀ u, ((w1 u).map (·.1)).take wc.length = wc.map (·.1))
    (ws1 : S → va_W) (hws : ∀ u, wput ws is (w1 u) = ws1 u) (n : Nat) (hn : pc + 3 = n)
    (kk : ∀ u, phi u → G X D A nL Q (cs + mc) (ss + ms) n L ((rv u).toList ++ rest) (ws1 u)) : G X D A nL Q cs ss pc L st0 ws := by
  have hRR : X.2.2.2.1 = rm := O.2.2.2.2.2
  refine g_run (av := .ref b :: As) O is hnd hC hs ws1 hws n hn (fun H locs ls hl hP hB hU => ?_) kk
  exact va_runI (As := As) (rest := rest) O.1 (hM X.2.1 H.size) (cwI na O.1.2.2.2.2 hG hw hrc.1 hrc.2 (O.1.2.2.2.2 _ hi1) (O.1.2.2.2.2 _ hi2) (O.1.2.2.2.2 _ hi3) hy hdd (by rw [hRR]; exact hR)) ⟨hB, hU⟩ rfl hna hl.1 hst (lv_room hrest) hd (by rw [hRR]; exact hf)
/-- the nest mate's private constructor -/
theorem g_callN {b : Nat} {own' : String} (ho : own = own') (O : Ok X D A cc nL own Ts ret rm) (hM : Con D y wsc rmc mc ms (.ref b :: As) wc rv phi w1) (hd : decode cc pc = .ok (.invokespecial index, 3)) (hl0 : va_Nw (.methodLinkNest own' index y "PopularMatchings") X.2.2.2.2.1) (hG : GoodIn Ts wsc) (hw : wsc = Cond.code y bytes maxL none :: wsc') (hrc : rmc.cells = mc ∧ rmc.slots = ms) (hi1 : Cond.initialized y.cls ∈ Ts) (hi3 : Cond.instanceMethod y ∈ Ts) (hy : y.name = "<init>")
    (hdd : y.cls ≠ "java/lang/invoke/MethodHandle" ∧ y.cls ≠ "java/lang/invoke/VarHandle" ∧ (parseMethodDescriptor y.desc).map (fun d => d.parameters.length) = some na) (hna : As.length = na) (hR : rmc.frames + 1 ≤ rm.frames ∧ 8 + (maxL + 11) + rmc.locals ≤ rm.locals) (hf : cs + mc ≤ rm.cells ∧ ss + ms ≤ rm.slots)
    (hst : st0 = As.reverse ++ .ref b :: rest) (hrest : (rest.map fun v => v.category).sum ≤ 8) (is : List Nat) (hnd : va_nd is = true) (hC : is.map (fun i => ws[i]?) = wc.map some) (hs : ∀ u, ((w1 u).map (·.1)).take wc.length = wc.map (·.1))
    (ws1 : S → va_W) (hws : ∀ u, wput ws is (w1 u) = ws1 u) (n : Nat) (hn : pc + 3 = n)
    (kk : ∀ u, phi u → G X D A nL Q (cs + mc) (ss + ms) n L ((rv u).toList ++ rest) (ws1 u)) : G X D A nL Q cs ss pc L st0 ws := by
  subst ho
  have hRR : X.2.2.2.1 = rm := O.2.2.2.2.2
  refine g_run (av := .ref b :: As) O is hnd hC hs ws1 hws n hn (fun H locs ls hl hP hB hU => ?_) kk
  exact va_runIN (As := As) (rest := rest) O.1 (hM X.2.1 H.size) ⟨va_cnB na O.1.2.2.2.2 hG hw hrc.1 hrc.2 hl0 (O.1.2.2.2.2 _ hi1) hdd (by rw [hRR]; exact hR), hy, O.1.2.2.2.2 _ hi3⟩ ⟨hB, hU⟩ rfl hna hl.1 hst (lv_room hrest) hd (by rw [hRR]; exact hf)
/-- a new object; its cell stands behind all -/
theorem g_new (O : Ok X D A cc nL own Ts ret rm) {C : String} {T : u_T} {N ci : Nat} (ty : Nat → FieldType) (hd : decode cc pc = .ok (.new index, 3)) (hin : ∀ w ∈ u_ws C T N, w ∈ Ts) (hty : ∀ k, k < N → parseFieldDescriptor (T k).2.2.1 = some (ty k)) (h1 : Cond.classLink own index C ∈ Ts) (h2 : Cond.instantiable C N ∈ Ts) (h3 : Cond.initialized C ∈ Ts) (hc : vwCl[ci]? = some (C, T, N)) (fs : List Value) (hfs : ∀ j, j < N → defaultValue (ty j) = vp_V fs j) (hcs : cs + 1 ≤ rm.cells) (hss : ss + N ≤ rm.slots) (n : Nat) (hn : pc + 3 = n)
    (kk : ∀ q : Nat, G X D A nL Q (cs + 1) (ss + N) n L (.ref q :: rest) (ws ++ [(q, co ci fs)])) : G X D A nL Q cs ss pc L rest ws := by
  have hRR : X.2.2.2.1 = rm := O.2.2.2.2.2
  subst hn; intro H locs ls hP hD hS hl
  exact va_new (ci := ci) (fs := fs) (C := C) (T := T) (N := N) O.1.1 O.1.2.1 O.1.2.2.2.2 hin ty hty O.1.2.2.2.1 (O.1.2.2.2.2 _ h1) (O.1.2.2.2.2 _ h2) (O.1.2.2.2.2 _ h3) O.2.1.1 hP hD hS O.2.2.1 hc hfs (by rw [hRR]; exact hcs) (by rw [hRR]; exact hss) hd (fun q H1 hP1 hD1 hS1 => kk q H1 locs ls hP1 hD1 hS1 hl)
/-- a new int[] -/
theorem g_newa (O : Ok X D A cc nL own Ts ret rm) {z : Int} (hd : decode cc pc = .ok (.newarray .int, 2)) (h1 : Cond.arrayClass .int ∈ Ts) (N : Nat) (hz : z = (N : Int) ∧ N ≤ 100000) (hcs : cs + 1 ≤ rm.cells) (hss : ss + N ≤ rm.slots) (n : Nat) (hn : pc + 2 = n)
    (kk : ∀ q : Nat, G X D A nL Q (cs + 1) (ss + N) n L (.ref q :: rest) (ws ++ [(q, ca D N (fun _ => 0))])) : G X D A nL Q cs ss pc L (vi z :: rest) ws := by
  have hRR : X.2.2.2.1 = rm := O.2.2.2.2.2
  subst hn; intro H locs ls hP hD hS hl
  obtain ⟨rfl, hN⟩ := hz
  refine va_newa (atype := .int) (ty := .int) (N' := N) (a0 := (N, .inl (ar (fun _ => 0)))) O.1.1 O.1.2.1 (O.1.2.2.2.2 _ h1) rfl O.2.1.1 hP hD hS O.2.2.1 (fun cA => by rw [vp_cell_i]; rfl) (fun q => by rw [← iI_zero, iI_lt (by omega)] at q; omega) (by rw [iI_cl (by omega) (by omega)]; omega) (by show N * 4 ≤ _; omega) (by rw [hRR]; exact hcs) (by rw [hRR]; exact hss) hd (fun q cA H1 hK1 hP1 hD1 hS1 => ?_)
  have e : cA = D.2.1 := by
    have a1 := (hK1.2 2 (cA, .int) rfl).2
    have a2 := (O.2.1.1.2 0 (D.2.1, .int) rfl).2
    exact Option.some.inj (a1.symm.trans a2)
  subst e
  exact kk q H1 locs ls hP1 hD1 hS1 hl
/-- a new Matching[] -/
theorem g_newq (O : Ok X D A cc nL own Ts ret rm) {z : Int} (hd : decode cc pc = .ok (.anewarray index, 3)) (h1 : Cond.classLink own index "PopularMatchings$Matching" ∈ Ts) (N : Nat) (hz : z = (N : Int) ∧ N ≤ 100000) (hcs : cs + 1 ≤ rm.cells) (hss : ss + N ≤ rm.slots) (n : Nat) (hn : pc + 3 = n)
    (kk : ∀ q : Nat, G X D A nL Q (cs + 1) (ss + N) n L (.ref q :: rest) (ws ++ [(q, cq D N (fun _ => none))])) : G X D A nL Q cs ss pc L (vi z :: rest) ws := by
  have hRR : X.2.2.2.1 = rm := O.2.2.2.2.2
  subst hn; intro H locs ls hP hD hS hl
  obtain ⟨rfl, hN⟩ := hz
  refine va_newq (N' := N) O.1.1 O.1.2.1 O.1.2.2.2.1 (O.1.2.2.2.2 _ h1) O.2.1.2.2.2.1 O.2.1.1 hP hD hS O.2.2.1 (fun q => by rw [← iI_zero, iI_lt (by omega)] at q; omega) (by rw [iI_cl (by omega) (by omega)]; omega) (by omega) (by rw [hRR]; exact hcs) (by rw [hRR]; exact hss) hd (fun q cA H1 hK1 hP1 hD1 hS1 => ?_)
  have e : cA = D.2.2.1 := by
    obtain ⟨-, -, -, -, -, a1⟩ := (hK1.2 2 (cA, .object "PopularMatchings$Matching") rfl).2
    obtain ⟨-, -, -, -, -, a2⟩ := (O.2.1.1.2 1 (D.2.2.1, .object "PopularMatchings$Matching") rfl).2
    exact Option.some.inj (a1.symm.trans a2)
  subst e
  exact kk q H1 locs ls hP1 hD1 hS1 hl
end GCall
section GMore
variable {X : CX} {D : DD} {A : Nat → Prop} {nL : Nat} {Q : State → Prop} {cs ss pc : Nat} {L : List (Nat × Value)} {st : List Value} {ws : va_W}
theorem g_top {x : Int} (kk : ∀ y : Int, y = x → G X D A nL Q cs ss pc L (vi y :: st) ws) : G X D A nL Q cs ss pc L (vi x :: st) ws := kk x rfl
theorem g_q0 {a z : Nat} (q0 : Nat) (hq : ws[q0]? = some (a, cq D z (fun _ => none))) (g : Nat → Option Nat) (ws' : va_W) (hg : g = fun _ => none) (hw : ws.set q0 (a, cq D z g) = ws') (kk : G X D A nL Q cs ss pc L st ws') : G X D A nL Q cs ss pc L st ws := by
  subst hw; subst hg; intro H locs ls hP hD hS hl
  exact kk H locs ls (hP.set hD hq (hP q0 _ hq) (fun _ _ => rfl)) (hD.set hq) hS hl
end GMore
theorem vi_eq {a b : Int} (h : a = b) : some (vi a) = some (vi b) := by rw [h]
/-- a row of addresses -/
def qf (l : List (Option Nat)) : Nat → Option Nat := fun j => (l[j]?).join
theorem qf_none (n : Nat) : qf (List.replicate n none) = fun _ => none := by
  funext j
  unfold qf
  by_cases h : j < n
  · simp [h]
  · simp [h]
theorem qf_up (l : List (Option Nat)) (i : Nat) (b : Nat) (l' : List (Option Nat)) (h : (decide (i < l.length), l.set i (some b)) = (true, l')) : va_up (qf l) i (some b) = qf l' := by
  have h1 := congrArg Prod.fst h
  have h2 := congrArg Prod.snd h
  simp at h1 h2
  subst h2
  funext j
  by_cases e : j = i
  · subst e
    simp [va_up, qf, h1]
  · simp [va_up, qf, e, Ne.symm e]
theorem g_cv {X : CX} {D : DD} {A : Nat → Prop} {nL : Nat} {Q : State → Prop} {cs ss pc : Nat} {L : List (Nat × Value)} {st : List Value} {ws : va_W} {x y : Int} (h : x = y) (kk : G X D A nL Q cs ss pc L (vi y :: st) ws) : G X D A nL Q cs ss pc L (vi x :: st) ws := by rw [h]; exact kk
/-- the same cells in another order -/
theorem g_ws {X : CX} {D : DD} {A : Nat → Prop} {nL : Nat} {Q : State → Prop} {cs ss pc : Nat} {L : List (Nat × Value)} {st : List Value} {ws ws' : va_W} (is : List Nat) (hn : va_nd is = true) (h : is.map (fun i => ws[i]?) = ws'.map some) (kk : G X D A nL Q cs ss pc L st ws') : G X D A nL Q cs ss pc L st ws := by
  intro H locs ls hP hD hS hl
  refine kk H locs ls (fun k q hk => ?_) (hD.sub is hn h) hS hl
  obtain ⟨i, -, hi⟩ := map_some_at h hk
  exact hP i q hi
