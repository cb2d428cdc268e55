-- ===== 26 the law: its heads (out of the skeleton), its own rules =====
def R_law : String := "PopularMatchingsLaw"
def lw_P (b : Addr) (xs : List Int32) (args : Array Value) (s : State) : Prop := args = #[.ref b] ∧ s.IntsAt b xs ∧ xs.length ≤ 1536 ∧ (Jvm.Cond.and given_1 narrow_1).before args s = true
def lw_Q (_ : Array Value) (s : State) (o : Outcome) (t : State) : Prop := o = .returned (some (.int 1)) ∧ Framed s o t [] 600000 7302250
def lw_Z (below : List Frame) (a : Array Value) (s : State) : State → Prop := fun t => ∃ o, t.status = .running ∧ Ended t below o ∧ lw_Q a s o t
/-- the law's own end, with 1 on the stack, nothing written that was there before, its room as the claim has it -/
theorem lw_ret {p : Program} {l : Launch} {e : Env} {s : State} {m : MethodId} {below : List Frame} {meth : Method} {c : Code} {b : Nat} (hx : p.tables.exec = Jvm.exec) (hb : c.code = code) (hr : meth.sig.returnType = ret) (hlocks : meth.locks = false) {pc : Nat} {H : Heap} {ls : Array Slot} (hdg : decode code pc = .ok (.ireturn, 1)) : W p l e room_1 s m #[Value.ref b] below meth c H [] 600000 7302250 (lw_Z below #[Value.ref b] s) (F0 m pc ls [.int 1]) := by
  intro T hT X
  obtain ⟨fs, hret, hrun, hended, hW, hframe⟩ := X.leave (v := some (.int 1)) (hlocks := hlocks) (fun h => by rw [hr] at h; cases h)
  have hmeth' : T.vm.method? m = some meth := X.method'
  refine ⟨T.setFrames fs, ?_, .returned (some (.int 1)), hrun, hended, rfl, ⟨_, rfl⟩, hW, hframe⟩
  jvm_step X.here [X.here.top, hx, hb, hdg, hmeth', hr, ret, narrow_b1]
  (try refine ⟨rfl, ?_⟩); (try refine ⟨rfl, ?_⟩)
  first | (intro acts; rw [hret _ acts rfl rfl rfl]) | rw [hret _ _ rfl rfl rfl]
  exact Steps.refl _
/-- what holds at the law's entry: the machine, the code, the tables' words (any of lw_tbl by 'hts w (by decide +kernel)'), the script of L ints xs at the cell b, what the Statement gives of the start (any of its parts by flat_of_before) -/
def lw_At (p : Program) (s : State) (m : MethodId) (meth : Method) (c : Code) (b L : Nat) (xs : Nat → Int32) : Prop :=
  p.tables.exec = Jvm.exec ∧ c.code = code ∧ meth.sig.returnType = ret ∧ c.maxLocals = 4 ∧ s.vm.findClass R_law = some m.cls ∧ (∀ w ∈ lw_tbl, w.before #[Value.ref b] s = true) ∧ va_X b L xs s s.heap ∧ b < s.heap.size ∧ meth.locks = false ∧ (Jvm.Cond.and given_1 narrow_1).before #[Value.ref b] s = true
/-- the script's numbers -/
def sx (xs : Nat → Int32) (k : Int) : Int := (xs k.toNat).toInt
theorem sx_bd (xs : Nat → Int32) (k : Int) : -2147483648 ≤ sx xs k ∧ sx xs k < 2147483648 := iI_bd _
theorem sx_v (xs : Nat → Int32) (k : Int) : Value.int (xs k.toNat) = vi (sx xs k) := by
  show _ = Value.int (iI (xs k.toNat).toInt)
  rw [iI_of]
def Scr (X : CX) (A : Nat → Prop) (b z : Nat) (xs : Nat → Int32) : Prop := va_X b z xs X.2.2.2.2.1 X.2.2.2.2.1.heap ∧ b < X.2.2.2.2.1.heap.size ∧ ¬ A b
section GLaw
variable {X : CX} {D : DD} {A : Nat → Prop} {cc : ByteArray} {nL : Nat} {own : String} {Ts : List Cond} {ret : Option FieldType} {rm : Room} {Q : State → Prop} {cs ss pc : Nat} {L : List (Nat × Value)} {st : List Value} {ws : va_W}
theorem g_sld (O : Ok X D A cc nL own Ts ret rm) {b z : Nat} {xs : Nat → Int32} (hX : Scr X A b z xs) (hz : z < 2147483648) {i : Int} (hd : decode cc pc = .ok (.iaload, 1)) (n : Nat) (hn : pc + 1 = n) (hi : 0 ≤ i ∧ i < (z : Int)) (kk : G X D A nL Q cs ss n L (vi (sx xs i) :: st) ws) : G X D A nL Q cs ss pc L (vi i :: .ref b :: st) ws := by
  subst hn; intro H locs ls hP hD hS hl
  refine va_sld O.1.1 O.1.2.1 hX.1 hX.2.1 hX.2.2 hS (iI_in hz hi) hd ?_
  rw [iI_cl (by omega) (by omega), sx_v]
  exact kk H locs ls hP hD hS hl
theorem g_slen (O : Ok X D A cc nL own Ts ret rm) {b z : Nat} {xs : Nat → Int32} (hX : Scr X A b z xs) (hd : decode cc pc = .ok (.arraylength, 1)) (n : Nat) (hn : pc + 1 = n) (kk : G X D A nL Q cs ss n L (vi (z : Int) :: st) ws) : G X D A nL Q cs ss pc L (.ref b :: st) ws := by
  subst hn; intro H locs ls hP hD hS hl
  refine va_slen O.1.1 O.1.2.1 hX.1 hX.2.1 hX.2.2 hS hd ?_
  have e : Value.int (Int32.ofNat z) = vi (z : Int) := by
    show _ = Value.int (Int32.ofInt (z : Int))
    rw [Int32.ofInt_eq_ofNat]
  rw [e]
  exact kk H locs ls hP hD hS hl
theorem g_icmp_eqs (O : Ok X D A cc nL own Ts ret rm) {off : Int} {x y : Int} (hd : decode cc pc = .ok (.if_icmp .eq off, 3)) (t : Nat) (ht : (pc : Int) + off = (t : Int)) (h : x = y) (kk : G X D A nL Q cs ss t L st ws) : G X D A nL Q cs ss pc L (vi y :: vi x :: st) ws := by
  subst h; intro H locs ls hP hD hS hl
  exact lv_icmp_eq O.1.1 O.1.2.1 hd ht (fun _ => kk H locs ls hP hD hS hl) (fun q => absurd rfl q)
theorem g_tin (O : Ok X D A cc nL own Ts ret rm) {dflt lo hi : Int} {offs : Array Int} {len : Nat} {x off : Int} (j : Int) {t : Nat} (hd : decode cc pc = .ok (.tableswitch dflt lo hi offs, len)) (hx : x = j) (hb : -2147483648 ≤ j ∧ j < 2147483648) (h1 : ¬ j < lo) (h2 : ¬ hi < j) (ho : offs[(j - lo).toNat]? = some off) (ht : (pc : Int) + off = (t : Int)) (kk : G X D A nL Q cs ss t L st ws) : G X D A nL Q cs ss pc L (vi x :: st) ws := by
  subst hx; intro H locs ls hP hD hS hl
  have e := iI_toInt hb.1 hb.2
  exact lv_tableIn O.1.1 O.1.2.1 hd (by rw [e]; exact h1) (by rw [e]; exact h2) (by rw [e]; exact ho) ht (kk H locs ls hP hD hS hl)
theorem g_tout (O : Ok X D A cc nL own Ts ret rm) {dflt lo hi : Int} {offs : Array Int} {len : Nat} {x : Int} {t : Nat} (hd : decode cc pc = .ok (.tableswitch dflt lo hi offs, len)) (hb : -2147483648 ≤ x ∧ x < 2147483648) (h : x < lo ∨ hi < x) (ht : (pc : Int) + dflt = (t : Int)) (kk : G X D A nL Q cs ss t L st ws) : G X D A nL Q cs ss pc L (vi x :: st) ws := by
  intro H locs ls hP hD hS hl
  have e := iI_toInt hb.1 hb.2
  exact lv_tableOut O.1.1 O.1.2.1 hd (by rw [e]; exact h) ht (kk H locs ls hP hD hS hl)
end GLaw
