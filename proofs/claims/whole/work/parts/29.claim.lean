-- ===== 29 the claim out of the walk =====
theorem pw3_tab : ∀ j : Nat, j < 6 → iI (pw3 (j : Int)) = ([1, 3, 9, 27, 81, 243] : List Int32).getD j 0 := by decide +kernel
set_option maxHeartbeats 4000000 in
set_option maxRecDepth 100000 in
theorem whole_start {p : Program} {e : Env} {s : State} {m : MethodId} {below : List Frame} {meth : Method} {c : Code} (l : Launch) (hflags : l.flags = flags0) {b L : Nat} {xs : Nat → Int32} (hL : L ≤ 1536) (C0 : lw_At p s m meth c b L xs) : W p l e room_1 s m #[Value.ref b] below meth c s.heap [] 0 0 (lw_Z below #[Value.ref b] s) (entryFrame m ([Value.ref b] : List Value).toArray 4) := by
  obtain ⟨hx, hb, hr, hml, hown, hts, hX, hbl, hlocks, hgv⟩ := id C0
  have hwt : ∀ w ∈ wsL_law, w.before #[Value.ref b] s = true := fun w h => hts w (wsL_law_in w h)
  have hs := flat_of_before _ hgv
  have hA0 : ∀ a : Nat, a < s.heap.size → ¬ (fun q : Nat => s.heap.size ≤ q) a := fun a h => Nat.not_le.mpr h
  obtain ⟨c0, iS0, hKn0⟩ := u_known (C := RX0) (T := TX0) (N := 2) (n := 2) hwt inlX0 (hwt (.instantiable RX0 2) (List.mem_of_getElem? (i := 27) rfl))
  obtain ⟨c1, iS1, hKn1⟩ := u_known (C := RX1) (T := TX1) (N := 3) (n := 3) hwt inlX1 (hwt (.instantiable RX1 3) (List.mem_of_getElem? (i := 23) rfl))
  obtain ⟨c2, iS2, hKn2⟩ := u_known (C := RX2) (T := TX2) (N := 5) (n := 5) hwt inlX2 (hwt (.instantiable RX2 5) (List.mem_of_getElem? (i := 13) rfl))
  obtain ⟨c3, iS3, hKn3⟩ := u_known (C := RX3) (T := TX3) (N := 1) (n := 1) hwt inlX3 (hwt (.instantiable RX3 1) (List.mem_of_getElem? (i := 17) rfl))
  obtain ⟨c4, iS4, hKn4⟩ := u_known (C := RX4) (T := TX4) (N := 7) (n := 7) hwt inlX4 (hwt (.instantiable RX4 7) (List.mem_of_getElem? (i := 31) rfl))
  obtain ⟨c5, iS5, hKn5⟩ := u_known (C := RX5) (T := TX5) (N := 7) (n := 7) hwt inlX5 (hwt (.instantiable RX5 7) (List.mem_of_getElem? (i := 1) rfl))
  obtain ⟨c6, iS6, hKn6⟩ := u_known (C := RX6) (T := TX6) (N := 10) (n := 10) hwt inlX6 (hwt (.instantiable RX6 10) (List.mem_of_getElem? (i := 4) rfl))
  obtain ⟨dC, dI, hKc⟩ : ∃ (dC : Nat → ClassId) (dI : Nat → Nat → Nat), ∀ (k : Nat) (q : vw_C), vwCl[k]? = some q → u_Kn s q.1 q.2.1 q.2.2 (dC k) (dI k) := by
    refine ⟨fun k => match k with | 0 => c0 | 1 => c1 | 2 => c2 | 3 => c3 | 4 => c4 | 5 => c5 | _ => c6, fun k => match k with | 0 => iS0 | 1 => iS1 | 2 => iS2 | 3 => iS3 | 4 => iS4 | 5 => iS5 | _ => iS6, ?_⟩
    intro k q hq
    match k, hq with
    | 0, hq => cases hq; exact hKn0
    | 1, hq => cases hq; exact hKn1
    | 2, hq => cases hq; exact hKn2
    | 3, hq => cases hq; exact hKn3
    | 4, hq => cases hq; exact hKn4
    | 5, hq => cases hq; exact hKn5
    | 6, hq => cases hq; exact hKn6
    | k + 7, hq => simp [vwCl] at hq
  obtain ⟨cI, kI, compI, i1, i2, i3⟩ := Cond.arrayClass_spec (hts (.arrayClass .int) (by decide +kernel))
  have hO : (Cond.arrayOver (.object "PopularMatchings$Matching")).before #[Value.ref b] s = true := hts _ (by decide +kernel)
  obtain ⟨compM, cM, kM, j1, -, j3, j4, j5⟩ := Cond.arrayOver_spec hO
  have hel : ∀ j : Nat, j < 6 → (Term.elem (.static "PopularMatchings$ChallengerSearch" "FILL_OF_POST" "[I") (.int (Int32.ofNat j))).eval #[Value.ref b] s none [] s = some (vi (pw3 (j : Int))) := by
    intro j hj
    show _ = some (Value.int (iI (pw3 (j : Int))))
    rw [pw3_tab j hj]
    match j, hj with
    | 0, _ => exact va_eqt (hs (.eq (.elem (.static "PopularMatchings$ChallengerSearch" "FILL_OF_POST" "[I") (.int 0)) (.int 1)) (by decide +kernel))
    | 1, _ => exact va_eqt (hs (.eq (.elem (.static "PopularMatchings$ChallengerSearch" "FILL_OF_POST" "[I") (.int 1)) (.int 3)) (by decide +kernel))
    | 2, _ => exact va_eqt (hs (.eq (.elem (.static "PopularMatchings$ChallengerSearch" "FILL_OF_POST" "[I") (.int 2)) (.int 9)) (by decide +kernel))
    | 3, _ => exact va_eqt (hs (.eq (.elem (.static "PopularMatchings$ChallengerSearch" "FILL_OF_POST" "[I") (.int 3)) (.int 27)) (by decide +kernel))
    | 4, _ => exact va_eqt (hs (.eq (.elem (.static "PopularMatchings$ChallengerSearch" "FILL_OF_POST" "[I") (.int 4)) (.int 81)) (by decide +kernel))
    | 5, _ => exact va_eqt (hs (.eq (.elem (.static "PopularMatchings$ChallengerSearch" "FILL_OF_POST" "[I") (.int 5)) (.int 243)) (by decide +kernel))
    | k + 6, hj => exact absurd hj (by omega)
  obtain ⟨t, ht, hT⟩ := va_Tof (tm := (.static "PopularMatchings$ChallengerSearch" "FILL_OF_POST" "[I")) (ty := .int) (N := 6) (f := fun j => vi (pw3 (j : Int))) (A := fun q : Nat => s.heap.size ≤ q) (by decide) (hs (.arrayOf (.static "PopularMatchings$ChallengerSearch" "FILL_OF_POST" "[I") .int) (by decide +kernel)) (va_eqt (hs (.eq (.length (.static "PopularMatchings$ChallengerSearch" "FILL_OF_POST" "[I")) (.int 6)) (by decide +kernel))) hel hA0
  have hZ := va_Zof (A := fun q : Nat => s.heap.size ≤ q) (hts (.laysStatic "PopularMatchings$ChallengerSearch" "FILL_OF_POST" "[I") (by decide +kernel)) (hts (.initialized "PopularMatchings$ChallengerSearch") (by decide +kernel)) ht hA0
  have hKX : KX ((dC, dI), cI, cM, t) (fun q : Nat => s.heap.size ≤ q) s := by
    refine ⟨⟨hKc, fun k q h => ?_⟩, hZ, hT, va_AO.of hO, va_Nw.of rfl (hts (.methodLinkNest "PopularMatchings" 45 yX4_init "PopularMatchings") (by decide +kernel))⟩
    match k, h with
    | 0, h => cases h; exact ⟨fun n z => ⟨fun k h => (by cases h), kI, i2, compI, i3⟩, i1⟩
    | 1, h => cases h; exact ⟨fun n z => ⟨fun k h => (by cases h), kM, j3, compM, j4⟩, kM, compM, j3, j4, j1, j5⟩
    | k + 2, h => simp at h
  have O : Ok ((p, l, e, room_1, s, m, #[Value.ref b], below, meth, c) : CX) ((dC, dI), cI, cM, t) (fun q : Nat => s.heap.size ≤ q) cL_law 4 RL wsL_law ret room_1 := ⟨⟨hx, hb, hml, hown, hwt⟩, hKX, fun q h => h, hlocks, hr, rfl⟩
  have hScr : Scr ((p, l, e, room_1, s, m, #[Value.ref b], below, meth, c) : CX) (fun q : Nat => s.heap.size ≤ q) b L xs := ⟨hX, hbl, hA0 b hbl⟩
  have hend : ∀ (Ls : List (Nat × Value)) (ws : va_W), G ((p, l, e, room_1, s, m, #[Value.ref b], below, meth, c) : CX) ((dC, dI), cI, cM, t) (fun q : Nat => s.heap.size ≤ q) 4 (lw_Z below #[Value.ref b] s) 53 3551 598 Ls [] ws := by
    intro Ls ws
    refine g_iconst O dL_law_598 599 rfl ?_
    intro H locs ls hP hD hS hl
    exact va_forget (fun q hq => hS.2.2 q hq) (W.widen (Nat.le_of_ble_eq_true rfl) (Nat.le_of_ble_eq_true rfl) (lw_ret hx hb hr hlocks dL_law_599))
  have hG : G ((p, l, e, room_1, s, m, #[Value.ref b], below, meth, c) : CX) ((dC, dI), cI, cM, t) (fun q : Nat => s.heap.size ≤ q) 4 (lw_Z below #[Value.ref b] s) 0 0 0 [(0, .ref b)] [] [] :=
    L_start O (fun ad m0 m1 m2 m3 m4 m5 m6 m7 => L_loop O hScr (by omega) ad m0 m1 m2 m3 m4 m5 m6 m7 hend (L + 4) 0 (Int.le_refl _) (by omega) (by omega) 4 3 (fun _ => 1) (fun _ => 0) (fun _ => 0) (fun _ => -1) (fun _ => -1) (fun _ => -1) 0 (fun _ _ => -1) (fun _ _ => -1) (fun _ => 0) (fun _ => 0) (fun _ => 0) (fun _ => 0) (fun _ => 0) (fun _ => 0) (fun _ => 0) (fun _ => 0) 4 3 (fun _ => 1) (fun _ => 0) (fun _ => 0) (fun _ => -1) (fun _ => 0) 0 (fun _ => 0) (fun _ => 0) (BASE_clear (WI_reset (by omega))).same)
  have hl := lv_entry ([Value.ref b]) (n := 4) (Nat.le_of_ble_eq_true rfl)
  rw [lg_entry_eq]
  generalize (lg_sl ([Value.ref b]) ++ List.replicate (4 - (lg_sl ([Value.ref b])).length) Slot.unset).toArray = ls at hl ⊢
  exact hG s.heap [] ls (fun k q h => by simp at h) ⟨fun i j p q h => by simp at h, fun k q h => by simp at h⟩ va_S.rf hl
set_option maxHeartbeats 4000000 in
theorem lw_walk (l : Launch) (hflags : l.flags = flags0) (b : Addr) (xs : List Int32) : MetFree l x (headSpec (Jvm.Cond.code x code maxLocals ret :: tables_1) room_1) (lw_P b xs) (fun _ _ _ _ _ => True) lw_Q := by
  refine MetFree.of_bodyS (code := code) (maxLocals := maxLocals) (ret := ret) (by decide) ?_ ?_
  · intro args s m h hn
    obtain ⟨meth, c, h1, h2, h3, h4, h5, h6, -, -⟩ := Cond.code_spec hn (atoms_spec (ws := Jvm.Cond.code x code maxLocals ret :: tables_1) h _ List.mem_cons_self)
    exact ⟨meth, c, h1, h2, h3, h4, h5, h6⟩
  · intro p e s m args below meth c s₁ B hml0 hP _
    obtain ⟨rfl, hx, hbd, hgv⟩ := hP
    obtain ⟨scr, harrAt, hlist, hof, hsmall⟩ := hx
    obtain ⟨hcb, hkn, -, -⟩ := State.arrayAt?_spec harrAt
    have hown : s.vm.findClass R_law = some m.cls := findClass_of_methodNamed B.named
    have hts0 : ∀ c ∈ (Jvm.Cond.code x code maxLocals ret :: tables_1), c.before #[Value.ref b] s = true := atoms_spec (ws := Jvm.Cond.code x code maxLocals ret :: tables_1) B.pre
    have hts : ∀ w ∈ lw_tbl, w.before #[Value.ref b] s = true := k2_hts_sels lw_privs (fun w hw => hts0 w (List.mem_cons_of_mem _ hw)) lw_privs_ok
    have hml : c.maxLocals = 4 := B.maxLocals_eq (hts0 _ List.mem_cons_self)
    have X₀ : Stand p l e room_1 s m #[Value.ref b] below meth c s₁ [] 0 0 := Stand.of_body B
    have hh0 : s₁.heap = s.heap := by rw [B.state]; rfl
    have hsz : scr.slots.size = xs.length := by rw [← Array.length_toList, hlist, List.length_map]
    have hval : ∀ j : Nat, j < xs.length → scr.slots[j]? = some (.int (xs.getD j 0)) := fun j hj => by
      rw [← Array.getElem?_toList, hlist]
      simp [hj]
    have hbl : b < s.heap.size := (Array.getElem?_eq_some_iff.mp hcb).1
    have hX : va_X b xs.length (fun j => xs.getD j 0) s s.heap := ⟨scr, hcb, hof, hkn, hsz, hval⟩
    have K : W p l e room_1 s m #[Value.ref b] below meth c s₁.heap [] 0 0 (lw_Z below #[Value.ref b] s) (entryFrame m ([Value.ref b] : List Value).toArray 4) := by
      rw [hh0]
      exact whole_start l hflags hbd ⟨B.exec, B.bytes, B.returns, hml, hown, hts, hX, hbl, B.notSynchronized, hgv⟩
    obtain ⟨t, a1, o, b1, b2, b3⟩ := K s₁ rfl X₀
    exact ⟨t, o, a1, b1, b2, b3⟩
theorem lw_pre_spec {args : Array Value} {s : State} (h : (Jvm.Cond.and given_1 narrow_1).before args s = true) (hr : rest_1_c.before args s = true) : ∃ (b : Addr) (xs : List Int32), lw_P b xs args s := by
  have hs := flat_of_before _ h
  have hq := flat_of_before _ hr
  have hc : (Cond.count 1).before args s = true := hs _ (by decide +kernel)
  have harr : (Cond.arrayOf (.arg 0) .int).before args s = true := hs _ (by decide +kernel)
  have hle : (Cond.le (.length (.arg 0)) (.int 1536)).before args s = true := hs _ (by decide +kernel)
  have hlen : (Cond.isInt (.length (.arg 0))).before args s = true := hq _ (by decide +kernel)
  have hall : (Cond.all (.arg 0) (.isInt (.elem (.arg 0) (.index 0)))).before args s = true := hq _ (by decide +kernel)
  obtain ⟨b, xs, hb, hx⟩ := State.ints_of_pre rfl harr hlen hall
  have hsm : xs.length < 2 ^ 31 := hx.choose_spec.2.2.2
  have hev : (Term.length (.arg 0)).eval args s none [] s = some (.int xs.length.toInt32) := hx.length_eval hb
  have hv := Cond.le_ints hev (show (Term.int 1536).eval args s none [] s = some (.int 1536) from rfl)
  have hd : xs.length.toInt32 ≤ 1536 := by
    simpa [Cond.before, Cond.holds, hv] using hle
  have hN : xs.length ≤ 1536 := (Int32.ofNat_le_ofNat hsm (by decide)).mp (show Int32.ofNat xs.length ≤ Int32.ofNat 1536 from hd)
  exact ⟨b, xs, Cond.one_arg hc (show args[0]? = some (.ref b) from hb), hx, hN, h⟩
theorem lw_comes (l : Launch) (hflags : l.flags = flags0) : Comes l x (Jvm.Cond.code x code maxLocals ret :: tables_1) room_1 (fun tb e args s => Calls_1 tb e args s ∧ rest_1 tb e args s ∧ Pre_1 tb e args s)
    (fun _ _ args s o t => lw_Q args s o t) := by
  intro p e ha hc hk s m args below hf hfit hheap happ hpre
  obtain ⟨b, xs, hP⟩ := lw_pre_spec hpre.2.2 hpre.2.1
  obtain ⟨k, o, h1, h2, h3, hQ⟩ := lw_walk l hflags b xs p e ha hc hk s m args below hf ((Spec.applies_iff_loose hf).mp happ).1 hP trivial
  exact ⟨k, o, h1, h2, h3, hQ⟩
theorem lw_frame {s t : State} {o : Outcome} {args : Array Value} (h : Framed s o t [] 600000 7302250) :
    Framed s o t (fieldLocs frame_1_writes args s ++ arrayLocs frame_1_arrays args s ++ staticLocs frame_1_statics s) 600000 7302250 := h
theorem lw_limb (L : Cond) (hL : ∀ (args : Array Value) (s t : State), L.after args s (.returned (some (.int 1))) t = true) :
    ArmFor flags0 classFile x code maxLocals ret World_1 tables_1 room_1 Calls_1 rest_1 Pre_1
      (fun tb e a s o t => postC L tb e a s o t ∧ Framed s o t (fieldLocs frame_1_writes a s ++ arrayLocs frame_1_arrays a s ++ staticLocs frame_1_statics s) 600000 7302250) := by
  intro l hflags _ _ p e ha hc hk s m args below hf hfit hheap happ hpre
  obtain ⟨k, o, h1, h2, h3, rfl, hF⟩ := lw_comes l hflags p e ha hc hk s m args below hf hfit hheap happ hpre
  exact ⟨k, _, h1, h2, h3, hL args s _, lw_frame hF⟩
theorem i_vc : Claimed_1_1 ∧ Claimed_1_2 := ⟨lw_limb limb_1_1 (fun args s t => by simp [limb_1_1, Cond.after, Cond.holds, Cond.value]), lw_limb limb_1_2 (fun args s t => Cond.after_iff.mpr (by
  first | (rw [show limb_1_2 = Cond.eq .result (.int 1) from rfl, Cond.eq_ints (x := 1) (y := 1) rfl rfl]; simp; done) | (simp [limb_1_2, Cond.value, Term.eval]; done)))⟩
