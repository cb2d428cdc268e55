theorem sX6_gives_6 : ∀ w ∈ wsX60, w ∈ wsX6_gives := by decide +kernel
theorem fX6_gives_16 : FK RX6 wsX6_gives 16 6 2 := ⟨RX6, TX6, 10, rfl, sX6_gives_6, by decide, List.mem_of_getElem? (i := 3) rfl⟩
theorem fX6_gives_26 : FK RX6 wsX6_gives 26 6 5 := ⟨RX6, TX6, 10, rfl, sX6_gives_6, by decide, List.mem_of_getElem? (i := 1) rfl⟩
theorem fX6_gives_32 : FK RX6 wsX6_gives 32 6 8 := ⟨RX6, TX6, 10, rfl, sX6_gives_6, by decide, List.mem_of_getElem? (i := 2) rfl⟩
set_option maxHeartbeats 4000000 in
set_option maxRecDepth 100000 in
theorem k_X6_gives (D : DD) (o c l t n h b f : Nat) (N P : Int) (cap len lst nw hi : Int → Int) (e : Int) (be fo : Int → Int) (a L p s : Int) (hW : WI N P cap len lst) (hnw : NW nw) (ha : 0 ≤ a ∧ a < N) (hL : 0 ≤ L ∧ L < 243) (hp : -1 ≤ p ∧ p < P) (hs : s = 0 ∨ s = 1) : Con (S := Unit) D yX6_gives wsX6_gives ({ frames := 2, cells := 0, slots := 0, locals := 48 }) 0 0 [.ref o, vi a, vi L, vi p, vi s] [(o, co 6 [vi N, vi P, .ref c, .ref l, .ref t, .ref n, .ref h, vi e, .ref b, .ref f]), (c, ca D 5 cap), (l, ca D 6 len), (t, ca D 30 lst), (n, ca D 12 nw), (h, ca D 60 hi), (b, ca D 1701 be), (f, ca D 6 fo)] (fun u => some (vi (gv cap len lst nw be s a L p))) (fun u => True) (fun u => [(o, co 6 [vi N, vi P, .ref c, .ref l, .ref t, .ref n, .ref h, vi e, .ref b, .ref f]), (c, ca D 5 cap), (l, ca D 6 len), (t, ca D 30 lst), (n, ca D 12 nw), (h, ca D 60 hi), (b, ca D 1701 be), (f, ca D 6 fo)]) := by
  refine Con.of (cc := cX6_gives) (nL := 6) (ret := (some .int)) rfl (by decide +kernel) (Nat.le_of_ble_eq_true rfl) ?_
  intro X A Q O hQ hin
  show G X D A 6 Q 0 0 0 [(0, .ref o), (1, vi a), (2, vi L), (3, vi p), (4, vi s)] [] [(o, co 6 [vi N, vi P, .ref c, .ref l, .ref t, .ref n, .ref h, vi e, .ref b, .ref f]), (c, ca D 5 cap), (l, ca D 6 len), (t, ca D 30 lst), (n, ca D 12 nw), (h, ca D 60 hi), (b, ca D 1701 be), (f, ca D 6 fo)]
  obtain ⟨hN, hcap, hlen, hlst, hdis⟩ := id hW
  have hna := hnw a (by omega) (by omega)
  have hv := vm_bd len lst a p (nw a)
  have hrb := rm9_bd hW (a := a) (p := p) (by omega) (by omega)
  refine g_aload_n O dX6_gives_0 1 0 rfl rfl ?_
  refine g_iload_n O dX6_gives_1 2 1 rfl rfl ?_
  refine g_iload_n O dX6_gives_2 3 3 rfl rfl ?_
  refine g_aload_n O dX6_gives_3 4 0 rfl rfl ?_
  refine g_get O dX6_gives_4 7 rfl fX6_gives_26 0 rfl rfl ?_
  refine g_iload_n O dX6_gives_7 8 1 rfl rfl ?_
  refine g_iald O dX6_gives_8 9 rfl 4 rfl (by decide) (by omega) ?_
  refine g_callV (As := [vi a, vi p, vi (nw a)]) (rest := []) (na := 3) O (k_X6_vote D o c l t n h b f N P cap len lst nw hi e be fo a p (nw a) hW (by omega) (by omega) (by omega)) dX6_gives_9 gX6_gives_X6_vote rfl ⟨rfl, rfl⟩ (by decide +kernel) rfl (by decide) (by decide) rfl (Nat.le_of_ble_eq_true rfl) (q0 := 0) (ci := 6) rfl rfl [0, 1, 2, 3, 4, 5, 6, 7] (by decide) rfl (fun _ => rfl) (fun _ => [(o, co 6 [vi N, vi P, .ref c, .ref l, .ref t, .ref n, .ref h, vi e, .ref b, .ref f]), (c, ca D 5 cap), (l, ca D 6 len), (t, ca D 30 lst), (n, ca D 12 nw), (h, ca D 60 hi), (b, ca D 1701 be), (f, ca D 6 fo)]) (fun _ => rfl) 12 rfl (fun _ _ => ?_)
  show G X D A 6 Q 0 0 12 [(0, .ref o), (1, vi a), (2, vi L), (3, vi p), (4, vi s)] [vi (vm len lst a p (nw a))] [(o, co 6 [vi N, vi P, .ref c, .ref l, .ref t, .ref n, .ref h, vi e, .ref b, .ref f]), (c, ca D 5 cap), (l, ca D 6 len), (t, ca D 30 lst), (n, ca D 12 nw), (h, ca D 60 hi), (b, ca D 1701 be), (f, ca D 6 fo)]
  refine g_istore O dX6_gives_12 14 [(0, .ref o), (1, vi a), (2, vi L), (3, vi p), (4, vi s), (5, vi (vm len lst a p (nw a)))] rfl (by decide) rfl ?_
  refine g_iload O dX6_gives_14 16 4 rfl rfl ?_
  refine g_if_eq O dX6_gives_16 19 27 rfl rfl (by omega) (fun h16 => ?_) (fun h16 => ?_)
  · skip
    refine g_iload_n O dX6_gives_27 28 3 rfl rfl ?_
    refine g_if_ge O dX6_gives_28 31 49 rfl rfl (by omega) (fun h28 => ?_) (fun h28 => ?_)
    · skip
      refine g_aload_n O dX6_gives_49 50 0 rfl rfl ?_
      refine g_iload_n O dX6_gives_50 51 1 rfl rfl ?_
      refine g_iload_n O dX6_gives_51 52 3 rfl rfl ?_
      refine g_callV (As := [vi a, vi p]) (rest := []) (na := 2) O (k_X6_rank D o c l t n h b f N P cap len lst nw hi e be fo a p hW (by omega) (by omega)) dX6_gives_52 gX6_gives_X6_rank rfl ⟨rfl, rfl⟩ (by decide +kernel) rfl (by decide) (by decide) rfl (Nat.le_of_ble_eq_true rfl) (q0 := 0) (ci := 6) rfl rfl [0, 1, 2, 3, 4, 5, 6, 7] (by decide) rfl (fun _ => rfl) (fun _ => [(o, co 6 [vi N, vi P, .ref c, .ref l, .ref t, .ref n, .ref h, vi e, .ref b, .ref f]), (c, ca D 5 cap), (l, ca D 6 len), (t, ca D 30 lst), (n, ca D 12 nw), (h, ca D 60 hi), (b, ca D 1701 be), (f, ca D 6 fo)]) (fun _ => rfl) 55 rfl (fun _ _ => ?_)
      show G X D A 6 Q 0 0 55 [(0, .ref o), (1, vi a), (2, vi L), (3, vi p), (4, vi s), (5, vi (vm len lst a p (nw a)))] [vi (rm9 len lst a p)] [(o, co 6 [vi N, vi P, .ref c, .ref l, .ref t, .ref n, .ref h, vi e, .ref b, .ref f]), (c, ca D 5 cap), (l, ca D 6 len), (t, ca D 30 lst), (n, ca D 12 nw), (h, ca D 60 hi), (b, ca D 1701 be), (f, ca D 6 fo)]
      refine g_bipush O dX6_gives_55 57 rfl (by decide) ?_
      refine g_icmp_ge O dX6_gives_57 60 99 rfl rfl (by omega) (fun h57 => ?_) (fun h57 => ?_)
      · skip
        refine g_bipush O dX6_gives_99 101 rfl (by decide) ?_
        exact g_iret O hQ dX6_gives_101 () (vi_eq (by unfold gv; rw [if_neg (by omega), if_neg (by omega)]; first | (rw [if_pos ⟨by omega, by omega⟩]) | (rw [if_neg (by omega)]))) rfl trivial ⟨by decide, by decide⟩
      · skip
        have hcp := hcap p (by omega) (by omega)
        have hdg := dg_bd L p
        refine g_iload_n O dX6_gives_60 61 2 rfl rfl ?_
        refine g_iload_n O dX6_gives_61 62 3 rfl rfl ?_
        refine g_callS (As := [vi L, vi p]) (rest := []) (na := 2) O (k_X6_digit D L p (by omega) (by omega)) dX6_gives_62 gX6_gives_X6_digit rfl ⟨rfl, rfl⟩ (by decide +kernel) rfl (by decide) (by decide) rfl (Nat.le_of_ble_eq_true rfl) [] (by decide) rfl (fun _ => rfl) (fun _ => [(o, co 6 [vi N, vi P, .ref c, .ref l, .ref t, .ref n, .ref h, vi e, .ref b, .ref f]), (c, ca D 5 cap), (l, ca D 6 len), (t, ca D 30 lst), (n, ca D 12 nw), (h, ca D 60 hi), (b, ca D 1701 be), (f, ca D 6 fo)]) (fun _ => rfl) 65 rfl (fun _ _ => ?_)
        show G X D A 6 Q 0 0 65 [(0, .ref o), (1, vi a), (2, vi L), (3, vi p), (4, vi s), (5, vi (vm len lst a p (nw a)))] [vi (dg L p)] [(o, co 6 [vi N, vi P, .ref c, .ref l, .ref t, .ref n, .ref h, vi e, .ref b, .ref f]), (c, ca D 5 cap), (l, ca D 6 len), (t, ca D 30 lst), (n, ca D 12 nw), (h, ca D 60 hi), (b, ca D 1701 be), (f, ca D 6 fo)]
        refine g_aload_n O dX6_gives_65 66 0 rfl rfl ?_
        refine g_get O dX6_gives_66 69 rfl fX6_gives_16 0 rfl rfl ?_
        refine g_iload_n O dX6_gives_69 70 3 rfl rfl ?_
        refine g_iald O dX6_gives_70 71 rfl 1 rfl (by decide) (by omega) ?_
        refine g_icmp_ge O dX6_gives_71 74 99 rfl rfl (by omega) (fun h71 => ?_) (fun h71 => ?_)
        · skip
          refine g_bipush O dX6_gives_99 101 rfl (by decide) ?_
          exact g_iret O hQ dX6_gives_101 () (vi_eq (by unfold gv; rw [if_neg (by omega), if_neg (by omega)]; first | (rw [if_pos ⟨by omega, by omega⟩]) | (rw [if_neg (by omega)]))) rfl trivial ⟨by decide, by decide⟩
        · skip
          have hlr := L_room (L := L) (q := p) (c := cap p) (by omega) (by omega) (by omega) (by omega) (by omega) (by omega)
          have hp3 := pw3_pos p
          refine g_iload O dX6_gives_74 76 5 rfl rfl ?_
          refine g_aload_n O dX6_gives_76 77 0 rfl rfl ?_
          refine g_get O dX6_gives_77 80 rfl fX6_gives_32 0 rfl rfl ?_
          refine g_sipush O dX6_gives_80 83 rfl (by decide) ?_
          refine g_iload_n O dX6_gives_83 84 1 rfl rfl ?_
          refine g_iconst O dX6_gives_84 85 rfl ?_
          refine g_iadd O dX6_gives_85 86 rfl ?_
          refine g_imul O dX6_gives_86 87 rfl ?_
          refine g_iload_n O dX6_gives_87 88 2 rfl rfl ?_
          refine g_iadd O dX6_gives_88 89 rfl ?_
          refine g_iload_n O dX6_gives_89 90 3 rfl rfl ?_
          refine g_callS (As := [vi p]) (rest := [vi ((243 * (a + 1)) + L), .ref b, vi (vm len lst a p (nw a))]) (na := 1) O (k_X6_power D p (by omega)) dX6_gives_90 gX6_gives_X6_power rfl ⟨rfl, rfl⟩ (by decide +kernel) rfl (by decide) (by decide) rfl (Nat.le_of_ble_eq_true rfl) [] (by decide) rfl (fun _ => rfl) (fun _ => [(o, co 6 [vi N, vi P, .ref c, .ref l, .ref t, .ref n, .ref h, vi e, .ref b, .ref f]), (c, ca D 5 cap), (l, ca D 6 len), (t, ca D 30 lst), (n, ca D 12 nw), (h, ca D 60 hi), (b, ca D 1701 be), (f, ca D 6 fo)]) (fun _ => rfl) 93 rfl (fun _ _ => ?_)
          show G X D A 6 Q 0 0 93 [(0, .ref o), (1, vi a), (2, vi L), (3, vi p), (4, vi s), (5, vi (vm len lst a p (nw a)))] [vi (pw3 p), vi ((243 * (a + 1)) + L), .ref b, vi (vm len lst a p (nw a))] [(o, co 6 [vi N, vi P, .ref c, .ref l, .ref t, .ref n, .ref h, vi e, .ref b, .ref f]), (c, ca D 5 cap), (l, ca D 6 len), (t, ca D 30 lst), (n, ca D 12 nw), (h, ca D 60 hi), (b, ca D 1701 be), (f, ca D 6 fo)]
          refine g_iadd O dX6_gives_93 94 rfl ?_
          refine g_iald O dX6_gives_94 95 rfl 6 rfl (by decide) (by omega) ?_
          refine g_iadd O dX6_gives_95 96 rfl ?_
          refine g_goto O dX6_gives_96 101 rfl ?_
          exact g_iret O hQ dX6_gives_101 () (vi_eq (by unfold gv; rw [if_neg (by omega), if_neg (by omega)]; first | (rw [if_pos ⟨by omega, by omega⟩]) | (rw [if_neg (by omega)]))) rfl trivial ⟨by decide, by decide⟩
    · skip
      refine g_iload O dX6_gives_31 33 5 rfl rfl ?_
      refine g_aload_n O dX6_gives_33 34 0 rfl rfl ?_
      refine g_get O dX6_gives_34 37 rfl fX6_gives_32 0 rfl rfl ?_
      refine g_sipush O dX6_gives_37 40 rfl (by decide) ?_
      refine g_iload_n O dX6_gives_40 41 1 rfl rfl ?_
      refine g_iconst O dX6_gives_41 42 rfl ?_
      refine g_iadd O dX6_gives_42 43 rfl ?_
      refine g_imul O dX6_gives_43 44 rfl ?_
      refine g_iload_n O dX6_gives_44 45 2 rfl rfl ?_
      refine g_iadd O dX6_gives_45 46 rfl ?_
      refine g_iald O dX6_gives_46 47 rfl 6 rfl (by decide) (by omega) ?_
      refine g_iadd O dX6_gives_47 48 rfl ?_
      exact g_iret O hQ dX6_gives_48 () (vi_eq (by unfold gv; rw [if_neg (by omega), if_pos (by omega)])) rfl trivial ⟨by decide, by decide⟩
  · skip
    refine g_iload O dX6_gives_19 21 5 rfl rfl ?_
    refine g_if_ge O dX6_gives_21 24 27 rfl rfl (by omega) (fun h21 => ?_) (fun h21 => ?_)
    · skip
      refine g_iload_n O dX6_gives_27 28 3 rfl rfl ?_
      refine g_if_ge O dX6_gives_28 31 49 rfl rfl (by omega) (fun h28 => ?_) (fun h28 => ?_)
      · skip
        refine g_aload_n O dX6_gives_49 50 0 rfl rfl ?_
        refine g_iload_n O dX6_gives_50 51 1 rfl rfl ?_
        refine g_iload_n O dX6_gives_51 52 3 rfl rfl ?_
        refine g_callV (As := [vi a, vi p]) (rest := []) (na := 2) O (k_X6_rank D o c l t n h b f N P cap len lst nw hi e be fo a p hW (by omega) (by omega)) dX6_gives_52 gX6_gives_X6_rank rfl ⟨rfl, rfl⟩ (by decide +kernel) rfl (by decide) (by decide) rfl (Nat.le_of_ble_eq_true rfl) (q0 := 0) (ci := 6) rfl rfl [0, 1, 2, 3, 4, 5, 6, 7] (by decide) rfl (fun _ => rfl) (fun _ => [(o, co 6 [vi N, vi P, .ref c, .ref l, .ref t, .ref n, .ref h, vi e, .ref b, .ref f]), (c, ca D 5 cap), (l, ca D 6 len), (t, ca D 30 lst), (n, ca D 12 nw), (h, ca D 60 hi), (b, ca D 1701 be), (f, ca D 6 fo)]) (fun _ => rfl) 55 rfl (fun _ _ => ?_)
        show G X D A 6 Q 0 0 55 [(0, .ref o), (1, vi a), (2, vi L), (3, vi p), (4, vi s), (5, vi (vm len lst a p (nw a)))] [vi (rm9 len lst a p)] [(o, co 6 [vi N, vi P, .ref c, .ref l, .ref t, .ref n, .ref h, vi e, .ref b, .ref f]), (c, ca D 5 cap), (l, ca D 6 len), (t, ca D 30 lst), (n, ca D 12 nw), (h, ca D 60 hi), (b, ca D 1701 be), (f, ca D 6 fo)]
        refine g_bipush O dX6_gives_55 57 rfl (by decide) ?_
        refine g_icmp_ge O dX6_gives_57 60 99 rfl rfl (by omega) (fun h57 => ?_) (fun h57 => ?_)
        · skip
          refine g_bipush O dX6_gives_99 101 rfl (by decide) ?_
          exact g_iret O hQ dX6_gives_101 () (vi_eq (by unfold gv; rw [if_neg (by omega), if_neg (by omega)]; first | (rw [if_pos ⟨by omega, by omega⟩]) | (rw [if_neg (by omega)]))) rfl trivial ⟨by decide, by decide⟩
        · skip
          have hcp := hcap p (by omega) (by omega)
          have hdg := dg_bd L p
          refine g_iload_n O dX6_gives_60 61 2 rfl rfl ?_
          refine g_iload_n O dX6_gives_61 62 3 rfl rfl ?_
          refine g_callS (As := [vi L, vi p]) (rest := []) (na := 2) O (k_X6_digit D L p (by omega) (by omega)) dX6_gives_62 gX6_gives_X6_digit rfl ⟨rfl, rfl⟩ (by decide +kernel) rfl (by decide) (by decide) rfl (Nat.le_of_ble_eq_true rfl) [] (by decide) rfl (fun _ => rfl) (fun _ => [(o, co 6 [vi N, vi P, .ref c, .ref l, .ref t, .ref n, .ref h, vi e, .ref b, .ref f]), (c, ca D 5 cap), (l, ca D 6 len), (t, ca D 30 lst), (n, ca D 12 nw), (h, ca D 60 hi), (b, ca D 1701 be), (f, ca D 6 fo)]) (fun _ => rfl) 65 rfl (fun _ _ => ?_)
          show G X D A 6 Q 0 0 65 [(0, .ref o), (1, vi a), (2, vi L), (3, vi p), (4, vi s), (5, vi (vm len lst a p (nw a)))] [vi (dg L p)] [(o, co 6 [vi N, vi P, .ref c, .ref l, .ref t, .ref n, .ref h, vi e, .ref b, .ref f]), (c, ca D 5 cap), (l, ca D 6 len), (t, ca D 30 lst), (n, ca D 12 nw), (h, ca D 60 hi), (b, ca D 1701 be), (f, ca D 6 fo)]
          refine g_aload_n O dX6_gives_65 66 0 rfl rfl ?_
          refine g_get O dX6_gives_66 69 rfl fX6_gives_16 0 rfl rfl ?_
          refine g_iload_n O dX6_gives_69 70 3 rfl rfl ?_
          refine g_iald O dX6_gives_70 71 rfl 1 rfl (by decide) (by omega) ?_
          refine g_icmp_ge O dX6_gives_71 74 99 rfl rfl (by omega) (fun h71 => ?_) (fun h71 => ?_)
          · skip
            refine g_bipush O dX6_gives_99 101 rfl (by decide) ?_
            exact g_iret O hQ dX6_gives_101 () (vi_eq (by unfold gv; rw [if_neg (by omega), if_neg (by omega)]; first | (rw [if_pos ⟨by omega, by omega⟩]) | (rw [if_neg (by omega)]))) rfl trivial ⟨by decide, by decide⟩
          · skip
            have hlr := L_room (L := L) (q := p) (c := cap p) (by omega) (by omega) (by omega) (by omega) (by omega) (by omega)
            have hp3 := pw3_pos p
            refine g_iload O dX6_gives_74 76 5 rfl rfl ?_
            refine g_aload_n O dX6_gives_76 77 0 rfl rfl ?_
            refine g_get O dX6_gives_77 80 rfl fX6_gives_32 0 rfl rfl ?_
            refine g_sipush O dX6_gives_80 83 rfl (by decide) ?_
            refine g_iload_n O dX6_gives_83 84 1 rfl rfl ?_
            refine g_iconst O dX6_gives_84 85 rfl ?_
            refine g_iadd O dX6_gives_85 86 rfl ?_
            refine g_imul O dX6_gives_86 87 rfl ?_
            refine g_iload_n O dX6_gives_87 88 2 rfl rfl ?_
            refine g_iadd O dX6_gives_88 89 rfl ?_
            refine g_iload_n O dX6_gives_89 90 3 rfl rfl ?_
            refine g_callS (As := [vi p]) (rest := [vi ((243 * (a + 1)) + L), .ref b, vi (vm len lst a p (nw a))]) (na := 1) O (k_X6_power D p (by omega)) dX6_gives_90 gX6_gives_X6_power rfl ⟨rfl, rfl⟩ (by decide +kernel) rfl (by decide) (by decide) rfl (Nat.le_of_ble_eq_true rfl) [] (by decide) rfl (fun _ => rfl) (fun _ => [(o, co 6 [vi N, vi P, .ref c, .ref l, .ref t, .ref n, .ref h, vi e, .ref b, .ref f]), (c, ca D 5 cap), (l, ca D 6 len), (t, ca D 30 lst), (n, ca D 12 nw), (h, ca D 60 hi), (b, ca D 1701 be), (f, ca D 6 fo)]) (fun _ => rfl) 93 rfl (fun _ _ => ?_)
            show G X D A 6 Q 0 0 93 [(0, .ref o), (1, vi a), (2, vi L), (3, vi p), (4, vi s), (5, vi (vm len lst a p (nw a)))] [vi (pw3 p), vi ((243 * (a + 1)) + L), .ref b, vi (vm len lst a p (nw a))] [(o, co 6 [vi N, vi P, .ref c, .ref l, .ref t, .ref n, .ref h, vi e, .ref b, .ref f]), (c, ca D 5 cap), (l, ca D 6 len), (t, ca D 30 lst), (n, ca D 12 nw), (h, ca D 60 hi), (b, ca D 1701 be), (f, ca D 6 fo)]
            refine g_iadd O dX6_gives_93 94 rfl ?_
            refine g_iald O dX6_gives_94 95 rfl 6 rfl (by decide) (by omega) ?_
            refine g_iadd O dX6_gives_95 96 rfl ?_
            refine g_goto O dX6_gives_96 101 rfl ?_
            exact g_iret O hQ dX6_gives_101 () (vi_eq (by unfold gv; rw [if_neg (by omega), if_neg (by omega)]; first | (rw [if_pos ⟨by omega, by omega⟩]) | (rw [if_neg (by omega)]))) rfl trivial ⟨by decide, by decide⟩
      · skip
        refine g_iload O dX6_gives_31 33 5 rfl rfl ?_
        refine g_aload_n O dX6_gives_33 34 0 rfl rfl ?_
        refine g_get O dX6_gives_34 37 rfl fX6_gives_32 0 rfl rfl ?_
        refine g_sipush O dX6_gives_37 40 rfl (by decide) ?_
        refine g_iload_n O dX6_gives_40 41 1 rfl rfl ?_
        refine g_iconst O dX6_gives_41 42 rfl ?_
        refine g_iadd O dX6_gives_42 43 rfl ?_
        refine g_imul O dX6_gives_43 44 rfl ?_
        refine g_iload_n O dX6_gives_44 45 2 rfl rfl ?_
        refine g_iadd O dX6_gives_45 46 rfl ?_
        refine g_iald O dX6_gives_46 47 rfl 6 rfl (by decide) (by omega) ?_
        refine g_iadd O dX6_gives_47 48 rfl ?_
        exact g_iret O hQ dX6_gives_48 () (vi_eq (by unfold gv; rw [if_neg (by omega), if_pos (by omega)])) rfl trivial ⟨by decide, by decide⟩
    · skip
      refine g_bipush O dX6_gives_24 26 rfl (by decide) ?_
      exact g_iret O hQ dX6_gives_26 () (vi_eq (by unfold gv; rw [if_pos (by omega)])) rfl trivial ⟨by decide, by decide⟩
theorem sX6_margin_6 : ∀ w ∈ wsX60, w ∈ wsX6_margin := by decide +kernel
theorem fX6_margin_13 : FK RX6 wsX6_margin 13 6 1 := ⟨RX6, TX6, 10, rfl, sX6_margin_6, by decide, List.mem_of_getElem? (i := 3) rfl⟩
theorem fX6_margin_32 : FK RX6 wsX6_margin 32 6 8 := ⟨RX6, TX6, 10, rfl, sX6_margin_6, by decide, List.mem_of_getElem? (i := 1) rfl⟩
theorem fX6_margin_7 : FK RX6 wsX6_margin 7 6 0 := ⟨RX6, TX6, 10, rfl, sX6_margin_6, by decide, List.mem_of_getElem? (i := 2) rfl⟩
set_option maxHeartbeats 4000000 in
set_option maxRecDepth 100000 in
theorem k_X6_margin (D : DD) (o c l t n h b f : Nat) (N P : Int) (cap len lst nw hi : Int → Int) (e : Int) (be fo : Int → Int) (s : Int) (hW : WI N P cap len lst) (hnw : NW nw) (hs : s = 0 ∨ s = 1) : Con (S := Int × (Int → Int)) D yX6_margin wsX6_margin ({ frames := 3, cells := 0, slots := 0, locals := 73 }) 0 0 [.ref o, vi s] [(o, co 6 [vi N, vi P, .ref c, .ref l, .ref t, .ref n, .ref h, vi e, .ref b, .ref f]), (c, ca D 5 cap), (l, ca D 6 len), (t, ca D 30 lst), (n, ca D 12 nw), (h, ca D 60 hi), (b, ca D 1701 be), (f, ca D 6 fo)] (fun u => some (vi u.1)) (fun u => MG N P cap len lst nw s u.2 ∧ u.1 = u.2 0) (fun u => [(o, co 6 [vi N, vi P, .ref c, .ref l, .ref t, .ref n, .ref h, vi e, .ref b, .ref f]), (c, ca D 5 cap), (l, ca D 6 len), (t, ca D 30 lst), (n, ca D 12 nw), (h, ca D 60 hi), (b, ca D 1701 u.2), (f, ca D 6 fo)]) := by
  refine Con.of (cc := cX6_margin) (nL := 7) (ret := (some .int)) rfl (by decide +kernel) (Nat.le_of_ble_eq_true rfl) ?_
  intro X A Q O hQ hin
  show G X D A 7 Q 0 0 0 [(0, .ref o), (1, vi s)] [] [(o, co 6 [vi N, vi P, .ref c, .ref l, .ref t, .ref n, .ref h, vi e, .ref b, .ref f]), (c, ca D 5 cap), (l, ca D 6 len), (t, ca D 30 lst), (n, ca D 12 nw), (h, ca D 60 hi), (b, ca D 1701 be), (f, ca D 6 fo)]
  obtain ⟨hN, hcap, hlen, hlst, hdis⟩ := id hW
  refine g_iconst O dX6_margin_0 1 rfl ?_
  refine g_istore_n O dX6_margin_1 2 [(0, .ref o), (1, vi s), (2, vi 0)] rfl (by decide) rfl ?_
  have lp2 : ∀ (nn : Nat) (i : Int) (g0 : Int → Int), (0 ≤ i ∧ i ≤ 243) → (∀ kk, 0 ≤ kk → kk < i → g0 (243 * N + kk) = 0) → (243 - i < (nn : Int)) → G X D A 7 Q 0 0 2 [(0, .ref o), (1, vi s), (2, vi i)] [] [(o, co 6 [vi N, vi P, .ref c, .ref l, .ref t, .ref n, .ref h, vi e, .ref b, .ref f]), (c, ca D 5 cap), (l, ca D 6 len), (t, ca D 30 lst), (n, ca D 12 nw), (h, ca D 60 hi), (b, ca D 1701 g0), (f, ca D 6 fo)] := by
    intro nn
    induction nn with
    | zero =>
      intro i g0 h1 h2 hm2
      exact absurd hm2 (by omega)
    | succ nn ih2 =>
      intro i g0 h1 h2 hm2
      refine g_iload_n O dX6_margin_2 3 2 rfl rfl ?_
      refine g_sipush O dX6_margin_3 6 rfl (by decide) ?_
      refine g_icmp_ge O dX6_margin_6 9 31 rfl rfl (by omega) (fun h6 => ?_) (fun h6 => ?_)
      · skip
        refine g_aload_n O dX6_margin_31 32 0 rfl rfl ?_
        refine g_get O dX6_margin_32 35 rfl fX6_margin_7 0 rfl rfl ?_
        refine g_iconst O dX6_margin_35 36 rfl ?_
        refine g_isub O dX6_margin_36 37 rfl ?_
        refine g_istore_n O dX6_margin_37 38 [(0, .ref o), (1, vi s), (2, vi (N - 1))] rfl (by decide) rfl ?_
        have lp38 : ∀ (nn : Nat) (i : Int) (g1 : Int → Int), (-1 ≤ i ∧ i < N) → (MGp N P cap len lst nw s g1 i 0) → (i + 1 < (nn : Int)) → G X D A 7 Q 0 0 38 [(0, .ref o), (1, vi s), (2, vi i)] [] [(o, co 6 [vi N, vi P, .ref c, .ref l, .ref t, .ref n, .ref h, vi e, .ref b, .ref f]), (c, ca D 5 cap), (l, ca D 6 len), (t, ca D 30 lst), (n, ca D 12 nw), (h, ca D 60 hi), (b, ca D 1701 g1), (f, ca D 6 fo)] := by
          intro nn
          induction nn with
          | zero =>
            intro i g1 h1 hM hm38
            exact absurd hm38 (by omega)
          | succ nn ih38 =>
            intro i g1 h1 hM hm38
            refine g_iload_n O dX6_margin_38 39 2 rfl rfl ?_
            refine g_if_lt O dX6_margin_39 42 126 rfl rfl (by omega) (fun h39 => ?_) (fun h39 => ?_)
            · skip
              refine g_aload_n O dX6_margin_126 127 0 rfl rfl ?_
              refine g_get O dX6_margin_127 130 rfl fX6_margin_32 0 rfl rfl ?_
              refine g_iconst O dX6_margin_130 131 rfl ?_
              refine g_iald O dX6_margin_131 132 rfl 6 rfl (by decide) (by omega) ?_
              exact g_iret O hQ dX6_margin_132 (g1 0, g1) rfl rfl (⟨by rw [show i = -1 by omega] at hM; exact hM, rfl⟩) ⟨by decide, by decide⟩
            · skip
              refine g_iconst O dX6_margin_42 43 rfl ?_
              refine g_istore_n O dX6_margin_43 44 [(0, .ref o), (1, vi s), (2, vi i), (3, vi 0)] rfl (by decide) rfl ?_
              have lp44 : ∀ (nn : Nat) (L : Int) (g2 : Int → Int), (0 ≤ L ∧ L ≤ 243) → (MGp N P cap len lst nw s g2 i L) → (243 - L < (nn : Int)) → G X D A 7 Q 0 0 44 [(0, .ref o), (1, vi s), (2, vi i), (3, vi L)] [] [(o, co 6 [vi N, vi P, .ref c, .ref l, .ref t, .ref n, .ref h, vi e, .ref b, .ref f]), (c, ca D 5 cap), (l, ca D 6 len), (t, ca D 30 lst), (n, ca D 12 nw), (h, ca D 60 hi), (b, ca D 1701 g2), (f, ca D 6 fo)] := by
                intro nn
                induction nn with
                | zero =>
                  intro L g2 hL hM2 hm44
                  exact absurd hm44 (by omega)
                | succ nn ih44 =>
                  intro L g2 hL hM2 hm44
                  refine g_iload_n O dX6_margin_44 45 3 rfl rfl ?_
                  refine g_sipush O dX6_margin_45 48 rfl (by decide) ?_
                  refine g_icmp_ge O dX6_margin_48 51 120 rfl rfl (by omega) (fun h48 => ?_) (fun h48 => ?_)
                  · skip
                    refine g_iinc O dX6_margin_120 123 2 [(0, .ref o), (1, vi s), (2, vi (i + (-1))), (3, vi L)] rfl (by decide) rfl rfl ?_
                    refine g_goto O dX6_margin_123 38 rfl ?_
                    refine g_loc (L' := [(0, .ref o), (1, vi s), (2, vi (i + (-1)))]) [0, 1, 2] rfl ?_
                    exact ih38 (i + (-1)) g2 (by omega) (MGp_row (by rw [show L = 243 by omega] at hM2; exact hM2)) (by omega)
                  · skip
                    refine g_bipush O dX6_margin_51 53 rfl (by decide) ?_
                    refine g_istore O dX6_margin_53 55 [(0, .ref o), (1, vi s), (2, vi i), (3, vi L), (4, vi (-99))] rfl (by decide) rfl ?_
                    refine g_iconst O dX6_margin_55 56 rfl ?_
                    refine g_istore O dX6_margin_56 58 [(0, .ref o), (1, vi s), (2, vi i), (3, vi L), (4, vi (-99)), (5, vi (-1))] rfl (by decide) rfl ?_
                    have lp58 : ∀ (nn : Nat) (q : Int) (y : Int), (-1 ≤ q ∧ q ≤ P) → (-99 ≤ y ∧ y ≤ N - i) → (y = -99 ∨ ∃ x, -1 ≤ x ∧ x < q ∧ y = gv cap len lst nw g2 s i L x) → (∀ x, -1 ≤ x → x < q → gv cap len lst nw g2 s i L x ≤ y) → (P - q < (nn : Int)) → G X D A 7 Q 0 0 58 [(0, .ref o), (1, vi s), (2, vi i), (3, vi L), (4, vi y), (5, vi q)] [] [(o, co 6 [vi N, vi P, .ref c, .ref l, .ref t, .ref n, .ref h, vi e, .ref b, .ref f]), (c, ca D 5 cap), (l, ca D 6 len), (t, ca D 30 lst), (n, ca D 12 nw), (h, ca D 60 hi), (b, ca D 1701 g2), (f, ca D 6 fo)] := by
                      intro nn
                      induction nn with
                      | zero =>
                        intro q y hq hy hy1 hy2 hm58
                        exact absurd hm58 (by omega)
                      | succ nn ih58 =>
                        intro q y hq hy hy1 hy2 hm58
                        refine g_iload O dX6_margin_58 60 5 rfl rfl ?_
                        refine g_aload_n O dX6_margin_60 61 0 rfl rfl ?_
                        refine g_get O dX6_margin_61 64 rfl fX6_margin_13 0 rfl rfl ?_
                        refine g_icmp_ge O dX6_margin_64 67 100 rfl rfl (by omega) (fun h64 => ?_) (fun h64 => ?_)
                        · skip
                          refine g_aload_n O dX6_margin_100 101 0 rfl rfl ?_
                          refine g_get O dX6_margin_101 104 rfl fX6_margin_32 0 rfl rfl ?_
                          refine g_sipush O dX6_margin_104 107 rfl (by decide) ?_
                          refine g_iload_n O dX6_margin_107 108 2 rfl rfl ?_
                          refine g_imul O dX6_margin_108 109 rfl ?_
                          refine g_iload_n O dX6_margin_109 110 3 rfl rfl ?_
                          refine g_iadd O dX6_margin_110 111 rfl ?_
                          refine g_iload O dX6_margin_111 113 4 rfl rfl ?_
                          refine g_iast O dX6_margin_113 114 rfl 6 rfl (by decide) (by omega) [(o, co 6 [vi N, vi P, .ref c, .ref l, .ref t, .ref n, .ref h, vi e, .ref b, .ref f]), (c, ca D 5 cap), (l, ca D 6 len), (t, ca D 30 lst), (n, ca D 12 nw), (h, ca D 60 hi), (b, ca D 1701 (up g2 ((243 * i) + L) y)), (f, ca D 6 fo)] rfl ?_
                          refine g_iinc O dX6_margin_114 117 3 [(0, .ref o), (1, vi s), (2, vi i), (3, vi (L + 1)), (4, vi y), (5, vi q)] rfl (by decide) rfl rfl ?_
                          refine g_goto O dX6_margin_117 44 rfl ?_
                          refine g_loc (L' := [(0, .ref o), (1, vi s), (2, vi i), (3, vi (L + 1))]) [0, 1, 2, 3] rfl ?_
                          exact ih44 (L + 1) (up g2 ((243 * i) + L) y) (by omega) (MGp_add (by omega) (by omega) (by omega) (by omega) hM2 hy.1 hy.2 (by rcases hy1 with q | ⟨q, c1, c2, c3⟩; exact Or.inl q; exact Or.inr ⟨q, c1, by omega, c3⟩) (fun q c1 c2 => hy2 q c1 (by omega))) (by omega)
                        · skip
                          have hgb := gv_bd hW (cap := cap) (len := len) (lst := lst) (nw := nw) (be := g2) (s := s) (a := i) (L := L) (q := q) (lo := -99) (hi := N - (i + 1)) (by omega) (by omega) (by omega) (by omega) (by omega) (MGp_lo (by omega) hM2)
                          refine g_aload_n O dX6_margin_67 68 0 rfl rfl ?_
                          refine g_iload_n O dX6_margin_68 69 2 rfl rfl ?_
                          refine g_iload_n O dX6_margin_69 70 3 rfl rfl ?_
                          refine g_iload O dX6_margin_70 72 5 rfl rfl ?_
                          refine g_iload_n O dX6_margin_72 73 1 rfl rfl ?_
                          refine g_callV (As := [vi i, vi L, vi q, vi s]) (rest := []) (na := 4) O (k_X6_gives D o c l t n h b f N P cap len lst nw hi e g2 fo i L q s hW hnw (by omega) (by omega) (by omega) (by omega)) dX6_margin_73 gX6_margin_X6_gives rfl ⟨rfl, rfl⟩ (by decide +kernel) rfl (by decide) (by decide) rfl (Nat.le_of_ble_eq_true rfl) (q0 := 0) (ci := 6) rfl rfl [0, 1, 2, 3, 4, 5, 6, 7] (by decide) rfl (fun _ => rfl) (fun _ => [(o, co 6 [vi N, vi P, .ref c, .ref l, .ref t, .ref n, .ref h, vi e, .ref b, .ref f]), (c, ca D 5 cap), (l, ca D 6 len), (t, ca D 30 lst), (n, ca D 12 nw), (h, ca D 60 hi), (b, ca D 1701 g2), (f, ca D 6 fo)]) (fun _ => rfl) 76 rfl (fun _ _ => ?_)
                          show G X D A 7 Q 0 0 76 [(0, .ref o), (1, vi s), (2, vi i), (3, vi L), (4, vi y), (5, vi q)] [vi (gv cap len lst nw g2 s i L q)] [(o, co 6 [vi N, vi P, .ref c, .ref l, .ref t, .ref n, .ref h, vi e, .ref b, .ref f]), (c, ca D 5 cap), (l, ca D 6 len), (t, ca D 30 lst), (n, ca D 12 nw), (h, ca D 60 hi), (b, ca D 1701 g2), (f, ca D 6 fo)]
                          refine g_istore O dX6_margin_76 78 [(0, .ref o), (1, vi s), (2, vi i), (3, vi L), (4, vi y), (5, vi q), (6, vi (gv cap len lst nw g2 s i L q))] rfl (by decide) rfl ?_
                          refine g_iload O dX6_margin_78 80 6 rfl rfl ?_
                          refine g_iload O dX6_margin_80 82 4 rfl rfl ?_
                          refine g_icmp_le O dX6_margin_82 85 90 rfl rfl (by omega) (fun h82 => ?_) (fun h82 => ?_)
                          · skip
                            refine g_iload O dX6_margin_90 92 4 rfl rfl ?_
                            refine g_istore O dX6_margin_92 94 [(0, .ref o), (1, vi s), (2, vi i), (3, vi L), (4, vi y), (5, vi q), (6, vi (gv cap len lst nw g2 s i L q))] rfl (by decide) rfl ?_
                            refine g_iinc O dX6_margin_94 97 5 [(0, .ref o), (1, vi s), (2, vi i), (3, vi L), (4, vi y), (5, vi (q + 1)), (6, vi (gv cap len lst nw g2 s i L q))] rfl (by decide) rfl rfl ?_
                            refine g_goto O dX6_margin_97 58 rfl ?_
                            refine g_loc (L' := [(0, .ref o), (1, vi s), (2, vi i), (3, vi L), (4, vi y), (5, vi (q + 1))]) [0, 1, 2, 3, 4, 5] rfl ?_
                            exact ih58 (q + 1) y (by omega) (by omega) (by first | exact Or.inr ⟨q, by omega, by omega, rfl⟩ | (rcases hy1 with c | ⟨x, c1, c2, c3⟩; exact Or.inl c; exact Or.inr ⟨x, c1, by omega, c3⟩)) (fun x c1 c2 => by rcases (show x < q ∨ x = q by omega) with c | c; have := hy2 x c1 c; omega; rw [c]; omega) (by omega)
                          · skip
                            refine g_iload O dX6_margin_85 87 6 rfl rfl ?_
                            refine g_goto O dX6_margin_87 92 rfl ?_
                            refine g_istore O dX6_margin_92 94 [(0, .ref o), (1, vi s), (2, vi i), (3, vi L), (4, vi (gv cap len lst nw g2 s i L q)), (5, vi q), (6, vi (gv cap len lst nw g2 s i L q))] rfl (by decide) rfl ?_
                            refine g_iinc O dX6_margin_94 97 5 [(0, .ref o), (1, vi s), (2, vi i), (3, vi L), (4, vi (gv cap len lst nw g2 s i L q)), (5, vi (q + 1)), (6, vi (gv cap len lst nw g2 s i L q))] rfl (by decide) rfl rfl ?_
                            refine g_goto O dX6_margin_97 58 rfl ?_
                            refine g_loc (L' := [(0, .ref o), (1, vi s), (2, vi i), (3, vi L), (4, vi (gv cap len lst nw g2 s i L q)), (5, vi (q + 1))]) [0, 1, 2, 3, 4, 5] rfl ?_
                            exact ih58 (q + 1) (gv cap len lst nw g2 s i L q) (by omega) (by omega) (by first | exact Or.inr ⟨q, by omega, by omega, rfl⟩ | (rcases hy1 with c | ⟨x, c1, c2, c3⟩; exact Or.inl c; exact Or.inr ⟨x, c1, by omega, c3⟩)) (fun x c1 c2 => by rcases (show x < q ∨ x = q by omega) with c | c; have := hy2 x c1 c; omega; rw [c]; omega) (by omega)
                    exact lp58 1000 (-1) (-99) (by omega) (by omega) (Or.inl rfl) (fun x c1 c2 => absurd c2 (by omega)) (by omega)
              exact lp44 1000 0 g1 (by omega) hM (by omega)
        exact lp38 1000 (N - 1) g0 (by omega) ⟨fun M m0 m1 => h2 M m0 (by omega), fun a M c a1 m0 m1 => absurd c (by omega)⟩ (by omega)
      · skip
        refine g_aload_n O dX6_margin_9 10 0 rfl rfl ?_
        refine g_get O dX6_margin_10 13 rfl fX6_margin_32 0 rfl rfl ?_
        refine g_sipush O dX6_margin_13 16 rfl (by decide) ?_
        refine g_aload_n O dX6_margin_16 17 0 rfl rfl ?_
        refine g_get O dX6_margin_17 20 rfl fX6_margin_7 0 rfl rfl ?_
        refine g_imul O dX6_margin_20 21 rfl ?_
        refine g_iload_n O dX6_margin_21 22 2 rfl rfl ?_
        refine g_iadd O dX6_margin_22 23 rfl ?_
        refine g_iconst O dX6_margin_23 24 rfl ?_
        refine g_iast O dX6_margin_24 25 rfl 6 rfl (by decide) (by omega) [(o, co 6 [vi N, vi P, .ref c, .ref l, .ref t, .ref n, .ref h, vi e, .ref b, .ref f]), (c, ca D 5 cap), (l, ca D 6 len), (t, ca D 30 lst), (n, ca D 12 nw), (h, ca D 60 hi), (b, ca D 1701 (up g0 ((243 * N) + i) 0)), (f, ca D 6 fo)] rfl ?_
        refine g_iinc O dX6_margin_25 28 2 [(0, .ref o), (1, vi s), (2, vi (i + 1))] rfl (by decide) rfl rfl ?_
        refine g_goto O dX6_margin_28 2 rfl ?_
        exact ih2 (i + 1) (up g0 ((243 * N) + i) 0) (by omega) (fun kk q1 q2 => by unfold up; split; rfl; exact h2 kk q1 (by omega)) (by omega)
  exact lp2 1000 0 be (by omega) (fun kk q1 q2 => absurd q2 (by omega)) (by omega)
set_option maxHeartbeats 4000000 in
set_option maxRecDepth 100000 in
theorem k_X6_isParetoOptimal (D : DD) (o c l t n h b f : Nat) (N P : Int) (cap len lst nw hi : Int → Int) (e : Int) (be fo : Int → Int) (hW : WI N P cap len lst) (hnw : NW nw) : Con (S := Int × (Int → Int)) D yX6_isParetoOptimal wsX6_isParetoOptimal ({ frames := 4, cells := 0, slots := 0, locals := 99 }) 0 0 [.ref o] [(o, co 6 [vi N, vi P, .ref c, .ref l, .ref t, .ref n, .ref h, vi e, .ref b, .ref f]), (c, ca D 5 cap), (l, ca D 6 len), (t, ca D 30 lst), (n, ca D 12 nw), (h, ca D 60 hi), (b, ca D 1701 be), (f, ca D 6 fo)] (fun u => some (vi u.1)) (fun u => MG N P cap len lst nw 1 u.2 ∧ u.1 = (if u.2 0 = 0 then 1 else 0)) (fun u => [(o, co 6 [vi N, vi P, .ref c, .ref l, .ref t, .ref n, .ref h, vi e, .ref b, .ref f]), (c, ca D 5 cap), (l, ca D 6 len), (t, ca D 30 lst), (n, ca D 12 nw), (h, ca D 60 hi), (b, ca D 1701 u.2), (f, ca D 6 fo)]) := by
  refine Con.of (cc := cX6_isParetoOptimal) (nL := 1) (ret := (some .int)) rfl (by decide +kernel) (Nat.le_of_ble_eq_true rfl) ?_
  intro X A Q O hQ hin
  show G X D A 1 Q 0 0 0 [(0, .ref o)] [] [(o, co 6 [vi N, vi P, .ref c, .ref l, .ref t, .ref n, .ref h, vi e, .ref b, .ref f]), (c, ca D 5 cap), (l, ca D 6 len), (t, ca D 30 lst), (n, ca D 12 nw), (h, ca D 60 hi), (b, ca D 1701 be), (f, ca D 6 fo)]
  obtain ⟨hN, hcap, hlen, hlst, hdis⟩ := id hW
  refine g_aload_n O dX6_isParetoOptimal_0 1 0 rfl rfl ?_
  refine g_iconst O dX6_isParetoOptimal_1 2 rfl ?_
  refine g_callV (As := [vi 1]) (rest := []) (na := 1) O (k_X6_margin D o c l t n h b f N P cap len lst nw hi e be fo 1 hW hnw (by omega)) dX6_isParetoOptimal_2 gX6_isParetoOptimal_X6_margin rfl ⟨rfl, rfl⟩ (by decide +kernel) rfl (by decide) (by decide) rfl (Nat.le_of_ble_eq_true rfl) (q0 := 0) (ci := 6) rfl rfl [0, 1, 2, 3, 4, 5, 6, 7] (by decide) rfl (fun _ => rfl) (fun u => [(o, co 6 [vi N, vi P, .ref c, .ref l, .ref t, .ref n, .ref h, vi e, .ref b, .ref f]), (c, ca D 5 cap), (l, ca D 6 len), (t, ca D 30 lst), (n, ca D 12 nw), (h, ca D 60 hi), (b, ca D 1701 u.2), (f, ca D 6 fo)]) (fun _ => rfl) 5 rfl (fun u2 hu2 => ?_)
  obtain ⟨r2, be12⟩ := u2
  have hu2 : MG N P cap len lst nw 1 be12 ∧ r2 = be12 0 := hu2
  obtain ⟨hm1, hm2⟩ := hu2
  show G X D A 1 Q 0 0 5 [(0, .ref o)] [vi r2] [(o, co 6 [vi N, vi P, .ref c, .ref l, .ref t, .ref n, .ref h, vi e, .ref b, .ref f]), (c, ca D 5 cap), (l, ca D 6 len), (t, ca D 30 lst), (n, ca D 12 nw), (h, ca D 60 hi), (b, ca D 1701 be12), (f, ca D 6 fo)]
  have hb0 := MG_hi hm1 (a := 0) (M := 0) (by omega) (by omega) (by omega) (by omega)
  simp only [Int.mul_zero, Int.add_zero] at hb0
  refine g_if_ne O dX6_isParetoOptimal_5 8 12 rfl rfl (by omega) (fun h5 => ?_) (fun h5 => ?_)
  · skip
    refine g_iconst O dX6_isParetoOptimal_12 13 rfl ?_
    exact g_iret O hQ dX6_isParetoOptimal_13 (0, be12) rfl rfl (⟨hm1, by show _ = if be12 0 = 0 then _ else _; split <;> omega⟩) ⟨by decide, by decide⟩
  · skip
    refine g_iconst O dX6_isParetoOptimal_8 9 rfl ?_
    refine g_goto O dX6_isParetoOptimal_9 13 rfl ?_
    exact g_iret O hQ dX6_isParetoOptimal_13 (1, be12) rfl rfl (⟨hm1, by show _ = if be12 0 = 0 then _ else _; split <;> omega⟩) ⟨by decide, by decide⟩
set_option maxHeartbeats 4000000 in
set_option maxRecDepth 100000 in
theorem k_X6_unpopularityMargin (D : DD) (o c l t n h b f : Nat) (N P : Int) (cap len lst nw hi : Int → Int) (e : Int) (be fo : Int → Int) (hW : WI N P cap len lst) (hnw : NW nw) : Con (S := Int × (Int → Int)) D yX6_unpopularityMargin wsX6_unpopularityMargin ({ frames := 4, cells := 0, slots := 0, locals := 99 }) 0 0 [.ref o] [(o, co 6 [vi N, vi P, .ref c, .ref l, .ref t, .ref n, .ref h, vi e, .ref b, .ref f]), (c, ca D 5 cap), (l, ca D 6 len), (t, ca D 30 lst), (n, ca D 12 nw), (h, ca D 60 hi), (b, ca D 1701 be), (f, ca D 6 fo)] (fun u => some (vi u.1)) (fun u => MG N P cap len lst nw 0 u.2 ∧ u.1 = u.2 0) (fun u => [(o, co 6 [vi N, vi P, .ref c, .ref l, .ref t, .ref n, .ref h, vi e, .ref b, .ref f]), (c, ca D 5 cap), (l, ca D 6 len), (t, ca D 30 lst), (n, ca D 12 nw), (h, ca D 60 hi), (b, ca D 1701 u.2), (f, ca D 6 fo)]) := by
  refine Con.of (cc := cX6_unpopularityMargin) (nL := 1) (ret := (some .int)) rfl (by decide +kernel) (Nat.le_of_ble_eq_true rfl) ?_
  intro X A Q O hQ hin
  show G X D A 1 Q 0 0 0 [(0, .ref o)] [] [(o, co 6 [vi N, vi P, .ref c, .ref l, .ref t, .ref n, .ref h, vi e, .ref b, .ref f]), (c, ca D 5 cap), (l, ca D 6 len), (t, ca D 30 lst), (n, ca D 12 nw), (h, ca D 60 hi), (b, ca D 1701 be), (f, ca D 6 fo)]
  refine g_aload_n O dX6_unpopularityMargin_0 1 0 rfl rfl ?_
  refine g_iconst O dX6_unpopularityMargin_1 2 rfl ?_
  refine g_callV (As := [vi 0]) (rest := []) (na := 1) O (k_X6_margin D o c l t n h b f N P cap len lst nw hi e be fo 0 hW hnw (by omega)) dX6_unpopularityMargin_2 gX6_unpopularityMargin_X6_margin rfl ⟨rfl, rfl⟩ (by decide +kernel) rfl (by decide) (by decide) rfl (Nat.le_of_ble_eq_true rfl) (q0 := 0) (ci := 6) rfl rfl [0, 1, 2, 3, 4, 5, 6, 7] (by decide) rfl (fun _ => rfl) (fun u => [(o, co 6 [vi N, vi P, .ref c, .ref l, .ref t, .ref n, .ref h, vi e, .ref b, .ref f]), (c, ca D 5 cap), (l, ca D 6 len), (t, ca D 30 lst), (n, ca D 12 nw), (h, ca D 60 hi), (b, ca D 1701 u.2), (f, ca D 6 fo)]) (fun _ => rfl) 5 rfl (fun u2 hu2 => ?_)
  obtain ⟨r2, be12⟩ := u2
  have hu2 : MG N P cap len lst nw 0 be12 ∧ r2 = be12 0 := hu2
  obtain ⟨hm1, hm2⟩ := hu2
  show G X D A 1 Q 0 0 5 [(0, .ref o)] [vi r2] [(o, co 6 [vi N, vi P, .ref c, .ref l, .ref t, .ref n, .ref h, vi e, .ref b, .ref f]), (c, ca D 5 cap), (l, ca D 6 len), (t, ca D 30 lst), (n, ca D 12 nw), (h, ca D 60 hi), (b, ca D 1701 be12), (f, ca D 6 fo)]
  exact g_iret O hQ dX6_unpopularityMargin_5 (r2, be12) rfl rfl (⟨hm1, hm2⟩) ⟨by decide, by decide⟩
theorem sX6_challenges_6 : ∀ w ∈ wsX60, w ∈ wsX6_challenges := by decide +kernel
theorem fX6_challenges_13 : FK RX6 wsX6_challenges 13 6 1 := ⟨RX6, TX6, 10, rfl, sX6_challenges_6, by decide, List.mem_of_getElem? (i := 3) rfl⟩
theorem fX6_challenges_32 : FK RX6 wsX6_challenges 32 6 8 := ⟨RX6, TX6, 10, rfl, sX6_challenges_6, by decide, List.mem_of_getElem? (i := 4) rfl⟩
theorem fX6_challenges_35 : FK RX6 wsX6_challenges 35 6 9 := ⟨RX6, TX6, 10, rfl, sX6_challenges_6, by decide, List.mem_of_getElem? (i := 2) rfl⟩
theorem fX6_challenges_7 : FK RX6 wsX6_challenges 7 6 0 := ⟨RX6, TX6, 10, rfl, sX6_challenges_6, by decide, List.mem_of_getElem? (i := 1) rfl⟩
set_option maxHeartbeats 4000000 in
set_option maxRecDepth 100000 in
theorem k_X6_challenges (D : DD) (o c l t n h b f : Nat) (N P : Int) (cap len lst nw hi : Int → Int) (e : Int) (be fo : Int → Int) (hW : WI N P cap len lst) (hnw : NW nw) : Con (S := Int × (Int → Int) × (Int → Int)) D yX6_challenges wsX6_challenges ({ frames := 4, cells := 0, slots := 0, locals := 99 }) 0 0 [.ref o] [(o, co 6 [vi N, vi P, .ref c, .ref l, .ref t, .ref n, .ref h, vi e, .ref b, .ref f]), (c, ca D 5 cap), (l, ca D 6 len), (t, ca D 30 lst), (n, ca D 12 nw), (h, ca D 60 hi), (b, ca D 1701 be), (f, ca D 6 fo)] (fun u => some (vi u.1)) (fun u => MG N P cap len lst nw 0 u.2.1 ∧ u.1 = u.2.1 0 ∧ GRi P cap len lst nw u.2.1 u.2.2 N) (fun u => [(o, co 6 [vi N, vi P, .ref c, .ref l, .ref t, .ref n, .ref h, vi e, .ref b, .ref f]), (c, ca D 5 cap), (l, ca D 6 len), (t, ca D 30 lst), (n, ca D 12 nw), (h, ca D 60 hi), (b, ca D 1701 u.2.1), (f, ca D 6 u.2.2)]) := by
  refine Con.of (cc := cX6_challenges) (nL := 5) (ret := (some .int)) rfl (by decide +kernel) (Nat.le_of_ble_eq_true rfl) ?_
  intro X A Q O hQ hin
  show G X D A 5 Q 0 0 0 [(0, .ref o)] [] [(o, co 6 [vi N, vi P, .ref c, .ref l, .ref t, .ref n, .ref h, vi e, .ref b, .ref f]), (c, ca D 5 cap), (l, ca D 6 len), (t, ca D 30 lst), (n, ca D 12 nw), (h, ca D 60 hi), (b, ca D 1701 be), (f, ca D 6 fo)]
  obtain ⟨hN, hcap, hlen, hlst, hdis⟩ := id hW
  refine g_aload_n O dX6_challenges_0 1 0 rfl rfl ?_
  refine g_iconst O dX6_challenges_1 2 rfl ?_
  refine g_callV (As := [vi 0]) (rest := []) (na := 1) O (k_X6_margin D o c l t n h b f N P cap len lst nw hi e be fo 0 hW hnw (by omega)) dX6_challenges_2 gX6_challenges_X6_margin rfl ⟨rfl, rfl⟩ (by decide +kernel) rfl (by decide) (by decide) rfl (Nat.le_of_ble_eq_true rfl) (q0 := 0) (ci := 6) rfl rfl [0, 1, 2, 3, 4, 5, 6, 7] (by decide) rfl (fun _ => rfl) (fun u => [(o, co 6 [vi N, vi P, .ref c, .ref l, .ref t, .ref n, .ref h, vi e, .ref b, .ref f]), (c, ca D 5 cap), (l, ca D 6 len), (t, ca D 30 lst), (n, ca D 12 nw), (h, ca D 60 hi), (b, ca D 1701 u.2), (f, ca D 6 fo)]) (fun _ => rfl) 5 rfl (fun u2 hu2 => ?_)
  obtain ⟨r2, be12⟩ := u2
  have hu2 : MG N P cap len lst nw 0 be12 ∧ r2 = be12 0 := hu2
  obtain ⟨hm1, hm2⟩ := hu2
  show G X D A 5 Q 0 0 5 [(0, .ref o)] [vi r2] [(o, co 6 [vi N, vi P, .ref c, .ref l, .ref t, .ref n, .ref h, vi e, .ref b, .ref f]), (c, ca D 5 cap), (l, ca D 6 len), (t, ca D 30 lst), (n, ca D 12 nw), (h, ca D 60 hi), (b, ca D 1701 be12), (f, ca D 6 fo)]
  refine g_istore_n O dX6_challenges_5 6 [(0, .ref o), (1, vi r2)] rfl (by decide) rfl ?_
  refine g_iconst O dX6_challenges_6 7 rfl ?_
  refine g_istore_n O dX6_challenges_7 8 [(0, .ref o), (1, vi r2), (2, vi 0)] rfl (by decide) rfl ?_
  refine g_iconst O dX6_challenges_8 9 rfl ?_
  refine g_istore_n O dX6_challenges_9 10 [(0, .ref o), (1, vi r2), (2, vi 0), (3, vi 0)] rfl (by decide) rfl ?_
  have lp10 : ∀ (nn : Nat) (i : Int) (L : Int) (f1 : Int → Int), (0 ≤ i ∧ i ≤ N) → (0 ≤ L ∧ L < 243) → (L = ld f1 i.toNat) → (GRi P cap len lst nw be12 f1 i) → (N - i < (nn : Int)) → G X D A 5 Q 0 0 10 [(0, .ref o), (1, vi r2), (2, vi L), (3, vi i)] [] [(o, co 6 [vi N, vi P, .ref c, .ref l, .ref t, .ref n, .ref h, vi e, .ref b, .ref f]), (c, ca D 5 cap), (l, ca D 6 len), (t, ca D 30 lst), (n, ca D 12 nw), (h, ca D 60 hi), (b, ca D 1701 be12), (f, ca D 6 f1)] := by
    intro nn
    induction nn with
    | zero =>
      intro i L f1 h1 hL hLd hG hm10
      exact absurd hm10 (by omega)
    | succ nn ih10 =>
      intro i L f1 h1 hL hLd hG hm10
      refine g_iload_n O dX6_challenges_10 11 3 rfl rfl ?_
      refine g_aload_n O dX6_challenges_11 12 0 rfl rfl ?_
      refine g_get O dX6_challenges_12 15 rfl fX6_challenges_7 0 rfl rfl ?_
      refine g_icmp_ge O dX6_challenges_15 18 116 rfl rfl (by omega) (fun h15 => ?_) (fun h15 => ?_)
      · skip
        refine g_iload_n O dX6_challenges_116 117 1 rfl rfl ?_
        exact g_iret O hQ dX6_challenges_117 (r2, be12, f1) rfl rfl (⟨hm1, hm2, by rw [show N = i by omega]; exact hG⟩) ⟨by decide, by decide⟩
      · skip
        refine g_aload_n O dX6_challenges_18 19 0 rfl rfl ?_
        refine g_get O dX6_challenges_19 22 rfl fX6_challenges_35 0 rfl rfl ?_
        refine g_iload_n O dX6_challenges_22 23 3 rfl rfl ?_
        refine g_iconst O dX6_challenges_23 24 rfl ?_
        refine g_iast O dX6_challenges_24 25 rfl 7 rfl (by decide) (by omega) [(o, co 6 [vi N, vi P, .ref c, .ref l, .ref t, .ref n, .ref h, vi e, .ref b, .ref f]), (c, ca D 5 cap), (l, ca D 6 len), (t, ca D 30 lst), (n, ca D 12 nw), (h, ca D 60 hi), (b, ca D 1701 be12), (f, ca D 6 (up f1 i (-1)))] rfl ?_
        refine g_aload_n O dX6_challenges_25 26 0 rfl rfl ?_
        refine g_get O dX6_challenges_26 29 rfl fX6_challenges_13 0 rfl rfl ?_
        refine g_iconst O dX6_challenges_29 30 rfl ?_
        refine g_isub O dX6_challenges_30 31 rfl ?_
        refine g_istore O dX6_challenges_31 33 [(0, .ref o), (1, vi r2), (2, vi L), (3, vi i), (4, vi (P - 1))] rfl (by decide) rfl ?_
        have lp33 : ∀ (nn : Nat) (p : Int) (f2 : Int → Int), (-1 ≤ p ∧ p < P) → (∀ k, ¬ k = i → f2 k = f1 k) → (-1 ≤ f2 i ∧ f2 i < P ∧ (0 ≤ f2 i → p < f2 i ∧ gv cap len lst nw be12 0 i L (f2 i) = be12 (243 * i + L))) → (∀ q, p < q → 0 ≤ q → q < P → (f2 i = -1 ∨ q < f2 i) → gv cap len lst nw be12 0 i L q ≠ be12 (243 * i + L)) → (p + 1 < (nn : Int)) → G X D A 5 Q 0 0 33 [(0, .ref o), (1, vi r2), (2, vi L), (3, vi i), (4, vi p)] [] [(o, co 6 [vi N, vi P, .ref c, .ref l, .ref t, .ref n, .ref h, vi e, .ref b, .ref f]), (c, ca D 5 cap), (l, ca D 6 len), (t, ca D 30 lst), (n, ca D 12 nw), (h, ca D 60 hi), (b, ca D 1701 be12), (f, ca D 6 f2)] := by
          intro nn
          induction nn with
          | zero =>
            intro p f2 hp hf1 hf2 hf3 hm33
            exact absurd hm33 (by omega)
          | succ nn ih33 =>
            intro p f2 hp hf1 hf2 hf3 hm33
            refine g_iload O dX6_challenges_33 35 4 rfl rfl ?_
            refine g_if_lt O dX6_challenges_35 38 85 rfl rfl (by omega) (fun h35 => ?_) (fun h35 => ?_)
            · skip
              have hga : GRa P cap len lst nw be12 i L (f2 i) := ⟨⟨hf2.1, hf2.2.1⟩, fun c => (hf2.2.2 c).2, fun q q1 q2 q3 => hf3 q (by omega) q1 q2 q3⟩
              have hgl : ld f2 i.toNat = ld f1 i.toNat := ld_congr _ (fun b hb => hf1 b (by omega))
              refine g_iload_n O dX6_challenges_85 86 2 rfl rfl ?_
              refine g_aload_n O dX6_challenges_86 87 0 rfl rfl ?_
              refine g_get O dX6_challenges_87 90 rfl fX6_challenges_35 0 rfl rfl ?_
              refine g_iload_n O dX6_challenges_90 91 3 rfl rfl ?_
              refine g_iald O dX6_challenges_91 92 rfl 7 rfl (by decide) (by omega) ?_
              refine g_if_ge O dX6_challenges_92 95 99 rfl rfl (by omega) (fun h92 => ?_) (fun h92 => ?_)
              · skip
                have hgt := GR_tg hW hm1 (a := i) (L := L) (by omega) (by omega) (by omega) (by omega) hga h92
                have hp3 := pw3_pos (f2 i)
                refine g_aload_n O dX6_challenges_99 100 0 rfl rfl ?_
                refine g_get O dX6_challenges_100 103 rfl fX6_challenges_35 0 rfl rfl ?_
                refine g_iload_n O dX6_challenges_103 104 3 rfl rfl ?_
                refine g_iald O dX6_challenges_104 105 rfl 7 rfl (by decide) (by omega) ?_
                refine g_callS (As := [vi (f2 i)]) (rest := [vi L]) (na := 1) O (k_X6_power D (f2 i) (by omega)) dX6_challenges_105 gX6_challenges_X6_power rfl ⟨rfl, rfl⟩ (by decide +kernel) rfl (by decide) (by decide) rfl (Nat.le_of_ble_eq_true rfl) [] (by decide) rfl (fun _ => rfl) (fun _ => [(o, co 6 [vi N, vi P, .ref c, .ref l, .ref t, .ref n, .ref h, vi e, .ref b, .ref f]), (c, ca D 5 cap), (l, ca D 6 len), (t, ca D 30 lst), (n, ca D 12 nw), (h, ca D 60 hi), (b, ca D 1701 be12), (f, ca D 6 f2)]) (fun _ => rfl) 108 rfl (fun _ _ => ?_)
                show G X D A 5 Q 0 0 108 [(0, .ref o), (1, vi r2), (2, vi L), (3, vi i), (4, vi p)] [vi (pw3 (f2 i)), vi L] [(o, co 6 [vi N, vi P, .ref c, .ref l, .ref t, .ref n, .ref h, vi e, .ref b, .ref f]), (c, ca D 5 cap), (l, ca D 6 len), (t, ca D 30 lst), (n, ca D 12 nw), (h, ca D 60 hi), (b, ca D 1701 be12), (f, ca D 6 f2)]
                refine g_iadd O dX6_challenges_108 109 rfl ?_
                refine g_istore_n O dX6_challenges_109 110 [(0, .ref o), (1, vi r2), (2, vi (L + (pw3 (f2 i)))), (3, vi i), (4, vi p)] rfl (by decide) rfl ?_
                refine g_iinc O dX6_challenges_110 113 3 [(0, .ref o), (1, vi r2), (2, vi (L + (pw3 (f2 i)))), (3, vi (i + 1)), (4, vi p)] rfl (by decide) rfl rfl ?_
                refine g_goto O dX6_challenges_113 10 rfl ?_
                refine g_loc (L' := [(0, .ref o), (1, vi r2), (2, vi (L + (pw3 (f2 i)))), (3, vi (i + 1))]) [0, 1, 2, 3] rfl ?_
                exact ih10 (i + 1) (L + (pw3 (f2 i))) f2 (by omega) (by omega) (by rw [ld_i (by omega), hgl, ← hLd]; unfold tgq; first | (rw [if_pos (by omega)]; omega) | (rw [if_neg (by omega)])) (GRi_s (by omega) hG (fun k hk => hf1 k (by omega)) (by rw [← hLd]; exact hga)) (by omega)
              · skip
                refine g_iconst O dX6_challenges_95 96 rfl ?_
                refine g_goto O dX6_challenges_96 108 rfl ?_
                refine g_iadd O dX6_challenges_108 109 rfl ?_
                refine g_istore_n O dX6_challenges_109 110 [(0, .ref o), (1, vi r2), (2, vi (L + 0)), (3, vi i), (4, vi p)] rfl (by decide) rfl ?_
                refine g_iinc O dX6_challenges_110 113 3 [(0, .ref o), (1, vi r2), (2, vi (L + 0)), (3, vi (i + 1)), (4, vi p)] rfl (by decide) rfl rfl ?_
                refine g_goto O dX6_challenges_113 10 rfl ?_
                refine g_loc (L' := [(0, .ref o), (1, vi r2), (2, vi (L + 0)), (3, vi (i + 1))]) [0, 1, 2, 3] rfl ?_
                exact ih10 (i + 1) (L + 0) f2 (by omega) (by omega) (by rw [ld_i (by omega), hgl, ← hLd]; unfold tgq; first | (rw [if_pos (by omega)]; omega) | (rw [if_neg (by omega)])) (GRi_s (by omega) hG (fun k hk => hf1 k (by omega)) (by rw [← hLd]; exact hga)) (by omega)
            · skip
              have hgb := gv_bd hW (cap := cap) (len := len) (lst := lst) (nw := nw) (be := be12) (s := 0) (a := i) (L := L) (q := p) (lo := -99) (hi := N - (i + 1)) (by omega) (by omega) (by omega) (by omega) (by omega) (fun M m0 m1 => MG_hi hm1 (by omega) (by omega) m0 m1)
              have hbb := MG_hi hm1 (a := i) (M := L) (by omega) (by omega) (by omega) (by omega)
              refine g_aload_n O dX6_challenges_38 39 0 rfl rfl ?_
              refine g_get O dX6_challenges_39 42 rfl fX6_challenges_35 0 rfl rfl ?_
              refine g_iload_n O dX6_challenges_42 43 3 rfl rfl ?_
              refine g_aload_n O dX6_challenges_43 44 0 rfl rfl ?_
              refine g_iload_n O dX6_challenges_44 45 3 rfl rfl ?_
              refine g_iload_n O dX6_challenges_45 46 2 rfl rfl ?_
              refine g_iload O dX6_challenges_46 48 4 rfl rfl ?_
              refine g_iconst O dX6_challenges_48 49 rfl ?_
              refine g_callV (As := [vi i, vi L, vi p, vi 0]) (rest := [vi i, .ref f]) (na := 4) O (k_X6_gives D o c l t n h b f N P cap len lst nw hi e be12 f2 i L p 0 hW hnw (by omega) (by omega) (by omega) (by omega)) dX6_challenges_49 gX6_challenges_X6_gives rfl ⟨rfl, rfl⟩ (by decide +kernel) rfl (by decide) (by decide) rfl (Nat.le_of_ble_eq_true rfl) (q0 := 0) (ci := 6) rfl rfl [0, 1, 2, 3, 4, 5, 6, 7] (by decide) rfl (fun _ => rfl) (fun _ => [(o, co 6 [vi N, vi P, .ref c, .ref l, .ref t, .ref n, .ref h, vi e, .ref b, .ref f]), (c, ca D 5 cap), (l, ca D 6 len), (t, ca D 30 lst), (n, ca D 12 nw), (h, ca D 60 hi), (b, ca D 1701 be12), (f, ca D 6 f2)]) (fun _ => rfl) 52 rfl (fun _ _ => ?_)
              show G X D A 5 Q 0 0 52 [(0, .ref o), (1, vi r2), (2, vi L), (3, vi i), (4, vi p)] [vi (gv cap len lst nw be12 0 i L p), vi i, .ref f] [(o, co 6 [vi N, vi P, .ref c, .ref l, .ref t, .ref n, .ref h, vi e, .ref b, .ref f]), (c, ca D 5 cap), (l, ca D 6 len), (t, ca D 30 lst), (n, ca D 12 nw), (h, ca D 60 hi), (b, ca D 1701 be12), (f, ca D 6 f2)]
              refine g_aload_n O dX6_challenges_52 53 0 rfl rfl ?_
              refine g_get O dX6_challenges_53 56 rfl fX6_challenges_32 0 rfl rfl ?_
              refine g_sipush O dX6_challenges_56 59 rfl (by decide) ?_
              refine g_iload_n O dX6_challenges_59 60 3 rfl rfl ?_
              refine g_imul O dX6_challenges_60 61 rfl ?_
              refine g_iload_n O dX6_challenges_61 62 2 rfl rfl ?_
              refine g_iadd O dX6_challenges_62 63 rfl ?_
              refine g_iald O dX6_challenges_63 64 rfl 6 rfl (by decide) (by omega) ?_
              refine g_icmp_ne O dX6_challenges_64 67 72 rfl rfl (by omega) (fun h64 => ?_) (fun h64 => ?_)
              · skip
                refine g_aload_n O dX6_challenges_72 73 0 rfl rfl ?_
                refine g_get O dX6_challenges_73 76 rfl fX6_challenges_35 0 rfl rfl ?_
                refine g_iload_n O dX6_challenges_76 77 3 rfl rfl ?_
                refine g_iald O dX6_challenges_77 78 rfl 7 rfl (by decide) (by omega) ?_
                refine g_iast O dX6_challenges_78 79 rfl 7 rfl (by decide) (by omega) [(o, co 6 [vi N, vi P, .ref c, .ref l, .ref t, .ref n, .ref h, vi e, .ref b, .ref f]), (c, ca D 5 cap), (l, ca D 6 len), (t, ca D 30 lst), (n, ca D 12 nw), (h, ca D 60 hi), (b, ca D 1701 be12), (f, ca D 6 (up f2 i (f2 i)))] rfl ?_
                refine g_iinc O dX6_challenges_79 82 4 [(0, .ref o), (1, vi r2), (2, vi L), (3, vi i), (4, vi (p + (-1)))] rfl (by decide) rfl rfl ?_
                refine g_goto O dX6_challenges_82 33 rfl ?_
                exact ih33 (p + (-1)) (up f2 i (f2 i)) (by omega) (fun k hk => by rw [up_n hk]; exact hf1 k hk) (by rw [up_s]; first | exact ⟨by omega, by omega, fun _ => ⟨by omega, h64⟩⟩ | exact ⟨by omega, by omega, fun c => ⟨by have := (hf2.2.2 c).1; omega, (hf2.2.2 c).2⟩⟩) (fun q q1 q2 q3 q4 => by rw [up_s] at q4; first | (exact absurd q4 (by omega)) | (rcases (show p < q ∨ q = p by omega) with c | c; exact hf3 q c q2 q3 q4; rw [c]; exact h64)) (by omega)
              · skip
                refine g_iload O dX6_challenges_67 69 4 rfl rfl ?_
                refine g_goto O dX6_challenges_69 78 rfl ?_
                refine g_iast O dX6_challenges_78 79 rfl 7 rfl (by decide) (by omega) [(o, co 6 [vi N, vi P, .ref c, .ref l, .ref t, .ref n, .ref h, vi e, .ref b, .ref f]), (c, ca D 5 cap), (l, ca D 6 len), (t, ca D 30 lst), (n, ca D 12 nw), (h, ca D 60 hi), (b, ca D 1701 be12), (f, ca D 6 (up f2 i p))] rfl ?_
                refine g_iinc O dX6_challenges_79 82 4 [(0, .ref o), (1, vi r2), (2, vi L), (3, vi i), (4, vi (p + (-1)))] rfl (by decide) rfl rfl ?_
                refine g_goto O dX6_challenges_82 33 rfl ?_
                exact ih33 (p + (-1)) (up f2 i p) (by omega) (fun k hk => by rw [up_n hk]; exact hf1 k hk) (by rw [up_s]; first | exact ⟨by omega, by omega, fun _ => ⟨by omega, h64⟩⟩ | exact ⟨by omega, by omega, fun c => ⟨by have := (hf2.2.2 c).1; omega, (hf2.2.2 c).2⟩⟩) (fun q q1 q2 q3 q4 => by rw [up_s] at q4; first | (exact absurd q4 (by omega)) | (rcases (show p < q ∨ q = p by omega) with c | c; exact hf3 q c q2 q3 q4; rw [c]; exact h64)) (by omega)
        exact lp33 1000 (P - 1) (up f1 i (-1)) (by omega) (fun k hk => up_n hk) (by rw [up_s]; omega) (fun q q1 q2 q3 => absurd q1 (by omega)) (by omega)
  exact lp10 1000 0 0 fo (by omega) (by omega) rfl (fun a a0 a1 => absurd a1 (by omega)) (by omega)
theorem sX6_takes_6 : ∀ w ∈ wsX60, w ∈ wsX6_takes := by decide +kernel
theorem fX6_takes_26 : FK RX6 wsX6_takes 26 6 5 := ⟨RX6, TX6, 10, rfl, sX6_takes_6, by decide, List.mem_of_getElem? (i := 2) rfl⟩
theorem fX6_takes_35 : FK RX6 wsX6_takes 35 6 9 := ⟨RX6, TX6, 10, rfl, sX6_takes_6, by decide, List.mem_of_getElem? (i := 3) rfl⟩
theorem fX6_takes_7 : FK RX6 wsX6_takes 7 6 0 := ⟨RX6, TX6, 10, rfl, sX6_takes_6, by decide, List.mem_of_getElem? (i := 1) rfl⟩
set_option maxHeartbeats 4000000 in
set_option maxRecDepth 100000 in
theorem k_X6_takes (D : DD) (o c l t n h b f : Nat) (N P : Int) (cap len lst nw hi : Int → Int) (e : Int) (be fo : Int → Int) (hW : WI N P cap len lst) (he : 0 ≤ e ∧ e ≤ 5) : Con (S := Unit) D yX6_takes wsX6_takes ({ frames := 1, cells := 0, slots := 0, locals := 21 }) 0 0 [.ref o] [(o, co 6 [vi N, vi P, .ref c, .ref l, .ref t, .ref n, .ref h, vi e, .ref b, .ref f]), (c, ca D 5 cap), (l, ca D 6 len), (t, ca D 30 lst), (n, ca D 12 nw), (h, ca D 60 hi), (b, ca D 1701 be), (f, ca D 6 fo)] (fun u => none) (fun u => True) (fun u => [(o, co 6 [vi N, vi P, .ref c, .ref l, .ref t, .ref n, .ref h, vi (hpc e), .ref b, .ref f]), (c, ca D 5 cap), (l, ca D 6 len), (t, ca D 30 lst), (n, ca D 12 (tk N fo nw)), (h, ca D 60 (edh e nw hi)), (b, ca D 1701 be), (f, ca D 6 fo)]) := by
  refine Con.of (cc := cX6_takes) (nL := 2) (ret := none) rfl (by decide +kernel) (Nat.le_of_ble_eq_true rfl) ?_
  intro X A Q O hQ hin
  show G X D A 2 Q 0 0 0 [(0, .ref o)] [] [(o, co 6 [vi N, vi P, .ref c, .ref l, .ref t, .ref n, .ref h, vi e, .ref b, .ref f]), (c, ca D 5 cap), (l, ca D 6 len), (t, ca D 30 lst), (n, ca D 12 nw), (h, ca D 60 hi), (b, ca D 1701 be), (f, ca D 6 fo)]
  obtain ⟨hN, hcap, hlen, hlst, hdis⟩ := id hW
  refine g_aload_n O dX6_takes_0 1 0 rfl rfl ?_
  refine g_callV (As := []) (rest := []) (na := 0) O (k_X6_edit D o c l t n h b f N P cap len lst nw hi e be fo (by omega)) dX6_takes_1 gX6_takes_X6_edit rfl ⟨rfl, rfl⟩ (by decide +kernel) rfl (by decide) (by decide) rfl (Nat.le_of_ble_eq_true rfl) (q0 := 0) (ci := 6) rfl rfl [0, 1, 2, 3, 4, 5, 6, 7] (by decide) rfl (fun _ => rfl) (fun _ => [(o, co 6 [vi N, vi P, .ref c, .ref l, .ref t, .ref n, .ref h, vi (hpc e), .ref b, .ref f]), (c, ca D 5 cap), (l, ca D 6 len), (t, ca D 30 lst), (n, ca D 12 nw), (h, ca D 60 (edh e nw hi)), (b, ca D 1701 be), (f, ca D 6 fo)]) (fun _ => rfl) 4 rfl (fun _ _ => ?_)
  show G X D A 2 Q 0 0 4 [(0, .ref o)] [] [(o, co 6 [vi N, vi P, .ref c, .ref l, .ref t, .ref n, .ref h, vi (hpc e), .ref b, .ref f]), (c, ca D 5 cap), (l, ca D 6 len), (t, ca D 30 lst), (n, ca D 12 nw), (h, ca D 60 (edh e nw hi)), (b, ca D 1701 be), (f, ca D 6 fo)]
  refine g_iconst O dX6_takes_4 5 rfl ?_
  refine g_istore_n O dX6_takes_5 6 [(0, .ref o), (1, vi 0)] rfl (by decide) rfl ?_
  have lp6 : ∀ (nn : Nat) (i : Int) (g : Int → Int), (0 ≤ i ∧ i ≤ N) → (∀ kk, 0 ≤ kk → kk < i → g kk = fo kk) → (∀ kk, i ≤ kk → g kk = nw kk) → (N - i < (nn : Int)) → G X D A 2 Q 0 0 6 [(0, .ref o), (1, vi i)] [] [(o, co 6 [vi N, vi P, .ref c, .ref l, .ref t, .ref n, .ref h, vi (hpc e), .ref b, .ref f]), (c, ca D 5 cap), (l, ca D 6 len), (t, ca D 30 lst), (n, ca D 12 g), (h, ca D 60 (edh e nw hi)), (b, ca D 1701 be), (f, ca D 6 fo)] := by
    intro nn
    induction nn with
    | zero =>
      intro i g h1 h2 h3 hm6
      exact absurd hm6 (by omega)
    | succ nn ih6 =>
      intro i g h1 h2 h3 hm6
      refine g_iload_n O dX6_takes_6 7 1 rfl rfl ?_
      refine g_aload_n O dX6_takes_7 8 0 rfl rfl ?_
      refine g_get O dX6_takes_8 11 rfl fX6_takes_7 0 rfl rfl ?_
      refine g_icmp_ge O dX6_takes_11 14 32 rfl rfl (by omega) (fun h11 => ?_) (fun h11 => ?_)
      · skip
        refine g_arr 4 (tk N fo nw) rfl (fun kk q1 q2 => by unfold tk; split; exact h2 kk q1 (by omega); exact h3 kk (by omega)) [(o, co 6 [vi N, vi P, .ref c, .ref l, .ref t, .ref n, .ref h, vi (hpc e), .ref b, .ref f]), (c, ca D 5 cap), (l, ca D 6 len), (t, ca D 30 lst), (n, ca D 12 (tk N fo nw)), (h, ca D 60 (edh e nw hi)), (b, ca D 1701 be), (f, ca D 6 fo)] rfl ?_
        exact g_vret O hQ dX6_takes_32 () rfl rfl trivial ⟨by decide, by decide⟩
      · skip
        refine g_aload_n O dX6_takes_14 15 0 rfl rfl ?_
        refine g_get O dX6_takes_15 18 rfl fX6_takes_26 0 rfl rfl ?_
        refine g_iload_n O dX6_takes_18 19 1 rfl rfl ?_
        refine g_aload_n O dX6_takes_19 20 0 rfl rfl ?_
        refine g_get O dX6_takes_20 23 rfl fX6_takes_35 0 rfl rfl ?_
        refine g_iload_n O dX6_takes_23 24 1 rfl rfl ?_
        refine g_iald O dX6_takes_24 25 rfl 7 rfl (by decide) (by omega) ?_
        refine g_iast O dX6_takes_25 26 rfl 4 rfl (by decide) (by omega) [(o, co 6 [vi N, vi P, .ref c, .ref l, .ref t, .ref n, .ref h, vi (hpc e), .ref b, .ref f]), (c, ca D 5 cap), (l, ca D 6 len), (t, ca D 30 lst), (n, ca D 12 (up g i (fo i))), (h, ca D 60 (edh e nw hi)), (b, ca D 1701 be), (f, ca D 6 fo)] rfl ?_
        refine g_iinc O dX6_takes_26 29 1 [(0, .ref o), (1, vi (i + 1))] rfl (by decide) rfl rfl ?_
        refine g_goto O dX6_takes_29 6 rfl ?_
        exact ih6 (i + 1) (up g i (fo i)) (by omega) (up_inv2 h2) (fun kk q => by rw [up_n (by omega)]; exact h3 kk (by omega)) (by omega)
  exact lp6 1000 0 nw (by omega) (fun kk q1 q2 => absurd q2 (by omega)) (fun kk _ => rfl) (by omega)
theorem sX6_challengerPost_6 : ∀ w ∈ wsX60, w ∈ wsX6_challengerPost := by decide +kernel
theorem fX6_challengerPost_35 : FK RX6 wsX6_challengerPost 35 6 9 := ⟨RX6, TX6, 10, rfl, sX6_challengerPost_6, by decide, List.mem_of_getElem? (i := 1) rfl⟩
set_option maxHeartbeats 4000000 in
set_option maxRecDepth 100000 in
theorem k_X6_challengerPost (D : DD) (o c l t n h b f : Nat) (N P : Int) (cap len lst nw hi : Int → Int) (e : Int) (be fo : Int → Int) (a : Int) (hW : WI N P cap len lst) (hnw : NW nw) (ha : -2147483648 ≤ a ∧ a < 2147483648) : Con (S := Int × (Int → Int) × (Int → Int)) D yX6_challengerPost wsX6_challengerPost ({ frames := 5, cells := 0, slots := 0, locals := 123 }) 0 0 [.ref o, vi a] [(o, co 6 [vi N, vi P, .ref c, .ref l, .ref t, .ref n, .ref h, vi e, .ref b, .ref f]), (c, ca D 5 cap), (l, ca D 6 len), (t, ca D 30 lst), (n, ca D 12 nw), (h, ca D 60 hi), (b, ca D 1701 be), (f, ca D 6 fo)] (fun u => some (vi u.1)) (fun u => (¬ (0 ≤ a ∧ a < N) ∧ u.1 = -101) ∨ ((0 ≤ a ∧ a < N) ∧ MG N P cap len lst nw 0 u.2.1 ∧ True ∧ GRi P cap len lst nw u.2.1 u.2.2 N ∧ u.1 = u.2.2 a)) (fun u => [(o, co 6 [vi N, vi P, .ref c, .ref l, .ref t, .ref n, .ref h, vi e, .ref b, .ref f]), (c, ca D 5 cap), (l, ca D 6 len), (t, ca D 30 lst), (n, ca D 12 nw), (h, ca D 60 hi), (b, ca D 1701 u.2.1), (f, ca D 6 u.2.2)]) := by
  refine Con.of (cc := cX6_challengerPost) (nL := 2) (ret := (some .int)) rfl (by decide +kernel) (Nat.le_of_ble_eq_true rfl) ?_
  intro X A Q O hQ hin
  show G X D A 2 Q 0 0 0 [(0, .ref o), (1, vi a)] [] [(o, co 6 [vi N, vi P, .ref c, .ref l, .ref t, .ref n, .ref h, vi e, .ref b, .ref f]), (c, ca D 5 cap), (l, ca D 6 len), (t, ca D 30 lst), (n, ca D 12 nw), (h, ca D 60 hi), (b, ca D 1701 be), (f, ca D 6 fo)]
  obtain ⟨hN, hcap, hlen, hlst, hdis⟩ := id hW
  refine g_aload_n O dX6_challengerPost_0 1 0 rfl rfl ?_
  refine g_iload_n O dX6_challengerPost_1 2 1 rfl rfl ?_
  refine g_callV (As := [vi a]) (rest := []) (na := 1) O (k_X6_isApplicant D o c l t n h b f N P cap len lst nw hi e be fo a hW (by omega)) dX6_challengerPost_2 gX6_challengerPost_X6_isApplicant rfl ⟨rfl, rfl⟩ (by decide +kernel) rfl (by decide) (by decide) rfl (Nat.le_of_ble_eq_true rfl) (q0 := 0) (ci := 6) rfl rfl [0, 1, 2, 3, 4, 5, 6, 7] (by decide) rfl (fun _ => rfl) (fun u => [(o, co 6 [vi N, vi P, .ref c, .ref l, .ref t, .ref n, .ref h, vi e, .ref b, .ref f]), (c, ca D 5 cap), (l, ca D 6 len), (t, ca D 30 lst), (n, ca D 12 nw), (h, ca D 60 hi), (b, ca D 1701 be), (f, ca D 6 fo)]) (fun _ => rfl) 5 rfl (fun u2 hu2 => ?_)
  obtain ⟨bz2, rfl⟩ : ∃ z, z = u2 := ⟨_, rfl⟩
  rcases hu2 with ⟨rfl, hb2⟩ | ⟨rfl, hb2⟩
  · skip
    have hb2 : 0 ≤ a ∧ a < N := hb2
    show G X D A 2 Q 0 0 5 [(0, .ref o), (1, vi a)] [vi 1] [(o, co 6 [vi N, vi P, .ref c, .ref l, .ref t, .ref n, .ref h, vi e, .ref b, .ref f]), (c, ca D 5 cap), (l, ca D 6 len), (t, ca D 30 lst), (n, ca D 12 nw), (h, ca D 60 hi), (b, ca D 1701 be), (f, ca D 6 fo)]
    refine g_if_ne O dX6_challengerPost_5 8 11 rfl rfl (by omega) (fun _ => ?_) (fun h => absurd h (by decide))
    refine g_aload_n O dX6_challengerPost_11 12 0 rfl rfl ?_
    refine g_callV (As := []) (rest := []) (na := 0) O (k_X6_challenges D o c l t n h b f N P cap len lst nw hi e be fo hW hnw) dX6_challengerPost_12 gX6_challengerPost_X6_challenges rfl ⟨rfl, rfl⟩ (by decide +kernel) rfl (by decide) (by decide) rfl (Nat.le_of_ble_eq_true rfl) (q0 := 0) (ci := 6) rfl rfl [0, 1, 2, 3, 4, 5, 6, 7] (by decide) rfl (fun _ => rfl) (fun u => [(o, co 6 [vi N, vi P, .ref c, .ref l, .ref t, .ref n, .ref h, vi e, .ref b, .ref f]), (c, ca D 5 cap), (l, ca D 6 len), (t, ca D 30 lst), (n, ca D 12 nw), (h, ca D 60 hi), (b, ca D 1701 u.2.1), (f, ca D 6 u.2.2)]) (fun _ => rfl) 15 rfl (fun u12 hu12 => ?_)
    obtain ⟨r12, be112, fo112⟩ := u12
    have hu12 : MG N P cap len lst nw 0 be112 ∧ r12 = be112 0 ∧ GRi P cap len lst nw be112 fo112 N := hu12
    obtain ⟨hm1, hm2, hm3⟩ := hu12
    show G X D A 2 Q 0 0 15 [(0, .ref o), (1, vi a)] [vi r12] [(o, co 6 [vi N, vi P, .ref c, .ref l, .ref t, .ref n, .ref h, vi e, .ref b, .ref f]), (c, ca D 5 cap), (l, ca D 6 len), (t, ca D 30 lst), (n, ca D 12 nw), (h, ca D 60 hi), (b, ca D 1701 be112), (f, ca D 6 fo112)]
    refine g_pop O dX6_challengerPost_15 16 rfl rfl ?_
    refine g_aload_n O dX6_challengerPost_16 17 0 rfl rfl ?_
    refine g_get O dX6_challengerPost_17 20 rfl fX6_challengerPost_35 0 rfl rfl ?_
    refine g_iload_n O dX6_challengerPost_20 21 1 rfl rfl ?_
    refine g_iald O dX6_challengerPost_21 22 rfl 7 rfl (by decide) (by omega) ?_
    exact g_iret O hQ dX6_challengerPost_22 (fo112 a, be112, fo112) rfl rfl (Or.inr ⟨hb2, hm1, trivial, hm3, rfl⟩) ⟨by decide, by decide⟩
  · skip
    have hb2 : ¬ (0 ≤ a ∧ a < N) := hb2
    show G X D A 2 Q 0 0 5 [(0, .ref o), (1, vi a)] [vi 0] [(o, co 6 [vi N, vi P, .ref c, .ref l, .ref t, .ref n, .ref h, vi e, .ref b, .ref f]), (c, ca D 5 cap), (l, ca D 6 len), (t, ca D 30 lst), (n, ca D 12 nw), (h, ca D 60 hi), (b, ca D 1701 be), (f, ca D 6 fo)]
    refine g_if_ne O dX6_challengerPost_5 8 11 rfl rfl (by omega) (fun h => absurd h (by decide)) (fun _ => ?_)
    refine g_bipush O dX6_challengerPost_8 10 rfl (by decide) ?_
    exact g_iret O hQ dX6_challengerPost_10 (-101, be, fo) rfl rfl (Or.inl ⟨hb2, rfl⟩) ⟨by decide, by decide⟩
set_option maxHeartbeats 4000000 in
set_option maxRecDepth 100000 in
theorem k_X6_adoptChallenger (D : DD) (o c l t n h b f : Nat) (N P : Int) (cap len lst nw hi : Int → Int) (e : Int) (be fo : Int → Int) (hW : WI N P cap len lst) (hnw : NW nw) (he : 0 ≤ e ∧ e ≤ 5) : Con (S := Int × (Int → Int) × (Int → Int)) D yX6_adoptChallenger wsX6_adoptChallenger ({ frames := 5, cells := 0, slots := 0, locals := 123 }) 0 0 [.ref o] [(o, co 6 [vi N, vi P, .ref c, .ref l, .ref t, .ref n, .ref h, vi e, .ref b, .ref f]), (c, ca D 5 cap), (l, ca D 6 len), (t, ca D 30 lst), (n, ca D 12 nw), (h, ca D 60 hi), (b, ca D 1701 be), (f, ca D 6 fo)] (fun u => some (vi u.1)) (fun u => MG N P cap len lst nw 0 u.2.1 ∧ u.1 = u.2.1 0 ∧ GRi P cap len lst nw u.2.1 u.2.2 N) (fun u => [(o, co 6 [vi N, vi P, .ref c, .ref l, .ref t, .ref n, .ref h, vi (hpc e), .ref b, .ref f]), (c, ca D 5 cap), (l, ca D 6 len), (t, ca D 30 lst), (n, ca D 12 (tk N u.2.2 nw)), (h, ca D 60 (edh e nw hi)), (b, ca D 1701 u.2.1), (f, ca D 6 u.2.2)]) := by
  refine Con.of (cc := cX6_adoptChallenger) (nL := 2) (ret := (some .int)) rfl (by decide +kernel) (Nat.le_of_ble_eq_true rfl) ?_
  intro X A Q O hQ hin
  show G X D A 2 Q 0 0 0 [(0, .ref o)] [] [(o, co 6 [vi N, vi P, .ref c, .ref l, .ref t, .ref n, .ref h, vi e, .ref b, .ref f]), (c, ca D 5 cap), (l, ca D 6 len), (t, ca D 30 lst), (n, ca D 12 nw), (h, ca D 60 hi), (b, ca D 1701 be), (f, ca D 6 fo)]
  refine g_aload_n O dX6_adoptChallenger_0 1 0 rfl rfl ?_
  refine g_callV (As := []) (rest := []) (na := 0) O (k_X6_challenges D o c l t n h b f N P cap len lst nw hi e be fo hW hnw) dX6_adoptChallenger_1 gX6_adoptChallenger_X6_challenges rfl ⟨rfl, rfl⟩ (by decide +kernel) rfl (by decide) (by decide) rfl (Nat.le_of_ble_eq_true rfl) (q0 := 0) (ci := 6) rfl rfl [0, 1, 2, 3, 4, 5, 6, 7] (by decide) rfl (fun _ => rfl) (fun u => [(o, co 6 [vi N, vi P, .ref c, .ref l, .ref t, .ref n, .ref h, vi e, .ref b, .ref f]), (c, ca D 5 cap), (l, ca D 6 len), (t, ca D 30 lst), (n, ca D 12 nw), (h, ca D 60 hi), (b, ca D 1701 u.2.1), (f, ca D 6 u.2.2)]) (fun _ => rfl) 4 rfl (fun u1 hu1 => ?_)
  obtain ⟨r1, be11, fo11⟩ := u1
  have hu1 : MG N P cap len lst nw 0 be11 ∧ r1 = be11 0 ∧ GRi P cap len lst nw be11 fo11 N := hu1
  obtain ⟨hm1, hm2, hm3⟩ := hu1
  show G X D A 2 Q 0 0 4 [(0, .ref o)] [vi r1] [(o, co 6 [vi N, vi P, .ref c, .ref l, .ref t, .ref n, .ref h, vi e, .ref b, .ref f]), (c, ca D 5 cap), (l, ca D 6 len), (t, ca D 30 lst), (n, ca D 12 nw), (h, ca D 60 hi), (b, ca D 1701 be11), (f, ca D 6 fo11)]
  refine g_istore_n O dX6_adoptChallenger_4 5 [(0, .ref o), (1, vi r1)] rfl (by decide) rfl ?_
  refine g_aload_n O dX6_adoptChallenger_5 6 0 rfl rfl ?_
  refine g_callV (As := []) (rest := []) (na := 0) O (k_X6_takes D o c l t n h b f N P cap len lst nw hi e be11 fo11 hW (by omega)) dX6_adoptChallenger_6 gX6_adoptChallenger_X6_takes rfl ⟨rfl, rfl⟩ (by decide +kernel) rfl (by decide) (by decide) rfl (Nat.le_of_ble_eq_true rfl) (q0 := 0) (ci := 6) rfl rfl [0, 1, 2, 3, 4, 5, 6, 7] (by decide) rfl (fun _ => rfl) (fun _ => [(o, co 6 [vi N, vi P, .ref c, .ref l, .ref t, .ref n, .ref h, vi (hpc e), .ref b, .ref f]), (c, ca D 5 cap), (l, ca D 6 len), (t, ca D 30 lst), (n, ca D 12 (tk N fo11 nw)), (h, ca D 60 (edh e nw hi)), (b, ca D 1701 be11), (f, ca D 6 fo11)]) (fun _ => rfl) 9 rfl (fun _ _ => ?_)
  show G X D A 2 Q 0 0 9 [(0, .ref o), (1, vi r1)] [] [(o, co 6 [vi N, vi P, .ref c, .ref l, .ref t, .ref n, .ref h, vi (hpc e), .ref b, .ref f]), (c, ca D 5 cap), (l, ca D 6 len), (t, ca D 30 lst), (n, ca D 12 (tk N fo11 nw)), (h, ca D 60 (edh e nw hi)), (b, ca D 1701 be11), (f, ca D 6 fo11)]
  refine g_iload_n O dX6_adoptChallenger_9 10 1 rfl rfl ?_
  exact g_iret O hQ dX6_adoptChallenger_10 (r1, be11, fo11) rfl rfl (⟨hm1, hm2, hm3⟩) ⟨by decide, by decide⟩
