/-- the post that a key gives an applicant -/
def pin (k a : Int) : Int := if (262143 - k % 262144) / p2 (3 * (5 - a)) % 8 = 5 then -1 else (262143 - k % 262144) / p2 (3 * (5 - a)) % 8
set_option maxHeartbeats 4000000 in
set_option maxRecDepth 100000 in
theorem k_X0_marginIn (D : DD) (k : Int) (hk : -2147483648 ≤ k ∧ k < 2147483648) : Con (S := Unit) D yX0_marginIn wsX0_marginIn ({ frames := 0, cells := 0, slots := 0, locals := 0 }) 0 0 [vi k] [] (fun u => some (vi (k / 262144))) (fun u => True) (fun u => []) := by
  refine Con.of (cc := cX0_marginIn) (nL := 1) (ret := (some .int)) rfl (by decide +kernel) (Nat.le_of_ble_eq_true rfl) ?_
  intro X A Q O hQ hin
  show G X D A 1 Q 0 0 0 [(0, vi k)] [] []
  refine g_iload_n O dX0_marginIn_0 1 0 rfl rfl ?_
  refine g_bipush O dX0_marginIn_1 3 rfl (by decide) ?_
  refine g_ishr O dX0_marginIn_3 4 rfl (by omega) ?_
  refine g_cv (y := k / 262144) (rfl) ?_
  exact g_iret O hQ dX0_marginIn_4 () rfl rfl trivial ⟨by decide, by decide⟩
set_option maxHeartbeats 4000000 in
set_option maxRecDepth 100000 in
theorem k_X0_placeShift (D : DD) (a : Int) : Con (S := Unit) D yX0_placeShift wsX0_placeShift ({ frames := 0, cells := 0, slots := 0, locals := 0 }) 0 0 [vi a] [] (fun u => some (vi (3 * (5 - a)))) (fun u => True) (fun u => []) := by
  refine Con.of (cc := cX0_placeShift) (nL := 1) (ret := (some .int)) rfl (by decide +kernel) (Nat.le_of_ble_eq_true rfl) ?_
  intro X A Q O hQ hin
  show G X D A 1 Q 0 0 0 [(0, vi a)] [] []
  refine g_iconst O dX0_placeShift_0 1 rfl ?_
  refine g_iconst O dX0_placeShift_1 2 rfl ?_
  refine g_iload_n O dX0_placeShift_2 3 0 rfl rfl ?_
  refine g_isub O dX0_placeShift_3 4 rfl ?_
  refine g_imul O dX0_placeShift_4 5 rfl ?_
  exact g_iret O hQ dX0_placeShift_5 () rfl rfl trivial ⟨by decide, by decide⟩
set_option maxHeartbeats 4000000 in
set_option maxRecDepth 100000 in
theorem k_X0_postIn (D : DD) (k a : Int) (hk : -2147483648 ≤ k ∧ k < 2147483648) (ha : 0 ≤ a ∧ a < 6) : Con (S := Unit) D yX0_postIn wsX0_postIn ({ frames := 1, cells := 0, slots := 0, locals := 20 }) 0 0 [vi k, vi a] [] (fun u => some (vi (pin k a))) (fun u => True) (fun u => []) := by
  refine Con.of (cc := cX0_postIn) (nL := 4) (ret := (some .int)) rfl (by decide +kernel) (Nat.le_of_ble_eq_true rfl) ?_
  intro X A Q O hQ hin
  show G X D A 4 Q 0 0 0 [(0, vi k), (1, vi a)] [] []
  refine g_ldc O dX0_postIn_0 2 rfl 262143 (List.mem_of_getElem? (i := 1) rfl) ?_
  refine g_iload_n O dX0_postIn_2 3 0 rfl rfl ?_
  refine g_ldc O dX0_postIn_3 5 rfl 262143 (List.mem_of_getElem? (i := 1) rfl) ?_
  refine g_iand O dX0_postIn_5 6 rfl 18 (by decide) (by decide +kernel) 262144 (by decide) ?_
  refine g_isub O dX0_postIn_6 7 rfl ?_
  refine g_istore_n O dX0_postIn_7 8 [(0, vi k), (1, vi a), (2, vi (262143 - (k % 262144)))] rfl (by decide) rfl ?_
  refine g_iload_n O dX0_postIn_8 9 2 rfl rfl ?_
  refine g_iload_n O dX0_postIn_9 10 1 rfl rfl ?_
  refine g_callS (As := [vi a]) (rest := [vi (262143 - (k % 262144))]) (na := 1) O (k_X0_placeShift D a) dX0_postIn_10 gX0_postIn_X0_placeShift rfl ⟨rfl, rfl⟩ (by decide +kernel) rfl (by decide) (by decide) rfl (Nat.le_of_ble_eq_true rfl) [] (by decide) rfl (fun _ => rfl) (fun _ => []) (fun _ => rfl) 13 rfl (fun _ _ => ?_)
  show G X D A 4 Q 0 0 13 [(0, vi k), (1, vi a), (2, vi (262143 - (k % 262144)))] [vi (3 * (5 - a)), vi (262143 - (k % 262144))] []
  refine g_ishr O dX0_postIn_13 14 rfl (by omega) ?_
  refine g_bipush O dX0_postIn_14 16 rfl (by decide) ?_
  refine g_iand O dX0_postIn_16 17 rfl 3 (by decide) (by decide +kernel) 8 (by decide) ?_
  refine g_istore_n O dX0_postIn_17 18 [(0, vi k), (1, vi a), (2, vi (262143 - (k % 262144))), (3, vi (((262143 - (k % 262144)) / p2 (3 * (5 - a))) % 8))] rfl (by decide) rfl ?_
  refine g_iload_n O dX0_postIn_18 19 3 rfl rfl ?_
  refine g_iconst O dX0_postIn_19 20 rfl ?_
  refine g_icmp_ne O dX0_postIn_20 23 27 rfl rfl (by omega) (fun h20 => ?_) (fun h20 => ?_)
  · skip
    refine g_iload_n O dX0_postIn_27 28 3 rfl rfl ?_
    exact g_iret O hQ dX0_postIn_28 () (vi_eq (by unfold pin; split <;> omega)) rfl trivial ⟨by decide, by decide⟩
  · skip
    refine g_iconst O dX0_postIn_23 24 rfl ?_
    refine g_goto O dX0_postIn_24 28 rfl ?_
    exact g_iret O hQ dX0_postIn_28 () (vi_eq (by unfold pin; split <;> omega)) rfl trivial ⟨by decide, by decide⟩
theorem sX0_raise_0 : ∀ w ∈ wsX00, w ∈ wsX0_raise := by decide +kernel
theorem fX0_raise_15 : FK RX0 wsX0_raise 15 0 1 := ⟨RX0, TX0, 2, rfl, sX0_raise_0, by decide, List.mem_of_getElem? (i := 1) rfl⟩
set_option maxHeartbeats 4000000 in
set_option maxRecDepth 100000 in
theorem k_X0_raise (D : DD) (s g b : Nat) (be : Int → Int) (f k : Int) (hf : 0 ≤ f ∧ f < 243) (hbf : -2147483648 ≤ be f ∧ be f < 2147483648) (hk : -2147483648 ≤ k ∧ k < 2147483648) : Con (S := Unit) D yX0_raise wsX0_raise ({ frames := 0, cells := 0, slots := 0, locals := 0 }) 0 0 [.ref s, vi f, vi k] [(s, co 0 [.ref g, .ref b]), (g, ca D 1215 plf), (b, ca D 243 be)] (fun u => none) (fun u => True) (fun u => [(s, co 0 [.ref g, .ref b]), (g, ca D 1215 plf), (b, ca D 243 (rs be f k))]) := by
  refine Con.of (cc := cX0_raise) (nL := 3) (ret := none) rfl (by decide +kernel) (Nat.le_of_ble_eq_true rfl) ?_
  intro X A Q O hQ hin
  show G X D A 3 Q 0 0 0 [(0, .ref s), (1, vi f), (2, vi k)] [] [(s, co 0 [.ref g, .ref b]), (g, ca D 1215 plf), (b, ca D 243 be)]
  refine g_iload_n O dX0_raise_0 1 2 rfl rfl ?_
  refine g_aload_n O dX0_raise_1 2 0 rfl rfl ?_
  refine g_get O dX0_raise_2 5 rfl fX0_raise_15 0 rfl rfl ?_
  refine g_iload_n O dX0_raise_5 6 1 rfl rfl ?_
  refine g_iald O dX0_raise_6 7 rfl 2 rfl (by decide) (by omega) ?_
  refine g_icmp_le O dX0_raise_7 10 17 rfl rfl (by omega) (fun h7 => ?_) (fun h7 => ?_)
  · skip
    refine g_arr 2 (rs be f k) rfl (fun kk _ _ => by unfold rs; first | (unfold up; split <;> split <;> omega) | (rw [if_neg (by omega)])) [(s, co 0 [.ref g, .ref b]), (g, ca D 1215 plf), (b, ca D 243 (rs be f k))] rfl ?_
    exact g_vret O hQ dX0_raise_17 () rfl rfl trivial ⟨by decide, by decide⟩
  · skip
    refine g_aload_n O dX0_raise_10 11 0 rfl rfl ?_
    refine g_get O dX0_raise_11 14 rfl fX0_raise_15 0 rfl rfl ?_
    refine g_iload_n O dX0_raise_14 15 1 rfl rfl ?_
    refine g_iload_n O dX0_raise_15 16 2 rfl rfl ?_
    refine g_iast O dX0_raise_16 17 rfl 2 rfl (by decide) (by omega) [(s, co 0 [.ref g, .ref b]), (g, ca D 1215 plf), (b, ca D 243 (up be f k))] rfl ?_
    refine g_arr 2 (rs be f k) rfl (fun kk _ _ => by unfold rs; first | (unfold up; split <;> split <;> omega) | (rw [if_neg (by omega)])) [(s, co 0 [.ref g, .ref b]), (g, ca D 1215 plf), (b, ca D 243 (rs be f k))] rfl ?_
    exact g_vret O hQ dX0_raise_17 () rfl rfl trivial ⟨by decide, by decide⟩
theorem sX0_letChoose_0 : ∀ w ∈ wsX00, w ∈ wsX0_letChoose := by decide +kernel
theorem fX0_letChoose_11 : FK RX0 wsX0_letChoose 11 0 0 := ⟨RX0, TX0, 2, rfl, sX0_letChoose_0, by decide, List.mem_of_getElem? (i := 6) rfl⟩
theorem fX0_letChoose_15 : FK RX0 wsX0_letChoose 15 0 1 := ⟨RX0, TX0, 2, rfl, sX0_letChoose_0, by decide, List.mem_of_getElem? (i := 3) rfl⟩
theorem sX0_letChoose_2 : ∀ w ∈ wsX20, w ∈ wsX0_letChoose := by decide +kernel
theorem fX0_letChoose_26 : FK RX0 wsX0_letChoose 26 2 1 := ⟨RX2, TX2, 5, rfl, sX0_letChoose_2, by decide, List.mem_of_getElem? (i := 2) rfl⟩
theorem fX0_letChoose_44 : FK RX0 wsX0_letChoose 44 2 3 := ⟨RX2, TX2, 5, rfl, sX0_letChoose_2, by decide, List.mem_of_getElem? (i := 5) rfl⟩
theorem fX0_letChoose_66 : FK RX0 wsX0_letChoose 66 2 2 := ⟨RX2, TX2, 5, rfl, sX0_letChoose_2, by decide, List.mem_of_getElem? (i := 7) rfl⟩
set_option maxHeartbeats 4000000 in
set_option maxRecDepth 100000 in
theorem k_X0_letChoose (D : DD) (o c l t : Nat) (N P : Int) (cap len lst : Int → Int) (s g b : Nat) (be : Int → Int) (a h w : Int) (hW : WI N P cap len lst) (hB : BB (pw3 P) 4000000 be) (ha : 0 ≤ a ∧ a < 6) (hh : 0 ≤ h ∧ h ≤ 5) (hw : 0 ≤ w ∧ w ≤ len a) : Con (S := (Int → Int)) D yX0_letChoose wsX0_letChoose ({ frames := 1, cells := 0, slots := 0, locals := 22 }) 0 0 [.ref s, .ref o, vi a, vi h, vi w] [(o, co 2 [vi N, vi P, .ref c, .ref l, .ref t]), (c, ca D 5 cap), (l, ca D 6 len), (t, ca D 30 lst), (s, co 0 [.ref g, .ref b]), (g, ca D 1215 plf), (b, ca D 243 be)] (fun u => none) (fun u => LI cap len lst be u (pw3 P) a h w 0 (w + 1)) (fun u => [(o, co 2 [vi N, vi P, .ref c, .ref l, .ref t]), (c, ca D 5 cap), (l, ca D 6 len), (t, ca D 30 lst), (s, co 0 [.ref g, .ref b]), (g, ca D 1215 plf), (b, ca D 243 u)]) := by
  refine Con.of (cc := cX0_letChoose) (nL := 11) (ret := none) rfl (by decide +kernel) (Nat.le_of_ble_eq_true rfl) ?_
  intro X A Q O hQ hin
  show G X D A 11 Q 0 0 0 [(0, .ref s), (1, .ref o), (2, vi a), (3, vi h), (4, vi w)] [] [(o, co 2 [vi N, vi P, .ref c, .ref l, .ref t]), (c, ca D 5 cap), (l, ca D 6 len), (t, ca D 30 lst), (s, co 0 [.ref g, .ref b]), (g, ca D 1215 plf), (b, ca D 243 be)]
  obtain ⟨hN, hcap, hlen, hlst, hdis⟩ := id hW
  have hla := hlen a (by omega) (by omega)
  have hp3 := pw3_bd (k := P) (by omega) (by omega)
  have e18 : p2 18 = 262144 := rfl
  have hs5 := pp_bd (q := 5) (a := a) (by omega) (by omega) (by omega) (by omega)
  refine g_getsT O dX0_letChoose_0 3 rfl (List.mem_of_getElem? (i := 1) rfl) ?_
  refine g_aload_n O dX0_letChoose_3 4 1 rfl rfl ?_
  refine g_get O dX0_letChoose_4 7 rfl fX0_letChoose_26 0 rfl rfl ?_
  refine g_ialdT O dX0_letChoose_7 8 rfl (by omega) ?_
  refine g_iconst O dX0_letChoose_8 9 rfl ?_
  refine g_isub O dX0_letChoose_9 10 rfl ?_
  refine g_istore O dX0_letChoose_10 12 [(0, .ref s), (1, .ref o), (2, vi a), (3, vi h), (4, vi w), (5, vi ((pw3 P) - 1))] rfl (by decide) rfl ?_
  have lp12 : ∀ (nn : Nat) (f : Int) (g1 : Int → Int), (-1 ≤ f ∧ f < pw3 P) → (LI cap len lst be g1 (pw3 P) a h w (f + 1) (w + 1)) → (f + 1 < (nn : Int)) → G X D A 11 Q 0 0 12 [(0, .ref s), (1, .ref o), (2, vi a), (3, vi h), (4, vi w), (5, vi f)] [] [(o, co 2 [vi N, vi P, .ref c, .ref l, .ref t]), (c, ca D 5 cap), (l, ca D 6 len), (t, ca D 30 lst), (s, co 0 [.ref g, .ref b]), (g, ca D 1215 plf), (b, ca D 243 g1)] := by
    intro nn
    induction nn with
    | zero =>
      intro f g1 hf hL hm12
      exact absurd hm12 (by omega)
    | succ nn ih12 =>
      intro f g1 hf hL hm12
      refine g_iload O dX0_letChoose_12 14 5 rfl rfl ?_
      refine g_if_lt O dX0_letChoose_14 17 165 rfl rfl (by omega) (fun h14 => ?_) (fun h14 => ?_)
      · skip
        exact g_vret O hQ dX0_letChoose_165 g1 rfl rfl ((by rw [show f + 1 = 0 by omega] at hL; exact hL)) ⟨by decide, by decide⟩
      · skip
        refine g_aload_n O dX0_letChoose_17 18 0 rfl rfl ?_
        refine g_get O dX0_letChoose_18 21 rfl fX0_letChoose_15 4 rfl rfl ?_
        refine g_iload O dX0_letChoose_21 23 5 rfl rfl ?_
        refine g_iald O dX0_letChoose_23 24 rfl 6 rfl (by decide) (by omega) ?_
        refine g_cv (y := be f) (hL.1 f (by omega) (by omega)) ?_
        refine g_istore O dX0_letChoose_24 26 [(0, .ref s), (1, .ref o), (2, vi a), (3, vi h), (4, vi w), (5, vi f), (6, vi (be f))] rfl (by decide) rfl ?_
        have hBf := hB f (by omega) (by omega)
        refine g_aload_n O dX0_letChoose_26 27 0 rfl rfl ?_
        refine g_get O dX0_letChoose_27 30 rfl fX0_letChoose_15 4 rfl rfl ?_
        refine g_iload O dX0_letChoose_30 32 5 rfl rfl ?_
        refine g_ldc O dX0_letChoose_32 34 rfl (-1073741824) (List.mem_of_getElem? (i := 4) rfl) ?_
        refine g_iast O dX0_letChoose_34 35 rfl 6 rfl (by decide) (by omega) [(o, co 2 [vi N, vi P, .ref c, .ref l, .ref t]), (c, ca D 5 cap), (l, ca D 6 len), (t, ca D 30 lst), (s, co 0 [.ref g, .ref b]), (g, ca D 1215 plf), (b, ca D 243 (up g1 f (-1073741824)))] rfl ?_
        refine g_iconst O dX0_letChoose_35 36 rfl ?_
        refine g_istore O dX0_letChoose_36 38 [(0, .ref s), (1, .ref o), (2, vi a), (3, vi h), (4, vi w), (5, vi f), (6, vi (be f)), (7, vi 0)] rfl (by decide) rfl ?_
        have lp38 : ∀ (nn : Nat) (j : Int) (g2 : Int → Int), (0 ≤ j ∧ j ≤ w + 1) → (LI cap len lst be g2 (pw3 P) a h w f j) → (w + 1 - j < (nn : Int)) → G X D A 11 Q 0 0 38 [(0, .ref s), (1, .ref o), (2, vi a), (3, vi h), (4, vi w), (5, vi f), (6, vi (be f)), (7, vi j)] [] [(o, co 2 [vi N, vi P, .ref c, .ref l, .ref t]), (c, ca D 5 cap), (l, ca D 6 len), (t, ca D 30 lst), (s, co 0 [.ref g, .ref b]), (g, ca D 1215 plf), (b, ca D 243 g2)] := by
          intro nn
          induction nn with
          | zero =>
            intro j g2 hj hL2 hm38
            exact absurd hm38 (by omega)
          | succ nn ih38 =>
            intro j g2 hj hL2 hm38
            refine g_iload O dX0_letChoose_38 40 7 rfl rfl ?_
            refine g_iload O dX0_letChoose_40 42 4 rfl rfl ?_
            refine g_icmp_gt O dX0_letChoose_42 45 159 rfl rfl (by omega) (fun h42 => ?_) (fun h42 => ?_)
            · skip
              refine g_iinc O dX0_letChoose_159 162 5 [(0, .ref s), (1, .ref o), (2, vi a), (3, vi h), (4, vi w), (5, vi (f + (-1))), (6, vi (be f)), (7, vi j)] rfl (by decide) rfl rfl ?_
              refine g_goto O dX0_letChoose_162 12 rfl ?_
              refine g_loc (L' := [(0, .ref s), (1, .ref o), (2, vi a), (3, vi h), (4, vi w), (5, vi (f + (-1)))]) [0, 1, 2, 3, 4, 5] rfl ?_
              exact ih12 (f + (-1)) g2 (by omega) (LI_out hL2 (by omega) (by omega) (by first | exact Or.inl (by omega) | exact Or.inr (by assumption))) (by omega)
            · skip
              refine g_iload O dX0_letChoose_45 47 6 rfl rfl ?_
              refine g_ldc O dX0_letChoose_47 49 rfl (-1073741824) (List.mem_of_getElem? (i := 4) rfl) ?_
              refine g_icmp_eq O dX0_letChoose_49 52 159 rfl rfl (by omega) (fun h49 => ?_) (fun h49 => ?_)
              · skip
                refine g_iinc O dX0_letChoose_159 162 5 [(0, .ref s), (1, .ref o), (2, vi a), (3, vi h), (4, vi w), (5, vi (f + (-1))), (6, vi (be f)), (7, vi j)] rfl (by decide) rfl rfl ?_
                refine g_goto O dX0_letChoose_162 12 rfl ?_
                refine g_loc (L' := [(0, .ref s), (1, .ref o), (2, vi a), (3, vi h), (4, vi w), (5, vi (f + (-1)))]) [0, 1, 2, 3, 4, 5] rfl ?_
                exact ih12 (f + (-1)) g2 (by omega) (LI_out hL2 (by omega) (by omega) (by first | exact Or.inl (by omega) | exact Or.inr (by assumption))) (by omega)
              · skip
                have hcb := LI_bd hW (by omega) (by omega) (by omega) (by omega) hB hL2
                have hvt := vt_bd j h
                refine g_iload O dX0_letChoose_52 54 7 rfl rfl ?_
                refine g_iload_n O dX0_letChoose_54 55 3 rfl rfl ?_
                refine g_callS (As := [vi j, vi h]) (rest := []) (na := 2) O (k_X2_vote D j h (by omega) (by omega)) dX0_letChoose_55 gX0_letChoose_X2_vote rfl ⟨rfl, rfl⟩ (by decide +kernel) rfl (by decide) (by decide) rfl (Nat.le_of_ble_eq_true rfl) [] (by decide) rfl (fun _ => rfl) (fun _ => [(o, co 2 [vi N, vi P, .ref c, .ref l, .ref t]), (c, ca D 5 cap), (l, ca D 6 len), (t, ca D 30 lst), (s, co 0 [.ref g, .ref b]), (g, ca D 1215 plf), (b, ca D 243 g2)]) (fun _ => rfl) 58 rfl (fun _ _ => ?_)
                show G X D A 11 Q 0 0 58 [(0, .ref s), (1, .ref o), (2, vi a), (3, vi h), (4, vi w), (5, vi f), (6, vi (be f)), (7, vi j)] [vi (vt j h)] [(o, co 2 [vi N, vi P, .ref c, .ref l, .ref t]), (c, ca D 5 cap), (l, ca D 6 len), (t, ca D 30 lst), (s, co 0 [.ref g, .ref b]), (g, ca D 1215 plf), (b, ca D 243 g2)]
                refine g_istore O dX0_letChoose_58 60 [(0, .ref s), (1, .ref o), (2, vi a), (3, vi h), (4, vi w), (5, vi f), (6, vi (be f)), (7, vi j), (8, vi (vt j h))] rfl (by decide) rfl ?_
                refine g_iload O dX0_letChoose_60 62 6 rfl rfl ?_
                refine g_iload O dX0_letChoose_62 64 8 rfl rfl ?_
                refine g_bipush O dX0_letChoose_64 66 rfl (by decide) ?_
                refine g_ishl O dX0_letChoose_66 67 rfl (by omega) ?_
                refine g_cv (y := vt j h * 262144) (rfl) ?_
                refine g_iadd O dX0_letChoose_67 68 rfl ?_
                refine g_istore O dX0_letChoose_68 70 [(0, .ref s), (1, .ref o), (2, vi a), (3, vi h), (4, vi w), (5, vi f), (6, vi (be f)), (7, vi j), (8, vi (vt j h)), (9, vi ((be f) + (vt j h * 262144)))] rfl (by decide) rfl ?_
                refine g_iload O dX0_letChoose_70 72 7 rfl rfl ?_
                refine g_aload_n O dX0_letChoose_72 73 1 rfl rfl ?_
                refine g_get O dX0_letChoose_73 76 rfl fX0_letChoose_44 0 rfl rfl ?_
                refine g_iload_n O dX0_letChoose_76 77 2 rfl rfl ?_
                refine g_iald O dX0_letChoose_77 78 rfl 2 rfl (by decide) (by omega) ?_
                refine g_icmp_ne O dX0_letChoose_78 81 99 rfl rfl (by omega) (fun h78 => ?_) (fun h78 => ?_)
                · skip
                  have hli : 0 ≤ row lst a j ∧ row lst a j < P := hlst a j (by omega) (by omega) (by omega) (by omega)
                  have hcj := hcap (row lst a j) (by omega) (by omega)
                  have hdg := dg_bd f (row lst a j)
                  have hpj := pp_bd (q := row lst a j) (a := a) (by omega) (by omega) (by omega) (by omega)
                  refine g_aload_n O dX0_letChoose_99 100 1 rfl rfl ?_
                  refine g_iload_n O dX0_letChoose_100 101 2 rfl rfl ?_
                  refine g_iload O dX0_letChoose_101 103 7 rfl rfl ?_
                  refine g_callV (As := [vi a, vi j]) (rest := []) (na := 2) O (k_X2_listed D o c l t N P cap len lst a j (by omega) (by omega)) dX0_letChoose_103 gX0_letChoose_X2_listed rfl ⟨rfl, rfl⟩ (by decide +kernel) rfl (by decide) (by decide) rfl (Nat.le_of_ble_eq_true rfl) (q0 := 0) (ci := 2) rfl rfl [0, 1, 2, 3] (by decide) rfl (fun _ => rfl) (fun _ => [(o, co 2 [vi N, vi P, .ref c, .ref l, .ref t]), (c, ca D 5 cap), (l, ca D 6 len), (t, ca D 30 lst), (s, co 0 [.ref g, .ref b]), (g, ca D 1215 plf), (b, ca D 243 g2)]) (fun _ => rfl) 106 rfl (fun _ _ => ?_)
                  show G X D A 11 Q 0 0 106 [(0, .ref s), (1, .ref o), (2, vi a), (3, vi h), (4, vi w), (5, vi f), (6, vi (be f)), (7, vi j), (8, vi (vt j h)), (9, vi ((be f) + (vt j h * 262144)))] [vi (row lst a j)] [(o, co 2 [vi N, vi P, .ref c, .ref l, .ref t]), (c, ca D 5 cap), (l, ca D 6 len), (t, ca D 30 lst), (s, co 0 [.ref g, .ref b]), (g, ca D 1215 plf), (b, ca D 243 g2)]
                  refine g_istore O dX0_letChoose_106 108 [(0, .ref s), (1, .ref o), (2, vi a), (3, vi h), (4, vi w), (5, vi f), (6, vi (be f)), (7, vi j), (8, vi (vt j h)), (9, vi ((be f) + (vt j h * 262144))), (10, vi (row lst a j))] rfl (by decide) rfl ?_
                  refine g_aload_n O dX0_letChoose_108 109 0 rfl rfl ?_
                  refine g_get O dX0_letChoose_109 112 rfl fX0_letChoose_11 4 rfl rfl ?_
                  refine g_iload O dX0_letChoose_112 114 5 rfl rfl ?_
                  refine g_iconst O dX0_letChoose_114 115 rfl ?_
                  refine g_imul O dX0_letChoose_115 116 rfl ?_
                  refine g_iload O dX0_letChoose_116 118 10 rfl rfl ?_
                  refine g_iadd O dX0_letChoose_118 119 rfl ?_
                  refine g_iald O dX0_letChoose_119 120 rfl 5 rfl (by decide) (by omega) ?_
                  refine g_cv (y := dg f (row lst a j)) (plf_at (by omega) (by omega)) ?_
                  refine g_aload_n O dX0_letChoose_120 121 1 rfl rfl ?_
                  refine g_get O dX0_letChoose_121 124 rfl fX0_letChoose_66 0 rfl rfl ?_
                  refine g_iload O dX0_letChoose_124 126 10 rfl rfl ?_
                  refine g_iald O dX0_letChoose_126 127 rfl 1 rfl (by decide) (by omega) ?_
                  refine g_icmp_ge O dX0_letChoose_127 130 153 rfl rfl (by omega) (fun h127 => ?_) (fun h127 => ?_)
                  · skip
                    refine g_iinc O dX0_letChoose_153 156 7 [(0, .ref s), (1, .ref o), (2, vi a), (3, vi h), (4, vi w), (5, vi f), (6, vi (be f)), (7, vi (j + 1)), (8, vi (vt j h)), (9, vi ((be f) + (vt j h * 262144))), (10, vi (row lst a j))] rfl (by decide) rfl rfl ?_
                    refine g_goto O dX0_letChoose_156 38 rfl ?_
                    refine g_loc (L' := [(0, .ref s), (1, .ref o), (2, vi a), (3, vi h), (4, vi w), (5, vi f), (6, vi (be f)), (7, vi (j + 1))]) [0, 1, 2, 3, 4, 5, 6, 7] rfl ?_
                    exact ih38 (j + 1) g2 (by omega) (by first | exact LI_skip hL2 (fun q => by rcases q with q | q <;> omega) | exact LI_step hL2 (by omega) (by omega) (by omega) (Or.inl h78) h49 (by unfold ltg; rw [if_pos h78]) (by unfold lky lpl; rw [if_pos h78]) | exact LI_step hL2 (by omega) (by omega) (by omega) (Or.inr (by omega)) h49 (by unfold ltg; rw [if_neg h78]) (by unfold lky lpl; rw [if_neg h78])) (by omega)
                  · skip
                    have hrm := dg_room (P := P) (q := row lst a j) (f := f) (by omega) (by omega) (by omega) (by omega) (by omega) (by omega)
                    have hp3j := pw3_pos (row lst a j)
                    have hct := hcb (f + pw3 (row lst a j)) (by omega) (by omega)
                    refine g_aload_n O dX0_letChoose_130 131 0 rfl rfl ?_
                    refine g_iload O dX0_letChoose_131 133 5 rfl rfl ?_
                    refine g_getsT O dX0_letChoose_133 136 rfl (List.mem_of_getElem? (i := 1) rfl) ?_
                    refine g_iload O dX0_letChoose_136 138 10 rfl rfl ?_
                    refine g_ialdT O dX0_letChoose_138 139 rfl (by omega) ?_
                    refine g_iadd O dX0_letChoose_139 140 rfl ?_
                    refine g_iload O dX0_letChoose_140 142 9 rfl rfl ?_
                    refine g_iload O dX0_letChoose_142 144 10 rfl rfl ?_
                    refine g_iload_n O dX0_letChoose_144 145 2 rfl rfl ?_
                    refine g_callS (As := [vi a]) (rest := [vi (row lst a j), vi ((be f) + (vt j h * 262144)), vi (f + (pw3 (row lst a j))), .ref s]) (na := 1) O (k_X0_placeShift D a) dX0_letChoose_145 gX0_letChoose_X0_placeShift rfl ⟨rfl, rfl⟩ (by decide +kernel) rfl (by decide) (by decide) rfl (Nat.le_of_ble_eq_true rfl) [] (by decide) rfl (fun _ => rfl) (fun _ => [(o, co 2 [vi N, vi P, .ref c, .ref l, .ref t]), (c, ca D 5 cap), (l, ca D 6 len), (t, ca D 30 lst), (s, co 0 [.ref g, .ref b]), (g, ca D 1215 plf), (b, ca D 243 g2)]) (fun _ => rfl) 148 rfl (fun _ _ => ?_)
                    show G X D A 11 Q 0 0 148 [(0, .ref s), (1, .ref o), (2, vi a), (3, vi h), (4, vi w), (5, vi f), (6, vi (be f)), (7, vi j), (8, vi (vt j h)), (9, vi ((be f) + (vt j h * 262144))), (10, vi (row lst a j))] [vi (3 * (5 - a)), vi (row lst a j), vi ((be f) + (vt j h * 262144)), vi (f + (pw3 (row lst a j))), .ref s] [(o, co 2 [vi N, vi P, .ref c, .ref l, .ref t]), (c, ca D 5 cap), (l, ca D 6 len), (t, ca D 30 lst), (s, co 0 [.ref g, .ref b]), (g, ca D 1215 plf), (b, ca D 243 g2)]
                    refine g_ishl O dX0_letChoose_148 149 rfl (by omega) ?_
                    refine g_isub O dX0_letChoose_149 150 rfl ?_
                    refine g_callV (As := [vi (f + (pw3 (row lst a j))), vi (((be f) + (vt j h * 262144)) - ((row lst a j) * p2 (3 * (5 - a))))]) (rest := []) (na := 2) O (k_X0_raise D s g b g2 (f + (pw3 (row lst a j))) (((be f) + (vt j h * 262144)) - ((row lst a j) * p2 (3 * (5 - a)))) (by omega) (by omega) (by omega)) dX0_letChoose_150 gX0_letChoose_X0_raise rfl ⟨rfl, rfl⟩ (by decide +kernel) rfl (by decide) (by decide) rfl (Nat.le_of_ble_eq_true rfl) (q0 := 4) (ci := 0) rfl rfl [4, 5, 6] (by decide) rfl (fun _ => rfl) (fun _ => [(o, co 2 [vi N, vi P, .ref c, .ref l, .ref t]), (c, ca D 5 cap), (l, ca D 6 len), (t, ca D 30 lst), (s, co 0 [.ref g, .ref b]), (g, ca D 1215 plf), (b, ca D 243 (rs g2 (f + (pw3 (row lst a j))) (((be f) + (vt j h * 262144)) - ((row lst a j) * p2 (3 * (5 - a))))))]) (fun _ => rfl) 153 rfl (fun _ _ => ?_)
                    show G X D A 11 Q 0 0 153 [(0, .ref s), (1, .ref o), (2, vi a), (3, vi h), (4, vi w), (5, vi f), (6, vi (be f)), (7, vi j), (8, vi (vt j h)), (9, vi ((be f) + (vt j h * 262144))), (10, vi (row lst a j))] [] [(o, co 2 [vi N, vi P, .ref c, .ref l, .ref t]), (c, ca D 5 cap), (l, ca D 6 len), (t, ca D 30 lst), (s, co 0 [.ref g, .ref b]), (g, ca D 1215 plf), (b, ca D 243 (rs g2 (f + (pw3 (row lst a j))) (((be f) + (vt j h * 262144)) - ((row lst a j) * p2 (3 * (5 - a))))))]
                    refine g_iinc O dX0_letChoose_153 156 7 [(0, .ref s), (1, .ref o), (2, vi a), (3, vi h), (4, vi w), (5, vi f), (6, vi (be f)), (7, vi (j + 1)), (8, vi (vt j h)), (9, vi ((be f) + (vt j h * 262144))), (10, vi (row lst a j))] rfl (by decide) rfl rfl ?_
                    refine g_goto O dX0_letChoose_156 38 rfl ?_
                    refine g_loc (L' := [(0, .ref s), (1, .ref o), (2, vi a), (3, vi h), (4, vi w), (5, vi f), (6, vi (be f)), (7, vi (j + 1))]) [0, 1, 2, 3, 4, 5, 6, 7] rfl ?_
                    exact ih38 (j + 1) (rs g2 (f + (pw3 (row lst a j))) (((be f) + (vt j h * 262144)) - ((row lst a j) * p2 (3 * (5 - a))))) (by omega) (by first | exact LI_skip hL2 (fun q => by rcases q with q | q <;> omega) | exact LI_step hL2 (by omega) (by omega) (by omega) (Or.inl h78) h49 (by unfold ltg; rw [if_pos h78]) (by unfold lky lpl; rw [if_pos h78]) | exact LI_step hL2 (by omega) (by omega) (by omega) (Or.inr (by omega)) h49 (by unfold ltg; rw [if_neg h78]) (by unfold lky lpl; rw [if_neg h78])) (by omega)
                · skip
                  have hcf := hcb f (by omega) (by omega)
                  refine g_aload_n O dX0_letChoose_81 82 0 rfl rfl ?_
                  refine g_iload O dX0_letChoose_82 84 5 rfl rfl ?_
                  refine g_iload O dX0_letChoose_84 86 9 rfl rfl ?_
                  refine g_iconst O dX0_letChoose_86 87 rfl ?_
                  refine g_iload_n O dX0_letChoose_87 88 2 rfl rfl ?_
                  refine g_callS (As := [vi a]) (rest := [vi 5, vi ((be f) + (vt j h * 262144)), vi f, .ref s]) (na := 1) O (k_X0_placeShift D a) dX0_letChoose_88 gX0_letChoose_X0_placeShift rfl ⟨rfl, rfl⟩ (by decide +kernel) rfl (by decide) (by decide) rfl (Nat.le_of_ble_eq_true rfl) [] (by decide) rfl (fun _ => rfl) (fun _ => [(o, co 2 [vi N, vi P, .ref c, .ref l, .ref t]), (c, ca D 5 cap), (l, ca D 6 len), (t, ca D 30 lst), (s, co 0 [.ref g, .ref b]), (g, ca D 1215 plf), (b, ca D 243 g2)]) (fun _ => rfl) 91 rfl (fun _ _ => ?_)
                  show G X D A 11 Q 0 0 91 [(0, .ref s), (1, .ref o), (2, vi a), (3, vi h), (4, vi w), (5, vi f), (6, vi (be f)), (7, vi j), (8, vi (vt j h)), (9, vi ((be f) + (vt j h * 262144)))] [vi (3 * (5 - a)), vi 5, vi ((be f) + (vt j h * 262144)), vi f, .ref s] [(o, co 2 [vi N, vi P, .ref c, .ref l, .ref t]), (c, ca D 5 cap), (l, ca D 6 len), (t, ca D 30 lst), (s, co 0 [.ref g, .ref b]), (g, ca D 1215 plf), (b, ca D 243 g2)]
                  refine g_ishl O dX0_letChoose_91 92 rfl (by omega) ?_
                  refine g_isub O dX0_letChoose_92 93 rfl ?_
                  refine g_callV (As := [vi f, vi (((be f) + (vt j h * 262144)) - (5 * p2 (3 * (5 - a))))]) (rest := []) (na := 2) O (k_X0_raise D s g b g2 f (((be f) + (vt j h * 262144)) - (5 * p2 (3 * (5 - a)))) (by omega) (by omega) (by omega)) dX0_letChoose_93 gX0_letChoose_X0_raise rfl ⟨rfl, rfl⟩ (by decide +kernel) rfl (by decide) (by decide) rfl (Nat.le_of_ble_eq_true rfl) (q0 := 4) (ci := 0) rfl rfl [4, 5, 6] (by decide) rfl (fun _ => rfl) (fun _ => [(o, co 2 [vi N, vi P, .ref c, .ref l, .ref t]), (c, ca D 5 cap), (l, ca D 6 len), (t, ca D 30 lst), (s, co 0 [.ref g, .ref b]), (g, ca D 1215 plf), (b, ca D 243 (rs g2 f (((be f) + (vt j h * 262144)) - (5 * p2 (3 * (5 - a))))))]) (fun _ => rfl) 96 rfl (fun _ _ => ?_)
                  show G X D A 11 Q 0 0 96 [(0, .ref s), (1, .ref o), (2, vi a), (3, vi h), (4, vi w), (5, vi f), (6, vi (be f)), (7, vi j), (8, vi (vt j h)), (9, vi ((be f) + (vt j h * 262144)))] [] [(o, co 2 [vi N, vi P, .ref c, .ref l, .ref t]), (c, ca D 5 cap), (l, ca D 6 len), (t, ca D 30 lst), (s, co 0 [.ref g, .ref b]), (g, ca D 1215 plf), (b, ca D 243 (rs g2 f (((be f) + (vt j h * 262144)) - (5 * p2 (3 * (5 - a))))))]
                  refine g_goto O dX0_letChoose_96 153 rfl ?_
                  refine g_iinc O dX0_letChoose_153 156 7 [(0, .ref s), (1, .ref o), (2, vi a), (3, vi h), (4, vi w), (5, vi f), (6, vi (be f)), (7, vi (j + 1)), (8, vi (vt j h)), (9, vi ((be f) + (vt j h * 262144)))] rfl (by decide) rfl rfl ?_
                  refine g_goto O dX0_letChoose_156 38 rfl ?_
                  refine g_loc (L' := [(0, .ref s), (1, .ref o), (2, vi a), (3, vi h), (4, vi w), (5, vi f), (6, vi (be f)), (7, vi (j + 1))]) [0, 1, 2, 3, 4, 5, 6, 7] rfl ?_
                  exact ih38 (j + 1) (rs g2 f (((be f) + (vt j h * 262144)) - (5 * p2 (3 * (5 - a))))) (by omega) (by first | exact LI_skip hL2 (fun q => by rcases q with q | q <;> omega) | exact LI_step hL2 (by omega) (by omega) (by omega) (Or.inl h78) h49 (by unfold ltg; rw [if_pos h78]) (by unfold lky lpl; rw [if_pos h78]) | exact LI_step hL2 (by omega) (by omega) (by omega) (Or.inr (by omega)) h49 (by unfold ltg; rw [if_neg h78]) (by unfold lky lpl; rw [if_neg h78])) (by omega)
        exact lp38 1000 0 (up g1 f (-1073741824)) (by omega) (LI_set hL) (by omega)
  exact lp12 1000 ((pw3 P) - 1) be (by omega) (by rw [show pw3 P - 1 + 1 = pw3 P by omega]; exact LI_init _ _ _ _ _ _ _ _ _) (by omega)
