theorem sX0_bestKey_0 : ∀ w ∈ wsX00, w ∈ wsX0_bestKey := by decide +kernel
theorem fX0_bestKey_15 : FK RX0 wsX0_bestKey 15 0 1 := ⟨RX0, TX0, 2, rfl, sX0_bestKey_0, by decide, List.mem_of_getElem? (i := 3) rfl⟩
theorem sX0_bestKey_2 : ∀ w ∈ wsX20, w ∈ wsX0_bestKey := by decide +kernel
theorem fX0_bestKey_26 : FK RX0 wsX0_bestKey 26 2 1 := ⟨RX2, TX2, 5, rfl, sX0_bestKey_2, by decide, List.mem_of_getElem? (i := 2) rfl⟩
theorem fX0_bestKey_33 : FK RX0 wsX0_bestKey 33 2 0 := ⟨RX2, TX2, 5, rfl, sX0_bestKey_2, by decide, List.mem_of_getElem? (i := 6) rfl⟩
theorem fX0_bestKey_44 : FK RX0 wsX0_bestKey 44 2 3 := ⟨RX2, TX2, 5, rfl, sX0_bestKey_2, by decide, List.mem_of_getElem? (i := 8) rfl⟩
theorem sX0_bestKey_3 : ∀ w ∈ wsX30, w ∈ wsX0_bestKey := by decide +kernel
theorem fX0_bestKey_36 : FK RX0 wsX0_bestKey 36 3 0 := ⟨RX3, TX3, 1, rfl, sX0_bestKey_3, by decide, List.mem_of_getElem? (i := 7) rfl⟩
set_option maxHeartbeats 4000000 in
set_option maxRecDepth 100000 in
theorem k_X0_bestKey (D : DD) (o c l t : Nat) (N P : Int) (cap len lst : Int → Int) (s g b : Nat) (be : Int → Int) (o2 b2 : Nat) (m : Int → Int) (z : Int) (hW : WI N P cap len lst) (hm : ∀ kk, 0 ≤ kk → kk < 6 → -1 ≤ m kk ∧ m kk < 5) (hz : z = 0 ∨ z = 1) : Con (S := Int × (Int → Int)) D yX0_bestKey wsX0_bestKey ({ frames := 2, cells := 0, slots := 0, locals := 52 }) 0 0 [.ref s, .ref o, .ref o2, vi z] [(o, co 2 [vi N, vi P, .ref c, .ref l, .ref t]), (c, ca D 5 cap), (l, ca D 6 len), (t, ca D 30 lst), (s, co 0 [.ref g, .ref b]), (g, ca D 1215 plf), (b, ca D 243 be), (o2, co 3 [.ref b2]), (b2, ca D 6 m)] (fun u => some (vi u.1)) (fun u => BKR N cap len lst m z u.1) (fun u => [(o, co 2 [vi N, vi P, .ref c, .ref l, .ref t]), (c, ca D 5 cap), (l, ca D 6 len), (t, ca D 30 lst), (s, co 0 [.ref g, .ref b]), (g, ca D 1215 plf), (b, ca D 243 u.2), (o2, co 3 [.ref b2]), (b2, ca D 6 m)]) := by
  refine Con.of (cc := cX0_bestKey) (nL := 8) (ret := (some .int)) rfl (by decide +kernel) (Nat.le_of_ble_eq_true rfl) ?_
  intro X A Q O hQ hin
  show G X D A 8 Q 0 0 0 [(0, .ref s), (1, .ref o), (2, .ref o2), (3, vi z)] [] [(o, co 2 [vi N, vi P, .ref c, .ref l, .ref t]), (c, ca D 5 cap), (l, ca D 6 len), (t, ca D 30 lst), (s, co 0 [.ref g, .ref b]), (g, ca D 1215 plf), (b, ca D 243 be), (o2, co 3 [.ref b2]), (b2, ca D 6 m)]
  obtain ⟨hN, hcap, hlen, hlst, hdis⟩ := id hW
  have hp3 := pw3_bd (k := P) (by omega) (by omega)
  refine g_getsT O dX0_bestKey_0 3 rfl (List.mem_of_getElem? (i := 1) rfl) ?_
  refine g_aload_n O dX0_bestKey_3 4 1 rfl rfl ?_
  refine g_get O dX0_bestKey_4 7 rfl fX0_bestKey_26 0 rfl rfl ?_
  refine g_ialdT O dX0_bestKey_7 8 rfl (by omega) ?_
  refine g_istore O dX0_bestKey_8 10 [(0, .ref s), (1, .ref o), (2, .ref o2), (3, vi z), (4, vi (pw3 P))] rfl (by decide) rfl ?_
  refine g_iconst O dX0_bestKey_10 11 rfl ?_
  refine g_istore O dX0_bestKey_11 13 [(0, .ref s), (1, .ref o), (2, .ref o2), (3, vi z), (4, vi (pw3 P)), (5, vi 0)] rfl (by decide) rfl ?_
  have lp13 : ∀ (nn : Nat) (i : Int) (g0 : Int → Int), (0 ≤ i ∧ i ≤ pw3 P) → (∀ kk, 0 ≤ kk → kk < i → g0 kk = -1073741824) → (pw3 P - i < (nn : Int)) → G X D A 8 Q 0 0 13 [(0, .ref s), (1, .ref o), (2, .ref o2), (3, vi z), (4, vi (pw3 P)), (5, vi i)] [] [(o, co 2 [vi N, vi P, .ref c, .ref l, .ref t]), (c, ca D 5 cap), (l, ca D 6 len), (t, ca D 30 lst), (s, co 0 [.ref g, .ref b]), (g, ca D 1215 plf), (b, ca D 243 g0), (o2, co 3 [.ref b2]), (b2, ca D 6 m)] := by
    intro nn
    induction nn with
    | zero =>
      intro i g0 h1 h2 hm13
      exact absurd hm13 (by omega)
    | succ nn ih13 =>
      intro i g0 h1 h2 hm13
      refine g_iload O dX0_bestKey_13 15 5 rfl rfl ?_
      refine g_iload O dX0_bestKey_15 17 4 rfl rfl ?_
      refine g_icmp_ge O dX0_bestKey_17 20 35 rfl rfl (by omega) (fun h17 => ?_) (fun h17 => ?_)
      · skip
        refine g_aload_n O dX0_bestKey_35 36 0 rfl rfl ?_
        refine g_get O dX0_bestKey_36 39 rfl fX0_bestKey_15 4 rfl rfl ?_
        refine g_iconst O dX0_bestKey_39 40 rfl ?_
        refine g_ldc O dX0_bestKey_40 42 rfl 262143 (List.mem_of_getElem? (i := 5) rfl) ?_
        refine g_iast O dX0_bestKey_42 43 rfl 6 rfl (by decide) (by omega) [(o, co 2 [vi N, vi P, .ref c, .ref l, .ref t]), (c, ca D 5 cap), (l, ca D 6 len), (t, ca D 30 lst), (s, co 0 [.ref g, .ref b]), (g, ca D 1215 plf), (b, ca D 243 (up g0 0 262143)), (o2, co 3 [.ref b2]), (b2, ca D 6 m)] rfl ?_
        refine g_iconst O dX0_bestKey_43 44 rfl ?_
        refine g_istore O dX0_bestKey_44 46 [(0, .ref s), (1, .ref o), (2, .ref o2), (3, vi z), (4, vi (pw3 P)), (5, vi 0)] rfl (by decide) rfl ?_
        have lp46 : ∀ (nn : Nat) (i : Int) (g3 : Int → Int), (0 ≤ i ∧ i ≤ N) → (FD cap len lst m z (pw3 P) i.toNat g3) → (N - i < (nn : Int)) → G X D A 8 Q 0 0 46 [(0, .ref s), (1, .ref o), (2, .ref o2), (3, vi z), (4, vi (pw3 P)), (5, vi i)] [] [(o, co 2 [vi N, vi P, .ref c, .ref l, .ref t]), (c, ca D 5 cap), (l, ca D 6 len), (t, ca D 30 lst), (s, co 0 [.ref g, .ref b]), (g, ca D 1215 plf), (b, ca D 243 g3), (o2, co 3 [.ref b2]), (b2, ca D 6 m)] := by
          intro nn
          induction nn with
          | zero =>
            intro i g3 h1 hF hm46
            exact absurd hm46 (by omega)
          | succ nn ih46 =>
            intro i g3 h1 hF hm46
            refine g_iload O dX0_bestKey_46 48 5 rfl rfl ?_
            refine g_aload_n O dX0_bestKey_48 49 1 rfl rfl ?_
            refine g_get O dX0_bestKey_49 52 rfl fX0_bestKey_33 0 rfl rfl ?_
            refine g_icmp_ge O dX0_bestKey_52 55 105 rfl rfl (by omega) (fun h52 => ?_) (fun h52 => ?_)
            · skip
              have hBB := FD_BB hW (by omega) hF
              refine g_ldc O dX0_bestKey_105 107 rfl (-1073741824) (List.mem_of_getElem? (i := 4) rfl) ?_
              refine g_istore O dX0_bestKey_107 109 [(0, .ref s), (1, .ref o), (2, .ref o2), (3, vi z), (4, vi (pw3 P)), (5, vi (-1073741824))] rfl (by decide) rfl ?_
              refine g_iconst O dX0_bestKey_109 110 rfl ?_
              refine g_istore O dX0_bestKey_110 112 [(0, .ref s), (1, .ref o), (2, .ref o2), (3, vi z), (4, vi (pw3 P)), (5, vi (-1073741824)), (6, vi 0)] rfl (by decide) rfl ?_
              have lp112 : ∀ (nn : Nat) (j : Int) (y : Int), (0 ≤ j ∧ j ≤ pw3 P) → (y = -1073741824 ∨ ∃ F, 0 ≤ F ∧ F < j ∧ y = g3 F) → (∀ F, 0 ≤ F → F < j → g3 F ≤ y) → (pw3 P - j < (nn : Int)) → G X D A 8 Q 0 0 112 [(0, .ref s), (1, .ref o), (2, .ref o2), (3, vi z), (4, vi (pw3 P)), (5, vi y), (6, vi j)] [] [(o, co 2 [vi N, vi P, .ref c, .ref l, .ref t]), (c, ca D 5 cap), (l, ca D 6 len), (t, ca D 30 lst), (s, co 0 [.ref g, .ref b]), (g, ca D 1215 plf), (b, ca D 243 g3), (o2, co 3 [.ref b2]), (b2, ca D 6 m)] := by
                intro nn
                induction nn with
                | zero =>
                  intro j y h1 hy1 hy2 hm112
                  exact absurd hm112 (by omega)
                | succ nn ih112 =>
                  intro j y h1 hy1 hy2 hm112
                  refine g_iload O dX0_bestKey_112 114 6 rfl rfl ?_
                  refine g_iload O dX0_bestKey_114 116 4 rfl rfl ?_
                  refine g_icmp_ge O dX0_bestKey_116 119 139 rfl rfl (by omega) (fun h116 => ?_) (fun h116 => ?_)
                  · skip
                    refine g_iload O dX0_bestKey_139 141 5 rfl rfl ?_
                    exact g_iret O hQ dX0_bestKey_141 (y, g3) rfl rfl (BKR_of hW (by rw [show N.toNat = i.toNat by omega]; exact hF) h116 h1.2 hy1 hy2) ⟨by decide, by decide⟩
                  · skip
                    have hBj := hBB j (by omega) (by omega)
                    have hyb : -1073741824 ≤ y ∧ y ≤ 4000000 := by rcases hy1 with q | ⟨F, q1, q2, q3⟩; omega; have := hBB F q1 (by omega); omega
                    refine g_iload O dX0_bestKey_119 121 5 rfl rfl ?_
                    refine g_aload_n O dX0_bestKey_121 122 0 rfl rfl ?_
                    refine g_get O dX0_bestKey_122 125 rfl fX0_bestKey_15 4 rfl rfl ?_
                    refine g_iload O dX0_bestKey_125 127 6 rfl rfl ?_
                    refine g_iald O dX0_bestKey_127 128 rfl 6 rfl (by decide) (by omega) ?_
                    refine g_max O dX0_bestKey_128 131 rfl (List.mem_of_getElem? (i := 9) rfl) (List.mem_of_getElem? (i := 10) rfl) (List.mem_of_getElem? (i := 11) rfl) (List.mem_of_getElem? (i := 12) rfl) (by decide) (Nat.le_of_ble_eq_true rfl) (by decide) (by decide) (by omega) ?_
                    refine g_istore O dX0_bestKey_131 133 [(0, .ref s), (1, .ref o), (2, .ref o2), (3, vi z), (4, vi (pw3 P)), (5, vi (if y < (g3 j) then g3 j else y)), (6, vi j)] rfl (by decide) rfl ?_
                    refine g_iinc O dX0_bestKey_133 136 6 [(0, .ref s), (1, .ref o), (2, .ref o2), (3, vi z), (4, vi (pw3 P)), (5, vi (if y < (g3 j) then g3 j else y)), (6, vi (j + 1))] rfl (by decide) rfl rfl ?_
                    refine g_goto O dX0_bestKey_136 112 rfl ?_
                    exact ih112 (j + 1) (if y < (g3 j) then g3 j else y) (by omega) (by split; exact Or.inr ⟨j, by omega, by omega, rfl⟩; rcases hy1 with q | ⟨F, q1, q2, q3⟩; exact Or.inl q; exact Or.inr ⟨F, q1, by omega, q3⟩) (fun F q1 q2 => by rcases (show F < j ∨ F = j by omega) with q | q; have := hy2 F q1 q; split <;> omega; rw [q]; split <;> omega) (by omega)
              exact lp112 1000 0 (-1073741824) (by omega) (Or.inl rfl) (fun F q1 q2 => absurd q2 (by omega)) (by omega)
            · skip
              have hmi := hm i (by omega) (by omega)
              have hla := hlen i (by omega) (by omega)
              have hrk := rk_le (row lst i) (m i) (n := len i) (by omega)
              refine g_aload_n O dX0_bestKey_55 56 1 rfl rfl ?_
              refine g_iload O dX0_bestKey_56 58 5 rfl rfl ?_
              refine g_aload_n O dX0_bestKey_58 59 2 rfl rfl ?_
              refine g_get O dX0_bestKey_59 62 rfl fX0_bestKey_36 7 rfl rfl ?_
              refine g_iload O dX0_bestKey_62 64 5 rfl rfl ?_
              refine g_iald O dX0_bestKey_64 65 rfl 8 rfl (by decide) (by omega) ?_
              refine g_callV (As := [vi i, vi (m i)]) (rest := []) (na := 2) O (k_X2_rankOf D o c l t N P cap len lst i (m i) hW (by omega) (by omega)) dX0_bestKey_65 gX0_bestKey_X2_rankOf rfl ⟨rfl, rfl⟩ (by decide +kernel) rfl (by decide) (by decide) rfl (Nat.le_of_ble_eq_true rfl) (q0 := 0) (ci := 2) rfl rfl [0, 1, 2, 3] (by decide) rfl (fun _ => rfl) (fun _ => [(o, co 2 [vi N, vi P, .ref c, .ref l, .ref t]), (c, ca D 5 cap), (l, ca D 6 len), (t, ca D 30 lst), (s, co 0 [.ref g, .ref b]), (g, ca D 1215 plf), (b, ca D 243 g3), (o2, co 3 [.ref b2]), (b2, ca D 6 m)]) (fun _ => rfl) 68 rfl (fun _ _ => ?_)
              show G X D A 8 Q 0 0 68 [(0, .ref s), (1, .ref o), (2, .ref o2), (3, vi z), (4, vi (pw3 P)), (5, vi i)] [vi (rk (row lst i) (m i) (len i))] [(o, co 2 [vi N, vi P, .ref c, .ref l, .ref t]), (c, ca D 5 cap), (l, ca D 6 len), (t, ca D 30 lst), (s, co 0 [.ref g, .ref b]), (g, ca D 1215 plf), (b, ca D 243 g3), (o2, co 3 [.ref b2]), (b2, ca D 6 m)]
              refine g_istore O dX0_bestKey_68 70 [(0, .ref s), (1, .ref o), (2, .ref o2), (3, vi z), (4, vi (pw3 P)), (5, vi i), (6, vi (rk (row lst i) (m i) (len i)))] rfl (by decide) rfl ?_
              refine g_iload_n O dX0_bestKey_70 71 3 rfl rfl ?_
              refine g_if_eq O dX0_bestKey_71 74 84 rfl rfl (by omega) (fun h71 => ?_) (fun h71 => ?_)
              · skip
                refine g_iload O dX0_bestKey_84 86 6 rfl rfl ?_
                refine g_istore O dX0_bestKey_86 88 [(0, .ref s), (1, .ref o), (2, .ref o2), (3, vi z), (4, vi (pw3 P)), (5, vi i), (6, vi (rk (row lst i) (m i) (len i))), (7, vi (rk (row lst i) (m i) (len i)))] rfl (by decide) rfl ?_
                refine g_aload_n O dX0_bestKey_88 89 0 rfl rfl ?_
                refine g_aload_n O dX0_bestKey_89 90 1 rfl rfl ?_
                refine g_iload O dX0_bestKey_90 92 5 rfl rfl ?_
                refine g_iload O dX0_bestKey_92 94 6 rfl rfl ?_
                refine g_iload O dX0_bestKey_94 96 7 rfl rfl ?_
                refine g_callV (As := [.ref o, vi i, vi (rk (row lst i) (m i) (len i)), vi (rk (row lst i) (m i) (len i))]) (rest := []) (na := 4) O (k_X0_letChoose D o c l t N P cap len lst s g b g3 i (rk (row lst i) (m i) (len i)) (rk (row lst i) (m i) (len i)) hW (FD_BB hW (by omega) hF) (by omega) (by omega) (by omega)) dX0_bestKey_96 gX0_bestKey_X0_letChoose rfl ⟨rfl, rfl⟩ (by decide +kernel) rfl (by decide) (by decide) rfl (Nat.le_of_ble_eq_true rfl) (q0 := 4) (ci := 0) rfl rfl [0, 1, 2, 3, 4, 5, 6] (by decide) rfl (fun _ => rfl) (fun u => [(o, co 2 [vi N, vi P, .ref c, .ref l, .ref t]), (c, ca D 5 cap), (l, ca D 6 len), (t, ca D 30 lst), (s, co 0 [.ref g, .ref b]), (g, ca D 1215 plf), (b, ca D 243 u), (o2, co 3 [.ref b2]), (b2, ca D 6 m)]) (fun _ => rfl) 99 rfl (fun u96 hu96 => ?_)
                obtain ⟨be196, rfl⟩ : ∃ z, z = u96 := ⟨_, rfl⟩
                have hu96 : LI cap len lst g3 be196 (pw3 P) i (rk (row lst i) (m i) (len i)) (rk (row lst i) (m i) (len i)) 0 ((rk (row lst i) (m i) (len i)) + 1) := hu96
                show G X D A 8 Q 0 0 99 [(0, .ref s), (1, .ref o), (2, .ref o2), (3, vi z), (4, vi (pw3 P)), (5, vi i), (6, vi (rk (row lst i) (m i) (len i))), (7, vi (rk (row lst i) (m i) (len i)))] [] [(o, co 2 [vi N, vi P, .ref c, .ref l, .ref t]), (c, ca D 5 cap), (l, ca D 6 len), (t, ca D 30 lst), (s, co 0 [.ref g, .ref b]), (g, ca D 1215 plf), (b, ca D 243 be196), (o2, co 3 [.ref b2]), (b2, ca D 6 m)]
                refine g_iinc O dX0_bestKey_99 102 5 [(0, .ref s), (1, .ref o), (2, .ref o2), (3, vi z), (4, vi (pw3 P)), (5, vi (i + 1)), (6, vi (rk (row lst i) (m i) (len i))), (7, vi (rk (row lst i) (m i) (len i)))] rfl (by decide) rfl rfl ?_
                refine g_goto O dX0_bestKey_102 46 rfl ?_
                refine g_loc (L' := [(0, .ref s), (1, .ref o), (2, .ref o2), (3, vi z), (4, vi (pw3 P)), (5, vi (i + 1))]) [0, 1, 2, 3, 4, 5] rfl ?_
                exact ih46 (i + 1) be196 (by omega) (by first | exact FD_s hW (by omega) (by omega) (by rw [if_neg (by omega)]) hF hu96 | exact FD_s hW (by omega) (by omega) (by rw [if_pos (by omega)]; rfl) hF hu96) (by omega)
              · skip
                refine g_aload_n O dX0_bestKey_74 75 1 rfl rfl ?_
                refine g_get O dX0_bestKey_75 78 rfl fX0_bestKey_44 0 rfl rfl ?_
                refine g_iload O dX0_bestKey_78 80 5 rfl rfl ?_
                refine g_iald O dX0_bestKey_80 81 rfl 2 rfl (by decide) (by omega) ?_
                refine g_goto O dX0_bestKey_81 86 rfl ?_
                refine g_istore O dX0_bestKey_86 88 [(0, .ref s), (1, .ref o), (2, .ref o2), (3, vi z), (4, vi (pw3 P)), (5, vi i), (6, vi (rk (row lst i) (m i) (len i))), (7, vi (len i))] rfl (by decide) rfl ?_
                refine g_aload_n O dX0_bestKey_88 89 0 rfl rfl ?_
                refine g_aload_n O dX0_bestKey_89 90 1 rfl rfl ?_
                refine g_iload O dX0_bestKey_90 92 5 rfl rfl ?_
                refine g_iload O dX0_bestKey_92 94 6 rfl rfl ?_
                refine g_iload O dX0_bestKey_94 96 7 rfl rfl ?_
                refine g_callV (As := [.ref o, vi i, vi (rk (row lst i) (m i) (len i)), vi (len i)]) (rest := []) (na := 4) O (k_X0_letChoose D o c l t N P cap len lst s g b g3 i (rk (row lst i) (m i) (len i)) (len i) hW (FD_BB hW (by omega) hF) (by omega) (by omega) (by omega)) dX0_bestKey_96 gX0_bestKey_X0_letChoose rfl ⟨rfl, rfl⟩ (by decide +kernel) rfl (by decide) (by decide) rfl (Nat.le_of_ble_eq_true rfl) (q0 := 4) (ci := 0) rfl rfl [0, 1, 2, 3, 4, 5, 6] (by decide) rfl (fun _ => rfl) (fun u => [(o, co 2 [vi N, vi P, .ref c, .ref l, .ref t]), (c, ca D 5 cap), (l, ca D 6 len), (t, ca D 30 lst), (s, co 0 [.ref g, .ref b]), (g, ca D 1215 plf), (b, ca D 243 u), (o2, co 3 [.ref b2]), (b2, ca D 6 m)]) (fun _ => rfl) 99 rfl (fun u96 hu96 => ?_)
                obtain ⟨be196, rfl⟩ : ∃ z, z = u96 := ⟨_, rfl⟩
                have hu96 : LI cap len lst g3 be196 (pw3 P) i (rk (row lst i) (m i) (len i)) (len i) 0 ((len i) + 1) := hu96
                show G X D A 8 Q 0 0 99 [(0, .ref s), (1, .ref o), (2, .ref o2), (3, vi z), (4, vi (pw3 P)), (5, vi i), (6, vi (rk (row lst i) (m i) (len i))), (7, vi (len i))] [] [(o, co 2 [vi N, vi P, .ref c, .ref l, .ref t]), (c, ca D 5 cap), (l, ca D 6 len), (t, ca D 30 lst), (s, co 0 [.ref g, .ref b]), (g, ca D 1215 plf), (b, ca D 243 be196), (o2, co 3 [.ref b2]), (b2, ca D 6 m)]
                refine g_iinc O dX0_bestKey_99 102 5 [(0, .ref s), (1, .ref o), (2, .ref o2), (3, vi z), (4, vi (pw3 P)), (5, vi (i + 1)), (6, vi (rk (row lst i) (m i) (len i))), (7, vi (len i))] rfl (by decide) rfl rfl ?_
                refine g_goto O dX0_bestKey_102 46 rfl ?_
                refine g_loc (L' := [(0, .ref s), (1, .ref o), (2, .ref o2), (3, vi z), (4, vi (pw3 P)), (5, vi (i + 1))]) [0, 1, 2, 3, 4, 5] rfl ?_
                exact ih46 (i + 1) be196 (by omega) (by first | exact FD_s hW (by omega) (by omega) (by rw [if_neg (by omega)]) hF hu96 | exact FD_s hW (by omega) (by omega) (by rw [if_pos (by omega)]; rfl) hF hu96) (by omega)
        exact lp46 1000 0 (up g0 0 262143) (by omega) (FD_0 (fun kk q1 q2 => h2 kk q1 (by omega))) (by omega)
      · skip
        refine g_aload_n O dX0_bestKey_20 21 0 rfl rfl ?_
        refine g_get O dX0_bestKey_21 24 rfl fX0_bestKey_15 4 rfl rfl ?_
        refine g_iload O dX0_bestKey_24 26 5 rfl rfl ?_
        refine g_ldc O dX0_bestKey_26 28 rfl (-1073741824) (List.mem_of_getElem? (i := 4) rfl) ?_
        refine g_iast O dX0_bestKey_28 29 rfl 6 rfl (by decide) (by omega) [(o, co 2 [vi N, vi P, .ref c, .ref l, .ref t]), (c, ca D 5 cap), (l, ca D 6 len), (t, ca D 30 lst), (s, co 0 [.ref g, .ref b]), (g, ca D 1215 plf), (b, ca D 243 (up g0 i (-1073741824))), (o2, co 3 [.ref b2]), (b2, ca D 6 m)] rfl ?_
        refine g_iinc O dX0_bestKey_29 32 5 [(0, .ref s), (1, .ref o), (2, .ref o2), (3, vi z), (4, vi (pw3 P)), (5, vi (i + 1))] rfl (by decide) rfl rfl ?_
        refine g_goto O dX0_bestKey_32 13 rfl ?_
        exact ih13 (i + 1) (up g0 i (-1073741824)) (by omega) (up_inv h2) (by omega)
  exact lp13 1000 0 be (by omega) (fun kk q1 q2 => absurd q2 (by omega)) (by omega)
