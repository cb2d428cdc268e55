theorem isl_0 {N : Int} {cap len lst : Int → Int} {a : Int} (h : isl N cap len lst a = 0) : sp N cap len lst a = plo N cap len lst a ∧ fp len lst a = phg N cap len lst a := by
  unfold plo phg
  rw [if_neg (by omega), if_neg (by omega)]
  exact ⟨rfl, rfl⟩
theorem isl_1 {N : Int} {cap len lst : Int → Int} {a : Int} (h : isl N cap len lst a = 1) : fp len lst a = plo N cap len lst a ∧ sp N cap len lst a = phg N cap len lst a := by
  unfold plo phg
  rw [if_pos h, if_pos h]
  exact ⟨rfl, rfl⟩
theorem cnt_s (m4 m5 σ φ : Int → Int) (p i : Int) : icr m4 (σ i) True p = m4 p + hon σ p i ∧ icr m5 (σ i) (σ i = φ i) p = m5 p + han σ φ p i := by
  constructor
  · unfold hon
    by_cases c : σ i = p
    · rw [icr_t ⟨c.symm, trivial⟩, if_pos c]
    · rw [icr_f (fun z => c z.1.symm), if_neg c]
      omega
  · unfold han
    by_cases c : σ i = p ∧ σ i = φ i
    · rw [icr_t ⟨c.1.symm, c.2⟩, if_pos c]
    · rw [icr_f (fun z => c ⟨z.1.symm, z.2⟩), if_neg c]
      omega
theorem sX4_takesHigher_2 : ∀ w ∈ wsX20, w ∈ wsX4_takesHigher := by decide +kernel
theorem fX4_takesHigher_37 : FK RX4 wsX4_takesHigher 37 2 0 := ⟨RX2, TX2, 5, rfl, sX4_takesHigher_2, by decide, List.mem_of_getElem? (i := 1) rfl⟩
set_option maxHeartbeats 4000000 in
set_option maxRecDepth 100000 in
theorem k_X4_takesHigher (D : DD) (o c l t : Nat) (N P : Int) (cap len lst : Int → Int) (x a : Int) (hW : WI N P cap len lst) (hc : 0 ≤ x ∧ x < 64) (ha : 0 ≤ a ∧ a < N) : Con (S := Int) D yX4_takesHigher wsX4_takesHigher ({ frames := 0, cells := 0, slots := 0, locals := 0 }) 0 0 [.ref o, vi x, vi a] [(o, co 2 [vi N, vi P, .ref c, .ref l, .ref t]), (c, ca D 5 cap), (l, ca D 6 len), (t, ca D 30 lst)] (fun u => some (vi u)) (fun u => ((u = 1 ∧ (bitc N x a = 1)) ∨ (u = 0 ∧ ¬ (bitc N x a = 1)))) (fun u => [(o, co 2 [vi N, vi P, .ref c, .ref l, .ref t]), (c, ca D 5 cap), (l, ca D 6 len), (t, ca D 30 lst)]) := by
  refine Con.of (cc := cX4_takesHigher) (nL := 3) (ret := (some .boolean)) rfl (by decide +kernel) (Nat.le_of_ble_eq_true rfl) ?_
  intro X A Q O hQ hin
  show G X D A 3 Q 0 0 0 [(0, .ref o), (1, vi x), (2, vi a)] [] [(o, co 2 [vi N, vi P, .ref c, .ref l, .ref t]), (c, ca D 5 cap), (l, ca D 6 len), (t, ca D 30 lst)]
  obtain ⟨hN, hcap, hlen, hlst, hdis⟩ := id hW
  refine g_iload_n O dX4_takesHigher_0 1 1 rfl rfl ?_
  refine g_aload_n O dX4_takesHigher_1 2 0 rfl rfl ?_
  refine g_get O dX4_takesHigher_2 5 rfl fX4_takesHigher_37 0 rfl rfl ?_
  refine g_iconst O dX4_takesHigher_5 6 rfl ?_
  refine g_isub O dX4_takesHigher_6 7 rfl ?_
  refine g_iload_n O dX4_takesHigher_7 8 2 rfl rfl ?_
  refine g_isub O dX4_takesHigher_8 9 rfl ?_
  refine g_ishr O dX4_takesHigher_9 10 rfl (by omega) ?_
  refine g_iconst O dX4_takesHigher_10 11 rfl ?_
  refine g_iand O dX4_takesHigher_11 12 rfl 1 (by decide) (by decide +kernel) 2 (by decide) ?_
  refine g_iconst O dX4_takesHigher_12 13 rfl ?_
  have hbc : bitc N x a = x / p2 (N - 1 - a) % 2 := rfl
  refine g_icmp_ne O dX4_takesHigher_13 16 20 rfl rfl (by omega) (fun h13 => ?_) (fun h13 => ?_)
  · skip
    refine g_iconst O dX4_takesHigher_20 21 rfl ?_
    exact g_zret O hQ dX4_takesHigher_21 (by decide +kernel) 0 rfl rfl (Or.inr ⟨rfl, by first | assumption | omega⟩) ⟨by decide, by decide⟩
  · skip
    refine g_iconst O dX4_takesHigher_16 17 rfl ?_
    refine g_goto O dX4_takesHigher_17 21 rfl ?_
    exact g_zret O hQ dX4_takesHigher_21 (by decide +kernel) 1 rfl rfl (Or.inl ⟨rfl, by first | assumption | omega⟩) ⟨by decide, by decide⟩
theorem sX4_postIn_4 : ∀ w ∈ wsX40, w ∈ wsX4_postIn := by decide +kernel
theorem fX4_postIn_15 : FK RX4 wsX4_postIn 15 4 1 := ⟨RX4, TX4, 7, rfl, sX4_postIn_4, by decide, List.mem_of_getElem? (i := 2) rfl⟩
theorem fX4_postIn_18 : FK RX4 wsX4_postIn 18 4 2 := ⟨RX4, TX4, 7, rfl, sX4_postIn_4, by decide, List.mem_of_getElem? (i := 1) rfl⟩
set_option maxHeartbeats 4000000 in
set_option maxRecDepth 100000 in
theorem k_X4_postIn (D : DD) (o c l t : Nat) (N P : Int) (cap len lst : Int → Int) (s g0 g1 g2 g3 g4 g5 g6 : Nat) (f0 f1 f2 f3 f4 f5 f6 : Int → Int) (x a : Int) (hW : WI N P cap len lst) (hc : 0 ≤ x ∧ x < 64) (ha : 0 ≤ a ∧ a < N) : Con (S := Unit) D yX4_postIn wsX4_postIn ({ frames := 1, cells := 0, slots := 0, locals := 22 }) 0 0 [.ref s, .ref o, vi x, vi a] [(o, co 2 [vi N, vi P, .ref c, .ref l, .ref t]), (c, ca D 5 cap), (l, ca D 6 len), (t, ca D 30 lst), (s, co 4 [.ref g0, .ref g1, .ref g2, .ref g3, .ref g4, .ref g5, .ref g6]), (g0, ca D 6 f0), (g1, ca D 6 f1), (g2, ca D 6 f2), (g3, ca D 5 f3), (g4, ca D 5 f4), (g5, ca D 5 f5), (g6, ca D 64 f6)] (fun u => some (vi (pst N f1 f2 x a))) (fun u => True) (fun u => [(o, co 2 [vi N, vi P, .ref c, .ref l, .ref t]), (c, ca D 5 cap), (l, ca D 6 len), (t, ca D 30 lst), (s, co 4 [.ref g0, .ref g1, .ref g2, .ref g3, .ref g4, .ref g5, .ref g6]), (g0, ca D 6 f0), (g1, ca D 6 f1), (g2, ca D 6 f2), (g3, ca D 5 f3), (g4, ca D 5 f4), (g5, ca D 5 f5), (g6, ca D 64 f6)]) := by
  refine Con.of (cc := cX4_postIn) (nL := 4) (ret := (some .int)) rfl (by decide +kernel) (Nat.le_of_ble_eq_true rfl) ?_
  intro X A Q O hQ hin
  show G X D A 4 Q 0 0 0 [(0, .ref s), (1, .ref o), (2, vi x), (3, vi a)] [] [(o, co 2 [vi N, vi P, .ref c, .ref l, .ref t]), (c, ca D 5 cap), (l, ca D 6 len), (t, ca D 30 lst), (s, co 4 [.ref g0, .ref g1, .ref g2, .ref g3, .ref g4, .ref g5, .ref g6]), (g0, ca D 6 f0), (g1, ca D 6 f1), (g2, ca D 6 f2), (g3, ca D 5 f3), (g4, ca D 5 f4), (g5, ca D 5 f5), (g6, ca D 64 f6)]
  obtain ⟨hN, hcap, hlen, hlst, hdis⟩ := id hW
  refine g_aload_n O dX4_postIn_0 1 1 rfl rfl ?_
  refine g_iload_n O dX4_postIn_1 2 2 rfl rfl ?_
  refine g_iload_n O dX4_postIn_2 3 3 rfl rfl ?_
  refine g_callS (As := [.ref o, vi x, vi a]) (rest := []) (na := 3) O (k_X4_takesHigher D o c l t N P cap len lst x a hW (by omega) (by omega)) dX4_postIn_3 gX4_postIn_X4_takesHigher rfl ⟨rfl, rfl⟩ (by decide +kernel) rfl (by decide) (by decide) rfl (Nat.le_of_ble_eq_true rfl) [0, 1, 2, 3] (by decide) rfl (fun _ => rfl) (fun u => [(o, co 2 [vi N, vi P, .ref c, .ref l, .ref t]), (c, ca D 5 cap), (l, ca D 6 len), (t, ca D 30 lst), (s, co 4 [.ref g0, .ref g1, .ref g2, .ref g3, .ref g4, .ref g5, .ref g6]), (g0, ca D 6 f0), (g1, ca D 6 f1), (g2, ca D 6 f2), (g3, ca D 5 f3), (g4, ca D 5 f4), (g5, ca D 5 f5), (g6, ca D 64 f6)]) (fun _ => rfl) 6 rfl (fun u3 hu3 => ?_)
  obtain ⟨bz3, rfl⟩ : ∃ z, z = u3 := ⟨_, rfl⟩
  rcases hu3 with ⟨rfl, hb3⟩ | ⟨rfl, hb3⟩
  · skip
    have hb3 : bitc N x a = 1 := hb3
    show G X D A 4 Q 0 0 6 [(0, .ref s), (1, .ref o), (2, vi x), (3, vi a)] [vi 1] [(o, co 2 [vi N, vi P, .ref c, .ref l, .ref t]), (c, ca D 5 cap), (l, ca D 6 len), (t, ca D 30 lst), (s, co 4 [.ref g0, .ref g1, .ref g2, .ref g3, .ref g4, .ref g5, .ref g6]), (g0, ca D 6 f0), (g1, ca D 6 f1), (g2, ca D 6 f2), (g3, ca D 5 f3), (g4, ca D 5 f4), (g5, ca D 5 f5), (g6, ca D 64 f6)]
    refine g_if_eq O dX4_postIn_6 9 18 rfl rfl (by omega) (fun h => absurd h (by decide)) (fun _ => ?_)
    refine g_aload_n O dX4_postIn_9 10 0 rfl rfl ?_
    refine g_get O dX4_postIn_10 13 rfl fX4_postIn_18 4 rfl rfl ?_
    refine g_iload_n O dX4_postIn_13 14 3 rfl rfl ?_
    refine g_iald O dX4_postIn_14 15 rfl 7 rfl (by decide) (by omega) ?_
    refine g_goto O dX4_postIn_15 24 rfl ?_
    exact g_iret O hQ dX4_postIn_24 () (vi_eq (by unfold pst; split <;> omega)) rfl trivial ⟨by decide, by decide⟩
  · skip
    have hb3 : ¬ (bitc N x a = 1) := hb3
    show G X D A 4 Q 0 0 6 [(0, .ref s), (1, .ref o), (2, vi x), (3, vi a)] [vi 0] [(o, co 2 [vi N, vi P, .ref c, .ref l, .ref t]), (c, ca D 5 cap), (l, ca D 6 len), (t, ca D 30 lst), (s, co 4 [.ref g0, .ref g1, .ref g2, .ref g3, .ref g4, .ref g5, .ref g6]), (g0, ca D 6 f0), (g1, ca D 6 f1), (g2, ca D 6 f2), (g3, ca D 5 f3), (g4, ca D 5 f4), (g5, ca D 5 f5), (g6, ca D 64 f6)]
    refine g_if_eq O dX4_postIn_6 9 18 rfl rfl (by omega) (fun _ => ?_) (fun h => absurd h (by decide))
    refine g_aload_n O dX4_postIn_18 19 0 rfl rfl ?_
    refine g_get O dX4_postIn_19 22 rfl fX4_postIn_15 4 rfl rfl ?_
    refine g_iload_n O dX4_postIn_22 23 3 rfl rfl ?_
    refine g_iald O dX4_postIn_23 24 rfl 6 rfl (by decide) (by omega) ?_
    exact g_iret O hQ dX4_postIn_24 () (vi_eq (by unfold pst; split <;> omega)) rfl trivial ⟨by decide, by decide⟩
theorem sX4_count_4 : ∀ w ∈ wsX40, w ∈ wsX4_count := by decide +kernel
theorem fX4_count_24 : FK RX4 wsX4_count 24 4 4 := ⟨RX4, TX4, 7, rfl, sX4_count_4, by decide, List.mem_of_getElem? (i := 1) rfl⟩
theorem fX4_count_27 : FK RX4 wsX4_count 27 4 5 := ⟨RX4, TX4, 7, rfl, sX4_count_4, by decide, List.mem_of_getElem? (i := 3) rfl⟩
theorem fX4_count_9 : FK RX4 wsX4_count 9 4 0 := ⟨RX4, TX4, 7, rfl, sX4_count_4, by decide, List.mem_of_getElem? (i := 2) rfl⟩
set_option maxHeartbeats 4000000 in
set_option maxRecDepth 100000 in
theorem k_X4_count (D : DD) (s g0 g1 g2 g3 g4 g5 g6 : Nat) (f0 f1 f2 f3 f4 f5 f6 : Int → Int) (q a : Int) (hq : -1 ≤ q ∧ q < 5) (ha : 0 ≤ a ∧ a < 6) (hf : -2147483648 ≤ f0 a ∧ f0 a < 2147483648) : Con (S := Unit) D yX4_count wsX4_count ({ frames := 0, cells := 0, slots := 0, locals := 0 }) 0 0 [.ref s, vi q, vi a] [(s, co 4 [.ref g0, .ref g1, .ref g2, .ref g3, .ref g4, .ref g5, .ref g6]), (g0, ca D 6 f0), (g1, ca D 6 f1), (g2, ca D 6 f2), (g3, ca D 5 f3), (g4, ca D 5 f4), (g5, ca D 5 f5), (g6, ca D 64 f6)] (fun u => none) (fun u => True) (fun u => [(s, co 4 [.ref g0, .ref g1, .ref g2, .ref g3, .ref g4, .ref g5, .ref g6]), (g0, ca D 6 f0), (g1, ca D 6 f1), (g2, ca D 6 f2), (g3, ca D 5 f3), (g4, ca D 5 (icr f4 q True)), (g5, ca D 5 (icr f5 q (q = f0 a))), (g6, ca D 64 f6)]) := by
  refine Con.of (cc := cX4_count) (nL := 3) (ret := none) rfl (by decide +kernel) (Nat.le_of_ble_eq_true rfl) ?_
  intro X A Q O hQ hin
  show G X D A 3 Q 0 0 0 [(0, .ref s), (1, vi q), (2, vi a)] [] [(s, co 4 [.ref g0, .ref g1, .ref g2, .ref g3, .ref g4, .ref g5, .ref g6]), (g0, ca D 6 f0), (g1, ca D 6 f1), (g2, ca D 6 f2), (g3, ca D 5 f3), (g4, ca D 5 f4), (g5, ca D 5 f5), (g6, ca D 64 f6)]
  refine g_iload_n O dX4_count_0 1 1 rfl rfl ?_
  refine g_iconst O dX4_count_1 2 rfl ?_
  refine g_icmp_eq O dX4_count_2 5 35 rfl rfl (by omega) (fun h2 => ?_) (fun h2 => ?_)
  · skip
    refine g_arr 5 (icr f4 q True) rfl (fun kk q1 q2 => by first | exact (icr_f (by omega)).symm | (unfold up; split; rename_i c; rw [c]; exact (icr_t ⟨rfl, trivial⟩).symm; rename_i c; exact (icr_f (fun z => c z.1)).symm)) [(s, co 4 [.ref g0, .ref g1, .ref g2, .ref g3, .ref g4, .ref g5, .ref g6]), (g0, ca D 6 f0), (g1, ca D 6 f1), (g2, ca D 6 f2), (g3, ca D 5 f3), (g4, ca D 5 (icr f4 q True)), (g5, ca D 5 f5), (g6, ca D 64 f6)] rfl ?_
    refine g_arr 6 (icr f5 q (q = f0 a)) rfl (fun kk q1 q2 => by first | exact (icr_f (by omega)).symm | (unfold up; split; rename_i c; rw [c]; exact (icr_t ⟨rfl, h22⟩).symm; rename_i c; exact (icr_f (fun z => c z.1)).symm)) [(s, co 4 [.ref g0, .ref g1, .ref g2, .ref g3, .ref g4, .ref g5, .ref g6]), (g0, ca D 6 f0), (g1, ca D 6 f1), (g2, ca D 6 f2), (g3, ca D 5 f3), (g4, ca D 5 (icr f4 q True)), (g5, ca D 5 (icr f5 q (q = f0 a))), (g6, ca D 64 f6)] rfl ?_
    exact g_vret O hQ dX4_count_35 () rfl rfl trivial ⟨by decide, by decide⟩
  · skip
    refine g_aload_n O dX4_count_5 6 0 rfl rfl ?_
    refine g_get O dX4_count_6 9 rfl fX4_count_24 0 rfl rfl ?_
    refine g_iload_n O dX4_count_9 10 1 rfl rfl ?_
    refine g_dup2 O dX4_count_10 11 rfl rfl rfl ?_
    refine g_iald O dX4_count_11 12 rfl 5 rfl (by decide) (by omega) ?_
    refine g_iconst O dX4_count_12 13 rfl ?_
    refine g_iadd O dX4_count_13 14 rfl ?_
    refine g_iast O dX4_count_14 15 rfl 5 rfl (by decide) (by omega) [(s, co 4 [.ref g0, .ref g1, .ref g2, .ref g3, .ref g4, .ref g5, .ref g6]), (g0, ca D 6 f0), (g1, ca D 6 f1), (g2, ca D 6 f2), (g3, ca D 5 f3), (g4, ca D 5 (up f4 q ((f4 q) + 1))), (g5, ca D 5 f5), (g6, ca D 64 f6)] rfl ?_
    refine g_iload_n O dX4_count_15 16 1 rfl rfl ?_
    refine g_aload_n O dX4_count_16 17 0 rfl rfl ?_
    refine g_get O dX4_count_17 20 rfl fX4_count_9 0 rfl rfl ?_
    refine g_iload_n O dX4_count_20 21 2 rfl rfl ?_
    refine g_iald O dX4_count_21 22 rfl 1 rfl (by decide) (by omega) ?_
    refine g_icmp_ne O dX4_count_22 25 35 rfl rfl (by omega) (fun h22 => ?_) (fun h22 => ?_)
    · skip
      refine g_arr 5 (icr f4 q True) rfl (fun kk q1 q2 => by first | exact (icr_f (by omega)).symm | (unfold up; split; rename_i c; rw [c]; exact (icr_t ⟨rfl, trivial⟩).symm; rename_i c; exact (icr_f (fun z => c z.1)).symm)) [(s, co 4 [.ref g0, .ref g1, .ref g2, .ref g3, .ref g4, .ref g5, .ref g6]), (g0, ca D 6 f0), (g1, ca D 6 f1), (g2, ca D 6 f2), (g3, ca D 5 f3), (g4, ca D 5 (icr f4 q True)), (g5, ca D 5 f5), (g6, ca D 64 f6)] rfl ?_
      refine g_arr 6 (icr f5 q (q = f0 a)) rfl (fun kk q1 q2 => by first | exact (icr_f (by omega)).symm | (unfold up; split; rename_i c; rw [c]; exact (icr_t ⟨rfl, h22⟩).symm; rename_i c; exact (icr_f (fun z => c z.1)).symm)) [(s, co 4 [.ref g0, .ref g1, .ref g2, .ref g3, .ref g4, .ref g5, .ref g6]), (g0, ca D 6 f0), (g1, ca D 6 f1), (g2, ca D 6 f2), (g3, ca D 5 f3), (g4, ca D 5 (icr f4 q True)), (g5, ca D 5 (icr f5 q (q = f0 a))), (g6, ca D 64 f6)] rfl ?_
      exact g_vret O hQ dX4_count_35 () rfl rfl trivial ⟨by decide, by decide⟩
    · skip
      refine g_aload_n O dX4_count_25 26 0 rfl rfl ?_
      refine g_get O dX4_count_26 29 rfl fX4_count_27 0 rfl rfl ?_
      refine g_iload_n O dX4_count_29 30 1 rfl rfl ?_
      refine g_dup2 O dX4_count_30 31 rfl rfl rfl ?_
      refine g_iald O dX4_count_31 32 rfl 6 rfl (by decide) (by omega) ?_
      refine g_iconst O dX4_count_32 33 rfl ?_
      refine g_iadd O dX4_count_33 34 rfl ?_
      refine g_iast O dX4_count_34 35 rfl 6 rfl (by decide) (by omega) [(s, co 4 [.ref g0, .ref g1, .ref g2, .ref g3, .ref g4, .ref g5, .ref g6]), (g0, ca D 6 f0), (g1, ca D 6 f1), (g2, ca D 6 f2), (g3, ca D 5 f3), (g4, ca D 5 (up f4 q ((f4 q) + 1))), (g5, ca D 5 (up f5 q ((f5 q) + 1))), (g6, ca D 64 f6)] rfl ?_
      refine g_arr 5 (icr f4 q True) rfl (fun kk q1 q2 => by first | exact (icr_f (by omega)).symm | (unfold up; split; rename_i c; rw [c]; exact (icr_t ⟨rfl, trivial⟩).symm; rename_i c; exact (icr_f (fun z => c z.1)).symm)) [(s, co 4 [.ref g0, .ref g1, .ref g2, .ref g3, .ref g4, .ref g5, .ref g6]), (g0, ca D 6 f0), (g1, ca D 6 f1), (g2, ca D 6 f2), (g3, ca D 5 f3), (g4, ca D 5 (icr f4 q True)), (g5, ca D 5 (up f5 q ((f5 q) + 1))), (g6, ca D 64 f6)] rfl ?_
      refine g_arr 6 (icr f5 q (q = f0 a)) rfl (fun kk q1 q2 => by first | exact (icr_f (by omega)).symm | (unfold up; split; rename_i c; rw [c]; exact (icr_t ⟨rfl, h22⟩).symm; rename_i c; exact (icr_f (fun z => c z.1)).symm)) [(s, co 4 [.ref g0, .ref g1, .ref g2, .ref g3, .ref g4, .ref g5, .ref g6]), (g0, ca D 6 f0), (g1, ca D 6 f1), (g2, ca D 6 f2), (g3, ca D 5 f3), (g4, ca D 5 (icr f4 q True)), (g5, ca D 5 (icr f5 q (q = f0 a))), (g6, ca D 64 f6)] rfl ?_
      exact g_vret O hQ dX4_count_35 () rfl rfl trivial ⟨by decide, by decide⟩
theorem sX4_prepare_2 : ∀ w ∈ wsX20, w ∈ wsX4_prepare := by decide +kernel
theorem fX4_prepare_37 : FK RX4 wsX4_prepare 37 2 0 := ⟨RX2, TX2, 5, rfl, sX4_prepare_2, by decide, List.mem_of_getElem? (i := 1) rfl⟩
theorem fX4_prepare_66 : FK RX4 wsX4_prepare 66 2 1 := ⟨RX2, TX2, 5, rfl, sX4_prepare_2, by decide, List.mem_of_getElem? (i := 5) rfl⟩
theorem fX4_prepare_71 : FK RX4 wsX4_prepare 71 2 2 := ⟨RX2, TX2, 5, rfl, sX4_prepare_2, by decide, List.mem_of_getElem? (i := 7) rfl⟩
theorem sX4_prepare_4 : ∀ w ∈ wsX40, w ∈ wsX4_prepare := by decide +kernel
theorem fX4_prepare_15 : FK RX4 wsX4_prepare 15 4 1 := ⟨RX4, TX4, 7, rfl, sX4_prepare_4, by decide, List.mem_of_getElem? (i := 3) rfl⟩
theorem fX4_prepare_18 : FK RX4 wsX4_prepare 18 4 2 := ⟨RX4, TX4, 7, rfl, sX4_prepare_4, by decide, List.mem_of_getElem? (i := 4) rfl⟩
theorem fX4_prepare_21 : FK RX4 wsX4_prepare 21 4 3 := ⟨RX4, TX4, 7, rfl, sX4_prepare_4, by decide, List.mem_of_getElem? (i := 6) rfl⟩
theorem fX4_prepare_9 : FK RX4 wsX4_prepare 9 4 0 := ⟨RX4, TX4, 7, rfl, sX4_prepare_4, by decide, List.mem_of_getElem? (i := 2) rfl⟩
set_option maxHeartbeats 4000000 in
set_option maxRecDepth 100000 in
theorem k_X4_prepare (D : DD) (o c l t : Nat) (N P : Int) (cap len lst : Int → Int) (s g0 g1 g2 g3 g4 g5 g6 : Nat) (f0 f1 f2 f3 f4 f5 f6 : Int → Int) (hW : WI N P cap len lst) : Con (S := (Int → Int) × (Int → Int) × (Int → Int) × (Int → Int)) D yX4_prepare wsX4_prepare ({ frames := 4, cells := 0, slots := 0, locals := 89 }) 0 0 [.ref s, .ref o] [(o, co 2 [vi N, vi P, .ref c, .ref l, .ref t]), (c, ca D 5 cap), (l, ca D 6 len), (t, ca D 30 lst), (s, co 4 [.ref g0, .ref g1, .ref g2, .ref g3, .ref g4, .ref g5, .ref g6]), (g0, ca D 6 f0), (g1, ca D 6 f1), (g2, ca D 6 f2), (g3, ca D 5 f3), (g4, ca D 5 f4), (g5, ca D 5 f5), (g6, ca D 64 f6)] (fun u => none) (fun u => PRE N P cap len lst u.1 u.2.1 u.2.2.1 u.2.2.2) (fun u => [(o, co 2 [vi N, vi P, .ref c, .ref l, .ref t]), (c, ca D 5 cap), (l, ca D 6 len), (t, ca D 30 lst), (s, co 4 [.ref g0, .ref g1, .ref g2, .ref g3, .ref g4, .ref g5, .ref g6]), (g0, ca D 6 u.1), (g1, ca D 6 u.2.1), (g2, ca D 6 u.2.2.1), (g3, ca D 5 u.2.2.2), (g4, ca D 5 f4), (g5, ca D 5 f5), (g6, ca D 64 f6)]) := by
  refine Con.of (cc := cX4_prepare) (nL := 6) (ret := none) rfl (by decide +kernel) (Nat.le_of_ble_eq_true rfl) ?_
  intro X A Q O hQ hin
  show G X D A 6 Q 0 0 0 [(0, .ref s), (1, .ref o)] [] [(o, co 2 [vi N, vi P, .ref c, .ref l, .ref t]), (c, ca D 5 cap), (l, ca D 6 len), (t, ca D 30 lst), (s, co 4 [.ref g0, .ref g1, .ref g2, .ref g3, .ref g4, .ref g5, .ref g6]), (g0, ca D 6 f0), (g1, ca D 6 f1), (g2, ca D 6 f2), (g3, ca D 5 f3), (g4, ca D 5 f4), (g5, ca D 5 f5), (g6, ca D 64 f6)]
  obtain ⟨hN, hcap, hlen, hlst, hdis⟩ := id hW
  refine g_iconst O dX4_prepare_0 1 rfl ?_
  refine g_istore_n O dX4_prepare_1 2 [(0, .ref s), (1, .ref o), (2, vi 0)] rfl (by decide) rfl ?_
  have lp2 : ∀ (nn : Nat) (i : Int) (k0 : Int → Int) (k1 : Int → Int) (k2 : Int → Int), (0 ≤ i ∧ i ≤ N) → (∀ kk, 0 ≤ kk → kk < i → k0 kk = fp len lst kk ∧ k1 kk = plo N cap len lst kk ∧ k2 kk = phg N cap len lst kk) → (N - i < (nn : Int)) → G X D A 6 Q 0 0 2 [(0, .ref s), (1, .ref o), (2, vi i)] [] [(o, co 2 [vi N, vi P, .ref c, .ref l, .ref t]), (c, ca D 5 cap), (l, ca D 6 len), (t, ca D 30 lst), (s, co 4 [.ref g0, .ref g1, .ref g2, .ref g3, .ref g4, .ref g5, .ref g6]), (g0, ca D 6 k0), (g1, ca D 6 k1), (g2, ca D 6 k2), (g3, ca D 5 f3), (g4, ca D 5 f4), (g5, ca D 5 f5), (g6, ca D 64 f6)] := by
    intro nn
    induction nn with
    | zero =>
      intro i k0 k1 k2 h1 h2 hm2
      exact absurd hm2 (by omega)
    | succ nn ih2 =>
      intro i k0 k1 k2 h1 h2 hm2
      refine g_iload_n O dX4_prepare_2 3 2 rfl rfl ?_
      refine g_aload_n O dX4_prepare_3 4 1 rfl rfl ?_
      refine g_get O dX4_prepare_4 7 rfl fX4_prepare_37 0 rfl rfl ?_
      refine g_icmp_ge O dX4_prepare_7 10 94 rfl rfl (by omega) (fun h7 => ?_) (fun h7 => ?_)
      · skip
        refine g_iconst O dX4_prepare_94 95 rfl ?_
        refine g_istore_n O dX4_prepare_95 96 [(0, .ref s), (1, .ref o), (2, vi 0)] rfl (by decide) rfl ?_
        have lp96 : ∀ (nn : Nat) (j : Int) (k3 : Int → Int), (0 ≤ j ∧ j ≤ P) → (∀ kk, 0 ≤ kk → kk < j → k3 kk = wtd N cap len lst kk) → (P - j < (nn : Int)) → G X D A 6 Q 0 0 96 [(0, .ref s), (1, .ref o), (2, vi j)] [] [(o, co 2 [vi N, vi P, .ref c, .ref l, .ref t]), (c, ca D 5 cap), (l, ca D 6 len), (t, ca D 30 lst), (s, co 4 [.ref g0, .ref g1, .ref g2, .ref g3, .ref g4, .ref g5, .ref g6]), (g0, ca D 6 k0), (g1, ca D 6 k1), (g2, ca D 6 k2), (g3, ca D 5 k3), (g4, ca D 5 f4), (g5, ca D 5 f5), (g6, ca D 64 f6)] := by
          intro nn
          induction nn with
          | zero =>
            intro j k3 h3 h4 hm96
            exact absurd hm96 (by omega)
          | succ nn ih96 =>
            intro j k3 h3 h4 hm96
            refine g_iload_n O dX4_prepare_96 97 2 rfl rfl ?_
            refine g_aload_n O dX4_prepare_97 98 1 rfl rfl ?_
            refine g_get O dX4_prepare_98 101 rfl fX4_prepare_66 0 rfl rfl ?_
            refine g_icmp_ge O dX4_prepare_101 104 130 rfl rfl (by omega) (fun h101 => ?_) (fun h101 => ?_)
            · skip
              exact g_vret O hQ dX4_prepare_130 (k0, k1, k2, k3) rfl rfl (⟨fun kk q1 q2 => h2 kk q1 (by omega), fun kk q1 q2 => h4 kk q1 (by omega)⟩) ⟨by decide, by decide⟩
            · skip
              have hcj := hcap j (by omega) (by omega)
              have hcf := cf_bd N len lst j (by omega)
              refine g_aload_n O dX4_prepare_104 105 0 rfl rfl ?_
              refine g_get O dX4_prepare_105 108 rfl fX4_prepare_21 4 rfl rfl ?_
              refine g_iload_n O dX4_prepare_108 109 2 rfl rfl ?_
              refine g_aload_n O dX4_prepare_109 110 1 rfl rfl ?_
              refine g_iload_n O dX4_prepare_110 111 2 rfl rfl ?_
              refine g_callV (As := [vi j]) (rest := [vi j, .ref g3]) (na := 1) O (k_X2_countFirst D o c l t N P cap len lst j hW (by omega)) dX4_prepare_111 gX4_prepare_X2_countFirst rfl ⟨rfl, rfl⟩ (by decide +kernel) rfl (by decide) (by decide) rfl (Nat.le_of_ble_eq_true rfl) (q0 := 0) (ci := 2) rfl rfl [0, 1, 2, 3] (by decide) rfl (fun _ => rfl) (fun _ => [(o, co 2 [vi N, vi P, .ref c, .ref l, .ref t]), (c, ca D 5 cap), (l, ca D 6 len), (t, ca D 30 lst), (s, co 4 [.ref g0, .ref g1, .ref g2, .ref g3, .ref g4, .ref g5, .ref g6]), (g0, ca D 6 k0), (g1, ca D 6 k1), (g2, ca D 6 k2), (g3, ca D 5 k3), (g4, ca D 5 f4), (g5, ca D 5 f5), (g6, ca D 64 f6)]) (fun _ => rfl) 114 rfl (fun _ _ => ?_)
              show G X D A 6 Q 0 0 114 [(0, .ref s), (1, .ref o), (2, vi j)] [vi (cf N len lst j), vi j, .ref g3] [(o, co 2 [vi N, vi P, .ref c, .ref l, .ref t]), (c, ca D 5 cap), (l, ca D 6 len), (t, ca D 30 lst), (s, co 4 [.ref g0, .ref g1, .ref g2, .ref g3, .ref g4, .ref g5, .ref g6]), (g0, ca D 6 k0), (g1, ca D 6 k1), (g2, ca D 6 k2), (g3, ca D 5 k3), (g4, ca D 5 f4), (g5, ca D 5 f5), (g6, ca D 64 f6)]
              refine g_aload_n O dX4_prepare_114 115 1 rfl rfl ?_
              refine g_get O dX4_prepare_115 118 rfl fX4_prepare_71 0 rfl rfl ?_
              refine g_iload_n O dX4_prepare_118 119 2 rfl rfl ?_
              refine g_iald O dX4_prepare_119 120 rfl 1 rfl (by decide) (by omega) ?_
              refine g_min O dX4_prepare_120 123 rfl (List.mem_of_getElem? (i := 8) rfl) (List.mem_of_getElem? (i := 9) rfl) (List.mem_of_getElem? (i := 10) rfl) (List.mem_of_getElem? (i := 11) rfl) (by decide) (Nat.le_of_ble_eq_true rfl) (by decide) (by decide) (by omega) ?_
              refine g_iast O dX4_prepare_123 124 rfl 8 rfl (by decide) (by omega) [(o, co 2 [vi N, vi P, .ref c, .ref l, .ref t]), (c, ca D 5 cap), (l, ca D 6 len), (t, ca D 30 lst), (s, co 4 [.ref g0, .ref g1, .ref g2, .ref g3, .ref g4, .ref g5, .ref g6]), (g0, ca D 6 k0), (g1, ca D 6 k1), (g2, ca D 6 k2), (g3, ca D 5 (up k3 j (if (cap j) < (cf N len lst j) then cap j else cf N len lst j))), (g4, ca D 5 f4), (g5, ca D 5 f5), (g6, ca D 64 f6)] rfl ?_
              refine g_iinc O dX4_prepare_124 127 2 [(0, .ref s), (1, .ref o), (2, vi (j + 1))] rfl (by decide) rfl rfl ?_
              refine g_goto O dX4_prepare_127 96 rfl ?_
              exact ih96 (j + 1) (up k3 j (if (cap j) < (cf N len lst j) then cap j else cf N len lst j)) (by omega) (up_inv2 (g := wtd N cap len lst) h4) (by omega)
        exact lp96 1000 0 f3 (by omega) (fun kk q1 q2 => absurd q2 (by omega)) (by omega)
      · skip
        have hfb := fp_bd hW (a := i) (by omega) (by omega)
        have hsb := sp_bd hW (N := N) (a := i) (by omega) (by omega)
        refine g_aload_n O dX4_prepare_10 11 1 rfl rfl ?_
        refine g_iload_n O dX4_prepare_11 12 2 rfl rfl ?_
        refine g_callV (As := [vi i]) (rest := []) (na := 1) O (k_X2_firstOf D o c l t N P cap len lst i hW (by omega)) dX4_prepare_12 gX4_prepare_X2_firstOf rfl ⟨rfl, rfl⟩ (by decide +kernel) rfl (by decide) (by decide) rfl (Nat.le_of_ble_eq_true rfl) (q0 := 0) (ci := 2) rfl rfl [0, 1, 2, 3] (by decide) rfl (fun _ => rfl) (fun _ => [(o, co 2 [vi N, vi P, .ref c, .ref l, .ref t]), (c, ca D 5 cap), (l, ca D 6 len), (t, ca D 30 lst), (s, co 4 [.ref g0, .ref g1, .ref g2, .ref g3, .ref g4, .ref g5, .ref g6]), (g0, ca D 6 k0), (g1, ca D 6 k1), (g2, ca D 6 k2), (g3, ca D 5 f3), (g4, ca D 5 f4), (g5, ca D 5 f5), (g6, ca D 64 f6)]) (fun _ => rfl) 15 rfl (fun _ _ => ?_)
        show G X D A 6 Q 0 0 15 [(0, .ref s), (1, .ref o), (2, vi i)] [vi (fp len lst i)] [(o, co 2 [vi N, vi P, .ref c, .ref l, .ref t]), (c, ca D 5 cap), (l, ca D 6 len), (t, ca D 30 lst), (s, co 4 [.ref g0, .ref g1, .ref g2, .ref g3, .ref g4, .ref g5, .ref g6]), (g0, ca D 6 k0), (g1, ca D 6 k1), (g2, ca D 6 k2), (g3, ca D 5 f3), (g4, ca D 5 f4), (g5, ca D 5 f5), (g6, ca D 64 f6)]
        refine g_istore_n O dX4_prepare_15 16 [(0, .ref s), (1, .ref o), (2, vi i), (3, vi (fp len lst i))] rfl (by decide) rfl ?_
        refine g_aload_n O dX4_prepare_16 17 1 rfl rfl ?_
        refine g_iload_n O dX4_prepare_17 18 2 rfl rfl ?_
        refine g_callV (As := [vi i]) (rest := []) (na := 1) O (k_X2_secondOf D o c l t N P cap len lst i hW (by omega)) dX4_prepare_18 gX4_prepare_X2_secondOf rfl ⟨rfl, rfl⟩ (by decide +kernel) rfl (by decide) (by decide) rfl (Nat.le_of_ble_eq_true rfl) (q0 := 0) (ci := 2) rfl rfl [0, 1, 2, 3] (by decide) rfl (fun _ => rfl) (fun _ => [(o, co 2 [vi N, vi P, .ref c, .ref l, .ref t]), (c, ca D 5 cap), (l, ca D 6 len), (t, ca D 30 lst), (s, co 4 [.ref g0, .ref g1, .ref g2, .ref g3, .ref g4, .ref g5, .ref g6]), (g0, ca D 6 k0), (g1, ca D 6 k1), (g2, ca D 6 k2), (g3, ca D 5 f3), (g4, ca D 5 f4), (g5, ca D 5 f5), (g6, ca D 64 f6)]) (fun _ => rfl) 21 rfl (fun _ _ => ?_)
        show G X D A 6 Q 0 0 21 [(0, .ref s), (1, .ref o), (2, vi i), (3, vi (fp len lst i))] [vi (sp N cap len lst i)] [(o, co 2 [vi N, vi P, .ref c, .ref l, .ref t]), (c, ca D 5 cap), (l, ca D 6 len), (t, ca D 30 lst), (s, co 4 [.ref g0, .ref g1, .ref g2, .ref g3, .ref g4, .ref g5, .ref g6]), (g0, ca D 6 k0), (g1, ca D 6 k1), (g2, ca D 6 k2), (g3, ca D 5 f3), (g4, ca D 5 f4), (g5, ca D 5 f5), (g6, ca D 64 f6)]
        refine g_istore O dX4_prepare_21 23 [(0, .ref s), (1, .ref o), (2, vi i), (3, vi (fp len lst i)), (4, vi (sp N cap len lst i))] rfl (by decide) rfl ?_
        have lp45 : ∀ (y : Int), (y = isl N cap len lst i) → G X D A 6 Q 0 0 45 [(0, .ref s), (1, .ref o), (2, vi i), (3, vi (fp len lst i)), (4, vi (sp N cap len lst i))] [vi y] [(o, co 2 [vi N, vi P, .ref c, .ref l, .ref t]), (c, ca D 5 cap), (l, ca D 6 len), (t, ca D 30 lst), (s, co 4 [.ref g0, .ref g1, .ref g2, .ref g3, .ref g4, .ref g5, .ref g6]), (g0, ca D 6 k0), (g1, ca D 6 k1), (g2, ca D 6 k2), (g3, ca D 5 f3), (g4, ca D 5 f4), (g5, ca D 5 f5), (g6, ca D 64 f6)] := by
          intro y hy
          refine g_istore O dX4_prepare_45 47 [(0, .ref s), (1, .ref o), (2, vi i), (3, vi (fp len lst i)), (4, vi (sp N cap len lst i)), (5, vi y)] rfl (by decide) rfl ?_
          have hi01 : isl N cap len lst i = 0 ∨ isl N cap len lst i = 1 := by unfold isl; split <;> omega
          refine g_aload_n O dX4_prepare_47 48 0 rfl rfl ?_
          refine g_get O dX4_prepare_48 51 rfl fX4_prepare_9 4 rfl rfl ?_
          refine g_iload_n O dX4_prepare_51 52 2 rfl rfl ?_
          refine g_iload_n O dX4_prepare_52 53 3 rfl rfl ?_
          refine g_iast O dX4_prepare_53 54 rfl 5 rfl (by decide) (by omega) [(o, co 2 [vi N, vi P, .ref c, .ref l, .ref t]), (c, ca D 5 cap), (l, ca D 6 len), (t, ca D 30 lst), (s, co 4 [.ref g0, .ref g1, .ref g2, .ref g3, .ref g4, .ref g5, .ref g6]), (g0, ca D 6 (up k0 i (fp len lst i))), (g1, ca D 6 k1), (g2, ca D 6 k2), (g3, ca D 5 f3), (g4, ca D 5 f4), (g5, ca D 5 f5), (g6, ca D 64 f6)] rfl ?_
          refine g_aload_n O dX4_prepare_54 55 0 rfl rfl ?_
          refine g_get O dX4_prepare_55 58 rfl fX4_prepare_15 4 rfl rfl ?_
          refine g_iload_n O dX4_prepare_58 59 2 rfl rfl ?_
          refine g_iload O dX4_prepare_59 61 5 rfl rfl ?_
          refine g_if_eq O dX4_prepare_61 64 68 rfl rfl (by omega) (fun h61 => ?_) (fun h61 => ?_)
          · skip
            refine g_iload O dX4_prepare_68 70 4 rfl rfl ?_
            refine g_iast O dX4_prepare_70 71 rfl 6 rfl (by decide) (by omega) [(o, co 2 [vi N, vi P, .ref c, .ref l, .ref t]), (c, ca D 5 cap), (l, ca D 6 len), (t, ca D 30 lst), (s, co 4 [.ref g0, .ref g1, .ref g2, .ref g3, .ref g4, .ref g5, .ref g6]), (g0, ca D 6 (up k0 i (fp len lst i))), (g1, ca D 6 (up k1 i (sp N cap len lst i))), (g2, ca D 6 k2), (g3, ca D 5 f3), (g4, ca D 5 f4), (g5, ca D 5 f5), (g6, ca D 64 f6)] rfl ?_
            refine g_aload_n O dX4_prepare_71 72 0 rfl rfl ?_
            refine g_get O dX4_prepare_72 75 rfl fX4_prepare_18 4 rfl rfl ?_
            refine g_iload_n O dX4_prepare_75 76 2 rfl rfl ?_
            refine g_iload O dX4_prepare_76 78 5 rfl rfl ?_
            refine g_if_eq O dX4_prepare_78 81 86 rfl rfl (by omega) (fun h78 => ?_) (fun h78 => ?_)
            · skip
              refine g_iload_n O dX4_prepare_86 87 3 rfl rfl ?_
              refine g_iast O dX4_prepare_87 88 rfl 7 rfl (by decide) (by omega) [(o, co 2 [vi N, vi P, .ref c, .ref l, .ref t]), (c, ca D 5 cap), (l, ca D 6 len), (t, ca D 30 lst), (s, co 4 [.ref g0, .ref g1, .ref g2, .ref g3, .ref g4, .ref g5, .ref g6]), (g0, ca D 6 (up k0 i (fp len lst i))), (g1, ca D 6 (up k1 i (sp N cap len lst i))), (g2, ca D 6 (up k2 i (fp len lst i))), (g3, ca D 5 f3), (g4, ca D 5 f4), (g5, ca D 5 f5), (g6, ca D 64 f6)] rfl ?_
              refine g_iinc O dX4_prepare_88 91 2 [(0, .ref s), (1, .ref o), (2, vi (i + 1)), (3, vi (fp len lst i)), (4, vi (sp N cap len lst i)), (5, vi y)] rfl (by decide) rfl rfl ?_
              refine g_goto O dX4_prepare_91 2 rfl ?_
              refine g_loc (L' := [(0, .ref s), (1, .ref o), (2, vi (i + 1))]) [0, 1, 2] rfl ?_
              exact ih2 (i + 1) (up k0 i (fp len lst i)) (up k1 i (sp N cap len lst i)) (up k2 i (fp len lst i)) (by omega) (fun kk q1 q2 => by by_cases e : kk = i; subst e; rw [up_s, up_s, up_s]; exact ⟨rfl, by first | exact absurd h61 h78 | exact absurd h78 h61 | exact isl_0 (by omega) | exact isl_1 (by omega)⟩; rw [up_n e, up_n e, up_n e]; exact h2 kk q1 (by omega)) (by omega)
            · skip
              refine g_iload O dX4_prepare_81 83 4 rfl rfl ?_
              refine g_goto O dX4_prepare_83 87 rfl ?_
              refine g_iast O dX4_prepare_87 88 rfl 7 rfl (by decide) (by omega) [(o, co 2 [vi N, vi P, .ref c, .ref l, .ref t]), (c, ca D 5 cap), (l, ca D 6 len), (t, ca D 30 lst), (s, co 4 [.ref g0, .ref g1, .ref g2, .ref g3, .ref g4, .ref g5, .ref g6]), (g0, ca D 6 (up k0 i (fp len lst i))), (g1, ca D 6 (up k1 i (sp N cap len lst i))), (g2, ca D 6 (up k2 i (sp N cap len lst i))), (g3, ca D 5 f3), (g4, ca D 5 f4), (g5, ca D 5 f5), (g6, ca D 64 f6)] rfl ?_
              refine g_iinc O dX4_prepare_88 91 2 [(0, .ref s), (1, .ref o), (2, vi (i + 1)), (3, vi (fp len lst i)), (4, vi (sp N cap len lst i)), (5, vi y)] rfl (by decide) rfl rfl ?_
              refine g_goto O dX4_prepare_91 2 rfl ?_
              refine g_loc (L' := [(0, .ref s), (1, .ref o), (2, vi (i + 1))]) [0, 1, 2] rfl ?_
              exact ih2 (i + 1) (up k0 i (fp len lst i)) (up k1 i (sp N cap len lst i)) (up k2 i (sp N cap len lst i)) (by omega) (fun kk q1 q2 => by by_cases e : kk = i; subst e; rw [up_s, up_s, up_s]; exact ⟨rfl, by first | exact absurd h61 h78 | exact absurd h78 h61 | exact isl_0 (by omega) | exact isl_1 (by omega)⟩; rw [up_n e, up_n e, up_n e]; exact h2 kk q1 (by omega)) (by omega)
          · skip
            refine g_iload_n O dX4_prepare_64 65 3 rfl rfl ?_
            refine g_goto O dX4_prepare_65 70 rfl ?_
            refine g_iast O dX4_prepare_70 71 rfl 6 rfl (by decide) (by omega) [(o, co 2 [vi N, vi P, .ref c, .ref l, .ref t]), (c, ca D 5 cap), (l, ca D 6 len), (t, ca D 30 lst), (s, co 4 [.ref g0, .ref g1, .ref g2, .ref g3, .ref g4, .ref g5, .ref g6]), (g0, ca D 6 (up k0 i (fp len lst i))), (g1, ca D 6 (up k1 i (fp len lst i))), (g2, ca D 6 k2), (g3, ca D 5 f3), (g4, ca D 5 f4), (g5, ca D 5 f5), (g6, ca D 64 f6)] rfl ?_
            refine g_aload_n O dX4_prepare_71 72 0 rfl rfl ?_
            refine g_get O dX4_prepare_72 75 rfl fX4_prepare_18 4 rfl rfl ?_
            refine g_iload_n O dX4_prepare_75 76 2 rfl rfl ?_
            refine g_iload O dX4_prepare_76 78 5 rfl rfl ?_
            refine g_if_eq O dX4_prepare_78 81 86 rfl rfl (by omega) (fun h78 => ?_) (fun h78 => ?_)
            · skip
              refine g_iload_n O dX4_prepare_86 87 3 rfl rfl ?_
              refine g_iast O dX4_prepare_87 88 rfl 7 rfl (by decide) (by omega) [(o, co 2 [vi N, vi P, .ref c, .ref l, .ref t]), (c, ca D 5 cap), (l, ca D 6 len), (t, ca D 30 lst), (s, co 4 [.ref g0, .ref g1, .ref g2, .ref g3, .ref g4, .ref g5, .ref g6]), (g0, ca D 6 (up k0 i (fp len lst i))), (g1, ca D 6 (up k1 i (fp len lst i))), (g2, ca D 6 (up k2 i (fp len lst i))), (g3, ca D 5 f3), (g4, ca D 5 f4), (g5, ca D 5 f5), (g6, ca D 64 f6)] rfl ?_
              refine g_iinc O dX4_prepare_88 91 2 [(0, .ref s), (1, .ref o), (2, vi (i + 1)), (3, vi (fp len lst i)), (4, vi (sp N cap len lst i)), (5, vi y)] rfl (by decide) rfl rfl ?_
              refine g_goto O dX4_prepare_91 2 rfl ?_
              refine g_loc (L' := [(0, .ref s), (1, .ref o), (2, vi (i + 1))]) [0, 1, 2] rfl ?_
              exact ih2 (i + 1) (up k0 i (fp len lst i)) (up k1 i (fp len lst i)) (up k2 i (fp len lst i)) (by omega) (fun kk q1 q2 => by by_cases e : kk = i; subst e; rw [up_s, up_s, up_s]; exact ⟨rfl, by first | exact absurd h61 h78 | exact absurd h78 h61 | exact isl_0 (by omega) | exact isl_1 (by omega)⟩; rw [up_n e, up_n e, up_n e]; exact h2 kk q1 (by omega)) (by omega)
            · skip
              refine g_iload O dX4_prepare_81 83 4 rfl rfl ?_
              refine g_goto O dX4_prepare_83 87 rfl ?_
              refine g_iast O dX4_prepare_87 88 rfl 7 rfl (by decide) (by omega) [(o, co 2 [vi N, vi P, .ref c, .ref l, .ref t]), (c, ca D 5 cap), (l, ca D 6 len), (t, ca D 30 lst), (s, co 4 [.ref g0, .ref g1, .ref g2, .ref g3, .ref g4, .ref g5, .ref g6]), (g0, ca D 6 (up k0 i (fp len lst i))), (g1, ca D 6 (up k1 i (fp len lst i))), (g2, ca D 6 (up k2 i (sp N cap len lst i))), (g3, ca D 5 f3), (g4, ca D 5 f4), (g5, ca D 5 f5), (g6, ca D 64 f6)] rfl ?_
              refine g_iinc O dX4_prepare_88 91 2 [(0, .ref s), (1, .ref o), (2, vi (i + 1)), (3, vi (fp len lst i)), (4, vi (sp N cap len lst i)), (5, vi y)] rfl (by decide) rfl rfl ?_
              refine g_goto O dX4_prepare_91 2 rfl ?_
              refine g_loc (L' := [(0, .ref s), (1, .ref o), (2, vi (i + 1))]) [0, 1, 2] rfl ?_
              exact ih2 (i + 1) (up k0 i (fp len lst i)) (up k1 i (fp len lst i)) (up k2 i (sp N cap len lst i)) (by omega) (fun kk q1 q2 => by by_cases e : kk = i; subst e; rw [up_s, up_s, up_s]; exact ⟨rfl, by first | exact absurd h61 h78 | exact absurd h78 h61 | exact isl_0 (by omega) | exact isl_1 (by omega)⟩; rw [up_n e, up_n e, up_n e]; exact h2 kk q1 (by omega)) (by omega)
        refine g_iload O dX4_prepare_23 25 4 rfl rfl ?_
        refine g_iconst O dX4_prepare_25 26 rfl ?_
        refine g_icmp_eq O dX4_prepare_26 29 40 rfl rfl (by omega) (fun h26 => ?_) (fun h26 => ?_)
        · skip
          refine g_iconst O dX4_prepare_40 41 rfl ?_
          refine g_goto O dX4_prepare_41 45 rfl ?_
          exact lp45 1 (by unfold isl; first | (rw [if_pos (by omega)]) | (rw [if_neg (by omega)]))
        · skip
          refine g_iload_n O dX4_prepare_29 30 3 rfl rfl ?_
          refine g_iconst O dX4_prepare_30 31 rfl ?_
          refine g_icmp_eq O dX4_prepare_31 34 44 rfl rfl (by omega) (fun h31 => ?_) (fun h31 => ?_)
          · skip
            refine g_iconst O dX4_prepare_44 45 rfl ?_
            exact lp45 0 (by unfold isl; first | (rw [if_pos (by omega)]) | (rw [if_neg (by omega)]))
          · skip
            refine g_iload_n O dX4_prepare_34 35 3 rfl rfl ?_
            refine g_iload O dX4_prepare_35 37 4 rfl rfl ?_
            refine g_icmp_ge O dX4_prepare_37 40 44 rfl rfl (by omega) (fun h37 => ?_) (fun h37 => ?_)
            · skip
              refine g_iconst O dX4_prepare_44 45 rfl ?_
              exact lp45 0 (by unfold isl; first | (rw [if_pos (by omega)]) | (rw [if_neg (by omega)]))
            · skip
              refine g_iconst O dX4_prepare_40 41 rfl ?_
              refine g_goto O dX4_prepare_41 45 rfl ?_
              exact lp45 1 (by unfold isl; first | (rw [if_pos (by omega)]) | (rw [if_neg (by omega)]))
  exact lp2 1000 0 f0 f1 f2 (by omega) (fun kk q1 q2 => absurd q2 (by omega)) (by omega)
theorem sX4_isPopular_2 : ∀ w ∈ wsX20, w ∈ wsX4_isPopular := by decide +kernel
theorem fX4_isPopular_37 : FK RX4 wsX4_isPopular 37 2 0 := ⟨RX2, TX2, 5, rfl, sX4_isPopular_2, by decide, List.mem_of_getElem? (i := 4) rfl⟩
theorem fX4_isPopular_66 : FK RX4 wsX4_isPopular 66 2 1 := ⟨RX2, TX2, 5, rfl, sX4_isPopular_2, by decide, List.mem_of_getElem? (i := 1) rfl⟩
theorem fX4_isPopular_71 : FK RX4 wsX4_isPopular 71 2 2 := ⟨RX2, TX2, 5, rfl, sX4_isPopular_2, by decide, List.mem_of_getElem? (i := 7) rfl⟩
theorem sX4_isPopular_4 : ∀ w ∈ wsX40, w ∈ wsX4_isPopular := by decide +kernel
theorem fX4_isPopular_15 : FK RX4 wsX4_isPopular 15 4 1 := ⟨RX4, TX4, 7, rfl, sX4_isPopular_4, by decide, List.mem_of_getElem? (i := 5) rfl⟩
theorem fX4_isPopular_18 : FK RX4 wsX4_isPopular 18 4 2 := ⟨RX4, TX4, 7, rfl, sX4_isPopular_4, by decide, List.mem_of_getElem? (i := 6) rfl⟩
theorem fX4_isPopular_21 : FK RX4 wsX4_isPopular 21 4 3 := ⟨RX4, TX4, 7, rfl, sX4_isPopular_4, by decide, List.mem_of_getElem? (i := 8) rfl⟩
theorem fX4_isPopular_24 : FK RX4 wsX4_isPopular 24 4 4 := ⟨RX4, TX4, 7, rfl, sX4_isPopular_4, by decide, List.mem_of_getElem? (i := 2) rfl⟩
theorem fX4_isPopular_27 : FK RX4 wsX4_isPopular 27 4 5 := ⟨RX4, TX4, 7, rfl, sX4_isPopular_4, by decide, List.mem_of_getElem? (i := 3) rfl⟩
set_option maxHeartbeats 4000000 in
set_option maxRecDepth 100000 in
theorem k_X4_isPopular (D : DD) (o c l t : Nat) (N P : Int) (cap len lst : Int → Int) (s g0 g1 g2 g3 g4 g5 g6 : Nat) (f0 f1 f2 f3 f4 f5 f6 : Int → Int) (x : Int) (hW : WI N P cap len lst) (hpre : PRE N P cap len lst f0 f1 f2 f3) (hc : 0 ≤ x ∧ x < 64) : Con (S := Int × (Int → Int) × (Int → Int)) D yX4_isPopular wsX4_isPopular ({ frames := 2, cells := 0, slots := 0, locals := 45 }) 0 0 [.ref s, .ref o, vi x] [(o, co 2 [vi N, vi P, .ref c, .ref l, .ref t]), (c, ca D 5 cap), (l, ca D 6 len), (t, ca D 30 lst), (s, co 4 [.ref g0, .ref g1, .ref g2, .ref g3, .ref g4, .ref g5, .ref g6]), (g0, ca D 6 f0), (g1, ca D 6 f1), (g2, ca D 6 f2), (g3, ca D 5 f3), (g4, ca D 5 f4), (g5, ca D 5 f5), (g6, ca D 64 f6)] (fun u => some (vi u.1)) (fun u => ((u.1 = 1 ∧ (PopC N P cap len lst x)) ∨ (u.1 = 0 ∧ ¬ (PopC N P cap len lst x)))) (fun u => [(o, co 2 [vi N, vi P, .ref c, .ref l, .ref t]), (c, ca D 5 cap), (l, ca D 6 len), (t, ca D 30 lst), (s, co 4 [.ref g0, .ref g1, .ref g2, .ref g3, .ref g4, .ref g5, .ref g6]), (g0, ca D 6 f0), (g1, ca D 6 f1), (g2, ca D 6 f2), (g3, ca D 5 f3), (g4, ca D 5 u.2.1), (g5, ca D 5 u.2.2), (g6, ca D 64 f6)]) := by
  refine Con.of (cc := cX4_isPopular) (nL := 5) (ret := (some .boolean)) rfl (by decide +kernel) (Nat.le_of_ble_eq_true rfl) ?_
  intro X A Q O hQ hin
  show G X D A 5 Q 0 0 0 [(0, .ref s), (1, .ref o), (2, vi x)] [] [(o, co 2 [vi N, vi P, .ref c, .ref l, .ref t]), (c, ca D 5 cap), (l, ca D 6 len), (t, ca D 30 lst), (s, co 4 [.ref g0, .ref g1, .ref g2, .ref g3, .ref g4, .ref g5, .ref g6]), (g0, ca D 6 f0), (g1, ca D 6 f1), (g2, ca D 6 f2), (g3, ca D 5 f3), (g4, ca D 5 f4), (g5, ca D 5 f5), (g6, ca D 64 f6)]
  obtain ⟨hN, hcap, hlen, hlst, hdis⟩ := id hW
  refine g_iconst O dX4_isPopular_0 1 rfl ?_
  refine g_istore_n O dX4_isPopular_1 2 [(0, .ref s), (1, .ref o), (2, vi x), (3, vi 0)] rfl (by decide) rfl ?_
  have lp2 : ∀ (nn : Nat) (j : Int) (k4 : Int → Int) (k5 : Int → Int), (0 ≤ j ∧ j ≤ P) → (∀ kk, 0 ≤ kk → kk < j → k4 kk = 0 ∧ k5 kk = 0) → (P - j < (nn : Int)) → G X D A 5 Q 0 0 2 [(0, .ref s), (1, .ref o), (2, vi x), (3, vi j)] [] [(o, co 2 [vi N, vi P, .ref c, .ref l, .ref t]), (c, ca D 5 cap), (l, ca D 6 len), (t, ca D 30 lst), (s, co 4 [.ref g0, .ref g1, .ref g2, .ref g3, .ref g4, .ref g5, .ref g6]), (g0, ca D 6 f0), (g1, ca D 6 f1), (g2, ca D 6 f2), (g3, ca D 5 f3), (g4, ca D 5 k4), (g5, ca D 5 k5), (g6, ca D 64 f6)] := by
    intro nn
    induction nn with
    | zero =>
      intro j k4 k5 h1 h2 hm2
      exact absurd hm2 (by omega)
    | succ nn ih2 =>
      intro j k4 k5 h1 h2 hm2
      refine g_iload_n O dX4_isPopular_2 3 3 rfl rfl ?_
      refine g_aload_n O dX4_isPopular_3 4 1 rfl rfl ?_
      refine g_get O dX4_isPopular_4 7 rfl fX4_isPopular_66 0 rfl rfl ?_
      refine g_icmp_ge O dX4_isPopular_7 10 30 rfl rfl (by omega) (fun h7 => ?_) (fun h7 => ?_)
      · skip
        refine g_iconst O dX4_isPopular_30 31 rfl ?_
        refine g_istore_n O dX4_isPopular_31 32 [(0, .ref s), (1, .ref o), (2, vi x), (3, vi 0)] rfl (by decide) rfl ?_
        have lp32 : ∀ (nn : Nat) (i : Int) (m4 : Int → Int) (m5 : Int → Int), (0 ≤ i ∧ i ≤ N) → (∀ p, 0 ≤ p → p < P → m4 p = sm (hon (pcs N cap len lst x) p) i ∧ m5 p = sm (han (pcs N cap len lst x) (fp len lst) p) i) → (∀ a, 0 ≤ a → a < i → ¬ (plo N cap len lst a = phg N cap len lst a ∧ bitc N x a = 1)) → (N - i < (nn : Int)) → G X D A 5 Q 0 0 32 [(0, .ref s), (1, .ref o), (2, vi x), (3, vi i)] [] [(o, co 2 [vi N, vi P, .ref c, .ref l, .ref t]), (c, ca D 5 cap), (l, ca D 6 len), (t, ca D 30 lst), (s, co 4 [.ref g0, .ref g1, .ref g2, .ref g3, .ref g4, .ref g5, .ref g6]), (g0, ca D 6 f0), (g1, ca D 6 f1), (g2, ca D 6 f2), (g3, ca D 5 f3), (g4, ca D 5 m4), (g5, ca D 5 m5), (g6, ca D 64 f6)] := by
          intro nn
          induction nn with
          | zero =>
            intro i m4 m5 h3 h4 h5 hm32
            exact absurd hm32 (by omega)
          | succ nn ih32 =>
            intro i m4 m5 h3 h4 h5 hm32
            refine g_iload_n O dX4_isPopular_32 33 3 rfl rfl ?_
            refine g_aload_n O dX4_isPopular_33 34 1 rfl rfl ?_
            refine g_get O dX4_isPopular_34 37 rfl fX4_isPopular_37 0 rfl rfl ?_
            refine g_icmp_ge O dX4_isPopular_37 40 96 rfl rfl (by omega) (fun h37 => ?_) (fun h37 => ?_)
            · skip
              refine g_iconst O dX4_isPopular_96 97 rfl ?_
              refine g_istore_n O dX4_isPopular_97 98 [(0, .ref s), (1, .ref o), (2, vi x), (3, vi 0)] rfl (by decide) rfl ?_
              have lp98 : ∀ (nn : Nat) (j : Int), (0 ≤ j ∧ j ≤ P) → (∀ p, 0 ≤ p → p < j → sm (hon (pcs N cap len lst x) p) N ≤ cap p ∧ sm (han (pcs N cap len lst x) (fp len lst) p) N = wtd N cap len lst p) → (P - j < (nn : Int)) → G X D A 5 Q 0 0 98 [(0, .ref s), (1, .ref o), (2, vi x), (3, vi j)] [] [(o, co 2 [vi N, vi P, .ref c, .ref l, .ref t]), (c, ca D 5 cap), (l, ca D 6 len), (t, ca D 30 lst), (s, co 4 [.ref g0, .ref g1, .ref g2, .ref g3, .ref g4, .ref g5, .ref g6]), (g0, ca D 6 f0), (g1, ca D 6 f1), (g2, ca D 6 f2), (g3, ca D 5 f3), (g4, ca D 5 m4), (g5, ca D 5 m5), (g6, ca D 64 f6)] := by
                intro nn
                induction nn with
                | zero =>
                  intro j h6 h7 hm98
                  exact absurd hm98 (by omega)
                | succ nn ih98 =>
                  intro j h6 h7 hm98
                  refine g_iload_n O dX4_isPopular_98 99 3 rfl rfl ?_
                  refine g_aload_n O dX4_isPopular_99 100 1 rfl rfl ?_
                  refine g_get O dX4_isPopular_100 103 rfl fX4_isPopular_66 0 rfl rfl ?_
                  refine g_icmp_ge O dX4_isPopular_103 106 144 rfl rfl (by omega) (fun h103 => ?_) (fun h103 => ?_)
                  · skip
                    refine g_iconst O dX4_isPopular_144 145 rfl ?_
                    exact g_zret O hQ dX4_isPopular_145 (by decide +kernel) (1, m4, m5) rfl rfl (Or.inl ⟨rfl, ⟨fun a q1 q2 => h5 a q1 (by omega), fun p q1 q2 => h7 p q1 (by omega)⟩⟩) ⟨by decide, by decide⟩
                  · skip
                    have hiN : i = N := by omega
                    have hp4 := h4 j (by omega) (by omega)
                    rw [hiN] at hp4
                    have hcj := hcap j (by omega) (by omega)
                    have hsb := sm_bd (hon_bd (pcs N cap len lst x) j) (i := N) (by omega)
                    have hsa := sm_bd (han_bd (pcs N cap len lst x) (fp len lst) j) (i := N) (by omega)
                    have hpw := hpre.2 j (by omega) (by omega)
                    have hwb : 0 ≤ wtd N cap len lst j ∧ wtd N cap len lst j ≤ 6 := by have := cf_bd N len lst j (by omega); unfold wtd; split <;> omega
                    refine g_aload_n O dX4_isPopular_106 107 0 rfl rfl ?_
                    refine g_get O dX4_isPopular_107 110 rfl fX4_isPopular_24 4 rfl rfl ?_
                    refine g_iload_n O dX4_isPopular_110 111 3 rfl rfl ?_
                    refine g_iald O dX4_isPopular_111 112 rfl 9 rfl (by decide) (by omega) ?_
                    refine g_aload_n O dX4_isPopular_112 113 1 rfl rfl ?_
                    refine g_get O dX4_isPopular_113 116 rfl fX4_isPopular_71 0 rfl rfl ?_
                    refine g_iload_n O dX4_isPopular_116 117 3 rfl rfl ?_
                    refine g_iald O dX4_isPopular_117 118 rfl 1 rfl (by decide) (by omega) ?_
                    refine g_icmp_gt O dX4_isPopular_118 121 136 rfl rfl (by omega) (fun h118 => ?_) (fun h118 => ?_)
                    · skip
                      refine g_iconst O dX4_isPopular_136 137 rfl ?_
                      exact g_zret O hQ dX4_isPopular_137 (by decide +kernel) (0, m4, m5) rfl rfl (Or.inr ⟨rfl, fun c => by have := c.2 j (by omega) (by omega); omega⟩) ⟨by decide, by decide⟩
                    · skip
                      refine g_aload_n O dX4_isPopular_121 122 0 rfl rfl ?_
                      refine g_get O dX4_isPopular_122 125 rfl fX4_isPopular_27 4 rfl rfl ?_
                      refine g_iload_n O dX4_isPopular_125 126 3 rfl rfl ?_
                      refine g_iald O dX4_isPopular_126 127 rfl 10 rfl (by decide) (by omega) ?_
                      refine g_aload_n O dX4_isPopular_127 128 0 rfl rfl ?_
                      refine g_get O dX4_isPopular_128 131 rfl fX4_isPopular_21 4 rfl rfl ?_
                      refine g_iload_n O dX4_isPopular_131 132 3 rfl rfl ?_
                      refine g_iald O dX4_isPopular_132 133 rfl 8 rfl (by decide) (by omega) ?_
                      refine g_icmp_eq O dX4_isPopular_133 136 138 rfl rfl (by omega) (fun h133 => ?_) (fun h133 => ?_)
                      · skip
                        refine g_iinc O dX4_isPopular_138 141 3 [(0, .ref s), (1, .ref o), (2, vi x), (3, vi (j + 1))] rfl (by decide) rfl rfl ?_
                        refine g_goto O dX4_isPopular_141 98 rfl ?_
                        exact ih98 (j + 1) (by omega) (fun p q1 q2 => by by_cases e : p = j; rw [e]; exact ⟨by omega, by omega⟩; exact h7 p q1 (by omega)) (by omega)
                      · skip
                        refine g_iconst O dX4_isPopular_136 137 rfl ?_
                        exact g_zret O hQ dX4_isPopular_137 (by decide +kernel) (0, m4, m5) rfl rfl (Or.inr ⟨rfl, fun c => by have := c.2 j (by omega) (by omega); omega⟩) ⟨by decide, by decide⟩
              exact lp98 1000 0 (by omega) (fun p q1 q2 => absurd q2 (by omega)) (by omega)
            · skip
              have hpi := hpre.1 i (by omega) (by omega)
              have hlb := plo_bd hW (N := N) (a := i) (by omega) (by omega)
              have hfb := fp_bd hW (a := i) (by omega) (by omega)
              have lp78 : (¬ (plo N cap len lst i = phg N cap len lst i ∧ bitc N x i = 1)) → G X D A 5 Q 0 0 78 [(0, .ref s), (1, .ref o), (2, vi x), (3, vi i)] [] [(o, co 2 [vi N, vi P, .ref c, .ref l, .ref t]), (c, ca D 5 cap), (l, ca D 6 len), (t, ca D 30 lst), (s, co 4 [.ref g0, .ref g1, .ref g2, .ref g3, .ref g4, .ref g5, .ref g6]), (g0, ca D 6 f0), (g1, ca D 6 f1), (g2, ca D 6 f2), (g3, ca D 5 f3), (g4, ca D 5 m4), (g5, ca D 5 m5), (g6, ca D 64 f6)] := by
                intro  hno
                have hps := PRE_pst hpre (c := x) (a := i) (by omega) (by omega)
                have hpb := pcs_bd hW (N := N) (c := x) (a := i) (by omega) (by omega)
                refine g_aload_n O dX4_isPopular_78 79 0 rfl rfl ?_
                refine g_aload_n O dX4_isPopular_79 80 0 rfl rfl ?_
                refine g_aload_n O dX4_isPopular_80 81 1 rfl rfl ?_
                refine g_iload_n O dX4_isPopular_81 82 2 rfl rfl ?_
                refine g_iload_n O dX4_isPopular_82 83 3 rfl rfl ?_
                refine g_callV (As := [.ref o, vi x, vi i]) (rest := [.ref s]) (na := 3) O (k_X4_postIn D o c l t N P cap len lst s g0 g1 g2 g3 g4 g5 g6 f0 f1 f2 f3 m4 m5 f6 x i hW (by omega) (by omega)) dX4_isPopular_83 gX4_isPopular_X4_postIn rfl ⟨rfl, rfl⟩ (by decide +kernel) rfl (by decide) (by decide) rfl (Nat.le_of_ble_eq_true rfl) (q0 := 4) (ci := 4) rfl rfl [0, 1, 2, 3, 4, 5, 6, 7, 8, 9, 10, 11] (by decide) rfl (fun _ => rfl) (fun _ => [(o, co 2 [vi N, vi P, .ref c, .ref l, .ref t]), (c, ca D 5 cap), (l, ca D 6 len), (t, ca D 30 lst), (s, co 4 [.ref g0, .ref g1, .ref g2, .ref g3, .ref g4, .ref g5, .ref g6]), (g0, ca D 6 f0), (g1, ca D 6 f1), (g2, ca D 6 f2), (g3, ca D 5 f3), (g4, ca D 5 m4), (g5, ca D 5 m5), (g6, ca D 64 f6)]) (fun _ => rfl) 86 rfl (fun _ _ => ?_)
                show G X D A 5 Q 0 0 86 [(0, .ref s), (1, .ref o), (2, vi x), (3, vi i)] [vi (pst N f1 f2 x i), .ref s] [(o, co 2 [vi N, vi P, .ref c, .ref l, .ref t]), (c, ca D 5 cap), (l, ca D 6 len), (t, ca D 30 lst), (s, co 4 [.ref g0, .ref g1, .ref g2, .ref g3, .ref g4, .ref g5, .ref g6]), (g0, ca D 6 f0), (g1, ca D 6 f1), (g2, ca D 6 f2), (g3, ca D 5 f3), (g4, ca D 5 m4), (g5, ca D 5 m5), (g6, ca D 64 f6)]
                refine g_iload_n O dX4_isPopular_86 87 3 rfl rfl ?_
                refine g_callV (As := [vi (pst N f1 f2 x i), vi i]) (rest := []) (na := 2) O (k_X4_count D s g0 g1 g2 g3 g4 g5 g6 f0 f1 f2 f3 m4 m5 f6 (pst N f1 f2 x i) i (by omega) (by omega) (by omega)) dX4_isPopular_87 gX4_isPopular_X4_count rfl ⟨rfl, rfl⟩ (by decide +kernel) rfl (by decide) (by decide) rfl (Nat.le_of_ble_eq_true rfl) (q0 := 4) (ci := 4) rfl rfl [4, 5, 6, 7, 8, 9, 10, 11] (by decide) rfl (fun _ => rfl) (fun _ => [(o, co 2 [vi N, vi P, .ref c, .ref l, .ref t]), (c, ca D 5 cap), (l, ca D 6 len), (t, ca D 30 lst), (s, co 4 [.ref g0, .ref g1, .ref g2, .ref g3, .ref g4, .ref g5, .ref g6]), (g0, ca D 6 f0), (g1, ca D 6 f1), (g2, ca D 6 f2), (g3, ca D 5 f3), (g4, ca D 5 (icr m4 (pst N f1 f2 x i) True)), (g5, ca D 5 (icr m5 (pst N f1 f2 x i) ((pst N f1 f2 x i) = f0 i))), (g6, ca D 64 f6)]) (fun _ => rfl) 90 rfl (fun _ _ => ?_)
                show G X D A 5 Q 0 0 90 [(0, .ref s), (1, .ref o), (2, vi x), (3, vi i)] [] [(o, co 2 [vi N, vi P, .ref c, .ref l, .ref t]), (c, ca D 5 cap), (l, ca D 6 len), (t, ca D 30 lst), (s, co 4 [.ref g0, .ref g1, .ref g2, .ref g3, .ref g4, .ref g5, .ref g6]), (g0, ca D 6 f0), (g1, ca D 6 f1), (g2, ca D 6 f2), (g3, ca D 5 f3), (g4, ca D 5 (icr m4 (pst N f1 f2 x i) True)), (g5, ca D 5 (icr m5 (pst N f1 f2 x i) ((pst N f1 f2 x i) = f0 i))), (g6, ca D 64 f6)]
                refine g_iinc O dX4_isPopular_90 93 3 [(0, .ref s), (1, .ref o), (2, vi x), (3, vi (i + 1))] rfl (by decide) rfl rfl ?_
                refine g_goto O dX4_isPopular_93 32 rfl ?_
                exact ih32 (i + 1) (icr m4 (pst N f1 f2 x i) True) (icr m5 (pst N f1 f2 x i) ((pst N f1 f2 x i) = f0 i)) (by omega) (fun p q1 q2 => by rw [sm_s _ h3.1, sm_s _ h3.1, ← (h4 p q1 q2).1, ← (h4 p q1 q2).2, hps, hpi.1]; exact cnt_s m4 m5 (pcs N cap len lst x) (fp len lst) p i) (fun a q1 q2 => by by_cases e : a = i; rw [e]; intro c; exact hno c; exact h5 a q1 (by omega)) (by omega)
              refine g_aload_n O dX4_isPopular_40 41 0 rfl rfl ?_
              refine g_get O dX4_isPopular_41 44 rfl fX4_isPopular_15 4 rfl rfl ?_
              refine g_iload_n O dX4_isPopular_44 45 3 rfl rfl ?_
              refine g_iald O dX4_isPopular_45 46 rfl 6 rfl (by decide) (by omega) ?_
              refine g_aload_n O dX4_isPopular_46 47 0 rfl rfl ?_
              refine g_get O dX4_isPopular_47 50 rfl fX4_isPopular_18 4 rfl rfl ?_
              refine g_iload_n O dX4_isPopular_50 51 3 rfl rfl ?_
              refine g_iald O dX4_isPopular_51 52 rfl 7 rfl (by decide) (by omega) ?_
              refine g_icmp_ne O dX4_isPopular_52 55 59 rfl rfl (by omega) (fun h52 => ?_) (fun h52 => ?_)
              · skip
                refine g_iconst O dX4_isPopular_59 60 rfl ?_
                refine g_istore O dX4_isPopular_60 62 [(0, .ref s), (1, .ref o), (2, vi x), (3, vi i), (4, vi 0)] rfl (by decide) rfl ?_
                refine g_iload O dX4_isPopular_62 64 4 rfl rfl ?_
                refine g_if_eq O dX4_isPopular_64 67 78 rfl rfl (by omega) (fun _ => ?_) (fun h => absurd h (by decide))
                refine g_loc (L' := [(0, .ref s), (1, .ref o), (2, vi x), (3, vi i)]) [0, 1, 2, 3] rfl ?_
                exact lp78 (fun c => by first | exact absurd c.2 hb70 | exact absurd c.1 (by omega))
              · skip
                refine g_iconst O dX4_isPopular_55 56 rfl ?_
                refine g_goto O dX4_isPopular_56 60 rfl ?_
                refine g_istore O dX4_isPopular_60 62 [(0, .ref s), (1, .ref o), (2, vi x), (3, vi i), (4, vi 1)] rfl (by decide) rfl ?_
                refine g_iload O dX4_isPopular_62 64 4 rfl rfl ?_
                refine g_if_eq O dX4_isPopular_64 67 78 rfl rfl (by omega) (fun h => absurd h (by decide)) (fun _ => ?_)
                refine g_aload_n O dX4_isPopular_67 68 1 rfl rfl ?_
                refine g_iload_n O dX4_isPopular_68 69 2 rfl rfl ?_
                refine g_iload_n O dX4_isPopular_69 70 3 rfl rfl ?_
                refine g_callS (As := [.ref o, vi x, vi i]) (rest := []) (na := 3) O (k_X4_takesHigher D o c l t N P cap len lst x i hW (by omega) (by omega)) dX4_isPopular_70 gX4_isPopular_X4_takesHigher rfl ⟨rfl, rfl⟩ (by decide +kernel) rfl (by decide) (by decide) rfl (Nat.le_of_ble_eq_true rfl) [0, 1, 2, 3] (by decide) rfl (fun _ => rfl) (fun u => [(o, co 2 [vi N, vi P, .ref c, .ref l, .ref t]), (c, ca D 5 cap), (l, ca D 6 len), (t, ca D 30 lst), (s, co 4 [.ref g0, .ref g1, .ref g2, .ref g3, .ref g4, .ref g5, .ref g6]), (g0, ca D 6 f0), (g1, ca D 6 f1), (g2, ca D 6 f2), (g3, ca D 5 f3), (g4, ca D 5 m4), (g5, ca D 5 m5), (g6, ca D 64 f6)]) (fun _ => rfl) 73 rfl (fun u70 hu70 => ?_)
                obtain ⟨bz70, rfl⟩ : ∃ z, z = u70 := ⟨_, rfl⟩
                rcases hu70 with ⟨rfl, hb70⟩ | ⟨rfl, hb70⟩
                · skip
                  have hb70 : bitc N x i = 1 := hb70
                  show G X D A 5 Q 0 0 73 [(0, .ref s), (1, .ref o), (2, vi x), (3, vi i), (4, vi 1)] [vi 1] [(o, co 2 [vi N, vi P, .ref c, .ref l, .ref t]), (c, ca D 5 cap), (l, ca D 6 len), (t, ca D 30 lst), (s, co 4 [.ref g0, .ref g1, .ref g2, .ref g3, .ref g4, .ref g5, .ref g6]), (g0, ca D 6 f0), (g1, ca D 6 f1), (g2, ca D 6 f2), (g3, ca D 5 f3), (g4, ca D 5 m4), (g5, ca D 5 m5), (g6, ca D 64 f6)]
                  refine g_if_eq O dX4_isPopular_73 76 78 rfl rfl (by omega) (fun h => absurd h (by decide)) (fun _ => ?_)
                  refine g_iconst O dX4_isPopular_76 77 rfl ?_
                  exact g_zret O hQ dX4_isPopular_77 (by decide +kernel) (0, m4, m5) rfl rfl (Or.inr ⟨rfl, fun c => c.1 i (by omega) (by omega) ⟨by omega, hb70⟩⟩) ⟨by decide, by decide⟩
                · skip
                  have hb70 : ¬ (bitc N x i = 1) := hb70
                  show G X D A 5 Q 0 0 73 [(0, .ref s), (1, .ref o), (2, vi x), (3, vi i), (4, vi 1)] [vi 0] [(o, co 2 [vi N, vi P, .ref c, .ref l, .ref t]), (c, ca D 5 cap), (l, ca D 6 len), (t, ca D 30 lst), (s, co 4 [.ref g0, .ref g1, .ref g2, .ref g3, .ref g4, .ref g5, .ref g6]), (g0, ca D 6 f0), (g1, ca D 6 f1), (g2, ca D 6 f2), (g3, ca D 5 f3), (g4, ca D 5 m4), (g5, ca D 5 m5), (g6, ca D 64 f6)]
                  refine g_if_eq O dX4_isPopular_73 76 78 rfl rfl (by omega) (fun _ => ?_) (fun h => absurd h (by decide))
                  refine g_loc (L' := [(0, .ref s), (1, .ref o), (2, vi x), (3, vi i)]) [0, 1, 2, 3] rfl ?_
                  exact lp78 (fun c => by first | exact absurd c.2 hb70 | exact absurd c.1 (by omega))
        exact lp32 1000 0 k4 k5 (by omega) (fun p q1 q2 => h2 p q1 (by omega)) (fun a q1 q2 => absurd q2 (by omega)) (by omega)
      · skip
        refine g_aload_n O dX4_isPopular_10 11 0 rfl rfl ?_
        refine g_get O dX4_isPopular_11 14 rfl fX4_isPopular_24 4 rfl rfl ?_
        refine g_iload_n O dX4_isPopular_14 15 3 rfl rfl ?_
        refine g_iconst O dX4_isPopular_15 16 rfl ?_
        refine g_iast O dX4_isPopular_16 17 rfl 9 rfl (by decide) (by omega) [(o, co 2 [vi N, vi P, .ref c, .ref l, .ref t]), (c, ca D 5 cap), (l, ca D 6 len), (t, ca D 30 lst), (s, co 4 [.ref g0, .ref g1, .ref g2, .ref g3, .ref g4, .ref g5, .ref g6]), (g0, ca D 6 f0), (g1, ca D 6 f1), (g2, ca D 6 f2), (g3, ca D 5 f3), (g4, ca D 5 (up k4 j 0)), (g5, ca D 5 k5), (g6, ca D 64 f6)] rfl ?_
        refine g_aload_n O dX4_isPopular_17 18 0 rfl rfl ?_
        refine g_get O dX4_isPopular_18 21 rfl fX4_isPopular_27 4 rfl rfl ?_
        refine g_iload_n O dX4_isPopular_21 22 3 rfl rfl ?_
        refine g_iconst O dX4_isPopular_22 23 rfl ?_
        refine g_iast O dX4_isPopular_23 24 rfl 10 rfl (by decide) (by omega) [(o, co 2 [vi N, vi P, .ref c, .ref l, .ref t]), (c, ca D 5 cap), (l, ca D 6 len), (t, ca D 30 lst), (s, co 4 [.ref g0, .ref g1, .ref g2, .ref g3, .ref g4, .ref g5, .ref g6]), (g0, ca D 6 f0), (g1, ca D 6 f1), (g2, ca D 6 f2), (g3, ca D 5 f3), (g4, ca D 5 (up k4 j 0)), (g5, ca D 5 (up k5 j 0)), (g6, ca D 64 f6)] rfl ?_
        refine g_iinc O dX4_isPopular_24 27 3 [(0, .ref s), (1, .ref o), (2, vi x), (3, vi (j + 1))] rfl (by decide) rfl rfl ?_
        refine g_goto O dX4_isPopular_27 2 rfl ?_
        exact ih2 (j + 1) (up k4 j 0) (up k5 j 0) (by omega) (fun kk q1 q2 => by by_cases e : kk = j; subst e; rw [up_s, up_s]; exact ⟨rfl, rfl⟩; rw [up_n e, up_n e]; exact h2 kk q1 (by omega)) (by omega)
  exact lp2 1000 0 f4 f5 (by omega) (fun kk q1 q2 => absurd q2 (by omega)) (by omega)
theorem sX4_collect_2 : ∀ w ∈ wsX20, w ∈ wsX4_collect := by decide +kernel
theorem fX4_collect_37 : FK RX4 wsX4_collect 37 2 0 := ⟨RX2, TX2, 5, rfl, sX4_collect_2, by decide, List.mem_of_getElem? (i := 1) rfl⟩
theorem sX4_collect_4 : ∀ w ∈ wsX40, w ∈ wsX4_collect := by decide +kernel
theorem fX4_collect_30 : FK RX4 wsX4_collect 30 4 6 := ⟨RX4, TX4, 7, rfl, sX4_collect_4, by decide, List.mem_of_getElem? (i := 2) rfl⟩
set_option maxHeartbeats 4000000 in
set_option maxRecDepth 100000 in
theorem k_X4_collect (D : DD) (o c l t : Nat) (N P : Int) (cap len lst : Int → Int) (s g0 g1 g2 g3 g4 g5 g6 : Nat) (f0 f1 f2 f3 f4 f5 f6 : Int → Int) (hW : WI N P cap len lst) : Con (S := Int × (Int → Int) × (Int → Int) × (Int → Int) × (Int → Int) × (Int → Int) × (Int → Int) × (Int → Int)) D yX4_collect wsX4_collect ({ frames := 5, cells := 0, slots := 0, locals := 114 }) 0 0 [.ref s, .ref o] [(o, co 2 [vi N, vi P, .ref c, .ref l, .ref t]), (c, ca D 5 cap), (l, ca D 6 len), (t, ca D 30 lst), (s, co 4 [.ref g0, .ref g1, .ref g2, .ref g3, .ref g4, .ref g5, .ref g6]), (g0, ca D 6 f0), (g1, ca D 6 f1), (g2, ca D 6 f2), (g3, ca D 5 f3), (g4, ca D 5 f4), (g5, ca D 5 f5), (g6, ca D 64 f6)] (fun u => some (vi u.1)) (fun u => PRE N P cap len lst u.2.1 u.2.2.1 u.2.2.2.1 u.2.2.2.2.1 ∧ COL N P cap len lst (p2 N) u.1 u.2.2.2.2.2.2.2) (fun u => [(o, co 2 [vi N, vi P, .ref c, .ref l, .ref t]), (c, ca D 5 cap), (l, ca D 6 len), (t, ca D 30 lst), (s, co 4 [.ref g0, .ref g1, .ref g2, .ref g3, .ref g4, .ref g5, .ref g6]), (g0, ca D 6 u.2.1), (g1, ca D 6 u.2.2.1), (g2, ca D 6 u.2.2.2.1), (g3, ca D 5 u.2.2.2.2.1), (g4, ca D 5 u.2.2.2.2.2.1), (g5, ca D 5 u.2.2.2.2.2.2.1), (g6, ca D 64 u.2.2.2.2.2.2.2)]) := by
  refine Con.of (cc := cX4_collect) (nL := 4) (ret := (some .int)) rfl (by decide +kernel) (Nat.le_of_ble_eq_true rfl) ?_
  intro X A Q O hQ hin
  show G X D A 4 Q 0 0 0 [(0, .ref s), (1, .ref o)] [] [(o, co 2 [vi N, vi P, .ref c, .ref l, .ref t]), (c, ca D 5 cap), (l, ca D 6 len), (t, ca D 30 lst), (s, co 4 [.ref g0, .ref g1, .ref g2, .ref g3, .ref g4, .ref g5, .ref g6]), (g0, ca D 6 f0), (g1, ca D 6 f1), (g2, ca D 6 f2), (g3, ca D 5 f3), (g4, ca D 5 f4), (g5, ca D 5 f5), (g6, ca D 64 f6)]
  obtain ⟨hN, hcap, hlen, hlst, hdis⟩ := id hW
  have hp64 := p2_64 (k := N) (by omega) (by omega)
  refine g_aload_n O dX4_collect_0 1 0 rfl rfl ?_
  refine g_aload_n O dX4_collect_1 2 1 rfl rfl ?_
  refine g_callV (As := [.ref o]) (rest := []) (na := 1) O (k_X4_prepare D o c l t N P cap len lst s g0 g1 g2 g3 g4 g5 g6 f0 f1 f2 f3 f4 f5 f6 hW) dX4_collect_2 gX4_collect_X4_prepare rfl ⟨rfl, rfl⟩ (by decide +kernel) rfl (by decide) (by decide) rfl (Nat.le_of_ble_eq_true rfl) (q0 := 4) (ci := 4) rfl rfl [0, 1, 2, 3, 4, 5, 6, 7, 8, 9, 10, 11] (by decide) rfl (fun _ => rfl) (fun u => [(o, co 2 [vi N, vi P, .ref c, .ref l, .ref t]), (c, ca D 5 cap), (l, ca D 6 len), (t, ca D 30 lst), (s, co 4 [.ref g0, .ref g1, .ref g2, .ref g3, .ref g4, .ref g5, .ref g6]), (g0, ca D 6 u.1), (g1, ca D 6 u.2.1), (g2, ca D 6 u.2.2.1), (g3, ca D 5 u.2.2.2), (g4, ca D 5 f4), (g5, ca D 5 f5), (g6, ca D 64 f6)]) (fun _ => rfl) 5 rfl (fun u2 hu2 => ?_)
  obtain ⟨r02, r12, r22, r32⟩ := u2
  have hu2 : PRE N P cap len lst r02 r12 r22 r32 := hu2
  show G X D A 4 Q 0 0 5 [(0, .ref s), (1, .ref o)] [] [(o, co 2 [vi N, vi P, .ref c, .ref l, .ref t]), (c, ca D 5 cap), (l, ca D 6 len), (t, ca D 30 lst), (s, co 4 [.ref g0, .ref g1, .ref g2, .ref g3, .ref g4, .ref g5, .ref g6]), (g0, ca D 6 r02), (g1, ca D 6 r12), (g2, ca D 6 r22), (g3, ca D 5 r32), (g4, ca D 5 f4), (g5, ca D 5 f5), (g6, ca D 64 f6)]
  refine g_iconst O dX4_collect_5 6 rfl ?_
  refine g_istore_n O dX4_collect_6 7 [(0, .ref s), (1, .ref o), (2, vi 0)] rfl (by decide) rfl ?_
  refine g_iconst O dX4_collect_7 8 rfl ?_
  refine g_istore_n O dX4_collect_8 9 [(0, .ref s), (1, .ref o), (2, vi 0), (3, vi 0)] rfl (by decide) rfl ?_
  have lp9 : ∀ (nn : Nat) (x : Int) (y : Int) (m4 : Int → Int) (m5 : Int → Int) (m6 : Int → Int), (0 ≤ x ∧ x ≤ p2 N) → (COL N P cap len lst x y m6) → (p2 N - x < (nn : Int)) → G X D A 4 Q 0 0 9 [(0, .ref s), (1, .ref o), (2, vi y), (3, vi x)] [] [(o, co 2 [vi N, vi P, .ref c, .ref l, .ref t]), (c, ca D 5 cap), (l, ca D 6 len), (t, ca D 30 lst), (s, co 4 [.ref g0, .ref g1, .ref g2, .ref g3, .ref g4, .ref g5, .ref g6]), (g0, ca D 6 r02), (g1, ca D 6 r12), (g2, ca D 6 r22), (g3, ca D 5 r32), (g4, ca D 5 m4), (g5, ca D 5 m5), (g6, ca D 64 m6)] := by
    intro nn
    induction nn with
    | zero =>
      intro x y m4 m5 m6 h1 hC hm9
      exact absurd hm9 (by omega)
    | succ nn ih9 =>
      intro x y m4 m5 m6 h1 hC hm9
      refine g_iload_n O dX4_collect_9 10 3 rfl rfl ?_
      refine g_iconst O dX4_collect_10 11 rfl ?_
      refine g_aload_n O dX4_collect_11 12 1 rfl rfl ?_
      refine g_get O dX4_collect_12 15 rfl fX4_collect_37 0 rfl rfl ?_
      refine g_ishl O dX4_collect_15 16 rfl (by omega) ?_
      refine g_cv (y := p2 N) (Int.one_mul _) ?_
      refine g_icmp_ge O dX4_collect_16 19 44 rfl rfl (by omega) (fun h16 => ?_) (fun h16 => ?_)
      · skip
        refine g_iload_n O dX4_collect_44 45 2 rfl rfl ?_
        exact g_iret O hQ dX4_collect_45 (y, r02, r12, r22, r32, m4, m5, m6) rfl rfl (⟨hu2, by rw [show p2 N = x by omega]; exact hC⟩) ⟨by decide, by decide⟩
      · skip
        have hCb := hC.2.1
        refine g_aload_n O dX4_collect_19 20 0 rfl rfl ?_
        refine g_aload_n O dX4_collect_20 21 1 rfl rfl ?_
        refine g_iload_n O dX4_collect_21 22 3 rfl rfl ?_
        refine g_callV (As := [.ref o, vi x]) (rest := []) (na := 2) O (k_X4_isPopular D o c l t N P cap len lst s g0 g1 g2 g3 g4 g5 g6 r02 r12 r22 r32 m4 m5 m6 x hW hu2 (by omega)) dX4_collect_22 gX4_collect_X4_isPopular rfl ⟨rfl, rfl⟩ (by decide +kernel) rfl (by decide) (by decide) rfl (Nat.le_of_ble_eq_true rfl) (q0 := 4) (ci := 4) rfl rfl [0, 1, 2, 3, 4, 5, 6, 7, 8, 9, 10, 11] (by decide) rfl (fun _ => rfl) (fun u => [(o, co 2 [vi N, vi P, .ref c, .ref l, .ref t]), (c, ca D 5 cap), (l, ca D 6 len), (t, ca D 30 lst), (s, co 4 [.ref g0, .ref g1, .ref g2, .ref g3, .ref g4, .ref g5, .ref g6]), (g0, ca D 6 r02), (g1, ca D 6 r12), (g2, ca D 6 r22), (g3, ca D 5 r32), (g4, ca D 5 u.2.1), (g5, ca D 5 u.2.2), (g6, ca D 64 m6)]) (fun _ => rfl) 25 rfl (fun u22 hu22 => ?_)
        obtain ⟨bz22, r422, r522⟩ := u22
        rcases hu22 with ⟨rfl, hb22⟩ | ⟨rfl, hb22⟩
        · skip
          have hb22 : PopC N P cap len lst x := hb22
          show G X D A 4 Q 0 0 25 [(0, .ref s), (1, .ref o), (2, vi y), (3, vi x)] [vi 1] [(o, co 2 [vi N, vi P, .ref c, .ref l, .ref t]), (c, ca D 5 cap), (l, ca D 6 len), (t, ca D 30 lst), (s, co 4 [.ref g0, .ref g1, .ref g2, .ref g3, .ref g4, .ref g5, .ref g6]), (g0, ca D 6 r02), (g1, ca D 6 r12), (g2, ca D 6 r22), (g3, ca D 5 r32), (g4, ca D 5 r422), (g5, ca D 5 r522), (g6, ca D 64 m6)]
          refine g_if_eq O dX4_collect_25 28 38 rfl rfl (by omega) (fun h => absurd h (by decide)) (fun _ => ?_)
          refine g_aload_n O dX4_collect_28 29 0 rfl rfl ?_
          refine g_get O dX4_collect_29 32 rfl fX4_collect_30 4 rfl rfl ?_
          refine g_iload_n O dX4_collect_32 33 2 rfl rfl ?_
          refine g_iload_n O dX4_collect_33 34 3 rfl rfl ?_
          refine g_iast O dX4_collect_34 35 rfl 11 rfl (by decide) (by omega) [(o, co 2 [vi N, vi P, .ref c, .ref l, .ref t]), (c, ca D 5 cap), (l, ca D 6 len), (t, ca D 30 lst), (s, co 4 [.ref g0, .ref g1, .ref g2, .ref g3, .ref g4, .ref g5, .ref g6]), (g0, ca D 6 r02), (g1, ca D 6 r12), (g2, ca D 6 r22), (g3, ca D 5 r32), (g4, ca D 5 r422), (g5, ca D 5 r522), (g6, ca D 64 (up m6 y x))] rfl ?_
          refine g_iinc O dX4_collect_35 38 2 [(0, .ref s), (1, .ref o), (2, vi (y + 1)), (3, vi x)] rfl (by decide) rfl rfl ?_
          refine g_iinc O dX4_collect_38 41 3 [(0, .ref s), (1, .ref o), (2, vi (y + 1)), (3, vi (x + 1))] rfl (by decide) rfl rfl ?_
          refine g_goto O dX4_collect_41 9 rfl ?_
          exact ih9 (x + 1) (y + 1) r422 r522 (up m6 y x) (by omega) (by first | exact COL_t h1.1 hC hb22 | exact COL_f h1.1 hC hb22) (by omega)
        · skip
          have hb22 : ¬ (PopC N P cap len lst x) := hb22
          show G X D A 4 Q 0 0 25 [(0, .ref s), (1, .ref o), (2, vi y), (3, vi x)] [vi 0] [(o, co 2 [vi N, vi P, .ref c, .ref l, .ref t]), (c, ca D 5 cap), (l, ca D 6 len), (t, ca D 30 lst), (s, co 4 [.ref g0, .ref g1, .ref g2, .ref g3, .ref g4, .ref g5, .ref g6]), (g0, ca D 6 r02), (g1, ca D 6 r12), (g2, ca D 6 r22), (g3, ca D 5 r32), (g4, ca D 5 r422), (g5, ca D 5 r522), (g6, ca D 64 m6)]
          refine g_if_eq O dX4_collect_25 28 38 rfl rfl (by omega) (fun _ => ?_) (fun h => absurd h (by decide))
          refine g_iinc O dX4_collect_38 41 3 [(0, .ref s), (1, .ref o), (2, vi y), (3, vi (x + 1))] rfl (by decide) rfl rfl ?_
          refine g_goto O dX4_collect_41 9 rfl ?_
          exact ih9 (x + 1) y r422 r522 m6 (by omega) (by first | exact COL_t h1.1 hC hb22 | exact COL_f h1.1 hC hb22) (by omega)
  exact lp9 1000 0 0 f4 f5 f6 (by omega) (COL_0 _ _ _ _ _ _) (by omega)
theorem sX4_write_2 : ∀ w ∈ wsX20, w ∈ wsX4_write := by decide +kernel
theorem fX4_write_37 : FK RX4 wsX4_write 37 2 0 := ⟨RX2, TX2, 5, rfl, sX4_write_2, by decide, List.mem_of_getElem? (i := 1) rfl⟩
theorem sX4_write_3 : ∀ w ∈ wsX30, w ∈ wsX4_write := by decide +kernel
theorem fX4_write_52 : FK RX4 wsX4_write 52 3 0 := ⟨RX3, TX3, 1, rfl, sX4_write_3, by decide, List.mem_of_getElem? (i := 2) rfl⟩
theorem sX4_write_4 : ∀ w ∈ wsX40, w ∈ wsX4_write := by decide +kernel
theorem fX4_write_30 : FK RX4 wsX4_write 30 4 6 := ⟨RX4, TX4, 7, rfl, sX4_write_4, by decide, List.mem_of_getElem? (i := 3) rfl⟩
set_option maxHeartbeats 4000000 in
set_option maxRecDepth 100000 in
theorem k_X4_write (D : DD) (o c l t : Nat) (N P : Int) (cap len lst : Int → Int) (s g0 g1 g2 g3 g4 g5 g6 : Nat) (f0 f1 f2 f3 f4 f5 f6 : Int → Int) (o2 b2 : Nat) (m : Int → Int) (k : Int) (hW : WI N P cap len lst) (hk : 0 ≤ k ∧ k < 64) (hf6 : 0 ≤ f6 k ∧ f6 k < 64) : Con (S := Unit) D yX4_write wsX4_write ({ frames := 2, cells := 0, slots := 0, locals := 45 }) 0 0 [.ref s, .ref o, vi k, .ref o2] [(o, co 2 [vi N, vi P, .ref c, .ref l, .ref t]), (c, ca D 5 cap), (l, ca D 6 len), (t, ca D 30 lst), (s, co 4 [.ref g0, .ref g1, .ref g2, .ref g3, .ref g4, .ref g5, .ref g6]), (g0, ca D 6 f0), (g1, ca D 6 f1), (g2, ca D 6 f2), (g3, ca D 5 f3), (g4, ca D 5 f4), (g5, ca D 5 f5), (g6, ca D 64 f6), (o2, co 3 [.ref b2]), (b2, ca D 6 m)] (fun u => none) (fun u => True) (fun u => [(o, co 2 [vi N, vi P, .ref c, .ref l, .ref t]), (c, ca D 5 cap), (l, ca D 6 len), (t, ca D 30 lst), (s, co 4 [.ref g0, .ref g1, .ref g2, .ref g3, .ref g4, .ref g5, .ref g6]), (g0, ca D 6 f0), (g1, ca D 6 f1), (g2, ca D 6 f2), (g3, ca D 5 f3), (g4, ca D 5 f4), (g5, ca D 5 f5), (g6, ca D 64 f6), (o2, co 3 [.ref b2]), (b2, ca D 6 (wrt N f1 f2 (f6 k)))]) := by
  refine Con.of (cc := cX4_write) (nL := 5) (ret := none) rfl (by decide +kernel) (Nat.le_of_ble_eq_true rfl) ?_
  intro X A Q O hQ hin
  show G X D A 5 Q 0 0 0 [(0, .ref s), (1, .ref o), (2, vi k), (3, .ref o2)] [] [(o, co 2 [vi N, vi P, .ref c, .ref l, .ref t]), (c, ca D 5 cap), (l, ca D 6 len), (t, ca D 30 lst), (s, co 4 [.ref g0, .ref g1, .ref g2, .ref g3, .ref g4, .ref g5, .ref g6]), (g0, ca D 6 f0), (g1, ca D 6 f1), (g2, ca D 6 f2), (g3, ca D 5 f3), (g4, ca D 5 f4), (g5, ca D 5 f5), (g6, ca D 64 f6), (o2, co 3 [.ref b2]), (b2, ca D 6 m)]
  obtain ⟨hN, hcap, hlen, hlst, hdis⟩ := id hW
  refine g_aload_n O dX4_write_0 1 3 rfl rfl ?_
  refine g_callV (As := []) (rest := []) (na := 0) O (k_X3_clear D o2 b2 m) dX4_write_1 gX4_write_X3_clear rfl ⟨rfl, rfl⟩ (by decide +kernel) rfl (by decide) (by decide) rfl (Nat.le_of_ble_eq_true rfl) (q0 := 12) (ci := 3) rfl rfl [12, 13] (by decide) rfl (fun _ => rfl) (fun _ => [(o, co 2 [vi N, vi P, .ref c, .ref l, .ref t]), (c, ca D 5 cap), (l, ca D 6 len), (t, ca D 30 lst), (s, co 4 [.ref g0, .ref g1, .ref g2, .ref g3, .ref g4, .ref g5, .ref g6]), (g0, ca D 6 f0), (g1, ca D 6 f1), (g2, ca D 6 f2), (g3, ca D 5 f3), (g4, ca D 5 f4), (g5, ca D 5 f5), (g6, ca D 64 f6), (o2, co 3 [.ref b2]), (b2, ca D 6 (fun _ => -1))]) (fun _ => rfl) 4 rfl (fun _ _ => ?_)
  show G X D A 5 Q 0 0 4 [(0, .ref s), (1, .ref o), (2, vi k), (3, .ref o2)] [] [(o, co 2 [vi N, vi P, .ref c, .ref l, .ref t]), (c, ca D 5 cap), (l, ca D 6 len), (t, ca D 30 lst), (s, co 4 [.ref g0, .ref g1, .ref g2, .ref g3, .ref g4, .ref g5, .ref g6]), (g0, ca D 6 f0), (g1, ca D 6 f1), (g2, ca D 6 f2), (g3, ca D 5 f3), (g4, ca D 5 f4), (g5, ca D 5 f5), (g6, ca D 64 f6), (o2, co 3 [.ref b2]), (b2, ca D 6 (fun _ => -1))]
  refine g_iconst O dX4_write_4 5 rfl ?_
  refine g_istore O dX4_write_5 7 [(0, .ref s), (1, .ref o), (2, vi k), (3, .ref o2), (4, vi 0)] rfl (by decide) rfl ?_
  have lp7 : ∀ (nn : Nat) (i : Int) (g : Int → Int), (0 ≤ i ∧ i ≤ N) → (∀ kk, 0 ≤ kk → kk < i → g kk = pst N f1 f2 (f6 k) kk) → (∀ kk, i ≤ kk → g kk = -1) → (N - i < (nn : Int)) → G X D A 5 Q 0 0 7 [(0, .ref s), (1, .ref o), (2, vi k), (3, .ref o2), (4, vi i)] [] [(o, co 2 [vi N, vi P, .ref c, .ref l, .ref t]), (c, ca D 5 cap), (l, ca D 6 len), (t, ca D 30 lst), (s, co 4 [.ref g0, .ref g1, .ref g2, .ref g3, .ref g4, .ref g5, .ref g6]), (g0, ca D 6 f0), (g1, ca D 6 f1), (g2, ca D 6 f2), (g3, ca D 5 f3), (g4, ca D 5 f4), (g5, ca D 5 f5), (g6, ca D 64 f6), (o2, co 3 [.ref b2]), (b2, ca D 6 g)] := by
    intro nn
    induction nn with
    | zero =>
      intro i g h1 h2 h3 hm7
      exact absurd hm7 (by omega)
    | succ nn ih7 =>
      intro i g h1 h2 h3 hm7
      refine g_iload O dX4_write_7 9 4 rfl rfl ?_
      refine g_aload_n O dX4_write_9 10 1 rfl rfl ?_
      refine g_get O dX4_write_10 13 rfl fX4_write_37 0 rfl rfl ?_
      refine g_icmp_ge O dX4_write_13 16 42 rfl rfl (by omega) (fun h13 => ?_) (fun h13 => ?_)
      · skip
        refine g_arr 13 (wrt N f1 f2 (f6 k)) rfl (fun kk q1 q2 => by unfold wrt; split; exact h2 kk q1 (by omega); exact h3 kk (by omega)) [(o, co 2 [vi N, vi P, .ref c, .ref l, .ref t]), (c, ca D 5 cap), (l, ca D 6 len), (t, ca D 30 lst), (s, co 4 [.ref g0, .ref g1, .ref g2, .ref g3, .ref g4, .ref g5, .ref g6]), (g0, ca D 6 f0), (g1, ca D 6 f1), (g2, ca D 6 f2), (g3, ca D 5 f3), (g4, ca D 5 f4), (g5, ca D 5 f5), (g6, ca D 64 f6), (o2, co 3 [.ref b2]), (b2, ca D 6 (wrt N f1 f2 (f6 k)))] rfl ?_
        exact g_vret O hQ dX4_write_42 () rfl rfl trivial ⟨by decide, by decide⟩
      · skip
        refine g_aload_n O dX4_write_16 17 3 rfl rfl ?_
        refine g_get O dX4_write_17 20 rfl fX4_write_52 12 rfl rfl ?_
        refine g_iload O dX4_write_20 22 4 rfl rfl ?_
        refine g_aload_n O dX4_write_22 23 0 rfl rfl ?_
        refine g_aload_n O dX4_write_23 24 1 rfl rfl ?_
        refine g_aload_n O dX4_write_24 25 0 rfl rfl ?_
        refine g_get O dX4_write_25 28 rfl fX4_write_30 4 rfl rfl ?_
        refine g_iload_n O dX4_write_28 29 2 rfl rfl ?_
        refine g_iald O dX4_write_29 30 rfl 11 rfl (by decide) (by omega) ?_
        refine g_iload O dX4_write_30 32 4 rfl rfl ?_
        refine g_callV (As := [.ref o, vi (f6 k), vi i]) (rest := [vi i, .ref b2]) (na := 3) O (k_X4_postIn D o c l t N P cap len lst s g0 g1 g2 g3 g4 g5 g6 f0 f1 f2 f3 f4 f5 f6 (f6 k) i hW (by omega) (by omega)) dX4_write_32 gX4_write_X4_postIn rfl ⟨rfl, rfl⟩ (by decide +kernel) rfl (by decide) (by decide) rfl (Nat.le_of_ble_eq_true rfl) (q0 := 4) (ci := 4) rfl rfl [0, 1, 2, 3, 4, 5, 6, 7, 8, 9, 10, 11] (by decide) rfl (fun _ => rfl) (fun _ => [(o, co 2 [vi N, vi P, .ref c, .ref l, .ref t]), (c, ca D 5 cap), (l, ca D 6 len), (t, ca D 30 lst), (s, co 4 [.ref g0, .ref g1, .ref g2, .ref g3, .ref g4, .ref g5, .ref g6]), (g0, ca D 6 f0), (g1, ca D 6 f1), (g2, ca D 6 f2), (g3, ca D 5 f3), (g4, ca D 5 f4), (g5, ca D 5 f5), (g6, ca D 64 f6), (o2, co 3 [.ref b2]), (b2, ca D 6 g)]) (fun _ => rfl) 35 rfl (fun _ _ => ?_)
        show G X D A 5 Q 0 0 35 [(0, .ref s), (1, .ref o), (2, vi k), (3, .ref o2), (4, vi i)] [vi (pst N f1 f2 (f6 k) i), vi i, .ref b2] [(o, co 2 [vi N, vi P, .ref c, .ref l, .ref t]), (c, ca D 5 cap), (l, ca D 6 len), (t, ca D 30 lst), (s, co 4 [.ref g0, .ref g1, .ref g2, .ref g3, .ref g4, .ref g5, .ref g6]), (g0, ca D 6 f0), (g1, ca D 6 f1), (g2, ca D 6 f2), (g3, ca D 5 f3), (g4, ca D 5 f4), (g5, ca D 5 f5), (g6, ca D 64 f6), (o2, co 3 [.ref b2]), (b2, ca D 6 g)]
        refine g_iast O dX4_write_35 36 rfl 13 rfl (by decide) (by omega) [(o, co 2 [vi N, vi P, .ref c, .ref l, .ref t]), (c, ca D 5 cap), (l, ca D 6 len), (t, ca D 30 lst), (s, co 4 [.ref g0, .ref g1, .ref g2, .ref g3, .ref g4, .ref g5, .ref g6]), (g0, ca D 6 f0), (g1, ca D 6 f1), (g2, ca D 6 f2), (g3, ca D 5 f3), (g4, ca D 5 f4), (g5, ca D 5 f5), (g6, ca D 64 f6), (o2, co 3 [.ref b2]), (b2, ca D 6 (up g i (pst N f1 f2 (f6 k) i)))] rfl ?_
        refine g_iinc O dX4_write_36 39 4 [(0, .ref s), (1, .ref o), (2, vi k), (3, .ref o2), (4, vi (i + 1))] rfl (by decide) rfl rfl ?_
        refine g_goto O dX4_write_39 7 rfl ?_
        exact ih7 (i + 1) (up g i (pst N f1 f2 (f6 k) i)) (by omega) (up_inv2 (g := pst N f1 f2 (f6 k)) h2) (fun kk q => by rw [up_n (by omega)]; exact h3 kk (by omega)) (by omega)
  exact lp7 1000 0 (fun _ => -1) (by omega) (fun kk q1 q2 => absurd q2 (by omega)) (fun kk _ => rfl) (by omega)
