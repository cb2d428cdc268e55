theorem pF0_0 : FP 0 0 true (.array .int) := ⟨RX0, TX0, 2, tyX0, rfl, tyX0_ok, nmX0, rfl, by decide +kernel⟩
theorem pF0_1 : FP 0 1 true (.array .int) := ⟨RX0, TX0, 2, tyX0, rfl, tyX0_ok, nmX0, rfl, by decide +kernel⟩
theorem pF1_0 : FP 1 0 false .int := ⟨RX1, TX1, 3, tyX1, rfl, tyX1_ok, nmX1, rfl, by decide +kernel⟩
theorem pF1_1 : FP 1 1 true (.array (.object "PopularMatchings$Matching")) := ⟨RX1, TX1, 3, tyX1, rfl, tyX1_ok, nmX1, rfl, by decide +kernel⟩
theorem pF1_2 : FP 1 2 true (.array (.object "PopularMatchings$Matching")) := ⟨RX1, TX1, 3, tyX1, rfl, tyX1_ok, nmX1, rfl, by decide +kernel⟩
theorem pF2_0 : FP 2 0 false .int := ⟨RX2, TX2, 5, tyX2, rfl, tyX2_ok, nmX2, rfl, by decide +kernel⟩
theorem pF2_1 : FP 2 1 false .int := ⟨RX2, TX2, 5, tyX2, rfl, tyX2_ok, nmX2, rfl, by decide +kernel⟩
theorem pF2_2 : FP 2 2 true (.array .int) := ⟨RX2, TX2, 5, tyX2, rfl, tyX2_ok, nmX2, rfl, by decide +kernel⟩
theorem pF2_3 : FP 2 3 true (.array .int) := ⟨RX2, TX2, 5, tyX2, rfl, tyX2_ok, nmX2, rfl, by decide +kernel⟩
theorem pF2_4 : FP 2 4 true (.array .int) := ⟨RX2, TX2, 5, tyX2, rfl, tyX2_ok, nmX2, rfl, by decide +kernel⟩
theorem pF3_0 : FP 3 0 true (.array .int) := ⟨RX3, TX3, 1, tyX3, rfl, tyX3_ok, nmX3, rfl, by decide +kernel⟩
theorem pF4_0 : FP 4 0 true (.array .int) := ⟨RX4, TX4, 7, tyX4, rfl, tyX4_ok, nmX4, rfl, by decide +kernel⟩
theorem pF4_1 : FP 4 1 true (.array .int) := ⟨RX4, TX4, 7, tyX4, rfl, tyX4_ok, nmX4, rfl, by decide +kernel⟩
theorem pF4_2 : FP 4 2 true (.array .int) := ⟨RX4, TX4, 7, tyX4, rfl, tyX4_ok, nmX4, rfl, by decide +kernel⟩
theorem pF4_3 : FP 4 3 true (.array .int) := ⟨RX4, TX4, 7, tyX4, rfl, tyX4_ok, nmX4, rfl, by decide +kernel⟩
theorem pF4_4 : FP 4 4 true (.array .int) := ⟨RX4, TX4, 7, tyX4, rfl, tyX4_ok, nmX4, rfl, by decide +kernel⟩
theorem pF4_5 : FP 4 5 true (.array .int) := ⟨RX4, TX4, 7, tyX4, rfl, tyX4_ok, nmX4, rfl, by decide +kernel⟩
theorem pF4_6 : FP 4 6 true (.array .int) := ⟨RX4, TX4, 7, tyX4, rfl, tyX4_ok, nmX4, rfl, by decide +kernel⟩
theorem pF5_0 : FP 5 0 true (.object "PopularMatchings$Instance") := ⟨RX5, TX5, 7, tyX5, rfl, tyX5_ok, nmX5, rfl, by decide +kernel⟩
theorem pF5_1 : FP 5 1 true (.object "PopularMatchings$Matching") := ⟨RX5, TX5, 7, tyX5, rfl, tyX5_ok, nmX5, rfl, by decide +kernel⟩
theorem pF5_2 : FP 5 2 true (.object "PopularMatchings$Matching") := ⟨RX5, TX5, 7, tyX5, rfl, tyX5_ok, nmX5, rfl, by decide +kernel⟩
theorem pF5_3 : FP 5 3 true (.object "PopularMatchings$Matching") := ⟨RX5, TX5, 7, tyX5, rfl, tyX5_ok, nmX5, rfl, by decide +kernel⟩
theorem pF5_4 : FP 5 4 true (.object "PopularMatchings$History") := ⟨RX5, TX5, 7, tyX5, rfl, tyX5_ok, nmX5, rfl, by decide +kernel⟩
theorem pF5_5 : FP 5 5 true (.object "PopularMatchings$ChallengerSearch") := ⟨RX5, TX5, 7, tyX5, rfl, tyX5_ok, nmX5, rfl, by decide +kernel⟩
theorem pF5_6 : FP 5 6 true (.object "PopularMatchings$PopularSearch") := ⟨RX5, TX5, 7, tyX5, rfl, tyX5_ok, nmX5, rfl, by decide +kernel⟩
theorem pF6_0 : FP 6 0 false .int := ⟨RX6, TX6, 10, tyX6, rfl, tyX6_ok, nmX6, rfl, by decide +kernel⟩
theorem pF6_1 : FP 6 1 false .int := ⟨RX6, TX6, 10, tyX6, rfl, tyX6_ok, nmX6, rfl, by decide +kernel⟩
theorem pF6_2 : FP 6 2 true (.array .int) := ⟨RX6, TX6, 10, tyX6, rfl, tyX6_ok, nmX6, rfl, by decide +kernel⟩
theorem pF6_3 : FP 6 3 true (.array .int) := ⟨RX6, TX6, 10, tyX6, rfl, tyX6_ok, nmX6, rfl, by decide +kernel⟩
theorem pF6_4 : FP 6 4 true (.array .int) := ⟨RX6, TX6, 10, tyX6, rfl, tyX6_ok, nmX6, rfl, by decide +kernel⟩
theorem pF6_5 : FP 6 5 true (.array .int) := ⟨RX6, TX6, 10, tyX6, rfl, tyX6_ok, nmX6, rfl, by decide +kernel⟩
theorem pF6_6 : FP 6 6 true (.array .int) := ⟨RX6, TX6, 10, tyX6, rfl, tyX6_ok, nmX6, rfl, by decide +kernel⟩
theorem pF6_7 : FP 6 7 false .int := ⟨RX6, TX6, 10, tyX6, rfl, tyX6_ok, nmX6, rfl, by decide +kernel⟩
theorem pF6_8 : FP 6 8 true (.array .int) := ⟨RX6, TX6, 10, tyX6, rfl, tyX6_ok, nmX6, rfl, by decide +kernel⟩
theorem pF6_9 : FP 6 9 true (.array .int) := ⟨RX6, TX6, 10, tyX6, rfl, tyX6_ok, nmX6, rfl, by decide +kernel⟩
theorem sX2_isApplicant_2 : ∀ w ∈ wsX20, w ∈ wsX2_isApplicant := by decide +kernel
theorem fX2_isApplicant_25 : FK RX2 wsX2_isApplicant 25 2 0 := ⟨RX2, TX2, 5, rfl, sX2_isApplicant_2, by decide, List.mem_of_getElem? (i := 1) rfl⟩
set_option maxHeartbeats 4000000 in
set_option maxRecDepth 100000 in
theorem k_X2_isApplicant (D : DD) (o c l t : Nat) (N P : Int) (cap len lst : Int → Int) (a : Int) (hW : WI N P cap len lst) (ha : -2147483648 ≤ a ∧ a < 2147483648) : Con (S := Int) D yX2_isApplicant wsX2_isApplicant ({ frames := 0, cells := 0, slots := 0, locals := 0 }) 0 0 [.ref o, vi a] [(o, co 2 [vi N, vi P, .ref c, .ref l, .ref t]), (c, ca D 5 cap), (l, ca D 6 len), (t, ca D 30 lst)] (fun u => some (vi u)) (fun u => ((u = 1 ∧ (0 ≤ a ∧ a < N)) ∨ (u = 0 ∧ ¬ (0 ≤ a ∧ a < N)))) (fun u => [(o, co 2 [vi N, vi P, .ref c, .ref l, .ref t]), (c, ca D 5 cap), (l, ca D 6 len), (t, ca D 30 lst)]) := by
  refine Con.of (cc := cX2_isApplicant) (nL := 2) (ret := (some .boolean)) rfl (by decide +kernel) (Nat.le_of_ble_eq_true rfl) ?_
  intro X A Q O hQ hin
  show G X D A 2 Q 0 0 0 [(0, .ref o), (1, vi a)] [] [(o, co 2 [vi N, vi P, .ref c, .ref l, .ref t]), (c, ca D 5 cap), (l, ca D 6 len), (t, ca D 30 lst)]
  obtain ⟨hN, hcap, hlen, hlst, hdis⟩ := id hW
  refine g_iload_n O dX2_isApplicant_0 1 1 rfl rfl ?_
  refine g_if_lt O dX2_isApplicant_1 4 16 rfl rfl (by omega) (fun h1 => ?_) (fun h1 => ?_)
  · skip
    refine g_iconst O dX2_isApplicant_16 17 rfl ?_
    exact g_zret O hQ dX2_isApplicant_17 (by decide +kernel) 0 rfl rfl (Or.inr ⟨rfl, by first | assumption | omega⟩) ⟨by decide, by decide⟩
  · skip
    refine g_iload_n O dX2_isApplicant_4 5 1 rfl rfl ?_
    refine g_aload_n O dX2_isApplicant_5 6 0 rfl rfl ?_
    refine g_get O dX2_isApplicant_6 9 rfl fX2_isApplicant_25 0 rfl rfl ?_
    refine g_icmp_ge O dX2_isApplicant_9 12 16 rfl rfl (by omega) (fun h9 => ?_) (fun h9 => ?_)
    · skip
      refine g_iconst O dX2_isApplicant_16 17 rfl ?_
      exact g_zret O hQ dX2_isApplicant_17 (by decide +kernel) 0 rfl rfl (Or.inr ⟨rfl, by first | assumption | omega⟩) ⟨by decide, by decide⟩
    · skip
      refine g_iconst O dX2_isApplicant_12 13 rfl ?_
      refine g_goto O dX2_isApplicant_13 17 rfl ?_
      exact g_zret O hQ dX2_isApplicant_17 (by decide +kernel) 1 rfl rfl (Or.inl ⟨rfl, by first | assumption | omega⟩) ⟨by decide, by decide⟩
theorem sX2_isPost_2 : ∀ w ∈ wsX20, w ∈ wsX2_isPost := by decide +kernel
theorem fX2_isPost_29 : FK RX2 wsX2_isPost 29 2 1 := ⟨RX2, TX2, 5, rfl, sX2_isPost_2, by decide, List.mem_of_getElem? (i := 1) rfl⟩
set_option maxHeartbeats 4000000 in
set_option maxRecDepth 100000 in
theorem k_X2_isPost (D : DD) (o c l t : Nat) (N P : Int) (cap len lst : Int → Int) (a : Int) (hW : WI N P cap len lst) (ha : -2147483648 ≤ a ∧ a < 2147483648) : Con (S := Int) D yX2_isPost wsX2_isPost ({ frames := 0, cells := 0, slots := 0, locals := 0 }) 0 0 [.ref o, vi a] [(o, co 2 [vi N, vi P, .ref c, .ref l, .ref t]), (c, ca D 5 cap), (l, ca D 6 len), (t, ca D 30 lst)] (fun u => some (vi u)) (fun u => ((u = 1 ∧ (0 ≤ a ∧ a < P)) ∨ (u = 0 ∧ ¬ (0 ≤ a ∧ a < P)))) (fun u => [(o, co 2 [vi N, vi P, .ref c, .ref l, .ref t]), (c, ca D 5 cap), (l, ca D 6 len), (t, ca D 30 lst)]) := by
  refine Con.of (cc := cX2_isPost) (nL := 2) (ret := (some .boolean)) rfl (by decide +kernel) (Nat.le_of_ble_eq_true rfl) ?_
  intro X A Q O hQ hin
  show G X D A 2 Q 0 0 0 [(0, .ref o), (1, vi a)] [] [(o, co 2 [vi N, vi P, .ref c, .ref l, .ref t]), (c, ca D 5 cap), (l, ca D 6 len), (t, ca D 30 lst)]
  obtain ⟨hN, hcap, hlen, hlst, hdis⟩ := id hW
  refine g_iload_n O dX2_isPost_0 1 1 rfl rfl ?_
  refine g_if_lt O dX2_isPost_1 4 16 rfl rfl (by omega) (fun h1 => ?_) (fun h1 => ?_)
  · skip
    refine g_iconst O dX2_isPost_16 17 rfl ?_
    exact g_zret O hQ dX2_isPost_17 (by decide +kernel) 0 rfl rfl (Or.inr ⟨rfl, by first | assumption | omega⟩) ⟨by decide, by decide⟩
  · skip
    refine g_iload_n O dX2_isPost_4 5 1 rfl rfl ?_
    refine g_aload_n O dX2_isPost_5 6 0 rfl rfl ?_
    refine g_get O dX2_isPost_6 9 rfl fX2_isPost_29 0 rfl rfl ?_
    refine g_icmp_ge O dX2_isPost_9 12 16 rfl rfl (by omega) (fun h9 => ?_) (fun h9 => ?_)
    · skip
      refine g_iconst O dX2_isPost_16 17 rfl ?_
      exact g_zret O hQ dX2_isPost_17 (by decide +kernel) 0 rfl rfl (Or.inr ⟨rfl, by first | assumption | omega⟩) ⟨by decide, by decide⟩
    · skip
      refine g_iconst O dX2_isPost_12 13 rfl ?_
      refine g_goto O dX2_isPost_13 17 rfl ?_
      exact g_zret O hQ dX2_isPost_17 (by decide +kernel) 1 rfl rfl (Or.inl ⟨rfl, by first | assumption | omega⟩) ⟨by decide, by decide⟩
theorem sX2_listed_2 : ∀ w ∈ wsX20, w ∈ wsX2_listed := by decide +kernel
theorem fX2_listed_18 : FK RX2 wsX2_listed 18 2 4 := ⟨RX2, TX2, 5, rfl, sX2_listed_2, by decide, List.mem_of_getElem? (i := 1) rfl⟩
set_option maxHeartbeats 4000000 in
set_option maxRecDepth 100000 in
theorem k_X2_listed (D : DD) (o c l t : Nat) (N P : Int) (cap len lst : Int → Int) (a i : Int) (ha : 0 ≤ a ∧ a < 6) (hi : 0 ≤ i ∧ i < 5) : Con (S := Unit) D yX2_listed wsX2_listed ({ frames := 0, cells := 0, slots := 0, locals := 0 }) 0 0 [.ref o, vi a, vi i] [(o, co 2 [vi N, vi P, .ref c, .ref l, .ref t]), (c, ca D 5 cap), (l, ca D 6 len), (t, ca D 30 lst)] (fun u => some (vi (row lst a i))) (fun u => True) (fun u => [(o, co 2 [vi N, vi P, .ref c, .ref l, .ref t]), (c, ca D 5 cap), (l, ca D 6 len), (t, ca D 30 lst)]) := by
  refine Con.of (cc := cX2_listed) (nL := 3) (ret := (some .int)) rfl (by decide +kernel) (Nat.le_of_ble_eq_true rfl) ?_
  intro X A Q O hQ hin
  show G X D A 3 Q 0 0 0 [(0, .ref o), (1, vi a), (2, vi i)] [] [(o, co 2 [vi N, vi P, .ref c, .ref l, .ref t]), (c, ca D 5 cap), (l, ca D 6 len), (t, ca D 30 lst)]
  refine g_aload_n O dX2_listed_0 1 0 rfl rfl ?_
  refine g_get O dX2_listed_1 4 rfl fX2_listed_18 0 rfl rfl ?_
  refine g_iload_n O dX2_listed_4 5 1 rfl rfl ?_
  refine g_iconst O dX2_listed_5 6 rfl ?_
  refine g_imul O dX2_listed_6 7 rfl ?_
  refine g_iload_n O dX2_listed_7 8 2 rfl rfl ?_
  refine g_iadd O dX2_listed_8 9 rfl ?_
  refine g_iald O dX2_listed_9 10 rfl 3 rfl (by decide) (by omega) ?_
  exact g_iret O hQ dX2_listed_10 () (vi_eq (by first | rfl | omega)) rfl trivial ⟨by decide, by decide⟩
theorem sX2_rankOf_2 : ∀ w ∈ wsX20, w ∈ wsX2_rankOf := by decide +kernel
theorem fX2_rankOf_15 : FK RX2 wsX2_rankOf 15 2 3 := ⟨RX2, TX2, 5, rfl, sX2_rankOf_2, by decide, List.mem_of_getElem? (i := 1) rfl⟩
set_option maxHeartbeats 4000000 in
set_option maxRecDepth 100000 in
theorem k_X2_rankOf (D : DD) (o c l t : Nat) (N P : Int) (cap len lst : Int → Int) (a p : Int) (hW : WI N P cap len lst) (ha : 0 ≤ a ∧ a < 6) (hp : -2147483648 ≤ p ∧ p < 2147483648) : Con (S := Unit) D yX2_rankOf wsX2_rankOf ({ frames := 1, cells := 0, slots := 0, locals := 22 }) 0 0 [.ref o, vi a, vi p] [(o, co 2 [vi N, vi P, .ref c, .ref l, .ref t]), (c, ca D 5 cap), (l, ca D 6 len), (t, ca D 30 lst)] (fun u => some (vi (rk (row lst a) p (len a)))) (fun u => True) (fun u => [(o, co 2 [vi N, vi P, .ref c, .ref l, .ref t]), (c, ca D 5 cap), (l, ca D 6 len), (t, ca D 30 lst)]) := by
  refine Con.of (cc := cX2_rankOf) (nL := 4) (ret := (some .int)) rfl (by decide +kernel) (Nat.le_of_ble_eq_true rfl) ?_
  intro X A Q O hQ hin
  show G X D A 4 Q 0 0 0 [(0, .ref o), (1, vi a), (2, vi p)] [] [(o, co 2 [vi N, vi P, .ref c, .ref l, .ref t]), (c, ca D 5 cap), (l, ca D 6 len), (t, ca D 30 lst)]
  obtain ⟨hN, hcap, hlen, hlst, hdis⟩ := id hW
  have hla := hlen a (by omega) (by omega)
  refine g_iconst O dX2_rankOf_0 1 rfl ?_
  refine g_istore_n O dX2_rankOf_1 2 [(0, .ref o), (1, vi a), (2, vi p), (3, vi 0)] rfl (by decide) rfl ?_
  have lp2 : ∀ (nn : Nat) (i : Int), (0 ≤ i ∧ i ≤ len a) → (∀ kk, 0 ≤ kk → kk < i → row lst a kk ≠ p) → (len a - i < (nn : Int)) → G X D A 4 Q 0 0 2 [(0, .ref o), (1, vi a), (2, vi p), (3, vi i)] [] [(o, co 2 [vi N, vi P, .ref c, .ref l, .ref t]), (c, ca D 5 cap), (l, ca D 6 len), (t, ca D 30 lst)] := by
    intro nn
    induction nn with
    | zero =>
      intro i h1 h2 hm2
      exact absurd hm2 (by omega)
    | succ nn ih2 =>
      intro i h1 h2 hm2
      refine g_iload_n O dX2_rankOf_2 3 3 rfl rfl ?_
      refine g_aload_n O dX2_rankOf_3 4 0 rfl rfl ?_
      refine g_get O dX2_rankOf_4 7 rfl fX2_rankOf_15 0 rfl rfl ?_
      refine g_iload_n O dX2_rankOf_7 8 1 rfl rfl ?_
      refine g_iald O dX2_rankOf_8 9 rfl 2 rfl (by decide) (by omega) ?_
      refine g_icmp_ge O dX2_rankOf_9 12 30 rfl rfl (by omega) (fun h9 => ?_) (fun h9 => ?_)
      · skip
        refine g_aload_n O dX2_rankOf_30 31 0 rfl rfl ?_
        refine g_get O dX2_rankOf_31 34 rfl fX2_rankOf_15 0 rfl rfl ?_
        refine g_iload_n O dX2_rankOf_34 35 1 rfl rfl ?_
        refine g_iald O dX2_rankOf_35 36 rfl 2 rfl (by decide) (by omega) ?_
        exact g_iret O hQ dX2_rankOf_36 () (vi_eq (rk_uniq (by omega) (by omega) (fun kk q1 q2 => h2 kk q1 (by omega)) (fun q => absurd q (by omega))).symm) rfl trivial ⟨by decide, by decide⟩
      · skip
        have hli := hlst a i (by omega) (by omega) (by omega) (by omega)
        refine g_aload_n O dX2_rankOf_12 13 0 rfl rfl ?_
        refine g_iload_n O dX2_rankOf_13 14 1 rfl rfl ?_
        refine g_iload_n O dX2_rankOf_14 15 3 rfl rfl ?_
        refine g_callV (As := [vi a, vi i]) (rest := []) (na := 2) O (k_X2_listed D o c l t N P cap len lst a i (by omega) (by omega)) dX2_rankOf_15 gX2_rankOf_X2_listed rfl ⟨rfl, rfl⟩ (by decide +kernel) rfl (by decide) (by decide) rfl (by decide) (q0 := 0) (ci := 2) rfl rfl [0, 1, 2, 3] (by decide) rfl (fun _ => rfl) (fun _ => [(o, co 2 [vi N, vi P, .ref c, .ref l, .ref t]), (c, ca D 5 cap), (l, ca D 6 len), (t, ca D 30 lst)]) (fun _ => rfl) 18 rfl (fun _ _ => ?_)
        show G X D A 4 Q 0 0 18 [(0, .ref o), (1, vi a), (2, vi p), (3, vi i)] [vi (row lst a i)] [(o, co 2 [vi N, vi P, .ref c, .ref l, .ref t]), (c, ca D 5 cap), (l, ca D 6 len), (t, ca D 30 lst)]
        have hrow : 0 ≤ row lst a i ∧ row lst a i < P := hli
        refine g_iload_n O dX2_rankOf_18 19 2 rfl rfl ?_
        refine g_icmp_ne O dX2_rankOf_19 22 24 rfl rfl (by omega) (fun h19 => ?_) (fun h19 => ?_)
        · skip
          refine g_iinc O dX2_rankOf_24 27 3 [(0, .ref o), (1, vi a), (2, vi p), (3, vi (i + 1))] rfl (by decide) rfl rfl ?_
          refine g_goto O dX2_rankOf_27 2 rfl ?_
          exact ih2 (i + 1) (by omega) (fun kk q1 q2 => by rcases (show kk < i ∨ kk = i by omega) with q | q; exact h2 kk q1 q; rw [q]; exact h19) (by omega)
        · skip
          refine g_iload_n O dX2_rankOf_22 23 3 rfl rfl ?_
          exact g_iret O hQ dX2_rankOf_23 () (vi_eq (rk_uniq (by omega) (by omega) h2 (fun _ => h19)).symm) rfl trivial ⟨by decide, by decide⟩
  exact lp2 1000 0 (by omega) (fun kk q1 q2 => absurd q2 (by omega)) (by omega)
theorem sX2_isListed_2 : ∀ w ∈ wsX20, w ∈ wsX2_isListed := by decide +kernel
theorem fX2_isListed_15 : FK RX2 wsX2_isListed 15 2 3 := ⟨RX2, TX2, 5, rfl, sX2_isListed_2, by decide, List.mem_of_getElem? (i := 1) rfl⟩
set_option maxHeartbeats 4000000 in
set_option maxRecDepth 100000 in
theorem k_X2_isListed (D : DD) (o c l t : Nat) (N P : Int) (cap len lst : Int → Int) (a p : Int) (hW : WI N P cap len lst) (ha : 0 ≤ a ∧ a < 6) (hp : -2147483648 ≤ p ∧ p < 2147483648) : Con (S := Int) D yX2_isListed wsX2_isListed ({ frames := 2, cells := 0, slots := 0, locals := 45 }) 0 0 [.ref o, vi a, vi p] [(o, co 2 [vi N, vi P, .ref c, .ref l, .ref t]), (c, ca D 5 cap), (l, ca D 6 len), (t, ca D 30 lst)] (fun u => some (vi u)) (fun u => ((u = 1 ∧ (rk (row lst a) p (len a) < len a)) ∨ (u = 0 ∧ ¬ (rk (row lst a) p (len a) < len a)))) (fun u => [(o, co 2 [vi N, vi P, .ref c, .ref l, .ref t]), (c, ca D 5 cap), (l, ca D 6 len), (t, ca D 30 lst)]) := by
  refine Con.of (cc := cX2_isListed) (nL := 3) (ret := (some .boolean)) rfl (by decide +kernel) (Nat.le_of_ble_eq_true rfl) ?_
  intro X A Q O hQ hin
  show G X D A 3 Q 0 0 0 [(0, .ref o), (1, vi a), (2, vi p)] [] [(o, co 2 [vi N, vi P, .ref c, .ref l, .ref t]), (c, ca D 5 cap), (l, ca D 6 len), (t, ca D 30 lst)]
  obtain ⟨hN, hcap, hlen, hlst, hdis⟩ := id hW
  have hla := hlen a (by omega) (by omega)
  have hrk := rk_le (row lst a) p (n := len a) (by omega)
  refine g_aload_n O dX2_isListed_0 1 0 rfl rfl ?_
  refine g_iload_n O dX2_isListed_1 2 1 rfl rfl ?_
  refine g_iload_n O dX2_isListed_2 3 2 rfl rfl ?_
  refine g_callV (As := [vi a, vi p]) (rest := []) (na := 2) O (k_X2_rankOf D o c l t N P cap len lst a p hW (by omega) (by omega)) dX2_isListed_3 gX2_isListed_X2_rankOf rfl ⟨rfl, rfl⟩ (by decide +kernel) rfl (by decide) (by decide) rfl (by decide) (q0 := 0) (ci := 2) rfl rfl [0, 1, 2, 3] (by decide) rfl (fun _ => rfl) (fun _ => [(o, co 2 [vi N, vi P, .ref c, .ref l, .ref t]), (c, ca D 5 cap), (l, ca D 6 len), (t, ca D 30 lst)]) (fun _ => rfl) 6 rfl (fun _ _ => ?_)
  show G X D A 3 Q 0 0 6 [(0, .ref o), (1, vi a), (2, vi p)] [vi (rk (row lst a) p (len a))] [(o, co 2 [vi N, vi P, .ref c, .ref l, .ref t]), (c, ca D 5 cap), (l, ca D 6 len), (t, ca D 30 lst)]
  refine g_aload_n O dX2_isListed_6 7 0 rfl rfl ?_
  refine g_get O dX2_isListed_7 10 rfl fX2_isListed_15 0 rfl rfl ?_
  refine g_iload_n O dX2_isListed_10 11 1 rfl rfl ?_
  refine g_iald O dX2_isListed_11 12 rfl 2 rfl (by decide) (by omega) ?_
  refine g_icmp_ge O dX2_isListed_12 15 19 rfl rfl (by omega) (fun h12 => ?_) (fun h12 => ?_)
  · skip
    refine g_iconst O dX2_isListed_19 20 rfl ?_
    exact g_zret O hQ dX2_isListed_20 (by decide +kernel) 0 rfl rfl (Or.inr ⟨rfl, by first | assumption | omega⟩) ⟨by decide, by decide⟩
  · skip
    refine g_iconst O dX2_isListed_15 16 rfl ?_
    refine g_goto O dX2_isListed_16 20 rfl ?_
    exact g_zret O hQ dX2_isListed_20 (by decide +kernel) 1 rfl rfl (Or.inl ⟨rfl, by first | assumption | omega⟩) ⟨by decide, by decide⟩
theorem sX2_append_2 : ∀ w ∈ wsX20, w ∈ wsX2_append := by decide +kernel
theorem fX2_append_15 : FK RX2 wsX2_append 15 2 3 := ⟨RX2, TX2, 5, rfl, sX2_append_2, by decide, List.mem_of_getElem? (i := 2) rfl⟩
theorem fX2_append_18 : FK RX2 wsX2_append 18 2 4 := ⟨RX2, TX2, 5, rfl, sX2_append_2, by decide, List.mem_of_getElem? (i := 1) rfl⟩
set_option maxHeartbeats 4000000 in
set_option maxRecDepth 100000 in
theorem k_X2_append (D : DD) (o c l t : Nat) (N P : Int) (cap len lst : Int → Int) (a p : Int) (hW : WI N P cap len lst) (ha : 0 ≤ a ∧ a < 6) (hl5 : len a < 5) : Con (S := Unit) D yX2_append wsX2_append ({ frames := 0, cells := 0, slots := 0, locals := 0 }) 0 0 [.ref o, vi a, vi p] [(o, co 2 [vi N, vi P, .ref c, .ref l, .ref t]), (c, ca D 5 cap), (l, ca D 6 len), (t, ca D 30 lst)] (fun u => some (vi (len a + 1))) (fun u => True) (fun u => [(o, co 2 [vi N, vi P, .ref c, .ref l, .ref t]), (c, ca D 5 cap), (l, ca D 6 (up len a (len a + 1))), (t, ca D 30 (up lst (a * 5 + len a) p))]) := by
  refine Con.of (cc := cX2_append) (nL := 3) (ret := (some .int)) rfl (by decide +kernel) (Nat.le_of_ble_eq_true rfl) ?_
  intro X A Q O hQ hin
  show G X D A 3 Q 0 0 0 [(0, .ref o), (1, vi a), (2, vi p)] [] [(o, co 2 [vi N, vi P, .ref c, .ref l, .ref t]), (c, ca D 5 cap), (l, ca D 6 len), (t, ca D 30 lst)]
  obtain ⟨hN, hcap, hlen, hlst, hdis⟩ := id hW
  have hla := hlen a (by omega) (by omega)
  refine g_aload_n O dX2_append_0 1 0 rfl rfl ?_
  refine g_get O dX2_append_1 4 rfl fX2_append_18 0 rfl rfl ?_
  refine g_iload_n O dX2_append_4 5 1 rfl rfl ?_
  refine g_iconst O dX2_append_5 6 rfl ?_
  refine g_imul O dX2_append_6 7 rfl ?_
  refine g_aload_n O dX2_append_7 8 0 rfl rfl ?_
  refine g_get O dX2_append_8 11 rfl fX2_append_15 0 rfl rfl ?_
  refine g_iload_n O dX2_append_11 12 1 rfl rfl ?_
  refine g_iald O dX2_append_12 13 rfl 2 rfl (by decide) (by omega) ?_
  refine g_iadd O dX2_append_13 14 rfl ?_
  refine g_iload_n O dX2_append_14 15 2 rfl rfl ?_
  refine g_iast O dX2_append_15 16 rfl 3 rfl (by decide) (by omega) [(o, co 2 [vi N, vi P, .ref c, .ref l, .ref t]), (c, ca D 5 cap), (l, ca D 6 len), (t, ca D 30 (up lst ((a * 5) + (len a)) p))] rfl ?_
  refine g_aload_n O dX2_append_16 17 0 rfl rfl ?_
  refine g_get O dX2_append_17 20 rfl fX2_append_15 0 rfl rfl ?_
  refine g_iload_n O dX2_append_20 21 1 rfl rfl ?_
  refine g_dup2 O dX2_append_21 22 rfl rfl rfl ?_
  refine g_iald O dX2_append_22 23 rfl 2 rfl (by decide) (by omega) ?_
  refine g_iconst O dX2_append_23 24 rfl ?_
  refine g_iadd O dX2_append_24 25 rfl ?_
  refine g_iast O dX2_append_25 26 rfl 2 rfl (by decide) (by omega) [(o, co 2 [vi N, vi P, .ref c, .ref l, .ref t]), (c, ca D 5 cap), (l, ca D 6 (up len a ((len a) + 1))), (t, ca D 30 (up lst ((a * 5) + (len a)) p))] rfl ?_
  refine g_aload_n O dX2_append_26 27 0 rfl rfl ?_
  refine g_get O dX2_append_27 30 rfl fX2_append_15 0 rfl rfl ?_
  refine g_iload_n O dX2_append_30 31 1 rfl rfl ?_
  refine g_iald O dX2_append_31 32 rfl 2 rfl (by decide) (by omega) ?_
  exact g_iret O hQ dX2_append_32 () (vi_eq (up_s _ _ _).symm) rfl trivial ⟨by decide, by decide⟩
set_option maxHeartbeats 4000000 in
set_option maxRecDepth 100000 in
theorem k_X2_vote (D : DD) (a b : Int) (ha : -2147483648 ≤ a ∧ a < 2147483648) (hb : -2147483648 ≤ b ∧ b < 2147483648) : Con (S := Unit) D yX2_vote wsX2_vote ({ frames := 0, cells := 0, slots := 0, locals := 0 }) 0 0 [vi a, vi b] [] (fun u => some (vi (vt a b))) (fun u => True) (fun u => []) := by
  refine Con.of (cc := cX2_vote) (nL := 2) (ret := (some .int)) rfl (by decide +kernel) (Nat.le_of_ble_eq_true rfl) ?_
  intro X A Q O hQ hin
  show G X D A 2 Q 0 0 0 [(0, vi a), (1, vi b)] [] []
  refine g_iload_n O dX2_vote_0 1 0 rfl rfl ?_
  refine g_iload_n O dX2_vote_1 2 1 rfl rfl ?_
  refine g_icmp_ne O dX2_vote_2 5 7 rfl rfl (by omega) (fun h2 => ?_) (fun h2 => ?_)
  · skip
    refine g_iload_n O dX2_vote_7 8 0 rfl rfl ?_
    refine g_iload_n O dX2_vote_8 9 1 rfl rfl ?_
    refine g_icmp_ge O dX2_vote_9 12 16 rfl rfl (by omega) (fun h9 => ?_) (fun h9 => ?_)
    · skip
      refine g_iconst O dX2_vote_16 17 rfl ?_
      exact g_iret O hQ dX2_vote_17 () (vi_eq (by unfold vt; split <;> (try split) <;> omega)) rfl trivial ⟨by decide, by decide⟩
    · skip
      refine g_iconst O dX2_vote_12 13 rfl ?_
      refine g_goto O dX2_vote_13 17 rfl ?_
      exact g_iret O hQ dX2_vote_17 () (vi_eq (by unfold vt; split <;> (try split) <;> omega)) rfl trivial ⟨by decide, by decide⟩
  · skip
    refine g_iconst O dX2_vote_5 6 rfl ?_
    exact g_iret O hQ dX2_vote_6 () (vi_eq (by simp [vt, h2])) rfl trivial ⟨by decide, by decide⟩
theorem sX2_firstOf_2 : ∀ w ∈ wsX20, w ∈ wsX2_firstOf := by decide +kernel
theorem fX2_firstOf_15 : FK RX2 wsX2_firstOf 15 2 3 := ⟨RX2, TX2, 5, rfl, sX2_firstOf_2, by decide, List.mem_of_getElem? (i := 1) rfl⟩
set_option maxHeartbeats 4000000 in
set_option maxRecDepth 100000 in
theorem k_X2_firstOf (D : DD) (o c l t : Nat) (N P : Int) (cap len lst : Int → Int) (a : Int) (hW : WI N P cap len lst) (ha : 0 ≤ a ∧ a < 6) : Con (S := Unit) D yX2_firstOf wsX2_firstOf ({ frames := 1, cells := 0, slots := 0, locals := 22 }) 0 0 [.ref o, vi a] [(o, co 2 [vi N, vi P, .ref c, .ref l, .ref t]), (c, ca D 5 cap), (l, ca D 6 len), (t, ca D 30 lst)] (fun u => some (vi (fp len lst a))) (fun u => True) (fun u => [(o, co 2 [vi N, vi P, .ref c, .ref l, .ref t]), (c, ca D 5 cap), (l, ca D 6 len), (t, ca D 30 lst)]) := by
  refine Con.of (cc := cX2_firstOf) (nL := 2) (ret := (some .int)) rfl (by decide +kernel) (Nat.le_of_ble_eq_true rfl) ?_
  intro X A Q O hQ hin
  show G X D A 2 Q 0 0 0 [(0, .ref o), (1, vi a)] [] [(o, co 2 [vi N, vi P, .ref c, .ref l, .ref t]), (c, ca D 5 cap), (l, ca D 6 len), (t, ca D 30 lst)]
  obtain ⟨hN, hcap, hlen, hlst, hdis⟩ := id hW
  have hla := hlen a (by omega) (by omega)
  refine g_aload_n O dX2_firstOf_0 1 0 rfl rfl ?_
  refine g_get O dX2_firstOf_1 4 rfl fX2_firstOf_15 0 rfl rfl ?_
  refine g_iload_n O dX2_firstOf_4 5 1 rfl rfl ?_
  refine g_iald O dX2_firstOf_5 6 rfl 2 rfl (by decide) (by omega) ?_
  refine g_if_ne O dX2_firstOf_6 9 13 rfl rfl (by omega) (fun h6 => ?_) (fun h6 => ?_)
  · skip
    refine g_aload_n O dX2_firstOf_13 14 0 rfl rfl ?_
    refine g_iload_n O dX2_firstOf_14 15 1 rfl rfl ?_
    refine g_iconst O dX2_firstOf_15 16 rfl ?_
    refine g_callV (As := [vi a, vi 0]) (rest := []) (na := 2) O (k_X2_listed D o c l t N P cap len lst a 0 (by omega) (by omega)) dX2_firstOf_16 gX2_firstOf_X2_listed rfl ⟨rfl, rfl⟩ (by decide +kernel) rfl (by decide) (by decide) rfl (by decide) (q0 := 0) (ci := 2) rfl rfl [0, 1, 2, 3] (by decide) rfl (fun _ => rfl) (fun _ => [(o, co 2 [vi N, vi P, .ref c, .ref l, .ref t]), (c, ca D 5 cap), (l, ca D 6 len), (t, ca D 30 lst)]) (fun _ => rfl) 19 rfl (fun _ _ => ?_)
    show G X D A 2 Q 0 0 19 [(0, .ref o), (1, vi a)] [vi (row lst a 0)] [(o, co 2 [vi N, vi P, .ref c, .ref l, .ref t]), (c, ca D 5 cap), (l, ca D 6 len), (t, ca D 30 lst)]
    exact g_iret O hQ dX2_firstOf_19 () (vi_eq (by unfold fp; split <;> omega)) rfl trivial ⟨by decide, by decide⟩
  · skip
    refine g_iconst O dX2_firstOf_9 10 rfl ?_
    refine g_goto O dX2_firstOf_10 19 rfl ?_
    exact g_iret O hQ dX2_firstOf_19 () (vi_eq (by unfold fp; split <;> omega)) rfl trivial ⟨by decide, by decide⟩
theorem sX2_countFirst_2 : ∀ w ∈ wsX20, w ∈ wsX2_countFirst := by decide +kernel
theorem fX2_countFirst_25 : FK RX2 wsX2_countFirst 25 2 0 := ⟨RX2, TX2, 5, rfl, sX2_countFirst_2, by decide, List.mem_of_getElem? (i := 1) rfl⟩
set_option maxHeartbeats 4000000 in
set_option maxRecDepth 100000 in
theorem k_X2_countFirst (D : DD) (o c l t : Nat) (N P : Int) (cap len lst : Int → Int) (p : Int) (hW : WI N P cap len lst) (hp : -2147483648 ≤ p ∧ p < 2147483648) : Con (S := Unit) D yX2_countFirst wsX2_countFirst ({ frames := 2, cells := 0, slots := 0, locals := 43 }) 0 0 [.ref o, vi p] [(o, co 2 [vi N, vi P, .ref c, .ref l, .ref t]), (c, ca D 5 cap), (l, ca D 6 len), (t, ca D 30 lst)] (fun u => some (vi (cf N len lst p))) (fun u => True) (fun u => [(o, co 2 [vi N, vi P, .ref c, .ref l, .ref t]), (c, ca D 5 cap), (l, ca D 6 len), (t, ca D 30 lst)]) := by
  refine Con.of (cc := cX2_countFirst) (nL := 4) (ret := (some .int)) rfl (by decide +kernel) (Nat.le_of_ble_eq_true rfl) ?_
  intro X A Q O hQ hin
  show G X D A 4 Q 0 0 0 [(0, .ref o), (1, vi p)] [] [(o, co 2 [vi N, vi P, .ref c, .ref l, .ref t]), (c, ca D 5 cap), (l, ca D 6 len), (t, ca D 30 lst)]
  obtain ⟨hN, hcap, hlen, hlst, hdis⟩ := id hW
  refine g_iconst O dX2_countFirst_0 1 rfl ?_
  refine g_istore_n O dX2_countFirst_1 2 [(0, .ref o), (1, vi p), (2, vi 0)] rfl (by decide) rfl ?_
  refine g_iconst O dX2_countFirst_2 3 rfl ?_
  refine g_istore_n O dX2_countFirst_3 4 [(0, .ref o), (1, vi p), (2, vi 0), (3, vi 0)] rfl (by decide) rfl ?_
  have lp4 : ∀ (nn : Nat) (i : Int) (s : Int), (0 ≤ i ∧ i ≤ N) → (s = sm (cfi len lst p) i) → (N - i < (nn : Int)) → G X D A 4 Q 0 0 4 [(0, .ref o), (1, vi p), (2, vi s), (3, vi i)] [] [(o, co 2 [vi N, vi P, .ref c, .ref l, .ref t]), (c, ca D 5 cap), (l, ca D 6 len), (t, ca D 30 lst)] := by
    intro nn
    induction nn with
    | zero =>
      intro i s h1 h2 hm4
      exact absurd hm4 (by omega)
    | succ nn ih4 =>
      intro i s h1 h2 hm4
      refine g_iload_n O dX2_countFirst_4 5 3 rfl rfl ?_
      refine g_aload_n O dX2_countFirst_5 6 0 rfl rfl ?_
      refine g_get O dX2_countFirst_6 9 rfl fX2_countFirst_25 0 rfl rfl ?_
      refine g_icmp_ge O dX2_countFirst_9 12 30 rfl rfl (by omega) (fun h9 => ?_) (fun h9 => ?_)
      · skip
        refine g_iload_n O dX2_countFirst_30 31 2 rfl rfl ?_
        exact g_iret O hQ dX2_countFirst_31 () (vi_eq (by rw [h2, show i = N by omega]; rfl)) rfl trivial ⟨by decide, by decide⟩
      · skip
        refine g_aload_n O dX2_countFirst_12 13 0 rfl rfl ?_
        refine g_iload_n O dX2_countFirst_13 14 3 rfl rfl ?_
        refine g_callV (As := [vi i]) (rest := []) (na := 1) O (k_X2_firstOf D o c l t N P cap len lst i hW (by omega)) dX2_countFirst_14 gX2_countFirst_X2_firstOf rfl ⟨rfl, rfl⟩ (by decide +kernel) rfl (by decide) (by decide) rfl (by decide) (q0 := 0) (ci := 2) rfl rfl [0, 1, 2, 3] (by decide) rfl (fun _ => rfl) (fun _ => [(o, co 2 [vi N, vi P, .ref c, .ref l, .ref t]), (c, ca D 5 cap), (l, ca D 6 len), (t, ca D 30 lst)]) (fun _ => rfl) 17 rfl (fun _ _ => ?_)
        show G X D A 4 Q 0 0 17 [(0, .ref o), (1, vi p), (2, vi s), (3, vi i)] [vi (fp len lst i)] [(o, co 2 [vi N, vi P, .ref c, .ref l, .ref t]), (c, ca D 5 cap), (l, ca D 6 len), (t, ca D 30 lst)]
        have hfp := fp_bd hW (a := i) (by omega) (by omega)
        refine g_iload_n O dX2_countFirst_17 18 1 rfl rfl ?_
        refine g_icmp_ne O dX2_countFirst_18 21 24 rfl rfl (by omega) (fun h18 => ?_) (fun h18 => ?_)
        · skip
          refine g_iinc O dX2_countFirst_24 27 3 [(0, .ref o), (1, vi p), (2, vi s), (3, vi (i + 1))] rfl (by decide) rfl rfl ?_
          refine g_goto O dX2_countFirst_27 4 rfl ?_
          exact ih4 (i + 1) s (by omega) (by rw [sm_s _ h1.1, ← h2]; unfold cfi; split <;> omega) (by omega)
        · skip
          refine g_iinc O dX2_countFirst_21 24 2 [(0, .ref o), (1, vi p), (2, vi (s + 1)), (3, vi i)] rfl (by decide) rfl rfl ?_
          refine g_iinc O dX2_countFirst_24 27 3 [(0, .ref o), (1, vi p), (2, vi (s + 1)), (3, vi (i + 1))] rfl (by decide) rfl rfl ?_
          refine g_goto O dX2_countFirst_27 4 rfl ?_
          exact ih4 (i + 1) (s + 1) (by omega) (by rw [sm_s _ h1.1, ← h2]; unfold cfi; split <;> omega) (by omega)
  exact lp4 1000 0 0 (by omega) (sm_0 _).symm (by omega)
theorem sX2_secondOf_2 : ∀ w ∈ wsX20, w ∈ wsX2_secondOf := by decide +kernel
theorem fX2_secondOf_15 : FK RX2 wsX2_secondOf 15 2 3 := ⟨RX2, TX2, 5, rfl, sX2_secondOf_2, by decide, List.mem_of_getElem? (i := 1) rfl⟩
theorem fX2_secondOf_9 : FK RX2 wsX2_secondOf 9 2 2 := ⟨RX2, TX2, 5, rfl, sX2_secondOf_2, by decide, List.mem_of_getElem? (i := 2) rfl⟩
set_option maxHeartbeats 4000000 in
set_option maxRecDepth 100000 in
theorem k_X2_secondOf (D : DD) (o c l t : Nat) (N P : Int) (cap len lst : Int → Int) (a : Int) (hW : WI N P cap len lst) (ha : 0 ≤ a ∧ a < 6) : Con (S := Unit) D yX2_secondOf wsX2_secondOf ({ frames := 3, cells := 0, slots := 0, locals := 66 }) 0 0 [.ref o, vi a] [(o, co 2 [vi N, vi P, .ref c, .ref l, .ref t]), (c, ca D 5 cap), (l, ca D 6 len), (t, ca D 30 lst)] (fun u => some (vi (sp N cap len lst a))) (fun u => True) (fun u => [(o, co 2 [vi N, vi P, .ref c, .ref l, .ref t]), (c, ca D 5 cap), (l, ca D 6 len), (t, ca D 30 lst)]) := by
  refine Con.of (cc := cX2_secondOf) (nL := 4) (ret := (some .int)) rfl (by decide +kernel) (Nat.le_of_ble_eq_true rfl) ?_
  intro X A Q O hQ hin
  show G X D A 4 Q 0 0 0 [(0, .ref o), (1, vi a)] [] [(o, co 2 [vi N, vi P, .ref c, .ref l, .ref t]), (c, ca D 5 cap), (l, ca D 6 len), (t, ca D 30 lst)]
  obtain ⟨hN, hcap, hlen, hlst, hdis⟩ := id hW
  have hla := hlen a (by omega) (by omega)
  refine g_iconst O dX2_secondOf_0 1 rfl ?_
  refine g_istore_n O dX2_secondOf_1 2 [(0, .ref o), (1, vi a), (2, vi 1)] rfl (by decide) rfl ?_
  have lp2 : ∀ (nn : Nat) (i : Int), (1 ≤ i ∧ (i ≤ len a ∨ i = 1)) → (∀ kk, 1 ≤ kk → kk < i → ¬ cf N len lst (row lst a kk) < cap (row lst a kk)) → (7 - i < (nn : Int)) → G X D A 4 Q 0 0 2 [(0, .ref o), (1, vi a), (2, vi i)] [] [(o, co 2 [vi N, vi P, .ref c, .ref l, .ref t]), (c, ca D 5 cap), (l, ca D 6 len), (t, ca D 30 lst)] := by
    intro nn
    induction nn with
    | zero =>
      intro i h1 h2 hm2
      exact absurd hm2 (by omega)
    | succ nn ih2 =>
      intro i h1 h2 hm2
      refine g_iload_n O dX2_secondOf_2 3 2 rfl rfl ?_
      refine g_aload_n O dX2_secondOf_3 4 0 rfl rfl ?_
      refine g_get O dX2_secondOf_4 7 rfl fX2_secondOf_15 0 rfl rfl ?_
      refine g_iload_n O dX2_secondOf_7 8 1 rfl rfl ?_
      refine g_iald O dX2_secondOf_8 9 rfl 2 rfl (by decide) (by omega) ?_
      refine g_icmp_ge O dX2_secondOf_9 12 41 rfl rfl (by omega) (fun h9 => ?_) (fun h9 => ?_)
      · skip
        refine g_iconst O dX2_secondOf_41 42 rfl ?_
        exact g_iret O hQ dX2_secondOf_42 () (vi_eq (sp_no (fun kk q1 q2 => h2 kk q1 (by omega)))) rfl trivial ⟨by decide, by decide⟩
      · skip
        have hli : 0 ≤ row lst a i ∧ row lst a i < P := hlst a i (by omega) (by omega) (by omega) (by omega)
        have hci := hcap (row lst a i) (by omega) (by omega)
        have hcf := cf_bd N len lst (row lst a i) (by omega)
        refine g_aload_n O dX2_secondOf_12 13 0 rfl rfl ?_
        refine g_iload_n O dX2_secondOf_13 14 1 rfl rfl ?_
        refine g_iload_n O dX2_secondOf_14 15 2 rfl rfl ?_
        refine g_callV (As := [vi a, vi i]) (rest := []) (na := 2) O (k_X2_listed D o c l t N P cap len lst a i (by omega) (by omega)) dX2_secondOf_15 gX2_secondOf_X2_listed rfl ⟨rfl, rfl⟩ (by decide +kernel) rfl (by decide) (by decide) rfl (by decide) (q0 := 0) (ci := 2) rfl rfl [0, 1, 2, 3] (by decide) rfl (fun _ => rfl) (fun _ => [(o, co 2 [vi N, vi P, .ref c, .ref l, .ref t]), (c, ca D 5 cap), (l, ca D 6 len), (t, ca D 30 lst)]) (fun _ => rfl) 18 rfl (fun _ _ => ?_)
        show G X D A 4 Q 0 0 18 [(0, .ref o), (1, vi a), (2, vi i)] [vi (row lst a i)] [(o, co 2 [vi N, vi P, .ref c, .ref l, .ref t]), (c, ca D 5 cap), (l, ca D 6 len), (t, ca D 30 lst)]
        refine g_istore_n O dX2_secondOf_18 19 [(0, .ref o), (1, vi a), (2, vi i), (3, vi (row lst a i))] rfl (by decide) rfl ?_
        refine g_aload_n O dX2_secondOf_19 20 0 rfl rfl ?_
        refine g_iload_n O dX2_secondOf_20 21 3 rfl rfl ?_
        refine g_callV (As := [vi (row lst a i)]) (rest := []) (na := 1) O (k_X2_countFirst D o c l t N P cap len lst (row lst a i) hW (by omega)) dX2_secondOf_21 gX2_secondOf_X2_countFirst rfl ⟨rfl, rfl⟩ (by decide +kernel) rfl (by decide) (by decide) rfl (by decide) (q0 := 0) (ci := 2) rfl rfl [0, 1, 2, 3] (by decide) rfl (fun _ => rfl) (fun _ => [(o, co 2 [vi N, vi P, .ref c, .ref l, .ref t]), (c, ca D 5 cap), (l, ca D 6 len), (t, ca D 30 lst)]) (fun _ => rfl) 24 rfl (fun _ _ => ?_)
        show G X D A 4 Q 0 0 24 [(0, .ref o), (1, vi a), (2, vi i), (3, vi (row lst a i))] [vi (cf N len lst (row lst a i))] [(o, co 2 [vi N, vi P, .ref c, .ref l, .ref t]), (c, ca D 5 cap), (l, ca D 6 len), (t, ca D 30 lst)]
        refine g_aload_n O dX2_secondOf_24 25 0 rfl rfl ?_
        refine g_get O dX2_secondOf_25 28 rfl fX2_secondOf_9 0 rfl rfl ?_
        refine g_iload_n O dX2_secondOf_28 29 3 rfl rfl ?_
        refine g_iald O dX2_secondOf_29 30 rfl 1 rfl (by decide) (by omega) ?_
        refine g_icmp_ge O dX2_secondOf_30 33 35 rfl rfl (by omega) (fun h30 => ?_) (fun h30 => ?_)
        · skip
          refine g_iinc O dX2_secondOf_35 38 2 [(0, .ref o), (1, vi a), (2, vi (i + 1)), (3, vi (row lst a i))] rfl (by decide) rfl rfl ?_
          refine g_goto O dX2_secondOf_38 2 rfl ?_
          refine g_loc (L' := [(0, .ref o), (1, vi a), (2, vi (i + 1))]) [0, 1, 2] rfl ?_
          exact ih2 (i + 1) (by omega) (fun kk q1 q2 => by rcases (show kk < i ∨ kk = i by omega) with q | q; exact h2 kk q1 q; rw [q]; omega) (by omega)
        · skip
          refine g_iload_n O dX2_secondOf_33 34 3 rfl rfl ?_
          exact g_iret O hQ dX2_secondOf_34 () (vi_eq (sp_at (by omega) (by omega) h2 h30)) rfl trivial ⟨by decide, by decide⟩
  exact lp2 1000 1 (by omega) (fun kk q1 q2 => absurd q2 (by omega)) (by omega)
theorem sX2_startAnew_2 : ∀ w ∈ wsX20, w ∈ wsX2_startAnew := by decide +kernel
theorem fX2_startAnew_15 : FK RX2 wsX2_startAnew 15 2 3 := ⟨RX2, TX2, 5, rfl, sX2_startAnew_2, by decide, List.mem_of_getElem? (i := 4) rfl⟩
theorem fX2_startAnew_25 : FK RX2 wsX2_startAnew 25 2 0 := ⟨RX2, TX2, 5, rfl, sX2_startAnew_2, by decide, List.mem_of_getElem? (i := 1) rfl⟩
theorem fX2_startAnew_29 : FK RX2 wsX2_startAnew 29 2 1 := ⟨RX2, TX2, 5, rfl, sX2_startAnew_2, by decide, List.mem_of_getElem? (i := 2) rfl⟩
theorem fX2_startAnew_9 : FK RX2 wsX2_startAnew 9 2 2 := ⟨RX2, TX2, 5, rfl, sX2_startAnew_2, by decide, List.mem_of_getElem? (i := 3) rfl⟩
set_option maxHeartbeats 4000000 in
set_option maxRecDepth 100000 in
theorem k_X2_startAnew (D : DD) (o c l t : Nat) (N P : Int) (cap len lst : Int → Int) (n p : Int) : Con (S := Unit) D yX2_startAnew wsX2_startAnew ({ frames := 0, cells := 0, slots := 0, locals := 0 }) 0 0 [.ref o, vi n, vi p] [(o, co 2 [vi N, vi P, .ref c, .ref l, .ref t]), (c, ca D 5 cap), (l, ca D 6 len), (t, ca D 30 lst)] (fun u => none) (fun u => True) (fun u => [(o, co 2 [vi n, vi p, .ref c, .ref l, .ref t]), (c, ca D 5 (fun _ => 1)), (l, ca D 6 (fun _ => 0)), (t, ca D 30 lst)]) := by
  refine Con.of (cc := cX2_startAnew) (nL := 4) (ret := none) rfl (by decide +kernel) (Nat.le_of_ble_eq_true rfl) ?_
  intro X A Q O hQ hin
  show G X D A 4 Q 0 0 0 [(0, .ref o), (1, vi n), (2, vi p)] [] [(o, co 2 [vi N, vi P, .ref c, .ref l, .ref t]), (c, ca D 5 cap), (l, ca D 6 len), (t, ca D 30 lst)]
  refine g_aload_n O dX2_startAnew_0 1 0 rfl rfl ?_
  refine g_iload_n O dX2_startAnew_1 2 1 rfl rfl ?_
  refine g_put O dX2_startAnew_2 5 rfl fX2_startAnew_25 pF2_0 0 rfl rfl rfl (Nat.le_of_ble_eq_true rfl) [(o, co 2 [vi n, vi P, .ref c, .ref l, .ref t]), (c, ca D 5 cap), (l, ca D 6 len), (t, ca D 30 lst)] rfl ?_
  refine g_aload_n O dX2_startAnew_5 6 0 rfl rfl ?_
  refine g_iload_n O dX2_startAnew_6 7 2 rfl rfl ?_
  refine g_put O dX2_startAnew_7 10 rfl fX2_startAnew_29 pF2_1 0 rfl rfl rfl (Nat.le_of_ble_eq_true rfl) [(o, co 2 [vi n, vi p, .ref c, .ref l, .ref t]), (c, ca D 5 cap), (l, ca D 6 len), (t, ca D 30 lst)] rfl ?_
  refine g_iconst O dX2_startAnew_10 11 rfl ?_
  refine g_istore_n O dX2_startAnew_11 12 [(0, .ref o), (1, vi n), (2, vi p), (3, vi 0)] rfl (by decide) rfl ?_
  have lp12 : ∀ (nn : Nat) (i : Int) (f : Int → Int), (0 ≤ i ∧ i ≤ 5) → (∀ kk, 0 ≤ kk → kk < i → f kk = 1) → (5 - i < (nn : Int)) → G X D A 4 Q 0 0 12 [(0, .ref o), (1, vi n), (2, vi p), (3, vi i)] [] [(o, co 2 [vi n, vi p, .ref c, .ref l, .ref t]), (c, ca D 5 f), (l, ca D 6 len), (t, ca D 30 lst)] := by
    intro nn
    induction nn with
    | zero =>
      intro i f h1 h2 hm12
      exact absurd hm12 (by omega)
    | succ nn ih12 =>
      intro i f h1 h2 hm12
      refine g_iload_n O dX2_startAnew_12 13 3 rfl rfl ?_
      refine g_iconst O dX2_startAnew_13 14 rfl ?_
      refine g_icmp_ge O dX2_startAnew_14 17 30 rfl rfl (by omega) (fun h14 => ?_) (fun h14 => ?_)
      · skip
        refine g_arr 1 (fun _ => 1) rfl (fun kk q1 q2 => h2 kk q1 (by omega)) [(o, co 2 [vi n, vi p, .ref c, .ref l, .ref t]), (c, ca D 5 (fun _ => 1)), (l, ca D 6 len), (t, ca D 30 lst)] rfl ?_
        refine g_iconst O dX2_startAnew_30 31 rfl ?_
        refine g_istore_n O dX2_startAnew_31 32 [(0, .ref o), (1, vi n), (2, vi p), (3, vi 0)] rfl (by decide) rfl ?_
        have lp32 : ∀ (nn : Nat) (i : Int) (g : Int → Int), (0 ≤ i ∧ i ≤ 6) → (∀ kk, 0 ≤ kk → kk < i → g kk = 0) → (6 - i < (nn : Int)) → G X D A 4 Q 0 0 32 [(0, .ref o), (1, vi n), (2, vi p), (3, vi i)] [] [(o, co 2 [vi n, vi p, .ref c, .ref l, .ref t]), (c, ca D 5 (fun _ => 1)), (l, ca D 6 g), (t, ca D 30 lst)] := by
          intro nn
          induction nn with
          | zero =>
            intro i g h1 h2 hm32
            exact absurd hm32 (by omega)
          | succ nn ih32 =>
            intro i g h1 h2 hm32
            refine g_iload_n O dX2_startAnew_32 33 3 rfl rfl ?_
            refine g_bipush O dX2_startAnew_33 35 rfl (by decide) ?_
            refine g_icmp_ge O dX2_startAnew_35 38 51 rfl rfl (by omega) (fun h35 => ?_) (fun h35 => ?_)
            · skip
              refine g_arr 2 (fun _ => 0) rfl (fun kk q1 q2 => h2 kk q1 (by omega)) [(o, co 2 [vi n, vi p, .ref c, .ref l, .ref t]), (c, ca D 5 (fun _ => 1)), (l, ca D 6 (fun _ => 0)), (t, ca D 30 lst)] rfl ?_
              exact g_vret O hQ dX2_startAnew_51 () rfl rfl trivial ⟨by decide, by decide⟩
            · skip
              refine g_aload_n O dX2_startAnew_38 39 0 rfl rfl ?_
              refine g_get O dX2_startAnew_39 42 rfl fX2_startAnew_15 0 rfl rfl ?_
              refine g_iload_n O dX2_startAnew_42 43 3 rfl rfl ?_
              refine g_iconst O dX2_startAnew_43 44 rfl ?_
              refine g_iast O dX2_startAnew_44 45 rfl 2 rfl (by decide) (by omega) [(o, co 2 [vi n, vi p, .ref c, .ref l, .ref t]), (c, ca D 5 (fun _ => 1)), (l, ca D 6 (up g i 0)), (t, ca D 30 lst)] rfl ?_
              refine g_iinc O dX2_startAnew_45 48 3 [(0, .ref o), (1, vi n), (2, vi p), (3, vi (i + 1))] rfl (by decide) rfl rfl ?_
              refine g_goto O dX2_startAnew_48 32 rfl ?_
              exact ih32 (i + 1) (up g i 0) (by omega) (up_inv h2) (by omega)
        exact lp32 1000 0 len (by omega) (fun kk q1 q2 => absurd q2 (by omega)) (by omega)
      · skip
        refine g_aload_n O dX2_startAnew_17 18 0 rfl rfl ?_
        refine g_get O dX2_startAnew_18 21 rfl fX2_startAnew_9 0 rfl rfl ?_
        refine g_iload_n O dX2_startAnew_21 22 3 rfl rfl ?_
        refine g_iconst O dX2_startAnew_22 23 rfl ?_
        refine g_iast O dX2_startAnew_23 24 rfl 1 rfl (by decide) (by omega) [(o, co 2 [vi n, vi p, .ref c, .ref l, .ref t]), (c, ca D 5 (up f i 1)), (l, ca D 6 len), (t, ca D 30 lst)] rfl ?_
        refine g_iinc O dX2_startAnew_24 27 3 [(0, .ref o), (1, vi n), (2, vi p), (3, vi (i + 1))] rfl (by decide) rfl rfl ?_
        refine g_goto O dX2_startAnew_27 12 rfl ?_
        exact ih12 (i + 1) (up f i 1) (by omega) (up_inv h2) (by omega)
  exact lp12 1000 0 cap (by omega) (fun kk q1 q2 => absurd q2 (by omega)) (by omega)
theorem sX3_clear_3 : ∀ w ∈ wsX30, w ∈ wsX3_clear := by decide +kernel
theorem fX3_clear_9 : FK RX3 wsX3_clear 9 3 0 := ⟨RX3, TX3, 1, rfl, sX3_clear_3, by decide, List.mem_of_getElem? (i := 1) rfl⟩
set_option maxHeartbeats 4000000 in
set_option maxRecDepth 100000 in
theorem k_X3_clear (D : DD) (o b : Nat) (m : Int → Int) : Con (S := Unit) D yX3_clear wsX3_clear ({ frames := 0, cells := 0, slots := 0, locals := 0 }) 0 0 [.ref o] [(o, co 3 [.ref b]), (b, ca D 6 m)] (fun u => none) (fun u => True) (fun u => [(o, co 3 [.ref b]), (b, ca D 6 (fun _ => -1))]) := by
  refine Con.of (cc := cX3_clear) (nL := 2) (ret := none) rfl (by decide +kernel) (Nat.le_of_ble_eq_true rfl) ?_
  intro X A Q O hQ hin
  show G X D A 2 Q 0 0 0 [(0, .ref o)] [] [(o, co 3 [.ref b]), (b, ca D 6 m)]
  refine g_iconst O dX3_clear_0 1 rfl ?_
  refine g_istore_n O dX3_clear_1 2 [(0, .ref o), (1, vi 0)] rfl (by decide) rfl ?_
  have lp2 : ∀ (nn : Nat) (i : Int) (f : Int → Int), (0 ≤ i ∧ i ≤ 6) → (∀ kk, 0 ≤ kk → kk < i → f kk = -1) → (6 - i < (nn : Int)) → G X D A 2 Q 0 0 2 [(0, .ref o), (1, vi i)] [] [(o, co 3 [.ref b]), (b, ca D 6 f)] := by
    intro nn
    induction nn with
    | zero =>
      intro i f h1 h2 hm2
      exact absurd hm2 (by omega)
    | succ nn ih2 =>
      intro i f h1 h2 hm2
      refine g_iload_n O dX3_clear_2 3 1 rfl rfl ?_
      refine g_bipush O dX3_clear_3 5 rfl (by decide) ?_
      refine g_icmp_ge O dX3_clear_5 8 21 rfl rfl (by omega) (fun h5 => ?_) (fun h5 => ?_)
      · skip
        refine g_arr 1 (fun _ => -1) rfl (fun kk q1 q2 => h2 kk q1 (by omega)) [(o, co 3 [.ref b]), (b, ca D 6 (fun _ => -1))] rfl ?_
        exact g_vret O hQ dX3_clear_21 () rfl rfl trivial ⟨by decide, by decide⟩
      · skip
        refine g_aload_n O dX3_clear_8 9 0 rfl rfl ?_
        refine g_get O dX3_clear_9 12 rfl fX3_clear_9 0 rfl rfl ?_
        refine g_iload_n O dX3_clear_12 13 1 rfl rfl ?_
        refine g_iconst O dX3_clear_13 14 rfl ?_
        refine g_iast O dX3_clear_14 15 rfl 1 rfl (by decide) (by omega) [(o, co 3 [.ref b]), (b, ca D 6 (up f i (-1)))] rfl ?_
        refine g_iinc O dX3_clear_15 18 1 [(0, .ref o), (1, vi (i + 1))] rfl (by decide) rfl rfl ?_
        refine g_goto O dX3_clear_18 2 rfl ?_
        exact ih2 (i + 1) (up f i (-1)) (by omega) (up_inv h2) (by omega)
  exact lp2 1000 0 m (by omega) (fun kk q1 q2 => absurd q2 (by omega)) (by omega)
theorem sX3_copyFrom_3 : ∀ w ∈ wsX30, w ∈ wsX3_copyFrom := by decide +kernel
theorem fX3_copyFrom_9 : FK RX3 wsX3_copyFrom 9 3 0 := ⟨RX3, TX3, 1, rfl, sX3_copyFrom_3, by decide, List.mem_of_getElem? (i := 1) rfl⟩
set_option maxHeartbeats 4000000 in
set_option maxRecDepth 100000 in
theorem k_X3_copyFrom (D : DD) (o b o2 b2 : Nat) (m m2 : Int → Int) : Con (S := Unit) D yX3_copyFrom wsX3_copyFrom ({ frames := 0, cells := 0, slots := 0, locals := 0 }) 0 0 [.ref o, .ref o2] [(o, co 3 [.ref b]), (b, ca D 6 m), (o2, co 3 [.ref b2]), (b2, ca D 6 m2)] (fun u => none) (fun u => True) (fun u => [(o, co 3 [.ref b]), (b, ca D 6 m2), (o2, co 3 [.ref b2]), (b2, ca D 6 m2)]) := by
  refine Con.of (cc := cX3_copyFrom) (nL := 3) (ret := none) rfl (by decide +kernel) (Nat.le_of_ble_eq_true rfl) ?_
  intro X A Q O hQ hin
  show G X D A 3 Q 0 0 0 [(0, .ref o), (1, .ref o2)] [] [(o, co 3 [.ref b]), (b, ca D 6 m), (o2, co 3 [.ref b2]), (b2, ca D 6 m2)]
  refine g_iconst O dX3_copyFrom_0 1 rfl ?_
  refine g_istore_n O dX3_copyFrom_1 2 [(0, .ref o), (1, .ref o2), (2, vi 0)] rfl (by decide) rfl ?_
  have lp2 : ∀ (nn : Nat) (i : Int) (f : Int → Int), (0 ≤ i ∧ i ≤ 6) → (∀ kk, 0 ≤ kk → kk < i → f kk = m2 kk) → (6 - i < (nn : Int)) → G X D A 3 Q 0 0 2 [(0, .ref o), (1, .ref o2), (2, vi i)] [] [(o, co 3 [.ref b]), (b, ca D 6 f), (o2, co 3 [.ref b2]), (b2, ca D 6 m2)] := by
    intro nn
    induction nn with
    | zero =>
      intro i f h1 h2 hm2
      exact absurd hm2 (by omega)
    | succ nn ih2 =>
      intro i f h1 h2 hm2
      refine g_iload_n O dX3_copyFrom_2 3 2 rfl rfl ?_
      refine g_bipush O dX3_copyFrom_3 5 rfl (by decide) ?_
      refine g_icmp_ge O dX3_copyFrom_5 8 26 rfl rfl (by omega) (fun h5 => ?_) (fun h5 => ?_)
      · skip
        refine g_arr 1 m2 rfl (fun kk q1 q2 => h2 kk q1 (by omega)) [(o, co 3 [.ref b]), (b, ca D 6 m2), (o2, co 3 [.ref b2]), (b2, ca D 6 m2)] rfl ?_
        exact g_vret O hQ dX3_copyFrom_26 () rfl rfl trivial ⟨by decide, by decide⟩
      · skip
        refine g_aload_n O dX3_copyFrom_8 9 0 rfl rfl ?_
        refine g_get O dX3_copyFrom_9 12 rfl fX3_copyFrom_9 0 rfl rfl ?_
        refine g_iload_n O dX3_copyFrom_12 13 2 rfl rfl ?_
        refine g_aload_n O dX3_copyFrom_13 14 1 rfl rfl ?_
        refine g_get O dX3_copyFrom_14 17 rfl fX3_copyFrom_9 2 rfl rfl ?_
        refine g_iload_n O dX3_copyFrom_17 18 2 rfl rfl ?_
        refine g_iald O dX3_copyFrom_18 19 rfl 3 rfl (by decide) (by omega) ?_
        refine g_iast O dX3_copyFrom_19 20 rfl 1 rfl (by decide) (by omega) [(o, co 3 [.ref b]), (b, ca D 6 (up f i (m2 i))), (o2, co 3 [.ref b2]), (b2, ca D 6 m2)] rfl ?_
        refine g_iinc O dX3_copyFrom_20 23 2 [(0, .ref o), (1, .ref o2), (2, vi (i + 1))] rfl (by decide) rfl rfl ?_
        refine g_goto O dX3_copyFrom_23 2 rfl ?_
        exact ih2 (i + 1) (up f i (m2 i)) (by omega) (up_inv2 h2) (by omega)
  exact lp2 1000 0 m (by omega) (fun kk q1 q2 => absurd q2 (by omega)) (by omega)
theorem sX3_countPlaced_3 : ∀ w ∈ wsX30, w ∈ wsX3_countPlaced := by decide +kernel
theorem fX3_countPlaced_9 : FK RX3 wsX3_countPlaced 9 3 0 := ⟨RX3, TX3, 1, rfl, sX3_countPlaced_3, by decide, List.mem_of_getElem? (i := 1) rfl⟩
set_option maxHeartbeats 4000000 in
set_option maxRecDepth 100000 in
theorem k_X3_countPlaced (D : DD) (o b : Nat) (m : Int → Int) (hm : ∀ kk, 0 ≤ kk → kk < 6 → -1 ≤ m kk ∧ m kk < 5) : Con (S := Unit) D yX3_countPlaced wsX3_countPlaced ({ frames := 0, cells := 0, slots := 0, locals := 0 }) 0 0 [.ref o] [(o, co 3 [.ref b]), (b, ca D 6 m)] (fun u => some (vi (sm (plc m) 6))) (fun u => True) (fun u => [(o, co 3 [.ref b]), (b, ca D 6 m)]) := by
  refine Con.of (cc := cX3_countPlaced) (nL := 3) (ret := (some .int)) rfl (by decide +kernel) (Nat.le_of_ble_eq_true rfl) ?_
  intro X A Q O hQ hin
  show G X D A 3 Q 0 0 0 [(0, .ref o)] [] [(o, co 3 [.ref b]), (b, ca D 6 m)]
  refine g_iconst O dX3_countPlaced_0 1 rfl ?_
  refine g_istore_n O dX3_countPlaced_1 2 [(0, .ref o), (1, vi 0)] rfl (by decide) rfl ?_
  refine g_iconst O dX3_countPlaced_2 3 rfl ?_
  refine g_istore_n O dX3_countPlaced_3 4 [(0, .ref o), (1, vi 0), (2, vi 0)] rfl (by decide) rfl ?_
  have lp4 : ∀ (nn : Nat) (i : Int) (s : Int), (0 ≤ i ∧ i ≤ 6) → (s = sm (plc m) i) → (6 - i < (nn : Int)) → G X D A 3 Q 0 0 4 [(0, .ref o), (1, vi s), (2, vi i)] [] [(o, co 3 [.ref b]), (b, ca D 6 m)] := by
    intro nn
    induction nn with
    | zero =>
      intro i s h1 h2 hm4
      exact absurd hm4 (by omega)
    | succ nn ih4 =>
      intro i s h1 h2 hm4
      refine g_iload_n O dX3_countPlaced_4 5 2 rfl rfl ?_
      refine g_bipush O dX3_countPlaced_5 7 rfl (by decide) ?_
      refine g_icmp_ge O dX3_countPlaced_7 10 29 rfl rfl (by omega) (fun h7 => ?_) (fun h7 => ?_)
      · skip
        refine g_iload_n O dX3_countPlaced_29 30 1 rfl rfl ?_
        exact g_iret O hQ dX3_countPlaced_30 () (vi_eq (by rw [h2, show i = 6 by omega])) rfl trivial ⟨by decide, by decide⟩
      · skip
        have hmi := hm i (by omega) (by omega)
        refine g_aload_n O dX3_countPlaced_10 11 0 rfl rfl ?_
        refine g_get O dX3_countPlaced_11 14 rfl fX3_countPlaced_9 0 rfl rfl ?_
        refine g_iload_n O dX3_countPlaced_14 15 2 rfl rfl ?_
        refine g_iald O dX3_countPlaced_15 16 rfl 1 rfl (by decide) (by omega) ?_
        refine g_iconst O dX3_countPlaced_16 17 rfl ?_
        refine g_icmp_eq O dX3_countPlaced_17 20 23 rfl rfl (by omega) (fun h17 => ?_) (fun h17 => ?_)
        · skip
          refine g_iinc O dX3_countPlaced_23 26 2 [(0, .ref o), (1, vi s), (2, vi (i + 1))] rfl (by decide) rfl rfl ?_
          refine g_goto O dX3_countPlaced_26 4 rfl ?_
          exact ih4 (i + 1) s (by omega) (by rw [sm_s _ h1.1, ← h2]; unfold plc; split <;> omega) (by omega)
        · skip
          refine g_iinc O dX3_countPlaced_20 23 1 [(0, .ref o), (1, vi (s + 1)), (2, vi i)] rfl (by decide) rfl rfl ?_
          refine g_iinc O dX3_countPlaced_23 26 2 [(0, .ref o), (1, vi (s + 1)), (2, vi (i + 1))] rfl (by decide) rfl rfl ?_
          refine g_goto O dX3_countPlaced_26 4 rfl ?_
          exact ih4 (i + 1) (s + 1) (by omega) (by rw [sm_s _ h1.1, ← h2]; unfold plc; split <;> omega) (by omega)
  exact lp4 1000 0 0 (by omega) (sm_0 _).symm (by omega)
theorem sX3_othersAt_3 : ∀ w ∈ wsX30, w ∈ wsX3_othersAt := by decide +kernel
theorem fX3_othersAt_9 : FK RX3 wsX3_othersAt 9 3 0 := ⟨RX3, TX3, 1, rfl, sX3_othersAt_3, by decide, List.mem_of_getElem? (i := 1) rfl⟩
set_option maxHeartbeats 4000000 in
set_option maxRecDepth 100000 in
theorem k_X3_othersAt (D : DD) (o b : Nat) (m : Int → Int) (p x : Int) (hm : ∀ kk, 0 ≤ kk → kk < 6 → -1 ≤ m kk ∧ m kk < 5) (hp : -2147483648 ≤ p ∧ p < 2147483648) (hx : -2147483648 ≤ x ∧ x < 2147483648) : Con (S := Unit) D yX3_othersAt wsX3_othersAt ({ frames := 0, cells := 0, slots := 0, locals := 0 }) 0 0 [.ref o, vi p, vi x] [(o, co 3 [.ref b]), (b, ca D 6 m)] (fun u => some (vi (sm (oth m p x) 6))) (fun u => True) (fun u => [(o, co 3 [.ref b]), (b, ca D 6 m)]) := by
  refine Con.of (cc := cX3_othersAt) (nL := 5) (ret := (some .int)) rfl (by decide +kernel) (Nat.le_of_ble_eq_true rfl) ?_
  intro X A Q O hQ hin
  show G X D A 5 Q 0 0 0 [(0, .ref o), (1, vi p), (2, vi x)] [] [(o, co 3 [.ref b]), (b, ca D 6 m)]
  refine g_iconst O dX3_othersAt_0 1 rfl ?_
  refine g_istore_n O dX3_othersAt_1 2 [(0, .ref o), (1, vi p), (2, vi x), (3, vi 0)] rfl (by decide) rfl ?_
  refine g_iconst O dX3_othersAt_2 3 rfl ?_
  refine g_istore O dX3_othersAt_3 5 [(0, .ref o), (1, vi p), (2, vi x), (3, vi 0), (4, vi 0)] rfl (by decide) rfl ?_
  have lp5 : ∀ (nn : Nat) (i : Int) (s : Int), (0 ≤ i ∧ i ≤ 6) → (s = sm (oth m p x) i) → (6 - i < (nn : Int)) → G X D A 5 Q 0 0 5 [(0, .ref o), (1, vi p), (2, vi x), (3, vi s), (4, vi i)] [] [(o, co 3 [.ref b]), (b, ca D 6 m)] := by
    intro nn
    induction nn with
    | zero =>
      intro i s h1 h2 hm5
      exact absurd hm5 (by omega)
    | succ nn ih5 =>
      intro i s h1 h2 hm5
      refine g_iload O dX3_othersAt_5 7 4 rfl rfl ?_
      refine g_bipush O dX3_othersAt_7 9 rfl (by decide) ?_
      refine g_icmp_ge O dX3_othersAt_9 12 38 rfl rfl (by omega) (fun h9 => ?_) (fun h9 => ?_)
      · skip
        refine g_iload_n O dX3_othersAt_38 39 3 rfl rfl ?_
        exact g_iret O hQ dX3_othersAt_39 () (vi_eq (by rw [h2, show i = 6 by omega])) rfl trivial ⟨by decide, by decide⟩
      · skip
        refine g_iload O dX3_othersAt_12 14 4 rfl rfl ?_
        refine g_iload_n O dX3_othersAt_14 15 2 rfl rfl ?_
        refine g_icmp_eq O dX3_othersAt_15 18 32 rfl rfl (by omega) (fun h15 => ?_) (fun h15 => ?_)
        · skip
          refine g_iinc O dX3_othersAt_32 35 4 [(0, .ref o), (1, vi p), (2, vi x), (3, vi s), (4, vi (i + 1))] rfl (by decide) rfl rfl ?_
          refine g_goto O dX3_othersAt_35 5 rfl ?_
          exact ih5 (i + 1) s (by omega) (by rw [sm_s _ h1.1, ← h2]; unfold oth; split <;> omega) (by omega)
        · skip
          have hmi := hm i (by omega) (by omega)
          refine g_aload_n O dX3_othersAt_18 19 0 rfl rfl ?_
          refine g_get O dX3_othersAt_19 22 rfl fX3_othersAt_9 0 rfl rfl ?_
          refine g_iload O dX3_othersAt_22 24 4 rfl rfl ?_
          refine g_iald O dX3_othersAt_24 25 rfl 1 rfl (by decide) (by omega) ?_
          refine g_iload_n O dX3_othersAt_25 26 1 rfl rfl ?_
          refine g_icmp_ne O dX3_othersAt_26 29 32 rfl rfl (by omega) (fun h26 => ?_) (fun h26 => ?_)
          · skip
            refine g_iinc O dX3_othersAt_32 35 4 [(0, .ref o), (1, vi p), (2, vi x), (3, vi s), (4, vi (i + 1))] rfl (by decide) rfl rfl ?_
            refine g_goto O dX3_othersAt_35 5 rfl ?_
            exact ih5 (i + 1) s (by omega) (by rw [sm_s _ h1.1, ← h2]; unfold oth; split <;> omega) (by omega)
          · skip
            refine g_iinc O dX3_othersAt_29 32 3 [(0, .ref o), (1, vi p), (2, vi x), (3, vi (s + 1)), (4, vi i)] rfl (by decide) rfl rfl ?_
            refine g_iinc O dX3_othersAt_32 35 4 [(0, .ref o), (1, vi p), (2, vi x), (3, vi (s + 1)), (4, vi (i + 1))] rfl (by decide) rfl rfl ?_
            refine g_goto O dX3_othersAt_35 5 rfl ?_
            exact ih5 (i + 1) (s + 1) (by omega) (by rw [sm_s _ h1.1, ← h2]; unfold oth; split <;> omega) (by omega)
  exact lp5 1000 0 0 (by omega) (sm_0 _).symm (by omega)
