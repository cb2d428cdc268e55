-- ===== pure words of the reference =====
def rm9 (len lst : Int → Int) (a p : Int) : Int := if rk (row lst a) p (len a) < len a then rk (row lst a) p (len a) else 9
theorem rk_nn (g : Int → Int) (p n : Int) : 0 ≤ rk g p n := by unfold rk; omega
theorem rm9_at {len lst : Int → Int} {a p i : Int} (h0 : 0 ≤ i) (h1 : i < len a) (h2 : ∀ k, 0 ≤ k → k < i → row lst a k ≠ p) (h3 : row lst a i = p) : rm9 len lst a p = i := by
  have e : i = rk (row lst a) p (len a) := rk_uniq h0 (by omega) h2 (fun _ => h3)
  unfold rm9
  rw [← e, if_pos h1]
theorem rm9_no {len lst : Int → Int} {a p : Int} (h2 : ∀ k, 0 ≤ k → k < len a → row lst a k ≠ p) : rm9 len lst a p = 9 := by
  unfold rm9
  split
  · rename_i c
    have := rk_nn (row lst a) p (len a)
    exact absurd (rk_at (by omega) c) (h2 _ this c)
  · rfl
theorem rm9_bd {N P : Int} {cap len lst : Int → Int} (hW : WI N P cap len lst) {a p : Int} (h0 : 0 ≤ a) (h1 : a < 6) : 0 ≤ rm9 len lst a p ∧ rm9 len lst a p ≤ 9 := by
  obtain ⟨hN, hcap, hlen, hlst, hdis⟩ := hW
  have := hlen a h0 h1
  have := rk_nn (row lst a) p (len a)
  unfold rm9
  split <;> omega
theorem rm9_lt {len lst : Int → Int} {a p : Int} (h : ¬ rm9 len lst a p = 9) : rk (row lst a) p (len a) < len a := by
  unfold rm9 at h
  split at h
  · assumption
  · exact absurd rfl h
theorem rm9_ge {N P : Int} {cap len lst : Int → Int} (hW : WI N P cap len lst) {a p : Int} (h0 : 0 ≤ a) (h1 : a < 6) (h : 9 ≤ rm9 len lst a p) : ¬ rk (row lst a) p (len a) < len a := by
  obtain ⟨hN, hcap, hlen, hlst, hdis⟩ := hW
  have := hlen a h0 h1
  unfold rm9 at h
  split at h
  · omega
  · assumption
/-- n + 1 numbers below n: two are the same -/
theorem pig : ∀ (n : Nat) (g : Int → Int), (∀ k : Int, 0 ≤ k → k ≤ n → 0 ≤ g k ∧ g k < n) → ∃ j k : Int, 0 ≤ j ∧ j < k ∧ k ≤ n ∧ g j = g k
  | 0, g, h => by
    have := h 0 (by omega) (by omega)
    omega
  | n + 1, g, h => by
    by_cases c : ∃ k : Int, 0 ≤ k ∧ k ≤ n ∧ g k = g ((n + 1 : Nat) : Int)
    · obtain ⟨k, h1, h2, h3⟩ := c
      exact ⟨k, ((n + 1 : Nat) : Int), h1, by omega, by omega, h3⟩
    · have hv := h ((n + 1 : Nat) : Int) (by omega) (by omega)
      have hne : ∀ k : Int, 0 ≤ k → k ≤ n → g k ≠ g ((n + 1 : Nat) : Int) := fun k h1 h2 h3 => c ⟨k, h1, h2, h3⟩
      obtain ⟨j, k, h1, h2, h3, h4⟩ := pig n (fun k => if g k = n then g ((n + 1 : Nat) : Int) else g k) (fun k h1 h2 => by
        have hk := h k h1 (by omega)
        have hn := hne k h1 h2
        split <;> omega)
      refine ⟨j, k, h1, h2, by omega, ?_⟩
      have n1 := hne j h1 (by omega)
      have n2 := hne k (by omega) (by omega)
      split at h4 <;> split at h4
      · omega
      · exact absurd h4.symm n2
      · exact absurd h4 n1
      · exact h4
theorem WI_room {N P : Int} {cap len lst : Int → Int} (hW : WI N P cap len lst) {a p : Int} (h0 : 0 ≤ a) (h1 : a < 6) (p0 : 0 ≤ p) (p1 : p < P) (h : ¬ rk (row lst a) p (len a) < len a) : len a < P := by
  obtain ⟨hN, hcap, hlen, hlst, hdis⟩ := hW
  have hl := hlen a h0 h1
  rcases Int.lt_or_le (len a) P with q | q
  · exact q
  · have e : len a = P := by omega
    have hr := rk_le (row lst a) p (n := len a) (by omega)
    obtain ⟨j, k, j0, jk, kn, he⟩ := pig P.toNat (fun k => if k < len a then row lst a k else p) (fun k k0 k1 => by
      split
      · have := hlst a k h0 h1 k0 (by assumption)
        omega
      · omega)
    rw [if_pos (by omega)] at he
    split at he
    · exact absurd he (hdis a j k h0 h1 j0 jk (by assumption))
    · exact absurd he (rk_ne (n := len a) j0 (by omega))
/-- the reference's history behind an edit -/
def edh (e : Int) (nw hi : Int → Int) (k : Int) : Int := if 12 * (if e = 5 then 4 else e) ≤ k ∧ k < 12 * (if e = 5 then 4 else e) + 12 then nw (k - 12 * (if e = 5 then 4 else e)) else if e = 5 ∧ k < 48 then hi (k + 12) else hi k
theorem edx1 {e : Int} {hi : Int → Int} (h : ¬ e = 5) : ∀ k, 0 ≤ k → k < 60 → hi k = if e = 5 ∧ k < 48 then hi (k + 12) else hi k := by
  intro k _ _
  rw [if_neg (fun q => h q.1)]
theorem edx2 {e i : Int} {hi g : Int → Int} (h : e = 5) (hi' : i = 48) (h2 : ∀ k, 0 ≤ k → k < i → g k = hi (k + 12)) (h3 : ∀ k, i ≤ k → g k = hi k) : ∀ k, 0 ≤ k → k < 60 → g k = if e = 5 ∧ k < 48 then hi (k + 12) else hi k := by
  intro k q1 _
  split
  · exact h2 k q1 (by omega)
  · exact h3 k (by omega)
theorem edy {e e0 : Int} {nw hi g0 g : Int → Int} (g1 : e0 = (if e = 5 then 4 else e)) (g2 : ∀ k, 0 ≤ k → k < 60 → g0 k = if e = 5 ∧ k < 48 then hi (k + 12) else hi k) (h2 : ∀ k, 0 ≤ k → k < 12 → g (12 * e0 + k) = nw k) (h3 : ∀ k, (k < 12 * e0 ∨ 12 * e0 + 12 ≤ k) → g k = g0 k) : ∀ k, 0 ≤ k → k < 60 → g k = edh e nw hi k := by
  intro k q1 q2
  unfold edh
  rw [← g1]
  split
  · have := h2 (k - 12 * e0) (by omega) (by omega)
    rwa [show 12 * e0 + (k - 12 * e0) = k by omega] at this
  · rw [h3 k (by omega), g2 k q1 q2]
def pls (nw : Int → Int) (k : Int) : Int := if 0 ≤ nw k then 1 else 0
def NW (nw : Int → Int) : Prop := ∀ k, 0 ≤ k → k < 12 → -1 ≤ nw k ∧ nw k < 5
def svd (nw : Int → Int) (k : Int) : Int := if k < 6 then nw k else nw (k - 6)
def swp (nw : Int → Int) (k : Int) : Int := if k < 6 then nw (k + 6) else nw (k - 6)
theorem NW_svd {nw : Int → Int} (h : NW nw) : NW (svd nw) := by
  intro k h0 h1
  unfold svd
  split
  · exact h k h0 h1
  · exact h (k - 6) (by omega) (by omega)
theorem NW_swp {nw : Int → Int} (h : NW nw) : NW (swp nw) := by
  intro k h0 h1
  unfold swp
  split
  · exact h (k + 6) (by omega) (by omega)
  · exact h (k - 6) (by omega) (by omega)
theorem swx {nw g : Int → Int} {i : Int} (h1 : 0 ≤ i ∧ i < 6) (h2 : ∀ k, 0 ≤ k → k < i → g k = nw (k + 6) ∧ g (6 + k) = nw k) (h3 : ∀ k, ((i ≤ k ∧ k < 6) ∨ 6 + i ≤ k) → g k = nw k) : ∀ k, 0 ≤ k → k < i + 1 → up (up g i (g (6 + i))) (6 + i) (g i) k = nw (k + 6) ∧ up (up g i (g (6 + i))) (6 + i) (g i) (6 + k) = nw k := by
  intro k q1 q2
  by_cases e : k = i
  · subst e
    rw [up_n (by omega), up_s, up_s, h3 k (by omega), h3 (6 + k) (by omega), Int.add_comm 6 k]
    exact ⟨rfl, rfl⟩
  · rw [up_n (by omega), up_n (by omega), up_n (by omega), up_n (by omega)]
    exact h2 k q1 (by omega)
def vm (len lst : Int → Int) (a p q : Int) : Int := vt (rm9 len lst a p) (rm9 len lst a q)
theorem pw3_s {i : Int} (h : 0 ≤ i) : pw3 (i + 1) = pw3 i * 3 := by
  unfold pw3
  rw [show (i + 1).toNat = i.toNat + 1 by omega, Int.pow_succ]
theorem pw3_pos (i : Int) : 0 < pw3 i := by
  unfold pw3
  exact Int.pow_pos (by decide)
def dg (x p : Int) : Int := x / pw3 p % 3
def mos (len lst nw : Int → Int) (a : Int) : Int := vm len lst a (nw a) (nw (6 + a))
set_option maxHeartbeats 4000000 in
set_option maxRecDepth 100000 in
theorem k_X6_in (D : DD) (v lo hi : Int) (hv : -2147483648 ≤ v ∧ v < 2147483648) (hlo : -2147483648 ≤ lo ∧ lo < 2147483648) (hhi : -2147483648 ≤ hi ∧ hi < 2147483648) : Con (S := Int) D yX6_in wsX6_in ({ frames := 0, cells := 0, slots := 0, locals := 0 }) 0 0 [vi v, vi lo, vi hi] [] (fun u => some (vi u)) (fun u => ((u = 1 ∧ (lo ≤ v ∧ v ≤ hi)) ∨ (u = 0 ∧ ¬ (lo ≤ v ∧ v ≤ hi)))) (fun u => []) := by
  refine Con.of (cc := cX6_in) (nL := 3) (ret := (some .boolean)) rfl (by decide +kernel) (Nat.le_of_ble_eq_true rfl) ?_
  intro X A Q O hQ hin
  show G X D A 3 Q 0 0 0 [(0, vi v), (1, vi lo), (2, vi hi)] [] []
  refine g_iload_n O dX6_in_0 1 0 rfl rfl ?_
  refine g_iload_n O dX6_in_1 2 1 rfl rfl ?_
  refine g_icmp_lt O dX6_in_2 5 14 rfl rfl (by omega) (fun h2 => ?_) (fun h2 => ?_)
  · skip
    refine g_iconst O dX6_in_14 15 rfl ?_
    exact g_zret O hQ dX6_in_15 (by decide +kernel) 0 rfl rfl (Or.inr ⟨rfl, by first | assumption | omega⟩) ⟨by decide, by decide⟩
  · skip
    refine g_iload_n O dX6_in_5 6 0 rfl rfl ?_
    refine g_iload_n O dX6_in_6 7 2 rfl rfl ?_
    refine g_icmp_gt O dX6_in_7 10 14 rfl rfl (by omega) (fun h7 => ?_) (fun h7 => ?_)
    · skip
      refine g_iconst O dX6_in_14 15 rfl ?_
      exact g_zret O hQ dX6_in_15 (by decide +kernel) 0 rfl rfl (Or.inr ⟨rfl, by first | assumption | omega⟩) ⟨by decide, by decide⟩
    · skip
      refine g_iconst O dX6_in_10 11 rfl ?_
      refine g_goto O dX6_in_11 15 rfl ?_
      exact g_zret O hQ dX6_in_15 (by decide +kernel) 1 rfl rfl (Or.inl ⟨rfl, by first | assumption | omega⟩) ⟨by decide, by decide⟩
theorem sX6_isApplicant_6 : ∀ w ∈ wsX60, w ∈ wsX6_isApplicant := by decide +kernel
theorem fX6_isApplicant_7 : FK RX6 wsX6_isApplicant 7 6 0 := ⟨RX6, TX6, 10, rfl, sX6_isApplicant_6, by decide, List.mem_of_getElem? (i := 1) rfl⟩
set_option maxHeartbeats 4000000 in
set_option maxRecDepth 100000 in
theorem k_X6_isApplicant (D : DD) (o c l t n h b f : Nat) (N P : Int) (cap len lst nw hi : Int → Int) (e : Int) (be fo : Int → Int) (a : Int) (hW : WI N P cap len lst) (ha : -2147483648 ≤ a ∧ a < 2147483648) : Con (S := Int) D yX6_isApplicant wsX6_isApplicant ({ frames := 1, cells := 0, slots := 0, locals := 22 }) 0 0 [.ref o, vi a] [(o, co 6 [vi N, vi P, .ref c, .ref l, .ref t, .ref n, .ref h, vi e, .ref b, .ref f]), (c, ca D 5 cap), (l, ca D 6 len), (t, ca D 30 lst), (n, ca D 12 nw), (h, ca D 60 hi), (b, ca D 1701 be), (f, ca D 6 fo)] (fun u => some (vi u)) (fun u => ((u = 1 ∧ (0 ≤ a ∧ a < N)) ∨ (u = 0 ∧ ¬ (0 ≤ a ∧ a < N)))) (fun u => [(o, co 6 [vi N, vi P, .ref c, .ref l, .ref t, .ref n, .ref h, vi e, .ref b, .ref f]), (c, ca D 5 cap), (l, ca D 6 len), (t, ca D 30 lst), (n, ca D 12 nw), (h, ca D 60 hi), (b, ca D 1701 be), (f, ca D 6 fo)]) := by
  refine Con.of (cc := cX6_isApplicant) (nL := 2) (ret := (some .boolean)) rfl (by decide +kernel) (Nat.le_of_ble_eq_true rfl) ?_
  intro X A Q O hQ hin
  show G X D A 2 Q 0 0 0 [(0, .ref o), (1, vi a)] [] [(o, co 6 [vi N, vi P, .ref c, .ref l, .ref t, .ref n, .ref h, vi e, .ref b, .ref f]), (c, ca D 5 cap), (l, ca D 6 len), (t, ca D 30 lst), (n, ca D 12 nw), (h, ca D 60 hi), (b, ca D 1701 be), (f, ca D 6 fo)]
  obtain ⟨hN, hcap, hlen, hlst, hdis⟩ := id hW
  refine g_iload_n O dX6_isApplicant_0 1 1 rfl rfl ?_
  refine g_iconst O dX6_isApplicant_1 2 rfl ?_
  refine g_aload_n O dX6_isApplicant_2 3 0 rfl rfl ?_
  refine g_get O dX6_isApplicant_3 6 rfl fX6_isApplicant_7 0 rfl rfl ?_
  refine g_iconst O dX6_isApplicant_6 7 rfl ?_
  refine g_isub O dX6_isApplicant_7 8 rfl ?_
  refine g_callS (As := [vi a, vi 0, vi (N - 1)]) (rest := []) (na := 3) O (k_X6_in D a 0 (N - 1) (by omega) (by omega) (by omega)) dX6_isApplicant_8 gX6_isApplicant_X6_in rfl ⟨rfl, rfl⟩ (by decide +kernel) rfl (by decide) (by decide) rfl (Nat.le_of_ble_eq_true rfl) [] (by decide) rfl (fun _ => rfl) (fun u => [(o, co 6 [vi N, vi P, .ref c, .ref l, .ref t, .ref n, .ref h, vi e, .ref b, .ref f]), (c, ca D 5 cap), (l, ca D 6 len), (t, ca D 30 lst), (n, ca D 12 nw), (h, ca D 60 hi), (b, ca D 1701 be), (f, ca D 6 fo)]) (fun _ => rfl) 11 rfl (fun u8 hu8 => ?_)
  obtain ⟨bz8, rfl⟩ : ∃ z, z = u8 := ⟨_, rfl⟩
  rcases hu8 with ⟨rfl, hb8⟩ | ⟨rfl, hb8⟩
  · skip
    have hb8 : 0 ≤ a ∧ a ≤ (N - 1) := hb8
    show G X D A 2 Q 0 0 11 [(0, .ref o), (1, vi a)] [vi 1] [(o, co 6 [vi N, vi P, .ref c, .ref l, .ref t, .ref n, .ref h, vi e, .ref b, .ref f]), (c, ca D 5 cap), (l, ca D 6 len), (t, ca D 30 lst), (n, ca D 12 nw), (h, ca D 60 hi), (b, ca D 1701 be), (f, ca D 6 fo)]
    exact g_zret O hQ dX6_isApplicant_11 (by decide +kernel) 1 rfl rfl (Or.inl ⟨rfl, by first | assumption | omega⟩) ⟨by decide, by decide⟩
  · skip
    have hb8 : ¬ (0 ≤ a ∧ a ≤ (N - 1)) := hb8
    show G X D A 2 Q 0 0 11 [(0, .ref o), (1, vi a)] [vi 0] [(o, co 6 [vi N, vi P, .ref c, .ref l, .ref t, .ref n, .ref h, vi e, .ref b, .ref f]), (c, ca D 5 cap), (l, ca D 6 len), (t, ca D 30 lst), (n, ca D 12 nw), (h, ca D 60 hi), (b, ca D 1701 be), (f, ca D 6 fo)]
    exact g_zret O hQ dX6_isApplicant_11 (by decide +kernel) 0 rfl rfl (Or.inr ⟨rfl, by first | assumption | omega⟩) ⟨by decide, by decide⟩
theorem sX6_isPost_6 : ∀ w ∈ wsX60, w ∈ wsX6_isPost := by decide +kernel
theorem fX6_isPost_13 : FK RX6 wsX6_isPost 13 6 1 := ⟨RX6, TX6, 10, rfl, sX6_isPost_6, by decide, List.mem_of_getElem? (i := 1) rfl⟩
set_option maxHeartbeats 4000000 in
set_option maxRecDepth 100000 in
theorem k_X6_isPost (D : DD) (o c l t n h b f : Nat) (N P : Int) (cap len lst nw hi : Int → Int) (e : Int) (be fo : Int → Int) (a : Int) (hW : WI N P cap len lst) (ha : -2147483648 ≤ a ∧ a < 2147483648) : Con (S := Int) D yX6_isPost wsX6_isPost ({ frames := 1, cells := 0, slots := 0, locals := 22 }) 0 0 [.ref o, vi a] [(o, co 6 [vi N, vi P, .ref c, .ref l, .ref t, .ref n, .ref h, vi e, .ref b, .ref f]), (c, ca D 5 cap), (l, ca D 6 len), (t, ca D 30 lst), (n, ca D 12 nw), (h, ca D 60 hi), (b, ca D 1701 be), (f, ca D 6 fo)] (fun u => some (vi u)) (fun u => ((u = 1 ∧ (0 ≤ a ∧ a < P)) ∨ (u = 0 ∧ ¬ (0 ≤ a ∧ a < P)))) (fun u => [(o, co 6 [vi N, vi P, .ref c, .ref l, .ref t, .ref n, .ref h, vi e, .ref b, .ref f]), (c, ca D 5 cap), (l, ca D 6 len), (t, ca D 30 lst), (n, ca D 12 nw), (h, ca D 60 hi), (b, ca D 1701 be), (f, ca D 6 fo)]) := by
  refine Con.of (cc := cX6_isPost) (nL := 2) (ret := (some .boolean)) rfl (by decide +kernel) (Nat.le_of_ble_eq_true rfl) ?_
  intro X A Q O hQ hin
  show G X D A 2 Q 0 0 0 [(0, .ref o), (1, vi a)] [] [(o, co 6 [vi N, vi P, .ref c, .ref l, .ref t, .ref n, .ref h, vi e, .ref b, .ref f]), (c, ca D 5 cap), (l, ca D 6 len), (t, ca D 30 lst), (n, ca D 12 nw), (h, ca D 60 hi), (b, ca D 1701 be), (f, ca D 6 fo)]
  obtain ⟨hN, hcap, hlen, hlst, hdis⟩ := id hW
  refine g_iload_n O dX6_isPost_0 1 1 rfl rfl ?_
  refine g_iconst O dX6_isPost_1 2 rfl ?_
  refine g_aload_n O dX6_isPost_2 3 0 rfl rfl ?_
  refine g_get O dX6_isPost_3 6 rfl fX6_isPost_13 0 rfl rfl ?_
  refine g_iconst O dX6_isPost_6 7 rfl ?_
  refine g_isub O dX6_isPost_7 8 rfl ?_
  refine g_callS (As := [vi a, vi 0, vi (P - 1)]) (rest := []) (na := 3) O (k_X6_in D a 0 (P - 1) (by omega) (by omega) (by omega)) dX6_isPost_8 gX6_isPost_X6_in rfl ⟨rfl, rfl⟩ (by decide +kernel) rfl (by decide) (by decide) rfl (Nat.le_of_ble_eq_true rfl) [] (by decide) rfl (fun _ => rfl) (fun u => [(o, co 6 [vi N, vi P, .ref c, .ref l, .ref t, .ref n, .ref h, vi e, .ref b, .ref f]), (c, ca D 5 cap), (l, ca D 6 len), (t, ca D 30 lst), (n, ca D 12 nw), (h, ca D 60 hi), (b, ca D 1701 be), (f, ca D 6 fo)]) (fun _ => rfl) 11 rfl (fun u8 hu8 => ?_)
  obtain ⟨bz8, rfl⟩ : ∃ z, z = u8 := ⟨_, rfl⟩
  rcases hu8 with ⟨rfl, hb8⟩ | ⟨rfl, hb8⟩
  · skip
    have hb8 : 0 ≤ a ∧ a ≤ (P - 1) := hb8
    show G X D A 2 Q 0 0 11 [(0, .ref o), (1, vi a)] [vi 1] [(o, co 6 [vi N, vi P, .ref c, .ref l, .ref t, .ref n, .ref h, vi e, .ref b, .ref f]), (c, ca D 5 cap), (l, ca D 6 len), (t, ca D 30 lst), (n, ca D 12 nw), (h, ca D 60 hi), (b, ca D 1701 be), (f, ca D 6 fo)]
    exact g_zret O hQ dX6_isPost_11 (by decide +kernel) 1 rfl rfl (Or.inl ⟨rfl, by first | assumption | omega⟩) ⟨by decide, by decide⟩
  · skip
    have hb8 : ¬ (0 ≤ a ∧ a ≤ (P - 1)) := hb8
    show G X D A 2 Q 0 0 11 [(0, .ref o), (1, vi a)] [vi 0] [(o, co 6 [vi N, vi P, .ref c, .ref l, .ref t, .ref n, .ref h, vi e, .ref b, .ref f]), (c, ca D 5 cap), (l, ca D 6 len), (t, ca D 30 lst), (n, ca D 12 nw), (h, ca D 60 hi), (b, ca D 1701 be), (f, ca D 6 fo)]
    exact g_zret O hQ dX6_isPost_11 (by decide +kernel) 0 rfl rfl (Or.inr ⟨rfl, by first | assumption | omega⟩) ⟨by decide, by decide⟩
theorem sX6_clears_6 : ∀ w ∈ wsX60, w ∈ wsX6_clears := by decide +kernel
theorem fX6_clears_26 : FK RX6 wsX6_clears 26 6 5 := ⟨RX6, TX6, 10, rfl, sX6_clears_6, by decide, List.mem_of_getElem? (i := 1) rfl⟩
theorem fX6_clears_45 : FK RX6 wsX6_clears 45 6 7 := ⟨RX6, TX6, 10, rfl, sX6_clears_6, by decide, List.mem_of_getElem? (i := 2) rfl⟩
set_option maxHeartbeats 4000000 in
set_option maxRecDepth 100000 in
theorem k_X6_clears (D : DD) (o c l t n h b f : Nat) (N P : Int) (cap len lst nw hi : Int → Int) (e : Int) (be fo : Int → Int) : Con (S := Unit) D yX6_clears wsX6_clears ({ frames := 0, cells := 0, slots := 0, locals := 0 }) 0 0 [.ref o] [(o, co 6 [vi N, vi P, .ref c, .ref l, .ref t, .ref n, .ref h, vi e, .ref b, .ref f]), (c, ca D 5 cap), (l, ca D 6 len), (t, ca D 30 lst), (n, ca D 12 nw), (h, ca D 60 hi), (b, ca D 1701 be), (f, ca D 6 fo)] (fun u => none) (fun u => True) (fun u => [(o, co 6 [vi N, vi P, .ref c, .ref l, .ref t, .ref n, .ref h, vi 0, .ref b, .ref f]), (c, ca D 5 cap), (l, ca D 6 len), (t, ca D 30 lst), (n, ca D 12 (fun _ => -1)), (h, ca D 60 hi), (b, ca D 1701 be), (f, ca D 6 fo)]) := by
  refine Con.of (cc := cX6_clears) (nL := 2) (ret := none) rfl (by decide +kernel) (Nat.le_of_ble_eq_true rfl) ?_
  intro X A Q O hQ hin
  show G X D A 2 Q 0 0 0 [(0, .ref o)] [] [(o, co 6 [vi N, vi P, .ref c, .ref l, .ref t, .ref n, .ref h, vi e, .ref b, .ref f]), (c, ca D 5 cap), (l, ca D 6 len), (t, ca D 30 lst), (n, ca D 12 nw), (h, ca D 60 hi), (b, ca D 1701 be), (f, ca D 6 fo)]
  refine g_iconst O dX6_clears_0 1 rfl ?_
  refine g_istore_n O dX6_clears_1 2 [(0, .ref o), (1, vi 0)] rfl (by decide) rfl ?_
  have lp2 : ∀ (nn : Nat) (i : Int) (g : Int → Int), (0 ≤ i ∧ i ≤ 12) → (∀ kk, 0 ≤ kk → kk < i → g kk = -1) → (12 - i < (nn : Int)) → G X D A 2 Q 0 0 2 [(0, .ref o), (1, vi i)] [] [(o, co 6 [vi N, vi P, .ref c, .ref l, .ref t, .ref n, .ref h, vi e, .ref b, .ref f]), (c, ca D 5 cap), (l, ca D 6 len), (t, ca D 30 lst), (n, ca D 12 g), (h, ca D 60 hi), (b, ca D 1701 be), (f, ca D 6 fo)] := by
    intro nn
    induction nn with
    | zero =>
      intro i g h1 h2 hm2
      exact absurd hm2 (by omega)
    | succ nn ih2 =>
      intro i g h1 h2 hm2
      refine g_iload_n O dX6_clears_2 3 1 rfl rfl ?_
      refine g_bipush O dX6_clears_3 5 rfl (by decide) ?_
      refine g_icmp_ge O dX6_clears_5 8 21 rfl rfl (by omega) (fun h5 => ?_) (fun h5 => ?_)
      · skip
        refine g_arr 4 (fun _ => -1) rfl (fun kk q1 q2 => h2 kk q1 (by omega)) [(o, co 6 [vi N, vi P, .ref c, .ref l, .ref t, .ref n, .ref h, vi e, .ref b, .ref f]), (c, ca D 5 cap), (l, ca D 6 len), (t, ca D 30 lst), (n, ca D 12 (fun _ => -1)), (h, ca D 60 hi), (b, ca D 1701 be), (f, ca D 6 fo)] rfl ?_
        refine g_aload_n O dX6_clears_21 22 0 rfl rfl ?_
        refine g_iconst O dX6_clears_22 23 rfl ?_
        refine g_put O dX6_clears_23 26 rfl fX6_clears_45 pF6_7 0 rfl rfl rfl (Nat.le_of_ble_eq_true rfl) [(o, co 6 [vi N, vi P, .ref c, .ref l, .ref t, .ref n, .ref h, vi 0, .ref b, .ref f]), (c, ca D 5 cap), (l, ca D 6 len), (t, ca D 30 lst), (n, ca D 12 (fun _ => -1)), (h, ca D 60 hi), (b, ca D 1701 be), (f, ca D 6 fo)] rfl ?_
        exact g_vret O hQ dX6_clears_26 () rfl rfl trivial ⟨by decide, by decide⟩
      · skip
        refine g_aload_n O dX6_clears_8 9 0 rfl rfl ?_
        refine g_get O dX6_clears_9 12 rfl fX6_clears_26 0 rfl rfl ?_
        refine g_iload_n O dX6_clears_12 13 1 rfl rfl ?_
        refine g_iconst O dX6_clears_13 14 rfl ?_
        refine g_iast O dX6_clears_14 15 rfl 4 rfl (by decide) (by omega) [(o, co 6 [vi N, vi P, .ref c, .ref l, .ref t, .ref n, .ref h, vi e, .ref b, .ref f]), (c, ca D 5 cap), (l, ca D 6 len), (t, ca D 30 lst), (n, ca D 12 (up g i (-1))), (h, ca D 60 hi), (b, ca D 1701 be), (f, ca D 6 fo)] rfl ?_
        refine g_iinc O dX6_clears_15 18 1 [(0, .ref o), (1, vi (i + 1))] rfl (by decide) rfl rfl ?_
        refine g_goto O dX6_clears_18 2 rfl ?_
        exact ih2 (i + 1) (up g i (-1)) (by omega) (up_inv h2) (by omega)
  exact lp2 1000 0 nw (by omega) (fun kk q1 q2 => absurd q2 (by omega)) (by omega)
theorem sX6_builds_6 : ∀ w ∈ wsX60, w ∈ wsX6_builds := by decide +kernel
theorem fX6_builds_13 : FK RX6 wsX6_builds 13 6 1 := ⟨RX6, TX6, 10, rfl, sX6_builds_6, by decide, List.mem_of_getElem? (i := 2) rfl⟩
theorem fX6_builds_16 : FK RX6 wsX6_builds 16 6 2 := ⟨RX6, TX6, 10, rfl, sX6_builds_6, by decide, List.mem_of_getElem? (i := 3) rfl⟩
theorem fX6_builds_20 : FK RX6 wsX6_builds 20 6 3 := ⟨RX6, TX6, 10, rfl, sX6_builds_6, by decide, List.mem_of_getElem? (i := 4) rfl⟩
theorem fX6_builds_7 : FK RX6 wsX6_builds 7 6 0 := ⟨RX6, TX6, 10, rfl, sX6_builds_6, by decide, List.mem_of_getElem? (i := 1) rfl⟩
set_option maxHeartbeats 4000000 in
set_option maxRecDepth 100000 in
theorem k_X6_builds (D : DD) (o c l t n h b f : Nat) (N P : Int) (cap len lst nw hi : Int → Int) (e : Int) (be fo : Int → Int) (m p : Int) : Con (S := Unit) D yX6_builds wsX6_builds ({ frames := 1, cells := 0, slots := 0, locals := 21 }) 0 0 [.ref o, vi m, vi p] [(o, co 6 [vi N, vi P, .ref c, .ref l, .ref t, .ref n, .ref h, vi e, .ref b, .ref f]), (c, ca D 5 cap), (l, ca D 6 len), (t, ca D 30 lst), (n, ca D 12 nw), (h, ca D 60 hi), (b, ca D 1701 be), (f, ca D 6 fo)] (fun u => none) (fun u => True) (fun u => [(o, co 6 [vi m, vi p, .ref c, .ref l, .ref t, .ref n, .ref h, vi 0, .ref b, .ref f]), (c, ca D 5 (fun _ => 1)), (l, ca D 6 (fun _ => 0)), (t, ca D 30 lst), (n, ca D 12 (fun _ => -1)), (h, ca D 60 hi), (b, ca D 1701 be), (f, ca D 6 fo)]) := by
  refine Con.of (cc := cX6_builds) (nL := 4) (ret := none) rfl (by decide +kernel) (Nat.le_of_ble_eq_true rfl) ?_
  intro X A Q O hQ hin
  show G X D A 4 Q 0 0 0 [(0, .ref o), (1, vi m), (2, vi p)] [] [(o, co 6 [vi N, vi P, .ref c, .ref l, .ref t, .ref n, .ref h, vi e, .ref b, .ref f]), (c, ca D 5 cap), (l, ca D 6 len), (t, ca D 30 lst), (n, ca D 12 nw), (h, ca D 60 hi), (b, ca D 1701 be), (f, ca D 6 fo)]
  refine g_aload_n O dX6_builds_0 1 0 rfl rfl ?_
  refine g_iload_n O dX6_builds_1 2 1 rfl rfl ?_
  refine g_put O dX6_builds_2 5 rfl fX6_builds_7 pF6_0 0 rfl rfl rfl (Nat.le_of_ble_eq_true rfl) [(o, co 6 [vi m, vi P, .ref c, .ref l, .ref t, .ref n, .ref h, vi e, .ref b, .ref f]), (c, ca D 5 cap), (l, ca D 6 len), (t, ca D 30 lst), (n, ca D 12 nw), (h, ca D 60 hi), (b, ca D 1701 be), (f, ca D 6 fo)] rfl ?_
  refine g_aload_n O dX6_builds_5 6 0 rfl rfl ?_
  refine g_iload_n O dX6_builds_6 7 2 rfl rfl ?_
  refine g_put O dX6_builds_7 10 rfl fX6_builds_13 pF6_1 0 rfl rfl rfl (Nat.le_of_ble_eq_true rfl) [(o, co 6 [vi m, vi p, .ref c, .ref l, .ref t, .ref n, .ref h, vi e, .ref b, .ref f]), (c, ca D 5 cap), (l, ca D 6 len), (t, ca D 30 lst), (n, ca D 12 nw), (h, ca D 60 hi), (b, ca D 1701 be), (f, ca D 6 fo)] rfl ?_
  refine g_iconst O dX6_builds_10 11 rfl ?_
  refine g_istore_n O dX6_builds_11 12 [(0, .ref o), (1, vi m), (2, vi p), (3, vi 0)] rfl (by decide) rfl ?_
  have lp12 : ∀ (nn : Nat) (i : Int) (g : Int → Int), (0 ≤ i ∧ i ≤ 5) → (∀ kk, 0 ≤ kk → kk < i → g kk = 1) → (5 - i < (nn : Int)) → G X D A 4 Q 0 0 12 [(0, .ref o), (1, vi m), (2, vi p), (3, vi i)] [] [(o, co 6 [vi m, vi p, .ref c, .ref l, .ref t, .ref n, .ref h, vi e, .ref b, .ref f]), (c, ca D 5 g), (l, ca D 6 len), (t, ca D 30 lst), (n, ca D 12 nw), (h, ca D 60 hi), (b, ca D 1701 be), (f, ca D 6 fo)] := by
    intro nn
    induction nn with
    | zero =>
      intro i g h1 h2 hm12
      exact absurd hm12 (by omega)
    | succ nn ih12 =>
      intro i g h1 h2 hm12
      refine g_iload_n O dX6_builds_12 13 3 rfl rfl ?_
      refine g_iconst O dX6_builds_13 14 rfl ?_
      refine g_icmp_ge O dX6_builds_14 17 30 rfl rfl (by omega) (fun h14 => ?_) (fun h14 => ?_)
      · skip
        refine g_arr 1 (fun _ => 1) rfl (fun kk q1 q2 => h2 kk q1 (by omega)) [(o, co 6 [vi m, vi p, .ref c, .ref l, .ref t, .ref n, .ref h, vi e, .ref b, .ref f]), (c, ca D 5 (fun _ => 1)), (l, ca D 6 len), (t, ca D 30 lst), (n, ca D 12 nw), (h, ca D 60 hi), (b, ca D 1701 be), (f, ca D 6 fo)] rfl ?_
        refine g_iconst O dX6_builds_30 31 rfl ?_
        refine g_istore_n O dX6_builds_31 32 [(0, .ref o), (1, vi m), (2, vi p), (3, vi 0)] rfl (by decide) rfl ?_
        have lp32 : ∀ (nn : Nat) (i : Int) (k : Int → Int), (0 ≤ i ∧ i ≤ 6) → (∀ kk, 0 ≤ kk → kk < i → k kk = 0) → (6 - i < (nn : Int)) → G X D A 4 Q 0 0 32 [(0, .ref o), (1, vi m), (2, vi p), (3, vi i)] [] [(o, co 6 [vi m, vi p, .ref c, .ref l, .ref t, .ref n, .ref h, vi e, .ref b, .ref f]), (c, ca D 5 (fun _ => 1)), (l, ca D 6 k), (t, ca D 30 lst), (n, ca D 12 nw), (h, ca D 60 hi), (b, ca D 1701 be), (f, ca D 6 fo)] := by
          intro nn
          induction nn with
          | zero =>
            intro i k h1 h2 hm32
            exact absurd hm32 (by omega)
          | succ nn ih32 =>
            intro i k h1 h2 hm32
            refine g_iload_n O dX6_builds_32 33 3 rfl rfl ?_
            refine g_bipush O dX6_builds_33 35 rfl (by decide) ?_
            refine g_icmp_ge O dX6_builds_35 38 51 rfl rfl (by omega) (fun h35 => ?_) (fun h35 => ?_)
            · skip
              refine g_arr 2 (fun _ => 0) rfl (fun kk q1 q2 => h2 kk q1 (by omega)) [(o, co 6 [vi m, vi p, .ref c, .ref l, .ref t, .ref n, .ref h, vi e, .ref b, .ref f]), (c, ca D 5 (fun _ => 1)), (l, ca D 6 (fun _ => 0)), (t, ca D 30 lst), (n, ca D 12 nw), (h, ca D 60 hi), (b, ca D 1701 be), (f, ca D 6 fo)] rfl ?_
              refine g_aload_n O dX6_builds_51 52 0 rfl rfl ?_
              refine g_callV (As := []) (rest := []) (na := 0) O (k_X6_clears D o c l t n h b f m p (fun _ => 1) (fun _ => 0) lst nw hi e be fo) dX6_builds_52 gX6_builds_X6_clears rfl ⟨rfl, rfl⟩ (by decide +kernel) rfl (by decide) (by decide) rfl (Nat.le_of_ble_eq_true rfl) (q0 := 0) (ci := 6) rfl rfl [0, 1, 2, 3, 4, 5, 6, 7] (by decide) rfl (fun _ => rfl) (fun _ => [(o, co 6 [vi m, vi p, .ref c, .ref l, .ref t, .ref n, .ref h, vi 0, .ref b, .ref f]), (c, ca D 5 (fun _ => 1)), (l, ca D 6 (fun _ => 0)), (t, ca D 30 lst), (n, ca D 12 (fun _ => -1)), (h, ca D 60 hi), (b, ca D 1701 be), (f, ca D 6 fo)]) (fun _ => rfl) 55 rfl (fun _ _ => ?_)
              show G X D A 4 Q 0 0 55 [(0, .ref o), (1, vi m), (2, vi p), (3, vi i)] [] [(o, co 6 [vi m, vi p, .ref c, .ref l, .ref t, .ref n, .ref h, vi 0, .ref b, .ref f]), (c, ca D 5 (fun _ => 1)), (l, ca D 6 (fun _ => 0)), (t, ca D 30 lst), (n, ca D 12 (fun _ => -1)), (h, ca D 60 hi), (b, ca D 1701 be), (f, ca D 6 fo)]
              exact g_vret O hQ dX6_builds_55 () rfl rfl trivial ⟨by decide, by decide⟩
            · skip
              refine g_aload_n O dX6_builds_38 39 0 rfl rfl ?_
              refine g_get O dX6_builds_39 42 rfl fX6_builds_20 0 rfl rfl ?_
              refine g_iload_n O dX6_builds_42 43 3 rfl rfl ?_
              refine g_iconst O dX6_builds_43 44 rfl ?_
              refine g_iast O dX6_builds_44 45 rfl 2 rfl (by decide) (by omega) [(o, co 6 [vi m, vi p, .ref c, .ref l, .ref t, .ref n, .ref h, vi e, .ref b, .ref f]), (c, ca D 5 (fun _ => 1)), (l, ca D 6 (up k i 0)), (t, ca D 30 lst), (n, ca D 12 nw), (h, ca D 60 hi), (b, ca D 1701 be), (f, ca D 6 fo)] rfl ?_
              refine g_iinc O dX6_builds_45 48 3 [(0, .ref o), (1, vi m), (2, vi p), (3, vi (i + 1))] rfl (by decide) rfl rfl ?_
              refine g_goto O dX6_builds_48 32 rfl ?_
              exact ih32 (i + 1) (up k i 0) (by omega) (up_inv h2) (by omega)
        exact lp32 1000 0 len (by omega) (fun kk q1 q2 => absurd q2 (by omega)) (by omega)
      · skip
        refine g_aload_n O dX6_builds_17 18 0 rfl rfl ?_
        refine g_get O dX6_builds_18 21 rfl fX6_builds_16 0 rfl rfl ?_
        refine g_iload_n O dX6_builds_21 22 3 rfl rfl ?_
        refine g_iconst O dX6_builds_22 23 rfl ?_
        refine g_iast O dX6_builds_23 24 rfl 1 rfl (by decide) (by omega) [(o, co 6 [vi m, vi p, .ref c, .ref l, .ref t, .ref n, .ref h, vi e, .ref b, .ref f]), (c, ca D 5 (up g i 1)), (l, ca D 6 len), (t, ca D 30 lst), (n, ca D 12 nw), (h, ca D 60 hi), (b, ca D 1701 be), (f, ca D 6 fo)] rfl ?_
        refine g_iinc O dX6_builds_24 27 3 [(0, .ref o), (1, vi m), (2, vi p), (3, vi (i + 1))] rfl (by decide) rfl rfl ?_
        refine g_goto O dX6_builds_27 12 rfl ?_
        exact ih12 (i + 1) (up g i 1) (by omega) (up_inv h2) (by omega)
  exact lp12 1000 0 cap (by omega) (fun kk q1 q2 => absurd q2 (by omega)) (by omega)
theorem sX6_rank_6 : ∀ w ∈ wsX60, w ∈ wsX6_rank := by decide +kernel
theorem fX6_rank_20 : FK RX6 wsX6_rank 20 6 3 := ⟨RX6, TX6, 10, rfl, sX6_rank_6, by decide, List.mem_of_getElem? (i := 1) rfl⟩
theorem fX6_rank_23 : FK RX6 wsX6_rank 23 6 4 := ⟨RX6, TX6, 10, rfl, sX6_rank_6, by decide, List.mem_of_getElem? (i := 2) rfl⟩
set_option maxHeartbeats 4000000 in
set_option maxRecDepth 100000 in
theorem k_X6_rank (D : DD) (o c l t n h b f : Nat) (N P : Int) (cap len lst nw hi : Int → Int) (e : Int) (be fo : Int → Int) (a p : Int) (hW : WI N P cap len lst) (ha : 0 ≤ a ∧ a < 6) (hp : -2147483648 ≤ p ∧ p < 2147483648) : Con (S := Unit) D yX6_rank wsX6_rank ({ frames := 0, cells := 0, slots := 0, locals := 0 }) 0 0 [.ref o, vi a, vi p] [(o, co 6 [vi N, vi P, .ref c, .ref l, .ref t, .ref n, .ref h, vi e, .ref b, .ref f]), (c, ca D 5 cap), (l, ca D 6 len), (t, ca D 30 lst), (n, ca D 12 nw), (h, ca D 60 hi), (b, ca D 1701 be), (f, ca D 6 fo)] (fun u => some (vi (rm9 len lst a p))) (fun u => True) (fun u => [(o, co 6 [vi N, vi P, .ref c, .ref l, .ref t, .ref n, .ref h, vi e, .ref b, .ref f]), (c, ca D 5 cap), (l, ca D 6 len), (t, ca D 30 lst), (n, ca D 12 nw), (h, ca D 60 hi), (b, ca D 1701 be), (f, ca D 6 fo)]) := by
  refine Con.of (cc := cX6_rank) (nL := 4) (ret := (some .int)) rfl (by decide +kernel) (Nat.le_of_ble_eq_true rfl) ?_
  intro X A Q O hQ hin
  show G X D A 4 Q 0 0 0 [(0, .ref o), (1, vi a), (2, vi p)] [] [(o, co 6 [vi N, vi P, .ref c, .ref l, .ref t, .ref n, .ref h, vi e, .ref b, .ref f]), (c, ca D 5 cap), (l, ca D 6 len), (t, ca D 30 lst), (n, ca D 12 nw), (h, ca D 60 hi), (b, ca D 1701 be), (f, ca D 6 fo)]
  obtain ⟨hN, hcap, hlen, hlst, hdis⟩ := id hW
  have hla := hlen a (by omega) (by omega)
  refine g_iconst O dX6_rank_0 1 rfl ?_
  refine g_istore_n O dX6_rank_1 2 [(0, .ref o), (1, vi a), (2, vi p), (3, vi 0)] rfl (by decide) rfl ?_
  have lp2 : ∀ (nn : Nat) (i : Int), (0 ≤ i ∧ i ≤ len a) → (∀ kk, 0 ≤ kk → kk < i → row lst a kk ≠ p) → (len a - i < (nn : Int)) → G X D A 4 Q 0 0 2 [(0, .ref o), (1, vi a), (2, vi p), (3, vi i)] [] [(o, co 6 [vi N, vi P, .ref c, .ref l, .ref t, .ref n, .ref h, vi e, .ref b, .ref f]), (c, ca D 5 cap), (l, ca D 6 len), (t, ca D 30 lst), (n, ca D 12 nw), (h, ca D 60 hi), (b, ca D 1701 be), (f, ca D 6 fo)] := by
    intro nn
    induction nn with
    | zero =>
      intro i h1 h2 hm2
      exact absurd hm2 (by omega)
    | succ nn ih2 =>
      intro i h1 h2 hm2
      refine g_iload_n O dX6_rank_2 3 3 rfl rfl ?_
      refine g_aload_n O dX6_rank_3 4 0 rfl rfl ?_
      refine g_get O dX6_rank_4 7 rfl fX6_rank_20 0 rfl rfl ?_
      refine g_iload_n O dX6_rank_7 8 1 rfl rfl ?_
      refine g_iald O dX6_rank_8 9 rfl 2 rfl (by decide) (by omega) ?_
      refine g_icmp_ge O dX6_rank_9 12 34 rfl rfl (by omega) (fun h9 => ?_) (fun h9 => ?_)
      · skip
        refine g_bipush O dX6_rank_34 36 rfl (by decide) ?_
        exact g_iret O hQ dX6_rank_36 () (vi_eq (rm9_no (fun kk q1 q2 => h2 kk q1 (by omega)))) rfl trivial ⟨by decide, by decide⟩
      · skip
        have hli := hlst a i (by omega) (by omega) (by omega) (by omega)
        refine g_aload_n O dX6_rank_12 13 0 rfl rfl ?_
        refine g_get O dX6_rank_13 16 rfl fX6_rank_23 0 rfl rfl ?_
        refine g_iconst O dX6_rank_16 17 rfl ?_
        refine g_iload_n O dX6_rank_17 18 1 rfl rfl ?_
        refine g_imul O dX6_rank_18 19 rfl ?_
        refine g_iload_n O dX6_rank_19 20 3 rfl rfl ?_
        refine g_iadd O dX6_rank_20 21 rfl ?_
        refine g_iald O dX6_rank_21 22 rfl 3 rfl (by decide) (by omega) ?_
        refine g_cv (y := row lst a i) (by unfold row; congr 1; omega) ?_
        refine g_iload_n O dX6_rank_22 23 2 rfl rfl ?_
        refine g_icmp_ne O dX6_rank_23 26 28 rfl rfl (by omega) (fun h23 => ?_) (fun h23 => ?_)
        · skip
          refine g_iinc O dX6_rank_28 31 3 [(0, .ref o), (1, vi a), (2, vi p), (3, vi (i + 1))] rfl (by decide) rfl rfl ?_
          refine g_goto O dX6_rank_31 2 rfl ?_
          exact ih2 (i + 1) (by omega) (fun kk q1 q2 => by rcases (show kk < i ∨ kk = i by omega) with q | q; exact h2 kk q1 q; rw [q]; exact h23) (by omega)
        · skip
          refine g_iload_n O dX6_rank_26 27 3 rfl rfl ?_
          exact g_iret O hQ dX6_rank_27 () (vi_eq (rm9_at h1.1 (by omega) h2 h23)) rfl trivial ⟨by decide, by decide⟩
  exact lp2 1000 0 (by omega) (fun kk q1 q2 => absurd q2 (by omega)) (by omega)
theorem sX6_first_6 : ∀ w ∈ wsX60, w ∈ wsX6_first := by decide +kernel
theorem fX6_first_20 : FK RX6 wsX6_first 20 6 3 := ⟨RX6, TX6, 10, rfl, sX6_first_6, by decide, List.mem_of_getElem? (i := 1) rfl⟩
theorem fX6_first_23 : FK RX6 wsX6_first 23 6 4 := ⟨RX6, TX6, 10, rfl, sX6_first_6, by decide, List.mem_of_getElem? (i := 2) rfl⟩
set_option maxHeartbeats 4000000 in
set_option maxRecDepth 100000 in
theorem k_X6_first (D : DD) (o c l t n h b f : Nat) (N P : Int) (cap len lst nw hi : Int → Int) (e : Int) (be fo : Int → Int) (a : Int) (hW : WI N P cap len lst) (ha : 0 ≤ a ∧ a < 6) : Con (S := Unit) D yX6_first wsX6_first ({ frames := 0, cells := 0, slots := 0, locals := 0 }) 0 0 [.ref o, vi a] [(o, co 6 [vi N, vi P, .ref c, .ref l, .ref t, .ref n, .ref h, vi e, .ref b, .ref f]), (c, ca D 5 cap), (l, ca D 6 len), (t, ca D 30 lst), (n, ca D 12 nw), (h, ca D 60 hi), (b, ca D 1701 be), (f, ca D 6 fo)] (fun u => some (vi (fp len lst a))) (fun u => True) (fun u => [(o, co 6 [vi N, vi P, .ref c, .ref l, .ref t, .ref n, .ref h, vi e, .ref b, .ref f]), (c, ca D 5 cap), (l, ca D 6 len), (t, ca D 30 lst), (n, ca D 12 nw), (h, ca D 60 hi), (b, ca D 1701 be), (f, ca D 6 fo)]) := by
  refine Con.of (cc := cX6_first) (nL := 2) (ret := (some .int)) rfl (by decide +kernel) (Nat.le_of_ble_eq_true rfl) ?_
  intro X A Q O hQ hin
  show G X D A 2 Q 0 0 0 [(0, .ref o), (1, vi a)] [] [(o, co 6 [vi N, vi P, .ref c, .ref l, .ref t, .ref n, .ref h, vi e, .ref b, .ref f]), (c, ca D 5 cap), (l, ca D 6 len), (t, ca D 30 lst), (n, ca D 12 nw), (h, ca D 60 hi), (b, ca D 1701 be), (f, ca D 6 fo)]
  obtain ⟨hN, hcap, hlen, hlst, hdis⟩ := id hW
  have hla := hlen a (by omega) (by omega)
  refine g_aload_n O dX6_first_0 1 0 rfl rfl ?_
  refine g_get O dX6_first_1 4 rfl fX6_first_20 0 rfl rfl ?_
  refine g_iload_n O dX6_first_4 5 1 rfl rfl ?_
  refine g_iald O dX6_first_5 6 rfl 2 rfl (by decide) (by omega) ?_
  refine g_if_le O dX6_first_6 9 20 rfl rfl (by omega) (fun h6 => ?_) (fun h6 => ?_)
  · skip
    refine g_iconst O dX6_first_20 21 rfl ?_
    exact g_iret O hQ dX6_first_21 () (vi_eq (by unfold fp; split <;> omega)) rfl trivial ⟨by decide, by decide⟩
  · skip
    refine g_aload_n O dX6_first_9 10 0 rfl rfl ?_
    refine g_get O dX6_first_10 13 rfl fX6_first_23 0 rfl rfl ?_
    refine g_iconst O dX6_first_13 14 rfl ?_
    refine g_iload_n O dX6_first_14 15 1 rfl rfl ?_
    refine g_imul O dX6_first_15 16 rfl ?_
    refine g_iald O dX6_first_16 17 rfl 3 rfl (by decide) (by omega) ?_
    refine g_cv (y := row lst a 0) (by unfold row; congr 1; omega) ?_
    refine g_goto O dX6_first_17 21 rfl ?_
    exact g_iret O hQ dX6_first_21 () (vi_eq (by unfold fp; split <;> omega)) rfl trivial ⟨by decide, by decide⟩
theorem sX6_firsts_6 : ∀ w ∈ wsX60, w ∈ wsX6_firsts := by decide +kernel
theorem fX6_firsts_7 : FK RX6 wsX6_firsts 7 6 0 := ⟨RX6, TX6, 10, rfl, sX6_firsts_6, by decide, List.mem_of_getElem? (i := 1) rfl⟩
set_option maxHeartbeats 4000000 in
set_option maxRecDepth 100000 in
theorem k_X6_firsts (D : DD) (o c l t n h b f : Nat) (N P : Int) (cap len lst nw hi : Int → Int) (e : Int) (be fo : Int → Int) (p : Int) (hW : WI N P cap len lst) (hp : -2147483648 ≤ p ∧ p < 2147483648) : Con (S := Unit) D yX6_firsts wsX6_firsts ({ frames := 1, cells := 0, slots := 0, locals := 21 }) 0 0 [.ref o, vi p] [(o, co 6 [vi N, vi P, .ref c, .ref l, .ref t, .ref n, .ref h, vi e, .ref b, .ref f]), (c, ca D 5 cap), (l, ca D 6 len), (t, ca D 30 lst), (n, ca D 12 nw), (h, ca D 60 hi), (b, ca D 1701 be), (f, ca D 6 fo)] (fun u => some (vi (cf N len lst p))) (fun u => True) (fun u => [(o, co 6 [vi N, vi P, .ref c, .ref l, .ref t, .ref n, .ref h, vi e, .ref b, .ref f]), (c, ca D 5 cap), (l, ca D 6 len), (t, ca D 30 lst), (n, ca D 12 nw), (h, ca D 60 hi), (b, ca D 1701 be), (f, ca D 6 fo)]) := by
  refine Con.of (cc := cX6_firsts) (nL := 4) (ret := (some .int)) rfl (by decide +kernel) (Nat.le_of_ble_eq_true rfl) ?_
  intro X A Q O hQ hin
  show G X D A 4 Q 0 0 0 [(0, .ref o), (1, vi p)] [] [(o, co 6 [vi N, vi P, .ref c, .ref l, .ref t, .ref n, .ref h, vi e, .ref b, .ref f]), (c, ca D 5 cap), (l, ca D 6 len), (t, ca D 30 lst), (n, ca D 12 nw), (h, ca D 60 hi), (b, ca D 1701 be), (f, ca D 6 fo)]
  obtain ⟨hN, hcap, hlen, hlst, hdis⟩ := id hW
  refine g_iconst O dX6_firsts_0 1 rfl ?_
  refine g_istore_n O dX6_firsts_1 2 [(0, .ref o), (1, vi p), (2, vi 0)] rfl (by decide) rfl ?_
  refine g_iconst O dX6_firsts_2 3 rfl ?_
  refine g_istore_n O dX6_firsts_3 4 [(0, .ref o), (1, vi p), (2, vi 0), (3, vi 0)] rfl (by decide) rfl ?_
  have lp4 : ∀ (nn : Nat) (i : Int) (s : Int), (0 ≤ i ∧ i ≤ N) → (s = sm (cfi len lst p) i) → (N - i < (nn : Int)) → G X D A 4 Q 0 0 4 [(0, .ref o), (1, vi p), (2, vi s), (3, vi i)] [] [(o, co 6 [vi N, vi P, .ref c, .ref l, .ref t, .ref n, .ref h, vi e, .ref b, .ref f]), (c, ca D 5 cap), (l, ca D 6 len), (t, ca D 30 lst), (n, ca D 12 nw), (h, ca D 60 hi), (b, ca D 1701 be), (f, ca D 6 fo)] := by
    intro nn
    induction nn with
    | zero =>
      intro i s h1 h2 hm4
      exact absurd hm4 (by omega)
    | succ nn ih4 =>
      intro i s h1 h2 hm4
      refine g_iload_n O dX6_firsts_4 5 3 rfl rfl ?_
      refine g_aload_n O dX6_firsts_5 6 0 rfl rfl ?_
      refine g_get O dX6_firsts_6 9 rfl fX6_firsts_7 0 rfl rfl ?_
      refine g_icmp_ge O dX6_firsts_9 12 35 rfl rfl (by omega) (fun h9 => ?_) (fun h9 => ?_)
      · skip
        refine g_iload_n O dX6_firsts_35 36 2 rfl rfl ?_
        exact g_iret O hQ dX6_firsts_36 () (vi_eq (by rw [h2, show i = N by omega]; rfl)) rfl trivial ⟨by decide, by decide⟩
      · skip
        refine g_iload_n O dX6_firsts_12 13 2 rfl rfl ?_
        refine g_aload_n O dX6_firsts_13 14 0 rfl rfl ?_
        refine g_iload_n O dX6_firsts_14 15 3 rfl rfl ?_
        refine g_callV (As := [vi i]) (rest := [vi s]) (na := 1) O (k_X6_first D o c l t n h b f N P cap len lst nw hi e be fo i hW (by omega)) dX6_firsts_15 gX6_firsts_X6_first rfl ⟨rfl, rfl⟩ (by decide +kernel) rfl (by decide) (by decide) rfl (Nat.le_of_ble_eq_true rfl) (q0 := 0) (ci := 6) rfl rfl [0, 1, 2, 3, 4, 5, 6, 7] (by decide) rfl (fun _ => rfl) (fun _ => [(o, co 6 [vi N, vi P, .ref c, .ref l, .ref t, .ref n, .ref h, vi e, .ref b, .ref f]), (c, ca D 5 cap), (l, ca D 6 len), (t, ca D 30 lst), (n, ca D 12 nw), (h, ca D 60 hi), (b, ca D 1701 be), (f, ca D 6 fo)]) (fun _ => rfl) 18 rfl (fun _ _ => ?_)
        show G X D A 4 Q 0 0 18 [(0, .ref o), (1, vi p), (2, vi s), (3, vi i)] [vi (fp len lst i), vi s] [(o, co 6 [vi N, vi P, .ref c, .ref l, .ref t, .ref n, .ref h, vi e, .ref b, .ref f]), (c, ca D 5 cap), (l, ca D 6 len), (t, ca D 30 lst), (n, ca D 12 nw), (h, ca D 60 hi), (b, ca D 1701 be), (f, ca D 6 fo)]
        have hfp := fp_bd hW (a := i) (by omega) (by omega)
        refine g_iload_n O dX6_firsts_18 19 1 rfl rfl ?_
        refine g_icmp_ne O dX6_firsts_19 22 26 rfl rfl (by omega) (fun h19 => ?_) (fun h19 => ?_)
        · skip
          refine g_iconst O dX6_firsts_26 27 rfl ?_
          refine g_iadd O dX6_firsts_27 28 rfl ?_
          refine g_istore_n O dX6_firsts_28 29 [(0, .ref o), (1, vi p), (2, vi (s + 0)), (3, vi i)] rfl (by decide) rfl ?_
          refine g_iinc O dX6_firsts_29 32 3 [(0, .ref o), (1, vi p), (2, vi (s + 0)), (3, vi (i + 1))] rfl (by decide) rfl rfl ?_
          refine g_goto O dX6_firsts_32 4 rfl ?_
          exact ih4 (i + 1) (s + 0) (by omega) (by rw [sm_s _ h1.1, ← h2]; unfold cfi; split <;> omega) (by omega)
        · skip
          refine g_iconst O dX6_firsts_22 23 rfl ?_
          refine g_goto O dX6_firsts_23 27 rfl ?_
          refine g_iadd O dX6_firsts_27 28 rfl ?_
          refine g_istore_n O dX6_firsts_28 29 [(0, .ref o), (1, vi p), (2, vi (s + 1)), (3, vi i)] rfl (by decide) rfl ?_
          refine g_iinc O dX6_firsts_29 32 3 [(0, .ref o), (1, vi p), (2, vi (s + 1)), (3, vi (i + 1))] rfl (by decide) rfl rfl ?_
          refine g_goto O dX6_firsts_32 4 rfl ?_
          exact ih4 (i + 1) (s + 1) (by omega) (by rw [sm_s _ h1.1, ← h2]; unfold cfi; split <;> omega) (by omega)
  exact lp4 1000 0 0 (by omega) (sm_0 _).symm (by omega)
theorem sX6_second_6 : ∀ w ∈ wsX60, w ∈ wsX6_second := by decide +kernel
theorem fX6_second_16 : FK RX6 wsX6_second 16 6 2 := ⟨RX6, TX6, 10, rfl, sX6_second_6, by decide, List.mem_of_getElem? (i := 3) rfl⟩
theorem fX6_second_20 : FK RX6 wsX6_second 20 6 3 := ⟨RX6, TX6, 10, rfl, sX6_second_6, by decide, List.mem_of_getElem? (i := 1) rfl⟩
theorem fX6_second_23 : FK RX6 wsX6_second 23 6 4 := ⟨RX6, TX6, 10, rfl, sX6_second_6, by decide, List.mem_of_getElem? (i := 2) rfl⟩
set_option maxHeartbeats 4000000 in
set_option maxRecDepth 100000 in
theorem k_X6_second (D : DD) (o c l t n h b f : Nat) (N P : Int) (cap len lst nw hi : Int → Int) (e : Int) (be fo : Int → Int) (a : Int) (hW : WI N P cap len lst) (ha : 0 ≤ a ∧ a < 6) : Con (S := Unit) D yX6_second wsX6_second ({ frames := 2, cells := 0, slots := 0, locals := 44 }) 0 0 [.ref o, vi a] [(o, co 6 [vi N, vi P, .ref c, .ref l, .ref t, .ref n, .ref h, vi e, .ref b, .ref f]), (c, ca D 5 cap), (l, ca D 6 len), (t, ca D 30 lst), (n, ca D 12 nw), (h, ca D 60 hi), (b, ca D 1701 be), (f, ca D 6 fo)] (fun u => some (vi (sp N cap len lst a))) (fun u => True) (fun u => [(o, co 6 [vi N, vi P, .ref c, .ref l, .ref t, .ref n, .ref h, vi e, .ref b, .ref f]), (c, ca D 5 cap), (l, ca D 6 len), (t, ca D 30 lst), (n, ca D 12 nw), (h, ca D 60 hi), (b, ca D 1701 be), (f, ca D 6 fo)]) := by
  refine Con.of (cc := cX6_second) (nL := 4) (ret := (some .int)) rfl (by decide +kernel) (Nat.le_of_ble_eq_true rfl) ?_
  intro X A Q O hQ hin
  show G X D A 4 Q 0 0 0 [(0, .ref o), (1, vi a)] [] [(o, co 6 [vi N, vi P, .ref c, .ref l, .ref t, .ref n, .ref h, vi e, .ref b, .ref f]), (c, ca D 5 cap), (l, ca D 6 len), (t, ca D 30 lst), (n, ca D 12 nw), (h, ca D 60 hi), (b, ca D 1701 be), (f, ca D 6 fo)]
  obtain ⟨hN, hcap, hlen, hlst, hdis⟩ := id hW
  have hla := hlen a (by omega) (by omega)
  refine g_iconst O dX6_second_0 1 rfl ?_
  refine g_istore_n O dX6_second_1 2 [(0, .ref o), (1, vi a), (2, vi 1)] rfl (by decide) rfl ?_
  have lp2 : ∀ (nn : Nat) (i : Int), (1 ≤ i ∧ (i ≤ len a ∨ i = 1)) → (∀ kk, 1 ≤ kk → kk < i → ¬ cf N len lst (row lst a kk) < cap (row lst a kk)) → (7 - i < (nn : Int)) → G X D A 4 Q 0 0 2 [(0, .ref o), (1, vi a), (2, vi i)] [] [(o, co 6 [vi N, vi P, .ref c, .ref l, .ref t, .ref n, .ref h, vi e, .ref b, .ref f]), (c, ca D 5 cap), (l, ca D 6 len), (t, ca D 30 lst), (n, ca D 12 nw), (h, ca D 60 hi), (b, ca D 1701 be), (f, ca D 6 fo)] := by
    intro nn
    induction nn with
    | zero =>
      intro i h1 h2 hm2
      exact absurd hm2 (by omega)
    | succ nn ih2 =>
      intro i h1 h2 hm2
      refine g_iload_n O dX6_second_2 3 2 rfl rfl ?_
      refine g_aload_n O dX6_second_3 4 0 rfl rfl ?_
      refine g_get O dX6_second_4 7 rfl fX6_second_20 0 rfl rfl ?_
      refine g_iload_n O dX6_second_7 8 1 rfl rfl ?_
      refine g_iald O dX6_second_8 9 rfl 2 rfl (by decide) (by omega) ?_
      refine g_icmp_ge O dX6_second_9 12 45 rfl rfl (by omega) (fun h9 => ?_) (fun h9 => ?_)
      · skip
        refine g_iconst O dX6_second_45 46 rfl ?_
        exact g_iret O hQ dX6_second_46 () (vi_eq (sp_no (fun kk q1 q2 => h2 kk q1 (by omega)))) rfl trivial ⟨by decide, by decide⟩
      · skip
        have hli : 0 ≤ row lst a i ∧ row lst a i < P := hlst a i (by omega) (by omega) (by omega) (by omega)
        have hci := hcap (row lst a i) (by omega) (by omega)
        have hcf := cf_bd N len lst (row lst a i) (by omega)
        refine g_aload_n O dX6_second_12 13 0 rfl rfl ?_
        refine g_get O dX6_second_13 16 rfl fX6_second_23 0 rfl rfl ?_
        refine g_iconst O dX6_second_16 17 rfl ?_
        refine g_iload_n O dX6_second_17 18 1 rfl rfl ?_
        refine g_imul O dX6_second_18 19 rfl ?_
        refine g_iload_n O dX6_second_19 20 2 rfl rfl ?_
        refine g_iadd O dX6_second_20 21 rfl ?_
        refine g_iald O dX6_second_21 22 rfl 3 rfl (by decide) (by omega) ?_
        refine g_cv (y := row lst a i) (by unfold row; congr 1; omega) ?_
        refine g_istore_n O dX6_second_22 23 [(0, .ref o), (1, vi a), (2, vi i), (3, vi (row lst a i))] rfl (by decide) rfl ?_
        refine g_aload_n O dX6_second_23 24 0 rfl rfl ?_
        refine g_iload_n O dX6_second_24 25 3 rfl rfl ?_
        refine g_callV (As := [vi (row lst a i)]) (rest := []) (na := 1) O (k_X6_firsts D o c l t n h b f N P cap len lst nw hi e be fo (row lst a i) hW (by omega)) dX6_second_25 gX6_second_X6_firsts rfl ⟨rfl, rfl⟩ (by decide +kernel) rfl (by decide) (by decide) rfl (Nat.le_of_ble_eq_true rfl) (q0 := 0) (ci := 6) rfl rfl [0, 1, 2, 3, 4, 5, 6, 7] (by decide) rfl (fun _ => rfl) (fun _ => [(o, co 6 [vi N, vi P, .ref c, .ref l, .ref t, .ref n, .ref h, vi e, .ref b, .ref f]), (c, ca D 5 cap), (l, ca D 6 len), (t, ca D 30 lst), (n, ca D 12 nw), (h, ca D 60 hi), (b, ca D 1701 be), (f, ca D 6 fo)]) (fun _ => rfl) 28 rfl (fun _ _ => ?_)
        show G X D A 4 Q 0 0 28 [(0, .ref o), (1, vi a), (2, vi i), (3, vi (row lst a i))] [vi (cf N len lst (row lst a i))] [(o, co 6 [vi N, vi P, .ref c, .ref l, .ref t, .ref n, .ref h, vi e, .ref b, .ref f]), (c, ca D 5 cap), (l, ca D 6 len), (t, ca D 30 lst), (n, ca D 12 nw), (h, ca D 60 hi), (b, ca D 1701 be), (f, ca D 6 fo)]
        refine g_aload_n O dX6_second_28 29 0 rfl rfl ?_
        refine g_get O dX6_second_29 32 rfl fX6_second_16 0 rfl rfl ?_
        refine g_iload_n O dX6_second_32 33 3 rfl rfl ?_
        refine g_iald O dX6_second_33 34 rfl 1 rfl (by decide) (by omega) ?_
        refine g_icmp_ge O dX6_second_34 37 39 rfl rfl (by omega) (fun h34 => ?_) (fun h34 => ?_)
        · skip
          refine g_iinc O dX6_second_39 42 2 [(0, .ref o), (1, vi a), (2, vi (i + 1)), (3, vi (row lst a i))] rfl (by decide) rfl rfl ?_
          refine g_goto O dX6_second_42 2 rfl ?_
          refine g_loc (L' := [(0, .ref o), (1, vi a), (2, vi (i + 1))]) [0, 1, 2] rfl ?_
          exact ih2 (i + 1) (by omega) (fun kk q1 q2 => by rcases (show kk < i ∨ kk = i by omega) with q | q; exact h2 kk q1 q; rw [q]; omega) (by omega)
        · skip
          refine g_iload_n O dX6_second_37 38 3 rfl rfl ?_
          exact g_iret O hQ dX6_second_38 () (vi_eq (sp_at (by omega) (by omega) h2 h34)) rfl trivial ⟨by decide, by decide⟩
  exact lp2 1000 1 (by omega) (fun kk q1 q2 => absurd q2 (by omega)) (by omega)
theorem sX6_edit_6 : ∀ w ∈ wsX60, w ∈ wsX6_edit := by decide +kernel
theorem fX6_edit_26 : FK RX6 wsX6_edit 26 6 5 := ⟨RX6, TX6, 10, rfl, sX6_edit_6, by decide, List.mem_of_getElem? (i := 3) rfl⟩
theorem fX6_edit_29 : FK RX6 wsX6_edit 29 6 6 := ⟨RX6, TX6, 10, rfl, sX6_edit_6, by decide, List.mem_of_getElem? (i := 2) rfl⟩
theorem fX6_edit_45 : FK RX6 wsX6_edit 45 6 7 := ⟨RX6, TX6, 10, rfl, sX6_edit_6, by decide, List.mem_of_getElem? (i := 1) rfl⟩
set_option maxHeartbeats 4000000 in
set_option maxRecDepth 100000 in
theorem k_X6_edit (D : DD) (o c l t n h b f : Nat) (N P : Int) (cap len lst nw hi : Int → Int) (e : Int) (be fo : Int → Int) (he : 0 ≤ e ∧ e ≤ 5) : Con (S := Unit) D yX6_edit wsX6_edit ({ frames := 0, cells := 0, slots := 0, locals := 0 }) 0 0 [.ref o] [(o, co 6 [vi N, vi P, .ref c, .ref l, .ref t, .ref n, .ref h, vi e, .ref b, .ref f]), (c, ca D 5 cap), (l, ca D 6 len), (t, ca D 30 lst), (n, ca D 12 nw), (h, ca D 60 hi), (b, ca D 1701 be), (f, ca D 6 fo)] (fun u => none) (fun u => True) (fun u => [(o, co 6 [vi N, vi P, .ref c, .ref l, .ref t, .ref n, .ref h, vi (hpc e), .ref b, .ref f]), (c, ca D 5 cap), (l, ca D 6 len), (t, ca D 30 lst), (n, ca D 12 nw), (h, ca D 60 (edh e nw hi)), (b, ca D 1701 be), (f, ca D 6 fo)]) := by
  refine Con.of (cc := cX6_edit) (nL := 2) (ret := none) rfl (by decide +kernel) (Nat.le_of_ble_eq_true rfl) ?_
  intro X A Q O hQ hin
  show G X D A 2 Q 0 0 0 [(0, .ref o)] [] [(o, co 6 [vi N, vi P, .ref c, .ref l, .ref t, .ref n, .ref h, vi e, .ref b, .ref f]), (c, ca D 5 cap), (l, ca D 6 len), (t, ca D 30 lst), (n, ca D 12 nw), (h, ca D 60 hi), (b, ca D 1701 be), (f, ca D 6 fo)]
  have lp47 : ∀ (g0 : Int → Int) (e0 : Int), (e0 = (if e = 5 then 4 else e)) → (∀ kk, 0 ≤ kk → kk < 60 → g0 kk = if e = 5 ∧ kk < 48 then hi (kk + 12) else hi kk) → G X D A 2 Q 0 0 47 [(0, .ref o)] [] [(o, co 6 [vi N, vi P, .ref c, .ref l, .ref t, .ref n, .ref h, vi e0, .ref b, .ref f]), (c, ca D 5 cap), (l, ca D 6 len), (t, ca D 30 lst), (n, ca D 12 nw), (h, ca D 60 g0), (b, ca D 1701 be), (f, ca D 6 fo)] := by
    intro g0 e0 g1 g2
    refine g_iconst O dX6_edit_47 48 rfl ?_
    refine g_istore_n O dX6_edit_48 49 [(0, .ref o), (1, vi 0)] rfl (by decide) rfl ?_
    have lp49 : ∀ (nn : Nat) (i : Int) (g : Int → Int), (0 ≤ i ∧ i ≤ 12) → (∀ kk, 0 ≤ kk → kk < i → g (12 * e0 + kk) = nw kk) → (∀ kk, (kk < 12 * e0 ∨ 12 * e0 + i ≤ kk) → g kk = g0 kk) → (12 - i < (nn : Int)) → G X D A 2 Q 0 0 49 [(0, .ref o), (1, vi i)] [] [(o, co 6 [vi N, vi P, .ref c, .ref l, .ref t, .ref n, .ref h, vi e0, .ref b, .ref f]), (c, ca D 5 cap), (l, ca D 6 len), (t, ca D 30 lst), (n, ca D 12 nw), (h, ca D 60 g), (b, ca D 1701 be), (f, ca D 6 fo)] := by
      intro nn
      induction nn with
      | zero =>
        intro i g h1 h2 h3 hm49
        exact absurd hm49 (by omega)
      | succ nn ih49 =>
        intro i g h1 h2 h3 hm49
        have he0 : 0 ≤ e0 ∧ e0 ≤ 4 := by rw [g1]; split <;> omega
        refine g_iload_n O dX6_edit_49 50 1 rfl rfl ?_
        refine g_bipush O dX6_edit_50 52 rfl (by decide) ?_
        refine g_icmp_ge O dX6_edit_52 55 81 rfl rfl (by omega) (fun h52 => ?_) (fun h52 => ?_)
        · skip
          refine g_arr 5 (edh e nw hi) rfl (fun kk q1 q2 => edy g1 g2 (fun kk q1 q2 => h2 kk q1 (by omega)) (fun kk q => h3 kk (by omega)) kk q1 q2) [(o, co 6 [vi N, vi P, .ref c, .ref l, .ref t, .ref n, .ref h, vi e0, .ref b, .ref f]), (c, ca D 5 cap), (l, ca D 6 len), (t, ca D 30 lst), (n, ca D 12 nw), (h, ca D 60 (edh e nw hi)), (b, ca D 1701 be), (f, ca D 6 fo)] rfl ?_
          refine g_aload_n O dX6_edit_81 82 0 rfl rfl ?_
          refine g_dup O dX6_edit_82 83 rfl rfl ?_
          refine g_get O dX6_edit_83 86 rfl fX6_edit_45 0 rfl rfl ?_
          refine g_iconst O dX6_edit_86 87 rfl ?_
          refine g_iadd O dX6_edit_87 88 rfl ?_
          refine g_cv (y := hpc e) (by rw [g1]; unfold hpc; split <;> omega) ?_
          refine g_put O dX6_edit_88 91 rfl fX6_edit_45 pF6_7 0 rfl rfl rfl (Nat.le_of_ble_eq_true rfl) [(o, co 6 [vi N, vi P, .ref c, .ref l, .ref t, .ref n, .ref h, vi (hpc e), .ref b, .ref f]), (c, ca D 5 cap), (l, ca D 6 len), (t, ca D 30 lst), (n, ca D 12 nw), (h, ca D 60 (edh e nw hi)), (b, ca D 1701 be), (f, ca D 6 fo)] rfl ?_
          exact g_vret O hQ dX6_edit_91 () rfl rfl trivial ⟨by decide, by decide⟩
        · skip
          refine g_aload_n O dX6_edit_55 56 0 rfl rfl ?_
          refine g_get O dX6_edit_56 59 rfl fX6_edit_29 0 rfl rfl ?_
          refine g_bipush O dX6_edit_59 61 rfl (by decide) ?_
          refine g_aload_n O dX6_edit_61 62 0 rfl rfl ?_
          refine g_get O dX6_edit_62 65 rfl fX6_edit_45 0 rfl rfl ?_
          refine g_imul O dX6_edit_65 66 rfl ?_
          refine g_iload_n O dX6_edit_66 67 1 rfl rfl ?_
          refine g_iadd O dX6_edit_67 68 rfl ?_
          refine g_aload_n O dX6_edit_68 69 0 rfl rfl ?_
          refine g_get O dX6_edit_69 72 rfl fX6_edit_26 0 rfl rfl ?_
          refine g_iload_n O dX6_edit_72 73 1 rfl rfl ?_
          refine g_iald O dX6_edit_73 74 rfl 4 rfl (by decide) (by omega) ?_
          refine g_iast O dX6_edit_74 75 rfl 5 rfl (by decide) (by omega) [(o, co 6 [vi N, vi P, .ref c, .ref l, .ref t, .ref n, .ref h, vi e0, .ref b, .ref f]), (c, ca D 5 cap), (l, ca D 6 len), (t, ca D 30 lst), (n, ca D 12 nw), (h, ca D 60 (up g ((12 * e0) + i) (nw i))), (b, ca D 1701 be), (f, ca D 6 fo)] rfl ?_
          refine g_iinc O dX6_edit_75 78 1 [(0, .ref o), (1, vi (i + 1))] rfl (by decide) rfl rfl ?_
          refine g_goto O dX6_edit_78 49 rfl ?_
          exact ih49 (i + 1) (up g ((12 * e0) + i) (nw i)) (by omega) (fun kk q1 q2 => by unfold up; split; congr 1; omega; exact h2 kk q1 (by omega)) (fun kk q => by unfold up; rw [if_neg (by omega)]; exact h3 kk (by omega)) (by omega)
    exact lp49 1000 0 g0 (by omega) (fun kk q1 q2 => absurd q2 (by omega)) (fun kk _ => rfl) (by omega)
  refine g_aload_n O dX6_edit_0 1 0 rfl rfl ?_
  refine g_get O dX6_edit_1 4 rfl fX6_edit_45 0 rfl rfl ?_
  refine g_iconst O dX6_edit_4 5 rfl ?_
  refine g_icmp_ne O dX6_edit_5 8 47 rfl rfl (by omega) (fun h5 => ?_) (fun h5 => ?_)
  · skip
    exact lp47 hi e (by first | (rw [if_neg (by omega)]) | (rw [if_pos (by omega)]; omega)) (by first | exact edx1 (by omega) | exact edx2 (by omega) (by omega) h2 h3)
  · skip
    refine g_iconst O dX6_edit_8 9 rfl ?_
    refine g_istore_n O dX6_edit_9 10 [(0, .ref o), (1, vi 0)] rfl (by decide) rfl ?_
    have lp10 : ∀ (nn : Nat) (i : Int) (g : Int → Int), (0 ≤ i ∧ i ≤ 48) → (∀ kk, 0 ≤ kk → kk < i → g kk = hi (kk + 12)) → (∀ kk, i ≤ kk → g kk = hi kk) → (48 - i < (nn : Int)) → G X D A 2 Q 0 0 10 [(0, .ref o), (1, vi i)] [] [(o, co 6 [vi N, vi P, .ref c, .ref l, .ref t, .ref n, .ref h, vi e, .ref b, .ref f]), (c, ca D 5 cap), (l, ca D 6 len), (t, ca D 30 lst), (n, ca D 12 nw), (h, ca D 60 g), (b, ca D 1701 be), (f, ca D 6 fo)] := by
      intro nn
      induction nn with
      | zero =>
        intro i g h1 h2 h3 hm10
        exact absurd hm10 (by omega)
      | succ nn ih10 =>
        intro i g h1 h2 h3 hm10
        refine g_iload_n O dX6_edit_10 11 1 rfl rfl ?_
        refine g_bipush O dX6_edit_11 13 rfl (by decide) ?_
        refine g_icmp_ge O dX6_edit_13 16 37 rfl rfl (by omega) (fun h13 => ?_) (fun h13 => ?_)
        · skip
          refine g_aload_n O dX6_edit_37 38 0 rfl rfl ?_
          refine g_dup O dX6_edit_38 39 rfl rfl ?_
          refine g_get O dX6_edit_39 42 rfl fX6_edit_45 0 rfl rfl ?_
          refine g_iconst O dX6_edit_42 43 rfl ?_
          refine g_isub O dX6_edit_43 44 rfl ?_
          refine g_put O dX6_edit_44 47 rfl fX6_edit_45 pF6_7 0 rfl rfl rfl (Nat.le_of_ble_eq_true rfl) [(o, co 6 [vi N, vi P, .ref c, .ref l, .ref t, .ref n, .ref h, vi (e - 1), .ref b, .ref f]), (c, ca D 5 cap), (l, ca D 6 len), (t, ca D 30 lst), (n, ca D 12 nw), (h, ca D 60 g), (b, ca D 1701 be), (f, ca D 6 fo)] rfl ?_
          refine g_loc (L' := [(0, .ref o)]) [0] rfl ?_
          exact lp47 g (e - 1) (by first | (rw [if_neg (by omega)]) | (rw [if_pos (by omega)]; omega)) (by first | exact edx1 (by omega) | exact edx2 (by omega) (by omega) h2 h3)
        · skip
          refine g_aload_n O dX6_edit_16 17 0 rfl rfl ?_
          refine g_get O dX6_edit_17 20 rfl fX6_edit_29 0 rfl rfl ?_
          refine g_iload_n O dX6_edit_20 21 1 rfl rfl ?_
          refine g_aload_n O dX6_edit_21 22 0 rfl rfl ?_
          refine g_get O dX6_edit_22 25 rfl fX6_edit_29 0 rfl rfl ?_
          refine g_iload_n O dX6_edit_25 26 1 rfl rfl ?_
          refine g_bipush O dX6_edit_26 28 rfl (by decide) ?_
          refine g_iadd O dX6_edit_28 29 rfl ?_
          refine g_iald O dX6_edit_29 30 rfl 5 rfl (by decide) (by omega) ?_
          refine g_iast O dX6_edit_30 31 rfl 5 rfl (by decide) (by omega) [(o, co 6 [vi N, vi P, .ref c, .ref l, .ref t, .ref n, .ref h, vi e, .ref b, .ref f]), (c, ca D 5 cap), (l, ca D 6 len), (t, ca D 30 lst), (n, ca D 12 nw), (h, ca D 60 (up g i (g (i + 12)))), (b, ca D 1701 be), (f, ca D 6 fo)] rfl ?_
          refine g_iinc O dX6_edit_31 34 1 [(0, .ref o), (1, vi (i + 1))] rfl (by decide) rfl rfl ?_
          refine g_goto O dX6_edit_34 10 rfl ?_
          exact ih10 (i + 1) (up g i (g (i + 12))) (by omega) (fun kk q1 q2 => by unfold up; split; rename_i q; rw [q]; exact h3 _ (by omega); exact h2 kk q1 (by omega)) (fun kk q => by unfold up; rw [if_neg (by omega)]; exact h3 kk (by omega)) (by omega)
    exact lp10 1000 0 hi (by omega) (fun kk q1 q2 => absurd q2 (by omega)) (fun kk _ => rfl) (by omega)
theorem sX6_undo_6 : ∀ w ∈ wsX60, w ∈ wsX6_undo := by decide +kernel
theorem fX6_undo_26 : FK RX6 wsX6_undo 26 6 5 := ⟨RX6, TX6, 10, rfl, sX6_undo_6, by decide, List.mem_of_getElem? (i := 2) rfl⟩
theorem fX6_undo_29 : FK RX6 wsX6_undo 29 6 6 := ⟨RX6, TX6, 10, rfl, sX6_undo_6, by decide, List.mem_of_getElem? (i := 3) rfl⟩
theorem fX6_undo_45 : FK RX6 wsX6_undo 45 6 7 := ⟨RX6, TX6, 10, rfl, sX6_undo_6, by decide, List.mem_of_getElem? (i := 1) rfl⟩
set_option maxHeartbeats 4000000 in
set_option maxRecDepth 100000 in
theorem k_X6_undo (D : DD) (o c l t n h b f : Nat) (N P : Int) (cap len lst nw hi : Int → Int) (e : Int) (be fo : Int → Int) (he : 0 ≤ e ∧ e ≤ 5) : Con (S := Int × (Int → Int) × Int) D yX6_undo wsX6_undo ({ frames := 0, cells := 0, slots := 0, locals := 0 }) 0 0 [.ref o] [(o, co 6 [vi N, vi P, .ref c, .ref l, .ref t, .ref n, .ref h, vi e, .ref b, .ref f]), (c, ca D 5 cap), (l, ca D 6 len), (t, ca D 30 lst), (n, ca D 12 nw), (h, ca D 60 hi), (b, ca D 1701 be), (f, ca D 6 fo)] (fun u => some (vi u.1)) (fun u => (e = 0 ∧ u.1 = -104 ∧ u.2.1 = nw ∧ u.2.2 = e) ∨ (0 < e ∧ u.1 = e - 1 ∧ u.2.1 = (fun kk => hi (12 * (e - 1) + kk)) ∧ u.2.2 = e - 1)) (fun u => [(o, co 6 [vi N, vi P, .ref c, .ref l, .ref t, .ref n, .ref h, vi u.2.2, .ref b, .ref f]), (c, ca D 5 cap), (l, ca D 6 len), (t, ca D 30 lst), (n, ca D 12 u.2.1), (h, ca D 60 hi), (b, ca D 1701 be), (f, ca D 6 fo)]) := by
  refine Con.of (cc := cX6_undo) (nL := 2) (ret := (some .int)) rfl (by decide +kernel) (Nat.le_of_ble_eq_true rfl) ?_
  intro X A Q O hQ hin
  show G X D A 2 Q 0 0 0 [(0, .ref o)] [] [(o, co 6 [vi N, vi P, .ref c, .ref l, .ref t, .ref n, .ref h, vi e, .ref b, .ref f]), (c, ca D 5 cap), (l, ca D 6 len), (t, ca D 30 lst), (n, ca D 12 nw), (h, ca D 60 hi), (b, ca D 1701 be), (f, ca D 6 fo)]
  refine g_aload_n O dX6_undo_0 1 0 rfl rfl ?_
  refine g_get O dX6_undo_1 4 rfl fX6_undo_45 0 rfl rfl ?_
  refine g_if_ne O dX6_undo_4 7 10 rfl rfl (by omega) (fun h4 => ?_) (fun h4 => ?_)
  · skip
    refine g_aload_n O dX6_undo_10 11 0 rfl rfl ?_
    refine g_dup O dX6_undo_11 12 rfl rfl ?_
    refine g_get O dX6_undo_12 15 rfl fX6_undo_45 0 rfl rfl ?_
    refine g_iconst O dX6_undo_15 16 rfl ?_
    refine g_isub O dX6_undo_16 17 rfl ?_
    refine g_put O dX6_undo_17 20 rfl fX6_undo_45 pF6_7 0 rfl rfl rfl (Nat.le_of_ble_eq_true rfl) [(o, co 6 [vi N, vi P, .ref c, .ref l, .ref t, .ref n, .ref h, vi (e - 1), .ref b, .ref f]), (c, ca D 5 cap), (l, ca D 6 len), (t, ca D 30 lst), (n, ca D 12 nw), (h, ca D 60 hi), (b, ca D 1701 be), (f, ca D 6 fo)] rfl ?_
    refine g_iconst O dX6_undo_20 21 rfl ?_
    refine g_istore_n O dX6_undo_21 22 [(0, .ref o), (1, vi 0)] rfl (by decide) rfl ?_
    have lp22 : ∀ (nn : Nat) (i : Int) (g : Int → Int), (0 ≤ i ∧ i ≤ 12) → (∀ kk, 0 ≤ kk → kk < i → g kk = hi (12 * (e - 1) + kk)) → (12 - i < (nn : Int)) → G X D A 2 Q 0 0 22 [(0, .ref o), (1, vi i)] [] [(o, co 6 [vi N, vi P, .ref c, .ref l, .ref t, .ref n, .ref h, vi (e - 1), .ref b, .ref f]), (c, ca D 5 cap), (l, ca D 6 len), (t, ca D 30 lst), (n, ca D 12 g), (h, ca D 60 hi), (b, ca D 1701 be), (f, ca D 6 fo)] := by
      intro nn
      induction nn with
      | zero =>
        intro i g h1 h2 hm22
        exact absurd hm22 (by omega)
      | succ nn ih22 =>
        intro i g h1 h2 hm22
        refine g_iload_n O dX6_undo_22 23 1 rfl rfl ?_
        refine g_bipush O dX6_undo_23 25 rfl (by decide) ?_
        refine g_icmp_ge O dX6_undo_25 28 54 rfl rfl (by omega) (fun h25 => ?_) (fun h25 => ?_)
        · skip
          refine g_arr 4 (fun kk => hi (12 * (e - 1) + kk)) rfl (fun kk q1 q2 => h2 kk q1 (by omega)) [(o, co 6 [vi N, vi P, .ref c, .ref l, .ref t, .ref n, .ref h, vi (e - 1), .ref b, .ref f]), (c, ca D 5 cap), (l, ca D 6 len), (t, ca D 30 lst), (n, ca D 12 (fun kk => hi (12 * (e - 1) + kk))), (h, ca D 60 hi), (b, ca D 1701 be), (f, ca D 6 fo)] rfl ?_
          refine g_aload_n O dX6_undo_54 55 0 rfl rfl ?_
          refine g_get O dX6_undo_55 58 rfl fX6_undo_45 0 rfl rfl ?_
          exact g_iret O hQ dX6_undo_58 (e - 1, fun kk => hi (12 * (e - 1) + kk), e - 1) rfl rfl (Or.inr ⟨by omega, rfl, rfl, rfl⟩) ⟨by decide, by decide⟩
        · skip
          refine g_aload_n O dX6_undo_28 29 0 rfl rfl ?_
          refine g_get O dX6_undo_29 32 rfl fX6_undo_26 0 rfl rfl ?_
          refine g_iload_n O dX6_undo_32 33 1 rfl rfl ?_
          refine g_aload_n O dX6_undo_33 34 0 rfl rfl ?_
          refine g_get O dX6_undo_34 37 rfl fX6_undo_29 0 rfl rfl ?_
          refine g_bipush O dX6_undo_37 39 rfl (by decide) ?_
          refine g_aload_n O dX6_undo_39 40 0 rfl rfl ?_
          refine g_get O dX6_undo_40 43 rfl fX6_undo_45 0 rfl rfl ?_
          refine g_imul O dX6_undo_43 44 rfl ?_
          refine g_iload_n O dX6_undo_44 45 1 rfl rfl ?_
          refine g_iadd O dX6_undo_45 46 rfl ?_
          refine g_iald O dX6_undo_46 47 rfl 5 rfl (by decide) (by omega) ?_
          refine g_iast O dX6_undo_47 48 rfl 4 rfl (by decide) (by omega) [(o, co 6 [vi N, vi P, .ref c, .ref l, .ref t, .ref n, .ref h, vi (e - 1), .ref b, .ref f]), (c, ca D 5 cap), (l, ca D 6 len), (t, ca D 30 lst), (n, ca D 12 (up g i (hi ((12 * (e - 1)) + i)))), (h, ca D 60 hi), (b, ca D 1701 be), (f, ca D 6 fo)] rfl ?_
          refine g_iinc O dX6_undo_48 51 1 [(0, .ref o), (1, vi (i + 1))] rfl (by decide) rfl rfl ?_
          refine g_goto O dX6_undo_51 22 rfl ?_
          exact ih22 (i + 1) (up g i (hi ((12 * (e - 1)) + i))) (by omega) (up_inv2 (g := fun kk => hi (12 * (e - 1) + kk)) h2) (by omega)
    exact lp22 1000 0 nw (by omega) (fun kk q1 q2 => absurd q2 (by omega)) (by omega)
  · skip
    refine g_bipush O dX6_undo_7 9 rfl (by decide) ?_
    exact g_iret O hQ dX6_undo_9 (-104, nw, e) rfl rfl (Or.inl ⟨by omega, rfl, rfl, rfl⟩) ⟨by decide, by decide⟩
theorem sX6_postOf_6 : ∀ w ∈ wsX60, w ∈ wsX6_postOf := by decide +kernel
theorem fX6_postOf_26 : FK RX6 wsX6_postOf 26 6 5 := ⟨RX6, TX6, 10, rfl, sX6_postOf_6, by decide, List.mem_of_getElem? (i := 1) rfl⟩
set_option maxHeartbeats 4000000 in
set_option maxRecDepth 100000 in
theorem k_X6_postOf (D : DD) (o c l t n h b f : Nat) (N P : Int) (cap len lst nw hi : Int → Int) (e : Int) (be fo : Int → Int) (a : Int) (hW : WI N P cap len lst) (ha : -2147483648 ≤ a ∧ a < 2147483648) : Con (S := Unit) D yX6_postOf wsX6_postOf ({ frames := 2, cells := 0, slots := 0, locals := 43 }) 0 0 [.ref o, vi a] [(o, co 6 [vi N, vi P, .ref c, .ref l, .ref t, .ref n, .ref h, vi e, .ref b, .ref f]), (c, ca D 5 cap), (l, ca D 6 len), (t, ca D 30 lst), (n, ca D 12 nw), (h, ca D 60 hi), (b, ca D 1701 be), (f, ca D 6 fo)] (fun u => some (vi (if 0 ≤ a ∧ a < N then nw a else -101))) (fun u => True) (fun u => [(o, co 6 [vi N, vi P, .ref c, .ref l, .ref t, .ref n, .ref h, vi e, .ref b, .ref f]), (c, ca D 5 cap), (l, ca D 6 len), (t, ca D 30 lst), (n, ca D 12 nw), (h, ca D 60 hi), (b, ca D 1701 be), (f, ca D 6 fo)]) := by
  refine Con.of (cc := cX6_postOf) (nL := 2) (ret := (some .int)) rfl (by decide +kernel) (Nat.le_of_ble_eq_true rfl) ?_
  intro X A Q O hQ hin
  show G X D A 2 Q 0 0 0 [(0, .ref o), (1, vi a)] [] [(o, co 6 [vi N, vi P, .ref c, .ref l, .ref t, .ref n, .ref h, vi e, .ref b, .ref f]), (c, ca D 5 cap), (l, ca D 6 len), (t, ca D 30 lst), (n, ca D 12 nw), (h, ca D 60 hi), (b, ca D 1701 be), (f, ca D 6 fo)]
  obtain ⟨hN, hcap, hlen, hlst, hdis⟩ := id hW
  refine g_aload_n O dX6_postOf_0 1 0 rfl rfl ?_
  refine g_iload_n O dX6_postOf_1 2 1 rfl rfl ?_
  refine g_callV (As := [vi a]) (rest := []) (na := 1) O (k_X6_isApplicant D o c l t n h b f N P cap len lst nw hi e be fo a hW (by omega)) dX6_postOf_2 gX6_postOf_X6_isApplicant rfl ⟨rfl, rfl⟩ (by decide +kernel) rfl (by decide) (by decide) rfl (Nat.le_of_ble_eq_true rfl) (q0 := 0) (ci := 6) rfl rfl [0, 1, 2, 3, 4, 5, 6, 7] (by decide) rfl (fun _ => rfl) (fun u => [(o, co 6 [vi N, vi P, .ref c, .ref l, .ref t, .ref n, .ref h, vi e, .ref b, .ref f]), (c, ca D 5 cap), (l, ca D 6 len), (t, ca D 30 lst), (n, ca D 12 nw), (h, ca D 60 hi), (b, ca D 1701 be), (f, ca D 6 fo)]) (fun _ => rfl) 5 rfl (fun u2 hu2 => ?_)
  obtain ⟨bz2, rfl⟩ : ∃ z, z = u2 := ⟨_, rfl⟩
  rcases hu2 with ⟨rfl, hb2⟩ | ⟨rfl, hb2⟩
  · skip
    have hb2 : 0 ≤ a ∧ a < N := hb2
    show G X D A 2 Q 0 0 5 [(0, .ref o), (1, vi a)] [vi 1] [(o, co 6 [vi N, vi P, .ref c, .ref l, .ref t, .ref n, .ref h, vi e, .ref b, .ref f]), (c, ca D 5 cap), (l, ca D 6 len), (t, ca D 30 lst), (n, ca D 12 nw), (h, ca D 60 hi), (b, ca D 1701 be), (f, ca D 6 fo)]
    refine g_if_eq O dX6_postOf_5 8 17 rfl rfl (by omega) (fun h => absurd h (by decide)) (fun _ => ?_)
    refine g_aload_n O dX6_postOf_8 9 0 rfl rfl ?_
    refine g_get O dX6_postOf_9 12 rfl fX6_postOf_26 0 rfl rfl ?_
    refine g_iload_n O dX6_postOf_12 13 1 rfl rfl ?_
    refine g_iald O dX6_postOf_13 14 rfl 4 rfl (by decide) (by omega) ?_
    refine g_goto O dX6_postOf_14 19 rfl ?_
    exact g_iret O hQ dX6_postOf_19 () (vi_eq (by split <;> omega)) rfl trivial ⟨by decide, by decide⟩
  · skip
    have hb2 : ¬ (0 ≤ a ∧ a < N) := hb2
    show G X D A 2 Q 0 0 5 [(0, .ref o), (1, vi a)] [vi 0] [(o, co 6 [vi N, vi P, .ref c, .ref l, .ref t, .ref n, .ref h, vi e, .ref b, .ref f]), (c, ca D 5 cap), (l, ca D 6 len), (t, ca D 30 lst), (n, ca D 12 nw), (h, ca D 60 hi), (b, ca D 1701 be), (f, ca D 6 fo)]
    refine g_if_eq O dX6_postOf_5 8 17 rfl rfl (by omega) (fun _ => ?_) (fun h => absurd h (by decide))
    refine g_bipush O dX6_postOf_17 19 rfl (by decide) ?_
    exact g_iret O hQ dX6_postOf_19 () (vi_eq (by split <;> omega)) rfl trivial ⟨by decide, by decide⟩
theorem sX6_size_6 : ∀ w ∈ wsX60, w ∈ wsX6_size := by decide +kernel
theorem fX6_size_26 : FK RX6 wsX6_size 26 6 5 := ⟨RX6, TX6, 10, rfl, sX6_size_6, by decide, List.mem_of_getElem? (i := 2) rfl⟩
theorem fX6_size_7 : FK RX6 wsX6_size 7 6 0 := ⟨RX6, TX6, 10, rfl, sX6_size_6, by decide, List.mem_of_getElem? (i := 1) rfl⟩
set_option maxHeartbeats 4000000 in
set_option maxRecDepth 100000 in
theorem k_X6_size (D : DD) (o c l t n h b f : Nat) (N P : Int) (cap len lst nw hi : Int → Int) (e : Int) (be fo : Int → Int) (hW : WI N P cap len lst) (hnw : NW nw) : Con (S := Unit) D yX6_size wsX6_size ({ frames := 0, cells := 0, slots := 0, locals := 0 }) 0 0 [.ref o] [(o, co 6 [vi N, vi P, .ref c, .ref l, .ref t, .ref n, .ref h, vi e, .ref b, .ref f]), (c, ca D 5 cap), (l, ca D 6 len), (t, ca D 30 lst), (n, ca D 12 nw), (h, ca D 60 hi), (b, ca D 1701 be), (f, ca D 6 fo)] (fun u => some (vi (sm (pls nw) N))) (fun u => True) (fun u => [(o, co 6 [vi N, vi P, .ref c, .ref l, .ref t, .ref n, .ref h, vi e, .ref b, .ref f]), (c, ca D 5 cap), (l, ca D 6 len), (t, ca D 30 lst), (n, ca D 12 nw), (h, ca D 60 hi), (b, ca D 1701 be), (f, ca D 6 fo)]) := by
  refine Con.of (cc := cX6_size) (nL := 3) (ret := (some .int)) rfl (by decide +kernel) (Nat.le_of_ble_eq_true rfl) ?_
  intro X A Q O hQ hin
  show G X D A 3 Q 0 0 0 [(0, .ref o)] [] [(o, co 6 [vi N, vi P, .ref c, .ref l, .ref t, .ref n, .ref h, vi e, .ref b, .ref f]), (c, ca D 5 cap), (l, ca D 6 len), (t, ca D 30 lst), (n, ca D 12 nw), (h, ca D 60 hi), (b, ca D 1701 be), (f, ca D 6 fo)]
  obtain ⟨hN, hcap, hlen, hlst, hdis⟩ := id hW
  refine g_iconst O dX6_size_0 1 rfl ?_
  refine g_istore_n O dX6_size_1 2 [(0, .ref o), (1, vi 0)] rfl (by decide) rfl ?_
  refine g_iconst O dX6_size_2 3 rfl ?_
  refine g_istore_n O dX6_size_3 4 [(0, .ref o), (1, vi 0), (2, vi 0)] rfl (by decide) rfl ?_
  have lp4 : ∀ (nn : Nat) (i : Int) (s : Int), (0 ≤ i ∧ i ≤ N) → (s = sm (pls nw) i) → (N - i < (nn : Int)) → G X D A 3 Q 0 0 4 [(0, .ref o), (1, vi s), (2, vi i)] [] [(o, co 6 [vi N, vi P, .ref c, .ref l, .ref t, .ref n, .ref h, vi e, .ref b, .ref f]), (c, ca D 5 cap), (l, ca D 6 len), (t, ca D 30 lst), (n, ca D 12 nw), (h, ca D 60 hi), (b, ca D 1701 be), (f, ca D 6 fo)] := by
    intro nn
    induction nn with
    | zero =>
      intro i s h1 h2 hm4
      exact absurd hm4 (by omega)
    | succ nn ih4 =>
      intro i s h1 h2 hm4
      refine g_iload_n O dX6_size_4 5 2 rfl rfl ?_
      refine g_aload_n O dX6_size_5 6 0 rfl rfl ?_
      refine g_get O dX6_size_6 9 rfl fX6_size_7 0 rfl rfl ?_
      refine g_icmp_ge O dX6_size_9 12 35 rfl rfl (by omega) (fun h9 => ?_) (fun h9 => ?_)
      · skip
        refine g_iload_n O dX6_size_35 36 1 rfl rfl ?_
        exact g_iret O hQ dX6_size_36 () (vi_eq (by rw [h2, show i = N by omega])) rfl trivial ⟨by decide, by decide⟩
      · skip
        refine g_iload_n O dX6_size_12 13 1 rfl rfl ?_
        refine g_aload_n O dX6_size_13 14 0 rfl rfl ?_
        refine g_get O dX6_size_14 17 rfl fX6_size_26 0 rfl rfl ?_
        refine g_iload_n O dX6_size_17 18 2 rfl rfl ?_
        refine g_iald O dX6_size_18 19 rfl 4 rfl (by decide) (by omega) ?_
        have hni := hnw i (by omega) (by omega)
        refine g_if_lt O dX6_size_19 22 26 rfl rfl (by omega) (fun h19 => ?_) (fun h19 => ?_)
        · skip
          refine g_iconst O dX6_size_26 27 rfl ?_
          refine g_iadd O dX6_size_27 28 rfl ?_
          refine g_istore_n O dX6_size_28 29 [(0, .ref o), (1, vi (s + 0)), (2, vi i)] rfl (by decide) rfl ?_
          refine g_iinc O dX6_size_29 32 2 [(0, .ref o), (1, vi (s + 0)), (2, vi (i + 1))] rfl (by decide) rfl rfl ?_
          refine g_goto O dX6_size_32 4 rfl ?_
          exact ih4 (i + 1) (s + 0) (by omega) (by rw [sm_s _ h1.1, ← h2]; unfold pls; split <;> omega) (by omega)
        · skip
          refine g_iconst O dX6_size_22 23 rfl ?_
          refine g_goto O dX6_size_23 27 rfl ?_
          refine g_iadd O dX6_size_27 28 rfl ?_
          refine g_istore_n O dX6_size_28 29 [(0, .ref o), (1, vi (s + 1)), (2, vi i)] rfl (by decide) rfl ?_
          refine g_iinc O dX6_size_29 32 2 [(0, .ref o), (1, vi (s + 1)), (2, vi (i + 1))] rfl (by decide) rfl rfl ?_
          refine g_goto O dX6_size_32 4 rfl ?_
          exact ih4 (i + 1) (s + 1) (by omega) (by rw [sm_s _ h1.1, ← h2]; unfold pls; split <;> omega) (by omega)
  exact lp4 1000 0 0 (by omega) (sm_0 _).symm (by omega)
set_option maxHeartbeats 4000000 in
set_option maxRecDepth 100000 in
theorem k_X6_vote (D : DD) (o c l t n h b f : Nat) (N P : Int) (cap len lst nw hi : Int → Int) (e : Int) (be fo : Int → Int) (a p q : Int) (hW : WI N P cap len lst) (ha : 0 ≤ a ∧ a < 6) (hp : -2147483648 ≤ p ∧ p < 2147483648) (hq : -2147483648 ≤ q ∧ q < 2147483648) : Con (S := Unit) D yX6_vote wsX6_vote ({ frames := 1, cells := 0, slots := 0, locals := 23 }) 0 0 [.ref o, vi a, vi p, vi q] [(o, co 6 [vi N, vi P, .ref c, .ref l, .ref t, .ref n, .ref h, vi e, .ref b, .ref f]), (c, ca D 5 cap), (l, ca D 6 len), (t, ca D 30 lst), (n, ca D 12 nw), (h, ca D 60 hi), (b, ca D 1701 be), (f, ca D 6 fo)] (fun u => some (vi (vm len lst a p q))) (fun u => True) (fun u => [(o, co 6 [vi N, vi P, .ref c, .ref l, .ref t, .ref n, .ref h, vi e, .ref b, .ref f]), (c, ca D 5 cap), (l, ca D 6 len), (t, ca D 30 lst), (n, ca D 12 nw), (h, ca D 60 hi), (b, ca D 1701 be), (f, ca D 6 fo)]) := by
  refine Con.of (cc := cX6_vote) (nL := 6) (ret := (some .int)) rfl (by decide +kernel) (Nat.le_of_ble_eq_true rfl) ?_
  intro X A Q O hQ hin
  show G X D A 6 Q 0 0 0 [(0, .ref o), (1, vi a), (2, vi p), (3, vi q)] [] [(o, co 6 [vi N, vi P, .ref c, .ref l, .ref t, .ref n, .ref h, vi e, .ref b, .ref f]), (c, ca D 5 cap), (l, ca D 6 len), (t, ca D 30 lst), (n, ca D 12 nw), (h, ca D 60 hi), (b, ca D 1701 be), (f, ca D 6 fo)]
  have b1 := rm9_bd hW (a := a) (p := p) (by omega) (by omega)
  have b2 := rm9_bd hW (a := a) (p := q) (by omega) (by omega)
  refine g_aload_n O dX6_vote_0 1 0 rfl rfl ?_
  refine g_iload_n O dX6_vote_1 2 1 rfl rfl ?_
  refine g_iload_n O dX6_vote_2 3 2 rfl rfl ?_
  refine g_callV (As := [vi a, vi p]) (rest := []) (na := 2) O (k_X6_rank D o c l t n h b f N P cap len lst nw hi e be fo a p hW (by omega) (by omega)) dX6_vote_3 gX6_vote_X6_rank rfl ⟨rfl, rfl⟩ (by decide +kernel) rfl (by decide) (by decide) rfl (Nat.le_of_ble_eq_true rfl) (q0 := 0) (ci := 6) rfl rfl [0, 1, 2, 3, 4, 5, 6, 7] (by decide) rfl (fun _ => rfl) (fun _ => [(o, co 6 [vi N, vi P, .ref c, .ref l, .ref t, .ref n, .ref h, vi e, .ref b, .ref f]), (c, ca D 5 cap), (l, ca D 6 len), (t, ca D 30 lst), (n, ca D 12 nw), (h, ca D 60 hi), (b, ca D 1701 be), (f, ca D 6 fo)]) (fun _ => rfl) 6 rfl (fun _ _ => ?_)
  show G X D A 6 Q 0 0 6 [(0, .ref o), (1, vi a), (2, vi p), (3, vi q)] [vi (rm9 len lst a p)] [(o, co 6 [vi N, vi P, .ref c, .ref l, .ref t, .ref n, .ref h, vi e, .ref b, .ref f]), (c, ca D 5 cap), (l, ca D 6 len), (t, ca D 30 lst), (n, ca D 12 nw), (h, ca D 60 hi), (b, ca D 1701 be), (f, ca D 6 fo)]
  refine g_istore O dX6_vote_6 8 [(0, .ref o), (1, vi a), (2, vi p), (3, vi q), (4, vi (rm9 len lst a p))] rfl (by decide) rfl ?_
  refine g_aload_n O dX6_vote_8 9 0 rfl rfl ?_
  refine g_iload_n O dX6_vote_9 10 1 rfl rfl ?_
  refine g_iload_n O dX6_vote_10 11 3 rfl rfl ?_
  refine g_callV (As := [vi a, vi q]) (rest := []) (na := 2) O (k_X6_rank D o c l t n h b f N P cap len lst nw hi e be fo a q hW (by omega) (by omega)) dX6_vote_11 gX6_vote_X6_rank rfl ⟨rfl, rfl⟩ (by decide +kernel) rfl (by decide) (by decide) rfl (Nat.le_of_ble_eq_true rfl) (q0 := 0) (ci := 6) rfl rfl [0, 1, 2, 3, 4, 5, 6, 7] (by decide) rfl (fun _ => rfl) (fun _ => [(o, co 6 [vi N, vi P, .ref c, .ref l, .ref t, .ref n, .ref h, vi e, .ref b, .ref f]), (c, ca D 5 cap), (l, ca D 6 len), (t, ca D 30 lst), (n, ca D 12 nw), (h, ca D 60 hi), (b, ca D 1701 be), (f, ca D 6 fo)]) (fun _ => rfl) 14 rfl (fun _ _ => ?_)
  show G X D A 6 Q 0 0 14 [(0, .ref o), (1, vi a), (2, vi p), (3, vi q), (4, vi (rm9 len lst a p))] [vi (rm9 len lst a q)] [(o, co 6 [vi N, vi P, .ref c, .ref l, .ref t, .ref n, .ref h, vi e, .ref b, .ref f]), (c, ca D 5 cap), (l, ca D 6 len), (t, ca D 30 lst), (n, ca D 12 nw), (h, ca D 60 hi), (b, ca D 1701 be), (f, ca D 6 fo)]
  refine g_istore O dX6_vote_14 16 [(0, .ref o), (1, vi a), (2, vi p), (3, vi q), (4, vi (rm9 len lst a p)), (5, vi (rm9 len lst a q))] rfl (by decide) rfl ?_
  refine g_iload O dX6_vote_16 18 4 rfl rfl ?_
  refine g_iload O dX6_vote_18 20 5 rfl rfl ?_
  refine g_icmp_ge O dX6_vote_20 23 27 rfl rfl (by omega) (fun h20 => ?_) (fun h20 => ?_)
  · skip
    refine g_iload O dX6_vote_27 29 4 rfl rfl ?_
    refine g_iload O dX6_vote_29 31 5 rfl rfl ?_
    refine g_icmp_le O dX6_vote_31 34 38 rfl rfl (by omega) (fun h31 => ?_) (fun h31 => ?_)
    · skip
      refine g_iconst O dX6_vote_38 39 rfl ?_
      exact g_iret O hQ dX6_vote_39 () (vi_eq (by unfold vm vt; split <;> (try split) <;> omega)) rfl trivial ⟨by decide, by decide⟩
    · skip
      refine g_iconst O dX6_vote_34 35 rfl ?_
      refine g_goto O dX6_vote_35 39 rfl ?_
      exact g_iret O hQ dX6_vote_39 () (vi_eq (by unfold vm vt; split <;> (try split) <;> omega)) rfl trivial ⟨by decide, by decide⟩
  · skip
    refine g_iconst O dX6_vote_23 24 rfl ?_
    refine g_goto O dX6_vote_24 39 rfl ?_
    exact g_iret O hQ dX6_vote_39 () (vi_eq (by unfold vm vt; split <;> (try split) <;> omega)) rfl trivial ⟨by decide, by decide⟩
set_option maxHeartbeats 4000000 in
set_option maxRecDepth 100000 in
theorem k_X6_digit (D : DD) (x p : Int) (hx : 0 ≤ x ∧ x < 1000) (hp : 0 ≤ p ∧ p < 6) : Con (S := Unit) D yX6_digit wsX6_digit ({ frames := 0, cells := 0, slots := 0, locals := 0 }) 0 0 [vi x, vi p] [] (fun u => some (vi (dg x p))) (fun u => True) (fun u => []) := by
  refine Con.of (cc := cX6_digit) (nL := 4) (ret := (some .int)) rfl (by decide +kernel) (Nat.le_of_ble_eq_true rfl) ?_
  intro X A Q O hQ hin
  show G X D A 4 Q 0 0 0 [(0, vi x), (1, vi p)] [] []
  refine g_iload_n O dX6_digit_0 1 0 rfl rfl ?_
  refine g_istore_n O dX6_digit_1 2 [(0, vi x), (1, vi p), (2, vi x)] rfl (by decide) rfl ?_
  refine g_iconst O dX6_digit_2 3 rfl ?_
  refine g_istore_n O dX6_digit_3 4 [(0, vi x), (1, vi p), (2, vi x), (3, vi 0)] rfl (by decide) rfl ?_
  have lp4 : ∀ (nn : Nat) (i : Int) (y : Int), (0 ≤ i ∧ i ≤ p) → (y = x / pw3 i) → (0 ≤ y ∧ y < 1000) → (p - i < (nn : Int)) → G X D A 4 Q 0 0 4 [(0, vi x), (1, vi p), (2, vi y), (3, vi i)] [] [] := by
    intro nn
    induction nn with
    | zero =>
      intro i y h1 h2 h3 hm4
      exact absurd hm4 (by omega)
    | succ nn ih4 =>
      intro i y h1 h2 h3 hm4
      refine g_iload_n O dX6_digit_4 5 3 rfl rfl ?_
      refine g_iload_n O dX6_digit_5 6 1 rfl rfl ?_
      refine g_icmp_ge O dX6_digit_6 9 19 rfl rfl (by omega) (fun h6 => ?_) (fun h6 => ?_)
      · skip
        refine g_iload_n O dX6_digit_19 20 2 rfl rfl ?_
        refine g_iconst O dX6_digit_20 21 rfl ?_
        refine g_irem O dX6_digit_21 22 rfl (by omega) ?_
        exact g_iret O hQ dX6_digit_22 () (vi_eq (by rw [h2, show i = p by omega]; rfl)) rfl trivial ⟨by decide, by decide⟩
      · skip
        refine g_iload_n O dX6_digit_9 10 2 rfl rfl ?_
        refine g_iconst O dX6_digit_10 11 rfl ?_
        refine g_idiv O dX6_digit_11 12 rfl (by omega) ?_
        refine g_istore_n O dX6_digit_12 13 [(0, vi x), (1, vi p), (2, vi (y / 3)), (3, vi i)] rfl (by decide) rfl ?_
        refine g_iinc O dX6_digit_13 16 3 [(0, vi x), (1, vi p), (2, vi (y / 3)), (3, vi (i + 1))] rfl (by decide) rfl rfl ?_
        refine g_goto O dX6_digit_16 4 rfl ?_
        exact ih4 (i + 1) (y / 3) (by omega) (by rw [h2, pw3_s h1.1, Int.ediv_ediv_of_nonneg (Int.le_of_lt (pw3_pos i))]) (by omega) (by omega)
  exact lp4 1000 0 x (by omega) (by rw [show pw3 0 = 1 from rfl]; omega) (by omega) (by omega)
set_option maxHeartbeats 4000000 in
set_option maxRecDepth 100000 in
theorem k_X6_power (D : DD) (p : Int) (hp : 0 ≤ p ∧ p < 6) : Con (S := Unit) D yX6_power wsX6_power ({ frames := 0, cells := 0, slots := 0, locals := 0 }) 0 0 [vi p] [] (fun u => some (vi (pw3 p))) (fun u => True) (fun u => []) := by
  refine Con.of (cc := cX6_power) (nL := 3) (ret := (some .int)) rfl (by decide +kernel) (Nat.le_of_ble_eq_true rfl) ?_
  intro X A Q O hQ hin
  show G X D A 3 Q 0 0 0 [(0, vi p)] [] []
  refine g_iconst O dX6_power_0 1 rfl ?_
  refine g_istore_n O dX6_power_1 2 [(0, vi p), (1, vi 1)] rfl (by decide) rfl ?_
  refine g_iconst O dX6_power_2 3 rfl ?_
  refine g_istore_n O dX6_power_3 4 [(0, vi p), (1, vi 1), (2, vi 0)] rfl (by decide) rfl ?_
  have lp4 : ∀ (nn : Nat) (i : Int) (y : Int), (0 ≤ i ∧ i ≤ p) → (y = pw3 i) → (p - i < (nn : Int)) → G X D A 3 Q 0 0 4 [(0, vi p), (1, vi y), (2, vi i)] [] [] := by
    intro nn
    induction nn with
    | zero =>
      intro i y h1 h2 hm4
      exact absurd hm4 (by omega)
    | succ nn ih4 =>
      intro i y h1 h2 hm4
      refine g_iload_n O dX6_power_4 5 2 rfl rfl ?_
      refine g_iload_n O dX6_power_5 6 0 rfl rfl ?_
      refine g_icmp_ge O dX6_power_6 9 19 rfl rfl (by omega) (fun h6 => ?_) (fun h6 => ?_)
      · skip
        refine g_iload_n O dX6_power_19 20 1 rfl rfl ?_
        exact g_iret O hQ dX6_power_20 () (vi_eq (by rw [h2, show i = p by omega])) rfl trivial ⟨by decide, by decide⟩
      · skip
        refine g_iload_n O dX6_power_9 10 1 rfl rfl ?_
        refine g_iconst O dX6_power_10 11 rfl ?_
        refine g_imul O dX6_power_11 12 rfl ?_
        refine g_istore_n O dX6_power_12 13 [(0, vi p), (1, vi (y * 3)), (2, vi i)] rfl (by decide) rfl ?_
        refine g_iinc O dX6_power_13 16 2 [(0, vi p), (1, vi (y * 3)), (2, vi (i + 1))] rfl (by decide) rfl rfl ?_
        refine g_goto O dX6_power_16 4 rfl ?_
        exact ih4 (i + 1) (y * 3) (by omega) (by rw [h2, pw3_s h1.1]) (by omega)
  exact lp4 1000 0 1 (by omega) rfl (by omega)
theorem sX6_save_6 : ∀ w ∈ wsX60, w ∈ wsX6_save := by decide +kernel
theorem fX6_save_26 : FK RX6 wsX6_save 26 6 5 := ⟨RX6, TX6, 10, rfl, sX6_save_6, by decide, List.mem_of_getElem? (i := 1) rfl⟩
set_option maxHeartbeats 4000000 in
set_option maxRecDepth 100000 in
theorem k_X6_save (D : DD) (o c l t n h b f : Nat) (N P : Int) (cap len lst nw hi : Int → Int) (e : Int) (be fo : Int → Int) (hW : WI N P cap len lst) (hnw : NW nw) : Con (S := Unit) D yX6_save wsX6_save ({ frames := 1, cells := 0, slots := 0, locals := 22 }) 0 0 [.ref o] [(o, co 6 [vi N, vi P, .ref c, .ref l, .ref t, .ref n, .ref h, vi e, .ref b, .ref f]), (c, ca D 5 cap), (l, ca D 6 len), (t, ca D 30 lst), (n, ca D 12 nw), (h, ca D 60 hi), (b, ca D 1701 be), (f, ca D 6 fo)] (fun u => some (vi (sm (pls nw) N))) (fun u => True) (fun u => [(o, co 6 [vi N, vi P, .ref c, .ref l, .ref t, .ref n, .ref h, vi e, .ref b, .ref f]), (c, ca D 5 cap), (l, ca D 6 len), (t, ca D 30 lst), (n, ca D 12 (svd nw)), (h, ca D 60 hi), (b, ca D 1701 be), (f, ca D 6 fo)]) := by
  refine Con.of (cc := cX6_save) (nL := 2) (ret := (some .int)) rfl (by decide +kernel) (Nat.le_of_ble_eq_true rfl) ?_
  intro X A Q O hQ hin
  show G X D A 2 Q 0 0 0 [(0, .ref o)] [] [(o, co 6 [vi N, vi P, .ref c, .ref l, .ref t, .ref n, .ref h, vi e, .ref b, .ref f]), (c, ca D 5 cap), (l, ca D 6 len), (t, ca D 30 lst), (n, ca D 12 nw), (h, ca D 60 hi), (b, ca D 1701 be), (f, ca D 6 fo)]
  obtain ⟨hN, hcap, hlen, hlst, hdis⟩ := id hW
  refine g_iconst O dX6_save_0 1 rfl ?_
  refine g_istore_n O dX6_save_1 2 [(0, .ref o), (1, vi 0)] rfl (by decide) rfl ?_
  have lp2 : ∀ (nn : Nat) (i : Int) (g : Int → Int), (0 ≤ i ∧ i ≤ 6) → (∀ kk, 0 ≤ kk → kk < i → g (6 + kk) = nw kk) → (∀ kk, (kk < 6 ∨ 6 + i ≤ kk) → g kk = nw kk) → (6 - i < (nn : Int)) → G X D A 2 Q 0 0 2 [(0, .ref o), (1, vi i)] [] [(o, co 6 [vi N, vi P, .ref c, .ref l, .ref t, .ref n, .ref h, vi e, .ref b, .ref f]), (c, ca D 5 cap), (l, ca D 6 len), (t, ca D 30 lst), (n, ca D 12 g), (h, ca D 60 hi), (b, ca D 1701 be), (f, ca D 6 fo)] := by
    intro nn
    induction nn with
    | zero =>
      intro i g h1 h2 h3 hm2
      exact absurd hm2 (by omega)
    | succ nn ih2 =>
      intro i g h1 h2 h3 hm2
      refine g_iload_n O dX6_save_2 3 1 rfl rfl ?_
      refine g_bipush O dX6_save_3 5 rfl (by decide) ?_
      refine g_icmp_ge O dX6_save_5 8 29 rfl rfl (by omega) (fun h5 => ?_) (fun h5 => ?_)
      · skip
        refine g_arr 4 (svd nw) rfl (fun kk q1 q2 => by unfold svd; split; exact h3 kk (by omega); have h4 := h2 (kk - 6) (by omega) (by omega); rw [show 6 + (kk - 6) = kk by omega] at h4; exact h4) [(o, co 6 [vi N, vi P, .ref c, .ref l, .ref t, .ref n, .ref h, vi e, .ref b, .ref f]), (c, ca D 5 cap), (l, ca D 6 len), (t, ca D 30 lst), (n, ca D 12 (svd nw)), (h, ca D 60 hi), (b, ca D 1701 be), (f, ca D 6 fo)] rfl ?_
        refine g_aload_n O dX6_save_29 30 0 rfl rfl ?_
        refine g_callV (As := []) (rest := []) (na := 0) O (k_X6_size D o c l t n h b f N P cap len lst (svd nw) hi e be fo hW (NW_svd hnw)) dX6_save_30 gX6_save_X6_size rfl ⟨rfl, rfl⟩ (by decide +kernel) rfl (by decide) (by decide) rfl (Nat.le_of_ble_eq_true rfl) (q0 := 0) (ci := 6) rfl rfl [0, 1, 2, 3, 4, 5, 6, 7] (by decide) rfl (fun _ => rfl) (fun _ => [(o, co 6 [vi N, vi P, .ref c, .ref l, .ref t, .ref n, .ref h, vi e, .ref b, .ref f]), (c, ca D 5 cap), (l, ca D 6 len), (t, ca D 30 lst), (n, ca D 12 (svd nw)), (h, ca D 60 hi), (b, ca D 1701 be), (f, ca D 6 fo)]) (fun _ => rfl) 33 rfl (fun _ _ => ?_)
        show G X D A 2 Q 0 0 33 [(0, .ref o), (1, vi i)] [vi (sm (pls (svd nw)) N)] [(o, co 6 [vi N, vi P, .ref c, .ref l, .ref t, .ref n, .ref h, vi e, .ref b, .ref f]), (c, ca D 5 cap), (l, ca D 6 len), (t, ca D 30 lst), (n, ca D 12 (svd nw)), (h, ca D 60 hi), (b, ca D 1701 be), (f, ca D 6 fo)]
        exact g_iret O hQ dX6_save_33 () (vi_eq (by refine sm_congr (fun kk q1 q2 => ?_); unfold pls svd; rw [show (if kk < 6 then nw kk else nw (kk - 6)) = nw kk from if_pos (by omega)])) rfl trivial ⟨by decide, by decide⟩
      · skip
        refine g_aload_n O dX6_save_8 9 0 rfl rfl ?_
        refine g_get O dX6_save_9 12 rfl fX6_save_26 0 rfl rfl ?_
        refine g_bipush O dX6_save_12 14 rfl (by decide) ?_
        refine g_iload_n O dX6_save_14 15 1 rfl rfl ?_
        refine g_iadd O dX6_save_15 16 rfl ?_
        refine g_aload_n O dX6_save_16 17 0 rfl rfl ?_
        refine g_get O dX6_save_17 20 rfl fX6_save_26 0 rfl rfl ?_
        refine g_iload_n O dX6_save_20 21 1 rfl rfl ?_
        refine g_iald O dX6_save_21 22 rfl 4 rfl (by decide) (by omega) ?_
        refine g_iast O dX6_save_22 23 rfl 4 rfl (by decide) (by omega) [(o, co 6 [vi N, vi P, .ref c, .ref l, .ref t, .ref n, .ref h, vi e, .ref b, .ref f]), (c, ca D 5 cap), (l, ca D 6 len), (t, ca D 30 lst), (n, ca D 12 (up g (6 + i) (g i))), (h, ca D 60 hi), (b, ca D 1701 be), (f, ca D 6 fo)] rfl ?_
        refine g_iinc O dX6_save_23 26 1 [(0, .ref o), (1, vi (i + 1))] rfl (by decide) rfl rfl ?_
        refine g_goto O dX6_save_26 2 rfl ?_
        exact ih2 (i + 1) (up g (6 + i) (g i)) (by omega) (fun kk q1 q2 => by unfold up; split; rename_i q; rw [h3 i (by omega)]; congr 1; omega; exact h2 kk q1 (by omega)) (fun kk q => by unfold up; rw [if_neg (by omega)]; exact h3 kk (by omega)) (by omega)
  exact lp2 1000 0 nw (by omega) (fun kk q1 q2 => absurd q2 (by omega)) (fun kk _ => rfl) (by omega)
theorem sX6_swapSaved_6 : ∀ w ∈ wsX60, w ∈ wsX6_swapSaved := by decide +kernel
theorem fX6_swapSaved_26 : FK RX6 wsX6_swapSaved 26 6 5 := ⟨RX6, TX6, 10, rfl, sX6_swapSaved_6, by decide, List.mem_of_getElem? (i := 1) rfl⟩
set_option maxHeartbeats 4000000 in
set_option maxRecDepth 100000 in
theorem k_X6_swapSaved (D : DD) (o c l t n h b f : Nat) (N P : Int) (cap len lst nw hi : Int → Int) (e : Int) (be fo : Int → Int) (hW : WI N P cap len lst) (hnw : NW nw) (he : 0 ≤ e ∧ e ≤ 5) : Con (S := Unit) D yX6_swapSaved wsX6_swapSaved ({ frames := 1, cells := 0, slots := 0, locals := 22 }) 0 0 [.ref o] [(o, co 6 [vi N, vi P, .ref c, .ref l, .ref t, .ref n, .ref h, vi e, .ref b, .ref f]), (c, ca D 5 cap), (l, ca D 6 len), (t, ca D 30 lst), (n, ca D 12 nw), (h, ca D 60 hi), (b, ca D 1701 be), (f, ca D 6 fo)] (fun u => some (vi (sm (pls (swp nw)) N))) (fun u => True) (fun u => [(o, co 6 [vi N, vi P, .ref c, .ref l, .ref t, .ref n, .ref h, vi (hpc e), .ref b, .ref f]), (c, ca D 5 cap), (l, ca D 6 len), (t, ca D 30 lst), (n, ca D 12 (swp nw)), (h, ca D 60 (edh e nw hi)), (b, ca D 1701 be), (f, ca D 6 fo)]) := by
  refine Con.of (cc := cX6_swapSaved) (nL := 3) (ret := (some .int)) rfl (by decide +kernel) (Nat.le_of_ble_eq_true rfl) ?_
  intro X A Q O hQ hin
  show G X D A 3 Q 0 0 0 [(0, .ref o)] [] [(o, co 6 [vi N, vi P, .ref c, .ref l, .ref t, .ref n, .ref h, vi e, .ref b, .ref f]), (c, ca D 5 cap), (l, ca D 6 len), (t, ca D 30 lst), (n, ca D 12 nw), (h, ca D 60 hi), (b, ca D 1701 be), (f, ca D 6 fo)]
  obtain ⟨hN, hcap, hlen, hlst, hdis⟩ := id hW
  refine g_aload_n O dX6_swapSaved_0 1 0 rfl rfl ?_
  refine g_callV (As := []) (rest := []) (na := 0) O (k_X6_edit D o c l t n h b f N P cap len lst nw hi e be fo (by omega)) dX6_swapSaved_1 gX6_swapSaved_X6_edit rfl ⟨rfl, rfl⟩ (by decide +kernel) rfl (by decide) (by decide) rfl (Nat.le_of_ble_eq_true rfl) (q0 := 0) (ci := 6) rfl rfl [0, 1, 2, 3, 4, 5, 6, 7] (by decide) rfl (fun _ => rfl) (fun _ => [(o, co 6 [vi N, vi P, .ref c, .ref l, .ref t, .ref n, .ref h, vi (hpc e), .ref b, .ref f]), (c, ca D 5 cap), (l, ca D 6 len), (t, ca D 30 lst), (n, ca D 12 nw), (h, ca D 60 (edh e nw hi)), (b, ca D 1701 be), (f, ca D 6 fo)]) (fun _ => rfl) 4 rfl (fun _ _ => ?_)
  show G X D A 3 Q 0 0 4 [(0, .ref o)] [] [(o, co 6 [vi N, vi P, .ref c, .ref l, .ref t, .ref n, .ref h, vi (hpc e), .ref b, .ref f]), (c, ca D 5 cap), (l, ca D 6 len), (t, ca D 30 lst), (n, ca D 12 nw), (h, ca D 60 (edh e nw hi)), (b, ca D 1701 be), (f, ca D 6 fo)]
  refine g_iconst O dX6_swapSaved_4 5 rfl ?_
  refine g_istore_n O dX6_swapSaved_5 6 [(0, .ref o), (1, vi 0)] rfl (by decide) rfl ?_
  have lp6 : ∀ (nn : Nat) (i : Int) (g : Int → Int), (0 ≤ i ∧ i ≤ 6) → (∀ kk, 0 ≤ kk → kk < i → g kk = nw (kk + 6) ∧ g (6 + kk) = nw kk) → (∀ kk, ((i ≤ kk ∧ kk < 6) ∨ 6 + i ≤ kk) → g kk = nw kk) → (6 - i < (nn : Int)) → G X D A 3 Q 0 0 6 [(0, .ref o), (1, vi i)] [] [(o, co 6 [vi N, vi P, .ref c, .ref l, .ref t, .ref n, .ref h, vi (hpc e), .ref b, .ref f]), (c, ca D 5 cap), (l, ca D 6 len), (t, ca D 30 lst), (n, ca D 12 g), (h, ca D 60 (edh e nw hi)), (b, ca D 1701 be), (f, ca D 6 fo)] := by
    intro nn
    induction nn with
    | zero =>
      intro i g h1 h2 h3 hm6
      exact absurd hm6 (by omega)
    | succ nn ih6 =>
      intro i g h1 h2 h3 hm6
      refine g_iload_n O dX6_swapSaved_6 7 1 rfl rfl ?_
      refine g_bipush O dX6_swapSaved_7 9 rfl (by decide) ?_
      refine g_icmp_ge O dX6_swapSaved_9 12 50 rfl rfl (by omega) (fun h9 => ?_) (fun h9 => ?_)
      · skip
        refine g_arr 4 (swp nw) rfl (fun kk q1 q2 => by unfold swp; split; exact (h2 kk q1 (by omega)).1; have h4 := (h2 (kk - 6) (by omega) (by omega)).2; rw [show 6 + (kk - 6) = kk by omega] at h4; exact h4) [(o, co 6 [vi N, vi P, .ref c, .ref l, .ref t, .ref n, .ref h, vi (hpc e), .ref b, .ref f]), (c, ca D 5 cap), (l, ca D 6 len), (t, ca D 30 lst), (n, ca D 12 (swp nw)), (h, ca D 60 (edh e nw hi)), (b, ca D 1701 be), (f, ca D 6 fo)] rfl ?_
        refine g_aload_n O dX6_swapSaved_50 51 0 rfl rfl ?_
        refine g_callV (As := []) (rest := []) (na := 0) O (k_X6_size D o c l t n h b f N P cap len lst (swp nw) (edh e nw hi) (hpc e) be fo hW (NW_swp hnw)) dX6_swapSaved_51 gX6_swapSaved_X6_size rfl ⟨rfl, rfl⟩ (by decide +kernel) rfl (by decide) (by decide) rfl (Nat.le_of_ble_eq_true rfl) (q0 := 0) (ci := 6) rfl rfl [0, 1, 2, 3, 4, 5, 6, 7] (by decide) rfl (fun _ => rfl) (fun _ => [(o, co 6 [vi N, vi P, .ref c, .ref l, .ref t, .ref n, .ref h, vi (hpc e), .ref b, .ref f]), (c, ca D 5 cap), (l, ca D 6 len), (t, ca D 30 lst), (n, ca D 12 (swp nw)), (h, ca D 60 (edh e nw hi)), (b, ca D 1701 be), (f, ca D 6 fo)]) (fun _ => rfl) 54 rfl (fun _ _ => ?_)
        show G X D A 3 Q 0 0 54 [(0, .ref o), (1, vi i)] [vi (sm (pls (swp nw)) N)] [(o, co 6 [vi N, vi P, .ref c, .ref l, .ref t, .ref n, .ref h, vi (hpc e), .ref b, .ref f]), (c, ca D 5 cap), (l, ca D 6 len), (t, ca D 30 lst), (n, ca D 12 (swp nw)), (h, ca D 60 (edh e nw hi)), (b, ca D 1701 be), (f, ca D 6 fo)]
        exact g_iret O hQ dX6_swapSaved_54 () rfl rfl trivial ⟨by decide, by decide⟩
      · skip
        refine g_aload_n O dX6_swapSaved_12 13 0 rfl rfl ?_
        refine g_get O dX6_swapSaved_13 16 rfl fX6_swapSaved_26 0 rfl rfl ?_
        refine g_iload_n O dX6_swapSaved_16 17 1 rfl rfl ?_
        refine g_iald O dX6_swapSaved_17 18 rfl 4 rfl (by decide) (by omega) ?_
        refine g_istore_n O dX6_swapSaved_18 19 [(0, .ref o), (1, vi i), (2, vi (g i))] rfl (by decide) rfl ?_
        refine g_aload_n O dX6_swapSaved_19 20 0 rfl rfl ?_
        refine g_get O dX6_swapSaved_20 23 rfl fX6_swapSaved_26 0 rfl rfl ?_
        refine g_iload_n O dX6_swapSaved_23 24 1 rfl rfl ?_
        refine g_aload_n O dX6_swapSaved_24 25 0 rfl rfl ?_
        refine g_get O dX6_swapSaved_25 28 rfl fX6_swapSaved_26 0 rfl rfl ?_
        refine g_bipush O dX6_swapSaved_28 30 rfl (by decide) ?_
        refine g_iload_n O dX6_swapSaved_30 31 1 rfl rfl ?_
        refine g_iadd O dX6_swapSaved_31 32 rfl ?_
        refine g_iald O dX6_swapSaved_32 33 rfl 4 rfl (by decide) (by omega) ?_
        refine g_iast O dX6_swapSaved_33 34 rfl 4 rfl (by decide) (by omega) [(o, co 6 [vi N, vi P, .ref c, .ref l, .ref t, .ref n, .ref h, vi (hpc e), .ref b, .ref f]), (c, ca D 5 cap), (l, ca D 6 len), (t, ca D 30 lst), (n, ca D 12 (up g i (g (6 + i)))), (h, ca D 60 (edh e nw hi)), (b, ca D 1701 be), (f, ca D 6 fo)] rfl ?_
        refine g_aload_n O dX6_swapSaved_34 35 0 rfl rfl ?_
        refine g_get O dX6_swapSaved_35 38 rfl fX6_swapSaved_26 0 rfl rfl ?_
        refine g_bipush O dX6_swapSaved_38 40 rfl (by decide) ?_
        refine g_iload_n O dX6_swapSaved_40 41 1 rfl rfl ?_
        refine g_iadd O dX6_swapSaved_41 42 rfl ?_
        refine g_iload_n O dX6_swapSaved_42 43 2 rfl rfl ?_
        refine g_iast O dX6_swapSaved_43 44 rfl 4 rfl (by decide) (by omega) [(o, co 6 [vi N, vi P, .ref c, .ref l, .ref t, .ref n, .ref h, vi (hpc e), .ref b, .ref f]), (c, ca D 5 cap), (l, ca D 6 len), (t, ca D 30 lst), (n, ca D 12 (up (up g i (g (6 + i))) (6 + i) (g i))), (h, ca D 60 (edh e nw hi)), (b, ca D 1701 be), (f, ca D 6 fo)] rfl ?_
        refine g_iinc O dX6_swapSaved_44 47 1 [(0, .ref o), (1, vi (i + 1)), (2, vi (g i))] rfl (by decide) rfl rfl ?_
        refine g_goto O dX6_swapSaved_47 6 rfl ?_
        refine g_loc (L' := [(0, .ref o), (1, vi (i + 1))]) [0, 1] rfl ?_
        exact ih6 (i + 1) (up (up g i (g (6 + i))) (6 + i) (g i)) (by omega) (swx (by omega) h2 h3) (fun kk q => by unfold up; rw [if_neg (by omega), if_neg (by omega)]; exact h3 kk (by omega)) (by omega)
  exact lp6 1000 0 nw (by omega) (fun kk q1 q2 => absurd q2 (by omega)) (fun kk _ => rfl) (by omega)
theorem sX6_marginOverSaved_6 : ∀ w ∈ wsX60, w ∈ wsX6_marginOverSaved := by decide +kernel
theorem fX6_marginOverSaved_26 : FK RX6 wsX6_marginOverSaved 26 6 5 := ⟨RX6, TX6, 10, rfl, sX6_marginOverSaved_6, by decide, List.mem_of_getElem? (i := 2) rfl⟩
theorem fX6_marginOverSaved_7 : FK RX6 wsX6_marginOverSaved 7 6 0 := ⟨RX6, TX6, 10, rfl, sX6_marginOverSaved_6, by decide, List.mem_of_getElem? (i := 1) rfl⟩
set_option maxHeartbeats 4000000 in
set_option maxRecDepth 100000 in
theorem k_X6_marginOverSaved (D : DD) (o c l t n h b f : Nat) (N P : Int) (cap len lst nw hi : Int → Int) (e : Int) (be fo : Int → Int) (hW : WI N P cap len lst) (hnw : NW nw) : Con (S := Unit) D yX6_marginOverSaved wsX6_marginOverSaved ({ frames := 2, cells := 0, slots := 0, locals := 48 }) 0 0 [.ref o] [(o, co 6 [vi N, vi P, .ref c, .ref l, .ref t, .ref n, .ref h, vi e, .ref b, .ref f]), (c, ca D 5 cap), (l, ca D 6 len), (t, ca D 30 lst), (n, ca D 12 nw), (h, ca D 60 hi), (b, ca D 1701 be), (f, ca D 6 fo)] (fun u => some (vi (sm (mos len lst nw) N))) (fun u => True) (fun u => [(o, co 6 [vi N, vi P, .ref c, .ref l, .ref t, .ref n, .ref h, vi e, .ref b, .ref f]), (c, ca D 5 cap), (l, ca D 6 len), (t, ca D 30 lst), (n, ca D 12 nw), (h, ca D 60 hi), (b, ca D 1701 be), (f, ca D 6 fo)]) := by
  refine Con.of (cc := cX6_marginOverSaved) (nL := 3) (ret := (some .int)) rfl (by decide +kernel) (Nat.le_of_ble_eq_true rfl) ?_
  intro X A Q O hQ hin
  show G X D A 3 Q 0 0 0 [(0, .ref o)] [] [(o, co 6 [vi N, vi P, .ref c, .ref l, .ref t, .ref n, .ref h, vi e, .ref b, .ref f]), (c, ca D 5 cap), (l, ca D 6 len), (t, ca D 30 lst), (n, ca D 12 nw), (h, ca D 60 hi), (b, ca D 1701 be), (f, ca D 6 fo)]
  obtain ⟨hN, hcap, hlen, hlst, hdis⟩ := id hW
  refine g_iconst O dX6_marginOverSaved_0 1 rfl ?_
  refine g_istore_n O dX6_marginOverSaved_1 2 [(0, .ref o), (1, vi 0)] rfl (by decide) rfl ?_
  refine g_iconst O dX6_marginOverSaved_2 3 rfl ?_
  refine g_istore_n O dX6_marginOverSaved_3 4 [(0, .ref o), (1, vi 0), (2, vi 0)] rfl (by decide) rfl ?_
  have lp4 : ∀ (nn : Nat) (i : Int) (s : Int), (0 ≤ i ∧ i ≤ N) → (s = sm (mos len lst nw) i) → (N - i < (nn : Int)) → G X D A 3 Q 0 0 4 [(0, .ref o), (1, vi s), (2, vi i)] [] [(o, co 6 [vi N, vi P, .ref c, .ref l, .ref t, .ref n, .ref h, vi e, .ref b, .ref f]), (c, ca D 5 cap), (l, ca D 6 len), (t, ca D 30 lst), (n, ca D 12 nw), (h, ca D 60 hi), (b, ca D 1701 be), (f, ca D 6 fo)] := by
    intro nn
    induction nn with
    | zero =>
      intro i s h1 h2 hm4
      exact absurd hm4 (by omega)
    | succ nn ih4 =>
      intro i s h1 h2 hm4
      refine g_iload_n O dX6_marginOverSaved_4 5 2 rfl rfl ?_
      refine g_aload_n O dX6_marginOverSaved_5 6 0 rfl rfl ?_
      refine g_get O dX6_marginOverSaved_6 9 rfl fX6_marginOverSaved_7 0 rfl rfl ?_
      refine g_icmp_ge O dX6_marginOverSaved_9 12 41 rfl rfl (by omega) (fun h9 => ?_) (fun h9 => ?_)
      · skip
        refine g_iload_n O dX6_marginOverSaved_41 42 1 rfl rfl ?_
        exact g_iret O hQ dX6_marginOverSaved_42 () (vi_eq (by rw [h2, show i = N by omega])) rfl trivial ⟨by decide, by decide⟩
      · skip
        refine g_iload_n O dX6_marginOverSaved_12 13 1 rfl rfl ?_
        refine g_aload_n O dX6_marginOverSaved_13 14 0 rfl rfl ?_
        refine g_iload_n O dX6_marginOverSaved_14 15 2 rfl rfl ?_
        refine g_aload_n O dX6_marginOverSaved_15 16 0 rfl rfl ?_
        refine g_get O dX6_marginOverSaved_16 19 rfl fX6_marginOverSaved_26 0 rfl rfl ?_
        refine g_iload_n O dX6_marginOverSaved_19 20 2 rfl rfl ?_
        refine g_iald O dX6_marginOverSaved_20 21 rfl 4 rfl (by decide) (by omega) ?_
        refine g_aload_n O dX6_marginOverSaved_21 22 0 rfl rfl ?_
        refine g_get O dX6_marginOverSaved_22 25 rfl fX6_marginOverSaved_26 0 rfl rfl ?_
        refine g_bipush O dX6_marginOverSaved_25 27 rfl (by decide) ?_
        refine g_iload_n O dX6_marginOverSaved_27 28 2 rfl rfl ?_
        refine g_iadd O dX6_marginOverSaved_28 29 rfl ?_
        refine g_iald O dX6_marginOverSaved_29 30 rfl 4 rfl (by decide) (by omega) ?_
        have hn1 := hnw i (by omega) (by omega)
        have hn2 := hnw (6 + i) (by omega) (by omega)
        refine g_callV (As := [vi i, vi (nw i), vi (nw (6 + i))]) (rest := [vi s]) (na := 3) O (k_X6_vote D o c l t n h b f N P cap len lst nw hi e be fo i (nw i) (nw (6 + i)) hW (by omega) (by omega) (by omega)) dX6_marginOverSaved_30 gX6_marginOverSaved_X6_vote rfl ⟨rfl, rfl⟩ (by decide +kernel) rfl (by decide) (by decide) rfl (Nat.le_of_ble_eq_true rfl) (q0 := 0) (ci := 6) rfl rfl [0, 1, 2, 3, 4, 5, 6, 7] (by decide) rfl (fun _ => rfl) (fun _ => [(o, co 6 [vi N, vi P, .ref c, .ref l, .ref t, .ref n, .ref h, vi e, .ref b, .ref f]), (c, ca D 5 cap), (l, ca D 6 len), (t, ca D 30 lst), (n, ca D 12 nw), (h, ca D 60 hi), (b, ca D 1701 be), (f, ca D 6 fo)]) (fun _ => rfl) 33 rfl (fun _ _ => ?_)
        show G X D A 3 Q 0 0 33 [(0, .ref o), (1, vi s), (2, vi i)] [vi (vm len lst i (nw i) (nw (6 + i))), vi s] [(o, co 6 [vi N, vi P, .ref c, .ref l, .ref t, .ref n, .ref h, vi e, .ref b, .ref f]), (c, ca D 5 cap), (l, ca D 6 len), (t, ca D 30 lst), (n, ca D 12 nw), (h, ca D 60 hi), (b, ca D 1701 be), (f, ca D 6 fo)]
        refine g_iadd O dX6_marginOverSaved_33 34 rfl ?_
        refine g_istore_n O dX6_marginOverSaved_34 35 [(0, .ref o), (1, vi (s + (vm len lst i (nw i) (nw (6 + i))))), (2, vi i)] rfl (by decide) rfl ?_
        refine g_iinc O dX6_marginOverSaved_35 38 2 [(0, .ref o), (1, vi (s + (vm len lst i (nw i) (nw (6 + i))))), (2, vi (i + 1))] rfl (by decide) rfl rfl ?_
        refine g_goto O dX6_marginOverSaved_38 4 rfl ?_
        exact ih4 (i + 1) (s + (vm len lst i (nw i) (nw (6 + i)))) (by omega) (by rw [sm_s _ h1.1, ← h2]; rfl) (by omega)
  exact lp4 1000 0 0 (by omega) (sm_0 _).symm (by omega)
theorem sX6_reset_6 : ∀ w ∈ wsX60, w ∈ wsX6_reset := by decide +kernel
theorem fX6_reset_7 : FK RX6 wsX6_reset 7 6 0 := ⟨RX6, TX6, 10, rfl, sX6_reset_6, by decide, List.mem_of_getElem? (i := 1) rfl⟩
set_option maxHeartbeats 4000000 in
set_option maxRecDepth 100000 in
theorem k_X6_reset (D : DD) (o c l t n h b f : Nat) (N P : Int) (cap len lst nw hi : Int → Int) (e : Int) (be fo : Int → Int) (m p : Int) (hW : WI N P cap len lst) (hm : -2147483648 ≤ m ∧ m < 2147483648) (hp : -2147483648 ≤ p ∧ p < 2147483648) : Con (S := Int × Int × Int × (Int → Int) × (Int → Int) × (Int → Int) × Int) D yX6_reset wsX6_reset ({ frames := 2, cells := 0, slots := 0, locals := 44 }) 0 0 [.ref o, vi m, vi p] [(o, co 6 [vi N, vi P, .ref c, .ref l, .ref t, .ref n, .ref h, vi e, .ref b, .ref f]), (c, ca D 5 cap), (l, ca D 6 len), (t, ca D 30 lst), (n, ca D 12 nw), (h, ca D 60 hi), (b, ca D 1701 be), (f, ca D 6 fo)] (fun u => some (vi u.1)) (fun u => ((1 ≤ m ∧ m ≤ 6 ∧ 1 ≤ p ∧ p ≤ 5) ∧ u.1 = N ∧ u.2.1 = m ∧ u.2.2.1 = p ∧ u.2.2.2.1 = (fun _ => 1) ∧ u.2.2.2.2.1 = (fun _ => 0) ∧ u.2.2.2.2.2.1 = (fun _ => -1) ∧ u.2.2.2.2.2.2 = 0) ∨ (¬ (1 ≤ m ∧ m ≤ 6 ∧ 1 ≤ p ∧ p ≤ 5) ∧ u.1 = -101 ∧ u.2.1 = N ∧ u.2.2.1 = P ∧ u.2.2.2.1 = cap ∧ u.2.2.2.2.1 = len ∧ u.2.2.2.2.2.1 = nw ∧ u.2.2.2.2.2.2 = e)) (fun u => [(o, co 6 [vi u.2.1, vi u.2.2.1, .ref c, .ref l, .ref t, .ref n, .ref h, vi u.2.2.2.2.2.2, .ref b, .ref f]), (c, ca D 5 u.2.2.2.1), (l, ca D 6 u.2.2.2.2.1), (t, ca D 30 lst), (n, ca D 12 u.2.2.2.2.2.1), (h, ca D 60 hi), (b, ca D 1701 be), (f, ca D 6 fo)]) := by
  refine Con.of (cc := cX6_reset) (nL := 4) (ret := (some .int)) rfl (by decide +kernel) (Nat.le_of_ble_eq_true rfl) ?_
  intro X A Q O hQ hin
  show G X D A 4 Q 0 0 0 [(0, .ref o), (1, vi m), (2, vi p)] [] [(o, co 6 [vi N, vi P, .ref c, .ref l, .ref t, .ref n, .ref h, vi e, .ref b, .ref f]), (c, ca D 5 cap), (l, ca D 6 len), (t, ca D 30 lst), (n, ca D 12 nw), (h, ca D 60 hi), (b, ca D 1701 be), (f, ca D 6 fo)]
  obtain ⟨hN, hcap, hlen, hlst, hdis⟩ := id hW
  refine g_iload_n O dX6_reset_0 1 1 rfl rfl ?_
  refine g_iconst O dX6_reset_1 2 rfl ?_
  refine g_bipush O dX6_reset_2 4 rfl (by decide) ?_
  refine g_callS (As := [vi m, vi 1, vi 6]) (rest := []) (na := 3) O (k_X6_in D m 1 6 (by omega) (by omega) (by omega)) dX6_reset_4 gX6_reset_X6_in rfl ⟨rfl, rfl⟩ (by decide +kernel) rfl (by decide) (by decide) rfl (Nat.le_of_ble_eq_true rfl) [] (by decide) rfl (fun _ => rfl) (fun u => [(o, co 6 [vi N, vi P, .ref c, .ref l, .ref t, .ref n, .ref h, vi e, .ref b, .ref f]), (c, ca D 5 cap), (l, ca D 6 len), (t, ca D 30 lst), (n, ca D 12 nw), (h, ca D 60 hi), (b, ca D 1701 be), (f, ca D 6 fo)]) (fun _ => rfl) 7 rfl (fun u4 hu4 => ?_)
  obtain ⟨bz4, rfl⟩ : ∃ z, z = u4 := ⟨_, rfl⟩
  rcases hu4 with ⟨rfl, hb4⟩ | ⟨rfl, hb4⟩
  · skip
    have hb4 : 1 ≤ m ∧ m ≤ 6 := hb4
    show G X D A 4 Q 0 0 7 [(0, .ref o), (1, vi m), (2, vi p)] [vi 1] [(o, co 6 [vi N, vi P, .ref c, .ref l, .ref t, .ref n, .ref h, vi e, .ref b, .ref f]), (c, ca D 5 cap), (l, ca D 6 len), (t, ca D 30 lst), (n, ca D 12 nw), (h, ca D 60 hi), (b, ca D 1701 be), (f, ca D 6 fo)]
    refine g_if_eq O dX6_reset_7 10 19 rfl rfl (by omega) (fun h => absurd h (by decide)) (fun _ => ?_)
    refine g_iload_n O dX6_reset_10 11 2 rfl rfl ?_
    refine g_iconst O dX6_reset_11 12 rfl ?_
    refine g_iconst O dX6_reset_12 13 rfl ?_
    refine g_callS (As := [vi p, vi 1, vi 5]) (rest := []) (na := 3) O (k_X6_in D p 1 5 (by omega) (by omega) (by omega)) dX6_reset_13 gX6_reset_X6_in rfl ⟨rfl, rfl⟩ (by decide +kernel) rfl (by decide) (by decide) rfl (Nat.le_of_ble_eq_true rfl) [] (by decide) rfl (fun _ => rfl) (fun u => [(o, co 6 [vi N, vi P, .ref c, .ref l, .ref t, .ref n, .ref h, vi e, .ref b, .ref f]), (c, ca D 5 cap), (l, ca D 6 len), (t, ca D 30 lst), (n, ca D 12 nw), (h, ca D 60 hi), (b, ca D 1701 be), (f, ca D 6 fo)]) (fun _ => rfl) 16 rfl (fun u13 hu13 => ?_)
    obtain ⟨bz13, rfl⟩ : ∃ z, z = u13 := ⟨_, rfl⟩
    rcases hu13 with ⟨rfl, hb13⟩ | ⟨rfl, hb13⟩
    · skip
      have hb13 : 1 ≤ p ∧ p ≤ 5 := hb13
      show G X D A 4 Q 0 0 16 [(0, .ref o), (1, vi m), (2, vi p)] [vi 1] [(o, co 6 [vi N, vi P, .ref c, .ref l, .ref t, .ref n, .ref h, vi e, .ref b, .ref f]), (c, ca D 5 cap), (l, ca D 6 len), (t, ca D 30 lst), (n, ca D 12 nw), (h, ca D 60 hi), (b, ca D 1701 be), (f, ca D 6 fo)]
      refine g_if_ne O dX6_reset_16 19 22 rfl rfl (by omega) (fun _ => ?_) (fun h => absurd h (by decide))
      refine g_aload_n O dX6_reset_22 23 0 rfl rfl ?_
      refine g_get O dX6_reset_23 26 rfl fX6_reset_7 0 rfl rfl ?_
      refine g_istore_n O dX6_reset_26 27 [(0, .ref o), (1, vi m), (2, vi p), (3, vi N)] rfl (by decide) rfl ?_
      refine g_aload_n O dX6_reset_27 28 0 rfl rfl ?_
      refine g_iload_n O dX6_reset_28 29 1 rfl rfl ?_
      refine g_iload_n O dX6_reset_29 30 2 rfl rfl ?_
      refine g_callV (As := [vi m, vi p]) (rest := []) (na := 2) O (k_X6_builds D o c l t n h b f N P cap len lst nw hi e be fo m p) dX6_reset_30 gX6_reset_X6_builds rfl ⟨rfl, rfl⟩ (by decide +kernel) rfl (by decide) (by decide) rfl (Nat.le_of_ble_eq_true rfl) (q0 := 0) (ci := 6) rfl rfl [0, 1, 2, 3, 4, 5, 6, 7] (by decide) rfl (fun _ => rfl) (fun _ => [(o, co 6 [vi m, vi p, .ref c, .ref l, .ref t, .ref n, .ref h, vi 0, .ref b, .ref f]), (c, ca D 5 (fun _ => 1)), (l, ca D 6 (fun _ => 0)), (t, ca D 30 lst), (n, ca D 12 (fun _ => -1)), (h, ca D 60 hi), (b, ca D 1701 be), (f, ca D 6 fo)]) (fun _ => rfl) 33 rfl (fun _ _ => ?_)
      show G X D A 4 Q 0 0 33 [(0, .ref o), (1, vi m), (2, vi p), (3, vi N)] [] [(o, co 6 [vi m, vi p, .ref c, .ref l, .ref t, .ref n, .ref h, vi 0, .ref b, .ref f]), (c, ca D 5 (fun _ => 1)), (l, ca D 6 (fun _ => 0)), (t, ca D 30 lst), (n, ca D 12 (fun _ => -1)), (h, ca D 60 hi), (b, ca D 1701 be), (f, ca D 6 fo)]
      refine g_iload_n O dX6_reset_33 34 3 rfl rfl ?_
      exact g_iret O hQ dX6_reset_34 (N, m, p, fun _ => 1, fun _ => 0, fun _ => -1, 0) rfl rfl (Or.inl ⟨by omega, rfl, rfl, rfl, rfl, rfl, rfl, rfl⟩) ⟨by decide, by decide⟩
    · skip
      have hb13 : ¬ (1 ≤ p ∧ p ≤ 5) := hb13
      show G X D A 4 Q 0 0 16 [(0, .ref o), (1, vi m), (2, vi p)] [vi 0] [(o, co 6 [vi N, vi P, .ref c, .ref l, .ref t, .ref n, .ref h, vi e, .ref b, .ref f]), (c, ca D 5 cap), (l, ca D 6 len), (t, ca D 30 lst), (n, ca D 12 nw), (h, ca D 60 hi), (b, ca D 1701 be), (f, ca D 6 fo)]
      refine g_if_ne O dX6_reset_16 19 22 rfl rfl (by omega) (fun h => absurd h (by decide)) (fun _ => ?_)
      refine g_bipush O dX6_reset_19 21 rfl (by decide) ?_
      exact g_iret O hQ dX6_reset_21 (-101, N, P, cap, len, nw, e) rfl rfl (Or.inr ⟨by omega, rfl, rfl, rfl, rfl, rfl, rfl, rfl⟩) ⟨by decide, by decide⟩
  · skip
    have hb4 : ¬ (1 ≤ m ∧ m ≤ 6) := hb4
    show G X D A 4 Q 0 0 7 [(0, .ref o), (1, vi m), (2, vi p)] [vi 0] [(o, co 6 [vi N, vi P, .ref c, .ref l, .ref t, .ref n, .ref h, vi e, .ref b, .ref f]), (c, ca D 5 cap), (l, ca D 6 len), (t, ca D 30 lst), (n, ca D 12 nw), (h, ca D 60 hi), (b, ca D 1701 be), (f, ca D 6 fo)]
    refine g_if_eq O dX6_reset_7 10 19 rfl rfl (by omega) (fun _ => ?_) (fun h => absurd h (by decide))
    refine g_bipush O dX6_reset_19 21 rfl (by decide) ?_
    exact g_iret O hQ dX6_reset_21 (-101, N, P, cap, len, nw, e) rfl rfl (Or.inr ⟨by omega, rfl, rfl, rfl, rfl, rfl, rfl, rfl⟩) ⟨by decide, by decide⟩
theorem sX6_setCapacity_6 : ∀ w ∈ wsX60, w ∈ wsX6_setCapacity := by decide +kernel
theorem fX6_setCapacity_16 : FK RX6 wsX6_setCapacity 16 6 2 := ⟨RX6, TX6, 10, rfl, sX6_setCapacity_6, by decide, List.mem_of_getElem? (i := 1) rfl⟩
set_option maxHeartbeats 4000000 in
set_option maxRecDepth 100000 in
theorem k_X6_setCapacity (D : DD) (o c l t n h b f : Nat) (N P : Int) (cap len lst nw hi : Int → Int) (e : Int) (be fo : Int → Int) (p x : Int) (hW : WI N P cap len lst) (hp : -2147483648 ≤ p ∧ p < 2147483648) (hx : -2147483648 ≤ x ∧ x < 2147483648) : Con (S := Int × (Int → Int) × (Int → Int) × Int) D yX6_setCapacity wsX6_setCapacity ({ frames := 2, cells := 0, slots := 0, locals := 43 }) 0 0 [.ref o, vi p, vi x] [(o, co 6 [vi N, vi P, .ref c, .ref l, .ref t, .ref n, .ref h, vi e, .ref b, .ref f]), (c, ca D 5 cap), (l, ca D 6 len), (t, ca D 30 lst), (n, ca D 12 nw), (h, ca D 60 hi), (b, ca D 1701 be), (f, ca D 6 fo)] (fun u => some (vi u.1)) (fun u => ((0 ≤ p ∧ p < P ∧ 1 ≤ x ∧ x ≤ 2) ∧ u.1 = cap p ∧ u.2.1 = up cap p x ∧ u.2.2.1 = (fun _ => -1) ∧ u.2.2.2 = 0) ∨ (¬ (0 ≤ p ∧ p < P ∧ 1 ≤ x ∧ x ≤ 2) ∧ u.1 = -101 ∧ u.2.1 = cap ∧ u.2.2.1 = nw ∧ u.2.2.2 = e)) (fun u => [(o, co 6 [vi N, vi P, .ref c, .ref l, .ref t, .ref n, .ref h, vi u.2.2.2, .ref b, .ref f]), (c, ca D 5 u.2.1), (l, ca D 6 len), (t, ca D 30 lst), (n, ca D 12 u.2.2.1), (h, ca D 60 hi), (b, ca D 1701 be), (f, ca D 6 fo)]) := by
  refine Con.of (cc := cX6_setCapacity) (nL := 4) (ret := (some .int)) rfl (by decide +kernel) (Nat.le_of_ble_eq_true rfl) ?_
  intro X A Q O hQ hin
  show G X D A 4 Q 0 0 0 [(0, .ref o), (1, vi p), (2, vi x)] [] [(o, co 6 [vi N, vi P, .ref c, .ref l, .ref t, .ref n, .ref h, vi e, .ref b, .ref f]), (c, ca D 5 cap), (l, ca D 6 len), (t, ca D 30 lst), (n, ca D 12 nw), (h, ca D 60 hi), (b, ca D 1701 be), (f, ca D 6 fo)]
  obtain ⟨hN, hcap, hlen, hlst, hdis⟩ := id hW
  refine g_aload_n O dX6_setCapacity_0 1 0 rfl rfl ?_
  refine g_iload_n O dX6_setCapacity_1 2 1 rfl rfl ?_
  refine g_callV (As := [vi p]) (rest := []) (na := 1) O (k_X6_isPost D o c l t n h b f N P cap len lst nw hi e be fo p hW (by omega)) dX6_setCapacity_2 gX6_setCapacity_X6_isPost rfl ⟨rfl, rfl⟩ (by decide +kernel) rfl (by decide) (by decide) rfl (Nat.le_of_ble_eq_true rfl) (q0 := 0) (ci := 6) rfl rfl [0, 1, 2, 3, 4, 5, 6, 7] (by decide) rfl (fun _ => rfl) (fun u => [(o, co 6 [vi N, vi P, .ref c, .ref l, .ref t, .ref n, .ref h, vi e, .ref b, .ref f]), (c, ca D 5 cap), (l, ca D 6 len), (t, ca D 30 lst), (n, ca D 12 nw), (h, ca D 60 hi), (b, ca D 1701 be), (f, ca D 6 fo)]) (fun _ => rfl) 5 rfl (fun u2 hu2 => ?_)
  obtain ⟨bz2, rfl⟩ : ∃ z, z = u2 := ⟨_, rfl⟩
  rcases hu2 with ⟨rfl, hb2⟩ | ⟨rfl, hb2⟩
  · skip
    have hb2 : 0 ≤ p ∧ p < P := hb2
    show G X D A 4 Q 0 0 5 [(0, .ref o), (1, vi p), (2, vi x)] [vi 1] [(o, co 6 [vi N, vi P, .ref c, .ref l, .ref t, .ref n, .ref h, vi e, .ref b, .ref f]), (c, ca D 5 cap), (l, ca D 6 len), (t, ca D 30 lst), (n, ca D 12 nw), (h, ca D 60 hi), (b, ca D 1701 be), (f, ca D 6 fo)]
    refine g_if_eq O dX6_setCapacity_5 8 17 rfl rfl (by omega) (fun h => absurd h (by decide)) (fun _ => ?_)
    refine g_iload_n O dX6_setCapacity_8 9 2 rfl rfl ?_
    refine g_iconst O dX6_setCapacity_9 10 rfl ?_
    refine g_iconst O dX6_setCapacity_10 11 rfl ?_
    refine g_callS (As := [vi x, vi 1, vi 2]) (rest := []) (na := 3) O (k_X6_in D x 1 2 (by omega) (by omega) (by omega)) dX6_setCapacity_11 gX6_setCapacity_X6_in rfl ⟨rfl, rfl⟩ (by decide +kernel) rfl (by decide) (by decide) rfl (Nat.le_of_ble_eq_true rfl) [] (by decide) rfl (fun _ => rfl) (fun u => [(o, co 6 [vi N, vi P, .ref c, .ref l, .ref t, .ref n, .ref h, vi e, .ref b, .ref f]), (c, ca D 5 cap), (l, ca D 6 len), (t, ca D 30 lst), (n, ca D 12 nw), (h, ca D 60 hi), (b, ca D 1701 be), (f, ca D 6 fo)]) (fun _ => rfl) 14 rfl (fun u11 hu11 => ?_)
    obtain ⟨bz11, rfl⟩ : ∃ z, z = u11 := ⟨_, rfl⟩
    rcases hu11 with ⟨rfl, hb11⟩ | ⟨rfl, hb11⟩
    · skip
      have hb11 : 1 ≤ x ∧ x ≤ 2 := hb11
      show G X D A 4 Q 0 0 14 [(0, .ref o), (1, vi p), (2, vi x)] [vi 1] [(o, co 6 [vi N, vi P, .ref c, .ref l, .ref t, .ref n, .ref h, vi e, .ref b, .ref f]), (c, ca D 5 cap), (l, ca D 6 len), (t, ca D 30 lst), (n, ca D 12 nw), (h, ca D 60 hi), (b, ca D 1701 be), (f, ca D 6 fo)]
      refine g_if_ne O dX6_setCapacity_14 17 20 rfl rfl (by omega) (fun _ => ?_) (fun h => absurd h (by decide))
      refine g_aload_n O dX6_setCapacity_20 21 0 rfl rfl ?_
      refine g_get O dX6_setCapacity_21 24 rfl fX6_setCapacity_16 0 rfl rfl ?_
      refine g_iload_n O dX6_setCapacity_24 25 1 rfl rfl ?_
      refine g_iald O dX6_setCapacity_25 26 rfl 1 rfl (by decide) (by omega) ?_
      refine g_istore_n O dX6_setCapacity_26 27 [(0, .ref o), (1, vi p), (2, vi x), (3, vi (cap p))] rfl (by decide) rfl ?_
      refine g_aload_n O dX6_setCapacity_27 28 0 rfl rfl ?_
      refine g_get O dX6_setCapacity_28 31 rfl fX6_setCapacity_16 0 rfl rfl ?_
      refine g_iload_n O dX6_setCapacity_31 32 1 rfl rfl ?_
      refine g_iload_n O dX6_setCapacity_32 33 2 rfl rfl ?_
      refine g_iast O dX6_setCapacity_33 34 rfl 1 rfl (by decide) (by omega) [(o, co 6 [vi N, vi P, .ref c, .ref l, .ref t, .ref n, .ref h, vi e, .ref b, .ref f]), (c, ca D 5 (up cap p x)), (l, ca D 6 len), (t, ca D 30 lst), (n, ca D 12 nw), (h, ca D 60 hi), (b, ca D 1701 be), (f, ca D 6 fo)] rfl ?_
      refine g_aload_n O dX6_setCapacity_34 35 0 rfl rfl ?_
      refine g_callV (As := []) (rest := []) (na := 0) O (k_X6_clears D o c l t n h b f N P (up cap p x) len lst nw hi e be fo) dX6_setCapacity_35 gX6_setCapacity_X6_clears rfl ⟨rfl, rfl⟩ (by decide +kernel) rfl (by decide) (by decide) rfl (Nat.le_of_ble_eq_true rfl) (q0 := 0) (ci := 6) rfl rfl [0, 1, 2, 3, 4, 5, 6, 7] (by decide) rfl (fun _ => rfl) (fun _ => [(o, co 6 [vi N, vi P, .ref c, .ref l, .ref t, .ref n, .ref h, vi 0, .ref b, .ref f]), (c, ca D 5 (up cap p x)), (l, ca D 6 len), (t, ca D 30 lst), (n, ca D 12 (fun _ => -1)), (h, ca D 60 hi), (b, ca D 1701 be), (f, ca D 6 fo)]) (fun _ => rfl) 38 rfl (fun _ _ => ?_)
      show G X D A 4 Q 0 0 38 [(0, .ref o), (1, vi p), (2, vi x), (3, vi (cap p))] [] [(o, co 6 [vi N, vi P, .ref c, .ref l, .ref t, .ref n, .ref h, vi 0, .ref b, .ref f]), (c, ca D 5 (up cap p x)), (l, ca D 6 len), (t, ca D 30 lst), (n, ca D 12 (fun _ => -1)), (h, ca D 60 hi), (b, ca D 1701 be), (f, ca D 6 fo)]
      refine g_iload_n O dX6_setCapacity_38 39 3 rfl rfl ?_
      exact g_iret O hQ dX6_setCapacity_39 (cap p, up cap p x, fun _ => -1, 0) rfl rfl (Or.inl ⟨by omega, rfl, rfl, rfl, rfl⟩) ⟨by decide, by decide⟩
    · skip
      have hb11 : ¬ (1 ≤ x ∧ x ≤ 2) := hb11
      show G X D A 4 Q 0 0 14 [(0, .ref o), (1, vi p), (2, vi x)] [vi 0] [(o, co 6 [vi N, vi P, .ref c, .ref l, .ref t, .ref n, .ref h, vi e, .ref b, .ref f]), (c, ca D 5 cap), (l, ca D 6 len), (t, ca D 30 lst), (n, ca D 12 nw), (h, ca D 60 hi), (b, ca D 1701 be), (f, ca D 6 fo)]
      refine g_if_ne O dX6_setCapacity_14 17 20 rfl rfl (by omega) (fun h => absurd h (by decide)) (fun _ => ?_)
      refine g_bipush O dX6_setCapacity_17 19 rfl (by decide) ?_
      exact g_iret O hQ dX6_setCapacity_19 (-101, cap, nw, e) rfl rfl (Or.inr ⟨by omega, rfl, rfl, rfl, rfl⟩) ⟨by decide, by decide⟩
  · skip
    have hb2 : ¬ (0 ≤ p ∧ p < P) := hb2
    show G X D A 4 Q 0 0 5 [(0, .ref o), (1, vi p), (2, vi x)] [vi 0] [(o, co 6 [vi N, vi P, .ref c, .ref l, .ref t, .ref n, .ref h, vi e, .ref b, .ref f]), (c, ca D 5 cap), (l, ca D 6 len), (t, ca D 30 lst), (n, ca D 12 nw), (h, ca D 60 hi), (b, ca D 1701 be), (f, ca D 6 fo)]
    refine g_if_eq O dX6_setCapacity_5 8 17 rfl rfl (by omega) (fun _ => ?_) (fun h => absurd h (by decide))
    refine g_bipush O dX6_setCapacity_17 19 rfl (by decide) ?_
    exact g_iret O hQ dX6_setCapacity_19 (-101, cap, nw, e) rfl rfl (Or.inr ⟨by omega, rfl, rfl, rfl, rfl⟩) ⟨by decide, by decide⟩
theorem sX6_appendPreference_6 : ∀ w ∈ wsX60, w ∈ wsX6_appendPreference := by decide +kernel
theorem fX6_appendPreference_20 : FK RX6 wsX6_appendPreference 20 6 3 := ⟨RX6, TX6, 10, rfl, sX6_appendPreference_6, by decide, List.mem_of_getElem? (i := 2) rfl⟩
theorem fX6_appendPreference_23 : FK RX6 wsX6_appendPreference 23 6 4 := ⟨RX6, TX6, 10, rfl, sX6_appendPreference_6, by decide, List.mem_of_getElem? (i := 1) rfl⟩
set_option maxHeartbeats 4000000 in
set_option maxRecDepth 100000 in
theorem k_X6_appendPreference (D : DD) (o c l t n h b f : Nat) (N P : Int) (cap len lst nw hi : Int → Int) (e : Int) (be fo : Int → Int) (a p : Int) (hW : WI N P cap len lst) (ha : -2147483648 ≤ a ∧ a < 2147483648) (hp : -2147483648 ≤ p ∧ p < 2147483648) : Con (S := Int × (Int → Int) × (Int → Int) × (Int → Int) × Int) D yX6_appendPreference wsX6_appendPreference ({ frames := 2, cells := 0, slots := 0, locals := 43 }) 0 0 [.ref o, vi a, vi p] [(o, co 6 [vi N, vi P, .ref c, .ref l, .ref t, .ref n, .ref h, vi e, .ref b, .ref f]), (c, ca D 5 cap), (l, ca D 6 len), (t, ca D 30 lst), (n, ca D 12 nw), (h, ca D 60 hi), (b, ca D 1701 be), (f, ca D 6 fo)] (fun u => some (vi u.1)) (fun u => (¬ (0 ≤ a ∧ a < N ∧ 0 ≤ p ∧ p < P) ∧ u.1 = -101 ∧ u.2.1 = len ∧ u.2.2.1 = lst ∧ u.2.2.2.1 = nw ∧ u.2.2.2.2 = e) ∨ ((0 ≤ a ∧ a < N ∧ 0 ≤ p ∧ p < P) ∧ rk (row lst a) p (len a) < len a ∧ u.1 = -102 ∧ u.2.1 = len ∧ u.2.2.1 = lst ∧ u.2.2.2.1 = nw ∧ u.2.2.2.2 = e) ∨ ((0 ≤ a ∧ a < N ∧ 0 ≤ p ∧ p < P) ∧ ¬ rk (row lst a) p (len a) < len a ∧ u.1 = len a + 1 ∧ u.2.1 = up len a (len a + 1) ∧ u.2.2.1 = up lst (a * 5 + len a) p ∧ u.2.2.2.1 = (fun _ => -1) ∧ u.2.2.2.2 = 0)) (fun u => [(o, co 6 [vi N, vi P, .ref c, .ref l, .ref t, .ref n, .ref h, vi u.2.2.2.2, .ref b, .ref f]), (c, ca D 5 cap), (l, ca D 6 u.2.1), (t, ca D 30 u.2.2.1), (n, ca D 12 u.2.2.2.1), (h, ca D 60 hi), (b, ca D 1701 be), (f, ca D 6 fo)]) := by
  refine Con.of (cc := cX6_appendPreference) (nL := 3) (ret := (some .int)) rfl (by decide +kernel) (Nat.le_of_ble_eq_true rfl) ?_
  intro X A Q O hQ hin
  show G X D A 3 Q 0 0 0 [(0, .ref o), (1, vi a), (2, vi p)] [] [(o, co 6 [vi N, vi P, .ref c, .ref l, .ref t, .ref n, .ref h, vi e, .ref b, .ref f]), (c, ca D 5 cap), (l, ca D 6 len), (t, ca D 30 lst), (n, ca D 12 nw), (h, ca D 60 hi), (b, ca D 1701 be), (f, ca D 6 fo)]
  obtain ⟨hN, hcap, hlen, hlst, hdis⟩ := id hW
  refine g_aload_n O dX6_appendPreference_0 1 0 rfl rfl ?_
  refine g_iload_n O dX6_appendPreference_1 2 1 rfl rfl ?_
  refine g_callV (As := [vi a]) (rest := []) (na := 1) O (k_X6_isApplicant D o c l t n h b f N P cap len lst nw hi e be fo a hW (by omega)) dX6_appendPreference_2 gX6_appendPreference_X6_isApplicant rfl ⟨rfl, rfl⟩ (by decide +kernel) rfl (by decide) (by decide) rfl (Nat.le_of_ble_eq_true rfl) (q0 := 0) (ci := 6) rfl rfl [0, 1, 2, 3, 4, 5, 6, 7] (by decide) rfl (fun _ => rfl) (fun u => [(o, co 6 [vi N, vi P, .ref c, .ref l, .ref t, .ref n, .ref h, vi e, .ref b, .ref f]), (c, ca D 5 cap), (l, ca D 6 len), (t, ca D 30 lst), (n, ca D 12 nw), (h, ca D 60 hi), (b, ca D 1701 be), (f, ca D 6 fo)]) (fun _ => rfl) 5 rfl (fun u2 hu2 => ?_)
  obtain ⟨bz2, rfl⟩ : ∃ z, z = u2 := ⟨_, rfl⟩
  rcases hu2 with ⟨rfl, hb2⟩ | ⟨rfl, hb2⟩
  · skip
    have hb2 : 0 ≤ a ∧ a < N := hb2
    show G X D A 3 Q 0 0 5 [(0, .ref o), (1, vi a), (2, vi p)] [vi 1] [(o, co 6 [vi N, vi P, .ref c, .ref l, .ref t, .ref n, .ref h, vi e, .ref b, .ref f]), (c, ca D 5 cap), (l, ca D 6 len), (t, ca D 30 lst), (n, ca D 12 nw), (h, ca D 60 hi), (b, ca D 1701 be), (f, ca D 6 fo)]
    refine g_if_eq O dX6_appendPreference_5 8 16 rfl rfl (by omega) (fun h => absurd h (by decide)) (fun _ => ?_)
    refine g_aload_n O dX6_appendPreference_8 9 0 rfl rfl ?_
    refine g_iload_n O dX6_appendPreference_9 10 2 rfl rfl ?_
    refine g_callV (As := [vi p]) (rest := []) (na := 1) O (k_X6_isPost D o c l t n h b f N P cap len lst nw hi e be fo p hW (by omega)) dX6_appendPreference_10 gX6_appendPreference_X6_isPost rfl ⟨rfl, rfl⟩ (by decide +kernel) rfl (by decide) (by decide) rfl (Nat.le_of_ble_eq_true rfl) (q0 := 0) (ci := 6) rfl rfl [0, 1, 2, 3, 4, 5, 6, 7] (by decide) rfl (fun _ => rfl) (fun u => [(o, co 6 [vi N, vi P, .ref c, .ref l, .ref t, .ref n, .ref h, vi e, .ref b, .ref f]), (c, ca D 5 cap), (l, ca D 6 len), (t, ca D 30 lst), (n, ca D 12 nw), (h, ca D 60 hi), (b, ca D 1701 be), (f, ca D 6 fo)]) (fun _ => rfl) 13 rfl (fun u10 hu10 => ?_)
    obtain ⟨bz10, rfl⟩ : ∃ z, z = u10 := ⟨_, rfl⟩
    rcases hu10 with ⟨rfl, hb10⟩ | ⟨rfl, hb10⟩
    · skip
      have hb10 : 0 ≤ p ∧ p < P := hb10
      show G X D A 3 Q 0 0 13 [(0, .ref o), (1, vi a), (2, vi p)] [vi 1] [(o, co 6 [vi N, vi P, .ref c, .ref l, .ref t, .ref n, .ref h, vi e, .ref b, .ref f]), (c, ca D 5 cap), (l, ca D 6 len), (t, ca D 30 lst), (n, ca D 12 nw), (h, ca D 60 hi), (b, ca D 1701 be), (f, ca D 6 fo)]
      refine g_if_ne O dX6_appendPreference_13 16 19 rfl rfl (by omega) (fun _ => ?_) (fun h => absurd h (by decide))
      refine g_aload_n O dX6_appendPreference_19 20 0 rfl rfl ?_
      refine g_iload_n O dX6_appendPreference_20 21 1 rfl rfl ?_
      refine g_iload_n O dX6_appendPreference_21 22 2 rfl rfl ?_
      refine g_callV (As := [vi a, vi p]) (rest := []) (na := 2) O (k_X6_rank D o c l t n h b f N P cap len lst nw hi e be fo a p hW (by omega) (by omega)) dX6_appendPreference_22 gX6_appendPreference_X6_rank rfl ⟨rfl, rfl⟩ (by decide +kernel) rfl (by decide) (by decide) rfl (Nat.le_of_ble_eq_true rfl) (q0 := 0) (ci := 6) rfl rfl [0, 1, 2, 3, 4, 5, 6, 7] (by decide) rfl (fun _ => rfl) (fun _ => [(o, co 6 [vi N, vi P, .ref c, .ref l, .ref t, .ref n, .ref h, vi e, .ref b, .ref f]), (c, ca D 5 cap), (l, ca D 6 len), (t, ca D 30 lst), (n, ca D 12 nw), (h, ca D 60 hi), (b, ca D 1701 be), (f, ca D 6 fo)]) (fun _ => rfl) 25 rfl (fun _ _ => ?_)
      show G X D A 3 Q 0 0 25 [(0, .ref o), (1, vi a), (2, vi p)] [vi (rm9 len lst a p)] [(o, co 6 [vi N, vi P, .ref c, .ref l, .ref t, .ref n, .ref h, vi e, .ref b, .ref f]), (c, ca D 5 cap), (l, ca D 6 len), (t, ca D 30 lst), (n, ca D 12 nw), (h, ca D 60 hi), (b, ca D 1701 be), (f, ca D 6 fo)]
      have hla := hlen a (by omega) (by omega)
      have hrb := rm9_bd hW (a := a) (p := p) (by omega) (by omega)
      refine g_bipush O dX6_appendPreference_25 27 rfl (by decide) ?_
      refine g_icmp_ge O dX6_appendPreference_27 30 33 rfl rfl (by omega) (fun h27 => ?_) (fun h27 => ?_)
      · skip
        have hnl : ¬ rk (row lst a) p (len a) < len a := rm9_ge hW (by omega) (by omega) h27
        have hl4 := WI_room hW (by omega) (by omega) (by omega) (by omega) hnl
        refine g_aload_n O dX6_appendPreference_33 34 0 rfl rfl ?_
        refine g_get O dX6_appendPreference_34 37 rfl fX6_appendPreference_23 0 rfl rfl ?_
        refine g_iconst O dX6_appendPreference_37 38 rfl ?_
        refine g_iload_n O dX6_appendPreference_38 39 1 rfl rfl ?_
        refine g_imul O dX6_appendPreference_39 40 rfl ?_
        refine g_aload_n O dX6_appendPreference_40 41 0 rfl rfl ?_
        refine g_get O dX6_appendPreference_41 44 rfl fX6_appendPreference_20 0 rfl rfl ?_
        refine g_iload_n O dX6_appendPreference_44 45 1 rfl rfl ?_
        refine g_iald O dX6_appendPreference_45 46 rfl 2 rfl (by decide) (by omega) ?_
        refine g_iadd O dX6_appendPreference_46 47 rfl ?_
        refine g_iload_n O dX6_appendPreference_47 48 2 rfl rfl ?_
        refine g_iast O dX6_appendPreference_48 49 rfl 3 rfl (by decide) (by omega) [(o, co 6 [vi N, vi P, .ref c, .ref l, .ref t, .ref n, .ref h, vi e, .ref b, .ref f]), (c, ca D 5 cap), (l, ca D 6 len), (t, ca D 30 (up lst ((5 * a) + (len a)) p)), (n, ca D 12 nw), (h, ca D 60 hi), (b, ca D 1701 be), (f, ca D 6 fo)] rfl ?_
        refine g_arr 3 (up lst (a * 5 + len a) p) rfl (fun kk _ _ => by congr 1; omega) [(o, co 6 [vi N, vi P, .ref c, .ref l, .ref t, .ref n, .ref h, vi e, .ref b, .ref f]), (c, ca D 5 cap), (l, ca D 6 len), (t, ca D 30 (up lst (a * 5 + len a) p)), (n, ca D 12 nw), (h, ca D 60 hi), (b, ca D 1701 be), (f, ca D 6 fo)] rfl ?_
        refine g_aload_n O dX6_appendPreference_49 50 0 rfl rfl ?_
        refine g_get O dX6_appendPreference_50 53 rfl fX6_appendPreference_20 0 rfl rfl ?_
        refine g_iload_n O dX6_appendPreference_53 54 1 rfl rfl ?_
        refine g_dup2 O dX6_appendPreference_54 55 rfl rfl rfl ?_
        refine g_iald O dX6_appendPreference_55 56 rfl 2 rfl (by decide) (by omega) ?_
        refine g_iconst O dX6_appendPreference_56 57 rfl ?_
        refine g_iadd O dX6_appendPreference_57 58 rfl ?_
        refine g_iast O dX6_appendPreference_58 59 rfl 2 rfl (by decide) (by omega) [(o, co 6 [vi N, vi P, .ref c, .ref l, .ref t, .ref n, .ref h, vi e, .ref b, .ref f]), (c, ca D 5 cap), (l, ca D 6 (up len a ((len a) + 1))), (t, ca D 30 (up lst (a * 5 + len a) p)), (n, ca D 12 nw), (h, ca D 60 hi), (b, ca D 1701 be), (f, ca D 6 fo)] rfl ?_
        refine g_aload_n O dX6_appendPreference_59 60 0 rfl rfl ?_
        refine g_callV (As := []) (rest := []) (na := 0) O (k_X6_clears D o c l t n h b f N P cap (up len a ((len a) + 1)) (up lst (a * 5 + len a) p) nw hi e be fo) dX6_appendPreference_60 gX6_appendPreference_X6_clears rfl ⟨rfl, rfl⟩ (by decide +kernel) rfl (by decide) (by decide) rfl (Nat.le_of_ble_eq_true rfl) (q0 := 0) (ci := 6) rfl rfl [0, 1, 2, 3, 4, 5, 6, 7] (by decide) rfl (fun _ => rfl) (fun _ => [(o, co 6 [vi N, vi P, .ref c, .ref l, .ref t, .ref n, .ref h, vi 0, .ref b, .ref f]), (c, ca D 5 cap), (l, ca D 6 (up len a ((len a) + 1))), (t, ca D 30 (up lst (a * 5 + len a) p)), (n, ca D 12 (fun _ => -1)), (h, ca D 60 hi), (b, ca D 1701 be), (f, ca D 6 fo)]) (fun _ => rfl) 63 rfl (fun _ _ => ?_)
        show G X D A 3 Q 0 0 63 [(0, .ref o), (1, vi a), (2, vi p)] [] [(o, co 6 [vi N, vi P, .ref c, .ref l, .ref t, .ref n, .ref h, vi 0, .ref b, .ref f]), (c, ca D 5 cap), (l, ca D 6 (up len a ((len a) + 1))), (t, ca D 30 (up lst (a * 5 + len a) p)), (n, ca D 12 (fun _ => -1)), (h, ca D 60 hi), (b, ca D 1701 be), (f, ca D 6 fo)]
        refine g_aload_n O dX6_appendPreference_63 64 0 rfl rfl ?_
        refine g_get O dX6_appendPreference_64 67 rfl fX6_appendPreference_20 0 rfl rfl ?_
        refine g_iload_n O dX6_appendPreference_67 68 1 rfl rfl ?_
        refine g_iald O dX6_appendPreference_68 69 rfl 2 rfl (by decide) (by omega) ?_
        refine g_cv (y := len a + 1) (up_s _ _ _) ?_
        exact g_iret O hQ dX6_appendPreference_69 (len a + 1, up len a ((len a) + 1), up lst (a * 5 + len a) p, fun _ => -1, 0) rfl rfl (Or.inr (Or.inr ⟨by omega, hnl, rfl, rfl, rfl, rfl, rfl⟩)) ⟨by decide, by decide⟩
      · skip
        refine g_bipush O dX6_appendPreference_30 32 rfl (by decide) ?_
        exact g_iret O hQ dX6_appendPreference_32 (-102, len, lst, nw, e) rfl rfl (Or.inr (Or.inl ⟨by omega, rm9_lt (by omega), rfl, rfl, rfl, rfl, rfl⟩)) ⟨by decide, by decide⟩
    · skip
      have hb10 : ¬ (0 ≤ p ∧ p < P) := hb10
      show G X D A 3 Q 0 0 13 [(0, .ref o), (1, vi a), (2, vi p)] [vi 0] [(o, co 6 [vi N, vi P, .ref c, .ref l, .ref t, .ref n, .ref h, vi e, .ref b, .ref f]), (c, ca D 5 cap), (l, ca D 6 len), (t, ca D 30 lst), (n, ca D 12 nw), (h, ca D 60 hi), (b, ca D 1701 be), (f, ca D 6 fo)]
      refine g_if_ne O dX6_appendPreference_13 16 19 rfl rfl (by omega) (fun h => absurd h (by decide)) (fun _ => ?_)
      refine g_bipush O dX6_appendPreference_16 18 rfl (by decide) ?_
      exact g_iret O hQ dX6_appendPreference_18 (-101, len, lst, nw, e) rfl rfl (Or.inl ⟨by omega, rfl, rfl, rfl, rfl, rfl⟩) ⟨by decide, by decide⟩
  · skip
    have hb2 : ¬ (0 ≤ a ∧ a < N) := hb2
    show G X D A 3 Q 0 0 5 [(0, .ref o), (1, vi a), (2, vi p)] [vi 0] [(o, co 6 [vi N, vi P, .ref c, .ref l, .ref t, .ref n, .ref h, vi e, .ref b, .ref f]), (c, ca D 5 cap), (l, ca D 6 len), (t, ca D 30 lst), (n, ca D 12 nw), (h, ca D 60 hi), (b, ca D 1701 be), (f, ca D 6 fo)]
    refine g_if_eq O dX6_appendPreference_5 8 16 rfl rfl (by omega) (fun _ => ?_) (fun h => absurd h (by decide))
    refine g_bipush O dX6_appendPreference_16 18 rfl (by decide) ?_
    exact g_iret O hQ dX6_appendPreference_18 (-101, len, lst, nw, e) rfl rfl (Or.inl ⟨by omega, rfl, rfl, rfl, rfl, rfl⟩) ⟨by decide, by decide⟩
theorem sX6_clearPreferences_6 : ∀ w ∈ wsX60, w ∈ wsX6_clearPreferences := by decide +kernel
theorem fX6_clearPreferences_20 : FK RX6 wsX6_clearPreferences 20 6 3 := ⟨RX6, TX6, 10, rfl, sX6_clearPreferences_6, by decide, List.mem_of_getElem? (i := 1) rfl⟩
set_option maxHeartbeats 4000000 in
set_option maxRecDepth 100000 in
theorem k_X6_clearPreferences (D : DD) (o c l t n h b f : Nat) (N P : Int) (cap len lst nw hi : Int → Int) (e : Int) (be fo : Int → Int) (a : Int) (hW : WI N P cap len lst) (ha : -2147483648 ≤ a ∧ a < 2147483648) : Con (S := Int × (Int → Int) × (Int → Int) × Int) D yX6_clearPreferences wsX6_clearPreferences ({ frames := 2, cells := 0, slots := 0, locals := 43 }) 0 0 [.ref o, vi a] [(o, co 6 [vi N, vi P, .ref c, .ref l, .ref t, .ref n, .ref h, vi e, .ref b, .ref f]), (c, ca D 5 cap), (l, ca D 6 len), (t, ca D 30 lst), (n, ca D 12 nw), (h, ca D 60 hi), (b, ca D 1701 be), (f, ca D 6 fo)] (fun u => some (vi u.1)) (fun u => ((0 ≤ a ∧ a < N) ∧ u.1 = len a ∧ u.2.1 = up len a 0 ∧ u.2.2.1 = (fun _ => -1) ∧ u.2.2.2 = 0) ∨ (¬ (0 ≤ a ∧ a < N) ∧ u.1 = -101 ∧ u.2.1 = len ∧ u.2.2.1 = nw ∧ u.2.2.2 = e)) (fun u => [(o, co 6 [vi N, vi P, .ref c, .ref l, .ref t, .ref n, .ref h, vi u.2.2.2, .ref b, .ref f]), (c, ca D 5 cap), (l, ca D 6 u.2.1), (t, ca D 30 lst), (n, ca D 12 u.2.2.1), (h, ca D 60 hi), (b, ca D 1701 be), (f, ca D 6 fo)]) := by
  refine Con.of (cc := cX6_clearPreferences) (nL := 3) (ret := (some .int)) rfl (by decide +kernel) (Nat.le_of_ble_eq_true rfl) ?_
  intro X A Q O hQ hin
  show G X D A 3 Q 0 0 0 [(0, .ref o), (1, vi a)] [] [(o, co 6 [vi N, vi P, .ref c, .ref l, .ref t, .ref n, .ref h, vi e, .ref b, .ref f]), (c, ca D 5 cap), (l, ca D 6 len), (t, ca D 30 lst), (n, ca D 12 nw), (h, ca D 60 hi), (b, ca D 1701 be), (f, ca D 6 fo)]
  obtain ⟨hN, hcap, hlen, hlst, hdis⟩ := id hW
  refine g_aload_n O dX6_clearPreferences_0 1 0 rfl rfl ?_
  refine g_iload_n O dX6_clearPreferences_1 2 1 rfl rfl ?_
  refine g_callV (As := [vi a]) (rest := []) (na := 1) O (k_X6_isApplicant D o c l t n h b f N P cap len lst nw hi e be fo a hW (by omega)) dX6_clearPreferences_2 gX6_clearPreferences_X6_isApplicant rfl ⟨rfl, rfl⟩ (by decide +kernel) rfl (by decide) (by decide) rfl (Nat.le_of_ble_eq_true rfl) (q0 := 0) (ci := 6) rfl rfl [0, 1, 2, 3, 4, 5, 6, 7] (by decide) rfl (fun _ => rfl) (fun u => [(o, co 6 [vi N, vi P, .ref c, .ref l, .ref t, .ref n, .ref h, vi e, .ref b, .ref f]), (c, ca D 5 cap), (l, ca D 6 len), (t, ca D 30 lst), (n, ca D 12 nw), (h, ca D 60 hi), (b, ca D 1701 be), (f, ca D 6 fo)]) (fun _ => rfl) 5 rfl (fun u2 hu2 => ?_)
  obtain ⟨bz2, rfl⟩ : ∃ z, z = u2 := ⟨_, rfl⟩
  rcases hu2 with ⟨rfl, hb2⟩ | ⟨rfl, hb2⟩
  · skip
    have hb2 : 0 ≤ a ∧ a < N := hb2
    show G X D A 3 Q 0 0 5 [(0, .ref o), (1, vi a)] [vi 1] [(o, co 6 [vi N, vi P, .ref c, .ref l, .ref t, .ref n, .ref h, vi e, .ref b, .ref f]), (c, ca D 5 cap), (l, ca D 6 len), (t, ca D 30 lst), (n, ca D 12 nw), (h, ca D 60 hi), (b, ca D 1701 be), (f, ca D 6 fo)]
    refine g_if_ne O dX6_clearPreferences_5 8 11 rfl rfl (by omega) (fun _ => ?_) (fun h => absurd h (by decide))
    refine g_aload_n O dX6_clearPreferences_11 12 0 rfl rfl ?_
    refine g_get O dX6_clearPreferences_12 15 rfl fX6_clearPreferences_20 0 rfl rfl ?_
    refine g_iload_n O dX6_clearPreferences_15 16 1 rfl rfl ?_
    refine g_iald O dX6_clearPreferences_16 17 rfl 2 rfl (by decide) (by omega) ?_
    refine g_istore_n O dX6_clearPreferences_17 18 [(0, .ref o), (1, vi a), (2, vi (len a))] rfl (by decide) rfl ?_
    refine g_aload_n O dX6_clearPreferences_18 19 0 rfl rfl ?_
    refine g_get O dX6_clearPreferences_19 22 rfl fX6_clearPreferences_20 0 rfl rfl ?_
    refine g_iload_n O dX6_clearPreferences_22 23 1 rfl rfl ?_
    refine g_iconst O dX6_clearPreferences_23 24 rfl ?_
    refine g_iast O dX6_clearPreferences_24 25 rfl 2 rfl (by decide) (by omega) [(o, co 6 [vi N, vi P, .ref c, .ref l, .ref t, .ref n, .ref h, vi e, .ref b, .ref f]), (c, ca D 5 cap), (l, ca D 6 (up len a 0)), (t, ca D 30 lst), (n, ca D 12 nw), (h, ca D 60 hi), (b, ca D 1701 be), (f, ca D 6 fo)] rfl ?_
    refine g_aload_n O dX6_clearPreferences_25 26 0 rfl rfl ?_
    refine g_callV (As := []) (rest := []) (na := 0) O (k_X6_clears D o c l t n h b f N P cap (up len a 0) lst nw hi e be fo) dX6_clearPreferences_26 gX6_clearPreferences_X6_clears rfl ⟨rfl, rfl⟩ (by decide +kernel) rfl (by decide) (by decide) rfl (Nat.le_of_ble_eq_true rfl) (q0 := 0) (ci := 6) rfl rfl [0, 1, 2, 3, 4, 5, 6, 7] (by decide) rfl (fun _ => rfl) (fun _ => [(o, co 6 [vi N, vi P, .ref c, .ref l, .ref t, .ref n, .ref h, vi 0, .ref b, .ref f]), (c, ca D 5 cap), (l, ca D 6 (up len a 0)), (t, ca D 30 lst), (n, ca D 12 (fun _ => -1)), (h, ca D 60 hi), (b, ca D 1701 be), (f, ca D 6 fo)]) (fun _ => rfl) 29 rfl (fun _ _ => ?_)
    show G X D A 3 Q 0 0 29 [(0, .ref o), (1, vi a), (2, vi (len a))] [] [(o, co 6 [vi N, vi P, .ref c, .ref l, .ref t, .ref n, .ref h, vi 0, .ref b, .ref f]), (c, ca D 5 cap), (l, ca D 6 (up len a 0)), (t, ca D 30 lst), (n, ca D 12 (fun _ => -1)), (h, ca D 60 hi), (b, ca D 1701 be), (f, ca D 6 fo)]
    refine g_iload_n O dX6_clearPreferences_29 30 2 rfl rfl ?_
    exact g_iret O hQ dX6_clearPreferences_30 (len a, up len a 0, fun _ => -1, 0) rfl rfl (Or.inl ⟨by omega, rfl, rfl, rfl, rfl⟩) ⟨by decide, by decide⟩
  · skip
    have hb2 : ¬ (0 ≤ a ∧ a < N) := hb2
    show G X D A 3 Q 0 0 5 [(0, .ref o), (1, vi a)] [vi 0] [(o, co 6 [vi N, vi P, .ref c, .ref l, .ref t, .ref n, .ref h, vi e, .ref b, .ref f]), (c, ca D 5 cap), (l, ca D 6 len), (t, ca D 30 lst), (n, ca D 12 nw), (h, ca D 60 hi), (b, ca D 1701 be), (f, ca D 6 fo)]
    refine g_if_ne O dX6_clearPreferences_5 8 11 rfl rfl (by omega) (fun h => absurd h (by decide)) (fun _ => ?_)
    refine g_bipush O dX6_clearPreferences_8 10 rfl (by decide) ?_
    exact g_iret O hQ dX6_clearPreferences_10 (-101, len, nw, e) rfl rfl (Or.inr ⟨by omega, rfl, rfl, rfl, rfl⟩) ⟨by decide, by decide⟩
theorem sX6_preferenceAt_6 : ∀ w ∈ wsX60, w ∈ wsX6_preferenceAt := by decide +kernel
theorem fX6_preferenceAt_20 : FK RX6 wsX6_preferenceAt 20 6 3 := ⟨RX6, TX6, 10, rfl, sX6_preferenceAt_6, by decide, List.mem_of_getElem? (i := 1) rfl⟩
theorem fX6_preferenceAt_23 : FK RX6 wsX6_preferenceAt 23 6 4 := ⟨RX6, TX6, 10, rfl, sX6_preferenceAt_6, by decide, List.mem_of_getElem? (i := 2) rfl⟩
set_option maxHeartbeats 4000000 in
set_option maxRecDepth 100000 in
theorem k_X6_preferenceAt (D : DD) (o c l t n h b f : Nat) (N P : Int) (cap len lst nw hi : Int → Int) (e : Int) (be fo : Int → Int) (a i : Int) (hW : WI N P cap len lst) (ha : -2147483648 ≤ a ∧ a < 2147483648) (hi1 : -2147483648 ≤ i ∧ i < 2147483648) : Con (S := Unit) D yX6_preferenceAt wsX6_preferenceAt ({ frames := 2, cells := 0, slots := 0, locals := 43 }) 0 0 [.ref o, vi a, vi i] [(o, co 6 [vi N, vi P, .ref c, .ref l, .ref t, .ref n, .ref h, vi e, .ref b, .ref f]), (c, ca D 5 cap), (l, ca D 6 len), (t, ca D 30 lst), (n, ca D 12 nw), (h, ca D 60 hi), (b, ca D 1701 be), (f, ca D 6 fo)] (fun u => some (vi (if 0 ≤ a ∧ a < N ∧ 0 ≤ i then (if i < len a then row lst a i else -104) else -101))) (fun u => True) (fun u => [(o, co 6 [vi N, vi P, .ref c, .ref l, .ref t, .ref n, .ref h, vi e, .ref b, .ref f]), (c, ca D 5 cap), (l, ca D 6 len), (t, ca D 30 lst), (n, ca D 12 nw), (h, ca D 60 hi), (b, ca D 1701 be), (f, ca D 6 fo)]) := by
  refine Con.of (cc := cX6_preferenceAt) (nL := 3) (ret := (some .int)) rfl (by decide +kernel) (Nat.le_of_ble_eq_true rfl) ?_
  intro X A Q O hQ hin
  show G X D A 3 Q 0 0 0 [(0, .ref o), (1, vi a), (2, vi i)] [] [(o, co 6 [vi N, vi P, .ref c, .ref l, .ref t, .ref n, .ref h, vi e, .ref b, .ref f]), (c, ca D 5 cap), (l, ca D 6 len), (t, ca D 30 lst), (n, ca D 12 nw), (h, ca D 60 hi), (b, ca D 1701 be), (f, ca D 6 fo)]
  obtain ⟨hN, hcap, hlen, hlst, hdis⟩ := id hW
  refine g_aload_n O dX6_preferenceAt_0 1 0 rfl rfl ?_
  refine g_iload_n O dX6_preferenceAt_1 2 1 rfl rfl ?_
  refine g_callV (As := [vi a]) (rest := []) (na := 1) O (k_X6_isApplicant D o c l t n h b f N P cap len lst nw hi e be fo a hW (by omega)) dX6_preferenceAt_2 gX6_preferenceAt_X6_isApplicant rfl ⟨rfl, rfl⟩ (by decide +kernel) rfl (by decide) (by decide) rfl (Nat.le_of_ble_eq_true rfl) (q0 := 0) (ci := 6) rfl rfl [0, 1, 2, 3, 4, 5, 6, 7] (by decide) rfl (fun _ => rfl) (fun u => [(o, co 6 [vi N, vi P, .ref c, .ref l, .ref t, .ref n, .ref h, vi e, .ref b, .ref f]), (c, ca D 5 cap), (l, ca D 6 len), (t, ca D 30 lst), (n, ca D 12 nw), (h, ca D 60 hi), (b, ca D 1701 be), (f, ca D 6 fo)]) (fun _ => rfl) 5 rfl (fun u2 hu2 => ?_)
  obtain ⟨bz2, rfl⟩ : ∃ z, z = u2 := ⟨_, rfl⟩
  rcases hu2 with ⟨rfl, hb2⟩ | ⟨rfl, hb2⟩
  · skip
    have hb2 : 0 ≤ a ∧ a < N := hb2
    show G X D A 3 Q 0 0 5 [(0, .ref o), (1, vi a), (2, vi i)] [vi 1] [(o, co 6 [vi N, vi P, .ref c, .ref l, .ref t, .ref n, .ref h, vi e, .ref b, .ref f]), (c, ca D 5 cap), (l, ca D 6 len), (t, ca D 30 lst), (n, ca D 12 nw), (h, ca D 60 hi), (b, ca D 1701 be), (f, ca D 6 fo)]
    refine g_if_eq O dX6_preferenceAt_5 8 12 rfl rfl (by omega) (fun h => absurd h (by decide)) (fun _ => ?_)
    refine g_iload_n O dX6_preferenceAt_8 9 2 rfl rfl ?_
    refine g_if_ge O dX6_preferenceAt_9 12 15 rfl rfl (by omega) (fun h9 => ?_) (fun h9 => ?_)
    · skip
      have hla := hlen a (by omega) (by omega)
      refine g_iload_n O dX6_preferenceAt_15 16 2 rfl rfl ?_
      refine g_aload_n O dX6_preferenceAt_16 17 0 rfl rfl ?_
      refine g_get O dX6_preferenceAt_17 20 rfl fX6_preferenceAt_20 0 rfl rfl ?_
      refine g_iload_n O dX6_preferenceAt_20 21 1 rfl rfl ?_
      refine g_iald O dX6_preferenceAt_21 22 rfl 2 rfl (by decide) (by omega) ?_
      refine g_icmp_ge O dX6_preferenceAt_22 25 38 rfl rfl (by omega) (fun h22 => ?_) (fun h22 => ?_)
      · skip
        refine g_bipush O dX6_preferenceAt_38 40 rfl (by decide) ?_
        exact g_iret O hQ dX6_preferenceAt_40 () (vi_eq (by split <;> (try split) <;> omega)) rfl trivial ⟨by decide, by decide⟩
      · skip
        refine g_aload_n O dX6_preferenceAt_25 26 0 rfl rfl ?_
        refine g_get O dX6_preferenceAt_26 29 rfl fX6_preferenceAt_23 0 rfl rfl ?_
        refine g_iconst O dX6_preferenceAt_29 30 rfl ?_
        refine g_iload_n O dX6_preferenceAt_30 31 1 rfl rfl ?_
        refine g_imul O dX6_preferenceAt_31 32 rfl ?_
        refine g_iload_n O dX6_preferenceAt_32 33 2 rfl rfl ?_
        refine g_iadd O dX6_preferenceAt_33 34 rfl ?_
        refine g_iald O dX6_preferenceAt_34 35 rfl 3 rfl (by decide) (by omega) ?_
        refine g_cv (y := row lst a i) (by unfold row; congr 1; omega) ?_
        refine g_goto O dX6_preferenceAt_35 40 rfl ?_
        exact g_iret O hQ dX6_preferenceAt_40 () (vi_eq (by split <;> (try split) <;> omega)) rfl trivial ⟨by decide, by decide⟩
    · skip
      refine g_bipush O dX6_preferenceAt_12 14 rfl (by decide) ?_
      exact g_iret O hQ dX6_preferenceAt_14 () (vi_eq (by split <;> omega)) rfl trivial ⟨by decide, by decide⟩
  · skip
    have hb2 : ¬ (0 ≤ a ∧ a < N) := hb2
    show G X D A 3 Q 0 0 5 [(0, .ref o), (1, vi a), (2, vi i)] [vi 0] [(o, co 6 [vi N, vi P, .ref c, .ref l, .ref t, .ref n, .ref h, vi e, .ref b, .ref f]), (c, ca D 5 cap), (l, ca D 6 len), (t, ca D 30 lst), (n, ca D 12 nw), (h, ca D 60 hi), (b, ca D 1701 be), (f, ca D 6 fo)]
    refine g_if_eq O dX6_preferenceAt_5 8 12 rfl rfl (by omega) (fun _ => ?_) (fun h => absurd h (by decide))
    refine g_bipush O dX6_preferenceAt_12 14 rfl (by decide) ?_
    exact g_iret O hQ dX6_preferenceAt_14 () (vi_eq (by split <;> omega)) rfl trivial ⟨by decide, by decide⟩
set_option maxHeartbeats 4000000 in
set_option maxRecDepth 100000 in
theorem k_X6_firstPost (D : DD) (o c l t n h b f : Nat) (N P : Int) (cap len lst nw hi : Int → Int) (e : Int) (be fo : Int → Int) (a : Int) (hW : WI N P cap len lst) (ha : -2147483648 ≤ a ∧ a < 2147483648) : Con (S := Unit) D yX6_firstPost wsX6_firstPost ({ frames := 2, cells := 0, slots := 0, locals := 43 }) 0 0 [.ref o, vi a] [(o, co 6 [vi N, vi P, .ref c, .ref l, .ref t, .ref n, .ref h, vi e, .ref b, .ref f]), (c, ca D 5 cap), (l, ca D 6 len), (t, ca D 30 lst), (n, ca D 12 nw), (h, ca D 60 hi), (b, ca D 1701 be), (f, ca D 6 fo)] (fun u => some (vi (if 0 ≤ a ∧ a < N then fp len lst a else -101))) (fun u => True) (fun u => [(o, co 6 [vi N, vi P, .ref c, .ref l, .ref t, .ref n, .ref h, vi e, .ref b, .ref f]), (c, ca D 5 cap), (l, ca D 6 len), (t, ca D 30 lst), (n, ca D 12 nw), (h, ca D 60 hi), (b, ca D 1701 be), (f, ca D 6 fo)]) := by
  refine Con.of (cc := cX6_firstPost) (nL := 2) (ret := (some .int)) rfl (by decide +kernel) (Nat.le_of_ble_eq_true rfl) ?_
  intro X A Q O hQ hin
  show G X D A 2 Q 0 0 0 [(0, .ref o), (1, vi a)] [] [(o, co 6 [vi N, vi P, .ref c, .ref l, .ref t, .ref n, .ref h, vi e, .ref b, .ref f]), (c, ca D 5 cap), (l, ca D 6 len), (t, ca D 30 lst), (n, ca D 12 nw), (h, ca D 60 hi), (b, ca D 1701 be), (f, ca D 6 fo)]
  obtain ⟨hN, hcap, hlen, hlst, hdis⟩ := id hW
  refine g_aload_n O dX6_firstPost_0 1 0 rfl rfl ?_
  refine g_iload_n O dX6_firstPost_1 2 1 rfl rfl ?_
  refine g_callV (As := [vi a]) (rest := []) (na := 1) O (k_X6_isApplicant D o c l t n h b f N P cap len lst nw hi e be fo a hW (by omega)) dX6_firstPost_2 gX6_firstPost_X6_isApplicant rfl ⟨rfl, rfl⟩ (by decide +kernel) rfl (by decide) (by decide) rfl (Nat.le_of_ble_eq_true rfl) (q0 := 0) (ci := 6) rfl rfl [0, 1, 2, 3, 4, 5, 6, 7] (by decide) rfl (fun _ => rfl) (fun u => [(o, co 6 [vi N, vi P, .ref c, .ref l, .ref t, .ref n, .ref h, vi e, .ref b, .ref f]), (c, ca D 5 cap), (l, ca D 6 len), (t, ca D 30 lst), (n, ca D 12 nw), (h, ca D 60 hi), (b, ca D 1701 be), (f, ca D 6 fo)]) (fun _ => rfl) 5 rfl (fun u2 hu2 => ?_)
  obtain ⟨bz2, rfl⟩ : ∃ z, z = u2 := ⟨_, rfl⟩
  rcases hu2 with ⟨rfl, hb2⟩ | ⟨rfl, hb2⟩
  · skip
    have hb2 : 0 ≤ a ∧ a < N := hb2
    show G X D A 2 Q 0 0 5 [(0, .ref o), (1, vi a)] [vi 1] [(o, co 6 [vi N, vi P, .ref c, .ref l, .ref t, .ref n, .ref h, vi e, .ref b, .ref f]), (c, ca D 5 cap), (l, ca D 6 len), (t, ca D 30 lst), (n, ca D 12 nw), (h, ca D 60 hi), (b, ca D 1701 be), (f, ca D 6 fo)]
    refine g_if_eq O dX6_firstPost_5 8 16 rfl rfl (by omega) (fun h => absurd h (by decide)) (fun _ => ?_)
    refine g_aload_n O dX6_firstPost_8 9 0 rfl rfl ?_
    refine g_iload_n O dX6_firstPost_9 10 1 rfl rfl ?_
    refine g_callV (As := [vi a]) (rest := []) (na := 1) O (k_X6_first D o c l t n h b f N P cap len lst nw hi e be fo a hW (by omega)) dX6_firstPost_10 gX6_firstPost_X6_first rfl ⟨rfl, rfl⟩ (by decide +kernel) rfl (by decide) (by decide) rfl (Nat.le_of_ble_eq_true rfl) (q0 := 0) (ci := 6) rfl rfl [0, 1, 2, 3, 4, 5, 6, 7] (by decide) rfl (fun _ => rfl) (fun _ => [(o, co 6 [vi N, vi P, .ref c, .ref l, .ref t, .ref n, .ref h, vi e, .ref b, .ref f]), (c, ca D 5 cap), (l, ca D 6 len), (t, ca D 30 lst), (n, ca D 12 nw), (h, ca D 60 hi), (b, ca D 1701 be), (f, ca D 6 fo)]) (fun _ => rfl) 13 rfl (fun _ _ => ?_)
    show G X D A 2 Q 0 0 13 [(0, .ref o), (1, vi a)] [vi (fp len lst a)] [(o, co 6 [vi N, vi P, .ref c, .ref l, .ref t, .ref n, .ref h, vi e, .ref b, .ref f]), (c, ca D 5 cap), (l, ca D 6 len), (t, ca D 30 lst), (n, ca D 12 nw), (h, ca D 60 hi), (b, ca D 1701 be), (f, ca D 6 fo)]
    refine g_goto O dX6_firstPost_13 18 rfl ?_
    exact g_iret O hQ dX6_firstPost_18 () (vi_eq (by split <;> omega)) rfl trivial ⟨by decide, by decide⟩
  · skip
    have hb2 : ¬ (0 ≤ a ∧ a < N) := hb2
    show G X D A 2 Q 0 0 5 [(0, .ref o), (1, vi a)] [vi 0] [(o, co 6 [vi N, vi P, .ref c, .ref l, .ref t, .ref n, .ref h, vi e, .ref b, .ref f]), (c, ca D 5 cap), (l, ca D 6 len), (t, ca D 30 lst), (n, ca D 12 nw), (h, ca D 60 hi), (b, ca D 1701 be), (f, ca D 6 fo)]
    refine g_if_eq O dX6_firstPost_5 8 16 rfl rfl (by omega) (fun _ => ?_) (fun h => absurd h (by decide))
    refine g_bipush O dX6_firstPost_16 18 rfl (by decide) ?_
    exact g_iret O hQ dX6_firstPost_18 () (vi_eq (by split <;> omega)) rfl trivial ⟨by decide, by decide⟩
set_option maxHeartbeats 4000000 in
set_option maxRecDepth 100000 in
theorem k_X6_secondPost (D : DD) (o c l t n h b f : Nat) (N P : Int) (cap len lst nw hi : Int → Int) (e : Int) (be fo : Int → Int) (a : Int) (hW : WI N P cap len lst) (ha : -2147483648 ≤ a ∧ a < 2147483648) : Con (S := Unit) D yX6_secondPost wsX6_secondPost ({ frames := 3, cells := 0, slots := 0, locals := 67 }) 0 0 [.ref o, vi a] [(o, co 6 [vi N, vi P, .ref c, .ref l, .ref t, .ref n, .ref h, vi e, .ref b, .ref f]), (c, ca D 5 cap), (l, ca D 6 len), (t, ca D 30 lst), (n, ca D 12 nw), (h, ca D 60 hi), (b, ca D 1701 be), (f, ca D 6 fo)] (fun u => some (vi (if 0 ≤ a ∧ a < N then sp N cap len lst a else -101))) (fun u => True) (fun u => [(o, co 6 [vi N, vi P, .ref c, .ref l, .ref t, .ref n, .ref h, vi e, .ref b, .ref f]), (c, ca D 5 cap), (l, ca D 6 len), (t, ca D 30 lst), (n, ca D 12 nw), (h, ca D 60 hi), (b, ca D 1701 be), (f, ca D 6 fo)]) := by
  refine Con.of (cc := cX6_secondPost) (nL := 2) (ret := (some .int)) rfl (by decide +kernel) (Nat.le_of_ble_eq_true rfl) ?_
  intro X A Q O hQ hin
  show G X D A 2 Q 0 0 0 [(0, .ref o), (1, vi a)] [] [(o, co 6 [vi N, vi P, .ref c, .ref l, .ref t, .ref n, .ref h, vi e, .ref b, .ref f]), (c, ca D 5 cap), (l, ca D 6 len), (t, ca D 30 lst), (n, ca D 12 nw), (h, ca D 60 hi), (b, ca D 1701 be), (f, ca D 6 fo)]
  obtain ⟨hN, hcap, hlen, hlst, hdis⟩ := id hW
  refine g_aload_n O dX6_secondPost_0 1 0 rfl rfl ?_
  refine g_iload_n O dX6_secondPost_1 2 1 rfl rfl ?_
  refine g_callV (As := [vi a]) (rest := []) (na := 1) O (k_X6_isApplicant D o c l t n h b f N P cap len lst nw hi e be fo a hW (by omega)) dX6_secondPost_2 gX6_secondPost_X6_isApplicant rfl ⟨rfl, rfl⟩ (by decide +kernel) rfl (by decide) (by decide) rfl (Nat.le_of_ble_eq_true rfl) (q0 := 0) (ci := 6) rfl rfl [0, 1, 2, 3, 4, 5, 6, 7] (by decide) rfl (fun _ => rfl) (fun u => [(o, co 6 [vi N, vi P, .ref c, .ref l, .ref t, .ref n, .ref h, vi e, .ref b, .ref f]), (c, ca D 5 cap), (l, ca D 6 len), (t, ca D 30 lst), (n, ca D 12 nw), (h, ca D 60 hi), (b, ca D 1701 be), (f, ca D 6 fo)]) (fun _ => rfl) 5 rfl (fun u2 hu2 => ?_)
  obtain ⟨bz2, rfl⟩ : ∃ z, z = u2 := ⟨_, rfl⟩
  rcases hu2 with ⟨rfl, hb2⟩ | ⟨rfl, hb2⟩
  · skip
    have hb2 : 0 ≤ a ∧ a < N := hb2
    show G X D A 2 Q 0 0 5 [(0, .ref o), (1, vi a)] [vi 1] [(o, co 6 [vi N, vi P, .ref c, .ref l, .ref t, .ref n, .ref h, vi e, .ref b, .ref f]), (c, ca D 5 cap), (l, ca D 6 len), (t, ca D 30 lst), (n, ca D 12 nw), (h, ca D 60 hi), (b, ca D 1701 be), (f, ca D 6 fo)]
    refine g_if_eq O dX6_secondPost_5 8 16 rfl rfl (by omega) (fun h => absurd h (by decide)) (fun _ => ?_)
    refine g_aload_n O dX6_secondPost_8 9 0 rfl rfl ?_
    refine g_iload_n O dX6_secondPost_9 10 1 rfl rfl ?_
    refine g_callV (As := [vi a]) (rest := []) (na := 1) O (k_X6_second D o c l t n h b f N P cap len lst nw hi e be fo a hW (by omega)) dX6_secondPost_10 gX6_secondPost_X6_second rfl ⟨rfl, rfl⟩ (by decide +kernel) rfl (by decide) (by decide) rfl (Nat.le_of_ble_eq_true rfl) (q0 := 0) (ci := 6) rfl rfl [0, 1, 2, 3, 4, 5, 6, 7] (by decide) rfl (fun _ => rfl) (fun _ => [(o, co 6 [vi N, vi P, .ref c, .ref l, .ref t, .ref n, .ref h, vi e, .ref b, .ref f]), (c, ca D 5 cap), (l, ca D 6 len), (t, ca D 30 lst), (n, ca D 12 nw), (h, ca D 60 hi), (b, ca D 1701 be), (f, ca D 6 fo)]) (fun _ => rfl) 13 rfl (fun _ _ => ?_)
    show G X D A 2 Q 0 0 13 [(0, .ref o), (1, vi a)] [vi (sp N cap len lst a)] [(o, co 6 [vi N, vi P, .ref c, .ref l, .ref t, .ref n, .ref h, vi e, .ref b, .ref f]), (c, ca D 5 cap), (l, ca D 6 len), (t, ca D 30 lst), (n, ca D 12 nw), (h, ca D 60 hi), (b, ca D 1701 be), (f, ca D 6 fo)]
    refine g_goto O dX6_secondPost_13 18 rfl ?_
    exact g_iret O hQ dX6_secondPost_18 () (vi_eq (by split <;> omega)) rfl trivial ⟨by decide, by decide⟩
  · skip
    have hb2 : ¬ (0 ≤ a ∧ a < N) := hb2
    show G X D A 2 Q 0 0 5 [(0, .ref o), (1, vi a)] [vi 0] [(o, co 6 [vi N, vi P, .ref c, .ref l, .ref t, .ref n, .ref h, vi e, .ref b, .ref f]), (c, ca D 5 cap), (l, ca D 6 len), (t, ca D 30 lst), (n, ca D 12 nw), (h, ca D 60 hi), (b, ca D 1701 be), (f, ca D 6 fo)]
    refine g_if_eq O dX6_secondPost_5 8 16 rfl rfl (by omega) (fun _ => ?_) (fun h => absurd h (by decide))
    refine g_bipush O dX6_secondPost_16 18 rfl (by decide) ?_
    exact g_iret O hQ dX6_secondPost_18 () (vi_eq (by split <;> omega)) rfl trivial ⟨by decide, by decide⟩
theorem sX6_assign_6 : ∀ w ∈ wsX60, w ∈ wsX6_assign := by decide +kernel
theorem fX6_assign_13 : FK RX6 wsX6_assign 13 6 1 := ⟨RX6, TX6, 10, rfl, sX6_assign_6, by decide, List.mem_of_getElem? (i := 1) rfl⟩
theorem fX6_assign_16 : FK RX6 wsX6_assign 16 6 2 := ⟨RX6, TX6, 10, rfl, sX6_assign_6, by decide, List.mem_of_getElem? (i := 4) rfl⟩
theorem fX6_assign_26 : FK RX6 wsX6_assign 26 6 5 := ⟨RX6, TX6, 10, rfl, sX6_assign_6, by decide, List.mem_of_getElem? (i := 3) rfl⟩
theorem fX6_assign_7 : FK RX6 wsX6_assign 7 6 0 := ⟨RX6, TX6, 10, rfl, sX6_assign_6, by decide, List.mem_of_getElem? (i := 2) rfl⟩
set_option maxHeartbeats 4000000 in
set_option maxRecDepth 100000 in
theorem k_X6_assign (D : DD) (o c l t n h b f : Nat) (N P : Int) (cap len lst nw hi : Int → Int) (e : Int) (be fo : Int → Int) (a p : Int) (hW : WI N P cap len lst) (hnw : NW nw) (he : 0 ≤ e ∧ e ≤ 5) (ha : -2147483648 ≤ a ∧ a < 2147483648) (hp : -2147483648 ≤ p ∧ p < 2147483648) : Con (S := Int × (Int → Int) × (Int → Int) × Int) D yX6_assign wsX6_assign ({ frames := 2, cells := 0, slots := 0, locals := 43 }) 0 0 [.ref o, vi a, vi p] [(o, co 6 [vi N, vi P, .ref c, .ref l, .ref t, .ref n, .ref h, vi e, .ref b, .ref f]), (c, ca D 5 cap), (l, ca D 6 len), (t, ca D 30 lst), (n, ca D 12 nw), (h, ca D 60 hi), (b, ca D 1701 be), (f, ca D 6 fo)] (fun u => some (vi u.1)) (fun u => (¬ (0 ≤ a ∧ a < N ∧ -1 ≤ p ∧ p < P) ∧ u.1 = -101 ∧ u.2.1 = nw ∧ u.2.2.1 = hi ∧ u.2.2.2 = e) ∨ ((0 ≤ a ∧ a < N ∧ 0 ≤ p ∧ p < P) ∧ ¬ rk (row lst a) p (len a) < len a ∧ u.1 = -102 ∧ u.2.1 = nw ∧ u.2.2.1 = hi ∧ u.2.2.2 = e) ∨ ((0 ≤ a ∧ a < N ∧ 0 ≤ p ∧ p < P) ∧ rk (row lst a) p (len a) < len a ∧ cap p ≤ sm (oth nw p a) N ∧ u.1 = -103 ∧ u.2.1 = nw ∧ u.2.2.1 = hi ∧ u.2.2.2 = e) ∨ ((0 ≤ a ∧ a < N ∧ -1 ≤ p ∧ p < P) ∧ (p = -1 ∨ (rk (row lst a) p (len a) < len a ∧ sm (oth nw p a) N < cap p)) ∧ u.1 = nw a ∧ u.2.1 = up nw a p ∧ u.2.2.1 = edh e nw hi ∧ u.2.2.2 = hpc e)) (fun u => [(o, co 6 [vi N, vi P, .ref c, .ref l, .ref t, .ref n, .ref h, vi u.2.2.2, .ref b, .ref f]), (c, ca D 5 cap), (l, ca D 6 len), (t, ca D 30 lst), (n, ca D 12 u.2.1), (h, ca D 60 u.2.2.1), (b, ca D 1701 be), (f, ca D 6 fo)]) := by
  refine Con.of (cc := cX6_assign) (nL := 5) (ret := (some .int)) rfl (by decide +kernel) (Nat.le_of_ble_eq_true rfl) ?_
  intro X A Q O hQ hin
  show G X D A 5 Q 0 0 0 [(0, .ref o), (1, vi a), (2, vi p)] [] [(o, co 6 [vi N, vi P, .ref c, .ref l, .ref t, .ref n, .ref h, vi e, .ref b, .ref f]), (c, ca D 5 cap), (l, ca D 6 len), (t, ca D 30 lst), (n, ca D 12 nw), (h, ca D 60 hi), (b, ca D 1701 be), (f, ca D 6 fo)]
  obtain ⟨hN, hcap, hlen, hlst, hdis⟩ := id hW
  refine g_aload_n O dX6_assign_0 1 0 rfl rfl ?_
  refine g_iload_n O dX6_assign_1 2 1 rfl rfl ?_
  refine g_callV (As := [vi a]) (rest := []) (na := 1) O (k_X6_isApplicant D o c l t n h b f N P cap len lst nw hi e be fo a hW (by omega)) dX6_assign_2 gX6_assign_X6_isApplicant rfl ⟨rfl, rfl⟩ (by decide +kernel) rfl (by decide) (by decide) rfl (Nat.le_of_ble_eq_true rfl) (q0 := 0) (ci := 6) rfl rfl [0, 1, 2, 3, 4, 5, 6, 7] (by decide) rfl (fun _ => rfl) (fun u => [(o, co 6 [vi N, vi P, .ref c, .ref l, .ref t, .ref n, .ref h, vi e, .ref b, .ref f]), (c, ca D 5 cap), (l, ca D 6 len), (t, ca D 30 lst), (n, ca D 12 nw), (h, ca D 60 hi), (b, ca D 1701 be), (f, ca D 6 fo)]) (fun _ => rfl) 5 rfl (fun u2 hu2 => ?_)
  obtain ⟨bz2, rfl⟩ : ∃ z, z = u2 := ⟨_, rfl⟩
  rcases hu2 with ⟨rfl, hb2⟩ | ⟨rfl, hb2⟩
  · skip
    have hb2 : 0 ≤ a ∧ a < N := hb2
    show G X D A 5 Q 0 0 5 [(0, .ref o), (1, vi a), (2, vi p)] [vi 1] [(o, co 6 [vi N, vi P, .ref c, .ref l, .ref t, .ref n, .ref h, vi e, .ref b, .ref f]), (c, ca D 5 cap), (l, ca D 6 len), (t, ca D 30 lst), (n, ca D 12 nw), (h, ca D 60 hi), (b, ca D 1701 be), (f, ca D 6 fo)]
    refine g_if_eq O dX6_assign_5 8 22 rfl rfl (by omega) (fun h => absurd h (by decide)) (fun _ => ?_)
    refine g_iload_n O dX6_assign_8 9 2 rfl rfl ?_
    refine g_iconst O dX6_assign_9 10 rfl ?_
    refine g_aload_n O dX6_assign_10 11 0 rfl rfl ?_
    refine g_get O dX6_assign_11 14 rfl fX6_assign_13 0 rfl rfl ?_
    refine g_iconst O dX6_assign_14 15 rfl ?_
    refine g_isub O dX6_assign_15 16 rfl ?_
    refine g_callS (As := [vi p, vi (-1), vi (P - 1)]) (rest := []) (na := 3) O (k_X6_in D p (-1) (P - 1) (by omega) (by omega) (by omega)) dX6_assign_16 gX6_assign_X6_in rfl ⟨rfl, rfl⟩ (by decide +kernel) rfl (by decide) (by decide) rfl (Nat.le_of_ble_eq_true rfl) [] (by decide) rfl (fun _ => rfl) (fun u => [(o, co 6 [vi N, vi P, .ref c, .ref l, .ref t, .ref n, .ref h, vi e, .ref b, .ref f]), (c, ca D 5 cap), (l, ca D 6 len), (t, ca D 30 lst), (n, ca D 12 nw), (h, ca D 60 hi), (b, ca D 1701 be), (f, ca D 6 fo)]) (fun _ => rfl) 19 rfl (fun u16 hu16 => ?_)
    obtain ⟨bz16, rfl⟩ : ∃ z, z = u16 := ⟨_, rfl⟩
    rcases hu16 with ⟨rfl, hb16⟩ | ⟨rfl, hb16⟩
    · skip
      have hb16 : (-1) ≤ p ∧ p ≤ (P - 1) := hb16
      show G X D A 5 Q 0 0 19 [(0, .ref o), (1, vi a), (2, vi p)] [vi 1] [(o, co 6 [vi N, vi P, .ref c, .ref l, .ref t, .ref n, .ref h, vi e, .ref b, .ref f]), (c, ca D 5 cap), (l, ca D 6 len), (t, ca D 30 lst), (n, ca D 12 nw), (h, ca D 60 hi), (b, ca D 1701 be), (f, ca D 6 fo)]
      refine g_if_ne O dX6_assign_19 22 25 rfl rfl (by omega) (fun _ => ?_) (fun h => absurd h (by decide))
      have hla := hlen a (by omega) (by omega)
      have hrb := rm9_bd hW (a := a) (p := p) (by omega) (by omega)
      have lp43 : (p = -1 ∨ rk (row lst a) p (len a) < len a) → G X D A 5 Q 0 0 43 [(0, .ref o), (1, vi a), (2, vi p)] [] [(o, co 6 [vi N, vi P, .ref c, .ref l, .ref t, .ref n, .ref h, vi e, .ref b, .ref f]), (c, ca D 5 cap), (l, ca D 6 len), (t, ca D 30 lst), (n, ca D 12 nw), (h, ca D 60 hi), (b, ca D 1701 be), (f, ca D 6 fo)] := by
        intro  hs
        refine g_iconst O dX6_assign_43 44 rfl ?_
        refine g_istore_n O dX6_assign_44 45 [(0, .ref o), (1, vi a), (2, vi p), (3, vi 0)] rfl (by decide) rfl ?_
        refine g_iconst O dX6_assign_45 46 rfl ?_
        refine g_istore O dX6_assign_46 48 [(0, .ref o), (1, vi a), (2, vi p), (3, vi 0), (4, vi 0)] rfl (by decide) rfl ?_
        have lp48 : ∀ (nn : Nat) (i : Int) (s : Int), (0 ≤ i ∧ i ≤ N) → (s = sm (oth nw p a) i) → (N - i < (nn : Int)) → G X D A 5 Q 0 0 48 [(0, .ref o), (1, vi a), (2, vi p), (3, vi s), (4, vi i)] [] [(o, co 6 [vi N, vi P, .ref c, .ref l, .ref t, .ref n, .ref h, vi e, .ref b, .ref f]), (c, ca D 5 cap), (l, ca D 6 len), (t, ca D 30 lst), (n, ca D 12 nw), (h, ca D 60 hi), (b, ca D 1701 be), (f, ca D 6 fo)] := by
          intro nn
          induction nn with
          | zero =>
            intro i s h1 h2 hm48
            exact absurd hm48 (by omega)
          | succ nn ih48 =>
            intro i s h1 h2 hm48
            refine g_iload O dX6_assign_48 50 4 rfl rfl ?_
            refine g_aload_n O dX6_assign_50 51 0 rfl rfl ?_
            refine g_get O dX6_assign_51 54 rfl fX6_assign_7 0 rfl rfl ?_
            refine g_icmp_ge O dX6_assign_54 57 88 rfl rfl (by omega) (fun h54 => ?_) (fun h54 => ?_)
            · skip
              have hsb := sm_bd (g := oth nw p a) (fun kk => by unfold oth; split <;> omega) h1.1
              have hiN : i = N := by omega
              have hsN : s = sm (oth nw p a) N := by rw [h2, hiN]
              refine g_iload_n O dX6_assign_88 89 2 rfl rfl ?_
              refine g_if_lt O dX6_assign_89 92 105 rfl rfl (by omega) (fun h89 => ?_) (fun h89 => ?_)
              · skip
                refine g_aload_n O dX6_assign_105 106 0 rfl rfl ?_
                refine g_callV (As := []) (rest := []) (na := 0) O (k_X6_edit D o c l t n h b f N P cap len lst nw hi e be fo (by omega)) dX6_assign_106 gX6_assign_X6_edit rfl ⟨rfl, rfl⟩ (by decide +kernel) rfl (by decide) (by decide) rfl (Nat.le_of_ble_eq_true rfl) (q0 := 0) (ci := 6) rfl rfl [0, 1, 2, 3, 4, 5, 6, 7] (by decide) rfl (fun _ => rfl) (fun _ => [(o, co 6 [vi N, vi P, .ref c, .ref l, .ref t, .ref n, .ref h, vi (hpc e), .ref b, .ref f]), (c, ca D 5 cap), (l, ca D 6 len), (t, ca D 30 lst), (n, ca D 12 nw), (h, ca D 60 (edh e nw hi)), (b, ca D 1701 be), (f, ca D 6 fo)]) (fun _ => rfl) 109 rfl (fun _ _ => ?_)
                show G X D A 5 Q 0 0 109 [(0, .ref o), (1, vi a), (2, vi p), (3, vi s), (4, vi i)] [] [(o, co 6 [vi N, vi P, .ref c, .ref l, .ref t, .ref n, .ref h, vi (hpc e), .ref b, .ref f]), (c, ca D 5 cap), (l, ca D 6 len), (t, ca D 30 lst), (n, ca D 12 nw), (h, ca D 60 (edh e nw hi)), (b, ca D 1701 be), (f, ca D 6 fo)]
                refine g_aload_n O dX6_assign_109 110 0 rfl rfl ?_
                refine g_get O dX6_assign_110 113 rfl fX6_assign_26 0 rfl rfl ?_
                refine g_iload_n O dX6_assign_113 114 1 rfl rfl ?_
                refine g_iald O dX6_assign_114 115 rfl 4 rfl (by decide) (by omega) ?_
                refine g_istore O dX6_assign_115 117 [(0, .ref o), (1, vi a), (2, vi p), (3, vi s), (4, vi (nw a))] rfl (by decide) rfl ?_
                refine g_aload_n O dX6_assign_117 118 0 rfl rfl ?_
                refine g_get O dX6_assign_118 121 rfl fX6_assign_26 0 rfl rfl ?_
                refine g_iload_n O dX6_assign_121 122 1 rfl rfl ?_
                refine g_iload_n O dX6_assign_122 123 2 rfl rfl ?_
                refine g_iast O dX6_assign_123 124 rfl 4 rfl (by decide) (by omega) [(o, co 6 [vi N, vi P, .ref c, .ref l, .ref t, .ref n, .ref h, vi (hpc e), .ref b, .ref f]), (c, ca D 5 cap), (l, ca D 6 len), (t, ca D 30 lst), (n, ca D 12 (up nw a p)), (h, ca D 60 (edh e nw hi)), (b, ca D 1701 be), (f, ca D 6 fo)] rfl ?_
                refine g_iload O dX6_assign_124 126 4 rfl rfl ?_
                exact g_iret O hQ dX6_assign_126 (nw a, up nw a p, edh e nw hi, hpc e) rfl rfl (Or.inr (Or.inr (Or.inr ⟨by omega, by first | (left; omega) | (rcases hs with q | q; exact Or.inl q; right; exact ⟨q, by omega⟩), rfl, rfl, rfl, rfl⟩))) ⟨by decide, by decide⟩
              · skip
                have hcp := hcap p (by omega) (by omega)
                refine g_iload_n O dX6_assign_92 93 3 rfl rfl ?_
                refine g_aload_n O dX6_assign_93 94 0 rfl rfl ?_
                refine g_get O dX6_assign_94 97 rfl fX6_assign_16 0 rfl rfl ?_
                refine g_iload_n O dX6_assign_97 98 2 rfl rfl ?_
                refine g_iald O dX6_assign_98 99 rfl 1 rfl (by decide) (by omega) ?_
                refine g_icmp_lt O dX6_assign_99 102 105 rfl rfl (by omega) (fun h99 => ?_) (fun h99 => ?_)
                · skip
                  refine g_aload_n O dX6_assign_105 106 0 rfl rfl ?_
                  refine g_callV (As := []) (rest := []) (na := 0) O (k_X6_edit D o c l t n h b f N P cap len lst nw hi e be fo (by omega)) dX6_assign_106 gX6_assign_X6_edit rfl ⟨rfl, rfl⟩ (by decide +kernel) rfl (by decide) (by decide) rfl (Nat.le_of_ble_eq_true rfl) (q0 := 0) (ci := 6) rfl rfl [0, 1, 2, 3, 4, 5, 6, 7] (by decide) rfl (fun _ => rfl) (fun _ => [(o, co 6 [vi N, vi P, .ref c, .ref l, .ref t, .ref n, .ref h, vi (hpc e), .ref b, .ref f]), (c, ca D 5 cap), (l, ca D 6 len), (t, ca D 30 lst), (n, ca D 12 nw), (h, ca D 60 (edh e nw hi)), (b, ca D 1701 be), (f, ca D 6 fo)]) (fun _ => rfl) 109 rfl (fun _ _ => ?_)
                  show G X D A 5 Q 0 0 109 [(0, .ref o), (1, vi a), (2, vi p), (3, vi s), (4, vi i)] [] [(o, co 6 [vi N, vi P, .ref c, .ref l, .ref t, .ref n, .ref h, vi (hpc e), .ref b, .ref f]), (c, ca D 5 cap), (l, ca D 6 len), (t, ca D 30 lst), (n, ca D 12 nw), (h, ca D 60 (edh e nw hi)), (b, ca D 1701 be), (f, ca D 6 fo)]
                  refine g_aload_n O dX6_assign_109 110 0 rfl rfl ?_
                  refine g_get O dX6_assign_110 113 rfl fX6_assign_26 0 rfl rfl ?_
                  refine g_iload_n O dX6_assign_113 114 1 rfl rfl ?_
                  refine g_iald O dX6_assign_114 115 rfl 4 rfl (by decide) (by omega) ?_
                  refine g_istore O dX6_assign_115 117 [(0, .ref o), (1, vi a), (2, vi p), (3, vi s), (4, vi (nw a))] rfl (by decide) rfl ?_
                  refine g_aload_n O dX6_assign_117 118 0 rfl rfl ?_
                  refine g_get O dX6_assign_118 121 rfl fX6_assign_26 0 rfl rfl ?_
                  refine g_iload_n O dX6_assign_121 122 1 rfl rfl ?_
                  refine g_iload_n O dX6_assign_122 123 2 rfl rfl ?_
                  refine g_iast O dX6_assign_123 124 rfl 4 rfl (by decide) (by omega) [(o, co 6 [vi N, vi P, .ref c, .ref l, .ref t, .ref n, .ref h, vi (hpc e), .ref b, .ref f]), (c, ca D 5 cap), (l, ca D 6 len), (t, ca D 30 lst), (n, ca D 12 (up nw a p)), (h, ca D 60 (edh e nw hi)), (b, ca D 1701 be), (f, ca D 6 fo)] rfl ?_
                  refine g_iload O dX6_assign_124 126 4 rfl rfl ?_
                  exact g_iret O hQ dX6_assign_126 (nw a, up nw a p, edh e nw hi, hpc e) rfl rfl (Or.inr (Or.inr (Or.inr ⟨by omega, by first | (left; omega) | (rcases hs with q | q; exact Or.inl q; right; exact ⟨q, by omega⟩), rfl, rfl, rfl, rfl⟩))) ⟨by decide, by decide⟩
                · skip
                  refine g_bipush O dX6_assign_102 104 rfl (by decide) ?_
                  exact g_iret O hQ dX6_assign_104 (-103, nw, hi, e) rfl rfl (Or.inr (Or.inr (Or.inl ⟨by omega, by rcases hs with q | q; omega; exact q, by omega, rfl, rfl, rfl, rfl⟩))) ⟨by decide, by decide⟩
            · skip
              refine g_iload_n O dX6_assign_57 58 3 rfl rfl ?_
              refine g_iload O dX6_assign_58 60 4 rfl rfl ?_
              refine g_iload_n O dX6_assign_60 61 1 rfl rfl ?_
              refine g_icmp_eq O dX6_assign_61 64 79 rfl rfl (by omega) (fun h61 => ?_) (fun h61 => ?_)
              · skip
                refine g_iconst O dX6_assign_79 80 rfl ?_
                refine g_iadd O dX6_assign_80 81 rfl ?_
                refine g_istore_n O dX6_assign_81 82 [(0, .ref o), (1, vi a), (2, vi p), (3, vi (s + 0)), (4, vi i)] rfl (by decide) rfl ?_
                refine g_iinc O dX6_assign_82 85 4 [(0, .ref o), (1, vi a), (2, vi p), (3, vi (s + 0)), (4, vi (i + 1))] rfl (by decide) rfl rfl ?_
                refine g_goto O dX6_assign_85 48 rfl ?_
                exact ih48 (i + 1) (s + 0) (by omega) (by rw [sm_s _ h1.1, ← h2]; unfold oth; split <;> omega) (by omega)
              · skip
                have hni := hnw i (by omega) (by omega)
                refine g_aload_n O dX6_assign_64 65 0 rfl rfl ?_
                refine g_get O dX6_assign_65 68 rfl fX6_assign_26 0 rfl rfl ?_
                refine g_iload O dX6_assign_68 70 4 rfl rfl ?_
                refine g_iald O dX6_assign_70 71 rfl 4 rfl (by decide) (by omega) ?_
                refine g_iload_n O dX6_assign_71 72 2 rfl rfl ?_
                refine g_icmp_ne O dX6_assign_72 75 79 rfl rfl (by omega) (fun h72 => ?_) (fun h72 => ?_)
                · skip
                  refine g_iconst O dX6_assign_79 80 rfl ?_
                  refine g_iadd O dX6_assign_80 81 rfl ?_
                  refine g_istore_n O dX6_assign_81 82 [(0, .ref o), (1, vi a), (2, vi p), (3, vi (s + 0)), (4, vi i)] rfl (by decide) rfl ?_
                  refine g_iinc O dX6_assign_82 85 4 [(0, .ref o), (1, vi a), (2, vi p), (3, vi (s + 0)), (4, vi (i + 1))] rfl (by decide) rfl rfl ?_
                  refine g_goto O dX6_assign_85 48 rfl ?_
                  exact ih48 (i + 1) (s + 0) (by omega) (by rw [sm_s _ h1.1, ← h2]; unfold oth; split <;> omega) (by omega)
                · skip
                  refine g_iconst O dX6_assign_75 76 rfl ?_
                  refine g_goto O dX6_assign_76 80 rfl ?_
                  refine g_iadd O dX6_assign_80 81 rfl ?_
                  refine g_istore_n O dX6_assign_81 82 [(0, .ref o), (1, vi a), (2, vi p), (3, vi (s + 1)), (4, vi i)] rfl (by decide) rfl ?_
                  refine g_iinc O dX6_assign_82 85 4 [(0, .ref o), (1, vi a), (2, vi p), (3, vi (s + 1)), (4, vi (i + 1))] rfl (by decide) rfl rfl ?_
                  refine g_goto O dX6_assign_85 48 rfl ?_
                  exact ih48 (i + 1) (s + 1) (by omega) (by rw [sm_s _ h1.1, ← h2]; unfold oth; split <;> omega) (by omega)
        exact lp48 1000 0 0 (by omega) (sm_0 _).symm (by omega)
      refine g_iload_n O dX6_assign_25 26 2 rfl rfl ?_
      refine g_if_lt O dX6_assign_26 29 43 rfl rfl (by omega) (fun h26 => ?_) (fun h26 => ?_)
      · skip
        exact lp43 (by first | (left; omega) | (right; exact rm9_lt (by omega)))
      · skip
        refine g_aload_n O dX6_assign_29 30 0 rfl rfl ?_
        refine g_iload_n O dX6_assign_30 31 1 rfl rfl ?_
        refine g_iload_n O dX6_assign_31 32 2 rfl rfl ?_
        refine g_callV (As := [vi a, vi p]) (rest := []) (na := 2) O (k_X6_rank D o c l t n h b f N P cap len lst nw hi e be fo a p hW (by omega) (by omega)) dX6_assign_32 gX6_assign_X6_rank rfl ⟨rfl, rfl⟩ (by decide +kernel) rfl (by decide) (by decide) rfl (Nat.le_of_ble_eq_true rfl) (q0 := 0) (ci := 6) rfl rfl [0, 1, 2, 3, 4, 5, 6, 7] (by decide) rfl (fun _ => rfl) (fun _ => [(o, co 6 [vi N, vi P, .ref c, .ref l, .ref t, .ref n, .ref h, vi e, .ref b, .ref f]), (c, ca D 5 cap), (l, ca D 6 len), (t, ca D 30 lst), (n, ca D 12 nw), (h, ca D 60 hi), (b, ca D 1701 be), (f, ca D 6 fo)]) (fun _ => rfl) 35 rfl (fun _ _ => ?_)
        show G X D A 5 Q 0 0 35 [(0, .ref o), (1, vi a), (2, vi p)] [vi (rm9 len lst a p)] [(o, co 6 [vi N, vi P, .ref c, .ref l, .ref t, .ref n, .ref h, vi e, .ref b, .ref f]), (c, ca D 5 cap), (l, ca D 6 len), (t, ca D 30 lst), (n, ca D 12 nw), (h, ca D 60 hi), (b, ca D 1701 be), (f, ca D 6 fo)]
        refine g_bipush O dX6_assign_35 37 rfl (by decide) ?_
        refine g_icmp_ne O dX6_assign_37 40 43 rfl rfl (by omega) (fun h37 => ?_) (fun h37 => ?_)
        · skip
          exact lp43 (by first | (left; omega) | (right; exact rm9_lt (by omega)))
        · skip
          refine g_bipush O dX6_assign_40 42 rfl (by decide) ?_
          exact g_iret O hQ dX6_assign_42 (-102, nw, hi, e) rfl rfl (Or.inr (Or.inl ⟨by omega, rm9_ge hW (by omega) (by omega) (by omega), rfl, rfl, rfl, rfl⟩)) ⟨by decide, by decide⟩
    · skip
      have hb16 : ¬ ((-1) ≤ p ∧ p ≤ (P - 1)) := hb16
      show G X D A 5 Q 0 0 19 [(0, .ref o), (1, vi a), (2, vi p)] [vi 0] [(o, co 6 [vi N, vi P, .ref c, .ref l, .ref t, .ref n, .ref h, vi e, .ref b, .ref f]), (c, ca D 5 cap), (l, ca D 6 len), (t, ca D 30 lst), (n, ca D 12 nw), (h, ca D 60 hi), (b, ca D 1701 be), (f, ca D 6 fo)]
      refine g_if_ne O dX6_assign_19 22 25 rfl rfl (by omega) (fun h => absurd h (by decide)) (fun _ => ?_)
      refine g_bipush O dX6_assign_22 24 rfl (by decide) ?_
      exact g_iret O hQ dX6_assign_24 (-101, nw, hi, e) rfl rfl (Or.inl ⟨by omega, rfl, rfl, rfl, rfl⟩) ⟨by decide, by decide⟩
  · skip
    have hb2 : ¬ (0 ≤ a ∧ a < N) := hb2
    show G X D A 5 Q 0 0 5 [(0, .ref o), (1, vi a), (2, vi p)] [vi 0] [(o, co 6 [vi N, vi P, .ref c, .ref l, .ref t, .ref n, .ref h, vi e, .ref b, .ref f]), (c, ca D 5 cap), (l, ca D 6 len), (t, ca D 30 lst), (n, ca D 12 nw), (h, ca D 60 hi), (b, ca D 1701 be), (f, ca D 6 fo)]
    refine g_if_eq O dX6_assign_5 8 22 rfl rfl (by omega) (fun _ => ?_) (fun h => absurd h (by decide))
    refine g_bipush O dX6_assign_22 24 rfl (by decide) ?_
    exact g_iret O hQ dX6_assign_24 (-101, nw, hi, e) rfl rfl (Or.inl ⟨by omega, rfl, rfl, rfl, rfl⟩) ⟨by decide, by decide⟩
