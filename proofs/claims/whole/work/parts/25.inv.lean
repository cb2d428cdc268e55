-- ===== 25 the law's picture: the class and the reference, side by side =====
def MV (N : Int) (m : Int → Int) : Prop := ∀ a, 0 ≤ a → a < 6 → (-1 ≤ m a ∧ m a < 5) ∧ (N ≤ a → m a = -1)
def HH (N cnt : Int) (hp hs : Int → Int → Int) (hi : Int → Int) : Prop := ∀ x, 0 ≤ x → x < cnt → MV N (hp x) ∧ MV N (hs x) ∧ ∀ k, 0 ≤ k → k < 6 → hi (12 * x + k) = hp x k ∧ hi (12 * x + (6 + k)) = hs x k
def PS (pr sv nw : Int → Int) : Prop := ∀ k, 0 ≤ k → k < 6 → nw k = pr k ∧ nw (6 + k) = sv k
/-- what holds of both sides between two calls -/
def BASE (N P : Int) (cap len lst pr sv : Int → Int) (cnt : Int) (hp hs : Int → Int → Int) (nw hi : Int → Int) : Prop :=
  WI N P cap len lst ∧ (0 ≤ cnt ∧ cnt ≤ 5) ∧ MV N pr ∧ MV N sv ∧ PS pr sv nw ∧ HH N cnt hp hs hi
def INV (N P : Int) (cap len lst pr sv : Int → Int) (cnt : Int) (hp hs : Int → Int → Int) (N' P' : Int) (cap' len' lst' nw hi : Int → Int) (e : Int) : Prop :=
  (N' = N ∧ P' = P ∧ cap' = cap ∧ len' = len ∧ lst' = lst ∧ e = cnt) ∧ BASE N P cap len lst pr sv cnt hp hs nw hi
theorem MV.m6 {N : Int} {m : Int → Int} (h : MV N m) : ∀ k, 0 ≤ k → k < 6 → -1 ≤ m k ∧ m k < 5 := fun k k0 k1 => (h k k0 k1).1
theorem MV_none (N : Int) : MV N (fun _ => -1) := fun a _ _ => ⟨⟨Int.le_refl _, by show (-1 : Int) < 5; omega⟩, fun _ => rfl⟩
theorem NW_of {N : Int} {pr sv nw : Int → Int} (h1 : MV N pr) (h2 : MV N sv) (h : PS pr sv nw) : NW nw := by
  intro k k0 k1
  by_cases c : k < 6
  · rw [(h k k0 c).1]
    exact (h1 k k0 c).1
  · have h3 := (h (k - 6) (by omega) (by omega)).2
    rw [show 6 + (k - 6) = k by omega] at h3
    rw [h3]
    exact (h2 (k - 6) (by omega) (by omega)).1
theorem HH_0 (N : Int) (hp hs : Int → Int → Int) (hi : Int → Int) : HH N 0 hp hs hi := fun x x0 x1 => absurd x1 (by omega)
theorem edh_new {e k : Int} {nw hi : Int → Int} (h0 : 0 ≤ k) (h1 : k < 12) : edh e nw hi (12 * (if e = 5 then 4 else e) + k) = nw k := by
  unfold edh
  rw [if_pos ⟨by omega, by omega⟩]
  congr 1
  omega
theorem edh_old {e x k : Int} {nw hi : Int → Int} (he : ¬ e = 5) (hx : x < e) (h0 : 0 ≤ k) (h1 : k < 12) : edh e nw hi (12 * x + k) = hi (12 * x + k) := by
  unfold edh
  rw [if_neg he, if_neg (by omega), if_neg (fun q => he q.1)]
theorem edh_five {x k : Int} {nw hi : Int → Int} (x0 : 0 ≤ x) (hx : x < 4) (h0 : 0 ≤ k) (h1 : k < 12) : edh 5 nw hi (12 * x + k) = hi (12 * (x + 1) + k) := by
  unfold edh
  rw [if_pos rfl, if_neg (by omega), if_pos ⟨rfl, by omega⟩]
  congr 1
  omega
theorem hpc_bd {cnt : Int} (h : 0 ≤ cnt ∧ cnt ≤ 5) : 0 ≤ hpc cnt ∧ hpc cnt ≤ 5 := by
  unfold hpc
  split <;> omega
theorem HH_edit {N cnt : Int} {pr sv nw hi : Int → Int} {hp hs : Int → Int → Int} (hc : 0 ≤ cnt ∧ cnt ≤ 5) (h1 : MV N pr) (h2 : MV N sv) (h : PS pr sv nw) (hh : HH N cnt hp hs hi) : HH N (hpc cnt) (hpu cnt hp pr) (hpu cnt hs sv) (edh cnt nw hi) := by
  intro x x0 x1
  by_cases c : cnt = 5
  · subst c
    have x2 : x < 5 := x1
    by_cases d : x = 4
    · subst d
      have e1 : hpu 5 hp pr 4 = pr := rfl
      have e2 : hpu 5 hs sv 4 = sv := rfl
      rw [e1, e2]
      refine ⟨h1, h2, fun k k0 k1 => ?_⟩
      have q1 := edh_new (e := 5) (nw := nw) (hi := hi) k0 (by omega)
      have q2 := edh_new (e := 5) (nw := nw) (hi := hi) (k := 6 + k) (by omega) (by omega)
      rw [if_pos rfl] at q1 q2
      rw [q1, q2]
      exact h k k0 k1
    · have e1 : hpu 5 hp pr x = hp (x + 1) := by unfold hpu; rw [if_pos rfl, if_neg d]
      have e2 : hpu 5 hs sv x = hs (x + 1) := by unfold hpu; rw [if_pos rfl, if_neg d]
      rw [e1, e2]
      obtain ⟨a1, a2, a3⟩ := hh (x + 1) (by omega) (by omega)
      refine ⟨a1, a2, fun k k0 k1 => ?_⟩
      rw [edh_five x0 (by omega) k0 (by omega), edh_five x0 (by omega) (by omega) (by omega)]
      exact a3 k k0 k1
  · have x2 : x < cnt + 1 := by
      unfold hpc at x1
      rwa [if_neg c] at x1
    by_cases d : x = cnt
    · subst d
      have e1 : hpu x hp pr x = pr := by unfold hpu; rw [if_neg c, if_pos rfl]
      have e2 : hpu x hs sv x = sv := by unfold hpu; rw [if_neg c, if_pos rfl]
      rw [e1, e2]
      refine ⟨h1, h2, fun k k0 k1 => ?_⟩
      have q1 := edh_new (e := x) (nw := nw) (hi := hi) k0 (by omega)
      have q2 := edh_new (e := x) (nw := nw) (hi := hi) (k := 6 + k) (by omega) (by omega)
      rw [if_neg c] at q1 q2
      rw [q1, q2]
      exact h k k0 k1
    · have e1 : hpu cnt hp pr x = hp x := by unfold hpu; rw [if_neg c, if_neg d]
      have e2 : hpu cnt hs sv x = hs x := by unfold hpu; rw [if_neg c, if_neg d]
      rw [e1, e2]
      obtain ⟨a1, a2, a3⟩ := hh x x0 (by omega)
      refine ⟨a1, a2, fun k k0 k1 => ?_⟩
      rw [edh_old c (by omega) k0 (by omega), edh_old c (by omega) (by omega) (by omega)]
      exact a3 k k0 k1
theorem sm_6 {g : Int → Int} {N : Int} (hN : 1 ≤ N ∧ N ≤ 6) (h : ∀ k, N ≤ k → k < 6 → g k = 0) : sm g 6 = sm g N := by
  have s5 : sm g 6 = sm g 5 + g 5 := sm_s g (i := 5) (by omega)
  have s4 : sm g 5 = sm g 4 + g 4 := sm_s g (i := 4) (by omega)
  have s3 : sm g 4 = sm g 3 + g 3 := sm_s g (i := 3) (by omega)
  have s2 : sm g 3 = sm g 2 + g 2 := sm_s g (i := 2) (by omega)
  have s1 : sm g 2 = sm g 1 + g 1 := sm_s g (i := 1) (by omega)
  rcases (show N = 1 ∨ N = 2 ∨ N = 3 ∨ N = 4 ∨ N = 5 ∨ N = 6 by omega) with rfl | rfl | rfl | rfl | rfl | rfl
  · rw [s5, s4, s3, s2, s1, h 5 (by omega) (by omega), h 4 (by omega) (by omega), h 3 (by omega) (by omega), h 2 (by omega) (by omega), h 1 (by omega) (by omega)]
    omega
  · rw [s5, s4, s3, s2, h 5 (by omega) (by omega), h 4 (by omega) (by omega), h 3 (by omega) (by omega), h 2 (by omega) (by omega)]
    omega
  · rw [s5, s4, s3, h 5 (by omega) (by omega), h 4 (by omega) (by omega), h 3 (by omega) (by omega)]
    omega
  · rw [s5, s4, h 5 (by omega) (by omega), h 4 (by omega) (by omega)]
    omega
  · rw [s5, h 5 (by omega) (by omega)]
    omega
  · rfl
theorem WI_reset {m p : Int} {lst : Int → Int} (h : 1 ≤ m ∧ m ≤ 6 ∧ 1 ≤ p ∧ p ≤ 5) : WI m p (fun _ => 1) (fun _ => 0) lst :=
  ⟨h, fun _ _ _ => ⟨Int.le_refl _, by show (1 : Int) ≤ 2; omega⟩, fun _ _ _ => ⟨Int.le_refl _, by show (0 : Int) ≤ p; omega⟩, fun a k _ _ k0 k1 => absurd (show k < 0 from k1) (by omega), fun a j k _ _ j0 jk k1 => absurd (show k < 0 from k1) (by omega)⟩
section Inv
variable {N P : Int} {cap len lst : Int → Int}
theorem WI_cap (hW : WI N P cap len lst) {p x : Int} (h : 1 ≤ x ∧ x ≤ 2) : WI N P (up cap p x) len lst := by
  obtain ⟨hN, hcap, hlen, hlst, hdis⟩ := hW
  refine ⟨hN, fun k k0 k1 => ?_, hlen, hlst, hdis⟩
  unfold up
  split
  · exact h
  · exact hcap k k0 k1
theorem WI_clr (hW : WI N P cap len lst) {a : Int} : WI N P cap (up len a 0) lst := by
  obtain ⟨hN, hcap, hlen, hlst, hdis⟩ := hW
  refine ⟨hN, hcap, fun b b0 b1 => ?_, fun b k b0 b1 k0 k1 => ?_, fun b j k b0 b1 j0 jk k1 => ?_⟩
  · unfold up
    split
    · omega
    · exact hlen b b0 b1
  · unfold up at k1
    split at k1
    · omega
    · exact hlst b k b0 b1 k0 k1
  · unfold up at k1
    split at k1
    · omega
    · exact hdis b j k b0 b1 j0 jk k1
theorem WI_app (hW : WI N P cap len lst) {a p : Int} (h : 0 ≤ a ∧ a < N ∧ 0 ≤ p ∧ p < P) (hr : ¬ rk (row lst a) p (len a) < len a) : WI N P cap (up len a (len a + 1)) (up lst (a * 5 + len a) p) := by
  have hroom := WI_room hW (a := a) (p := p) h.1 (by have := hW.1; omega) h.2.2.1 h.2.2.2 hr
  obtain ⟨hN, hcap, hlen, hlst, hdis⟩ := hW
  have hla := hlen a h.1 (by omega)
  have e1 : ∀ b k, 0 ≤ b → b < 6 → 0 ≤ k → k < 5 → ¬ (b = a ∧ k = len a) → row (up lst (a * 5 + len a) p) b k = row lst b k := by
    intro b k b0 b1 k0 k1 hne
    unfold row
    exact up_n (by omega)
  have e2 : row (up lst (a * 5 + len a) p) a (len a) = p := up_s _ _ _
  have hrk := rk_le (row lst a) p (n := len a) hla.1
  refine ⟨hN, hcap, fun b b0 b1 => ?_, fun b k b0 b1 k0 k1 => ?_, fun b j k b0 b1 j0 jk k1 => ?_⟩
  · unfold up
    split
    · omega
    · exact hlen b b0 b1
  · unfold up at k1
    split at k1
    · rename_i c
      subst c
      by_cases d : k = len b
      · rw [d, e2]
        exact h.2.2
      · rw [e1 b k b0 b1 k0 (by omega) (fun q => d q.2)]
        exact hlst b k b0 b1 k0 (by omega)
    · rename_i c
      have := hlen b b0 b1
      rw [e1 b k b0 b1 k0 (by omega) (fun q => c q.1)]
      exact hlst b k b0 b1 k0 k1
  · unfold up at k1
    split at k1
    · rename_i c
      subst c
      by_cases d : k = len b
      · rw [d, e2, e1 b j b0 b1 j0 (by omega) (fun q => by omega)]
        exact rk_ne (n := len b) j0 (by omega)
      · rw [e1 b k b0 b1 (by omega) (by omega) (fun q => d q.2), e1 b j b0 b1 j0 (by omega) (fun q => by omega)]
        exact hdis b j k b0 b1 j0 jk (by omega)
    · rename_i c
      have := hlen b b0 b1
      rw [e1 b k b0 b1 (by omega) (by omega) (fun q => c q.1), e1 b j b0 b1 j0 (by omega) (fun q => c q.1)]
      exact hdis b j k b0 b1 j0 jk k1
theorem BASE_clear (hW : WI N P cap len lst) {hp hs : Int → Int → Int} {hi : Int → Int} : BASE N P cap len lst (fun _ => -1) (fun _ => -1) 0 hp hs (fun _ => -1) hi :=
  ⟨hW, by omega, MV_none N, MV_none N, fun _ _ _ => ⟨rfl, rfl⟩, HH_0 N hp hs hi⟩
section Ops
variable {pr sv : Int → Int} {cnt : Int} {hp hs : Int → Int → Int} {nw hi : Int → Int}
theorem BASE.same (hB : BASE N P cap len lst pr sv cnt hp hs nw hi) : INV N P cap len lst pr sv cnt hp hs N P cap len lst nw hi cnt := ⟨⟨rfl, rfl, rfl, rfl, rfl, rfl⟩, hB⟩
theorem BASE.edit (hB : BASE N P cap len lst pr sv cnt hp hs nw hi) {pr' sv' nw' : Int → Int} (h1 : MV N pr') (h2 : MV N sv') (h3 : PS pr' sv' nw') : BASE N P cap len lst pr' sv' (hpc cnt) (hpu cnt hp pr) (hpu cnt hs sv) nw' (edh cnt nw hi) := by
  obtain ⟨hW, hc, m1, m2, hps, hh⟩ := hB
  exact ⟨hW, hpc_bd hc, h1, h2, h3, HH_edit hc m1 m2 hps hh⟩
theorem BASE.size (hB : BASE N P cap len lst pr sv cnt hp hs nw hi) : sm (plc pr) 6 = sm (pls nw) N := by
  obtain ⟨hW, hc, m1, m2, hps, hh⟩ := hB
  have hN := hW.1
  exact size_eq ⟨hN.1, hN.2.1⟩ (fun a a0 a1 => ⟨(hps a a0 (by omega)).1, (m1 a a0 (by omega)).1.1⟩) (fun a a0 a1 => (m1 a (by omega) a1).2 a0)
theorem MV_of {m : Int → Int} (h1 : ∀ a, 0 ≤ a → a < 6 → -1 ≤ m a ∧ m a < 5) (h2 : ∀ a, N ≤ a → a < 6 → m a = -1) : MV N m := fun a a0 a1 => ⟨h1 a a0 a1, fun q => h2 a q a1⟩
theorem PS_tk (hps : PS pr sv nw) {pr' fo : Int → Int} (hN : 1 ≤ N ∧ N ≤ 6) (m1 : MV N pr) (m1' : MV N pr') (h : ∀ a, 0 ≤ a → a < N → pr' a = fo a) : PS pr' sv (tk N fo nw) := by
  intro k k0 k1
  constructor
  · unfold tk
    by_cases c : k < N
    · rw [if_pos ⟨k0, c⟩]
      exact (h k k0 c).symm
    · rw [if_neg (fun q => c q.2), (hps k k0 k1).1, (m1 k k0 k1).2 (by omega), (m1' k k0 k1).2 (by omega)]
  · unfold tk
    rw [if_neg (by omega)]
    exact (hps k k0 k1).2
-- one row a call: the two answers are the same, and the picture holds again
theorem I_reset (hB : BASE N P cap len lst pr sv cnt hp hs nw hi) {m p r N1 P1 c1 r' N2 P2 e2 : Int} {cap1 len1 pr1 sv1 cap2 len2 nw2 : Int → Int}
    (h1 : ((1 ≤ m ∧ m ≤ 6 ∧ 1 ≤ p ∧ p ≤ 5) ∧ r = N ∧ N1 = m ∧ P1 = p ∧ cap1 = (fun _ => 1) ∧ len1 = (fun _ => 0) ∧ pr1 = (fun _ => -1) ∧ sv1 = (fun _ => -1) ∧ c1 = 0) ∨ (¬ (1 ≤ m ∧ m ≤ 6 ∧ 1 ≤ p ∧ p ≤ 5) ∧ r = -101 ∧ N1 = N ∧ P1 = P ∧ cap1 = cap ∧ len1 = len ∧ pr1 = pr ∧ sv1 = sv ∧ c1 = cnt))
    (h2 : ((1 ≤ m ∧ m ≤ 6 ∧ 1 ≤ p ∧ p ≤ 5) ∧ r' = N ∧ N2 = m ∧ P2 = p ∧ cap2 = (fun _ => 1) ∧ len2 = (fun _ => 0) ∧ nw2 = (fun _ => -1) ∧ e2 = 0) ∨ (¬ (1 ≤ m ∧ m ≤ 6 ∧ 1 ≤ p ∧ p ≤ 5) ∧ r' = -101 ∧ N2 = N ∧ P2 = P ∧ cap2 = cap ∧ len2 = len ∧ nw2 = nw ∧ e2 = cnt)) :
    r = r' ∧ INV N1 P1 cap1 len1 lst pr1 sv1 c1 hp hs N2 P2 cap2 len2 lst nw2 hi e2 := by
  rcases h1 with ⟨a, rfl, rfl, rfl, rfl, rfl, rfl, rfl, rfl⟩ | ⟨a, rfl, rfl, rfl, rfl, rfl, rfl, rfl, rfl⟩ <;> rcases h2 with ⟨b, rfl, rfl, rfl, rfl, rfl, rfl, rfl⟩ | ⟨b, rfl, rfl, rfl, rfl, rfl, rfl, rfl⟩
  · exact ⟨rfl, (BASE_clear (WI_reset a)).same⟩
  · exact absurd a b
  · exact absurd b a
  · exact ⟨rfl, hB.same⟩
theorem I_setCapacity (hB : BASE N P cap len lst pr sv cnt hp hs nw hi) {p x r c1 r' e2 : Int} {cap1 pr1 sv1 cap2 nw2 : Int → Int}
    (h1 : ((0 ≤ p ∧ p < P ∧ 1 ≤ x ∧ x ≤ 2) ∧ r = cap p ∧ cap1 = up cap p x ∧ pr1 = (fun _ => -1) ∧ sv1 = (fun _ => -1) ∧ c1 = 0) ∨ (¬ (0 ≤ p ∧ p < P ∧ 1 ≤ x ∧ x ≤ 2) ∧ r = -101 ∧ cap1 = cap ∧ pr1 = pr ∧ sv1 = sv ∧ c1 = cnt))
    (h2 : ((0 ≤ p ∧ p < P ∧ 1 ≤ x ∧ x ≤ 2) ∧ r' = cap p ∧ cap2 = up cap p x ∧ nw2 = (fun _ => -1) ∧ e2 = 0) ∨ (¬ (0 ≤ p ∧ p < P ∧ 1 ≤ x ∧ x ≤ 2) ∧ r' = -101 ∧ cap2 = cap ∧ nw2 = nw ∧ e2 = cnt)) :
    r = r' ∧ INV N P cap1 len lst pr1 sv1 c1 hp hs N P cap2 len lst nw2 hi e2 := by
  rcases h1 with ⟨a, rfl, rfl, rfl, rfl, rfl⟩ | ⟨a, rfl, rfl, rfl, rfl, rfl⟩ <;> rcases h2 with ⟨b, rfl, rfl, rfl, rfl⟩ | ⟨b, rfl, rfl, rfl, rfl⟩
  · exact ⟨rfl, (BASE_clear (WI_cap hB.1 a.2.2)).same⟩
  · exact absurd a b
  · exact absurd b a
  · exact ⟨rfl, hB.same⟩
theorem I_appendPreference (hB : BASE N P cap len lst pr sv cnt hp hs nw hi) {a p r c1 r' e2 : Int} {len1 lst1 pr1 sv1 len2 lst2 nw2 : Int → Int}
    (h1 : (¬ (0 ≤ a ∧ a < N ∧ 0 ≤ p ∧ p < P) ∧ r = -101 ∧ len1 = len ∧ lst1 = lst ∧ pr1 = pr ∧ sv1 = sv ∧ c1 = cnt) ∨ ((0 ≤ a ∧ a < N ∧ 0 ≤ p ∧ p < P) ∧ rk (row lst a) p (len a) < len a ∧ r = -102 ∧ len1 = len ∧ lst1 = lst ∧ pr1 = pr ∧ sv1 = sv ∧ c1 = cnt) ∨ ((0 ≤ a ∧ a < N ∧ 0 ≤ p ∧ p < P) ∧ ¬ rk (row lst a) p (len a) < len a ∧ r = len a + 1 ∧ len1 = up len a (len a + 1) ∧ lst1 = up lst (a * 5 + len a) p ∧ pr1 = (fun _ => -1) ∧ sv1 = (fun _ => -1) ∧ c1 = 0))
    (h2 : (¬ (0 ≤ a ∧ a < N ∧ 0 ≤ p ∧ p < P) ∧ r' = -101 ∧ len2 = len ∧ lst2 = lst ∧ nw2 = nw ∧ e2 = cnt) ∨ ((0 ≤ a ∧ a < N ∧ 0 ≤ p ∧ p < P) ∧ rk (row lst a) p (len a) < len a ∧ r' = -102 ∧ len2 = len ∧ lst2 = lst ∧ nw2 = nw ∧ e2 = cnt) ∨ ((0 ≤ a ∧ a < N ∧ 0 ≤ p ∧ p < P) ∧ ¬ rk (row lst a) p (len a) < len a ∧ r' = len a + 1 ∧ len2 = up len a (len a + 1) ∧ lst2 = up lst (a * 5 + len a) p ∧ nw2 = (fun _ => -1) ∧ e2 = 0)) :
    r = r' ∧ INV N P cap len1 lst1 pr1 sv1 c1 hp hs N P cap len2 lst2 nw2 hi e2 := by
  rcases h1 with ⟨u, rfl, rfl, rfl, rfl, rfl, rfl⟩ | ⟨u, v, rfl, rfl, rfl, rfl, rfl, rfl⟩ | ⟨u, v, rfl, rfl, rfl, rfl, rfl, rfl⟩ <;> rcases h2 with ⟨x, rfl, rfl, rfl, rfl, rfl⟩ | ⟨x, y, rfl, rfl, rfl, rfl, rfl⟩ | ⟨x, y, rfl, rfl, rfl, rfl, rfl⟩
  · exact ⟨rfl, hB.same⟩
  · exact absurd x u
  · exact absurd x u
  · exact absurd u x
  · exact ⟨rfl, hB.same⟩
  · exact absurd v y
  · exact absurd u x
  · exact absurd y v
  · exact ⟨rfl, (BASE_clear (WI_app hB.1 u v)).same⟩
theorem I_clearPreferences (hB : BASE N P cap len lst pr sv cnt hp hs nw hi) {a r c1 r' e2 : Int} {len1 pr1 sv1 len2 nw2 : Int → Int}
    (h1 : ((0 ≤ a ∧ a < N) ∧ r = len a ∧ len1 = up len a 0 ∧ pr1 = (fun _ => -1) ∧ sv1 = (fun _ => -1) ∧ c1 = 0) ∨ (¬ (0 ≤ a ∧ a < N) ∧ r = -101 ∧ len1 = len ∧ pr1 = pr ∧ sv1 = sv ∧ c1 = cnt))
    (h2 : ((0 ≤ a ∧ a < N) ∧ r' = len a ∧ len2 = up len a 0 ∧ nw2 = (fun _ => -1) ∧ e2 = 0) ∨ (¬ (0 ≤ a ∧ a < N) ∧ r' = -101 ∧ len2 = len ∧ nw2 = nw ∧ e2 = cnt)) :
    r = r' ∧ INV N P cap len1 lst pr1 sv1 c1 hp hs N P cap len2 lst nw2 hi e2 := by
  rcases h1 with ⟨u, rfl, rfl, rfl, rfl, rfl⟩ | ⟨u, rfl, rfl, rfl, rfl, rfl⟩ <;> rcases h2 with ⟨x, rfl, rfl, rfl, rfl⟩ | ⟨x, rfl, rfl, rfl, rfl⟩
  · exact ⟨rfl, (BASE_clear (WI_clr hB.1)).same⟩
  · exact absurd u x
  · exact absurd x u
  · exact ⟨rfl, hB.same⟩
theorem oth_eq (hB : BASE N P cap len lst pr sv cnt hp hs nw hi) {p a : Int} (p0 : 0 ≤ p) : sm (oth pr p a) 6 = sm (oth nw p a) N := by
  obtain ⟨hW, hc, m1, m2, hps, hh⟩ := hB
  have hN := hW.1
  rw [sm_6 ⟨hN.1, hN.2.1⟩ (fun k k0 k1 => by
    unfold oth
    rw [(m1 k (by omega) k1).2 k0, if_neg (by omega)])]
  refine sm_congr (fun k k0 k1 => ?_)
  unfold oth
  rw [(hps k k0 (by omega)).1]
theorem I_assign (hB : BASE N P cap len lst pr sv cnt hp hs nw hi) {a p r c1 r' e2 : Int} {pr1 nw2 hi2 : Int → Int} {hp2 hs2 : Int → Int → Int}
    (h1 : (¬ (0 ≤ a ∧ a < N ∧ -1 ≤ p ∧ p < P) ∧ r = -101 ∧ pr1 = pr ∧ c1 = cnt ∧ hp2 = hp ∧ hs2 = hs) ∨ ((0 ≤ a ∧ a < N ∧ 0 ≤ p ∧ p < P) ∧ ¬ rk (row lst a) p (len a) < len a ∧ r = -102 ∧ pr1 = pr ∧ c1 = cnt ∧ hp2 = hp ∧ hs2 = hs) ∨ ((0 ≤ a ∧ a < N ∧ 0 ≤ p ∧ p < P) ∧ rk (row lst a) p (len a) < len a ∧ cap p ≤ sm (oth pr p a) 6 ∧ r = -103 ∧ pr1 = pr ∧ c1 = cnt ∧ hp2 = hp ∧ hs2 = hs) ∨ ((0 ≤ a ∧ a < N ∧ -1 ≤ p ∧ p < P) ∧ (p = -1 ∨ (rk (row lst a) p (len a) < len a ∧ sm (oth pr p a) 6 < cap p)) ∧ r = pr a ∧ pr1 = up pr a p ∧ c1 = hpc cnt ∧ hp2 = hpu cnt hp pr ∧ hs2 = hpu cnt hs sv))
    (h2 : (¬ (0 ≤ a ∧ a < N ∧ -1 ≤ p ∧ p < P) ∧ r' = -101 ∧ nw2 = nw ∧ hi2 = hi ∧ e2 = cnt) ∨ ((0 ≤ a ∧ a < N ∧ 0 ≤ p ∧ p < P) ∧ ¬ rk (row lst a) p (len a) < len a ∧ r' = -102 ∧ nw2 = nw ∧ hi2 = hi ∧ e2 = cnt) ∨ ((0 ≤ a ∧ a < N ∧ 0 ≤ p ∧ p < P) ∧ rk (row lst a) p (len a) < len a ∧ cap p ≤ sm (oth nw p a) N ∧ r' = -103 ∧ nw2 = nw ∧ hi2 = hi ∧ e2 = cnt) ∨ ((0 ≤ a ∧ a < N ∧ -1 ≤ p ∧ p < P) ∧ (p = -1 ∨ (rk (row lst a) p (len a) < len a ∧ sm (oth nw p a) N < cap p)) ∧ r' = nw a ∧ nw2 = up nw a p ∧ hi2 = edh cnt nw hi ∧ e2 = hpc cnt)) :
    r = r' ∧ INV N P cap len lst pr1 sv c1 hp2 hs2 N P cap len lst nw2 hi2 e2 := by
  have hN := hB.1.1
  have ho : 0 ≤ p → sm (oth pr p a) 6 = sm (oth nw p a) N := oth_eq hB
  rcases h1 with ⟨u, rfl, rfl, rfl, rfl, rfl⟩ | ⟨u, v, rfl, rfl, rfl, rfl, rfl⟩ | ⟨u, v, w, rfl, rfl, rfl, rfl, rfl⟩ | ⟨u, v, rfl, rfl, rfl, rfl, rfl⟩ <;> rcases h2 with ⟨x, rfl, rfl, rfl, rfl⟩ | ⟨x, y, rfl, rfl, rfl, rfl⟩ | ⟨x, y, z, rfl, rfl, rfl, rfl⟩ | ⟨x, y, rfl, rfl, rfl, rfl⟩
  · exact ⟨rfl, hB.same⟩
  · exact absurd ⟨x.1, x.2.1, by omega, x.2.2.2⟩ u
  · exact absurd ⟨x.1, x.2.1, by omega, x.2.2.2⟩ u
  · exact absurd x u
  · exact absurd ⟨u.1, u.2.1, by omega, u.2.2.2⟩ x
  · exact ⟨rfl, hB.same⟩
  · exact absurd y v
  · exact absurd (y.resolve_left (by omega)).1 v
  · exact absurd ⟨u.1, u.2.1, by omega, u.2.2.2⟩ x
  · exact absurd v y
  · exact ⟨rfl, hB.same⟩
  · have q1 := ho u.2.2.1
    have q2 := (y.resolve_left (by omega)).2
    exact absurd q2 (by omega)
  · exact absurd u x
  · exact absurd (v.resolve_left (by omega)).1 y
  · have q1 := ho x.2.2.1
    have q2 := (v.resolve_left (by omega)).2
    exact absurd q2 (by omega)
  · obtain ⟨hW, hc, m1, m2, hps, hh⟩ := id hB
    refine ⟨((hps a u.1 (by omega)).1).symm, (hB.edit (fun k k0 k1 => ?_) m2 (fun k k0 k1 => ?_)).same⟩
    · by_cases c : k = a
      · subst c
        rw [up_s]
        exact ⟨by omega, fun q => absurd q (by omega)⟩
      · rw [up_n c]
        exact m1 k k0 k1
    · constructor
      · by_cases c : k = a
        · subst c
          rw [up_s, up_s]
        · rw [up_n c, up_n c]
          exact (hps k k0 k1).1
      · rw [up_n (by omega)]
        exact (hps k k0 k1).2
theorem I_postOf (hB : BASE N P cap len lst pr sv cnt hp hs nw hi) (a : Int) : (if 0 ≤ a ∧ a < N then pr a else -101) = (if 0 ≤ a ∧ a < N then nw a else -101) ∧ INV N P cap len lst pr sv cnt hp hs N P cap len lst nw hi cnt := by
  refine ⟨?_, hB.same⟩
  have hN := hB.1.1
  split
  · rename_i c
    exact ((hB.2.2.2.2.1 a c.1 (by omega)).1).symm
  · rfl
theorem I_save (hB : BASE N P cap len lst pr sv cnt hp hs nw hi) : sm (plc pr) 6 = sm (pls nw) N ∧ INV N P cap len lst pr pr cnt hp hs N P cap len lst (svd nw) hi cnt := by
  refine ⟨hB.size, ?_⟩
  obtain ⟨hW, hc, m1, m2, hps, hh⟩ := hB
  refine BASE.same ⟨hW, hc, m1, m1, fun k k0 k1 => ?_, hh⟩
  have h := (hps k k0 k1).1
  unfold svd
  rw [if_pos k1, if_neg (by omega), show 6 + k - 6 = k by omega]
  exact ⟨h, h⟩
theorem I_swapSaved (hB : BASE N P cap len lst pr sv cnt hp hs nw hi) : sm (plc sv) 6 = sm (pls (swp nw)) N ∧ INV N P cap len lst sv pr (hpc cnt) (hpu cnt hp pr) (hpu cnt hs sv) N P cap len lst (swp nw) (edh cnt nw hi) (hpc cnt) := by
  have hps' : PS sv pr (swp nw) := by
    intro k k0 k1
    have h := hB.2.2.2.2.1 k k0 k1
    unfold swp
    rw [if_pos k1, if_neg (by omega), show 6 + k - 6 = k by omega, show k + 6 = 6 + k by omega]
    exact ⟨h.2, h.1⟩
  have hE := hB.edit hB.2.2.2.1 hB.2.2.1 hps'
  exact ⟨hE.size, hE.same⟩
theorem I_marginOverSaved (hB : BASE N P cap len lst pr sv cnt hp hs nw hi) : sm (mosc len lst pr sv) N = sm (mos len lst nw) N ∧ INV N P cap len lst pr sv cnt hp hs N P cap len lst nw hi cnt := by
  refine ⟨sm_congr (fun a a0 a1 => ?_), hB.same⟩
  have hN := hB.1.1
  have h := hB.2.2.2.2.1 a a0 (by omega)
  unfold mos
  rw [vm_eq hB.1 a0 (by omega), h.1, h.2]
  rfl
theorem BASE.nm (hB : BASE N P cap len lst pr sv cnt hp hs nw hi) : ∀ a, 0 ≤ a → a < 6 → nw a = pr a := fun a a0 a1 => (hB.2.2.2.2.1 a a0 a1).1
theorem I_isParetoOptimal (hB : BASE N P cap len lst pr sv cnt hp hs nw hi) {r k r' : Int} {be : Int → Int} (h1 : BKR N cap len lst pr 0 k ∧ r = (if k / 262144 = 0 then 1 else 0)) (h2 : MG N P cap len lst nw 1 be ∧ r' = (if be 0 = 0 then 1 else 0)) : r = r' ∧ INV N P cap len lst pr sv cnt hp hs N P cap len lst nw hi cnt := by
  refine ⟨?_, hB.same⟩
  obtain ⟨b, rfl⟩ := h1
  obtain ⟨g, rfl⟩ := h2
  have h := same_pareto hB.1 hB.nm b g
  by_cases c : k / 262144 = 0
  · rw [if_pos c, if_pos (h.mp c)]
  · rw [if_neg c, if_neg (fun q => c (h.mpr q))]
theorem I_unpopularityMargin (hB : BASE N P cap len lst pr sv cnt hp hs nw hi) {r k r' : Int} {be : Int → Int} (h1 : BKR N cap len lst pr 1 k ∧ r = k / 262144) (h2 : MG N P cap len lst nw 0 be ∧ r' = be 0) : r = r' ∧ INV N P cap len lst pr sv cnt hp hs N P cap len lst nw hi cnt := by
  refine ⟨?_, hB.same⟩
  rw [h1.2, h2.2]
  exact same_margin hB.1 hB.nm h1.1 h2.1
theorem I_challengerPost (hB : BASE N P cap len lst pr sv cnt hp hs nw hi) {a r k r' : Int} {be fo : Int → Int} (h1 : (¬ (0 ≤ a ∧ a < N) ∧ r = -101) ∨ ((0 ≤ a ∧ a < N) ∧ BKR N cap len lst pr 1 k ∧ r = pin k a))
    (h2 : (¬ (0 ≤ a ∧ a < N) ∧ r' = -101) ∨ ((0 ≤ a ∧ a < N) ∧ MG N P cap len lst nw 0 be ∧ True ∧ GRi P cap len lst nw be fo N ∧ r' = fo a)) : r = r' ∧ INV N P cap len lst pr sv cnt hp hs N P cap len lst nw hi cnt := by
  refine ⟨?_, hB.same⟩
  rcases h1 with ⟨u, rfl⟩ | ⟨u, b, rfl⟩ <;> rcases h2 with ⟨x, rfl⟩ | ⟨x, g, -, gg, rfl⟩
  · rfl
  · exact absurd x u
  · exact absurd u x
  · exact (same_chal hB.1 hB.nm b g gg).2 a u.1 u.2
theorem I_adoptChallenger (hB : BASE N P cap len lst pr sv cnt hp hs nw hi) {r k r' : Int} {be fo : Int → Int} (h1 : BKR N cap len lst pr 1 k ∧ r = k / 262144)
    (h2 : MG N P cap len lst nw 0 be ∧ r' = be 0 ∧ GRi P cap len lst nw be fo N) : r = r' ∧ INV N P cap len lst (chd N k) sv (hpc cnt) (hpu cnt hp pr) (hpu cnt hs sv) N P cap len lst (tk N fo nw) (edh cnt nw hi) (hpc cnt) := by
  have hN := hB.1.1
  have h := same_chal hB.1 hB.nm h1.1 h2.1 h2.2.2
  have m' : MV N (chd N k) := MV_of (chd_M6 hB.1 h1.1) (fun a a0 a1 => by unfold chd; rw [if_neg (by omega)])
  refine ⟨by rw [h1.2, h2.2.1]; exact h.1, (hB.edit m' hB.2.2.2.1 (PS_tk hB.2.2.2.2.1 ⟨hN.1, hN.2.1⟩ hB.2.2.1 m' (fun a a0 a1 => ?_))).same⟩
  unfold chd
  rw [if_pos ⟨a0, a1⟩]
  exact h.2 a a0 a1
theorem I_popularCount (hB : BASE N P cap len lst pr sv cnt hp hs nw hi) {r : Int} {f6 : Int → Int} (h1 : COL N P cap len lst (p2 N) r f6) : r = sm (fun d => ind (LAYS N P cap len lst d)) (p2 N) ∧ INV N P cap len lst pr sv cnt hp hs N P cap len lst nw hi cnt := by
  refine ⟨?_, hB.same⟩
  rw [h1.1]
  exact same_count hB.1
theorem I_greatestPopularSize (hB : BASE N P cap len lst pr sv cnt hp hs nw hi) {r r' : Int} (h1 : GPC N P cap len lst r) (h2 : GPS N P cap len lst (p2 N) r') : r = r' ∧ INV N P cap len lst pr sv cnt hp hs N P cap len lst nw hi cnt := ⟨same_great hB.1 h1 h2, hB.same⟩
theorem I_adoptPopular (hB : BASE N P cap len lst pr sv cnt hp hs nw hi) {ix r c1 r' e2 : Int} {f6 pr1 nw2 hi2 fo : Int → Int} {hp2 hs2 : Int → Int → Int}
    (h1 : (ix < 0 ∧ r = -101 ∧ pr1 = pr ∧ c1 = cnt ∧ hp2 = hp ∧ hs2 = hs) ∨ (0 ≤ ix ∧ ∃ k, COL N P cap len lst (p2 N) k f6 ∧ ((k ≤ ix ∧ r = -104 ∧ pr1 = pr ∧ c1 = cnt ∧ hp2 = hp ∧ hs2 = hs) ∨ (ix < k ∧ r = sm (plc (wpc N cap len lst (f6 ix))) 6 ∧ pr1 = wpc N cap len lst (f6 ix) ∧ c1 = hpc cnt ∧ hp2 = hpu cnt hp pr ∧ hs2 = hpu cnt hs sv))))
    (h2 : (ix < 0 ∧ r' = -101 ∧ nw2 = nw ∧ hi2 = hi ∧ e2 = cnt) ∨ (0 ≤ ix ∧ sm (fun d => ind (LAYS N P cap len lst d)) (p2 N) ≤ ix ∧ r' = -104 ∧ nw2 = nw ∧ hi2 = hi ∧ e2 = cnt) ∨ ((0 ≤ ix ∧ ix < sm (fun d => ind (LAYS N P cap len lst d)) (p2 N)) ∧ ∃ (t : Int → Int) (w : Int), t (-1) = -1 ∧ (∀ j, 0 ≤ j → j ≤ ix → NXT N P cap len lst (p2 N) (t (j - 1)) (t j)) ∧ (0 ≤ w ∧ w < p2 N) ∧ (t ix ≠ 99999 → LAYS N P cap len lst w ∧ mco N cap len lst w = t ix) ∧ (LAYS N P cap len lst w → r' = sm (pls (mcs N cap len lst w)) N ∧ (∀ kk, 0 ≤ kk → kk < N → fo kk = mcs N cap len lst w kk) ∧ nw2 = tk N fo nw ∧ hi2 = edh cnt nw hi ∧ e2 = hpc cnt))) :
    r = r' ∧ INV N P cap len lst pr1 sv c1 hp2 hs2 N P cap len lst nw2 hi2 e2 := by
  have hN := hB.1.1
  have hsc := same_count hB.1
  rcases h1 with ⟨u, rfl, rfl, rfl, rfl, rfl⟩ | ⟨u, k, hC, ⟨v, rfl, rfl, rfl, rfl, rfl⟩ | ⟨v, rfl, rfl, rfl, rfl, rfl⟩⟩ <;> rcases h2 with ⟨x, rfl, rfl, rfl, rfl⟩ | ⟨x, y, rfl, rfl, rfl, rfl⟩ | ⟨x, t, w, t0, tT, wb, hw, hz⟩
  · exact ⟨rfl, hB.same⟩
  · exact absurd u (by omega)
  · exact absurd u (by omega)
  · exact absurd u (by omega)
  · exact ⟨rfl, hB.same⟩
  · have hk := hC.1
    rw [hsc] at hk
    exact absurd x.2 (by omega)
  · exact absurd u (by omega)
  · have hk := hC.1
    rw [hsc] at hk
    exact absurd y (by omega)
  · obtain ⟨hl, hm⟩ := same_nth hB.1 hC u v t0 tT wb.1 wb.2 hw
    obtain ⟨rfl, hf, rfl, rfl, rfl⟩ := hz hl
    have m' : MV N (wpc N cap len lst (f6 ix)) := MV_of (wpc_M6 hB.1 _) (fun a a0 a1 => by unfold wpc; rw [if_neg (by omega)])
    have hE := hB.edit m' hB.2.2.2.1 (PS_tk (fo := fo) hB.2.2.2.2.1 ⟨hN.1, hN.2.1⟩ hB.2.2.1 m' (fun a a0 a1 => by
      rw [hf a a0 a1, hm a a0 a1]
      unfold wpc
      rw [if_pos ⟨a0, a1⟩]))
    refine ⟨?_, hE.same⟩
    rw [hE.size]
    refine sm_congr (fun a a0 a1 => ?_)
    have e : tk N fo nw a = mcs N cap len lst w a := by
      unfold tk
      rw [if_pos ⟨a0, a1⟩]
      exact hf a a0 a1
    unfold pls
    rw [e]
theorem I_adoptSerial (hB : BASE N P cap len lst pr sv cnt hp hs nw hi) {a r c1 r' e2 : Int} {pr1 nw2 hi2 fo : Int → Int} {hp2 hs2 : Int → Int → Int}
    (h1 : (¬ (0 ≤ a ∧ a < N) ∧ r = -101 ∧ pr1 = pr ∧ c1 = cnt ∧ hp2 = hp ∧ hs2 = hs) ∨ ((0 ≤ a ∧ a < N) ∧ r = sm (plc (srd N cap len lst a N.toNat)) 6 ∧ pr1 = srd N cap len lst a N.toNat ∧ c1 = hpc cnt ∧ hp2 = hpu cnt hp pr ∧ hs2 = hpu cnt hs sv))
    (h2 : (¬ (0 ≤ a ∧ a < N) ∧ r' = -101 ∧ nw2 = nw ∧ hi2 = hi ∧ e2 = cnt) ∨ ((0 ≤ a ∧ a < N) ∧ (∀ j, 0 ≤ j → j < N → fo (sra N a j) = mpm cap len lst (mL N cap len lst a j.toNat) (sra N a j)) ∧ r' = sm (pls (tk N fo nw)) N ∧ nw2 = tk N fo nw ∧ hi2 = edh cnt nw hi ∧ e2 = hpc cnt)) :
    r = r' ∧ INV N P cap len lst pr1 sv c1 hp2 hs2 N P cap len lst nw2 hi2 e2 := by
  have hN := hB.1.1
  rcases h1 with ⟨u, rfl, rfl, rfl, rfl, rfl⟩ | ⟨u, rfl, rfl, rfl, rfl, rfl⟩ <;> rcases h2 with ⟨x, rfl, rfl, rfl, rfl⟩ | ⟨x, hf, rfl, rfl, rfl, rfl⟩
  · exact ⟨rfl, hB.same⟩
  · exact absurd x u
  · exact absurd u x
  · have h := same_serial hB.1 u.1 u.2 hf
    have m' : MV N (srd N cap len lst a N.toNat) := MV_of (srd_M6 hB.1 u.1 u.2 _) (fun k k0 _ => h.2 k k0)
    have hE := hB.edit m' hB.2.2.2.1 (PS_tk (fo := fo) hB.2.2.2.2.1 ⟨hN.1, hN.2.1⟩ hB.2.2.1 m' (fun k k0 k1 => (h.1 k k0 k1).symm))
    exact ⟨hE.size, hE.same⟩
theorem I_undo (hB : BASE N P cap len lst pr sv cnt hp hs nw hi) {r c1 r' e2 : Int} {pr1 sv1 nw2 : Int → Int}
    (h1 : (cnt = 0 ∧ r = -104 ∧ pr1 = pr ∧ sv1 = sv ∧ c1 = cnt) ∨ (0 < cnt ∧ r = cnt - 1 ∧ pr1 = hp (cnt - 1) ∧ sv1 = hs (cnt - 1) ∧ c1 = cnt - 1))
    (h2 : (cnt = 0 ∧ r' = -104 ∧ nw2 = nw ∧ e2 = cnt) ∨ (0 < cnt ∧ r' = cnt - 1 ∧ nw2 = (fun kk => hi (12 * (cnt - 1) + kk)) ∧ e2 = cnt - 1)) :
    r = r' ∧ INV N P cap len lst pr1 sv1 c1 hp hs N P cap len lst nw2 hi e2 := by
  rcases h1 with ⟨u, h11, h12, h13, h14⟩ | ⟨u, h11, h12, h13, h14⟩ <;> rcases h2 with ⟨x, h21, h22, h23⟩ | ⟨x, h21, h22, h23⟩
  · subst h11 h12 h13 h14 h21 h22 h23
    exact ⟨rfl, hB.same⟩
  · exact absurd u (by omega)
  · exact absurd u (by omega)
  · subst h11 h12 h13 h14 h21 h22 h23
    obtain ⟨hW, hc, m1, m2, hps, hh⟩ := hB
    obtain ⟨a1, a2, a3⟩ := hh (cnt - 1) (by omega) (by omega)
    exact ⟨rfl, BASE.same ⟨hW, by omega, a1, a2, a3, fun x x0 x1 => hh x x0 (by omega)⟩⟩
end Ops
end Inv
