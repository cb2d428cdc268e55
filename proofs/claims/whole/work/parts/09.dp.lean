-- ===== 09 pure: the search for the best challenger =====
theorem pw3_N : ∀ k : Nat, k < 6 → pw3 (k : Int) = ((3 ^ k : Nat) : Int) := by decide +kernel
theorem p2_N : ∀ k : Nat, k < 20 → p2 (k : Int) = ((2 ^ k : Nat) : Int) := by decide +kernel
theorem pw3_bdN : ∀ k : Nat, k < 6 → 1 ≤ 3 ^ k ∧ 3 ^ k ≤ 243 := by decide +kernel
theorem pw3_bd {k : Int} (h0 : 0 ≤ k) (h1 : k < 6) : 1 ≤ pw3 k ∧ pw3 k ≤ 243 := by
  obtain ⟨n, rfl⟩ : ∃ n : Nat, k = (n : Int) := ⟨k.toNat, by omega⟩
  rw [pw3_N n (by omega)]
  have := pw3_bdN n (by omega)
  omega
theorem p2_bdN : ∀ k : Nat, k < 16 → 1 ≤ 2 ^ k ∧ 2 ^ k ≤ 32768 := by decide +kernel
theorem p2_bd {k : Int} (h0 : 0 ≤ k) (h1 : k < 16) : 1 ≤ p2 k ∧ p2 k ≤ 32768 := by
  obtain ⟨n, rfl⟩ : ∃ n : Nat, k = (n : Int) := ⟨k.toNat, by omega⟩
  rw [p2_N n (by omega)]
  have := p2_bdN n (by omega)
  omega
theorem pp_bd {q a : Int} (q0 : 0 ≤ q) (q1 : q ≤ 5) (a0 : 0 ≤ a) (a1 : a < 6) : 0 ≤ q * p2 (3 * (5 - a)) ∧ q * p2 (3 * (5 - a)) ≤ 163840 := by
  have h := p2_bd (k := 3 * (5 - a)) (by omega) (by omega)
  constructor
  · exact Int.mul_nonneg q0 (by omega)
  · have h2 : q * p2 (3 * (5 - a)) ≤ 5 * 32768 := Int.mul_le_mul q1 h.2 (by omega) (by omega)
    omega
theorem dg_bd (x p : Int) : 0 ≤ dg x p ∧ dg x p ≤ 2 := by
  unfold dg
  omega
theorem dg_roomN : ∀ P : Fin 6, ∀ q : Fin 6, ∀ f : Fin 243, q.val < P.val → f.val < 3 ^ P.val → f.val / 3 ^ q.val % 3 < 2 → f.val + 3 ^ q.val < 3 ^ P.val := by decide +kernel
theorem dg_room {P q f : Int} (q0 : 0 ≤ q) (q1 : q < P) (P1 : P < 6) (f0 : 0 ≤ f) (f1 : f < pw3 P) (h : dg f q < 2) : f + pw3 q < pw3 P := by
  obtain ⟨n, rfl⟩ : ∃ n : Nat, P = (n : Int) := ⟨P.toNat, by omega⟩
  obtain ⟨k, rfl⟩ : ∃ k : Nat, q = (k : Int) := ⟨q.toNat, by omega⟩
  obtain ⟨g, rfl⟩ : ∃ g : Nat, f = (g : Int) := ⟨f.toNat, by omega⟩
  have hb := pw3_bd (k := (n : Int)) (by omega) (by omega)
  unfold dg at h
  rw [pw3_N n (by omega)] at *
  rw [pw3_N k (by omega)] at *
  have := dg_roomN ⟨n, by omega⟩ ⟨k, by omega⟩ ⟨g, by omega⟩ (by show k < n; omega) (by show g < 3 ^ n; omega) (by
    show g / 3 ^ k % 3 < 2
    have h2 : (((g / 3 ^ k % 3 : Nat)) : Int) < 2 := by
      rw [Int.natCast_emod, Int.natCast_ediv]
      exact h
    omega)
  have h3 : g + 3 ^ k < 3 ^ n := this
  omega
theorem plf_at {f q : Int} (q0 : 0 ≤ q) (q1 : q < 5) : plf (f * 5 + q) = dg f q := by
  unfold plf
  rw [show (f * 5 + q) / 5 = f by omega, show (f * 5 + q) % 5 = q by omega]
/-- one applicant's choices, by rank -/
def rs (be : Int → Int) (f k : Int) (j : Int) : Int := if j = f ∧ be f < k then k else be j
def lok (cap len lst : Int → Int) (a L r : Int) : Prop := r = len a ∨ dg L (row lst a r) < cap (row lst a r)
def ltg (len lst : Int → Int) (a L r : Int) : Int := if r = len a then L else L + pw3 (row lst a r)
def lpl (len lst : Int → Int) (a r : Int) : Int := if r = len a then 5 else row lst a r
def lky (len lst : Int → Int) (a h K r : Int) : Int := K + vt r h * 262144 - lpl len lst a r * p2 (3 * (5 - a))
def LI (cap len lst be cur : Int → Int) (fl a h w f j : Int) : Prop :=
  (∀ F, 0 ≤ F → F < f → cur F = be F) ∧
  (∀ F, f ≤ F → F < fl → cur F = -1073741824 ∨ ∃ G r, (f < G ∨ (G = f ∧ r < j)) ∧ G < fl ∧ 0 ≤ r ∧ r ≤ w ∧ lok cap len lst a G r ∧ be G ≠ -1073741824 ∧ ltg len lst a G r = F ∧ cur F = lky len lst a h (be G) r) ∧
  (∀ G r, (f < G ∨ (G = f ∧ r < j)) → G < fl → 0 ≤ r → r ≤ w → lok cap len lst a G r → be G ≠ -1073741824 → lky len lst a h (be G) r ≤ cur (ltg len lst a G r))
theorem ltg_ge (len lst : Int → Int) (a L r : Int) : L ≤ ltg len lst a L r := by
  have := pw3_pos (row lst a r)
  unfold ltg
  split <;> omega
theorem LI_init (cap len lst be : Int → Int) (fl a h w j : Int) : LI cap len lst be be fl a h w fl j :=
  ⟨fun _ _ _ => rfl, fun F q1 q2 => absurd q2 (by omega), fun G r q1 q2 => absurd q2 (by omega)⟩
theorem LI_set {cap len lst be cur : Int → Int} {fl a h w f : Int} (H : LI cap len lst be cur fl a h w (f + 1) (w + 1)) : LI cap len lst be (up cur f (-1073741824)) fl a h w f 0 := by
  obtain ⟨h1, h2, h3⟩ := H
  refine ⟨fun F q1 q2 => ?_, fun F q1 q2 => ?_, fun G r q1 q2 q3 q4 q5 q6 => ?_⟩
  · rw [up_n (by omega)]
    exact h1 F q1 (by omega)
  · by_cases e : F = f
    · left
      rw [e, up_s]
    · rw [up_n e]
      rcases h2 F (by omega) q2 with h | ⟨G, r, g1, g2, g3, g4, g5, g6, g7, g8⟩
      · exact Or.inl h
      · exact Or.inr ⟨G, r, Or.inl (by omega), g2, g3, g4, g5, g6, g7, g8⟩
  · have hg := ltg_ge len lst a G r
    rw [up_n (by omega)]
    exact h3 G r (by omega) q2 q3 q4 q5 q6
theorem rs_ge (be : Int → Int) (f k j : Int) : be j ≤ rs be f k j := by
  unfold rs
  split
  · rename_i c
    rw [c.1]
    omega
  · omega
theorem rs_at (be : Int → Int) (f k : Int) : k ≤ rs be f k f := by
  unfold rs
  split
  · omega
  · rename_i c
    have : ¬ be f < k := fun q => c ⟨rfl, q⟩
    omega
theorem LI_step {cap len lst be cur : Int → Int} {fl a h w f j T K : Int} (H : LI cap len lst be cur fl a h w f j) (hf : f < fl) (j0 : 0 ≤ j) (j1 : j ≤ w) (hok : lok cap len lst a f j) (hne : be f ≠ -1073741824) (hT : ltg len lst a f j = T) (hK : lky len lst a h (be f) j = K) : LI cap len lst be (rs cur T K) fl a h w f (j + 1) := by
  obtain ⟨h1, h2, h3⟩ := H
  have hg := ltg_ge len lst a f j
  refine ⟨fun F q1 q2 => ?_, fun F q1 q2 => ?_, fun G r q1 q2 q3 q4 q5 q6 => ?_⟩
  · unfold rs
    rw [if_neg (by omega)]
    exact h1 F q1 q2
  · by_cases c : F = T ∧ cur T < K
    · right
      refine ⟨f, j, Or.inr ⟨rfl, by omega⟩, hf, j0, j1, hok, hne, by rw [hT, c.1], ?_⟩
      rw [hK]
      unfold rs
      rw [if_pos c]
    · have e : rs cur T K F = cur F := by
        unfold rs
        rw [if_neg c]
      rw [e]
      rcases h2 F q1 q2 with h | ⟨G, r, g1, g2, g3, g4, g5, g6, g7, g8⟩
      · exact Or.inl h
      · exact Or.inr ⟨G, r, by omega, g2, g3, g4, g5, g6, g7, g8⟩
  · by_cases c : G = f ∧ r = j
    · obtain ⟨rfl, rfl⟩ := c
      rw [hT, hK]
      exact rs_at cur T K
    · exact Int.le_trans (h3 G r (by omega) q2 q3 q4 q5 q6) (rs_ge cur T K _)
theorem LI_skip {cap len lst be cur : Int → Int} {fl a h w f j : Int} (H : LI cap len lst be cur fl a h w f j) (hok : ¬ lok cap len lst a f j) : LI cap len lst be cur fl a h w f (j + 1) := by
  obtain ⟨h1, h2, h3⟩ := H
  refine ⟨h1, fun F q1 q2 => ?_, fun G r q1 q2 q3 q4 q5 q6 => ?_⟩
  · rcases h2 F q1 q2 with h | ⟨G, r, g1, g2, g3, g4, g5, g6, g7, g8⟩
    · exact Or.inl h
    · exact Or.inr ⟨G, r, by omega, g2, g3, g4, g5, g6, g7, g8⟩
  · refine h3 G r ?_ q2 q3 q4 q5 q6
    rcases q1 with q1 | ⟨rfl, q1⟩
    · exact Or.inl q1
    · right
      refine ⟨rfl, ?_⟩
      by_cases e : r = j
      · subst e
        exact absurd q5 hok
      · omega
theorem LI_out {cap len lst be cur : Int → Int} {fl a h w f f' j : Int} (H : LI cap len lst be cur fl a h w f j) (e : f' = f) (hj : j ≤ w + 1) (hd : w < j ∨ be f = -1073741824) : LI cap len lst be cur fl a h w f' (w + 1) := by
  subst e
  obtain ⟨h1, h2, h3⟩ := H
  refine ⟨h1, fun F q1 q2 => ?_, fun G r q1 q2 q3 q4 q5 q6 => ?_⟩
  · rcases h2 F q1 q2 with h | ⟨G, r, g1, g2, g3, g4, g5, g6, g7, g8⟩
    · exact Or.inl h
    · exact Or.inr ⟨G, r, by omega, g2, g3, g4, g5, g6, g7, g8⟩
  · refine h3 G r ?_ q2 q3 q4 q5 q6
    rcases q1 with q1 | ⟨rfl, q1⟩
    · exact Or.inl q1
    · rcases hd with hd | hd
      · right
        exact ⟨rfl, by omega⟩
      · exact absurd hd q6
/-- what stands in the table is bounded -/
def BB (fl M : Int) (be : Int → Int) : Prop := ∀ F, 0 ≤ F → F < fl → be F = -1073741824 ∨ (-M ≤ be F ∧ be F ≤ M)
theorem lpl_bd {N P : Int} {cap len lst : Int → Int} (hW : WI N P cap len lst) {a r : Int} (a0 : 0 ≤ a) (a1 : a < 6) (r0 : 0 ≤ r) (r1 : r ≤ len a) : 0 ≤ lpl len lst a r ∧ lpl len lst a r ≤ 5 := by
  obtain ⟨hN, hcap, hlen, hlst, hdis⟩ := hW
  unfold lpl
  split
  · omega
  · have := hlst a r a0 a1 r0 (by omega)
    omega
theorem lky_bd {N P : Int} {cap len lst : Int → Int} (hW : WI N P cap len lst) {a r h K : Int} (a0 : 0 ≤ a) (a1 : a < 6) (r0 : 0 ≤ r) (r1 : r ≤ len a) : K - 425984 ≤ lky len lst a h K r ∧ lky len lst a h K r ≤ K + 425984 := by
  have h1 := lpl_bd hW a0 a1 r0 r1
  have h2 := pp_bd h1.1 h1.2 a0 a1
  have h3 := vt_bd r h
  unfold lky
  omega
theorem LI_bd {N P : Int} {cap len lst be cur : Int → Int} {fl a h w f j : Int} (hW : WI N P cap len lst) (a0 : 0 ≤ a) (a1 : a < 6) (hw : w ≤ len a) (f0 : 0 ≤ f) (hB : BB fl 4000000 be) (H : LI cap len lst be cur fl a h w f j) : ∀ F, 0 ≤ F → F < fl → -1073741824 ≤ cur F ∧ cur F ≤ 10000000 := by
  obtain ⟨h1, h2, h3⟩ := H
  intro F q1 q2
  by_cases c : F < f
  · rw [h1 F q1 c]
    have := hB F q1 q2
    omega
  · rcases h2 F (by omega) q2 with h | ⟨G, r, g1, g2, g3, g4, g5, g6, g7, g8⟩
    · omega
    · have hk := lky_bd hW (h := h) (K := be G) a0 a1 g3 (by omega)
      have hg := hB G (by omega) g2
      rw [← g8] at hk
      omega
