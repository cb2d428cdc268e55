-- ===== 13 pure: the reference's table of margins =====
def gv (cap len lst nw be : Int → Int) (s a L q : Int) : Int :=
  if s = 1 ∧ vm len lst a q (nw a) < 0 then -99 else if q < 0 then vm len lst a q (nw a) + be (243 * (a + 1) + L) else if rm9 len lst a q < 9 ∧ dg L q < cap q then vm len lst a q (nw a) + be (243 * (a + 1) + L + pw3 q) else -99
theorem gv_congr {cap len lst nw be be' : Int → Int} {s a L q : Int} (hL : 0 ≤ L) (h : ∀ x, 243 * (a + 1) ≤ x → be x = be' x) : gv cap len lst nw be s a L q = gv cap len lst nw be' s a L q := by
  have := pw3_pos q
  unfold gv
  rw [h (243 * (a + 1) + L) (by omega), h (243 * (a + 1) + L + pw3 q) (by omega)]
theorem vm_bd (len lst : Int → Int) (a p q : Int) : -1 ≤ vm len lst a p q ∧ vm len lst a p q ≤ 1 := vt_bd _ _
theorem L_room {L q c : Int} (L0 : 0 ≤ L) (L1 : L < 243) (q0 : 0 ≤ q) (q1 : q < 5) (h : dg L q < c) (hc : c ≤ 2) : L + pw3 q < 243 := by
  have e : pw3 5 = 243 := by decide +kernel
  have := dg_room (P := 5) (q := q) (f := L) q0 q1 (by omega) L0 (by rw [e]; exact L1) (by omega)
  omega
theorem gv_bd {N P : Int} {cap len lst nw be : Int → Int} (hW : WI N P cap len lst) {s a L q lo hi : Int} (L0 : 0 ≤ L) (L1 : L < 243) (q1 : q < P) (hl : -99 ≤ lo) (hh : -99 ≤ hi) (h : ∀ M, 0 ≤ M → M < 243 → lo ≤ be (243 * (a + 1) + M) ∧ be (243 * (a + 1) + M) ≤ hi) : -100 ≤ gv cap len lst nw be s a L q ∧ gv cap len lst nw be s a L q ≤ hi + 1 := by
  have hv := vm_bd len lst a q (nw a)
  have hN := hW.1
  unfold gv
  split
  · omega
  · split
    · have := h L L0 L1
      omega
    · split
      · rename_i c
        have hc := hW.2.1 q (by omega) (by omega)
        have hr := L_room L0 L1 (q := q) (by omega) (by omega) c.2 hc.2
        have := pw3_pos q
        have := h (L + pw3 q) (by omega) hr
        rw [← Int.add_assoc] at this
        omega
      · omega
def MGrow (P : Int) (cap len lst nw be : Int → Int) (s a L : Int) : Prop :=
  -99 ≤ be (243 * a + L) ∧ (be (243 * a + L) = -99 ∨ ∃ q, -1 ≤ q ∧ q < P ∧ be (243 * a + L) = gv cap len lst nw be s a L q) ∧ ∀ q, -1 ≤ q → q < P → gv cap len lst nw be s a L q ≤ be (243 * a + L)
/-- the rows behind applicant i stand, and those of i below L -/
def MGp (N P : Int) (cap len lst nw : Int → Int) (s : Int) (be : Int → Int) (i L : Int) : Prop :=
  (∀ M, 0 ≤ M → M < 243 → be (243 * N + M) = 0) ∧ ∀ a M, (i < a ∨ (a = i ∧ M < L)) → a < N → 0 ≤ M → M < 243 → MGrow P cap len lst nw be s a M ∧ be (243 * a + M) ≤ N - a
theorem MGrow_up {P : Int} {cap len lst nw be : Int → Int} {s a L x y : Int} (L0 : 0 ≤ L) (h1 : ¬ 243 * a + L = x) (h2 : x < 243 * (a + 1)) (h : MGrow P cap len lst nw be s a L) : MGrow P cap len lst nw (up be x y) s a L := by
  have e : up be x y (243 * a + L) = be (243 * a + L) := up_n h1
  have g : ∀ q, gv cap len lst nw (up be x y) s a L q = gv cap len lst nw be s a L q := fun q => gv_congr L0 (fun z hz => up_n (by omega))
  unfold MGrow
  rw [e]
  refine ⟨h.1, ?_, fun q q0 q1 => by rw [g]; exact h.2.2 q q0 q1⟩
  rcases h.2.1 with c | ⟨q, c1, c2, c3⟩
  · exact Or.inl c
  · exact Or.inr ⟨q, c1, c2, by rw [g]; exact c3⟩
theorem MGp_add {N P : Int} {cap len lst nw be : Int → Int} {s i L y : Int} (i0 : 0 ≤ i) (i1 : i < N) (L0 : 0 ≤ L) (L1 : L < 243) (h : MGp N P cap len lst nw s be i L) (y0 : -99 ≤ y) (y1 : y ≤ N - i) (h1 : y = -99 ∨ ∃ q, -1 ≤ q ∧ q < P ∧ y = gv cap len lst nw be s i L q) (h2 : ∀ q, -1 ≤ q → q < P → gv cap len lst nw be s i L q ≤ y) : MGp N P cap len lst nw s (up be (243 * i + L) y) i (L + 1) := by
  refine ⟨fun M m0 m1 => by rw [up_n (by omega)]; exact h.1 M m0 m1, fun a M c a1 m0 m1 => ?_⟩
  by_cases e : a = i ∧ M = L
  · obtain ⟨rfl, rfl⟩ := e
    have g : ∀ q, gv cap len lst nw (up be (243 * a + M) y) s a M q = gv cap len lst nw be s a M q := fun q => gv_congr m0 (fun z hz => up_n (by omega))
    unfold MGrow
    rw [up_s]
    refine ⟨⟨y0, ?_, fun q q0 q1 => by rw [g]; exact h2 q q0 q1⟩, y1⟩
    rcases h1 with c | ⟨q, c1, c2, c3⟩
    · exact Or.inl c
    · exact Or.inr ⟨q, c1, c2, by rw [g]; exact c3⟩
  · have hc : i < a ∨ (a = i ∧ M < L) := by omega
    have := h.2 a M hc a1 m0 m1
    have ha : i ≤ a := by omega
    exact ⟨MGrow_up m0 (by omega) (by omega) this.1, by rw [up_n (by omega)]; exact this.2⟩
theorem MGp_row {N P : Int} {cap len lst nw be : Int → Int} {s i : Int} (h : MGp N P cap len lst nw s be i 243) : MGp N P cap len lst nw s be (i + (-1)) 0 :=
  ⟨h.1, fun a M c a1 m0 m1 => h.2 a M (by omega) a1 m0 m1⟩
theorem MGp_lo {N P : Int} {cap len lst nw be : Int → Int} {s i L : Int} (i1 : i < N) (h : MGp N P cap len lst nw s be i L) : ∀ M, 0 ≤ M → M < 243 → -99 ≤ be (243 * (i + 1) + M) ∧ be (243 * (i + 1) + M) ≤ N - (i + 1) := by
  intro M m0 m1
  by_cases e : i + 1 = N
  · rw [e, h.1 M m0 m1]
    omega
  · have := h.2 (i + 1) M (Or.inl (by omega)) (by omega) m0 m1
    exact ⟨this.1.1, this.2⟩
def MG (N P : Int) (cap len lst nw : Int → Int) (s : Int) (be : Int → Int) : Prop := MGp N P cap len lst nw s be (-1) 0
theorem MG_hi {N P : Int} {cap len lst nw be : Int → Int} {s : Int} (h : MG N P cap len lst nw s be) {a M : Int} (a0 : 0 ≤ a) (a1 : a ≤ N) (m0 : 0 ≤ M) (m1 : M < 243) : -99 ≤ be (243 * a + M) ∧ be (243 * a + M) ≤ N - a := by
  by_cases e : a = N
  · rw [e, h.1 M m0 m1]
    omega
  · have := h.2 a M (Or.inl (by omega)) (by omega) m0 m1
    exact ⟨this.1.1, this.2⟩
/-- where votes against are allowed, nobody need lose more than one vote each -/
theorem MG_low {N P : Int} {cap len lst nw be : Int → Int} (hP : 0 ≤ P) (h : MG N P cap len lst nw 0 be) : ∀ (n : Nat) (a M : Int), 0 ≤ a → a ≤ N → N - a ≤ n → 0 ≤ M → M < 243 → -(N - a) ≤ be (243 * a + M)
  | 0, a, M, a0, a1, hn, m0, m1 => by
    have e : a = N := by omega
    rw [e, h.1 M m0 m1]
    omega
  | n + 1, a, M, a0, a1, hn, m0, m1 => by
    by_cases e : a = N
    · rw [e, h.1 M m0 m1]
      omega
    · have h1 := (h.2 a M (Or.inl (by omega)) (by omega) m0 m1).1.2.2 (-1) (by omega) (by omega)
      have h2 := MG_low hP h n (a + 1) M (by omega) (by omega) (by omega) m0 m1
      have hv := vm_bd len lst a (-1) (nw a)
      unfold gv at h1
      rw [if_neg (by omega), if_pos (by omega)] at h1
      omega
/-- the greedy reading of the table -/
def GRa (P : Int) (cap len lst nw be : Int → Int) (a L x : Int) : Prop :=
  (-1 ≤ x ∧ x < P) ∧ (0 ≤ x → gv cap len lst nw be 0 a L x = be (243 * a + L)) ∧ ∀ q, 0 ≤ q → q < P → (x = -1 ∨ q < x) → gv cap len lst nw be 0 a L q ≠ be (243 * a + L)
def GRi (P : Int) (cap len lst nw be fo : Int → Int) (i : Int) : Prop := ∀ a : Int, 0 ≤ a → a < i → GRa P cap len lst nw be a (ld fo a.toNat) (fo a)
theorem GR_tg {N P : Int} {cap len lst nw be : Int → Int} (hW : WI N P cap len lst) (h : MG N P cap len lst nw 0 be) {a L x : Int} (a0 : 0 ≤ a) (a1 : a < N) (L0 : 0 ≤ L) (L1 : L < 243) (hg : GRa P cap len lst nw be a L x) (x0 : 0 ≤ x) : rm9 len lst a x < 9 ∧ dg L x < cap x ∧ L + pw3 x < 243 := by
  have hN := hW.1
  have hx : -1 ≤ x ∧ x < P := hg.1
  have h1 := hg.2.1 x0
  have h2 := MG_low (by omega) h 6 a L a0 (by omega) (by omega) L0 L1
  unfold gv at h1
  rw [if_neg (by omega), if_neg (by omega)] at h1
  split at h1
  · rename_i c
    have hc := hW.2.1 x x0 (by omega)
    exact ⟨c.1, c.2, L_room L0 L1 x0 (by omega) c.2 hc.2⟩
  · omega
theorem GRi_s {P : Int} {cap len lst nw be fo fo' : Int → Int} {i : Int} (i0 : 0 ≤ i) (h : GRi P cap len lst nw be fo i) (hc : ∀ k, k < i → fo' k = fo k) (hg : GRa P cap len lst nw be i (ld fo i.toNat) (fo' i)) : GRi P cap len lst nw be fo' (i + 1) := by
  intro a a0 a1
  have e : ld fo' a.toNat = ld fo a.toNat := ld_congr _ (fun b hb => hc b (by omega))
  rw [e]
  by_cases c : a = i
  · rw [c]
    exact hg
  · rw [hc a (by omega)]
    exact h a a0 (by omega)
theorem ld_i {fo : Int → Int} {i : Int} (i0 : 0 ≤ i) : ld fo (i + 1).toNat = tgq (ld fo i.toNat) (fo i) := by
  rw [show (i + 1).toNat = i.toNat + 1 by omega]
  show tgq (ld fo i.toNat) (fo (i.toNat : Int)) = _
  rw [Int.toNat_of_nonneg i0]
/-- what the found posts make of the present matching -/
def tk (N : Int) (fo nw : Int → Int) (k : Int) : Int := if 0 ≤ k ∧ k < N then fo k else nw k
