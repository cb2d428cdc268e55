-- ===== 19 pure: popular matchings, further words =====
def LC1 (N : Int) (len lst : Int → Int) (d i : Int) : Prop := ∀ a, 0 ≤ a → a < i → ¬ (bitd d a = 1 ∧ fp len lst a < 0)
theorem lc_s {N : Int} {len lst : Int → Int} {d i : Int} (h : 0 ≤ i) : LC1 N len lst d (i + 1) ↔ LC1 N len lst d i ∧ ¬ (bitd d i = 1 ∧ fp len lst i < 0) := by
  constructor
  · intro q
    exact ⟨fun a a0 a1 => q a a0 (by omega), q i h (by omega)⟩
  · rintro ⟨q1, q2⟩ a a0 a1
    by_cases e : a = i
    · rw [e]; exact q2
    · exact q1 a a0 (by omega)
def LC2 (N : Int) (cap len lst : Int → Int) (d j : Int) : Prop := ∀ p, 0 ≤ p → p < j → LAYp N cap len lst (mcs N cap len lst d) p
theorem lc2_s {N : Int} {cap len lst : Int → Int} {d j : Int} (h : 0 ≤ j) : LC2 N cap len lst d (j + 1) ↔ LC2 N cap len lst d j ∧ LAYp N cap len lst (mcs N cap len lst d) j := by
  constructor
  · intro q
    exact ⟨fun a a0 a1 => q a a0 (by omega), q j h (by omega)⟩
  · rintro ⟨q1, q2⟩ a a0 a1
    by_cases e : a = j
    · rw [e]; exact q2
    · exact q1 a a0 (by omega)
theorem mcs_bd {N P : Int} {cap len lst : Int → Int} (hW : WI N P cap len lst) {d a : Int} (h0 : 0 ≤ a) (h1 : a < 6) : -1 ≤ mcs N cap len lst d a ∧ mcs N cap len lst d a < P := by
  have := fp_bd hW h0 h1
  have := sp_bd hW (N := N) h0 h1
  unfold mcs
  split <;> omega
theorem cdr_congr {σ τ : Int → Int} : ∀ k : Nat, (∀ a : Nat, a < k → σ (a : Int) = τ (a : Int)) → cdr σ k = cdr τ k
  | 0, _ => rfl
  | k + 1, h => by
    show 6 * cdr σ k + plq (σ (k : Int)) = 6 * cdr τ k + plq (τ (k : Int))
    rw [cdr_congr k (fun a ha => h a (by omega)), h k (by omega)]
theorem cdr_bd {σ : Int → Int} : ∀ k : Nat, (∀ a : Int, 0 ≤ a → a < k → 0 ≤ plq (σ a) ∧ plq (σ a) ≤ 5) → 0 ≤ cdr σ k ∧ cdr σ k < 6 ^ k
  | 0, _ => by
    show 0 ≤ (0 : Int) ∧ (0 : Int) < 1
    omega
  | k + 1, h => by
    have ih := cdr_bd (σ := σ) k (fun a a0 a1 => h a a0 (by omega))
    have hk := h k (by omega) (by omega)
    rw [Int.pow_succ]
    show 0 ≤ 6 * cdr σ k + plq (σ (k : Int)) ∧ 6 * cdr σ k + plq (σ (k : Int)) < 6 ^ k * 6
    generalize (6 : Int) ^ k = w at *
    omega
def mco (N : Int) (cap len lst : Int → Int) (d : Int) : Int := cdr (mcs N cap len lst d) N.toNat
theorem mco_bd {N P : Int} {cap len lst : Int → Int} (hW : WI N P cap len lst) (d : Int) : 0 ≤ mco N cap len lst d ∧ mco N cap len lst d < 46656 := by
  have hN := hW.1
  have h := cdr_bd (σ := mcs N cap len lst d) N.toNat (fun a a0 a1 => by
    have := mcs_bd hW (d := d) a0 (show a < 6 by omega)
    exact plq_bd this.1 (by omega))
  have hp : (6 : Int) ^ N.toNat ≤ 6 ^ 6 := by
    have : ∀ k : Nat, k < 7 → (6 : Int) ^ k ≤ 6 ^ 6 := by decide +kernel
    exact this N.toNat (by omega)
  have e6 : (6 : Int) ^ 6 = 46656 := by decide +kernel
  unfold mco
  omega
/-- x is the least code of a popular matching above b, or 99999 -/
def NXT (N P : Int) (cap len lst : Int → Int) (c b x : Int) : Prop :=
  (x = 99999 ∨ ∃ d, 0 ≤ d ∧ d < c ∧ LAYS N P cap len lst d ∧ b < mco N cap len lst d ∧ x = mco N cap len lst d) ∧ ∀ d, 0 ≤ d → d < c → LAYS N P cap len lst d → b < mco N cap len lst d → x ≤ mco N cap len lst d
theorem NXT_0 (N P : Int) (cap len lst : Int → Int) (b : Int) : NXT N P cap len lst 0 b 99999 := ⟨Or.inl rfl, fun d q1 q2 => absurd q2 (by omega)⟩
theorem NXT_t {N P : Int} {cap len lst : Int → Int} {c b x : Int} (c0 : 0 ≤ c) (h : NXT N P cap len lst c b x) (h1 : LAYS N P cap len lst c) (h2 : b < mco N cap len lst c) (h3 : mco N cap len lst c < x) : NXT N P cap len lst (c + 1) b (mco N cap len lst c) := by
  refine ⟨Or.inr ⟨c, c0, by omega, h1, h2, rfl⟩, fun d q1 q2 q3 q4 => ?_⟩
  by_cases e : d = c
  · rw [e]; exact Int.le_refl _
  · have := h.2 d q1 (by omega) q3 q4
    omega
theorem NXT_f {N P : Int} {cap len lst : Int → Int} {c b x : Int} (h : NXT N P cap len lst c b x) (h1 : ¬ LAYS N P cap len lst c ∨ mco N cap len lst c ≤ b ∨ x ≤ mco N cap len lst c) : NXT N P cap len lst (c + 1) b x := by
  refine ⟨?_, fun d q1 q2 q3 q4 => ?_⟩
  · rcases h.1 with q | ⟨d, d0, d1, d2⟩
    · exact Or.inl q
    · exact Or.inr ⟨d, d0, by omega, d2⟩
  · by_cases e : d = c
    · rw [e] at q3 q4 ⊢
      rcases h1 with q | q | q
      · exact absurd q3 q
      · omega
      · exact q
    · exact h.2 d q1 (by omega) q3 q4
/-- the greatest size so far -/
def GPS (N P : Int) (cap len lst : Int → Int) (c y : Int) : Prop :=
  (-104 ≤ y ∧ y ≤ 6) ∧ (y = -104 ∨ ∃ d, 0 ≤ d ∧ d < c ∧ LAYS N P cap len lst d ∧ y = sm (pls (mcs N cap len lst d)) N) ∧ ∀ d, 0 ≤ d → d < c → LAYS N P cap len lst d → sm (pls (mcs N cap len lst d)) N ≤ y
theorem pls_bd (σ : Int → Int) (k : Int) : 0 ≤ pls σ k ∧ pls σ k ≤ 1 := by unfold pls; split <;> omega
theorem plc_bd (σ : Int → Int) (k : Int) : 0 ≤ plc σ k ∧ plc σ k ≤ 1 := by unfold plc; split <;> omega
theorem GPS_0 (N P : Int) (cap len lst : Int → Int) : GPS N P cap len lst 0 (-104) := ⟨by omega, Or.inl rfl, fun d q1 q2 => absurd q2 (by omega)⟩
theorem GPS_t {N P : Int} {cap len lst : Int → Int} {c y : Int} (c0 : 0 ≤ c) (hN : 0 ≤ N ∧ N ≤ 6) (h : GPS N P cap len lst c y) (h1 : LAYS N P cap len lst c) (h2 : y < sm (pls (mcs N cap len lst c)) N) : GPS N P cap len lst (c + 1) (sm (pls (mcs N cap len lst c)) N) := by
  have hb := sm_bd (pls_bd (mcs N cap len lst c)) hN.1
  refine ⟨by omega, Or.inr ⟨c, c0, by omega, h1, rfl⟩, fun d q1 q2 q3 => ?_⟩
  by_cases e : d = c
  · rw [e]; exact Int.le_refl _
  · have := h.2.2 d q1 (by omega) q3
    omega
theorem GPS_f {N P : Int} {cap len lst : Int → Int} {c y : Int} (h : GPS N P cap len lst c y) (h1 : ¬ LAYS N P cap len lst c ∨ sm (pls (mcs N cap len lst c)) N ≤ y) : GPS N P cap len lst (c + 1) y := by
  refine ⟨h.1, ?_, fun d q1 q2 q3 => ?_⟩
  · rcases h.2.1 with q | ⟨d, d0, d1, d2⟩
    · exact Or.inl q
    · exact Or.inr ⟨d, d0, by omega, d2⟩
  · by_cases e : d = c
    · rw [e] at q3 ⊢
      rcases h1 with q | q
      · exact absurd q3 q
      · exact q
    · exact h.2.2 d q1 (by omega) q3
/-- the class's candidate as a matching -/
def wpc (N : Int) (cap len lst : Int → Int) (c a : Int) : Int := if 0 ≤ a ∧ a < N then pcs N cap len lst c a else -1
theorem wpc_M6 {N P : Int} {cap len lst : Int → Int} (hW : WI N P cap len lst) (c : Int) : ∀ k, 0 ≤ k → k < 6 → -1 ≤ wpc N cap len lst c k ∧ wpc N cap len lst c k < 5 := by
  intro k k0 k1
  have hN := hW.1
  have := pcs_bd hW (N := N) (c := c) k0 k1
  unfold wpc
  split <;> omega
theorem wrt_wpc {N P : Int} {cap len lst f0 f1 f2 f3 : Int → Int} (h : PRE N P cap len lst f0 f1 f2 f3) (c k : Int) : wrt N f1 f2 c k = wpc N cap len lst c k := by
  unfold wrt wpc
  by_cases q : 0 ≤ k ∧ k < N
  · rw [if_pos q, if_pos q, PRE_pst h q.1 q.2]
  · rw [if_neg q, if_neg q]
def GPC (N P : Int) (cap len lst : Int → Int) (y : Int) : Prop :=
  -104 ≤ y ∧ (y = -104 ∨ ∃ d, 0 ≤ d ∧ d < p2 N ∧ PopC N P cap len lst d ∧ y = sm (plc (wpc N cap len lst d)) 6) ∧ ∀ d, 0 ≤ d → d < p2 N → PopC N P cap len lst d → sm (plc (wpc N cap len lst d)) 6 ≤ y
theorem GPC_of {N P : Int} {cap len lst f6 : Int → Int} {cnt i y : Int} (h : COL N P cap len lst (p2 N) cnt f6) (hi : cnt ≤ i) (h1 : -104 ≤ y) (h2 : y = -104 ∨ ∃ k, 0 ≤ k ∧ k < i ∧ k < cnt ∧ y = sm (plc (wpc N cap len lst (f6 k))) 6) (h3 : ∀ k, 0 ≤ k → k < i → sm (plc (wpc N cap len lst (f6 k))) 6 ≤ y) : GPC N P cap len lst y := by
  refine ⟨h1, ?_, fun d q1 q2 q3 => ?_⟩
  · rcases h2 with q | ⟨k, k0, k1, k2, k3⟩
    · exact Or.inl q
    · have := h.2.2.1 k k0 k2
      exact Or.inr ⟨f6 k, this.1, this.2.1, this.2.2, k3⟩
  · obtain ⟨k, k0, k1, k2⟩ := h.2.2.2.2 d q1 q2 q3
    rw [← k2]
    exact h3 k k0 (by omega)
-- the serial choice, the reference's way
def mpk (cap lst : Int → Int) (L a k : Int) : Int := if dg L (row lst a k) < cap (row lst a k) then 1 else 0
def mpm (cap len lst : Int → Int) (L a : Int) : Int := if rk (mpk cap lst L a) 1 (len a) < len a then row lst a (rk (mpk cap lst L a) 1 (len a)) else -1
def mL (N : Int) (cap len lst : Int → Int) (a : Int) : Nat → Int
  | 0 => 0
  | k + 1 => tgq (mL N cap len lst a k) (mpm cap len lst (mL N cap len lst a k) (sra N a (k : Int)))
theorem mpk_1 {cap lst : Int → Int} {L a k : Int} (h : mpk cap lst L a k = 1) : dg L (row lst a k) < cap (row lst a k) := by
  unfold mpk at h
  split at h
  · assumption
  · omega
theorem mpm_at {cap len lst : Int → Int} {L a i : Int} (h1 : 0 ≤ i) (h2 : i < len a) (h3 : ∀ k, 0 ≤ k → k < i → ¬ dg L (row lst a k) < cap (row lst a k)) (h4 : dg L (row lst a i) < cap (row lst a i)) : mpm cap len lst L a = row lst a i := by
  have e : i = rk (mpk cap lst L a) 1 (len a) := by
    refine rk_uniq h1 (by omega) (fun k q1 q2 => ?_) (fun _ => ?_)
    · unfold mpk
      rw [if_neg (h3 k q1 q2)]
      omega
    · unfold mpk
      rw [if_pos h4]
  unfold mpm
  rw [← e, if_pos h2]
theorem mpm_no {cap len lst : Int → Int} {L a : Int} (h3 : ∀ k, 0 ≤ k → k < len a → ¬ dg L (row lst a k) < cap (row lst a k)) : mpm cap len lst L a = -1 := by
  unfold mpm
  split
  · rename_i c
    have h5 := rk_nn (mpk cap lst L a) 1 (len a)
    exact absurd (mpk_1 (rk_at (by omega) c)) (h3 _ h5 c)
  · rfl
theorem mpm_bd {N P : Int} {cap len lst : Int → Int} (hW : WI N P cap len lst) {L a : Int} (h0 : 0 ≤ a) (h1 : a < 6) : -1 ≤ mpm cap len lst L a ∧ mpm cap len lst L a < P ∧ (0 ≤ mpm cap len lst L a → dg L (mpm cap len lst L a) < cap (mpm cap len lst L a)) := by
  obtain ⟨hN, hcap, hlen, hlst, hdis⟩ := hW
  unfold mpm
  split
  · rename_i c
    have h5 := rk_nn (mpk cap lst L a) 1 (len a)
    have := hlst a _ h0 h1 h5 c
    exact ⟨by omega, by omega, fun _ => mpk_1 (rk_at (by omega) c)⟩
  · exact ⟨by omega, by omega, fun q => absurd q (by omega)⟩
theorem mL_s {N : Int} {cap len lst : Int → Int} {a k : Int} (h : 0 ≤ k) : mL N cap len lst a (k + 1).toNat = tgq (mL N cap len lst a k.toNat) (mpm cap len lst (mL N cap len lst a k.toNat) (sra N a k)) := by
  rw [show (k + 1).toNat = k.toNat + 1 by omega]
  show tgq (mL N cap len lst a k.toNat) (mpm cap len lst (mL N cap len lst a k.toNat) (sra N a (k.toNat : Int))) = _
  rw [Int.toNat_of_nonneg h]
theorem sra_bd {N a k : Int} (a0 : 0 ≤ a) (a1 : a < N) (k0 : 0 ≤ k) (k1 : k < N) : 0 ≤ sra N a k ∧ sra N a k < N := by
  unfold sra
  split <;> omega
theorem sra_inj {N a j k : Int} (j0 : 0 ≤ j) (jk : j < k) (k1 : k < N) : ¬ sra N a j = sra N a k := by
  unfold sra
  split <;> split <;> omega
theorem sra_mod {N a k : Int} (a0 : 0 ≤ a) (a1 : a < N) (k0 : 0 ≤ k) (k1 : k < N) : (a + k) % N = sra N a k := by
  unfold sra
  split
  · exact Int.emod_eq_of_lt (by omega) (by omega)
  · have h : (a + k - N + N) % N = (a + k - N) % N := Int.add_emod_right (a + k - N) N
    rw [show a + k - N + N = a + k by omega] at h
    rw [h]
    exact Int.emod_eq_of_lt (by omega) (by omega)
/-- the inner reading: from the list's end to its start -/
def MPI (cap len lst : Int → Int) (L a i y : Int) : Prop :=
  (y = -1 ∧ ∀ r, i < r → 0 ≤ r → r < len a → ¬ dg L (row lst a r) < cap (row lst a r)) ∨ ∃ r, i < r ∧ 0 ≤ r ∧ r < len a ∧ dg L (row lst a r) < cap (row lst a r) ∧ y = row lst a r ∧ ∀ r', i < r' → 0 ≤ r' → r' < r → ¬ dg L (row lst a r') < cap (row lst a r')
theorem MPI_t {cap len lst : Int → Int} {L a i y : Int} (i0 : 0 ≤ i) (i1 : i < len a) (h1 : dg L (row lst a i) < cap (row lst a i)) : MPI cap len lst L a (i + (-1)) (row lst a i) :=
  Or.inr ⟨i, by omega, i0, i1, h1, rfl, fun r' q1 q2 q3 => absurd q3 (by omega)⟩
theorem MPI_f {cap len lst : Int → Int} {L a i y : Int} (h : MPI cap len lst L a i y) (h1 : ¬ dg L (row lst a i) < cap (row lst a i)) : MPI cap len lst L a (i + (-1)) y := by
  rcases h with ⟨e, h⟩ | ⟨r, r0, r1, r2, r3, r4, r5⟩
  · refine Or.inl ⟨e, fun r q1 q2 q3 => ?_⟩
    by_cases c : r = i
    · rw [c]; exact h1
    · exact h r (by omega) q2 q3
  · refine Or.inr ⟨r, by omega, r1, r2, r3, r4, fun r' q1 q2 q3 => ?_⟩
    by_cases c : r' = i
    · rw [c]; exact h1
    · exact r5 r' (by omega) q2 q3
theorem MPI_e {cap len lst : Int → Int} {L a i y : Int} (hi : i < 0) (h : MPI cap len lst L a i y) : y = mpm cap len lst L a := by
  rcases h with ⟨e, h⟩ | ⟨r, r0, r1, r2, r3, r4, r5⟩
  · rw [e]
    exact (mpm_no (fun k k0 k1 => h k (by omega) k0 k1)).symm
  · rw [r4]
    exact (mpm_at r1 r2 (fun k k0 k1 => r5 k (by omega) k0 k1) r3).symm
