-- ===== 16 pure: popular matchings, words of both sides =====
noncomputable def ind (p : Prop) : Int := @ite Int p (Classical.propDecidable p) 1 0
theorem ind_t {p : Prop} (h : p) : ind p = 1 := by unfold ind; exact if_pos h
theorem ind_f {p : Prop} (h : ¬ p) : ind p = 0 := by unfold ind; exact if_neg h
theorem ind_bd (p : Prop) : 0 ≤ ind p ∧ ind p ≤ 1 := by
  by_cases h : p
  · rw [ind_t h]; omega
  · rw [ind_f h]; omega
theorem ind_eq {p q : Prop} (h : p ↔ q) : ind p = ind q := by
  by_cases c : p
  · rw [ind_t c, ind_t (h.mp c)]
  · rw [ind_f c, ind_f (fun x => c (h.mpr x))]
theorem p2_64N : ∀ k : Nat, k < 7 → 1 ≤ p2 (k : Int) ∧ p2 (k : Int) ≤ 64 := by decide +kernel
theorem p2_64 {k : Int} (h0 : 0 ≤ k) (h1 : k < 7) : 1 ≤ p2 k ∧ p2 k ≤ 64 := by
  obtain ⟨n, rfl⟩ : ∃ n : Nat, k = (n : Int) := ⟨k.toNat, by omega⟩
  exact p2_64N n (by omega)
/-- the first post is the lower one -/
def isl (N : Int) (cap len lst : Int → Int) (a : Int) : Int := if sp N cap len lst a = -1 ∨ (¬ fp len lst a = -1 ∧ fp len lst a < sp N cap len lst a) then 1 else 0
def plo (N : Int) (cap len lst : Int → Int) (a : Int) : Int := if isl N cap len lst a = 1 then fp len lst a else sp N cap len lst a
def phg (N : Int) (cap len lst : Int → Int) (a : Int) : Int := if isl N cap len lst a = 1 then sp N cap len lst a else fp len lst a
def wtd (N : Int) (cap len lst : Int → Int) (p : Int) : Int := if cap p < cf N len lst p then cap p else cf N len lst p
def PRE (N P : Int) (cap len lst f0 f1 f2 f3 : Int → Int) : Prop :=
  (∀ a, 0 ≤ a → a < N → f0 a = fp len lst a ∧ f1 a = plo N cap len lst a ∧ f2 a = phg N cap len lst a) ∧ ∀ p, 0 ≤ p → p < P → f3 p = wtd N cap len lst p
theorem plo_bd {N P : Int} {cap len lst : Int → Int} (hW : WI N P cap len lst) {a : Int} (h0 : 0 ≤ a) (h1 : a < 6) : -1 ≤ plo N cap len lst a ∧ plo N cap len lst a < P ∧ -1 ≤ phg N cap len lst a ∧ phg N cap len lst a < P := by
  have := fp_bd hW h0 h1
  have := sp_bd hW h0 h1
  unfold plo phg
  split <;> omega
def bitc (N c a : Int) : Int := c / p2 (N - 1 - a) % 2
def pst (N : Int) (f1 f2 : Int → Int) (c a : Int) : Int := if bitc N c a = 1 then f2 a else f1 a
def pcs (N : Int) (cap len lst : Int → Int) (c a : Int) : Int := pst N (plo N cap len lst) (phg N cap len lst) c a
noncomputable def icr (f : Int → Int) (q : Int) (c : Prop) (j : Int) : Int := @ite Int (j = q ∧ c) (Classical.propDecidable _) (f j + 1) (f j)
theorem icr_t {f : Int → Int} {q j : Int} {c : Prop} (h : j = q ∧ c) : icr f q c j = f j + 1 := by unfold icr; exact if_pos h
theorem icr_f {f : Int → Int} {q j : Int} {c : Prop} (h : ¬ (j = q ∧ c)) : icr f q c j = f j := by unfold icr; exact if_neg h
def hon (σ : Int → Int) (p a : Int) : Int := if σ a = p then 1 else 0
def han (σ φ : Int → Int) (p a : Int) : Int := if σ a = p ∧ σ a = φ a then 1 else 0
theorem hon_bd (σ : Int → Int) (p k : Int) : 0 ≤ hon σ p k ∧ hon σ p k ≤ 1 := by unfold hon; split <;> omega
theorem han_bd (σ φ : Int → Int) (p k : Int) : 0 ≤ han σ φ p k ∧ han σ φ p k ≤ 1 := by unfold han; split <;> omega
/-- a candidate is a popular matching, and written in the one way -/
def PopC (N P : Int) (cap len lst : Int → Int) (c : Int) : Prop :=
  (∀ a, 0 ≤ a → a < N → ¬ (plo N cap len lst a = phg N cap len lst a ∧ bitc N c a = 1)) ∧ ∀ p, 0 ≤ p → p < P → sm (hon (pcs N cap len lst c) p) N ≤ cap p ∧ sm (han (pcs N cap len lst c) (fp len lst) p) N = wtd N cap len lst p
theorem PRE_pst {N P : Int} {cap len lst f0 f1 f2 f3 : Int → Int} (h : PRE N P cap len lst f0 f1 f2 f3) {c a : Int} (h0 : 0 ≤ a) (h1 : a < N) : pst N f1 f2 c a = pcs N cap len lst c a := by
  have := h.1 a h0 h1
  unfold pcs pst
  rw [this.2.1, this.2.2]
theorem pcs_bd {N P : Int} {cap len lst : Int → Int} (hW : WI N P cap len lst) {c a : Int} (h0 : 0 ≤ a) (h1 : a < 6) : -1 ≤ pcs N cap len lst c a ∧ pcs N cap len lst c a < P := by
  have := plo_bd hW h0 h1
  unfold pcs pst
  split <;> omega
/-- the candidates below c that are popular, in their order -/
def COL (N P : Int) (cap len lst : Int → Int) (c r : Int) (f6 : Int → Int) : Prop :=
  r = sm (fun d => ind (PopC N P cap len lst d)) c ∧ (0 ≤ r ∧ r ≤ c) ∧ (∀ i, 0 ≤ i → i < r → 0 ≤ f6 i ∧ f6 i < c ∧ PopC N P cap len lst (f6 i)) ∧ (∀ i j, 0 ≤ i → i < j → j < r → f6 i < f6 j) ∧ ∀ d, 0 ≤ d → d < c → PopC N P cap len lst d → ∃ i, 0 ≤ i ∧ i < r ∧ f6 i = d
theorem COL_0 (N P : Int) (cap len lst f6 : Int → Int) : COL N P cap len lst 0 0 f6 :=
  ⟨rfl, ⟨by omega, by omega⟩, fun i q1 q2 => absurd q2 (by omega), fun i j q1 q2 q3 => absurd q3 (by omega), fun d q1 q2 => absurd q2 (by omega)⟩
theorem COL_t {N P : Int} {cap len lst f6 : Int → Int} {c r : Int} (c0 : 0 ≤ c) (h : COL N P cap len lst c r f6) (hp : PopC N P cap len lst c) : COL N P cap len lst (c + 1) (r + 1) (up f6 r c) := by
  obtain ⟨h1, h2, h3, h4, h5⟩ := h
  refine ⟨?_, ⟨by omega, by omega⟩, fun i q1 q2 => ?_, fun i j q1 q2 q3 => ?_, fun d q1 q2 q3 => ?_⟩
  · rw [sm_s _ c0, ← h1, ind_t hp]
  · by_cases e : i = r
    · rw [e, up_s]
      exact ⟨c0, by omega, hp⟩
    · rw [up_n e]
      have := h3 i q1 (by omega)
      exact ⟨this.1, by omega, this.2.2⟩
  · by_cases e : j = r
    · rw [e, up_s, up_n (by omega)]
      exact (h3 i q1 (by omega)).2.1
    · rw [up_n (by omega), up_n e]
      exact h4 i j q1 q2 (by omega)
  · by_cases e : d = c
    · exact ⟨r, by omega, by omega, by rw [up_s, e]⟩
    · obtain ⟨i, i0, i1, i2⟩ := h5 d q1 (by omega) q3
      exact ⟨i, i0, by omega, by rw [up_n (by omega), i2]⟩
theorem COL_f {N P : Int} {cap len lst f6 : Int → Int} {c r : Int} (c0 : 0 ≤ c) (h : COL N P cap len lst c r f6) (hp : ¬ PopC N P cap len lst c) : COL N P cap len lst (c + 1) r f6 := by
  obtain ⟨h1, h2, h3, h4, h5⟩ := h
  refine ⟨?_, ⟨by omega, by omega⟩, fun i q1 q2 => ?_, h4, fun d q1 q2 q3 => ?_⟩
  · rw [sm_s _ c0, ← h1, ind_f hp]
    omega
  · have := h3 i q1 q2
    exact ⟨this.1, by omega, this.2.2⟩
  · by_cases e : d = c
    · rw [e] at q3
      exact absurd q3 hp
    · exact h5 d q1 (by omega) q3
/-- a candidate as a matching -/
def wrt (N : Int) (f1 f2 : Int → Int) (c a : Int) : Int := if 0 ≤ a ∧ a < N then pst N f1 f2 c a else -1
def chd (N k a : Int) : Int := if 0 ≤ a ∧ a < N then pin k a else -1
theorem BKR_pin {N P : Int} {cap len lst m : Int → Int} (hW : WI N P cap len lst) {r : Int} (hB : BKR N cap len lst m 1 r) {a : Int} (a0 : 0 ≤ a) (a1 : a < N) : -1 ≤ pin r a ∧ pin r a < 5 := by
  have hN := hW.1
  have hv : vpr cap len lst m 1 (fun _ => -1) N.toNat := fun b hb => ⟨Or.inl rfl, fun q => absurd q (by omega)⟩
  have h1 := hB.2 _ hv
  have h2 := kyq_bd hW N.toNat (by omega) hv
  rcases hB.1 with q | ⟨σ, s1, s2⟩
  · omega
  · rw [kyq_0] at s2
    have s1' := vpr_0.mp s1
    have h3 := sv_cd hW s1'
    have hpl := sv_plq hW N.toNat 0 0 (by omega) (by omega) s1'
    have hd := cd_dig (σ := σ) N.toNat 0 a (by omega) (by omega) hpl a0 (by omega)
    have hm : 262143 - r % 262144 = cd σ N.toNat 0 := by omega
    have := hpl a a0 (by omega)
    unfold pin
    rw [hm, hd]
    split <;> omega
theorem chd_M6 {N P : Int} {cap len lst m : Int → Int} (hW : WI N P cap len lst) {r : Int} (hB : BKR N cap len lst m 1 r) : ∀ k, 0 ≤ k → k < 6 → -1 ≤ chd N r k ∧ chd N r k < 5 := by
  intro k k0 k1
  unfold chd
  split
  · rename_i c
    exact BKR_pin hW hB c.1 c.2
  · omega
-- the reference's side
def bitd (d a : Int) : Int := d / p2 a % 2
def mcs (N : Int) (cap len lst : Int → Int) (d a : Int) : Int := if bitd d a = 1 then sp N cap len lst a else fp len lst a
def own (σ φ : Int → Int) (p a : Int) : Int := if σ a = p ∧ φ a = p then 1 else 0
theorem own_bd (σ φ : Int → Int) (p k : Int) : 0 ≤ own σ φ p k ∧ own σ φ p k ≤ 1 := by unfold own; split <;> omega
def LAYp (N : Int) (cap len lst σ : Int → Int) (p : Int) : Prop :=
  sm (hon σ p) N ≤ cap p ∧ (0 < cf N len lst p → (cf N len lst p ≤ cap p ∧ sm (own σ (fp len lst) p) N = cf N len lst p) ∨ (cap p < cf N len lst p ∧ sm (hon σ p) N = cap p ∧ sm (own σ (fp len lst) p) N = sm (hon σ p) N))
def LAYS (N P : Int) (cap len lst : Int → Int) (d : Int) : Prop :=
  (∀ a, 0 ≤ a → a < N → ¬ (bitd d a = 1 ∧ fp len lst a < 0)) ∧ ∀ p, 0 ≤ p → p < P → LAYp N cap len lst (mcs N cap len lst d) p
def cdr (σ : Int → Int) : Nat → Int
  | 0 => 0
  | k + 1 => 6 * cdr σ k + plq (σ (k : Int))
