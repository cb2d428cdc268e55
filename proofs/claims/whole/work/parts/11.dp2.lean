-- ===== 11 pure: choices one after the other =====
def rkk (len lst : Int → Int) (a q : Int) : Int := rk (row lst a) q (len a)
def okq (cap len lst m : Int → Int) (z a L q : Int) : Prop := (q = -1 ∨ (0 ≤ q ∧ rkk len lst a q < len a ∧ dg L q < cap q)) ∧ (z = 0 → rkk len lst a q ≤ rkk len lst a (m a))
def tgq (L q : Int) : Int := if q = -1 then L else L + pw3 q
def plq (q : Int) : Int := if q = -1 then 5 else q
def ld (σ : Int → Int) : Nat → Int
  | 0 => 0
  | k + 1 => tgq (ld σ k) (σ (k : Int))
def vpr (cap len lst m : Int → Int) (z : Int) (σ : Int → Int) (k : Nat) : Prop := ∀ a : Nat, a < k → okq cap len lst m z (a : Int) (ld σ a) (σ (a : Int))
def kyq (len lst m : Int → Int) (σ : Int → Int) : Nat → Int
  | 0 => 262143
  | k + 1 => kyq len lst m σ k + vt (rkk len lst (k : Int) (σ (k : Int))) (rkk len lst (k : Int) (m (k : Int))) * 262144 - plq (σ (k : Int)) * p2 (3 * (5 - (k : Int)))
theorem ld_congr {σ τ : Int → Int} : ∀ k : Nat, (∀ a : Nat, a < k → σ (a : Int) = τ (a : Int)) → ld σ k = ld τ k
  | 0, _ => rfl
  | k + 1, h => by
    show tgq (ld σ k) (σ (k : Int)) = tgq (ld τ k) (τ (k : Int))
    rw [ld_congr k (fun a ha => h a (by omega)), h k (by omega)]
theorem kyq_congr {len lst m σ τ : Int → Int} : ∀ k : Nat, (∀ a : Nat, a < k → σ (a : Int) = τ (a : Int)) → kyq len lst m σ k = kyq len lst m τ k
  | 0, _ => rfl
  | k + 1, h => by
    show kyq len lst m σ k + _ * 262144 - _ * _ = kyq len lst m τ k + _ * 262144 - _ * _
    rw [kyq_congr k (fun a ha => h a (by omega)), h k (by omega)]
theorem vpr_congr {cap len lst m σ τ : Int → Int} {z : Int} {k : Nat} (h : ∀ a : Nat, a < k → σ (a : Int) = τ (a : Int)) (hv : vpr cap len lst m z σ k) : vpr cap len lst m z τ k := by
  intro a ha
  rw [← ld_congr a (fun b hb => h b (by omega)), ← h a ha]
  exact hv a ha
section Env
variable {N P : Int} {cap len lst m : Int → Int} {z : Int}
theorem rkk_none (hW : WI N P cap len lst) {a : Int} (a0 : 0 ≤ a) (a1 : a < 6) : rkk len lst a (-1) = len a := by
  obtain ⟨hN, hcap, hlen, hlst, hdis⟩ := hW
  have hl := hlen a a0 a1
  refine (rk_uniq (r := len a) (by omega) (by omega) (fun k k0 k1 => ?_) (fun q => absurd q (by omega))).symm
  have := hlst a k a0 a1 k0 k1
  omega
theorem rkk_row (hW : WI N P cap len lst) {a r : Int} (a0 : 0 ≤ a) (a1 : a < 6) (r0 : 0 ≤ r) (r1 : r < len a) : rkk len lst a (row lst a r) = r := by
  obtain ⟨hN, hcap, hlen, hlst, hdis⟩ := hW
  exact (rk_uniq r0 (by omega) (fun k k0 k1 => hdis a k r a0 a1 k0 k1 r1) (fun _ => rfl)).symm
theorem row_rkk (hW : WI N P cap len lst) {a q : Int} (a0 : 0 ≤ a) (a1 : a < 6) (h : rkk len lst a q < len a) : row lst a (rkk len lst a q) = q ∧ 0 ≤ q ∧ q < P := by
  obtain ⟨hN, hcap, hlen, hlst, hdis⟩ := hW
  have hl := hlen a a0 a1
  have e : row lst a (rkk len lst a q) = q := rk_at (by omega) h
  have := hlst a (rkk len lst a q) a0 a1 (rk_nn _ _ _) h
  rw [e] at this
  exact ⟨e, this⟩
theorem rkk_bd (hW : WI N P cap len lst) {a : Int} (a0 : 0 ≤ a) (a1 : a < 6) (q : Int) : 0 ≤ rkk len lst a q ∧ rkk len lst a q ≤ len a := by
  obtain ⟨hN, hcap, hlen, hlst, hdis⟩ := hW
  exact rk_le _ _ (hlen a a0 a1).1
theorem okq_bd (hW : WI N P cap len lst) {a L q : Int} (a0 : 0 ≤ a) (a1 : a < 6) (h : okq cap len lst m z a L q) : -1 ≤ q ∧ q < P := by
  have hN := hW.1
  rcases h.1 with h | ⟨h1, h2, h3⟩
  · omega
  · have := row_rkk hW a0 a1 h2
    omega
theorem plq_bd {q : Int} (h0 : -1 ≤ q) (h1 : q < 5) : 0 ≤ plq q ∧ plq q ≤ 5 := by
  unfold plq
  split <;> omega
theorem ld_bd (hW : WI N P cap len lst) {σ : Int → Int} : ∀ k : Nat, (k : Int) ≤ 6 → vpr cap len lst m z σ k → 0 ≤ ld σ k ∧ ld σ k < pw3 P
  | 0, _, _ => by
    have := pw3_pos P
    show 0 ≤ (0 : Int) ∧ (0 : Int) < pw3 P
    omega
  | k + 1, hk, hv => by
    have ih := ld_bd hW k (by omega) (fun a ha => hv a (by omega))
    have hok := hv k (by omega)
    have hq := okq_bd hW (by omega) (by omega) hok
    have hN := hW.1
    show 0 ≤ tgq (ld σ k) (σ (k : Int)) ∧ tgq (ld σ k) (σ (k : Int)) < pw3 P
    unfold tgq
    split
    · exact ih
    · rename_i c
      rcases hok.1 with h | ⟨h1, h2, h3⟩
      · exact absurd h c
      · have hc := hW.2.1 (σ (k : Int)) h1 (by omega)
        have := dg_room h1 hq.2 (by omega) ih.1 ih.2 (by omega)
        have := pw3_pos (σ (k : Int))
        omega
theorem kyq_bd (hW : WI N P cap len lst) {σ : Int → Int} : ∀ k : Nat, (k : Int) ≤ 6 → vpr cap len lst m z σ k → 262143 - (k : Int) * 425984 ≤ kyq len lst m σ k ∧ kyq len lst m σ k ≤ 262143 + (k : Int) * 425984
  | 0, _, _ => by
    show 262143 - ((0 : Nat) : Int) * 425984 ≤ (262143 : Int) ∧ (262143 : Int) ≤ 262143 + ((0 : Nat) : Int) * 425984
    omega
  | k + 1, hk, hv => by
    have ih := kyq_bd hW k (by omega) (fun a ha => hv a (by omega))
    have hok := hv k (by omega)
    have hq := okq_bd hW (by omega) (by omega) hok
    have hN := hW.1
    have hp := plq_bd hq.1 (by omega)
    have hpp := pp_bd hp.1 hp.2 (a := (k : Int)) (by omega) (by omega)
    have hvt := vt_bd (rkk len lst (k : Int) (σ (k : Int))) (rkk len lst (k : Int) (m (k : Int)))
    show 262143 - ((k + 1 : Nat) : Int) * 425984 ≤ kyq len lst m σ k + vt (rkk len lst (k : Int) (σ (k : Int))) (rkk len lst (k : Int) (m (k : Int))) * 262144 - plq (σ (k : Int)) * p2 (3 * (5 - (k : Int))) ∧ kyq len lst m σ k + vt (rkk len lst (k : Int) (σ (k : Int))) (rkk len lst (k : Int) (m (k : Int))) * 262144 - plq (σ (k : Int)) * p2 (3 * (5 - (k : Int))) ≤ 262143 + ((k + 1 : Nat) : Int) * 425984
    omega
/-- the table behind k applicants -/
def FD (cap len lst m : Int → Int) (z fl : Int) (k : Nat) (be : Int → Int) : Prop :=
  (∀ F, 0 ≤ F → F < fl → be F = -1073741824 ∨ ∃ σ, vpr cap len lst m z σ k ∧ ld σ k = F ∧ be F = kyq len lst m σ k) ∧ ∀ σ, vpr cap len lst m z σ k → kyq len lst m σ k ≤ be (ld σ k)
theorem FD_0 {g : Int → Int} {fl : Int} (h : ∀ k, 0 ≤ k → k < fl → g k = -1073741824) : FD cap len lst m z fl 0 (up g 0 262143) := by
  constructor
  · intro F h0 h1
    by_cases e : F = 0
    · right
      refine ⟨fun _ => -1, fun a ha => absurd ha (Nat.not_lt_zero a), e.symm, ?_⟩
      rw [e, up_s]
      rfl
    · left
      rw [up_n e]
      exact h F h0 h1
  · intro σ _
    show (262143 : Int) ≤ up g 0 262143 0
    rw [up_s]
    omega
theorem FD_BB (hW : WI N P cap len lst) {fl : Int} {k : Nat} {be : Int → Int} (hk : (k : Int) ≤ 6) (h : FD cap len lst m z fl k be) : BB fl 4000000 be := by
  intro F h0 h1
  rcases h.1 F h0 h1 with q | ⟨σ, g1, g2, g3⟩
  · exact Or.inl q
  · right
    have := kyq_bd hW k hk g1
    omega
theorem FD_s (hW : WI N P cap len lst) {be be1 : Int → Int} {a w : Int} (a0 : 0 ≤ a) (a1 : a < N) (hw : w = if z = 0 then rkk len lst a (m a) else len a) (h : FD cap len lst m z (pw3 P) a.toNat be) (hL : LI cap len lst be be1 (pw3 P) a (rkk len lst a (m a)) w 0 (w + 1)) : FD cap len lst m z (pw3 P) (a + 1).toNat be1 := by
  have hN := hW.1
  obtain ⟨k, rfl⟩ : ∃ k : Nat, a = (k : Int) := ⟨a.toNat, by omega⟩
  rw [show ((k : Int) + 1).toNat = k + 1 by omega]
  rw [show ((k : Int)).toNat = k by omega] at h
  have hlen := hW.2.2.1 (k : Int) a0 (by omega)
  have hhb := rkk_bd hW a0 (by omega) (m (k : Int))
  have hwl : w ≤ len (k : Int) := by
    rw [hw]
    split <;> omega
  obtain ⟨-, L2, L3⟩ := hL
  constructor
  · intro F f0 f1
    rcases L2 F f0 f1 with q | ⟨G, r, g1, g2, g3, g4, g5, g6, g7, g8⟩
    · exact Or.inl q
    · right
      have hG0 : 0 ≤ G := by omega
      rcases h.1 G hG0 g2 with q | ⟨σ, s1, s2, s3⟩
      · exact absurd q g6
      · have hc : ∀ b : Nat, b < k → σ (b : Int) = up σ (k : Int) (if r = len (k : Int) then -1 else row lst (k : Int) r) (b : Int) := fun b hb => by rw [up_n (by omega)]
        have hrk : rkk len lst (k : Int) (if r = len (k : Int) then -1 else row lst (k : Int) r) = r := by
          split
          · rename_i e
            rw [rkk_none hW a0 (by omega), e]
          · exact rkk_row hW a0 (by omega) g3 (by omega)
        have hrow : ¬ r = len (k : Int) → 0 ≤ row lst (k : Int) r := fun e => (hW.2.2.2.1 (k : Int) r a0 (by omega) g3 (by omega)).1
        refine ⟨up σ (k : Int) (if r = len (k : Int) then -1 else row lst (k : Int) r), ?_, ?_, ?_⟩
        · intro b hb
          by_cases e : b = k
          · subst e
            rw [up_s, ← ld_congr b hc, s2]
            refine ⟨?_, fun hz => ?_⟩
            · by_cases e : r = len (b : Int)
              · rw [if_pos e]
                exact Or.inl rfl
              · have e2 : rkk len lst (b : Int) (row lst (b : Int) r) = r := by
                  rw [if_neg e] at hrk
                  exact hrk
                rw [if_neg e]
                right
                refine ⟨hrow e, by omega, ?_⟩
                rcases g5 with g5 | g5
                · exact absurd g5 e
                · exact g5
            · rw [hrk]
              rw [if_pos hz] at hw
              omega
          · exact vpr_congr hc s1 b (by omega)
        · show tgq (ld _ k) (up σ (k : Int) _ (k : Int)) = F
          rw [up_s, ← ld_congr k hc, s2, ← g7]
          unfold tgq ltg
          by_cases e : r = len (k : Int)
          · rw [if_pos e, if_pos e, if_pos rfl]
          · have := hrow e
            rw [if_neg e, if_neg e, if_neg (by omega)]
        · show be1 F = kyq len lst m _ k + vt (rkk len lst (k : Int) (up σ (k : Int) _ (k : Int))) _ * 262144 - plq (up σ (k : Int) _ (k : Int)) * _
          rw [up_s, ← kyq_congr k hc, hrk, g8, s3]
          have : plq (if r = len (k : Int) then -1 else row lst (k : Int) r) = lpl len lst (k : Int) r := by
            unfold plq lpl
            by_cases e : r = len (k : Int)
            · rw [if_pos e, if_pos e, if_pos rfl]
            · have := hrow e
              rw [if_neg e, if_neg e, if_neg (by omega)]
          rw [this]
          rfl
  · intro σ hv
    have hv' : vpr cap len lst m z σ k := fun b hb => hv b (by omega)
    have hok := hv k (by omega)
    have hq := okq_bd hW a0 (by omega) hok
    have hb := ld_bd hW k (by omega) hv'
    have hky := kyq_bd hW k (by omega) hv'
    have hle := h.2 σ hv'
    have hr := rkk_bd hW a0 (by omega) (σ (k : Int))
    have hrw : rkk len lst (k : Int) (σ (k : Int)) ≤ w := by
      rw [hw]
      split
      · rename_i hz
        exact hok.2 hz
      · exact hr.2
    have hcase : (σ (k : Int) = -1 ∧ rkk len lst (k : Int) (σ (k : Int)) = len (k : Int)) ∨ (¬ σ (k : Int) = -1 ∧ ¬ rkk len lst (k : Int) (σ (k : Int)) = len (k : Int) ∧ row lst (k : Int) (rkk len lst (k : Int) (σ (k : Int))) = σ (k : Int) ∧ dg (ld σ k) (σ (k : Int)) < cap (σ (k : Int))) := by
      rcases hok.1 with e | ⟨e1, e2, e3⟩
      · left
        refine ⟨e, ?_⟩
        rw [e]
        exact rkk_none hW a0 (by omega)
      · right
        exact ⟨by omega, by omega, (row_rkk hW a0 (by omega) e2).1, e3⟩
    have hlk : lok cap len lst (k : Int) (ld σ k) (rkk len lst (k : Int) (σ (k : Int))) := by
      rcases hcase with ⟨e1, e2⟩ | ⟨e1, e2, e3, e4⟩
      · exact Or.inl e2
      · right
        rw [e3]
        exact e4
    have h3 := L3 (ld σ k) (rkk len lst (k : Int) (σ (k : Int))) (by omega) hb.2 hr.1 hrw hlk (by omega)
    have e1 : ltg len lst (k : Int) (ld σ k) (rkk len lst (k : Int) (σ (k : Int))) = ld σ (k + 1) := by
      show _ = tgq (ld σ k) (σ (k : Int))
      unfold ltg tgq
      rcases hcase with ⟨e1, e2⟩ | ⟨e1, e2, e3, e4⟩
      · rw [if_pos e2, if_pos e1]
      · rw [if_neg e2, if_neg e1, e3]
    have e2 : lpl len lst (k : Int) (rkk len lst (k : Int) (σ (k : Int))) = plq (σ (k : Int)) := by
      unfold lpl plq
      rcases hcase with ⟨e1, e2⟩ | ⟨e1, e2, e3, e4⟩
      · rw [if_pos e2, if_pos e1]
      · rw [if_neg e2, if_neg e1, e3]
    rw [e1] at h3
    unfold lky at h3
    rw [e2] at h3
    show kyq len lst m σ k + _ * 262144 - _ * _ ≤ _
    omega
/-- what the search answers -/
def BKR (N : Int) (cap len lst m : Int → Int) (z r : Int) : Prop :=
  (r = -1073741824 ∨ ∃ σ, vpr cap len lst m z σ N.toNat ∧ r = kyq len lst m σ N.toNat) ∧ ∀ σ, vpr cap len lst m z σ N.toNat → kyq len lst m σ N.toNat ≤ r
theorem BKR_of (hW : WI N P cap len lst) {be : Int → Int} {y j : Int} (h : FD cap len lst m z (pw3 P) N.toNat be) (hj : pw3 P ≤ j) (hj2 : j ≤ pw3 P) (h1 : y = -1073741824 ∨ ∃ F, 0 ≤ F ∧ F < j ∧ y = be F) (h2 : ∀ F, 0 ≤ F → F < j → be F ≤ y) : BKR N cap len lst m z y := by
  constructor
  · rcases h1 with q | ⟨F, f0, f1, f2⟩
    · exact Or.inl q
    · rcases h.1 F f0 (by omega) with q | ⟨σ, g1, g2, g3⟩
      · left; omega
      · exact Or.inr ⟨σ, g1, by omega⟩
  · intro σ hv
    have hN := hW.1
    have hb := ld_bd hW N.toNat (by omega) hv
    exact Int.le_trans (h.2 σ hv) (h2 _ hb.1 (by omega))
theorem BKR_bd (hW : WI N P cap len lst) {r : Int} (h : BKR N cap len lst m z r) : -1073741824 ≤ r ∧ r ≤ 10000000 := by
  have hN := hW.1
  rcases h.1 with q | ⟨σ, g1, g2⟩
  · omega
  · have := kyq_bd hW N.toNat (by omega) g1
    have : (N.toNat : Int) = N := Int.toNat_of_nonneg (by omega)
    omega
end Env
