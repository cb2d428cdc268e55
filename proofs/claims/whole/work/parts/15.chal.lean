-- ===== 15 pure: both searches find the same =====
def sv (cap len lst m : Int → Int) (z : Int) (σ : Int → Int) : Nat → Int → Int → Prop
  | 0, _, _ => True
  | j + 1, a, L => okq cap len lst m z a L (σ a) ∧ sv cap len lst m z σ j (a + 1) (tgq L (σ a))
def sg (len lst m σ : Int → Int) : Nat → Int → Int
  | 0, _ => 0
  | j + 1, a => vt (rkk len lst a (σ a)) (rkk len lst a (m a)) + sg len lst m σ j (a + 1)
def cd (σ : Int → Int) : Nat → Int → Int
  | 0, _ => 0
  | j + 1, a => plq (σ a) * p2 (3 * (5 - a)) + cd σ j (a + 1)
theorem p2_8N : ∀ a : Nat, a < 6 → p2 (3 * (6 - (a : Int))) = 8 * p2 (3 * (5 - (a : Int))) := by decide +kernel
theorem p2_8 {a : Int} (a0 : 0 ≤ a) (a1 : a < 6) : p2 (3 * (6 - a)) = 8 * p2 (3 * (5 - a)) := by
  obtain ⟨n, rfl⟩ : ∃ n : Nat, a = (n : Int) := ⟨a.toNat, by omega⟩
  exact p2_8N n (by omega)
theorem p2_cN : ∀ a : Fin 6, ∀ b : Fin 6, a.val < b.val → p2 (3 * (5 - (a.val : Int))) = 8 * p2 (3 * ((b.val : Int) - (a.val : Int) - 1)) * p2 (3 * (5 - (b.val : Int))) := by decide +kernel
theorem p2_c {a b : Int} (a0 : 0 ≤ a) (ab : a < b) (b1 : b < 6) : p2 (3 * (5 - a)) = 8 * p2 (3 * (b - a - 1)) * p2 (3 * (5 - b)) := by
  obtain ⟨n, rfl⟩ : ∃ n : Nat, a = (n : Int) := ⟨a.toNat, by omega⟩
  obtain ⟨k, rfl⟩ : ∃ k : Nat, b = (k : Int) := ⟨b.toNat, by omega⟩
  exact p2_cN ⟨n, by omega⟩ ⟨k, by omega⟩ (by show n < k; omega)
theorem p2_pos (n : Int) : 0 < p2 n := by
  unfold p2
  exact Int.pow_pos (by decide)
section Env2
variable {N P : Int} {cap len lst m nw be : Int → Int} {z s : Int}
theorem vm_eq (hW : WI N P cap len lst) {a : Int} (a0 : 0 ≤ a) (a1 : a < 6) (p q : Int) : vm len lst a p q = vt (rkk len lst a p) (rkk len lst a q) := by
  have hl := hW.2.2.1 a a0 a1
  have hN := hW.1
  have hp := rkk_bd hW a0 a1 p
  have hq := rkk_bd hW a0 a1 q
  have ep : rm9 len lst a p = if rkk len lst a p < len a then rkk len lst a p else 9 := rfl
  have eq : rm9 len lst a q = if rkk len lst a q < len a then rkk len lst a q else 9 := rfl
  unfold vm
  rw [ep, eq]
  generalize rkk len lst a p = x at *
  generalize rkk len lst a q = y at *
  unfold vt
  split <;> split <;> (try split) <;> (try split) <;> (try split) <;> omega
theorem vpr_sv {σ : Int → Int} : ∀ (j k : Nat), vpr cap len lst m z σ (k + j) ↔ vpr cap len lst m z σ k ∧ sv cap len lst m z σ j (k : Int) (ld σ k)
  | 0, k => ⟨fun h => ⟨h, trivial⟩, fun h => h.1⟩
  | j + 1, k => by
    have ih := vpr_sv (σ := σ) j (k + 1)
    rw [show k + (j + 1) = k + 1 + j by omega, ih]
    constructor
    · rintro ⟨h1, h2⟩
      exact ⟨fun a ha => h1 a (by omega), h1 k (by omega), h2⟩
    · rintro ⟨h1, h2, h3⟩
      refine ⟨fun a ha => ?_, h3⟩
      by_cases e : a = k
      · rw [e]
        exact h2
      · exact h1 a (by omega)
theorem kyq_sg {σ : Int → Int} : ∀ (j k : Nat), kyq len lst m σ (k + j) = kyq len lst m σ k + sg len lst m σ j (k : Int) * 262144 - cd σ j (k : Int)
  | 0, k => by
    show kyq len lst m σ k = kyq len lst m σ k + 0 * 262144 - 0
    omega
  | j + 1, k => by
    have ih := kyq_sg (σ := σ) j (k + 1)
    rw [show k + (j + 1) = k + 1 + j by omega, ih]
    show kyq len lst m σ k + vt (rkk len lst (k : Int) (σ (k : Int))) (rkk len lst (k : Int) (m (k : Int))) * 262144 - plq (σ (k : Int)) * p2 (3 * (5 - (k : Int))) + sg len lst m σ j ((k : Int) + 1) * 262144 - cd σ j ((k : Int) + 1) = kyq len lst m σ k + (vt (rkk len lst (k : Int) (σ (k : Int))) (rkk len lst (k : Int) (m (k : Int))) + sg len lst m σ j ((k : Int) + 1)) * 262144 - (plq (σ (k : Int)) * p2 (3 * (5 - (k : Int))) + cd σ j ((k : Int) + 1))
    generalize plq (σ (k : Int)) * p2 (3 * (5 - (k : Int))) = w
    omega
theorem tgq_bd (hW : WI N P cap len lst) {a L q : Int} (a0 : 0 ≤ a) (a1 : a < 6) (L0 : 0 ≤ L) (L1 : L < 243) (h : okq cap len lst m z a L q) : 0 ≤ tgq L q ∧ tgq L q < 243 := by
  have hq := okq_bd hW a0 a1 h
  have hN := hW.1
  unfold tgq
  split
  · exact ⟨L0, L1⟩
  · rename_i c
    rcases h.1 with h | ⟨h1, h2, h3⟩
    · exact absurd h c
    · have hc := hW.2.1 q h1 (by omega)
      have := L_room L0 L1 h1 (by omega) h3 hc.2
      have := pw3_pos q
      omega
theorem vt_nn {x y : Int} : 0 ≤ vt x y ↔ x ≤ y := by
  unfold vt
  split
  · omega
  · split <;> omega
theorem sg_nn {σ : Int → Int} (hz : z = 0) : ∀ (j : Nat) (a L : Int), sv cap len lst m z σ j a L → 0 ≤ sg len lst m σ j a
  | 0, _, _, _ => Int.le_refl 0
  | j + 1, a, L, h => by
    have h1 := sg_nn hz j (a + 1) _ h.2
    have h2 := vt_nn.mpr (h.1.2 hz)
    show 0 ≤ vt _ _ + sg len lst m σ j (a + 1)
    omega
theorem cd_bd {σ : Int → Int} : ∀ (j : Nat) (a : Int), 0 ≤ a → a + j ≤ 6 → (∀ k, a ≤ k → k < a + j → 0 ≤ plq (σ k) ∧ plq (σ k) ≤ 5) → 0 ≤ cd σ j a ∧ cd σ j a < p2 (3 * (6 - a))
  | 0, a, _, _, _ => ⟨Int.le_refl 0, p2_pos _⟩
  | j + 1, a, a0, a1, h => by
    have ih := cd_bd (σ := σ) j (a + 1) (by omega) (by omega) (fun k k0 k1 => h k (by omega) (by omega))
    have hp := h a (by omega) (by omega)
    have h8 := p2_8 a0 (by omega)
    have hp2 := p2_pos (3 * (5 - a))
    rw [show 3 * (6 - (a + 1)) = 3 * (5 - a) by omega] at ih
    have h1 : plq (σ a) * p2 (3 * (5 - a)) ≤ 5 * p2 (3 * (5 - a)) := Int.mul_le_mul_of_nonneg_right hp.2 (by omega)
    have h2 : 0 ≤ plq (σ a) * p2 (3 * (5 - a)) := Int.mul_nonneg hp.1 (by omega)
    show 0 ≤ plq (σ a) * p2 (3 * (5 - a)) + cd σ j (a + 1) ∧ plq (σ a) * p2 (3 * (5 - a)) + cd σ j (a + 1) < _
    omega
theorem sv_plq (hW : WI N P cap len lst) {σ : Int → Int} : ∀ (j : Nat) (a L : Int), 0 ≤ a → a + j ≤ 6 → sv cap len lst m z σ j a L → ∀ k, a ≤ k → k < a + j → 0 ≤ plq (σ k) ∧ plq (σ k) ≤ 5
  | 0, _, _, _, _, _, k, k0, k1 => absurd k1 (by omega)
  | j + 1, a, L, a0, a1, h, k, k0, k1 => by
    by_cases e : k = a
    · have hq := okq_bd hW a0 (by omega) h.1
      have hN := hW.1
      rw [e]
      exact plq_bd hq.1 (by omega)
    · exact sv_plq hW j (a + 1) _ (by omega) (by omega) h.2 k (by omega) (by omega)
theorem cd_dig {σ : Int → Int} : ∀ (j : Nat) (a b : Int), 0 ≤ a → a + j ≤ 6 → (∀ k, a ≤ k → k < a + j → 0 ≤ plq (σ k) ∧ plq (σ k) ≤ 5) → a ≤ b → b < a + j → cd σ j a / p2 (3 * (5 - b)) % 8 = plq (σ b)
  | 0, a, b, _, _, _, h1, h2 => absurd h2 (by omega)
  | j + 1, a, b, a0, a1, h, h1, h2 => by
    have hr := cd_bd (σ := σ) j (a + 1) (by omega) (by omega) (fun k k0 k1 => h k (by omega) (by omega))
    rw [show 3 * (6 - (a + 1)) = 3 * (5 - a) by omega] at hr
    have hpb := p2_pos (3 * (5 - b))
    show (plq (σ a) * p2 (3 * (5 - a)) + cd σ j (a + 1)) / p2 (3 * (5 - b)) % 8 = _
    by_cases e : b = a
    · subst e
      have hp := h b (by omega) (by omega)
      rw [Int.add_comm, Int.add_mul_ediv_right _ _ (by omega), Int.ediv_eq_zero_of_lt hr.1 hr.2]
      omega
    · have hc := p2_c a0 (show a < b by omega) (by omega)
      have ih := cd_dig (σ := σ) j (a + 1) b (by omega) (by omega) (fun k k0 k1 => h k (by omega) (by omega)) (by omega) (by omega)
      rw [hc, show plq (σ a) * (8 * p2 (3 * (b - a - 1)) * p2 (3 * (5 - b))) = (8 * (plq (σ a) * p2 (3 * (b - a - 1)))) * p2 (3 * (5 - b)) by
        rw [← Int.mul_assoc, ← Int.mul_assoc, ← Int.mul_assoc, Int.mul_comm (plq (σ a)) 8], Int.add_comm, Int.add_mul_ediv_right _ _ (by omega)]
      generalize plq (σ a) * p2 (3 * (b - a - 1)) = w
      omega
theorem gv_ok (hW : WI N P cap len lst) (hnm : ∀ a, 0 ≤ a → a < 6 → nw a = m a) (hzs : (z = 0 ∧ s = 1) ∨ (z = 1 ∧ s = 0)) {a L q : Int} (a0 : 0 ≤ a) (a1 : a < 6) (h : okq cap len lst m z a L q) : gv cap len lst nw be s a L q = vt (rkk len lst a q) (rkk len lst a (m a)) + be (243 * (a + 1) + tgq L q) := by
  have hv := vm_eq hW a0 a1 q (nw a)
  rw [hnm a a0 a1] at hv
  have hl := hW.2.2.1 a a0 a1
  have hN := hW.1
  unfold gv
  rw [hnm a a0 a1, hv]
  have hns : ¬ (s = 1 ∧ vt (rkk len lst a q) (rkk len lst a (m a)) < 0) := by
    rintro ⟨c1, c2⟩
    have := vt_nn.mpr (h.2 (by omega))
    omega
  rw [if_neg hns]
  unfold tgq
  rcases h.1 with e | ⟨e1, e2, e3⟩
  · rw [if_pos (by omega), if_pos e]
  · have h9 : rm9 len lst a q < 9 := by
      show (if rkk len lst a q < len a then rkk len lst a q else 9) < 9
      rw [if_pos e2]
      omega
    rw [if_neg (by omega), if_pos ⟨h9, e3⟩, if_neg (by omega), Int.add_assoc]
/-- the table is no less than any choice -/
theorem MG_up (hW : WI N P cap len lst) (hnm : ∀ a, 0 ≤ a → a < 6 → nw a = m a) (hzs : (z = 0 ∧ s = 1) ∨ (z = 1 ∧ s = 0)) (h : MG N P cap len lst nw s be) {σ : Int → Int} : ∀ (j : Nat) (a L : Int), 0 ≤ a → a + j = N → 0 ≤ L → L < 243 → sv cap len lst m z σ j a L → sg len lst m σ j a ≤ be (243 * a + L)
  | 0, a, L, a0, aj, L0, L1, _ => by
    have e : a = N := by omega
    rw [e, h.1 L L0 L1]
    exact Int.le_refl 0
  | j + 1, a, L, a0, aj, L0, L1, hv => by
    have hN := hW.1
    have ht := tgq_bd hW a0 (by omega) L0 L1 hv.1
    have hq := okq_bd hW a0 (by omega) hv.1
    have ih := MG_up hW hnm hzs h (σ := σ) j (a + 1) (tgq L (σ a)) (by omega) (by omega) ht.1 ht.2 hv.2
    have h1 := (h.2 a L (Or.inl (by omega)) (by omega) L0 L1).1.2.2 (σ a) hq.1 hq.2
    rw [gv_ok hW hnm hzs a0 (by omega) hv.1] at h1
    show vt _ _ + sg len lst m σ j (a + 1) ≤ _
    omega
theorem sv_congr {σ τ : Int → Int} : ∀ (j : Nat) (a L : Int), (∀ k, a ≤ k → σ k = τ k) → sv cap len lst m z σ j a L → sv cap len lst m z τ j a L
  | 0, _, _, _, _ => trivial
  | j + 1, a, L, h, hv => by
    have e := h a (by omega)
    refine ⟨by rw [← e]; exact hv.1, ?_⟩
    rw [← e]
    exact sv_congr j (a + 1) _ (fun k hk => h k (by omega)) hv.2
theorem sg_congr {σ τ : Int → Int} : ∀ (j : Nat) (a : Int), (∀ k, a ≤ k → σ k = τ k) → sg len lst m σ j a = sg len lst m τ j a
  | 0, _, _ => rfl
  | j + 1, a, h => by
    show vt _ _ + sg len lst m σ j (a + 1) = vt _ _ + sg len lst m τ j (a + 1)
    rw [sg_congr j (a + 1) (fun k hk => h k (by omega)), h a (by omega)]
/-- a value of the table that isn't too low is some choice's -/
theorem gv_at (hW : WI N P cap len lst) (hnm : ∀ a, 0 ≤ a → a < 6 → nw a = m a) (hzs : (z = 0 ∧ s = 1) ∨ (z = 1 ∧ s = 0)) {a L q : Int} (a0 : 0 ≤ a) (a1 : a < 6) (q0 : -1 ≤ q) (h : -99 < gv cap len lst nw be s a L q) : okq cap len lst m z a L q := by
  have hv := vm_eq hW a0 a1 q (nw a)
  rw [hnm a a0 a1] at hv
  unfold gv at h
  rw [hnm a a0 a1, hv] at h
  split at h
  · omega
  · rename_i c
    refine ⟨?_, fun hz => ?_⟩
    · split at h
      · left; omega
      · split at h
        · rename_i c3
          right
          refine ⟨by omega, ?_, c3.2⟩
          exact rm9_lt (by omega)
        · omega
    · apply vt_nn.mp
      omega
theorem MG_at (hW : WI N P cap len lst) (hnm : ∀ a, 0 ≤ a → a < 6 → nw a = m a) (hzs : (z = 0 ∧ s = 1) ∨ (z = 1 ∧ s = 0)) (h : MG N P cap len lst nw s be) : ∀ (j : Nat) (a L : Int), 0 ≤ a → a + j = N → 0 ≤ L → L < 243 → (∃ σ, sv cap len lst m z σ j a L ∧ sg len lst m σ j a = be (243 * a + L)) ∨ (z = 0 ∧ be (243 * a + L) ≤ -99 + j)
  | 0, a, L, a0, aj, L0, L1 => by
    have e : a = N := by omega
    left
    exact ⟨fun _ => -1, trivial, by rw [e, h.1 L L0 L1]; rfl⟩
  | j + 1, a, L, a0, aj, L0, L1 => by
    have hN := hW.1
    have hr := (h.2 a L (Or.inl (by omega)) (by omega) L0 L1).1
    by_cases c : be (243 * a + L) ≤ -99
    · right
      refine ⟨?_, by omega⟩
      rcases hzs with hz | ⟨hz, hs⟩
      · exact hz.1
      · subst hs
        have := MG_low (by omega) h 6 a L a0 (by omega) (by omega) L0 L1
        omega
    · rcases hr.2.1 with e | ⟨q, q0, q1, e⟩
      · omega
      · have hok := gv_at hW hnm hzs a0 (by omega) q0 (show -99 < gv cap len lst nw be s a L q by omega)
        have ht := tgq_bd hW a0 (by omega) L0 L1 hok
        rw [gv_ok hW hnm hzs a0 (by omega) hok] at e
        rcases MG_at hW hnm hzs h j (a + 1) (tgq L q) (by omega) (by omega) ht.1 ht.2 with ⟨σ, s1, s2⟩ | ⟨z0, s2⟩
        · left
          refine ⟨up σ a q, ⟨by rw [up_s]; exact hok, ?_⟩, ?_⟩
          · rw [up_s]
            exact sv_congr j (a + 1) _ (fun k hk => (up_n (by omega)).symm) s1
          · show vt _ _ + sg len lst m (up σ a q) j (a + 1) = _
            rw [up_s, ← sg_congr j (a + 1) (fun k hk => (up_n (f := σ) (i := a) (x := q) (j := k) (by omega)).symm), s2, e]
        · right
          refine ⟨z0, ?_⟩
          have := vt_bd (rkk len lst a q) (rkk len lst a (m a))
          omega
theorem vpr_0 {σ : Int → Int} {n : Nat} : vpr cap len lst m z σ n ↔ sv cap len lst m z σ n 0 0 := by
  have h := vpr_sv (cap := cap) (len := len) (lst := lst) (m := m) (z := z) (σ := σ) n 0
  rw [Nat.zero_add] at h
  exact ⟨fun q => (h.mp q).2, fun q => h.mpr ⟨fun a ha => absurd ha (Nat.not_lt_zero a), q⟩⟩
theorem kyq_0 {σ : Int → Int} {n : Nat} : kyq len lst m σ n = 262143 + sg len lst m σ n 0 * 262144 - cd σ n 0 := by
  have h := kyq_sg (len := len) (lst := lst) (m := m) (σ := σ) n 0
  rw [Nat.zero_add] at h
  exact h
theorem sv_cd (hW : WI N P cap len lst) {σ : Int → Int} (h : sv cap len lst m z σ N.toNat 0 0) : 0 ≤ cd σ N.toNat 0 ∧ cd σ N.toNat 0 < 262144 := by
  have hN := hW.1
  have := cd_bd (σ := σ) N.toNat 0 (by omega) (by omega) (sv_plq hW N.toNat 0 0 (by omega) (by omega) h)
  rw [show p2 (3 * (6 - 0)) = 262144 by decide +kernel] at this
  exact this
/-- Pareto optimality: both say the same -/
theorem same_pareto (hW : WI N P cap len lst) (hnm : ∀ a, 0 ≤ a → a < 6 → nw a = m a) {r : Int} (hB : BKR N cap len lst m 0 r) (h : MG N P cap len lst nw 1 be) : r / 262144 = 0 ↔ be 0 = 0 := by
  have hN := hW.1
  have hnj : (0 : Int) + (N.toNat : Int) = N := by omega
  have hu := fun (σ : Int → Int) (q : sv cap len lst m 0 σ N.toNat 0 0) => MG_up hW hnm (Or.inl ⟨rfl, rfl⟩) h N.toNat 0 0 (by omega) hnj (by omega) (by omega) q
  have ha := MG_at hW hnm (Or.inl ⟨rfl, rfl⟩) h N.toNat 0 0 (by omega) hnj (by omega) (by omega)
  rw [show 243 * 0 + (0 : Int) = 0 by omega] at ha
  have hu2 : ∀ σ, sv cap len lst m 0 σ N.toNat 0 0 → sg len lst m σ N.toNat 0 ≤ be 0 := hu
  have hle : ∀ σ, sv cap len lst m 0 σ N.toNat 0 0 → 262143 + sg len lst m σ N.toNat 0 * 262144 - cd σ N.toNat 0 ≤ r := fun σ q => by
    have := hB.2 σ (vpr_0.mpr q)
    rw [kyq_0] at this
    exact this
  rcases hB.1 with q | ⟨σ, s1, s2⟩
  · rcases ha with ⟨τ, t1, t2⟩ | ⟨-, t2⟩
    · have h1 := hle τ t1
      have h2 := sv_cd hW t1
      have h3 := sg_nn rfl N.toNat 0 0 t1
      omega
    · omega
  · rw [kyq_0] at s2
    have s1' := vpr_0.mp s1
    have h1 := sv_cd hW s1'
    have h2 := hu2 σ s1'
    have h4 := sg_nn rfl N.toNat 0 0 s1'
    rcases ha with ⟨τ, t1, t2⟩ | ⟨-, t2⟩
    · have h3 := hle τ t1
      have h5 := sv_cd hW t1
      omega
    · omega
/-- the greedy reading is a best choice -/
theorem GR_best (hW : WI N P cap len lst) (hnm : ∀ a, 0 ≤ a → a < 6 → nw a = m a) {fo : Int → Int} (h : MG N P cap len lst nw 0 be) (hG : GRi P cap len lst nw be fo N) : ∀ (j : Nat) (a : Int), 0 ≤ a → a + j = N → 0 ≤ ld fo a.toNat → ld fo a.toNat < 243 → sv cap len lst m 1 fo j a (ld fo a.toNat) ∧ sg len lst m fo j a = be (243 * a + ld fo a.toNat)
  | 0, a, a0, aj, L0, L1 => by
    have e : a = N := by omega
    refine ⟨trivial, ?_⟩
    rw [e] at L0 L1 ⊢
    rw [h.1 _ L0 L1]
    rfl
  | j + 1, a, a0, aj, L0, L1 => by
    have hN := hW.1
    have hg := hG a a0 (by omega)
    have hlo := MG_low (by omega) h 6 a (ld fo a.toNat) a0 (by omega) (by omega) L0 L1
    have hr := (h.2 a (ld fo a.toNat) (Or.inl (by omega)) (by omega) L0 L1).1
    have hgv : gv cap len lst nw be 0 a (ld fo a.toNat) (fo a) = be (243 * a + ld fo a.toNat) := by
      by_cases c : 0 ≤ fo a
      · exact hg.2.1 c
      · have hx : -1 ≤ fo a ∧ fo a < P := hg.1
        rcases hr.2.1 with e | ⟨q, q0, q1, e⟩
        · omega
        · by_cases c2 : 0 ≤ q
          · exact absurd e.symm (hg.2.2 q c2 q1 (Or.inl (by omega)))
          · rw [show fo a = q by omega]
            exact e.symm
    have hok := gv_at hW hnm (Or.inr ⟨rfl, rfl⟩) a0 (by omega) (show -1 ≤ fo a from hg.1.1) (show -99 < gv cap len lst nw be 0 a (ld fo a.toNat) (fo a) by omega)
    have ht := tgq_bd hW a0 (by omega) L0 L1 hok
    rw [gv_ok hW hnm (Or.inr ⟨rfl, rfl⟩) a0 (by omega) hok] at hgv
    have el := ld_i (fo := fo) a0
    have ih := GR_best hW hnm h hG j (a + 1) (by omega) (by omega) (by rw [el]; exact ht.1) (by rw [el]; exact ht.2)
    rw [el] at ih
    exact ⟨⟨hok, ih.1⟩, by show vt _ _ + sg len lst m fo j (a + 1) = _; rw [ih.2, hgv]⟩
/-- and the least one -/
theorem GR_least (hW : WI N P cap len lst) (hnm : ∀ a, 0 ≤ a → a < 6 → nw a = m a) {fo : Int → Int} (h : MG N P cap len lst nw 0 be) (hG : GRi P cap len lst nw be fo N) {σ : Int → Int} : ∀ (j : Nat) (a : Int), 0 ≤ a → a + j = N → 0 ≤ ld fo a.toNat → ld fo a.toNat < 243 → sv cap len lst m 1 σ j a (ld fo a.toNat) → sg len lst m σ j a = be (243 * a + ld fo a.toNat) → cd fo j a ≤ cd σ j a
  | 0, a, _, _, _, _, _, _ => Int.le_refl 0
  | j + 1, a, a0, aj, L0, L1, hv, hs => by
    have hN := hW.1
    have hg := hG a a0 (by omega)
    have hb := GR_best hW hnm h hG (j + 1) a a0 aj L0 L1
    have htf := tgq_bd hW a0 (by omega) L0 L1 hb.1.1
    have hts := tgq_bd hW a0 (by omega) L0 L1 hv.1
    have hqf := okq_bd hW a0 (by omega) hb.1.1
    have hqs := okq_bd hW a0 (by omega) hv.1
    have el := ld_i (fo := fo) a0
    have hb1 := GR_best hW hnm h hG j (a + 1) (by omega) (by omega) (by rw [el]; exact htf.1) (by rw [el]; exact htf.2)
    have hs' : vt (rkk len lst a (σ a)) (rkk len lst a (m a)) + sg len lst m σ j (a + 1) = be (243 * a + ld fo a.toNat) := hs
    have hbs : vt (rkk len lst a (fo a)) (rkk len lst a (m a)) + sg len lst m fo j (a + 1) = be (243 * a + ld fo a.toNat) := hb.2
    by_cases c : σ a = fo a
    · have ih := GR_least hW hnm h hG (σ := σ) j (a + 1) (by omega) (by omega) (by rw [el]; exact htf.1) (by rw [el]; exact htf.2) (by rw [el, ← c]; exact hv.2) (by
        rw [← hb1.2]
        rw [c] at hs'
        omega)
      show plq (fo a) * p2 (3 * (5 - a)) + cd fo j (a + 1) ≤ plq (σ a) * p2 (3 * (5 - a)) + cd σ j (a + 1)
      rw [c]
      omega
    · have hup := MG_up hW hnm (Or.inr ⟨rfl, rfl⟩) h (σ := σ) j (a + 1) (tgq (ld fo a.toNat) (σ a)) (by omega) (by omega) hts.1 hts.2 hv.2
      have hmx := (h.2 a (ld fo a.toNat) (Or.inl (by omega)) (by omega) L0 L1).1.2.2 (σ a) hqs.1 hqs.2
      have hgo := gv_ok (be := be) hW hnm (Or.inr ⟨rfl, rfl⟩) a0 (by omega) hv.1
      have heq : gv cap len lst nw be 0 a (ld fo a.toNat) (σ a) = be (243 * a + ld fo a.toNat) := by omega
      have hlt : plq (fo a) + 1 ≤ plq (σ a) := by
        have hx : -1 ≤ fo a ∧ fo a < P := hg.1
        by_cases c2 : 0 ≤ σ a
        · have h3 : ¬ (fo a = -1 ∨ σ a < fo a) := fun q => hg.2.2 (σ a) c2 hqs.2 q heq
          unfold plq
          rw [if_neg (by omega), if_neg (by omega)]
          omega
        · unfold plq
          rw [if_neg (by omega), if_pos (by omega)]
          omega
      have hcf := cd_bd (σ := fo) j (a + 1) (by omega) (by omega) (sv_plq hW j (a + 1) _ (by omega) (by omega) hb.1.2)
      have hcs := cd_bd (σ := σ) j (a + 1) (by omega) (by omega) (sv_plq hW j (a + 1) _ (by omega) (by omega) hv.2)
      rw [show 3 * (6 - (a + 1)) = 3 * (5 - a) by omega] at hcf
      have hp := p2_pos (3 * (5 - a))
      have hm := Int.mul_le_mul_of_nonneg_right hlt (show 0 ≤ p2 (3 * (5 - a)) by omega)
      rw [Int.add_mul, Int.one_mul] at hm
      show plq (fo a) * p2 (3 * (5 - a)) + cd fo j (a + 1) ≤ plq (σ a) * p2 (3 * (5 - a)) + cd σ j (a + 1)
      omega
/-- the challenger: the margin and the posts are the same -/
theorem same_chal (hW : WI N P cap len lst) (hnm : ∀ a, 0 ≤ a → a < 6 → nw a = m a) {fo : Int → Int} {r : Int} (hB : BKR N cap len lst m 1 r) (h : MG N P cap len lst nw 0 be) (hG : GRi P cap len lst nw be fo N) : r / 262144 = be 0 ∧ ∀ a, 0 ≤ a → a < N → pin r a = fo a := by
  have hN := hW.1
  have hnj : (0 : Int) + (N.toNat : Int) = N := by omega
  have hbest := GR_best hW hnm h hG N.toNat 0 (by omega) hnj (Int.le_refl 0) (show (0 : Int) < 243 by omega)
  have e0 : ld fo (0 : Int).toNat = 0 := rfl
  rw [e0, show 243 * 0 + (0 : Int) = 0 by omega] at hbest
  have hcf := sv_cd hW hbest.1
  have hrf := hB.2 fo (vpr_0.mpr hbest.1)
  rw [kyq_0, hbest.2] at hrf
  have hlow := MG_low (by omega) h 6 0 0 (by omega) (by omega) (by omega) (by omega) (by omega)
  rw [show 243 * 0 + (0 : Int) = 0 by omega] at hlow
  have key : r = 262143 + be 0 * 262144 - cd fo N.toNat 0 := by
    rcases hB.1 with q | ⟨σ, s1, s2⟩
    · omega
    · rw [kyq_0] at s2
      have s1' := vpr_0.mp s1
      have h1 := sv_cd hW s1'
      have h2 := MG_up hW hnm (Or.inr ⟨rfl, rfl⟩) h (σ := σ) N.toNat 0 0 (by omega) hnj (by omega) (by omega) s1'
      rw [show 243 * 0 + (0 : Int) = 0 by omega] at h2
      have h3 : sg len lst m σ N.toNat 0 = be 0 := by omega
      have h4 := GR_least hW hnm h hG (σ := σ) N.toNat 0 (by omega) hnj (Int.le_refl 0) (show (0 : Int) < 243 by omega) (by rw [e0]; exact s1') (by rw [e0, show 243 * 0 + (0 : Int) = 0 by omega]; exact h3)
      omega
  refine ⟨by omega, fun a a0 a1 => ?_⟩
  have hd := cd_dig (σ := fo) N.toNat 0 a (by omega) (by omega) (sv_plq hW N.toNat 0 0 (by omega) (by omega) hbest.1) a0 (by omega)
  have hm : 262143 - r % 262144 = cd fo N.toNat 0 := by omega
  have hx : -1 ≤ fo a ∧ fo a < P := (hG a a0 a1).1
  unfold pin
  rw [hm, hd]
  unfold plq
  split <;> split <;> omega
end Env2
