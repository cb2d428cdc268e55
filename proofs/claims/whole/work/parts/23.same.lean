-- ===== 23 pure: popular matchings and the serial choice are the same on both sides =====
def mkb (b : Nat → Nat) : Nat → Nat
  | 0 => 0
  | n + 1 => mkb b n + b n * 2 ^ n
theorem mkb_bits {b : Nat → Nat} (hb : ∀ a, b a ≤ 1) : ∀ n, mkb b n < 2 ^ n ∧ ∀ a, a < n → mkb b n / 2 ^ a % 2 = b a
  | 0 => ⟨by show 0 < 1; omega, fun a h => absurd h (Nat.not_lt_zero a)⟩
  | n + 1 => by
    obtain ⟨h1, h2⟩ := mkb_bits hb n
    have hn := hb n
    constructor
    · show mkb b n + b n * 2 ^ n < 2 ^ (n + 1)
      rw [Nat.pow_succ]
      have : b n * 2 ^ n ≤ 1 * 2 ^ n := Nat.mul_le_mul_right _ hn
      omega
    · intro a ha
      show (mkb b n + b n * 2 ^ n) / 2 ^ a % 2 = b a
      by_cases e : a = n
      · subst e
        rw [Nat.add_mul_div_right _ _ (Nat.two_pow_pos a), Nat.div_eq_of_lt h1]
        omega
      · have hp : 2 ^ n = 2 * 2 ^ (n - a - 1) * 2 ^ a := by
          rw [Nat.mul_assoc, ← Nat.pow_add, ← Nat.pow_succ']
          congr 1
          omega
        rw [hp, ← Nat.mul_assoc, Nat.add_mul_div_right _ _ (Nat.two_pow_pos a), show b n * (2 * 2 ^ (n - a - 1)) = 2 * (b n * 2 ^ (n - a - 1)) by rw [← Nat.mul_assoc, Nat.mul_comm (b n) 2, Nat.mul_assoc], Nat.add_mul_mod_self_left]
        exact h2 a (by omega)
def phb (N u c : Nat) : Nat := mkb (fun a => (c / 2 ^ (N - 1 - a) + u / 2 ^ a) % 2) N
def permOK (N : Nat) : Bool := (List.range (2 ^ N)).all fun u => ((List.range (2 ^ N)).map (phb N u)).isPerm (List.range (2 ^ N))
theorem permOK_6 : permOK 1 = true ∧ permOK 2 = true ∧ permOK 3 = true ∧ permOK 4 = true ∧ permOK 5 = true ∧ permOK 6 = true := by decide +kernel
theorem phb_perm {N u : Nat} (h0 : 1 ≤ N) (h1 : N ≤ 6) (hu : u < 2 ^ N) : ((List.range (2 ^ N)).map (phb N u)).Perm (List.range (2 ^ N)) := by
  have h : permOK N = true := by
    obtain ⟨p1, p2, p3, p4, p5, p6⟩ := permOK_6
    rcases (show N = 1 ∨ N = 2 ∨ N = 3 ∨ N = 4 ∨ N = 5 ∨ N = 6 by omega) with rfl | rfl | rfl | rfl | rfl | rfl
    · exact p1
    · exact p2
    · exact p3
    · exact p4
    · exact p5
    · exact p6
  exact List.isPerm_iff.mp (List.all_eq_true.mp h u (List.mem_range.mpr hu))
def lsm (l : List Int) : Int := l.foldr (fun x y => x + y) 0
theorem lsm_perm {l l' : List Int} (h : l.Perm l') : lsm l = lsm l' := by
  induction h with
  | nil => rfl
  | cons x _ ih =>
    show x + lsm _ = x + lsm _
    rw [ih]
  | swap x y l =>
    show y + (x + lsm l) = x + (y + lsm l)
    omega
  | trans _ _ ih1 ih2 => exact ih1.trans ih2
theorem lsm_app (l l' : List Int) : lsm (l ++ l') = lsm l + lsm l' := by
  induction l with
  | nil =>
    show lsm l' = 0 + lsm l'
    omega
  | cons x l ih =>
    show x + lsm (l ++ l') = x + lsm l + lsm l'
    rw [ih]
    omega
theorem smN_lsm (g : Int → Int) : ∀ n : Nat, smN g n = lsm ((List.range n).map (fun k : Nat => g (k : Int)))
  | 0 => rfl
  | n + 1 => by
    rw [List.range_succ, List.map_append, lsm_app]
    show smN g n + g (n : Int) = _ + (g (n : Int) + 0)
    rw [smN_lsm g n]
    omega
theorem p2_nat {N : Int} (h : 0 ≤ N) : p2 N = ((2 ^ N.toNat : Nat) : Int) := by
  unfold p2
  rw [Int.natCast_pow]
  rfl
section Same
variable {N P : Int} {cap len lst : Int → Int}
theorem fp_none {a : Int} (h : fp len lst a = -1) (hr : ∀ k, 0 ≤ k → k < len a → 0 ≤ row lst a k) (hl : 0 ≤ len a) : sp N cap len lst a = -1 := by
  unfold fp at h
  split at h
  · exact sp_no (fun k k0 k1 => absurd k1 (by omega))
  · have := hr 0 (by omega) (by omega)
    omega
theorem sp_ne (hW : WI N P cap len lst) {a : Int} (a0 : 0 ≤ a) (a1 : a < 6) : (fp len lst a = -1 → sp N cap len lst a = -1) ∧ (0 ≤ fp len lst a → ¬ sp N cap len lst a = fp len lst a) := by
  obtain ⟨hN, hcap, hlen, hlst, hdis⟩ := hW
  have hl := hlen a a0 a1
  refine ⟨fun h => fp_none h (fun k k0 k1 => (hlst a k a0 a1 k0 k1).1) hl.1, fun h => ?_⟩
  have e : fp len lst a = row lst a 0 := by
    unfold fp at h ⊢
    split at h
    · omega
    · rename_i c
      rw [if_neg c]
  rw [e] at h ⊢
  unfold sp
  split
  · rename_i c
    have h5 := rk_nn (spg N cap len lst a) 1 (len a - 1)
    intro q
    exact absurd q.symm (hdis a 0 (rk (spg N cap len lst a) 1 (len a - 1) + 1) a0 a1 (by omega) (by omega) (by omega))
  · omega
theorem isl_01 (a : Int) : isl N cap len lst a = 0 ∨ isl N cap len lst a = 1 := by unfold isl; split <;> omega
theorem plo_eq (hW : WI N P cap len lst) {a : Int} (a0 : 0 ≤ a) (a1 : a < 6) : (plo N cap len lst a = phg N cap len lst a ↔ fp len lst a = -1) ∧ (fp len lst a = -1 → isl N cap len lst a = 1) := by
  have h := sp_ne hW a0 a1
  have hb := fp_bd hW a0 a1
  constructor
  · constructor
    · intro e
      unfold plo phg at e
      split at e
      · by_cases c : fp len lst a = -1
        · exact c
        · exact absurd e.symm (h.2 (by omega))
      · by_cases c : fp len lst a = -1
        · exact c
        · exact absurd e (h.2 (by omega))
    · intro e
      have := h.1 e
      unfold plo phg
      split <;> omega
  · intro e
    unfold isl
    rw [if_pos (Or.inl (h.1 e))]
theorem plo_lt (hW : WI N P cap len lst) {a : Int} (a0 : 0 ≤ a) (a1 : a < 6) (h : ¬ plo N cap len lst a = phg N cap len lst a) : plq (plo N cap len lst a) < plq (phg N cap len lst a) := by
  have hs := sp_ne hW a0 a1
  have hb := fp_bd hW a0 a1
  have hsb := sp_bd hW (N := N) a0 a1
  have hN := hW.1
  have hf : ¬ fp len lst a = -1 := fun e => h ((plo_eq hW a0 a1).1.mpr e)
  have hne := hs.2 (by omega)
  by_cases c : sp N cap len lst a = -1 ∨ (¬ fp len lst a = -1 ∧ fp len lst a < sp N cap len lst a)
  · have e : isl N cap len lst a = 1 := if_pos c
    unfold plo phg plq
    rw [if_pos e, if_pos e, if_neg hf]
    split <;> omega
  · have e : ¬ isl N cap len lst a = 1 := by
      unfold isl
      rw [if_neg c]
      omega
    unfold plo phg plq
    rw [if_neg e, if_neg e, if_neg (by omega), if_neg hf]
    omega
/-- candidate c and choice d write the same -/
def TW (N : Int) (cap len lst : Int → Int) (c d : Int) : Prop := ∀ a, 0 ≤ a → a < N → bitd d a = (bitc N c a + (1 - isl N cap len lst a)) % 2
theorem TW_same {c d : Int} (h : TW N cap len lst c d) {a : Int} (a0 : 0 ≤ a) (a1 : a < N) : mcs N cap len lst d a = pcs N cap len lst c a := by
  have h1 := h a a0 a1
  have hi := isl_01 (N := N) (cap := cap) (len := len) (lst := lst) a
  have hb : bitc N c a = 0 ∨ bitc N c a = 1 := by unfold bitc; omega
  unfold mcs pcs pst plo phg
  rw [h1]
  rcases hi with e | e <;> rcases hb with f | f <;> rw [e, f] <;> rfl
theorem smN_le {g h : Int → Int} : ∀ n : Nat, (∀ k : Nat, k < n → g (k : Int) ≤ h (k : Int)) → smN g n ≤ smN h n
  | 0, _ => Int.le_refl 0
  | n + 1, e => by
    have h1 := smN_le n (fun k hk => e k (by omega))
    have h2 := e n (by omega)
    show smN g n + _ ≤ smN h n + _
    omega
theorem sm_le {g h : Int → Int} {i : Int} (e : ∀ k, 0 ≤ k → k < i → g k ≤ h k) : sm g i ≤ sm h i := smN_le _ (fun k hk => e k (by omega) (by omega))
theorem TW_pop (hW : WI N P cap len lst) {c d : Int} (h : TW N cap len lst c d) : PopC N P cap len lst c ↔ LAYS N P cap len lst d := by
  have hN := hW.1
  have hall : ∀ p, sm (hon (mcs N cap len lst d) p) N = sm (hon (pcs N cap len lst c) p) N := fun p => sm_congr (fun a a0 a1 => by unfold hon; rw [TW_same h a0 a1])
  have hown : ∀ p, sm (own (mcs N cap len lst d) (fp len lst) p) N = sm (han (pcs N cap len lst c) (fp len lst) p) N := fun p => sm_congr (fun a a0 a1 => by
    unfold own han
    rw [TW_same h a0 a1]
    split <;> split <;> omega)
  have hle : ∀ p, sm (own (mcs N cap len lst d) (fp len lst) p) N ≤ cf N len lst p := fun p => sm_le (fun a a0 a1 => by unfold own cfi; split <;> split <;> omega)
  have hle2 : ∀ p, sm (own (mcs N cap len lst d) (fp len lst) p) N ≤ sm (hon (mcs N cap len lst d) p) N := fun p => sm_le (fun a a0 a1 => by unfold own hon; split <;> split <;> omega)
  have h1 : (∀ a, 0 ≤ a → a < N → ¬ (plo N cap len lst a = phg N cap len lst a ∧ bitc N c a = 1)) ↔ (∀ a, 0 ≤ a → a < N → ¬ (bitd d a = 1 ∧ fp len lst a < 0)) := by
    have key : ∀ a, 0 ≤ a → a < N → ((plo N cap len lst a = phg N cap len lst a ∧ bitc N c a = 1) ↔ (bitd d a = 1 ∧ fp len lst a < 0)) := by
      intro a a0 a1
      have hp := plo_eq hW (a := a) a0 (by omega)
      have hb := fp_bd hW (a := a) a0 (by omega)
      have hbc : bitc N c a = 0 ∨ bitc N c a = 1 := by unfold bitc; omega
      have ht := h a a0 a1
      constructor
      · rintro ⟨q1, q2⟩
        have q3 := hp.1.mp q1
        have q4 := hp.2 q3
        rw [q2, q4] at ht
        exact ⟨ht, by omega⟩
      · rintro ⟨q1, q2⟩
        have q3 : fp len lst a = -1 := by omega
        have q4 := hp.2 q3
        refine ⟨hp.1.mpr q3, ?_⟩
        rw [q4] at ht
        omega
    constructor
    · intro q a a0 a1 z
      exact q a a0 a1 ((key a a0 a1).mpr z)
    · intro q a a0 a1 z
      exact q a a0 a1 ((key a a0 a1).mp z)
  have h2 : ∀ p, 0 ≤ p → p < P → ((sm (hon (pcs N cap len lst c) p) N ≤ cap p ∧ sm (han (pcs N cap len lst c) (fp len lst) p) N = wtd N cap len lst p) ↔ LAYp N cap len lst (mcs N cap len lst d) p) := by
    intro p p0 p1
    have q1 := hle p
    have q2 := hle2 p
    have q3 := cf_bd N len lst p (by omega)
    have q4 := sm_bd (own_bd (mcs N cap len lst d) (fp len lst) p) (i := N) (by omega)
    have q5 := hW.2.1 p p0 (by omega)
    unfold LAYp wtd
    rw [← hall p, ← hown p]
    generalize sm (hon (mcs N cap len lst d) p) N = x at *
    generalize sm (own (mcs N cap len lst d) (fp len lst) p) N = y at *
    generalize cf N len lst p = z at *
    generalize cap p = w at *
    split <;> omega
  unfold PopC LAYS
  rw [h1]
  constructor
  · rintro ⟨q1, q2⟩
    exact ⟨q1, fun p p0 p1 => (h2 p p0 p1).mp (q2 p p0 p1)⟩
  · rintro ⟨q1, q2⟩
    exact ⟨q1, fun p p0 p1 => (h2 p p0 p1).mpr (q2 p p0 p1)⟩
/-- the mask of those whose first post isn't the lower one -/
def msk (N : Int) (cap len lst : Int → Int) : Nat := mkb (fun a => (1 - isl N cap len lst (a : Int)).toNat) N.toNat
theorem phb_TW (hN : 1 ≤ N ∧ N ≤ 6) (c : Nat) : TW N cap len lst (c : Int) ((phb N.toNat (msk N cap len lst) c : Nat) : Int) := by
  have hm := mkb_bits (b := fun a => (1 - isl N cap len lst (a : Int)).toNat) (fun a => by have := isl_01 (N := N) (cap := cap) (len := len) (lst := lst) (a : Int); omega) N.toNat
  have hp := mkb_bits (b := fun a => (c / 2 ^ (N.toNat - 1 - a) + msk N cap len lst / 2 ^ a) % 2) (fun a => by omega) N.toNat
  intro a a0 a1
  obtain ⟨k, rfl⟩ : ∃ k : Nat, a = (k : Int) := ⟨a.toNat, by omega⟩
  have h1 := hp.2 k (by omega)
  have h2 := hm.2 k (by omega)
  have e1 : bitd ((phb N.toNat (msk N cap len lst) c : Nat) : Int) (k : Int) = ((phb N.toNat (msk N cap len lst) c / 2 ^ k % 2 : Nat) : Int) := by
    unfold bitd
    rw [p2_nat (by omega), Int.natCast_emod, Int.natCast_ediv]
    rfl
  have e2 : bitc N (c : Int) (k : Int) = ((c / 2 ^ (N.toNat - 1 - k) % 2 : Nat) : Int) := by
    unfold bitc
    rw [p2_nat (by omega), show (N - 1 - (k : Int)).toNat = N.toNat - 1 - k by omega, Int.natCast_emod, Int.natCast_ediv]
    rfl
  have e3 : phb N.toNat (msk N cap len lst) c / 2 ^ k % 2 = (c / 2 ^ (N.toNat - 1 - k) + msk N cap len lst / 2 ^ k) % 2 := h1
  have e4 : msk N cap len lst / 2 ^ k % 2 = (1 - isl N cap len lst (k : Int)).toNat := h2
  rw [e1, e2, e3]
  have hi := isl_01 (N := N) (cap := cap) (len := len) (lst := lst) (k : Int)
  omega
theorem msk_lt (hN : 1 ≤ N ∧ N ≤ 6) : msk N cap len lst < 2 ^ N.toNat := (mkb_bits (b := fun a => (1 - isl N cap len lst (a : Int)).toNat) (fun a => by have := isl_01 (N := N) (cap := cap) (len := len) (lst := lst) (a : Int); omega) N.toNat).1
theorem same_count (hW : WI N P cap len lst) : sm (fun d => ind (PopC N P cap len lst d)) (p2 N) = sm (fun d => ind (LAYS N P cap len lst d)) (p2 N) := by
  have hN := hW.1
  have hN2 : 1 ≤ N ∧ N ≤ 6 := ⟨hN.1, hN.2.1⟩
  have hperm := phb_perm (N := N.toNat) (u := msk N cap len lst) (by omega) (by omega) (msk_lt hN2)
  unfold sm
  rw [p2_nat (by omega), Int.toNat_natCast, smN_lsm, smN_lsm]
  rw [← lsm_perm (hperm.map (fun k : Nat => ind (LAYS N P cap len lst (k : Int)))), List.map_map]
  congr 1
  apply List.map_congr_left
  intro c hc
  exact ind_eq (TW_pop hW (phb_TW hN2 c))
theorem TW_ex (hW : WI N P cap len lst) {c : Int} (c0 : 0 ≤ c) (c1 : c < p2 N) : ∃ d, 0 ≤ d ∧ d < p2 N ∧ TW N cap len lst c d := by
  have hN := hW.1
  have hN2 : 1 ≤ N ∧ N ≤ 6 := ⟨hN.1, hN.2.1⟩
  obtain ⟨k, rfl⟩ : ∃ k : Nat, c = (k : Int) := ⟨c.toNat, by omega⟩
  rw [p2_nat (by omega)] at c1 ⊢
  have hb := mkb_bits (b := fun a => (k / 2 ^ (N.toNat - 1 - a) + msk N cap len lst / 2 ^ a) % 2) (fun a => by omega) N.toNat
  have h1 : phb N.toNat (msk N cap len lst) k < 2 ^ N.toNat := hb.1
  exact ⟨((phb N.toNat (msk N cap len lst) k : Nat) : Int), by omega, by omega, phb_TW hN2 k⟩
theorem TW_ex2 (hW : WI N P cap len lst) {d : Int} (d0 : 0 ≤ d) (d1 : d < p2 N) : ∃ c, 0 ≤ c ∧ c < p2 N ∧ TW N cap len lst c d := by
  have hN := hW.1
  have hN2 : 1 ≤ N ∧ N ≤ 6 := ⟨hN.1, hN.2.1⟩
  obtain ⟨k, rfl⟩ : ∃ k : Nat, d = (k : Int) := ⟨d.toNat, by omega⟩
  rw [p2_nat (by omega)] at d1 ⊢
  have hperm := phb_perm (N := N.toNat) (u := msk N cap len lst) (by omega) (by omega) (msk_lt hN2)
  have hk : k ∈ (List.range (2 ^ N.toNat)).map (phb N.toNat (msk N cap len lst)) := hperm.mem_iff.mpr (List.mem_range.mpr (by omega))
  obtain ⟨c, hc, rfl⟩ := List.mem_map.mp hk
  have := List.mem_range.mp hc
  exact ⟨(c : Int), by omega, by omega, phb_TW hN2 c⟩
theorem sm_tail {g : Int → Int} : ∀ (n : Nat) (i : Int), 0 ≤ i → (∀ k, i ≤ k → g k = 0) → sm g (i + n) = sm g i
  | 0, i, _, _ => by rw [show i + ((0 : Nat) : Int) = i by omega]
  | n + 1, i, i0, h => by
    rw [show i + ((n + 1 : Nat) : Int) = i + n + 1 by omega, sm_s _ (by omega), sm_tail n i i0 h, h _ (by omega)]
    omega
theorem size_eq {m nw : Int → Int} (hN : 1 ≤ N ∧ N ≤ 6) (h1 : ∀ a, 0 ≤ a → a < N → nw a = m a ∧ -1 ≤ m a) (h2 : ∀ a, N ≤ a → a < 6 → m a = -1) : sm (plc m) 6 = sm (pls nw) N := by
  have e : sm (plc m) 6 = sm (fun a => if a < 6 then plc m a else 0) 6 := sm_congr (fun a a0 a1 => by rw [if_pos a1])
  rw [e, show (6 : Int) = N + ((6 - N).toNat : Int) by omega, sm_tail (6 - N).toNat N (by omega) (fun k hk => by
    split
    · unfold plc
      rw [if_pos (h2 k hk (by omega))]
    · rfl)]
  refine sm_congr (fun a a0 a1 => ?_)
  have := h1 a a0 a1
  rw [if_pos (by omega)]
  unfold plc pls
  split <;> split <;> omega
theorem TW_size (hW : WI N P cap len lst) {c d : Int} (h : TW N cap len lst c d) : sm (plc (wpc N cap len lst c)) 6 = sm (pls (mcs N cap len lst d)) N := by
  have hN := hW.1
  refine size_eq ⟨hN.1, hN.2.1⟩ (fun a a0 a1 => ?_) (fun a a0 a1 => ?_)
  · have := pcs_bd hW (N := N) (c := c) (a := a) a0 (by omega)
    rw [TW_same h a0 a1]
    unfold wpc
    rw [if_pos ⟨a0, a1⟩]
    exact ⟨rfl, this.1⟩
  · unfold wpc
    rw [if_neg (by omega)]
theorem same_great (hW : WI N P cap len lst) {y y' : Int} (h : GPC N P cap len lst y) (h' : GPS N P cap len lst (p2 N) y') : y = y' := by
  obtain ⟨a1, a2, a3⟩ := h
  obtain ⟨b1, b2, b3⟩ := h'
  have u1 : y ≤ y' := by
    rcases a2 with q | ⟨c, c0, c1, c2, c3⟩
    · omega
    · obtain ⟨d, d0, d1, ht⟩ := TW_ex hW c0 c1
      have := b3 d d0 d1 ((TW_pop hW ht).mp c2)
      rw [← TW_size hW ht] at this
      omega
  have u2 : y' ≤ y := by
    rcases b2 with q | ⟨d, d0, d1, d2, d3⟩
    · omega
    · obtain ⟨c, c0, c1, ht⟩ := TW_ex2 hW d0 d1
      have := a3 c c0 c1 ((TW_pop hW ht).mpr d2)
      rw [TW_size hW ht] at this
      omega
  omega
def pco (N : Int) (cap len lst : Int → Int) (c : Int) : Int := cdr (pcs N cap len lst c) N.toNat
theorem TW_code {c d : Int} (h : TW N cap len lst c d) (hN : 0 ≤ N) : mco N cap len lst d = pco N cap len lst c := cdr_congr _ (fun a ha => TW_same h (by omega) (by omega))
theorem pco_step (hW : WI N P cap len lst) {c c' : Int} (h1 : PopC N P cap len lst c) (h2 : PopC N P cap len lst c') (c0 : 0 ≤ c) (c1 : c < p2 N) (d0 : 0 ≤ c') (d1 : c' < p2 N) : ∀ k : Nat, (k : Int) ≤ N → (c / p2 (N - k) = c' / p2 (N - k) → cdr (pcs N cap len lst c) k = cdr (pcs N cap len lst c') k) ∧ (c / p2 (N - k) < c' / p2 (N - k) → cdr (pcs N cap len lst c) k < cdr (pcs N cap len lst c') k)
  | 0, hk => by
    rw [show N - ((0 : Nat) : Int) = N by omega, Int.ediv_eq_zero_of_lt c0 c1, Int.ediv_eq_zero_of_lt d0 d1]
    exact ⟨fun _ => rfl, fun q => absurd q (by omega)⟩
  | k + 1, hk => by
    have hN := hW.1
    obtain ⟨i1, i2⟩ := pco_step hW h1 h2 c0 c1 d0 d1 k (by omega)
    have hpp : p2 (N - (k : Int)) = p2 (N - ((k + 1 : Nat) : Int)) * 2 := by
      rw [p2_nat (by omega), p2_nat (by omega), show (N - (k : Int)).toNat = (N - ((k + 1 : Nat) : Int)).toNat + 1 by omega, Nat.pow_succ, Int.natCast_mul]
      rfl
    have hpos := p2_pos (N - ((k + 1 : Nat) : Int))
    rw [hpp, ← Int.ediv_ediv_of_nonneg (by omega), ← Int.ediv_ediv_of_nonneg (by omega)] at i1 i2
    have eb : ∀ x, bitc N x (k : Int) = x / p2 (N - ((k + 1 : Nat) : Int)) % 2 := fun x => by
      unfold bitc
      rw [show N - 1 - (k : Int) = N - ((k + 1 : Nat) : Int) by omega]
    have ed : ∀ x, pcs N cap len lst x (k : Int) = if x / p2 (N - ((k + 1 : Nat) : Int)) % 2 = 1 then phg N cap len lst (k : Int) else plo N cap len lst (k : Int) := fun x => by
      unfold pcs pst
      rw [eb x]
    have hlb := plo_bd hW (N := N) (a := (k : Int)) (by omega) (by omega)
    have q1 := plq_bd (q := plo N cap len lst (k : Int)) hlb.1 (by omega)
    have q2 := plq_bd (q := phg N cap len lst (k : Int)) hlb.2.2.1 (by omega)
    have n1 := h1.1 (k : Int) (by omega) (by omega)
    have n2 := h2.1 (k : Int) (by omega) (by omega)
    rw [eb c] at n1
    rw [eb c'] at n2
    have hlt := plo_lt hW (a := (k : Int)) (by omega) (by omega)
    show (_ → 6 * cdr (pcs N cap len lst c) k + plq (pcs N cap len lst c (k : Int)) = 6 * cdr (pcs N cap len lst c') k + plq (pcs N cap len lst c' (k : Int))) ∧ (_ → 6 * cdr (pcs N cap len lst c) k + plq (pcs N cap len lst c (k : Int)) < 6 * cdr (pcs N cap len lst c') k + plq (pcs N cap len lst c' (k : Int)))
    rw [ed c, ed c']
    generalize c / p2 (N - ((k + 1 : Nat) : Int)) = x at *
    generalize c' / p2 (N - ((k + 1 : Nat) : Int)) = y at *
    constructor
    · intro e
      rw [i1 (by rw [e]), e]
    · intro e
      by_cases ee : x / 2 = y / 2
      · have j1 := i1 ee
        rw [if_neg (by omega), if_pos (by omega)]
        have := hlt (fun z => n2 ⟨z, by omega⟩)
        omega
      · have j2 := i2 (by omega)
        split <;> split <;> omega
theorem pco_lt (hW : WI N P cap len lst) {c c' : Int} (h1 : PopC N P cap len lst c) (h2 : PopC N P cap len lst c') (c0 : 0 ≤ c) (d1 : c' < p2 N) (h : c < c') : pco N cap len lst c < pco N cap len lst c' := by
  have hN := hW.1
  have := (pco_step hW h1 h2 c0 (by omega) (by omega) d1 N.toNat (by omega)).2
  rw [show N - (N.toNat : Int) = 0 by omega, show p2 0 = 1 from rfl, Int.ediv_one, Int.ediv_one] at this
  exact this h
theorem same_nth (hW : WI N P cap len lst) {cnt ix w : Int} {g t : Int → Int} (hC : COL N P cap len lst (p2 N) cnt g) (i0 : 0 ≤ ix) (i1 : ix < cnt) (ht : t (-1) = -1) (hT : ∀ j, 0 ≤ j → j ≤ ix → NXT N P cap len lst (p2 N) (t (j - 1)) (t j)) (w0 : 0 ≤ w) (w1 : w < p2 N) (hw : t ix ≠ 99999 → LAYS N P cap len lst w ∧ mco N cap len lst w = t ix) : LAYS N P cap len lst w ∧ ∀ a, 0 ≤ a → a < N → mcs N cap len lst w a = pcs N cap len lst (g ix) a := by
  have hN := hW.1
  obtain ⟨C1, C2, C3, C4, C5⟩ := hC
  have hmono : ∀ i j, 0 ≤ i → i < j → j < cnt → pco N cap len lst (g i) < pco N cap len lst (g j) := fun i j a b c => pco_lt hW (C3 i a (by omega)).2.2 (C3 j (by omega) c).2.2 (C3 i a (by omega)).1 (C3 j (by omega) c).2.1 (C4 i j a b c)
  have hpb : ∀ i, 0 ≤ i → i < cnt → 0 ≤ pco N cap len lst (g i) ∧ pco N cap len lst (g i) < 46656 := fun i a b => by
    obtain ⟨d, d0, d1, hd⟩ := TW_ex hW (C3 i a b).1 (C3 i a b).2.1
    have := mco_bd hW d
    rw [TW_code hd (by omega)] at this
    exact this
  have key : ∀ n : Nat, (n : Int) ≤ ix → t (n : Int) = pco N cap len lst (g (n : Int)) := by
    intro n
    induction n with
    | zero =>
      intro _
      have h1 := hT 0 (by omega) (by omega)
      rw [show (0 : Int) - 1 = -1 by omega, ht] at h1
      obtain ⟨d, d0, d1, hd⟩ := TW_ex hW (C3 0 (by omega) (by omega)).1 (C3 0 (by omega) (by omega)).2.1
      have hb := hpb 0 (by omega) (by omega)
      have h2 := h1.2 d d0 d1 ((TW_pop hW hd).mp (C3 0 (by omega) (by omega)).2.2) (by rw [TW_code hd (by omega)]; omega)
      rw [TW_code hd (by omega)] at h2
      rcases h1.1 with q | ⟨x, x0, x1, x2, x3, x4⟩
      · omega
      · obtain ⟨c, c0, c1, hc⟩ := TW_ex2 hW x0 x1
        obtain ⟨i, ia, ib, ic⟩ := C5 c c0 c1 ((TW_pop hW hc).mpr x2)
        rw [TW_code hc (by omega), ← ic] at x4
        show t 0 = pco N cap len lst (g 0)
        by_cases e : i = 0
        · rw [e] at x4
          exact x4
        · have := hmono 0 i (by omega) (by omega) ib
          omega
    | succ n ih =>
      intro hn
      have e := ih (by omega)
      have h1 := hT ((n + 1 : Nat) : Int) (by omega) hn
      rw [show ((n + 1 : Nat) : Int) - 1 = (n : Int) by omega, e] at h1
      obtain ⟨d, d0, d1, hd⟩ := TW_ex hW (C3 ((n + 1 : Nat) : Int) (by omega) (by omega)).1 (C3 ((n + 1 : Nat) : Int) (by omega) (by omega)).2.1
      have hb := hpb ((n + 1 : Nat) : Int) (by omega) (by omega)
      have hlt := hmono (n : Int) ((n + 1 : Nat) : Int) (by omega) (by omega) (by omega)
      have h2 := h1.2 d d0 d1 ((TW_pop hW hd).mp (C3 ((n + 1 : Nat) : Int) (by omega) (by omega)).2.2) (by rw [TW_code hd (by omega)]; exact hlt)
      rw [TW_code hd (by omega)] at h2
      rcases h1.1 with q | ⟨x, x0, x1, x2, x3, x4⟩
      · omega
      · obtain ⟨c, c0, c1, hc⟩ := TW_ex2 hW x0 x1
        obtain ⟨i, ia, ib, ic⟩ := C5 c c0 c1 ((TW_pop hW hc).mpr x2)
        rw [TW_code hc (by omega), ← ic] at x3 x4
        have hi : (n : Int) < i := by
          rcases Int.lt_or_le (n : Int) i with q | q
          · exact q
          · by_cases ee : i = (n : Int)
            · rw [ee] at x3
              omega
            · have := hmono i (n : Int) ia (by omega) (by omega)
              omega
        by_cases ee : i = ((n + 1 : Nat) : Int)
        · rw [ee] at x4
          exact x4
        · have := hmono ((n + 1 : Nat) : Int) i (by omega) (by omega) ib
          omega
  have hk := key ix.toNat (by omega)
  rw [Int.toNat_of_nonneg i0] at hk
  have hb := hpb ix i0 i1
  obtain ⟨hw1, hw2⟩ := hw (by omega)
  refine ⟨hw1, fun a a0 a1 => ?_⟩
  obtain ⟨c, c0, c1, hc⟩ := TW_ex2 hW w0 w1
  obtain ⟨i, ia, ib, ic⟩ := C5 c c0 c1 ((TW_pop hW hc).mpr hw1)
  rw [TW_code hc (by omega), hk, ← ic] at hw2
  have ei : i = ix := by
    rcases Int.lt_trichotomy i ix with q | q | q
    · have := hmono i ix ia q i1
      omega
    · exact q
    · have := hmono ix i i0 q ib
      omega
  rw [TW_same hc a0 a1, ← ic, ei]
/-- the margins alone -/
theorem same_margin {m nw be : Int → Int} (hW : WI N P cap len lst) (hnm : ∀ a, 0 ≤ a → a < 6 → nw a = m a) {r : Int} (hB : BKR N cap len lst m 1 r) (h : MG N P cap len lst nw 0 be) : r / 262144 = be 0 := by
  have hN := hW.1
  have hnj : (0 : Int) + (N.toNat : Int) = N := by omega
  have ha := MG_at hW hnm (Or.inr ⟨rfl, rfl⟩) h N.toNat 0 0 (by omega) hnj (by omega) (by omega)
  rw [show 243 * 0 + (0 : Int) = 0 by omega] at ha
  have hlow := MG_low (by omega) h 6 0 0 (by omega) (by omega) (by omega) (by omega) (by omega)
  rw [show 243 * 0 + (0 : Int) = 0 by omega] at hlow
  rcases ha with ⟨τ, t1, t2⟩ | ⟨q, -⟩
  · have h1 := hB.2 τ (vpr_0.mpr t1)
    rw [kyq_0, t2] at h1
    have hct := sv_cd hW t1
    rcases hB.1 with q | ⟨σ, s1, s2⟩
    · omega
    · rw [kyq_0] at s2
      have s1' := vpr_0.mp s1
      have h2 := sv_cd hW s1'
      have h3 := MG_up hW hnm (Or.inr ⟨rfl, rfl⟩) h (σ := σ) N.toNat 0 0 (by omega) hnj (by omega) (by omega) s1'
      rw [show 243 * 0 + (0 : Int) = 0 by omega] at h3
      omega
  · omega
-- the serial choice
theorem fnd_congr {g h : Int → Int} {p : Int} : ∀ n : Nat, (∀ k : Nat, k < n → g (k : Int) = h (k : Int)) → fnd g p n = fnd h p n
  | 0, _ => rfl
  | n + 1, e => by
    unfold fnd
    rw [fnd_congr n (fun k hk => e k (by omega)), e n (by omega)]
theorem rk_congr {g h : Int → Int} {p n : Int} (e : ∀ k, 0 ≤ k → k < n → g k = h k) : rk g p n = rk h p n := by
  unfold rk
  rw [fnd_congr n.toNat (fun k hk => e k (by omega) (by omega))]
theorem dg_addN : ∀ L : Fin 243, ∀ q : Fin 5, ∀ p : Fin 5, L.val / 3 ^ q.val % 3 < 2 → (L.val + 3 ^ q.val) / 3 ^ p.val % 3 = L.val / 3 ^ p.val % 3 + (if q.val = p.val then 1 else 0) := by decide +kernel
theorem dg_add {L q p : Int} (L0 : 0 ≤ L) (L1 : L < 243) (q0 : 0 ≤ q) (q1 : q < 5) (p0 : 0 ≤ p) (p1 : p < 5) (h : dg L q < 2) : dg (L + pw3 q) p = dg L p + (if q = p then 1 else 0) := by
  obtain ⟨n, rfl⟩ : ∃ n : Nat, L = (n : Int) := ⟨L.toNat, by omega⟩
  obtain ⟨k, rfl⟩ : ∃ k : Nat, q = (k : Int) := ⟨q.toNat, by omega⟩
  obtain ⟨j, rfl⟩ : ∃ j : Nat, p = (j : Int) := ⟨p.toNat, by omega⟩
  have e : ∀ x : Nat, ∀ y : Nat, y < 6 → dg (x : Int) (y : Int) = ((x / 3 ^ y % 3 : Nat) : Int) := fun x y hy => by
    unfold dg
    rw [pw3_N y hy, Int.natCast_emod, Int.natCast_ediv]
    rfl
  rw [e n k (by omega)] at h
  have h1 := dg_addN ⟨n, by omega⟩ ⟨k, by omega⟩ ⟨j, by omega⟩ (by show n / 3 ^ k % 3 < 2; omega)
  have h2 : (n + 3 ^ k) / 3 ^ j % 3 = n / 3 ^ j % 3 + (if k = j then 1 else 0) := h1
  rw [pw3_N k (by omega), ← Int.natCast_add, e _ j (by omega), e _ j (by omega), h2]
  by_cases c : k = j
  · rw [if_pos c, if_pos (by omega)]
    omega
  · rw [if_neg c, if_neg (by omega)]
    omega
theorem smN_up {g h : Int → Int} {i c : Int} : ∀ n : Nat, (∀ k : Nat, ¬ (k : Int) = i → h (k : Int) = g (k : Int)) → h i = g i + c → smN h n = smN g n + (if 0 ≤ i ∧ i < n then c else 0)
  | 0, _, _ => by
    show (0 : Int) = 0 + _
    rw [if_neg (by omega)]
    omega
  | n + 1, e, hc => by
    have ih := smN_up n e hc
    show smN h n + h (n : Int) = smN g n + g (n : Int) + _
    rw [ih]
    by_cases q : (n : Int) = i
    · rw [q, hc, if_neg (by omega), if_pos (by omega)]
      omega
    · rw [e n q]
      by_cases q2 : 0 ≤ i ∧ i < (n : Int)
      · rw [if_pos q2, if_pos (by omega)]
        omega
      · rw [if_neg q2, if_neg (by omega)]
        omega
/-- what goes along: loads and drafts -/
def SER (N P : Int) (cap len lst : Int → Int) (a : Int) (k : Nat) : Prop :=
  (∀ p, 0 ≤ p → p < P → dg (mL N cap len lst a k) p = sm (hon (srd N cap len lst a k) p) 6) ∧ (0 ≤ mL N cap len lst a k ∧ mL N cap len lst a k < 243) ∧ (∀ j, (k : Int) ≤ j → j < N → srd N cap len lst a k (sra N a j) = -1) ∧ (∀ j, 0 ≤ j → j < (k : Int) → srd N cap len lst a k (sra N a j) = mpm cap len lst (mL N cap len lst a j.toNat) (sra N a j)) ∧ ∀ x, N ≤ x → srd N cap len lst a k x = -1
theorem sm_oth {m : Int → Int} {p x : Int} (hx : m x = -1) (hp : 0 ≤ p) : sm (oth m p x) 6 = sm (hon m p) 6 := sm_congr (fun k k0 k1 => by
  unfold oth hon
  by_cases e : k = x
  · rw [e, hx, if_neg (fun q => q.1 rfl), if_neg (by omega)]
  · by_cases c : m k = p
    · rw [if_pos ⟨e, c⟩, if_pos c]
    · rw [if_neg (fun q => c q.2), if_neg c])
theorem SER_mpf (hW : WI N P cap len lst) {a : Int} {k : Nat} (h : SER N P cap len lst a k) (hk : (k : Int) < N) (hs : 0 ≤ sra N a (k : Int) ∧ sra N a (k : Int) < N) : mpf cap len lst (srd N cap len lst a k) (sra N a (k : Int)) = mpm cap len lst (mL N cap len lst a k) (sra N a (k : Int)) := by
  have hN := hW.1
  have hd := h.2.2.1 (k : Int) (by omega) hk
  have e : rk (mpg cap lst (srd N cap len lst a k) (sra N a (k : Int))) 1 (len (sra N a (k : Int))) = rk (mpk cap lst (mL N cap len lst a k) (sra N a (k : Int))) 1 (len (sra N a (k : Int))) := rk_congr (fun r r0 r1 => by
    have hr := hW.2.2.2.1 (sra N a (k : Int)) r hs.1 (by omega) r0 r1
    unfold mpg mpk
    rw [sm_oth hd hr.1, ← h.1 _ hr.1 hr.2])
  unfold mpf mpm
  rw [e]
theorem SER_all (hW : WI N P cap len lst) {a : Int} (a0 : 0 ≤ a) (a1 : a < N) : ∀ k : Nat, (k : Int) ≤ N → SER N P cap len lst a k
  | 0, _ => by
    refine ⟨fun p p0 p1 => ?_, ⟨Int.le_refl 0, by show (0 : Int) < 243; omega⟩, fun j _ _ => rfl, fun j j0 j1 => absurd j1 (by omega), fun x _ => rfl⟩
    show dg 0 p = sm (hon (fun _ => -1) p) 6
    have : sm (hon (fun _ => -1) p) 6 = sm (fun _ => 0) 6 := sm_congr (fun k _ _ => by show (if (-1 : Int) = p then 1 else 0) = 0; rw [if_neg (by omega)])
    rw [this, show sm (fun _ => (0 : Int)) 6 = 0 by decide +kernel]
    unfold dg
    rw [Int.zero_ediv]
    rfl
  | k + 1, hk => by
    have hN := hW.1
    have ih := SER_all hW a0 a1 k (by omega)
    have hs := sra_bd (N := N) (a := a) (k := (k : Int)) a0 a1 (by omega) (by omega)
    have hm := SER_mpf hW ih (by omega) hs
    have hd := ih.2.2.1 (k : Int) (by omega) (by omega)
    have hb := mpm_bd hW (L := mL N cap len lst a k) (a := sra N a (k : Int)) hs.1 (by omega)
    have eL : mL N cap len lst a (k + 1) = tgq (mL N cap len lst a k) (mpm cap len lst (mL N cap len lst a k) (sra N a (k : Int))) := rfl
    have eS : srd N cap len lst a (k + 1) = up (srd N cap len lst a k) (sra N a (k : Int)) (mpm cap len lst (mL N cap len lst a k) (sra N a (k : Int))) := by
      rw [srd_s, hm]
    unfold SER
    rw [eL, eS]
    generalize hq : mpm cap len lst (mL N cap len lst a k) (sra N a (k : Int)) = q at *
    obtain ⟨i1, i2, i3, i4, i5⟩ := ih
    have hcount : ∀ p, 0 ≤ p → sm (hon (up (srd N cap len lst a k) (sra N a (k : Int)) q) p) 6 = sm (hon (srd N cap len lst a k) p) 6 + (if q = p then 1 else 0) := by
      intro p p0
      have := smN_up (g := hon (srd N cap len lst a k) p) (h := hon (up (srd N cap len lst a k) (sra N a (k : Int)) q) p) (i := sra N a (k : Int)) (c := if q = p then 1 else 0) 6 (fun j hj => by unfold hon; rw [up_n hj]) (by
        unfold hon
        rw [up_s, hd, if_neg (show ¬ (-1 : Int) = p by omega)]
        omega)
      rw [if_pos (by omega)] at this
      exact this
    refine ⟨fun p p0 p1 => ?_, ?_, fun j j0 j1 => ?_, fun j j0 j1 => ?_, fun x hx => ?_⟩
    · rw [hcount p p0, ← i1 p p0 p1]
      unfold tgq
      by_cases c : q = -1
      · rw [if_pos c, if_neg (by omega)]
        omega
      · have hc := hW.2.1 q (by omega) (by omega)
        have := hb.2.2 (by omega)
        rw [if_neg c, dg_add i2.1 i2.2 (by omega) (by omega) p0 (by omega) (by omega)]
    · unfold tgq
      by_cases c : q = -1
      · rw [if_pos c]
        exact i2
      · have hc := hW.2.1 q (by omega) (by omega)
        have := L_room i2.1 i2.2 (q := q) (by omega) (by omega) (hb.2.2 (by omega)) hc.2
        have := pw3_pos q
        rw [if_neg c]
        omega
    · rw [up_n (fun e => sra_inj (N := N) (a := a) (show 0 ≤ (k : Int) by omega) (show (k : Int) < j by omega) j1 e.symm)]
      exact i3 j (by omega) j1
    · by_cases c : j = (k : Int)
      · subst c
        rw [up_s, Int.toNat_natCast]
        exact hq.symm
      · rw [up_n (sra_inj j0 (by omega) (by omega))]
        exact i4 j j0 (by omega)
    · rw [up_n (by omega)]
      exact i5 x hx
theorem same_serial (hW : WI N P cap len lst) {a : Int} (a0 : 0 ≤ a) (a1 : a < N) {fo : Int → Int} (h : ∀ j, 0 ≤ j → j < N → fo (sra N a j) = mpm cap len lst (mL N cap len lst a j.toNat) (sra N a j)) : (∀ x, 0 ≤ x → x < N → fo x = srd N cap len lst a N.toNat x) ∧ ∀ x, N ≤ x → srd N cap len lst a N.toNat x = -1 := by
  have hN := hW.1
  have hs := SER_all hW a0 a1 N.toNat (by omega)
  refine ⟨fun x x0 x1 => ?_, hs.2.2.2.2⟩
  obtain ⟨j, j0, j1, rfl⟩ := sra_sur a0 a1 x0 x1
  rw [h j j0 j1]
  exact (hs.2.2.2.1 j j0 (by omega)).symm
end Same
