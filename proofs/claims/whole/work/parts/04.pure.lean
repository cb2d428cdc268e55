-- ===== 04 pure: what the methods compute, over Int =====
/-- the least place below n at which g is p, or n -/
def fnd (g : Int → Int) (p : Int) : Nat → Nat
  | 0 => 0
  | n + 1 => if fnd g p n < n then fnd g p n else if g (n : Int) = p then n else n + 1
theorem fnd_le (g : Int → Int) (p : Int) : ∀ n, fnd g p n ≤ n
  | 0 => Nat.le_refl 0
  | n + 1 => by
    have := fnd_le g p n
    unfold fnd
    split
    · omega
    · split <;> omega
theorem fnd_ne (g : Int → Int) (p : Int) : ∀ (n k : Nat), k < fnd g p n → g (k : Int) ≠ p
  | 0, k, h => absurd h (Nat.not_lt_zero k)
  | n + 1, k, h => by
    have hl := fnd_le g p n
    unfold fnd at h
    split at h
    · exact fnd_ne g p n k h
    · split at h
      · exact fnd_ne g p n k (by omega)
      · rcases Nat.lt_or_ge k n with q | q
        · exact fnd_ne g p n k (by omega)
        · have e : k = n := by omega
          subst e
          assumption
theorem fnd_at (g : Int → Int) (p : Int) : ∀ n : Nat, fnd g p n < n → g (fnd g p n : Int) = p
  | 0, h => absurd h (Nat.not_lt_zero _)
  | n + 1, h => by
    unfold fnd at h ⊢
    split at h
    · rename_i c
      rw [if_pos c]
      exact fnd_at g p n c
    · rename_i c
      rw [if_neg c]
      split at h
      · rename_i c2
        rw [if_pos c2]
        exact c2
      · omega
def rk (g : Int → Int) (p n : Int) : Int := (fnd g p n.toNat : Int)
theorem rk_le (g : Int → Int) (p : Int) {n : Int} (hn : 0 ≤ n) : 0 ≤ rk g p n ∧ rk g p n ≤ n := by
  have := fnd_le g p n.toNat
  unfold rk
  omega
theorem rk_ne {g : Int → Int} {p n k : Int} (h0 : 0 ≤ k) (h : k < rk g p n) : g k ≠ p := by
  have := fnd_ne g p n.toNat k.toNat (by unfold rk at h; omega)
  rwa [Int.toNat_of_nonneg h0] at this
theorem rk_at {g : Int → Int} {p n : Int} (hn : 0 ≤ n) (h : rk g p n < n) : g (rk g p n) = p := fnd_at g p n.toNat (by unfold rk at h; omega)
theorem rk_uniq {g : Int → Int} {p n r : Int} (h0 : 0 ≤ r) (h1 : r ≤ n) (h2 : ∀ k, 0 ≤ k → k < r → g k ≠ p) (h3 : r < n → g r = p) : r = rk g p n := by
  have hl := rk_le g p (n := n) (by omega)
  rcases Int.lt_trichotomy r (rk g p n) with q | q | q
  · exact absurd (h3 (by omega)) (rk_ne h0 q)
  · exact q
  · exact absurd (rk_at (by omega) (by omega)) (h2 _ hl.1 q)
/-- a list's place -/
def row (lst : Int → Int) (a k : Int) : Int := lst (a * 5 + k)
/-- sums -/
def smN (g : Int → Int) : Nat → Int
  | 0 => 0
  | n + 1 => smN g n + g (n : Int)
def sm (g : Int → Int) (i : Int) : Int := smN g i.toNat
theorem sm_0 (g : Int → Int) : sm g 0 = 0 := rfl
theorem sm_s (g : Int → Int) {i : Int} (h : 0 ≤ i) : sm g (i + 1) = sm g i + g i := by
  unfold sm
  rw [show (i + 1).toNat = i.toNat + 1 by omega]
  show smN g i.toNat + g (i.toNat : Int) = _
  rw [Int.toNat_of_nonneg h]
theorem smN_congr {g h : Int → Int} : ∀ n : Nat, (∀ k : Nat, k < n → g (k : Int) = h (k : Int)) → smN g n = smN h n
  | 0, _ => rfl
  | n + 1, e => by
    show smN g n + _ = smN h n + _
    rw [smN_congr n (fun k hk => e k (by omega)), e n (by omega)]
theorem sm_congr {g h : Int → Int} {i : Int} (e : ∀ k, 0 ≤ k → k < i → g k = h k) : sm g i = sm h i := smN_congr _ (fun k hk => e k (by omega) (by omega))
theorem smN_bd {g : Int → Int} (h : ∀ k, 0 ≤ g k ∧ g k ≤ 1) : ∀ n : Nat, 0 ≤ smN g n ∧ smN g n ≤ n
  | 0 => ⟨Int.le_refl 0, Int.le_refl 0⟩
  | n + 1 => by
    have h1 := smN_bd h n
    have h2 := h (n : Int)
    show 0 ≤ smN g n + g (n : Int) ∧ smN g n + g (n : Int) ≤ ((n + 1 : Nat) : Int)
    omega
theorem sm_bd {g : Int → Int} (h : ∀ k, 0 ≤ g k ∧ g k ≤ 1) {i : Int} (hi : 0 ≤ i) : 0 ≤ sm g i ∧ sm g i ≤ i := by
  have := smN_bd h i.toNat
  unfold sm
  omega
/-- what stays of an instance: its numbers are in range, its lists hold different posts -/
def WI (N P : Int) (cap len lst : Int → Int) : Prop :=
  (1 ≤ N ∧ N ≤ 6 ∧ 1 ≤ P ∧ P ≤ 5) ∧ (∀ k, 0 ≤ k → k < 5 → 1 ≤ cap k ∧ cap k ≤ 2) ∧ (∀ a, 0 ≤ a → a < 6 → 0 ≤ len a ∧ len a ≤ P) ∧ (∀ a k, 0 ≤ a → a < 6 → 0 ≤ k → k < len a → 0 ≤ row lst a k ∧ row lst a k < P) ∧ (∀ a j k, 0 ≤ a → a < 6 → 0 ≤ j → j < k → k < len a → row lst a j ≠ row lst a k)
def vt (a b : Int) : Int := if a = b then 0 else if a < b then 1 else -1
theorem vt_bd (a b : Int) : -1 ≤ vt a b ∧ vt a b ≤ 1 := by
  unfold vt
  split
  · omega
  · split <;> omega
def fp (len lst : Int → Int) (a : Int) : Int := if len a = 0 then -1 else row lst a 0
theorem fp_bd {N P : Int} {cap len lst : Int → Int} (hW : WI N P cap len lst) {a : Int} (h0 : 0 ≤ a) (h1 : a < 6) : -1 ≤ fp len lst a ∧ fp len lst a < P := by
  obtain ⟨hN, hcap, hlen, hlst, hdis⟩ := hW
  unfold fp
  split
  · omega
  · have := hlen a h0 h1
    have := hlst a 0 h0 h1 (by omega) (by omega)
    omega
def cfi (len lst : Int → Int) (p : Int) (a : Int) : Int := if fp len lst a = p then 1 else 0
def cf (N : Int) (len lst : Int → Int) (p : Int) : Int := sm (cfi len lst p) N
theorem cf_bd (N : Int) (len lst : Int → Int) (p : Int) (h : 0 ≤ N) : 0 ≤ cf N len lst p ∧ cf N len lst p ≤ N := sm_bd (fun k => by unfold cfi; split <;> omega) h
/-- the second post: the first place from 1 on whose post has room -/
def spg (N : Int) (cap len lst : Int → Int) (a k : Int) : Int := if cf N len lst (row lst a (k + 1)) < cap (row lst a (k + 1)) then 1 else 0
theorem spg_1 {N : Int} {cap len lst : Int → Int} {a k : Int} (h : spg N cap len lst a k = 1) : cf N len lst (row lst a (k + 1)) < cap (row lst a (k + 1)) := by
  unfold spg at h
  split at h
  · assumption
  · omega
def sp (N : Int) (cap len lst : Int → Int) (a : Int) : Int := if rk (spg N cap len lst a) 1 (len a - 1) < len a - 1 then row lst a (rk (spg N cap len lst a) 1 (len a - 1) + 1) else -1
theorem sp_at {N : Int} {cap len lst : Int → Int} {a i : Int} (h1 : 1 ≤ i) (h2 : i < len a) (h3 : ∀ k, 1 ≤ k → k < i → ¬ cf N len lst (row lst a k) < cap (row lst a k)) (h4 : cf N len lst (row lst a i) < cap (row lst a i)) : sp N cap len lst a = row lst a i := by
  have e : i - 1 = rk (spg N cap len lst a) 1 (len a - 1) := by
    refine rk_uniq (by omega) (by omega) (fun k q1 q2 => ?_) (fun _ => ?_)
    · unfold spg
      rw [if_neg (h3 (k + 1) (by omega) (by omega))]
      omega
    · unfold spg
      rw [show i - 1 + 1 = i by omega, if_pos h4]
  unfold sp
  rw [← e, if_pos (by omega), show i - 1 + 1 = i by omega]
theorem sp_no {N : Int} {cap len lst : Int → Int} {a : Int} (h3 : ∀ k, 1 ≤ k → k < len a → ¬ cf N len lst (row lst a k) < cap (row lst a k)) : sp N cap len lst a = -1 := by
  unfold sp
  split
  · rename_i c
    by_cases h : 0 ≤ len a - 1
    · have h5 := rk_le (spg N cap len lst a) 1 h
      have h6 := spg_1 (rk_at h c)
      exact absurd h6 (h3 _ (by omega) (by omega))
    · have : (len a - 1).toNat = 0 := by omega
      unfold rk at c
      rw [this] at c
      simp [fnd] at c
      omega
  · rfl
theorem sp_bd {N P : Int} {cap len lst : Int → Int} (hW : WI N P cap len lst) {a : Int} (h0 : 0 ≤ a) (h1 : a < 6) : -1 ≤ sp N cap len lst a ∧ sp N cap len lst a < P := by
  obtain ⟨hN, hcap, hlen, hlst, hdis⟩ := hW
  unfold sp
  split
  · rename_i c
    have hl := hlen a h0 h1
    by_cases h : 0 ≤ len a - 1
    · have h5 := rk_le (spg N cap len lst a) 1 h
      have := hlst a (rk (spg N cap len lst a) 1 (len a - 1) + 1) h0 h1 (by omega) (by omega)
      omega
    · have : (len a - 1).toNat = 0 := by omega
      unfold rk at c
      rw [this] at c
      simp [fnd] at c
      omega
  · omega
/-- a matching's placed applicants, and those at a post -/
def plc (m : Int → Int) (k : Int) : Int := if m k = -1 then 0 else 1
def oth (m : Int → Int) (p x : Int) (k : Int) : Int := if ¬ k = x ∧ m k = p then 1 else 0
theorem up_inv {f : Int → Int} {i c : Int} (h : ∀ k, 0 ≤ k → k < i → f k = c) : ∀ k, 0 ≤ k → k < i + 1 → up f i c k = c := by
  intro k h0 h1
  unfold up
  split
  · rfl
  · exact h k h0 (by omega)
theorem up_inv2 {f g : Int → Int} {i : Int} (h : ∀ k, 0 ≤ k → k < i → f k = g k) : ∀ k, 0 ≤ k → k < i + 1 → up f i (g i) k = g k := by
  intro k h0 h1
  unfold up
  split
  · rename_i e
    rw [e]
  · exact h k h0 (by omega)
