theorem sra_sur {N a x : Int} (a0 : 0 ≤ a) (a1 : a < N) (x0 : 0 ≤ x) (x1 : x < N) : ∃ j, 0 ≤ j ∧ j < N ∧ sra N a j = x := by
  by_cases c : a ≤ x
  · refine ⟨x - a, by omega, by omega, ?_⟩
    unfold sra
    rw [if_pos (by omega)]
    omega
  · refine ⟨x - a + N, by omega, by omega, ?_⟩
    unfold sra
    rw [if_neg (by omega)]
    omega
theorem tk_NW {N : Int} {fo nw : Int → Int} (h : NW nw) (hf : ∀ x, 0 ≤ x → x < N → -1 ≤ fo x ∧ fo x < 5) : NW (tk N fo nw) := by
  intro k k0 k1
  unfold tk
  split
  · rename_i c
    exact hf k c.1 c.2
  · exact h k k0 k1
theorem sX6_lays_6 : ∀ w ∈ wsX60, w ∈ wsX6_lays := by decide +kernel
theorem fX6_lays_13 : FK RX6 wsX6_lays 13 6 1 := ⟨RX6, TX6, 10, rfl, sX6_lays_6, by decide, List.mem_of_getElem? (i := 3) rfl⟩
theorem fX6_lays_16 : FK RX6 wsX6_lays 16 6 2 := ⟨RX6, TX6, 10, rfl, sX6_lays_6, by decide, List.mem_of_getElem? (i := 4) rfl⟩
theorem fX6_lays_35 : FK RX6 wsX6_lays 35 6 9 := ⟨RX6, TX6, 10, rfl, sX6_lays_6, by decide, List.mem_of_getElem? (i := 2) rfl⟩
theorem fX6_lays_7 : FK RX6 wsX6_lays 7 6 0 := ⟨RX6, TX6, 10, rfl, sX6_lays_6, by decide, List.mem_of_getElem? (i := 1) rfl⟩
set_option maxHeartbeats 4000000 in
set_option maxRecDepth 100000 in
theorem k_X6_lays (D : DD) (o c l t n h b f : Nat) (N P : Int) (cap len lst nw hi : Int → Int) (e : Int) (be fo : Int → Int) (d : Int) (hW : WI N P cap len lst) (hd : 0 ≤ d ∧ d < 64) : Con (S := Int × (Int → Int)) D yX6_lays wsX6_lays ({ frames := 3, cells := 0, slots := 0, locals := 67 }) 0 0 [.ref o, vi d] [(o, co 6 [vi N, vi P, .ref c, .ref l, .ref t, .ref n, .ref h, vi e, .ref b, .ref f]), (c, ca D 5 cap), (l, ca D 6 len), (t, ca D 30 lst), (n, ca D 12 nw), (h, ca D 60 hi), (b, ca D 1701 be), (f, ca D 6 fo)] (fun u => some (vi u.1)) (fun u => ((u.1 = 1 ∧ (LAYS N P cap len lst d)) ∨ (u.1 = 0 ∧ ¬ (LAYS N P cap len lst d))) ∧ (∀ kk, 0 ≤ kk → kk < N → u.2 kk = mcs N cap len lst d kk)) (fun u => [(o, co 6 [vi N, vi P, .ref c, .ref l, .ref t, .ref n, .ref h, vi e, .ref b, .ref f]), (c, ca D 5 cap), (l, ca D 6 len), (t, ca D 30 lst), (n, ca D 12 nw), (h, ca D 60 hi), (b, ca D 1701 be), (f, ca D 6 u.2)]) := by
  refine Con.of (cc := cX6_lays) (nL := 7) (ret := (some .boolean)) rfl (by decide +kernel) (Nat.le_of_ble_eq_true rfl) ?_
  intro X A Q O hQ hin
  show G X D A 7 Q 0 0 0 [(0, .ref o), (1, vi d)] [] [(o, co 6 [vi N, vi P, .ref c, .ref l, .ref t, .ref n, .ref h, vi e, .ref b, .ref f]), (c, ca D 5 cap), (l, ca D 6 len), (t, ca D 30 lst), (n, ca D 12 nw), (h, ca D 60 hi), (b, ca D 1701 be), (f, ca D 6 fo)]
  obtain ⟨hN, hcap, hlen, hlst, hdis⟩ := id hW
  refine g_iconst O dX6_lays_0 1 rfl ?_
  refine g_istore_n O dX6_lays_1 2 [(0, .ref o), (1, vi d), (2, vi 1)] rfl (by decide) rfl ?_
  refine g_iconst O dX6_lays_2 3 rfl ?_
  refine g_istore_n O dX6_lays_3 4 [(0, .ref o), (1, vi d), (2, vi 1), (3, vi 0)] rfl (by decide) rfl ?_
  have lp4 : ∀ (nn : Nat) (i : Int) (z : Int) (f1 : Int → Int), (0 ≤ i ∧ i ≤ N) → (∀ kk, 0 ≤ kk → kk < i → f1 kk = mcs N cap len lst d kk) → ((z = 1 ∧ LC1 N len lst d i) ∨ (z = 0 ∧ ¬ LC1 N len lst d i)) → (N - i < (nn : Int)) → G X D A 7 Q 0 0 4 [(0, .ref o), (1, vi d), (2, vi z), (3, vi i)] [] [(o, co 6 [vi N, vi P, .ref c, .ref l, .ref t, .ref n, .ref h, vi e, .ref b, .ref f]), (c, ca D 5 cap), (l, ca D 6 len), (t, ca D 30 lst), (n, ca D 12 nw), (h, ca D 60 hi), (b, ca D 1701 be), (f, ca D 6 f1)] := by
    intro nn
    induction nn with
    | zero =>
      intro i z f1 h1 h2 hz hm4
      exact absurd hm4 (by omega)
    | succ nn ih4 =>
      intro i z f1 h1 h2 hz hm4
      refine g_iload_n O dX6_lays_4 5 3 rfl rfl ?_
      refine g_aload_n O dX6_lays_5 6 0 rfl rfl ?_
      refine g_get O dX6_lays_6 9 rfl fX6_lays_7 0 rfl rfl ?_
      refine g_icmp_ge O dX6_lays_9 12 81 rfl rfl (by omega) (fun h9 => ?_) (fun h9 => ?_)
      · skip
        refine g_iconst O dX6_lays_81 82 rfl ?_
        refine g_istore_n O dX6_lays_82 83 [(0, .ref o), (1, vi d), (2, vi z), (3, vi 0)] rfl (by decide) rfl ?_
        have lp83 : ∀ (nn : Nat) (j : Int) (z2 : Int), (0 ≤ j ∧ j ≤ P) → ((z2 = 1 ∧ LC1 N len lst d N ∧ LC2 N cap len lst d j) ∨ (z2 = 0 ∧ ¬ (LC1 N len lst d N ∧ LC2 N cap len lst d j))) → (P - j < (nn : Int)) → G X D A 7 Q 0 0 83 [(0, .ref o), (1, vi d), (2, vi z2), (3, vi j)] [] [(o, co 6 [vi N, vi P, .ref c, .ref l, .ref t, .ref n, .ref h, vi e, .ref b, .ref f]), (c, ca D 5 cap), (l, ca D 6 len), (t, ca D 30 lst), (n, ca D 12 nw), (h, ca D 60 hi), (b, ca D 1701 be), (f, ca D 6 f1)] := by
          intro nn
          induction nn with
          | zero =>
            intro j z2 h6 hz2 hm83
            exact absurd hm83 (by omega)
          | succ nn ih83 =>
            intro j z2 h6 hz2 hm83
            refine g_iload_n O dX6_lays_83 84 3 rfl rfl ?_
            refine g_aload_n O dX6_lays_84 85 0 rfl rfl ?_
            refine g_get O dX6_lays_85 88 rfl fX6_lays_13 0 rfl rfl ?_
            refine g_icmp_ge O dX6_lays_88 91 255 rfl rfl (by omega) (fun h88 => ?_) (fun h88 => ?_)
            · skip
              rcases hz2 with ⟨rfl, c⟩ | ⟨rfl, c⟩
              · skip
                refine g_iload_n O dX6_lays_255 256 2 rfl rfl ?_
                exact g_zret O hQ dX6_lays_256 (by decide +kernel) (1, f1) rfl rfl (⟨by first | exact Or.inl ⟨rfl, c.1, fun p q1 q2 => c.2 p q1 (by omega)⟩ | exact Or.inr ⟨rfl, fun q => c ⟨q.1, fun p q1 q2 => q.2 p q1 (by omega)⟩⟩, fun kk q1 q2 => h2 kk q1 (by omega)⟩) ⟨by decide, by decide⟩
              · skip
                refine g_iload_n O dX6_lays_255 256 2 rfl rfl ?_
                exact g_zret O hQ dX6_lays_256 (by decide +kernel) (0, f1) rfl rfl (⟨by first | exact Or.inl ⟨rfl, c.1, fun p q1 q2 => c.2 p q1 (by omega)⟩ | exact Or.inr ⟨rfl, fun q => c ⟨q.1, fun p q1 q2 => q.2 p q1 (by omega)⟩⟩, fun kk q1 q2 => h2 kk q1 (by omega)⟩) ⟨by decide, by decide⟩
            · skip
              have hz01 : z2 = 0 ∨ z2 = 1 := by omega
              refine g_iconst O dX6_lays_91 92 rfl ?_
              refine g_istore O dX6_lays_92 94 [(0, .ref o), (1, vi d), (2, vi z2), (3, vi j), (4, vi 0)] rfl (by decide) rfl ?_
              refine g_iconst O dX6_lays_94 95 rfl ?_
              refine g_istore O dX6_lays_95 97 [(0, .ref o), (1, vi d), (2, vi z2), (3, vi j), (4, vi 0), (5, vi 0)] rfl (by decide) rfl ?_
              refine g_iconst O dX6_lays_97 98 rfl ?_
              refine g_istore O dX6_lays_98 100 [(0, .ref o), (1, vi d), (2, vi z2), (3, vi j), (4, vi 0), (5, vi 0), (6, vi 0)] rfl (by decide) rfl ?_
              have lp100 : ∀ (nn : Nat) (k : Int) (s4 : Int) (s5 : Int), (0 ≤ k ∧ k ≤ N) → (s4 = sm (hon f1 j) k) → (s5 = sm (own f1 (fp len lst) j) k) → (N - k < (nn : Int)) → G X D A 7 Q 0 0 100 [(0, .ref o), (1, vi d), (2, vi z2), (3, vi j), (4, vi s4), (5, vi s5), (6, vi k)] [] [(o, co 6 [vi N, vi P, .ref c, .ref l, .ref t, .ref n, .ref h, vi e, .ref b, .ref f]), (c, ca D 5 cap), (l, ca D 6 len), (t, ca D 30 lst), (n, ca D 12 nw), (h, ca D 60 hi), (b, ca D 1701 be), (f, ca D 6 f1)] := by
                intro nn
                induction nn with
                | zero =>
                  intro k s4 s5 h8 h9 h10 hm100
                  exact absurd hm100 (by omega)
                | succ nn ih100 =>
                  intro k s4 s5 h8 h9 h10 hm100
                  refine g_iload O dX6_lays_100 102 6 rfl rfl ?_
                  refine g_aload_n O dX6_lays_102 103 0 rfl rfl ?_
                  refine g_get O dX6_lays_103 106 rfl fX6_lays_7 0 rfl rfl ?_
                  refine g_icmp_ge O dX6_lays_106 109 167 rfl rfl (by omega) (fun h106 => ?_) (fun h106 => ?_)
                  · skip
                    have hiN : i = N := by omega
                    have e4 : s4 = sm (hon (mcs N cap len lst d) j) N := by rw [h9, show k = N by omega]; exact sm_congr (fun a a0 a1 => by unfold hon; rw [h2 a a0 (by omega)])
                    have e5 : s5 = sm (own (mcs N cap len lst d) (fp len lst) j) N := by rw [h10, show k = N by omega]; exact sm_congr (fun a a0 a1 => by unfold own; rw [h2 a a0 (by omega)])
                    have hLd : LAYp N cap len lst (mcs N cap len lst d) j ↔ (s4 ≤ cap j ∧ (0 < cf N len lst j → (cf N len lst j ≤ cap j ∧ s5 = cf N len lst j) ∨ (cap j < cf N len lst j ∧ s4 = cap j ∧ s5 = s4))) := by rw [e4, e5]; exact Iff.rfl
                    have hsb4 := sm_bd (hon_bd f1 j) (i := k) h8.1
                    have hsb5 := sm_bd (own_bd f1 (fp len lst) j) (i := k) h8.1
                    have hcj := hcap j (by omega) (by omega)
                    have hcf := cf_bd N len lst j (by omega)
                    refine g_aload_n O dX6_lays_167 168 0 rfl rfl ?_
                    refine g_iload_n O dX6_lays_168 169 3 rfl rfl ?_
                    refine g_callV (As := [vi j]) (rest := []) (na := 1) O (k_X6_firsts D o c l t n h b f N P cap len lst nw hi e be f1 j hW (by omega)) dX6_lays_169 gX6_lays_X6_firsts rfl ⟨rfl, rfl⟩ (by decide +kernel) rfl (by decide) (by decide) rfl (Nat.le_of_ble_eq_true rfl) (q0 := 0) (ci := 6) rfl rfl [0, 1, 2, 3, 4, 5, 6, 7] (by decide) rfl (fun _ => rfl) (fun _ => [(o, co 6 [vi N, vi P, .ref c, .ref l, .ref t, .ref n, .ref h, vi e, .ref b, .ref f]), (c, ca D 5 cap), (l, ca D 6 len), (t, ca D 30 lst), (n, ca D 12 nw), (h, ca D 60 hi), (b, ca D 1701 be), (f, ca D 6 f1)]) (fun _ => rfl) 172 rfl (fun _ _ => ?_)
                    show G X D A 7 Q 0 0 172 [(0, .ref o), (1, vi d), (2, vi z2), (3, vi j), (4, vi s4), (5, vi s5), (6, vi k)] [vi (cf N len lst j)] [(o, co 6 [vi N, vi P, .ref c, .ref l, .ref t, .ref n, .ref h, vi e, .ref b, .ref f]), (c, ca D 5 cap), (l, ca D 6 len), (t, ca D 30 lst), (n, ca D 12 nw), (h, ca D 60 hi), (b, ca D 1701 be), (f, ca D 6 f1)]
                    refine g_istore O dX6_lays_172 174 [(0, .ref o), (1, vi d), (2, vi z2), (3, vi j), (4, vi s4), (5, vi s5), (6, vi (cf N len lst j))] rfl (by decide) rfl ?_
                    refine g_iload_n O dX6_lays_174 175 2 rfl rfl ?_
                    refine g_if_eq O dX6_lays_175 178 193 rfl rfl (by omega) (fun h175 => ?_) (fun h175 => ?_)
                    · skip
                      refine g_iconst O dX6_lays_193 194 rfl ?_
                      refine g_istore_n O dX6_lays_194 195 [(0, .ref o), (1, vi d), (2, vi 0), (3, vi j), (4, vi s4), (5, vi s5), (6, vi (cf N len lst j))] rfl (by decide) rfl ?_
                      refine g_iload O dX6_lays_195 197 6 rfl rfl ?_
                      refine g_if_le O dX6_lays_197 200 249 rfl rfl (by omega) (fun h197 => ?_) (fun h197 => ?_)
                      · skip
                        refine g_iinc O dX6_lays_249 252 3 [(0, .ref o), (1, vi d), (2, vi 0), (3, vi (j + 1)), (4, vi s4), (5, vi s5), (6, vi (cf N len lst j))] rfl (by decide) rfl rfl ?_
                        refine g_goto O dX6_lays_252 83 rfl ?_
                        refine g_loc (L' := [(0, .ref o), (1, vi d), (2, vi 0), (3, vi (j + 1))]) [0, 1, 2, 3] rfl ?_
                        exact ih83 (j + 1) 0 (by omega) (by rw [lc2_s h6.1]; rcases hz2 with ⟨e0, c⟩ | ⟨e0, c⟩ <;> first | exact absurd e0 (by omega) | exact Or.inl ⟨rfl, c.1, c.2, hLd.mpr (by omega)⟩ | exact Or.inr ⟨rfl, fun q => absurd (hLd.mp q.2.2) (by omega)⟩ | exact Or.inr ⟨rfl, fun q => c ⟨q.1, q.2.1⟩⟩) (by omega)
                      · skip
                        refine g_iload_n O dX6_lays_200 201 2 rfl rfl ?_
                        refine g_if_eq O dX6_lays_201 204 247 rfl rfl (by omega) (fun _ => ?_) (fun h => absurd h (by decide))
                        refine g_iconst O dX6_lays_247 248 rfl ?_
                        refine g_istore_n O dX6_lays_248 249 [(0, .ref o), (1, vi d), (2, vi 0), (3, vi j), (4, vi s4), (5, vi s5), (6, vi (cf N len lst j))] rfl (by decide) rfl ?_
                        refine g_iinc O dX6_lays_249 252 3 [(0, .ref o), (1, vi d), (2, vi 0), (3, vi (j + 1)), (4, vi s4), (5, vi s5), (6, vi (cf N len lst j))] rfl (by decide) rfl rfl ?_
                        refine g_goto O dX6_lays_252 83 rfl ?_
                        refine g_loc (L' := [(0, .ref o), (1, vi d), (2, vi 0), (3, vi (j + 1))]) [0, 1, 2, 3] rfl ?_
                        exact ih83 (j + 1) 0 (by omega) (by rw [lc2_s h6.1]; rcases hz2 with ⟨e0, c⟩ | ⟨e0, c⟩ <;> first | exact absurd e0 (by omega) | exact Or.inl ⟨rfl, c.1, c.2, hLd.mpr (by omega)⟩ | exact Or.inr ⟨rfl, fun q => absurd (hLd.mp q.2.2) (by omega)⟩ | exact Or.inr ⟨rfl, fun q => c ⟨q.1, q.2.1⟩⟩) (by omega)
                    · skip
                      refine g_iload O dX6_lays_178 180 4 rfl rfl ?_
                      refine g_aload_n O dX6_lays_180 181 0 rfl rfl ?_
                      refine g_get O dX6_lays_181 184 rfl fX6_lays_16 0 rfl rfl ?_
                      refine g_iload_n O dX6_lays_184 185 3 rfl rfl ?_
                      refine g_iald O dX6_lays_185 186 rfl 1 rfl (by decide) (by omega) ?_
                      refine g_icmp_gt O dX6_lays_186 189 193 rfl rfl (by omega) (fun h186 => ?_) (fun h186 => ?_)
                      · skip
                        refine g_iconst O dX6_lays_193 194 rfl ?_
                        refine g_istore_n O dX6_lays_194 195 [(0, .ref o), (1, vi d), (2, vi 0), (3, vi j), (4, vi s4), (5, vi s5), (6, vi (cf N len lst j))] rfl (by decide) rfl ?_
                        refine g_iload O dX6_lays_195 197 6 rfl rfl ?_
                        refine g_if_le O dX6_lays_197 200 249 rfl rfl (by omega) (fun h197 => ?_) (fun h197 => ?_)
                        · skip
                          refine g_iinc O dX6_lays_249 252 3 [(0, .ref o), (1, vi d), (2, vi 0), (3, vi (j + 1)), (4, vi s4), (5, vi s5), (6, vi (cf N len lst j))] rfl (by decide) rfl rfl ?_
                          refine g_goto O dX6_lays_252 83 rfl ?_
                          refine g_loc (L' := [(0, .ref o), (1, vi d), (2, vi 0), (3, vi (j + 1))]) [0, 1, 2, 3] rfl ?_
                          exact ih83 (j + 1) 0 (by omega) (by rw [lc2_s h6.1]; rcases hz2 with ⟨e0, c⟩ | ⟨e0, c⟩ <;> first | exact absurd e0 (by omega) | exact Or.inl ⟨rfl, c.1, c.2, hLd.mpr (by omega)⟩ | exact Or.inr ⟨rfl, fun q => absurd (hLd.mp q.2.2) (by omega)⟩ | exact Or.inr ⟨rfl, fun q => c ⟨q.1, q.2.1⟩⟩) (by omega)
                        · skip
                          refine g_iload_n O dX6_lays_200 201 2 rfl rfl ?_
                          refine g_if_eq O dX6_lays_201 204 247 rfl rfl (by omega) (fun _ => ?_) (fun h => absurd h (by decide))
                          refine g_iconst O dX6_lays_247 248 rfl ?_
                          refine g_istore_n O dX6_lays_248 249 [(0, .ref o), (1, vi d), (2, vi 0), (3, vi j), (4, vi s4), (5, vi s5), (6, vi (cf N len lst j))] rfl (by decide) rfl ?_
                          refine g_iinc O dX6_lays_249 252 3 [(0, .ref o), (1, vi d), (2, vi 0), (3, vi (j + 1)), (4, vi s4), (5, vi s5), (6, vi (cf N len lst j))] rfl (by decide) rfl rfl ?_
                          refine g_goto O dX6_lays_252 83 rfl ?_
                          refine g_loc (L' := [(0, .ref o), (1, vi d), (2, vi 0), (3, vi (j + 1))]) [0, 1, 2, 3] rfl ?_
                          exact ih83 (j + 1) 0 (by omega) (by rw [lc2_s h6.1]; rcases hz2 with ⟨e0, c⟩ | ⟨e0, c⟩ <;> first | exact absurd e0 (by omega) | exact Or.inl ⟨rfl, c.1, c.2, hLd.mpr (by omega)⟩ | exact Or.inr ⟨rfl, fun q => absurd (hLd.mp q.2.2) (by omega)⟩ | exact Or.inr ⟨rfl, fun q => c ⟨q.1, q.2.1⟩⟩) (by omega)
                      · skip
                        refine g_iconst O dX6_lays_189 190 rfl ?_
                        refine g_goto O dX6_lays_190 194 rfl ?_
                        refine g_istore_n O dX6_lays_194 195 [(0, .ref o), (1, vi d), (2, vi 1), (3, vi j), (4, vi s4), (5, vi s5), (6, vi (cf N len lst j))] rfl (by decide) rfl ?_
                        refine g_iload O dX6_lays_195 197 6 rfl rfl ?_
                        refine g_if_le O dX6_lays_197 200 249 rfl rfl (by omega) (fun h197 => ?_) (fun h197 => ?_)
                        · skip
                          refine g_iinc O dX6_lays_249 252 3 [(0, .ref o), (1, vi d), (2, vi 1), (3, vi (j + 1)), (4, vi s4), (5, vi s5), (6, vi (cf N len lst j))] rfl (by decide) rfl rfl ?_
                          refine g_goto O dX6_lays_252 83 rfl ?_
                          refine g_loc (L' := [(0, .ref o), (1, vi d), (2, vi 1), (3, vi (j + 1))]) [0, 1, 2, 3] rfl ?_
                          exact ih83 (j + 1) 1 (by omega) (by rw [lc2_s h6.1]; rcases hz2 with ⟨e0, c⟩ | ⟨e0, c⟩ <;> first | exact absurd e0 (by omega) | exact Or.inl ⟨rfl, c.1, c.2, hLd.mpr (by omega)⟩ | exact Or.inr ⟨rfl, fun q => absurd (hLd.mp q.2.2) (by omega)⟩ | exact Or.inr ⟨rfl, fun q => c ⟨q.1, q.2.1⟩⟩) (by omega)
                        · skip
                          refine g_iload_n O dX6_lays_200 201 2 rfl rfl ?_
                          refine g_if_eq O dX6_lays_201 204 247 rfl rfl (by omega) (fun h => absurd h (by decide)) (fun _ => ?_)
                          refine g_iload O dX6_lays_204 206 6 rfl rfl ?_
                          refine g_aload_n O dX6_lays_206 207 0 rfl rfl ?_
                          refine g_get O dX6_lays_207 210 rfl fX6_lays_16 0 rfl rfl ?_
                          refine g_iload_n O dX6_lays_210 211 3 rfl rfl ?_
                          refine g_iald O dX6_lays_211 212 rfl 1 rfl (by decide) (by omega) ?_
                          refine g_icmp_gt O dX6_lays_212 215 225 rfl rfl (by omega) (fun h212 => ?_) (fun h212 => ?_)
                          · skip
                            refine g_iload O dX6_lays_225 227 4 rfl rfl ?_
                            refine g_aload_n O dX6_lays_227 228 0 rfl rfl ?_
                            refine g_get O dX6_lays_228 231 rfl fX6_lays_16 0 rfl rfl ?_
                            refine g_iload_n O dX6_lays_231 232 3 rfl rfl ?_
                            refine g_iald O dX6_lays_232 233 rfl 1 rfl (by decide) (by omega) ?_
                            refine g_icmp_ne O dX6_lays_233 236 247 rfl rfl (by omega) (fun h233 => ?_) (fun h233 => ?_)
                            · skip
                              refine g_iconst O dX6_lays_247 248 rfl ?_
                              refine g_istore_n O dX6_lays_248 249 [(0, .ref o), (1, vi d), (2, vi 0), (3, vi j), (4, vi s4), (5, vi s5), (6, vi (cf N len lst j))] rfl (by decide) rfl ?_
                              refine g_iinc O dX6_lays_249 252 3 [(0, .ref o), (1, vi d), (2, vi 0), (3, vi (j + 1)), (4, vi s4), (5, vi s5), (6, vi (cf N len lst j))] rfl (by decide) rfl rfl ?_
                              refine g_goto O dX6_lays_252 83 rfl ?_
                              refine g_loc (L' := [(0, .ref o), (1, vi d), (2, vi 0), (3, vi (j + 1))]) [0, 1, 2, 3] rfl ?_
                              exact ih83 (j + 1) 0 (by omega) (by rw [lc2_s h6.1]; rcases hz2 with ⟨e0, c⟩ | ⟨e0, c⟩ <;> first | exact absurd e0 (by omega) | exact Or.inl ⟨rfl, c.1, c.2, hLd.mpr (by omega)⟩ | exact Or.inr ⟨rfl, fun q => absurd (hLd.mp q.2.2) (by omega)⟩ | exact Or.inr ⟨rfl, fun q => c ⟨q.1, q.2.1⟩⟩) (by omega)
                            · skip
                              refine g_iload O dX6_lays_236 238 5 rfl rfl ?_
                              refine g_iload O dX6_lays_238 240 4 rfl rfl ?_
                              refine g_icmp_ne O dX6_lays_240 243 247 rfl rfl (by omega) (fun h240 => ?_) (fun h240 => ?_)
                              · skip
                                refine g_iconst O dX6_lays_247 248 rfl ?_
                                refine g_istore_n O dX6_lays_248 249 [(0, .ref o), (1, vi d), (2, vi 0), (3, vi j), (4, vi s4), (5, vi s5), (6, vi (cf N len lst j))] rfl (by decide) rfl ?_
                                refine g_iinc O dX6_lays_249 252 3 [(0, .ref o), (1, vi d), (2, vi 0), (3, vi (j + 1)), (4, vi s4), (5, vi s5), (6, vi (cf N len lst j))] rfl (by decide) rfl rfl ?_
                                refine g_goto O dX6_lays_252 83 rfl ?_
                                refine g_loc (L' := [(0, .ref o), (1, vi d), (2, vi 0), (3, vi (j + 1))]) [0, 1, 2, 3] rfl ?_
                                exact ih83 (j + 1) 0 (by omega) (by rw [lc2_s h6.1]; rcases hz2 with ⟨e0, c⟩ | ⟨e0, c⟩ <;> first | exact absurd e0 (by omega) | exact Or.inl ⟨rfl, c.1, c.2, hLd.mpr (by omega)⟩ | exact Or.inr ⟨rfl, fun q => absurd (hLd.mp q.2.2) (by omega)⟩ | exact Or.inr ⟨rfl, fun q => c ⟨q.1, q.2.1⟩⟩) (by omega)
                              · skip
                                refine g_iconst O dX6_lays_243 244 rfl ?_
                                refine g_goto O dX6_lays_244 248 rfl ?_
                                refine g_istore_n O dX6_lays_248 249 [(0, .ref o), (1, vi d), (2, vi 1), (3, vi j), (4, vi s4), (5, vi s5), (6, vi (cf N len lst j))] rfl (by decide) rfl ?_
                                refine g_iinc O dX6_lays_249 252 3 [(0, .ref o), (1, vi d), (2, vi 1), (3, vi (j + 1)), (4, vi s4), (5, vi s5), (6, vi (cf N len lst j))] rfl (by decide) rfl rfl ?_
                                refine g_goto O dX6_lays_252 83 rfl ?_
                                refine g_loc (L' := [(0, .ref o), (1, vi d), (2, vi 1), (3, vi (j + 1))]) [0, 1, 2, 3] rfl ?_
                                exact ih83 (j + 1) 1 (by omega) (by rw [lc2_s h6.1]; rcases hz2 with ⟨e0, c⟩ | ⟨e0, c⟩ <;> first | exact absurd e0 (by omega) | exact Or.inl ⟨rfl, c.1, c.2, hLd.mpr (by omega)⟩ | exact Or.inr ⟨rfl, fun q => absurd (hLd.mp q.2.2) (by omega)⟩ | exact Or.inr ⟨rfl, fun q => c ⟨q.1, q.2.1⟩⟩) (by omega)
                          · skip
                            refine g_iload O dX6_lays_215 217 5 rfl rfl ?_
                            refine g_iload O dX6_lays_217 219 6 rfl rfl ?_
                            refine g_icmp_ne O dX6_lays_219 222 247 rfl rfl (by omega) (fun h219 => ?_) (fun h219 => ?_)
                            · skip
                              refine g_iconst O dX6_lays_247 248 rfl ?_
                              refine g_istore_n O dX6_lays_248 249 [(0, .ref o), (1, vi d), (2, vi 0), (3, vi j), (4, vi s4), (5, vi s5), (6, vi (cf N len lst j))] rfl (by decide) rfl ?_
                              refine g_iinc O dX6_lays_249 252 3 [(0, .ref o), (1, vi d), (2, vi 0), (3, vi (j + 1)), (4, vi s4), (5, vi s5), (6, vi (cf N len lst j))] rfl (by decide) rfl rfl ?_
                              refine g_goto O dX6_lays_252 83 rfl ?_
                              refine g_loc (L' := [(0, .ref o), (1, vi d), (2, vi 0), (3, vi (j + 1))]) [0, 1, 2, 3] rfl ?_
                              exact ih83 (j + 1) 0 (by omega) (by rw [lc2_s h6.1]; rcases hz2 with ⟨e0, c⟩ | ⟨e0, c⟩ <;> first | exact absurd e0 (by omega) | exact Or.inl ⟨rfl, c.1, c.2, hLd.mpr (by omega)⟩ | exact Or.inr ⟨rfl, fun q => absurd (hLd.mp q.2.2) (by omega)⟩ | exact Or.inr ⟨rfl, fun q => c ⟨q.1, q.2.1⟩⟩) (by omega)
                            · skip
                              refine g_goto O dX6_lays_222 243 rfl ?_
                              refine g_iconst O dX6_lays_243 244 rfl ?_
                              refine g_goto O dX6_lays_244 248 rfl ?_
                              refine g_istore_n O dX6_lays_248 249 [(0, .ref o), (1, vi d), (2, vi 1), (3, vi j), (4, vi s4), (5, vi s5), (6, vi (cf N len lst j))] rfl (by decide) rfl ?_
                              refine g_iinc O dX6_lays_249 252 3 [(0, .ref o), (1, vi d), (2, vi 1), (3, vi (j + 1)), (4, vi s4), (5, vi s5), (6, vi (cf N len lst j))] rfl (by decide) rfl rfl ?_
                              refine g_goto O dX6_lays_252 83 rfl ?_
                              refine g_loc (L' := [(0, .ref o), (1, vi d), (2, vi 1), (3, vi (j + 1))]) [0, 1, 2, 3] rfl ?_
                              exact ih83 (j + 1) 1 (by omega) (by rw [lc2_s h6.1]; rcases hz2 with ⟨e0, c⟩ | ⟨e0, c⟩ <;> first | exact absurd e0 (by omega) | exact Or.inl ⟨rfl, c.1, c.2, hLd.mpr (by omega)⟩ | exact Or.inr ⟨rfl, fun q => absurd (hLd.mp q.2.2) (by omega)⟩ | exact Or.inr ⟨rfl, fun q => c ⟨q.1, q.2.1⟩⟩) (by omega)
                  · skip
                    have hfk := h2 k (by omega) (by omega)
                    have hmb := mcs_bd hW (d := d) (a := k) (by omega) (by omega)
                    have hfb := fp_bd hW (a := k) (by omega) (by omega)
                    refine g_iload O dX6_lays_109 111 4 rfl rfl ?_
                    refine g_aload_n O dX6_lays_111 112 0 rfl rfl ?_
                    refine g_get O dX6_lays_112 115 rfl fX6_lays_35 0 rfl rfl ?_
                    refine g_iload O dX6_lays_115 117 6 rfl rfl ?_
                    refine g_iald O dX6_lays_117 118 rfl 7 rfl (by decide) (by omega) ?_
                    refine g_iload_n O dX6_lays_118 119 3 rfl rfl ?_
                    refine g_icmp_ne O dX6_lays_119 122 126 rfl rfl (by omega) (fun h119 => ?_) (fun h119 => ?_)
                    · skip
                      refine g_iconst O dX6_lays_126 127 rfl ?_
                      refine g_iadd O dX6_lays_127 128 rfl ?_
                      refine g_istore O dX6_lays_128 130 [(0, .ref o), (1, vi d), (2, vi z2), (3, vi j), (4, vi (s4 + 0)), (5, vi s5), (6, vi k)] rfl (by decide) rfl ?_
                      refine g_iload O dX6_lays_130 132 5 rfl rfl ?_
                      refine g_aload_n O dX6_lays_132 133 0 rfl rfl ?_
                      refine g_get O dX6_lays_133 136 rfl fX6_lays_35 0 rfl rfl ?_
                      refine g_iload O dX6_lays_136 138 6 rfl rfl ?_
                      refine g_iald O dX6_lays_138 139 rfl 7 rfl (by decide) (by omega) ?_
                      refine g_iload_n O dX6_lays_139 140 3 rfl rfl ?_
                      refine g_icmp_ne O dX6_lays_140 143 157 rfl rfl (by omega) (fun h140 => ?_) (fun h140 => ?_)
                      · skip
                        refine g_iconst O dX6_lays_157 158 rfl ?_
                        refine g_iadd O dX6_lays_158 159 rfl ?_
                        refine g_istore O dX6_lays_159 161 [(0, .ref o), (1, vi d), (2, vi z2), (3, vi j), (4, vi (s4 + 0)), (5, vi (s5 + 0)), (6, vi k)] rfl (by decide) rfl ?_
                        refine g_iinc O dX6_lays_161 164 6 [(0, .ref o), (1, vi d), (2, vi z2), (3, vi j), (4, vi (s4 + 0)), (5, vi (s5 + 0)), (6, vi (k + 1))] rfl (by decide) rfl rfl ?_
                        refine g_goto O dX6_lays_164 100 rfl ?_
                        exact ih100 (k + 1) (s4 + 0) (s5 + 0) (by omega) (by rw [sm_s _ h8.1, ← h9]; unfold hon; split <;> omega) (by rw [sm_s _ h8.1, ← h10]; unfold own; split <;> omega) (by omega)
                      · skip
                        refine g_aload_n O dX6_lays_143 144 0 rfl rfl ?_
                        refine g_iload O dX6_lays_144 146 6 rfl rfl ?_
                        refine g_callV (As := [vi k]) (rest := [vi s5]) (na := 1) O (k_X6_first D o c l t n h b f N P cap len lst nw hi e be f1 k hW (by omega)) dX6_lays_146 gX6_lays_X6_first rfl ⟨rfl, rfl⟩ (by decide +kernel) rfl (by decide) (by decide) rfl (Nat.le_of_ble_eq_true rfl) (q0 := 0) (ci := 6) rfl rfl [0, 1, 2, 3, 4, 5, 6, 7] (by decide) rfl (fun _ => rfl) (fun _ => [(o, co 6 [vi N, vi P, .ref c, .ref l, .ref t, .ref n, .ref h, vi e, .ref b, .ref f]), (c, ca D 5 cap), (l, ca D 6 len), (t, ca D 30 lst), (n, ca D 12 nw), (h, ca D 60 hi), (b, ca D 1701 be), (f, ca D 6 f1)]) (fun _ => rfl) 149 rfl (fun _ _ => ?_)
                        show G X D A 7 Q 0 0 149 [(0, .ref o), (1, vi d), (2, vi z2), (3, vi j), (4, vi (s4 + 0)), (5, vi s5), (6, vi k)] [vi (fp len lst k), vi s5] [(o, co 6 [vi N, vi P, .ref c, .ref l, .ref t, .ref n, .ref h, vi e, .ref b, .ref f]), (c, ca D 5 cap), (l, ca D 6 len), (t, ca D 30 lst), (n, ca D 12 nw), (h, ca D 60 hi), (b, ca D 1701 be), (f, ca D 6 f1)]
                        refine g_iload_n O dX6_lays_149 150 3 rfl rfl ?_
                        refine g_icmp_ne O dX6_lays_150 153 157 rfl rfl (by omega) (fun h150 => ?_) (fun h150 => ?_)
                        · skip
                          refine g_iconst O dX6_lays_157 158 rfl ?_
                          refine g_iadd O dX6_lays_158 159 rfl ?_
                          refine g_istore O dX6_lays_159 161 [(0, .ref o), (1, vi d), (2, vi z2), (3, vi j), (4, vi (s4 + 0)), (5, vi (s5 + 0)), (6, vi k)] rfl (by decide) rfl ?_
                          refine g_iinc O dX6_lays_161 164 6 [(0, .ref o), (1, vi d), (2, vi z2), (3, vi j), (4, vi (s4 + 0)), (5, vi (s5 + 0)), (6, vi (k + 1))] rfl (by decide) rfl rfl ?_
                          refine g_goto O dX6_lays_164 100 rfl ?_
                          exact ih100 (k + 1) (s4 + 0) (s5 + 0) (by omega) (by rw [sm_s _ h8.1, ← h9]; unfold hon; split <;> omega) (by rw [sm_s _ h8.1, ← h10]; unfold own; split <;> omega) (by omega)
                        · skip
                          refine g_iconst O dX6_lays_153 154 rfl ?_
                          refine g_goto O dX6_lays_154 158 rfl ?_
                          refine g_iadd O dX6_lays_158 159 rfl ?_
                          refine g_istore O dX6_lays_159 161 [(0, .ref o), (1, vi d), (2, vi z2), (3, vi j), (4, vi (s4 + 0)), (5, vi (s5 + 1)), (6, vi k)] rfl (by decide) rfl ?_
                          refine g_iinc O dX6_lays_161 164 6 [(0, .ref o), (1, vi d), (2, vi z2), (3, vi j), (4, vi (s4 + 0)), (5, vi (s5 + 1)), (6, vi (k + 1))] rfl (by decide) rfl rfl ?_
                          refine g_goto O dX6_lays_164 100 rfl ?_
                          exact ih100 (k + 1) (s4 + 0) (s5 + 1) (by omega) (by rw [sm_s _ h8.1, ← h9]; unfold hon; split <;> omega) (by rw [sm_s _ h8.1, ← h10]; unfold own; split <;> omega) (by omega)
                    · skip
                      refine g_iconst O dX6_lays_122 123 rfl ?_
                      refine g_goto O dX6_lays_123 127 rfl ?_
                      refine g_iadd O dX6_lays_127 128 rfl ?_
                      refine g_istore O dX6_lays_128 130 [(0, .ref o), (1, vi d), (2, vi z2), (3, vi j), (4, vi (s4 + 1)), (5, vi s5), (6, vi k)] rfl (by decide) rfl ?_
                      refine g_iload O dX6_lays_130 132 5 rfl rfl ?_
                      refine g_aload_n O dX6_lays_132 133 0 rfl rfl ?_
                      refine g_get O dX6_lays_133 136 rfl fX6_lays_35 0 rfl rfl ?_
                      refine g_iload O dX6_lays_136 138 6 rfl rfl ?_
                      refine g_iald O dX6_lays_138 139 rfl 7 rfl (by decide) (by omega) ?_
                      refine g_iload_n O dX6_lays_139 140 3 rfl rfl ?_
                      refine g_icmp_ne O dX6_lays_140 143 157 rfl rfl (by omega) (fun h140 => ?_) (fun h140 => ?_)
                      · skip
                        refine g_iconst O dX6_lays_157 158 rfl ?_
                        refine g_iadd O dX6_lays_158 159 rfl ?_
                        refine g_istore O dX6_lays_159 161 [(0, .ref o), (1, vi d), (2, vi z2), (3, vi j), (4, vi (s4 + 1)), (5, vi (s5 + 0)), (6, vi k)] rfl (by decide) rfl ?_
                        refine g_iinc O dX6_lays_161 164 6 [(0, .ref o), (1, vi d), (2, vi z2), (3, vi j), (4, vi (s4 + 1)), (5, vi (s5 + 0)), (6, vi (k + 1))] rfl (by decide) rfl rfl ?_
                        refine g_goto O dX6_lays_164 100 rfl ?_
                        exact ih100 (k + 1) (s4 + 1) (s5 + 0) (by omega) (by rw [sm_s _ h8.1, ← h9]; unfold hon; split <;> omega) (by rw [sm_s _ h8.1, ← h10]; unfold own; split <;> omega) (by omega)
                      · skip
                        refine g_aload_n O dX6_lays_143 144 0 rfl rfl ?_
                        refine g_iload O dX6_lays_144 146 6 rfl rfl ?_
                        refine g_callV (As := [vi k]) (rest := [vi s5]) (na := 1) O (k_X6_first D o c l t n h b f N P cap len lst nw hi e be f1 k hW (by omega)) dX6_lays_146 gX6_lays_X6_first rfl ⟨rfl, rfl⟩ (by decide +kernel) rfl (by decide) (by decide) rfl (Nat.le_of_ble_eq_true rfl) (q0 := 0) (ci := 6) rfl rfl [0, 1, 2, 3, 4, 5, 6, 7] (by decide) rfl (fun _ => rfl) (fun _ => [(o, co 6 [vi N, vi P, .ref c, .ref l, .ref t, .ref n, .ref h, vi e, .ref b, .ref f]), (c, ca D 5 cap), (l, ca D 6 len), (t, ca D 30 lst), (n, ca D 12 nw), (h, ca D 60 hi), (b, ca D 1701 be), (f, ca D 6 f1)]) (fun _ => rfl) 149 rfl (fun _ _ => ?_)
                        show G X D A 7 Q 0 0 149 [(0, .ref o), (1, vi d), (2, vi z2), (3, vi j), (4, vi (s4 + 1)), (5, vi s5), (6, vi k)] [vi (fp len lst k), vi s5] [(o, co 6 [vi N, vi P, .ref c, .ref l, .ref t, .ref n, .ref h, vi e, .ref b, .ref f]), (c, ca D 5 cap), (l, ca D 6 len), (t, ca D 30 lst), (n, ca D 12 nw), (h, ca D 60 hi), (b, ca D 1701 be), (f, ca D 6 f1)]
                        refine g_iload_n O dX6_lays_149 150 3 rfl rfl ?_
                        refine g_icmp_ne O dX6_lays_150 153 157 rfl rfl (by omega) (fun h150 => ?_) (fun h150 => ?_)
                        · skip
                          refine g_iconst O dX6_lays_157 158 rfl ?_
                          refine g_iadd O dX6_lays_158 159 rfl ?_
                          refine g_istore O dX6_lays_159 161 [(0, .ref o), (1, vi d), (2, vi z2), (3, vi j), (4, vi (s4 + 1)), (5, vi (s5 + 0)), (6, vi k)] rfl (by decide) rfl ?_
                          refine g_iinc O dX6_lays_161 164 6 [(0, .ref o), (1, vi d), (2, vi z2), (3, vi j), (4, vi (s4 + 1)), (5, vi (s5 + 0)), (6, vi (k + 1))] rfl (by decide) rfl rfl ?_
                          refine g_goto O dX6_lays_164 100 rfl ?_
                          exact ih100 (k + 1) (s4 + 1) (s5 + 0) (by omega) (by rw [sm_s _ h8.1, ← h9]; unfold hon; split <;> omega) (by rw [sm_s _ h8.1, ← h10]; unfold own; split <;> omega) (by omega)
                        · skip
                          refine g_iconst O dX6_lays_153 154 rfl ?_
                          refine g_goto O dX6_lays_154 158 rfl ?_
                          refine g_iadd O dX6_lays_158 159 rfl ?_
                          refine g_istore O dX6_lays_159 161 [(0, .ref o), (1, vi d), (2, vi z2), (3, vi j), (4, vi (s4 + 1)), (5, vi (s5 + 1)), (6, vi k)] rfl (by decide) rfl ?_
                          refine g_iinc O dX6_lays_161 164 6 [(0, .ref o), (1, vi d), (2, vi z2), (3, vi j), (4, vi (s4 + 1)), (5, vi (s5 + 1)), (6, vi (k + 1))] rfl (by decide) rfl rfl ?_
                          refine g_goto O dX6_lays_164 100 rfl ?_
                          exact ih100 (k + 1) (s4 + 1) (s5 + 1) (by omega) (by rw [sm_s _ h8.1, ← h9]; unfold hon; split <;> omega) (by rw [sm_s _ h8.1, ← h10]; unfold own; split <;> omega) (by omega)
              exact lp100 1000 0 0 0 (by omega) (sm_0 _).symm (sm_0 _).symm (by omega)
        exact lp83 1000 0 z (by omega) (by rw [show i = N by omega] at hz; rcases hz with ⟨e0, c⟩ | ⟨e0, c⟩; exact Or.inl ⟨e0, c, fun p p0 p1 => absurd p1 (by omega)⟩; exact Or.inr ⟨e0, fun q => c q.1⟩) (by omega)
      · skip
        have hbd : bitd d i = (d / p2 i) % 2 := rfl
        have hfb := fp_bd hW (a := i) (by omega) (by omega)
        have hsb := sp_bd hW (N := N) (a := i) (by omega) (by omega)
        have hz01 : z = 0 ∨ z = 1 := by omega
        refine g_iload_n O dX6_lays_12 13 1 rfl rfl ?_
        refine g_iload_n O dX6_lays_13 14 3 rfl rfl ?_
        refine g_ishr O dX6_lays_14 15 rfl (by omega) ?_
        refine g_iconst O dX6_lays_15 16 rfl ?_
        refine g_iand O dX6_lays_16 17 rfl 1 (by decide) (by decide +kernel) 2 (by decide) ?_
        refine g_iconst O dX6_lays_17 18 rfl ?_
        refine g_icmp_ne O dX6_lays_18 21 25 rfl rfl (by omega) (fun h18 => ?_) (fun h18 => ?_)
        · skip
          refine g_iconst O dX6_lays_25 26 rfl ?_
          refine g_istore O dX6_lays_26 28 [(0, .ref o), (1, vi d), (2, vi z), (3, vi i), (4, vi 0)] rfl (by decide) rfl ?_
          refine g_aload_n O dX6_lays_28 29 0 rfl rfl ?_
          refine g_get O dX6_lays_29 32 rfl fX6_lays_35 0 rfl rfl ?_
          refine g_iload_n O dX6_lays_32 33 3 rfl rfl ?_
          refine g_iload O dX6_lays_33 35 4 rfl rfl ?_
          refine g_if_eq O dX6_lays_35 38 46 rfl rfl (by omega) (fun _ => ?_) (fun h => absurd h (by decide))
          refine g_aload_n O dX6_lays_46 47 0 rfl rfl ?_
          refine g_iload_n O dX6_lays_47 48 3 rfl rfl ?_
          refine g_callV (As := [vi i]) (rest := [vi i, .ref f]) (na := 1) O (k_X6_first D o c l t n h b f N P cap len lst nw hi e be f1 i hW (by omega)) dX6_lays_48 gX6_lays_X6_first rfl ⟨rfl, rfl⟩ (by decide +kernel) rfl (by decide) (by decide) rfl (Nat.le_of_ble_eq_true rfl) (q0 := 0) (ci := 6) rfl rfl [0, 1, 2, 3, 4, 5, 6, 7] (by decide) rfl (fun _ => rfl) (fun _ => [(o, co 6 [vi N, vi P, .ref c, .ref l, .ref t, .ref n, .ref h, vi e, .ref b, .ref f]), (c, ca D 5 cap), (l, ca D 6 len), (t, ca D 30 lst), (n, ca D 12 nw), (h, ca D 60 hi), (b, ca D 1701 be), (f, ca D 6 f1)]) (fun _ => rfl) 51 rfl (fun _ _ => ?_)
          show G X D A 7 Q 0 0 51 [(0, .ref o), (1, vi d), (2, vi z), (3, vi i), (4, vi 0)] [vi (fp len lst i), vi i, .ref f] [(o, co 6 [vi N, vi P, .ref c, .ref l, .ref t, .ref n, .ref h, vi e, .ref b, .ref f]), (c, ca D 5 cap), (l, ca D 6 len), (t, ca D 30 lst), (n, ca D 12 nw), (h, ca D 60 hi), (b, ca D 1701 be), (f, ca D 6 f1)]
          refine g_iast O dX6_lays_51 52 rfl 7 rfl (by decide) (by omega) [(o, co 6 [vi N, vi P, .ref c, .ref l, .ref t, .ref n, .ref h, vi e, .ref b, .ref f]), (c, ca D 5 cap), (l, ca D 6 len), (t, ca D 30 lst), (n, ca D 12 nw), (h, ca D 60 hi), (b, ca D 1701 be), (f, ca D 6 (up f1 i (fp len lst i)))] rfl ?_
          refine g_iload_n O dX6_lays_52 53 2 rfl rfl ?_
          refine g_if_eq O dX6_lays_53 56 73 rfl rfl (by omega) (fun h53 => ?_) (fun h53 => ?_)
          · skip
            refine g_iconst O dX6_lays_73 74 rfl ?_
            refine g_istore_n O dX6_lays_74 75 [(0, .ref o), (1, vi d), (2, vi 0), (3, vi i), (4, vi 0)] rfl (by decide) rfl ?_
            refine g_iinc O dX6_lays_75 78 3 [(0, .ref o), (1, vi d), (2, vi 0), (3, vi (i + 1)), (4, vi 0)] rfl (by decide) rfl rfl ?_
            refine g_goto O dX6_lays_78 4 rfl ?_
            refine g_loc (L' := [(0, .ref o), (1, vi d), (2, vi 0), (3, vi (i + 1))]) [0, 1, 2, 3] rfl ?_
            exact ih4 (i + 1) 0 (up f1 i (fp len lst i)) (by omega) (fun kk q1 q2 => by by_cases e1 : kk = i; rw [e1, up_s]; unfold mcs; (first | rw [if_pos (by omega)] | rw [if_neg (by omega)]); rw [up_n e1]; exact h2 kk q1 (by omega)) (by rw [lc_s h1.1]; rcases hz with ⟨e0, c⟩ | ⟨e0, c⟩ <;> first | exact absurd e0 (by omega) | exact Or.inl ⟨rfl, c, fun q => by omega⟩ | exact Or.inr ⟨rfl, fun q => q.2 ⟨by omega, by omega⟩⟩ | exact Or.inr ⟨rfl, fun q => c q.1⟩) (by omega)
          · skip
            refine g_iload O dX6_lays_56 58 4 rfl rfl ?_
            refine g_if_eq O dX6_lays_58 61 69 rfl rfl (by omega) (fun _ => ?_) (fun h => absurd h (by decide))
            refine g_iconst O dX6_lays_69 70 rfl ?_
            refine g_goto O dX6_lays_70 74 rfl ?_
            refine g_istore_n O dX6_lays_74 75 [(0, .ref o), (1, vi d), (2, vi 1), (3, vi i), (4, vi 0)] rfl (by decide) rfl ?_
            refine g_iinc O dX6_lays_75 78 3 [(0, .ref o), (1, vi d), (2, vi 1), (3, vi (i + 1)), (4, vi 0)] rfl (by decide) rfl rfl ?_
            refine g_goto O dX6_lays_78 4 rfl ?_
            refine g_loc (L' := [(0, .ref o), (1, vi d), (2, vi 1), (3, vi (i + 1))]) [0, 1, 2, 3] rfl ?_
            exact ih4 (i + 1) 1 (up f1 i (fp len lst i)) (by omega) (fun kk q1 q2 => by by_cases e1 : kk = i; rw [e1, up_s]; unfold mcs; (first | rw [if_pos (by omega)] | rw [if_neg (by omega)]); rw [up_n e1]; exact h2 kk q1 (by omega)) (by rw [lc_s h1.1]; rcases hz with ⟨e0, c⟩ | ⟨e0, c⟩ <;> first | exact absurd e0 (by omega) | exact Or.inl ⟨rfl, c, fun q => by omega⟩ | exact Or.inr ⟨rfl, fun q => q.2 ⟨by omega, by omega⟩⟩ | exact Or.inr ⟨rfl, fun q => c q.1⟩) (by omega)
        · skip
          refine g_iconst O dX6_lays_21 22 rfl ?_
          refine g_goto O dX6_lays_22 26 rfl ?_
          refine g_istore O dX6_lays_26 28 [(0, .ref o), (1, vi d), (2, vi z), (3, vi i), (4, vi 1)] rfl (by decide) rfl ?_
          refine g_aload_n O dX6_lays_28 29 0 rfl rfl ?_
          refine g_get O dX6_lays_29 32 rfl fX6_lays_35 0 rfl rfl ?_
          refine g_iload_n O dX6_lays_32 33 3 rfl rfl ?_
          refine g_iload O dX6_lays_33 35 4 rfl rfl ?_
          refine g_if_eq O dX6_lays_35 38 46 rfl rfl (by omega) (fun h => absurd h (by decide)) (fun _ => ?_)
          refine g_aload_n O dX6_lays_38 39 0 rfl rfl ?_
          refine g_iload_n O dX6_lays_39 40 3 rfl rfl ?_
          refine g_callV (As := [vi i]) (rest := [vi i, .ref f]) (na := 1) O (k_X6_second D o c l t n h b f N P cap len lst nw hi e be f1 i hW (by omega)) dX6_lays_40 gX6_lays_X6_second rfl ⟨rfl, rfl⟩ (by decide +kernel) rfl (by decide) (by decide) rfl (Nat.le_of_ble_eq_true rfl) (q0 := 0) (ci := 6) rfl rfl [0, 1, 2, 3, 4, 5, 6, 7] (by decide) rfl (fun _ => rfl) (fun _ => [(o, co 6 [vi N, vi P, .ref c, .ref l, .ref t, .ref n, .ref h, vi e, .ref b, .ref f]), (c, ca D 5 cap), (l, ca D 6 len), (t, ca D 30 lst), (n, ca D 12 nw), (h, ca D 60 hi), (b, ca D 1701 be), (f, ca D 6 f1)]) (fun _ => rfl) 43 rfl (fun _ _ => ?_)
          show G X D A 7 Q 0 0 43 [(0, .ref o), (1, vi d), (2, vi z), (3, vi i), (4, vi 1)] [vi (sp N cap len lst i), vi i, .ref f] [(o, co 6 [vi N, vi P, .ref c, .ref l, .ref t, .ref n, .ref h, vi e, .ref b, .ref f]), (c, ca D 5 cap), (l, ca D 6 len), (t, ca D 30 lst), (n, ca D 12 nw), (h, ca D 60 hi), (b, ca D 1701 be), (f, ca D 6 f1)]
          refine g_goto O dX6_lays_43 51 rfl ?_
          refine g_iast O dX6_lays_51 52 rfl 7 rfl (by decide) (by omega) [(o, co 6 [vi N, vi P, .ref c, .ref l, .ref t, .ref n, .ref h, vi e, .ref b, .ref f]), (c, ca D 5 cap), (l, ca D 6 len), (t, ca D 30 lst), (n, ca D 12 nw), (h, ca D 60 hi), (b, ca D 1701 be), (f, ca D 6 (up f1 i (sp N cap len lst i)))] rfl ?_
          refine g_iload_n O dX6_lays_52 53 2 rfl rfl ?_
          refine g_if_eq O dX6_lays_53 56 73 rfl rfl (by omega) (fun h53 => ?_) (fun h53 => ?_)
          · skip
            refine g_iconst O dX6_lays_73 74 rfl ?_
            refine g_istore_n O dX6_lays_74 75 [(0, .ref o), (1, vi d), (2, vi 0), (3, vi i), (4, vi 1)] rfl (by decide) rfl ?_
            refine g_iinc O dX6_lays_75 78 3 [(0, .ref o), (1, vi d), (2, vi 0), (3, vi (i + 1)), (4, vi 1)] rfl (by decide) rfl rfl ?_
            refine g_goto O dX6_lays_78 4 rfl ?_
            refine g_loc (L' := [(0, .ref o), (1, vi d), (2, vi 0), (3, vi (i + 1))]) [0, 1, 2, 3] rfl ?_
            exact ih4 (i + 1) 0 (up f1 i (sp N cap len lst i)) (by omega) (fun kk q1 q2 => by by_cases e1 : kk = i; rw [e1, up_s]; unfold mcs; (first | rw [if_pos (by omega)] | rw [if_neg (by omega)]); rw [up_n e1]; exact h2 kk q1 (by omega)) (by rw [lc_s h1.1]; rcases hz with ⟨e0, c⟩ | ⟨e0, c⟩ <;> first | exact absurd e0 (by omega) | exact Or.inl ⟨rfl, c, fun q => by omega⟩ | exact Or.inr ⟨rfl, fun q => q.2 ⟨by omega, by omega⟩⟩ | exact Or.inr ⟨rfl, fun q => c q.1⟩) (by omega)
          · skip
            refine g_iload O dX6_lays_56 58 4 rfl rfl ?_
            refine g_if_eq O dX6_lays_58 61 69 rfl rfl (by omega) (fun h => absurd h (by decide)) (fun _ => ?_)
            refine g_aload_n O dX6_lays_61 62 0 rfl rfl ?_
            refine g_iload_n O dX6_lays_62 63 3 rfl rfl ?_
            refine g_callV (As := [vi i]) (rest := []) (na := 1) O (k_X6_first D o c l t n h b f N P cap len lst nw hi e be (up f1 i (sp N cap len lst i)) i hW (by omega)) dX6_lays_63 gX6_lays_X6_first rfl ⟨rfl, rfl⟩ (by decide +kernel) rfl (by decide) (by decide) rfl (Nat.le_of_ble_eq_true rfl) (q0 := 0) (ci := 6) rfl rfl [0, 1, 2, 3, 4, 5, 6, 7] (by decide) rfl (fun _ => rfl) (fun _ => [(o, co 6 [vi N, vi P, .ref c, .ref l, .ref t, .ref n, .ref h, vi e, .ref b, .ref f]), (c, ca D 5 cap), (l, ca D 6 len), (t, ca D 30 lst), (n, ca D 12 nw), (h, ca D 60 hi), (b, ca D 1701 be), (f, ca D 6 (up f1 i (sp N cap len lst i)))]) (fun _ => rfl) 66 rfl (fun _ _ => ?_)
            show G X D A 7 Q 0 0 66 [(0, .ref o), (1, vi d), (2, vi z), (3, vi i), (4, vi 1)] [vi (fp len lst i)] [(o, co 6 [vi N, vi P, .ref c, .ref l, .ref t, .ref n, .ref h, vi e, .ref b, .ref f]), (c, ca D 5 cap), (l, ca D 6 len), (t, ca D 30 lst), (n, ca D 12 nw), (h, ca D 60 hi), (b, ca D 1701 be), (f, ca D 6 (up f1 i (sp N cap len lst i)))]
            refine g_if_lt O dX6_lays_66 69 73 rfl rfl (by omega) (fun h66 => ?_) (fun h66 => ?_)
            · skip
              refine g_iconst O dX6_lays_73 74 rfl ?_
              refine g_istore_n O dX6_lays_74 75 [(0, .ref o), (1, vi d), (2, vi 0), (3, vi i), (4, vi 1)] rfl (by decide) rfl ?_
              refine g_iinc O dX6_lays_75 78 3 [(0, .ref o), (1, vi d), (2, vi 0), (3, vi (i + 1)), (4, vi 1)] rfl (by decide) rfl rfl ?_
              refine g_goto O dX6_lays_78 4 rfl ?_
              refine g_loc (L' := [(0, .ref o), (1, vi d), (2, vi 0), (3, vi (i + 1))]) [0, 1, 2, 3] rfl ?_
              exact ih4 (i + 1) 0 (up f1 i (sp N cap len lst i)) (by omega) (fun kk q1 q2 => by by_cases e1 : kk = i; rw [e1, up_s]; unfold mcs; (first | rw [if_pos (by omega)] | rw [if_neg (by omega)]); rw [up_n e1]; exact h2 kk q1 (by omega)) (by rw [lc_s h1.1]; rcases hz with ⟨e0, c⟩ | ⟨e0, c⟩ <;> first | exact absurd e0 (by omega) | exact Or.inl ⟨rfl, c, fun q => by omega⟩ | exact Or.inr ⟨rfl, fun q => q.2 ⟨by omega, by omega⟩⟩ | exact Or.inr ⟨rfl, fun q => c q.1⟩) (by omega)
            · skip
              refine g_iconst O dX6_lays_69 70 rfl ?_
              refine g_goto O dX6_lays_70 74 rfl ?_
              refine g_istore_n O dX6_lays_74 75 [(0, .ref o), (1, vi d), (2, vi 1), (3, vi i), (4, vi 1)] rfl (by decide) rfl ?_
              refine g_iinc O dX6_lays_75 78 3 [(0, .ref o), (1, vi d), (2, vi 1), (3, vi (i + 1)), (4, vi 1)] rfl (by decide) rfl rfl ?_
              refine g_goto O dX6_lays_78 4 rfl ?_
              refine g_loc (L' := [(0, .ref o), (1, vi d), (2, vi 1), (3, vi (i + 1))]) [0, 1, 2, 3] rfl ?_
              exact ih4 (i + 1) 1 (up f1 i (sp N cap len lst i)) (by omega) (fun kk q1 q2 => by by_cases e1 : kk = i; rw [e1, up_s]; unfold mcs; (first | rw [if_pos (by omega)] | rw [if_neg (by omega)]); rw [up_n e1]; exact h2 kk q1 (by omega)) (by rw [lc_s h1.1]; rcases hz with ⟨e0, c⟩ | ⟨e0, c⟩ <;> first | exact absurd e0 (by omega) | exact Or.inl ⟨rfl, c, fun q => by omega⟩ | exact Or.inr ⟨rfl, fun q => q.2 ⟨by omega, by omega⟩⟩ | exact Or.inr ⟨rfl, fun q => c q.1⟩) (by omega)
  exact lp4 1000 0 1 fo (by omega) (fun kk q1 q2 => absurd q2 (by omega)) (Or.inl ⟨rfl, fun a a0 a1 => absurd a1 (by omega)⟩) (by omega)
theorem sX6_sizeOf_6 : ∀ w ∈ wsX60, w ∈ wsX6_sizeOf := by decide +kernel
theorem fX6_sizeOf_35 : FK RX6 wsX6_sizeOf 35 6 9 := ⟨RX6, TX6, 10, rfl, sX6_sizeOf_6, by decide, List.mem_of_getElem? (i := 2) rfl⟩
theorem fX6_sizeOf_7 : FK RX6 wsX6_sizeOf 7 6 0 := ⟨RX6, TX6, 10, rfl, sX6_sizeOf_6, by decide, List.mem_of_getElem? (i := 1) rfl⟩
set_option maxHeartbeats 4000000 in
set_option maxRecDepth 100000 in
theorem k_X6_sizeOf (D : DD) (o c l t n h b f : Nat) (N P : Int) (cap len lst nw hi : Int → Int) (e : Int) (be fo : Int → Int) (hW : WI N P cap len lst) (hfo : ∀ kk, 0 ≤ kk → kk < N → -1 ≤ fo kk ∧ fo kk < 5) : Con (S := Unit) D yX6_sizeOf wsX6_sizeOf ({ frames := 0, cells := 0, slots := 0, locals := 0 }) 0 0 [.ref o] [(o, co 6 [vi N, vi P, .ref c, .ref l, .ref t, .ref n, .ref h, vi e, .ref b, .ref f]), (c, ca D 5 cap), (l, ca D 6 len), (t, ca D 30 lst), (n, ca D 12 nw), (h, ca D 60 hi), (b, ca D 1701 be), (f, ca D 6 fo)] (fun u => some (vi (sm (pls fo) N))) (fun u => True) (fun u => [(o, co 6 [vi N, vi P, .ref c, .ref l, .ref t, .ref n, .ref h, vi e, .ref b, .ref f]), (c, ca D 5 cap), (l, ca D 6 len), (t, ca D 30 lst), (n, ca D 12 nw), (h, ca D 60 hi), (b, ca D 1701 be), (f, ca D 6 fo)]) := by
  refine Con.of (cc := cX6_sizeOf) (nL := 3) (ret := (some .int)) rfl (by decide +kernel) (Nat.le_of_ble_eq_true rfl) ?_
  intro X A Q O hQ hin
  show G X D A 3 Q 0 0 0 [(0, .ref o)] [] [(o, co 6 [vi N, vi P, .ref c, .ref l, .ref t, .ref n, .ref h, vi e, .ref b, .ref f]), (c, ca D 5 cap), (l, ca D 6 len), (t, ca D 30 lst), (n, ca D 12 nw), (h, ca D 60 hi), (b, ca D 1701 be), (f, ca D 6 fo)]
  obtain ⟨hN, hcap, hlen, hlst, hdis⟩ := id hW
  refine g_iconst O dX6_sizeOf_0 1 rfl ?_
  refine g_istore_n O dX6_sizeOf_1 2 [(0, .ref o), (1, vi 0)] rfl (by decide) rfl ?_
  refine g_iconst O dX6_sizeOf_2 3 rfl ?_
  refine g_istore_n O dX6_sizeOf_3 4 [(0, .ref o), (1, vi 0), (2, vi 0)] rfl (by decide) rfl ?_
  have lp4 : ∀ (nn : Nat) (i : Int) (s : Int), (0 ≤ i ∧ i ≤ N) → (s = sm (pls fo) i) → (N - i < (nn : Int)) → G X D A 3 Q 0 0 4 [(0, .ref o), (1, vi s), (2, vi i)] [] [(o, co 6 [vi N, vi P, .ref c, .ref l, .ref t, .ref n, .ref h, vi e, .ref b, .ref f]), (c, ca D 5 cap), (l, ca D 6 len), (t, ca D 30 lst), (n, ca D 12 nw), (h, ca D 60 hi), (b, ca D 1701 be), (f, ca D 6 fo)] := by
    intro nn
    induction nn with
    | zero =>
      intro i s h1 h2 hm4
      exact absurd hm4 (by omega)
    | succ nn ih4 =>
      intro i s h1 h2 hm4
      refine g_iload_n O dX6_sizeOf_4 5 2 rfl rfl ?_
      refine g_aload_n O dX6_sizeOf_5 6 0 rfl rfl ?_
      refine g_get O dX6_sizeOf_6 9 rfl fX6_sizeOf_7 0 rfl rfl ?_
      refine g_icmp_ge O dX6_sizeOf_9 12 35 rfl rfl (by omega) (fun h9 => ?_) (fun h9 => ?_)
      · skip
        refine g_iload_n O dX6_sizeOf_35 36 1 rfl rfl ?_
        exact g_iret O hQ dX6_sizeOf_36 () (vi_eq (by rw [h2, show i = N by omega])) rfl trivial ⟨by decide, by decide⟩
      · skip
        refine g_iload_n O dX6_sizeOf_12 13 1 rfl rfl ?_
        refine g_aload_n O dX6_sizeOf_13 14 0 rfl rfl ?_
        refine g_get O dX6_sizeOf_14 17 rfl fX6_sizeOf_35 0 rfl rfl ?_
        refine g_iload_n O dX6_sizeOf_17 18 2 rfl rfl ?_
        refine g_iald O dX6_sizeOf_18 19 rfl 7 rfl (by decide) (by omega) ?_
        have hni := hfo i (by omega) (by omega)
        refine g_if_lt O dX6_sizeOf_19 22 26 rfl rfl (by omega) (fun h19 => ?_) (fun h19 => ?_)
        · skip
          refine g_iconst O dX6_sizeOf_26 27 rfl ?_
          refine g_iadd O dX6_sizeOf_27 28 rfl ?_
          refine g_istore_n O dX6_sizeOf_28 29 [(0, .ref o), (1, vi (s + 0)), (2, vi i)] rfl (by decide) rfl ?_
          refine g_iinc O dX6_sizeOf_29 32 2 [(0, .ref o), (1, vi (s + 0)), (2, vi (i + 1))] rfl (by decide) rfl rfl ?_
          refine g_goto O dX6_sizeOf_32 4 rfl ?_
          exact ih4 (i + 1) (s + 0) (by omega) (by rw [sm_s _ h1.1, ← h2]; unfold pls; split <;> omega) (by omega)
        · skip
          refine g_iconst O dX6_sizeOf_22 23 rfl ?_
          refine g_goto O dX6_sizeOf_23 27 rfl ?_
          refine g_iadd O dX6_sizeOf_27 28 rfl ?_
          refine g_istore_n O dX6_sizeOf_28 29 [(0, .ref o), (1, vi (s + 1)), (2, vi i)] rfl (by decide) rfl ?_
          refine g_iinc O dX6_sizeOf_29 32 2 [(0, .ref o), (1, vi (s + 1)), (2, vi (i + 1))] rfl (by decide) rfl rfl ?_
          refine g_goto O dX6_sizeOf_32 4 rfl ?_
          exact ih4 (i + 1) (s + 1) (by omega) (by rw [sm_s _ h1.1, ← h2]; unfold pls; split <;> omega) (by omega)
  exact lp4 1000 0 0 (by omega) (sm_0 _).symm (by omega)
theorem sX6_code_6 : ∀ w ∈ wsX60, w ∈ wsX6_code := by decide +kernel
theorem fX6_code_35 : FK RX6 wsX6_code 35 6 9 := ⟨RX6, TX6, 10, rfl, sX6_code_6, by decide, List.mem_of_getElem? (i := 2) rfl⟩
theorem fX6_code_7 : FK RX6 wsX6_code 7 6 0 := ⟨RX6, TX6, 10, rfl, sX6_code_6, by decide, List.mem_of_getElem? (i := 1) rfl⟩
set_option maxHeartbeats 4000000 in
set_option maxRecDepth 100000 in
theorem k_X6_code (D : DD) (o c l t n h b f : Nat) (N P : Int) (cap len lst nw hi : Int → Int) (e : Int) (be fo : Int → Int) (hW : WI N P cap len lst) (hfo : ∀ kk, 0 ≤ kk → kk < N → -1 ≤ fo kk ∧ fo kk < 5) : Con (S := Unit) D yX6_code wsX6_code ({ frames := 0, cells := 0, slots := 0, locals := 0 }) 0 0 [.ref o] [(o, co 6 [vi N, vi P, .ref c, .ref l, .ref t, .ref n, .ref h, vi e, .ref b, .ref f]), (c, ca D 5 cap), (l, ca D 6 len), (t, ca D 30 lst), (n, ca D 12 nw), (h, ca D 60 hi), (b, ca D 1701 be), (f, ca D 6 fo)] (fun u => some (vi (cdr fo N.toNat))) (fun u => True) (fun u => [(o, co 6 [vi N, vi P, .ref c, .ref l, .ref t, .ref n, .ref h, vi e, .ref b, .ref f]), (c, ca D 5 cap), (l, ca D 6 len), (t, ca D 30 lst), (n, ca D 12 nw), (h, ca D 60 hi), (b, ca D 1701 be), (f, ca D 6 fo)]) := by
  refine Con.of (cc := cX6_code) (nL := 3) (ret := (some .int)) rfl (by decide +kernel) (Nat.le_of_ble_eq_true rfl) ?_
  intro X A Q O hQ hin
  show G X D A 3 Q 0 0 0 [(0, .ref o)] [] [(o, co 6 [vi N, vi P, .ref c, .ref l, .ref t, .ref n, .ref h, vi e, .ref b, .ref f]), (c, ca D 5 cap), (l, ca D 6 len), (t, ca D 30 lst), (n, ca D 12 nw), (h, ca D 60 hi), (b, ca D 1701 be), (f, ca D 6 fo)]
  obtain ⟨hN, hcap, hlen, hlst, hdis⟩ := id hW
  refine g_iconst O dX6_code_0 1 rfl ?_
  refine g_istore_n O dX6_code_1 2 [(0, .ref o), (1, vi 0)] rfl (by decide) rfl ?_
  refine g_iconst O dX6_code_2 3 rfl ?_
  refine g_istore_n O dX6_code_3 4 [(0, .ref o), (1, vi 0), (2, vi 0)] rfl (by decide) rfl ?_
  have lp4 : ∀ (nn : Nat) (i : Int) (s : Int), (0 ≤ i ∧ i ≤ N) → (s = cdr fo i.toNat) → (N - i < (nn : Int)) → G X D A 3 Q 0 0 4 [(0, .ref o), (1, vi s), (2, vi i)] [] [(o, co 6 [vi N, vi P, .ref c, .ref l, .ref t, .ref n, .ref h, vi e, .ref b, .ref f]), (c, ca D 5 cap), (l, ca D 6 len), (t, ca D 30 lst), (n, ca D 12 nw), (h, ca D 60 hi), (b, ca D 1701 be), (f, ca D 6 fo)] := by
    intro nn
    induction nn with
    | zero =>
      intro i s h1 h2 hm4
      exact absurd hm4 (by omega)
    | succ nn ih4 =>
      intro i s h1 h2 hm4
      refine g_iload_n O dX6_code_4 5 2 rfl rfl ?_
      refine g_aload_n O dX6_code_5 6 0 rfl rfl ?_
      refine g_get O dX6_code_6 9 rfl fX6_code_7 0 rfl rfl ?_
      refine g_icmp_ge O dX6_code_9 12 43 rfl rfl (by omega) (fun h9 => ?_) (fun h9 => ?_)
      · skip
        refine g_iload_n O dX6_code_43 44 1 rfl rfl ?_
        exact g_iret O hQ dX6_code_44 () (vi_eq (by rw [h2, show i = N by omega])) rfl trivial ⟨by decide, by decide⟩
      · skip
        refine g_bipush O dX6_code_12 14 rfl (by decide) ?_
        refine g_iload_n O dX6_code_14 15 1 rfl rfl ?_
        refine g_imul O dX6_code_15 16 rfl ?_
        refine g_aload_n O dX6_code_16 17 0 rfl rfl ?_
        refine g_get O dX6_code_17 20 rfl fX6_code_35 0 rfl rfl ?_
        refine g_iload_n O dX6_code_20 21 2 rfl rfl ?_
        refine g_iald O dX6_code_21 22 rfl 7 rfl (by decide) (by omega) ?_
        have hni := hfo i (by omega) (by omega)
        refine g_if_ge O dX6_code_22 25 29 rfl rfl (by omega) (fun h22 => ?_) (fun h22 => ?_)
        · skip
          refine g_aload_n O dX6_code_29 30 0 rfl rfl ?_
          refine g_get O dX6_code_30 33 rfl fX6_code_35 0 rfl rfl ?_
          refine g_iload_n O dX6_code_33 34 2 rfl rfl ?_
          refine g_iald O dX6_code_34 35 rfl 7 rfl (by decide) (by omega) ?_
          refine g_iadd O dX6_code_35 36 rfl ?_
          refine g_istore_n O dX6_code_36 37 [(0, .ref o), (1, vi ((6 * s) + (fo i))), (2, vi i)] rfl (by decide) rfl ?_
          refine g_iinc O dX6_code_37 40 2 [(0, .ref o), (1, vi ((6 * s) + (fo i))), (2, vi (i + 1))] rfl (by decide) rfl rfl ?_
          refine g_goto O dX6_code_40 4 rfl ?_
          exact ih4 (i + 1) ((6 * s) + (fo i)) (by omega) (by rw [show (i + 1).toNat = i.toNat + 1 by omega]; show _ = 6 * cdr fo i.toNat + plq (fo (i.toNat : Int)); rw [Int.toNat_of_nonneg h1.1, ← h2]; unfold plq; split <;> omega) (by omega)
        · skip
          refine g_iconst O dX6_code_25 26 rfl ?_
          refine g_goto O dX6_code_26 35 rfl ?_
          refine g_iadd O dX6_code_35 36 rfl ?_
          refine g_istore_n O dX6_code_36 37 [(0, .ref o), (1, vi ((6 * s) + 5)), (2, vi i)] rfl (by decide) rfl ?_
          refine g_iinc O dX6_code_37 40 2 [(0, .ref o), (1, vi ((6 * s) + 5)), (2, vi (i + 1))] rfl (by decide) rfl rfl ?_
          refine g_goto O dX6_code_40 4 rfl ?_
          exact ih4 (i + 1) ((6 * s) + 5) (by omega) (by rw [show (i + 1).toNat = i.toNat + 1 by omega]; show _ = 6 * cdr fo i.toNat + plq (fo (i.toNat : Int)); rw [Int.toNat_of_nonneg h1.1, ← h2]; unfold plq; split <;> omega) (by omega)
  exact lp4 1000 0 0 (by omega) rfl (by omega)
theorem sX6_popularCount_6 : ∀ w ∈ wsX60, w ∈ wsX6_popularCount := by decide +kernel
theorem fX6_popularCount_7 : FK RX6 wsX6_popularCount 7 6 0 := ⟨RX6, TX6, 10, rfl, sX6_popularCount_6, by decide, List.mem_of_getElem? (i := 1) rfl⟩
set_option maxHeartbeats 4000000 in
set_option maxRecDepth 100000 in
theorem k_X6_popularCount (D : DD) (o c l t n h b f : Nat) (N P : Int) (cap len lst nw hi : Int → Int) (e : Int) (be fo : Int → Int) (hW : WI N P cap len lst) : Con (S := (Int → Int)) D yX6_popularCount wsX6_popularCount ({ frames := 4, cells := 0, slots := 0, locals := 93 }) 0 0 [.ref o] [(o, co 6 [vi N, vi P, .ref c, .ref l, .ref t, .ref n, .ref h, vi e, .ref b, .ref f]), (c, ca D 5 cap), (l, ca D 6 len), (t, ca D 30 lst), (n, ca D 12 nw), (h, ca D 60 hi), (b, ca D 1701 be), (f, ca D 6 fo)] (fun u => some (vi (sm (fun d => ind (LAYS N P cap len lst d)) (p2 N)))) (fun u => True) (fun u => [(o, co 6 [vi N, vi P, .ref c, .ref l, .ref t, .ref n, .ref h, vi e, .ref b, .ref f]), (c, ca D 5 cap), (l, ca D 6 len), (t, ca D 30 lst), (n, ca D 12 nw), (h, ca D 60 hi), (b, ca D 1701 be), (f, ca D 6 u)]) := by
  refine Con.of (cc := cX6_popularCount) (nL := 3) (ret := (some .int)) rfl (by decide +kernel) (Nat.le_of_ble_eq_true rfl) ?_
  intro X A Q O hQ hin
  show G X D A 3 Q 0 0 0 [(0, .ref o)] [] [(o, co 6 [vi N, vi P, .ref c, .ref l, .ref t, .ref n, .ref h, vi e, .ref b, .ref f]), (c, ca D 5 cap), (l, ca D 6 len), (t, ca D 30 lst), (n, ca D 12 nw), (h, ca D 60 hi), (b, ca D 1701 be), (f, ca D 6 fo)]
  obtain ⟨hN, hcap, hlen, hlst, hdis⟩ := id hW
  have hp64 := p2_64 (k := N) (by omega) (by omega)
  refine g_iconst O dX6_popularCount_0 1 rfl ?_
  refine g_istore_n O dX6_popularCount_1 2 [(0, .ref o), (1, vi 0)] rfl (by decide) rfl ?_
  refine g_iconst O dX6_popularCount_2 3 rfl ?_
  refine g_istore_n O dX6_popularCount_3 4 [(0, .ref o), (1, vi 0), (2, vi 0)] rfl (by decide) rfl ?_
  have lp4 : ∀ (nn : Nat) (i : Int) (s : Int) (f1 : Int → Int), (0 ≤ i ∧ i ≤ p2 N) → (s = sm (fun d => ind (LAYS N P cap len lst d)) i) → (p2 N - i < (nn : Int)) → G X D A 3 Q 0 0 4 [(0, .ref o), (1, vi s), (2, vi i)] [] [(o, co 6 [vi N, vi P, .ref c, .ref l, .ref t, .ref n, .ref h, vi e, .ref b, .ref f]), (c, ca D 5 cap), (l, ca D 6 len), (t, ca D 30 lst), (n, ca D 12 nw), (h, ca D 60 hi), (b, ca D 1701 be), (f, ca D 6 f1)] := by
    intro nn
    induction nn with
    | zero =>
      intro i s f1 h1 h2 hm4
      exact absurd hm4 (by omega)
    | succ nn ih4 =>
      intro i s f1 h1 h2 hm4
      refine g_iload_n O dX6_popularCount_4 5 2 rfl rfl ?_
      refine g_iconst O dX6_popularCount_5 6 rfl ?_
      refine g_aload_n O dX6_popularCount_6 7 0 rfl rfl ?_
      refine g_get O dX6_popularCount_7 10 rfl fX6_popularCount_7 0 rfl rfl ?_
      refine g_ishl O dX6_popularCount_10 11 rfl (by omega) ?_
      refine g_cv (y := p2 N) (Int.one_mul _) ?_
      refine g_icmp_ge O dX6_popularCount_11 14 36 rfl rfl (by omega) (fun h11 => ?_) (fun h11 => ?_)
      · skip
        refine g_iload_n O dX6_popularCount_36 37 1 rfl rfl ?_
        exact g_iret O hQ dX6_popularCount_37 f1 (vi_eq (by rw [h2, show i = p2 N by omega])) rfl trivial ⟨by decide, by decide⟩
      · skip
        refine g_iload_n O dX6_popularCount_14 15 1 rfl rfl ?_
        refine g_aload_n O dX6_popularCount_15 16 0 rfl rfl ?_
        refine g_iload_n O dX6_popularCount_16 17 2 rfl rfl ?_
        refine g_callV (As := [vi i]) (rest := [vi s]) (na := 1) O (k_X6_lays D o c l t n h b f N P cap len lst nw hi e be f1 i hW (by omega)) dX6_popularCount_17 gX6_popularCount_X6_lays rfl ⟨rfl, rfl⟩ (by decide +kernel) rfl (by decide) (by decide) rfl (Nat.le_of_ble_eq_true rfl) (q0 := 0) (ci := 6) rfl rfl [0, 1, 2, 3, 4, 5, 6, 7] (by decide) rfl (fun _ => rfl) (fun u => [(o, co 6 [vi N, vi P, .ref c, .ref l, .ref t, .ref n, .ref h, vi e, .ref b, .ref f]), (c, ca D 5 cap), (l, ca D 6 len), (t, ca D 30 lst), (n, ca D 12 nw), (h, ca D 60 hi), (b, ca D 1701 be), (f, ca D 6 u.2)]) (fun _ => rfl) 20 rfl (fun u17 hu17 => ?_)
        obtain ⟨bz17, fo117⟩ := u17
        obtain ⟨hz17, hu17⟩ := hu17
        rcases hz17 with ⟨rfl, hb17⟩ | ⟨rfl, hb17⟩
        · skip
          have hb17 : LAYS N P cap len lst i := hb17
          have hu17 : (∀ kk, 0 ≤ kk → kk < N → fo117 kk = mcs N cap len lst i kk) := hu17
          show G X D A 3 Q 0 0 20 [(0, .ref o), (1, vi s), (2, vi i)] [vi 1, vi s] [(o, co 6 [vi N, vi P, .ref c, .ref l, .ref t, .ref n, .ref h, vi e, .ref b, .ref f]), (c, ca D 5 cap), (l, ca D 6 len), (t, ca D 30 lst), (n, ca D 12 nw), (h, ca D 60 hi), (b, ca D 1701 be), (f, ca D 6 fo117)]
          refine g_if_eq O dX6_popularCount_20 23 27 rfl rfl (by omega) (fun h => absurd h (by decide)) (fun _ => ?_)
          refine g_iconst O dX6_popularCount_23 24 rfl ?_
          refine g_goto O dX6_popularCount_24 28 rfl ?_
          refine g_iadd O dX6_popularCount_28 29 rfl ?_
          refine g_istore_n O dX6_popularCount_29 30 [(0, .ref o), (1, vi (s + 1)), (2, vi i)] rfl (by decide) rfl ?_
          refine g_iinc O dX6_popularCount_30 33 2 [(0, .ref o), (1, vi (s + 1)), (2, vi (i + 1))] rfl (by decide) rfl rfl ?_
          refine g_goto O dX6_popularCount_33 4 rfl ?_
          exact ih4 (i + 1) (s + 1) fo117 (by omega) (by rw [sm_s _ h1.1, ← h2]; first | rw [ind_t hb17] | rw [ind_f hb17]) (by omega)
        · skip
          have hb17 : ¬ (LAYS N P cap len lst i) := hb17
          have hu17 : (∀ kk, 0 ≤ kk → kk < N → fo117 kk = mcs N cap len lst i kk) := hu17
          show G X D A 3 Q 0 0 20 [(0, .ref o), (1, vi s), (2, vi i)] [vi 0, vi s] [(o, co 6 [vi N, vi P, .ref c, .ref l, .ref t, .ref n, .ref h, vi e, .ref b, .ref f]), (c, ca D 5 cap), (l, ca D 6 len), (t, ca D 30 lst), (n, ca D 12 nw), (h, ca D 60 hi), (b, ca D 1701 be), (f, ca D 6 fo117)]
          refine g_if_eq O dX6_popularCount_20 23 27 rfl rfl (by omega) (fun _ => ?_) (fun h => absurd h (by decide))
          refine g_iconst O dX6_popularCount_27 28 rfl ?_
          refine g_iadd O dX6_popularCount_28 29 rfl ?_
          refine g_istore_n O dX6_popularCount_29 30 [(0, .ref o), (1, vi (s + 0)), (2, vi i)] rfl (by decide) rfl ?_
          refine g_iinc O dX6_popularCount_30 33 2 [(0, .ref o), (1, vi (s + 0)), (2, vi (i + 1))] rfl (by decide) rfl rfl ?_
          refine g_goto O dX6_popularCount_33 4 rfl ?_
          exact ih4 (i + 1) (s + 0) fo117 (by omega) (by rw [sm_s _ h1.1, ← h2]; first | rw [ind_t hb17] | rw [ind_f hb17]) (by omega)
  exact lp4 1000 0 0 fo (by omega) (sm_0 _).symm (by omega)
theorem sX6_greatestPopularSize_6 : ∀ w ∈ wsX60, w ∈ wsX6_greatestPopularSize := by decide +kernel
theorem fX6_greatestPopularSize_7 : FK RX6 wsX6_greatestPopularSize 7 6 0 := ⟨RX6, TX6, 10, rfl, sX6_greatestPopularSize_6, by decide, List.mem_of_getElem? (i := 1) rfl⟩
set_option maxHeartbeats 4000000 in
set_option maxRecDepth 100000 in
theorem k_X6_greatestPopularSize (D : DD) (o c l t n h b f : Nat) (N P : Int) (cap len lst nw hi : Int → Int) (e : Int) (be fo : Int → Int) (hW : WI N P cap len lst) : Con (S := Int × (Int → Int)) D yX6_greatestPopularSize wsX6_greatestPopularSize ({ frames := 4, cells := 0, slots := 0, locals := 93 }) 0 0 [.ref o] [(o, co 6 [vi N, vi P, .ref c, .ref l, .ref t, .ref n, .ref h, vi e, .ref b, .ref f]), (c, ca D 5 cap), (l, ca D 6 len), (t, ca D 30 lst), (n, ca D 12 nw), (h, ca D 60 hi), (b, ca D 1701 be), (f, ca D 6 fo)] (fun u => some (vi u.1)) (fun u => GPS N P cap len lst (p2 N) u.1) (fun u => [(o, co 6 [vi N, vi P, .ref c, .ref l, .ref t, .ref n, .ref h, vi e, .ref b, .ref f]), (c, ca D 5 cap), (l, ca D 6 len), (t, ca D 30 lst), (n, ca D 12 nw), (h, ca D 60 hi), (b, ca D 1701 be), (f, ca D 6 u.2)]) := by
  refine Con.of (cc := cX6_greatestPopularSize) (nL := 3) (ret := (some .int)) rfl (by decide +kernel) (Nat.le_of_ble_eq_true rfl) ?_
  intro X A Q O hQ hin
  show G X D A 3 Q 0 0 0 [(0, .ref o)] [] [(o, co 6 [vi N, vi P, .ref c, .ref l, .ref t, .ref n, .ref h, vi e, .ref b, .ref f]), (c, ca D 5 cap), (l, ca D 6 len), (t, ca D 30 lst), (n, ca D 12 nw), (h, ca D 60 hi), (b, ca D 1701 be), (f, ca D 6 fo)]
  obtain ⟨hN, hcap, hlen, hlst, hdis⟩ := id hW
  have hp64 := p2_64 (k := N) (by omega) (by omega)
  refine g_bipush O dX6_greatestPopularSize_0 2 rfl (by decide) ?_
  refine g_istore_n O dX6_greatestPopularSize_2 3 [(0, .ref o), (1, vi (-104))] rfl (by decide) rfl ?_
  refine g_iconst O dX6_greatestPopularSize_3 4 rfl ?_
  refine g_istore_n O dX6_greatestPopularSize_4 5 [(0, .ref o), (1, vi (-104)), (2, vi 0)] rfl (by decide) rfl ?_
  have lp5 : ∀ (nn : Nat) (i : Int) (y : Int) (f1 : Int → Int), (0 ≤ i ∧ i ≤ p2 N) → (GPS N P cap len lst i y) → (p2 N - i < (nn : Int)) → G X D A 3 Q 0 0 5 [(0, .ref o), (1, vi y), (2, vi i)] [] [(o, co 6 [vi N, vi P, .ref c, .ref l, .ref t, .ref n, .ref h, vi e, .ref b, .ref f]), (c, ca D 5 cap), (l, ca D 6 len), (t, ca D 30 lst), (n, ca D 12 nw), (h, ca D 60 hi), (b, ca D 1701 be), (f, ca D 6 f1)] := by
    intro nn
    induction nn with
    | zero =>
      intro i y f1 h1 hg hm5
      exact absurd hm5 (by omega)
    | succ nn ih5 =>
      intro i y f1 h1 hg hm5
      refine g_iload_n O dX6_greatestPopularSize_5 6 2 rfl rfl ?_
      refine g_iconst O dX6_greatestPopularSize_6 7 rfl ?_
      refine g_aload_n O dX6_greatestPopularSize_7 8 0 rfl rfl ?_
      refine g_get O dX6_greatestPopularSize_8 11 rfl fX6_greatestPopularSize_7 0 rfl rfl ?_
      refine g_ishl O dX6_greatestPopularSize_11 12 rfl (by omega) ?_
      refine g_cv (y := p2 N) (Int.one_mul _) ?_
      refine g_icmp_ge O dX6_greatestPopularSize_12 15 42 rfl rfl (by omega) (fun h12 => ?_) (fun h12 => ?_)
      · skip
        refine g_iload_n O dX6_greatestPopularSize_42 43 1 rfl rfl ?_
        exact g_iret O hQ dX6_greatestPopularSize_43 (y, f1) rfl rfl ((by rw [show p2 N = i by omega]; exact hg)) ⟨by decide, by decide⟩
      · skip
        refine g_aload_n O dX6_greatestPopularSize_15 16 0 rfl rfl ?_
        refine g_iload_n O dX6_greatestPopularSize_16 17 2 rfl rfl ?_
        refine g_callV (As := [vi i]) (rest := []) (na := 1) O (k_X6_lays D o c l t n h b f N P cap len lst nw hi e be f1 i hW (by omega)) dX6_greatestPopularSize_17 gX6_greatestPopularSize_X6_lays rfl ⟨rfl, rfl⟩ (by decide +kernel) rfl (by decide) (by decide) rfl (Nat.le_of_ble_eq_true rfl) (q0 := 0) (ci := 6) rfl rfl [0, 1, 2, 3, 4, 5, 6, 7] (by decide) rfl (fun _ => rfl) (fun u => [(o, co 6 [vi N, vi P, .ref c, .ref l, .ref t, .ref n, .ref h, vi e, .ref b, .ref f]), (c, ca D 5 cap), (l, ca D 6 len), (t, ca D 30 lst), (n, ca D 12 nw), (h, ca D 60 hi), (b, ca D 1701 be), (f, ca D 6 u.2)]) (fun _ => rfl) 20 rfl (fun u17 hu17 => ?_)
        obtain ⟨bz17, fo117⟩ := u17
        obtain ⟨hz17, hu17⟩ := hu17
        rcases hz17 with ⟨rfl, hb17⟩ | ⟨rfl, hb17⟩
        · skip
          have hb17 : LAYS N P cap len lst i := hb17
          have hu17 : (∀ kk, 0 ≤ kk → kk < N → fo117 kk = mcs N cap len lst i kk) := hu17
          show G X D A 3 Q 0 0 20 [(0, .ref o), (1, vi y), (2, vi i)] [vi 1] [(o, co 6 [vi N, vi P, .ref c, .ref l, .ref t, .ref n, .ref h, vi e, .ref b, .ref f]), (c, ca D 5 cap), (l, ca D 6 len), (t, ca D 30 lst), (n, ca D 12 nw), (h, ca D 60 hi), (b, ca D 1701 be), (f, ca D 6 fo117)]
          refine g_if_eq O dX6_greatestPopularSize_20 23 36 rfl rfl (by omega) (fun h => absurd h (by decide)) (fun _ => ?_)
          refine g_aload_n O dX6_greatestPopularSize_23 24 0 rfl rfl ?_
          refine g_callV (As := []) (rest := []) (na := 0) O (k_X6_sizeOf D o c l t n h b f N P cap len lst nw hi e be fo117 hW (fun kk q1 q2 => by rw [hu17 kk q1 q2]; have := mcs_bd hW (d := i) q1 (show kk < 6 by omega); omega)) dX6_greatestPopularSize_24 gX6_greatestPopularSize_X6_sizeOf rfl ⟨rfl, rfl⟩ (by decide +kernel) rfl (by decide) (by decide) rfl (Nat.le_of_ble_eq_true rfl) (q0 := 0) (ci := 6) rfl rfl [0, 1, 2, 3, 4, 5, 6, 7] (by decide) rfl (fun _ => rfl) (fun _ => [(o, co 6 [vi N, vi P, .ref c, .ref l, .ref t, .ref n, .ref h, vi e, .ref b, .ref f]), (c, ca D 5 cap), (l, ca D 6 len), (t, ca D 30 lst), (n, ca D 12 nw), (h, ca D 60 hi), (b, ca D 1701 be), (f, ca D 6 fo117)]) (fun _ => rfl) 27 rfl (fun _ _ => ?_)
          show G X D A 3 Q 0 0 27 [(0, .ref o), (1, vi y), (2, vi i)] [vi (sm (pls fo117) N)] [(o, co 6 [vi N, vi P, .ref c, .ref l, .ref t, .ref n, .ref h, vi e, .ref b, .ref f]), (c, ca D 5 cap), (l, ca D 6 len), (t, ca D 30 lst), (n, ca D 12 nw), (h, ca D 60 hi), (b, ca D 1701 be), (f, ca D 6 fo117)]
          have hsb := sm_bd (pls_bd (mcs N cap len lst i)) (i := N) (by omega)
          have hgb := hg.1
          refine g_cv (y := sm (pls (mcs N cap len lst i)) N) (sm_congr (fun a a0 a1 => by unfold pls; rw [hu17 a a0 a1])) ?_
          refine g_iload_n O dX6_greatestPopularSize_27 28 1 rfl rfl ?_
          refine g_icmp_le O dX6_greatestPopularSize_28 31 36 rfl rfl (by omega) (fun h28 => ?_) (fun h28 => ?_)
          · skip
            refine g_iinc O dX6_greatestPopularSize_36 39 2 [(0, .ref o), (1, vi y), (2, vi (i + 1))] rfl (by decide) rfl rfl ?_
            refine g_goto O dX6_greatestPopularSize_39 5 rfl ?_
            exact ih5 (i + 1) y fo117 (by omega) (by first | exact GPS_t h1.1 (by omega) hg hb17 h28 | exact GPS_f hg (Or.inl hb17) | exact GPS_f hg (Or.inr h28)) (by omega)
          · skip
            refine g_aload_n O dX6_greatestPopularSize_31 32 0 rfl rfl ?_
            refine g_callV (As := []) (rest := []) (na := 0) O (k_X6_sizeOf D o c l t n h b f N P cap len lst nw hi e be fo117 hW (fun kk q1 q2 => by rw [hu17 kk q1 q2]; have := mcs_bd hW (d := i) q1 (show kk < 6 by omega); omega)) dX6_greatestPopularSize_32 gX6_greatestPopularSize_X6_sizeOf rfl ⟨rfl, rfl⟩ (by decide +kernel) rfl (by decide) (by decide) rfl (Nat.le_of_ble_eq_true rfl) (q0 := 0) (ci := 6) rfl rfl [0, 1, 2, 3, 4, 5, 6, 7] (by decide) rfl (fun _ => rfl) (fun _ => [(o, co 6 [vi N, vi P, .ref c, .ref l, .ref t, .ref n, .ref h, vi e, .ref b, .ref f]), (c, ca D 5 cap), (l, ca D 6 len), (t, ca D 30 lst), (n, ca D 12 nw), (h, ca D 60 hi), (b, ca D 1701 be), (f, ca D 6 fo117)]) (fun _ => rfl) 35 rfl (fun _ _ => ?_)
            show G X D A 3 Q 0 0 35 [(0, .ref o), (1, vi y), (2, vi i)] [vi (sm (pls fo117) N)] [(o, co 6 [vi N, vi P, .ref c, .ref l, .ref t, .ref n, .ref h, vi e, .ref b, .ref f]), (c, ca D 5 cap), (l, ca D 6 len), (t, ca D 30 lst), (n, ca D 12 nw), (h, ca D 60 hi), (b, ca D 1701 be), (f, ca D 6 fo117)]
            refine g_cv (y := sm (pls (mcs N cap len lst i)) N) (sm_congr (fun a a0 a1 => by unfold pls; rw [hu17 a a0 a1])) ?_
            refine g_istore_n O dX6_greatestPopularSize_35 36 [(0, .ref o), (1, vi (sm (pls (mcs N cap len lst i)) N)), (2, vi i)] rfl (by decide) rfl ?_
            refine g_iinc O dX6_greatestPopularSize_36 39 2 [(0, .ref o), (1, vi (sm (pls (mcs N cap len lst i)) N)), (2, vi (i + 1))] rfl (by decide) rfl rfl ?_
            refine g_goto O dX6_greatestPopularSize_39 5 rfl ?_
            exact ih5 (i + 1) (sm (pls (mcs N cap len lst i)) N) fo117 (by omega) (by first | exact GPS_t h1.1 (by omega) hg hb17 h28 | exact GPS_f hg (Or.inl hb17) | exact GPS_f hg (Or.inr h28)) (by omega)
        · skip
          have hb17 : ¬ (LAYS N P cap len lst i) := hb17
          have hu17 : (∀ kk, 0 ≤ kk → kk < N → fo117 kk = mcs N cap len lst i kk) := hu17
          show G X D A 3 Q 0 0 20 [(0, .ref o), (1, vi y), (2, vi i)] [vi 0] [(o, co 6 [vi N, vi P, .ref c, .ref l, .ref t, .ref n, .ref h, vi e, .ref b, .ref f]), (c, ca D 5 cap), (l, ca D 6 len), (t, ca D 30 lst), (n, ca D 12 nw), (h, ca D 60 hi), (b, ca D 1701 be), (f, ca D 6 fo117)]
          refine g_if_eq O dX6_greatestPopularSize_20 23 36 rfl rfl (by omega) (fun _ => ?_) (fun h => absurd h (by decide))
          refine g_iinc O dX6_greatestPopularSize_36 39 2 [(0, .ref o), (1, vi y), (2, vi (i + 1))] rfl (by decide) rfl rfl ?_
          refine g_goto O dX6_greatestPopularSize_39 5 rfl ?_
          exact ih5 (i + 1) y fo117 (by omega) (by first | exact GPS_t h1.1 (by omega) hg hb17 h28 | exact GPS_f hg (Or.inl hb17) | exact GPS_f hg (Or.inr h28)) (by omega)
  exact lp5 1000 0 (-104) fo (by omega) (GPS_0 _ _ _ _ _) (by omega)
theorem sX6_adoptPopular_6 : ∀ w ∈ wsX60, w ∈ wsX6_adoptPopular := by decide +kernel
theorem fX6_adoptPopular_7 : FK RX6 wsX6_adoptPopular 7 6 0 := ⟨RX6, TX6, 10, rfl, sX6_adoptPopular_6, by decide, List.mem_of_getElem? (i := 2) rfl⟩
set_option maxHeartbeats 4000000 in
set_option maxRecDepth 100000 in
theorem k_X6_adoptPopular (D : DD) (o c l t n h b f : Nat) (N P : Int) (cap len lst nw hi : Int → Int) (e : Int) (be fo : Int → Int) (ix : Int) (hW : WI N P cap len lst) (he : 0 ≤ e ∧ e ≤ 5) (hix : -2147483648 ≤ ix ∧ ix < 2147483648) : Con (S := Int × (Int → Int) × (Int → Int) × Int × (Int → Int)) D yX6_adoptPopular wsX6_adoptPopular ({ frames := 5, cells := 0, slots := 0, locals := 115 }) 0 0 [.ref o, vi ix] [(o, co 6 [vi N, vi P, .ref c, .ref l, .ref t, .ref n, .ref h, vi e, .ref b, .ref f]), (c, ca D 5 cap), (l, ca D 6 len), (t, ca D 30 lst), (n, ca D 12 nw), (h, ca D 60 hi), (b, ca D 1701 be), (f, ca D 6 fo)] (fun u => some (vi u.1)) (fun u => (ix < 0 ∧ u.1 = -101 ∧ u.2.1 = nw ∧ u.2.2.1 = hi ∧ u.2.2.2.1 = e) ∨ (0 ≤ ix ∧ sm (fun d => ind (LAYS N P cap len lst d)) (p2 N) ≤ ix ∧ u.1 = -104 ∧ u.2.1 = nw ∧ u.2.2.1 = hi ∧ u.2.2.2.1 = e) ∨ ((0 ≤ ix ∧ ix < sm (fun d => ind (LAYS N P cap len lst d)) (p2 N)) ∧ ∃ (t : Int → Int) (w : Int), t (-1) = -1 ∧ (∀ j, 0 ≤ j → j ≤ ix → NXT N P cap len lst (p2 N) (t (j - 1)) (t j)) ∧ (0 ≤ w ∧ w < p2 N) ∧ (t ix ≠ 99999 → LAYS N P cap len lst w ∧ mco N cap len lst w = t ix) ∧ (LAYS N P cap len lst w → u.1 = sm (pls (mcs N cap len lst w)) N ∧ (∀ kk, 0 ≤ kk → kk < N → u.2.2.2.2 kk = mcs N cap len lst w kk) ∧ u.2.1 = tk N u.2.2.2.2 nw ∧ u.2.2.1 = edh e nw hi ∧ u.2.2.2.1 = hpc e))) (fun u => [(o, co 6 [vi N, vi P, .ref c, .ref l, .ref t, .ref n, .ref h, vi u.2.2.2.1, .ref b, .ref f]), (c, ca D 5 cap), (l, ca D 6 len), (t, ca D 30 lst), (n, ca D 12 u.2.1), (h, ca D 60 u.2.2.1), (b, ca D 1701 be), (f, ca D 6 u.2.2.2.2)]) := by
  refine Con.of (cc := cX6_adoptPopular) (nL := 7) (ret := (some .int)) rfl (by decide +kernel) (Nat.le_of_ble_eq_true rfl) ?_
  intro X A Q O hQ hin
  show G X D A 7 Q 0 0 0 [(0, .ref o), (1, vi ix)] [] [(o, co 6 [vi N, vi P, .ref c, .ref l, .ref t, .ref n, .ref h, vi e, .ref b, .ref f]), (c, ca D 5 cap), (l, ca D 6 len), (t, ca D 30 lst), (n, ca D 12 nw), (h, ca D 60 hi), (b, ca D 1701 be), (f, ca D 6 fo)]
  obtain ⟨hN, hcap, hlen, hlst, hdis⟩ := id hW
  have hp64 := p2_64 (k := N) (by omega) (by omega)
  have hcb := sm_bd (g := fun d => ind (LAYS N P cap len lst d)) (fun k => ind_bd _) (i := p2 N) (by omega)
  refine g_iload_n O dX6_adoptPopular_0 1 1 rfl rfl ?_
  refine g_if_ge O dX6_adoptPopular_1 4 7 rfl rfl (by omega) (fun h1 => ?_) (fun h1 => ?_)
  · skip
    refine g_iload_n O dX6_adoptPopular_7 8 1 rfl rfl ?_
    refine g_aload_n O dX6_adoptPopular_8 9 0 rfl rfl ?_
    refine g_callV (As := []) (rest := [vi ix]) (na := 0) O (k_X6_popularCount D o c l t n h b f N P cap len lst nw hi e be fo hW) dX6_adoptPopular_9 gX6_adoptPopular_X6_popularCount rfl ⟨rfl, rfl⟩ (by decide +kernel) rfl (by decide) (by decide) rfl (Nat.le_of_ble_eq_true rfl) (q0 := 0) (ci := 6) rfl rfl [0, 1, 2, 3, 4, 5, 6, 7] (by decide) rfl (fun _ => rfl) (fun u => [(o, co 6 [vi N, vi P, .ref c, .ref l, .ref t, .ref n, .ref h, vi e, .ref b, .ref f]), (c, ca D 5 cap), (l, ca D 6 len), (t, ca D 30 lst), (n, ca D 12 nw), (h, ca D 60 hi), (b, ca D 1701 be), (f, ca D 6 u)]) (fun _ => rfl) 12 rfl (fun u9 hu9 => ?_)
    obtain ⟨fo19, rfl⟩ : ∃ z, z = u9 := ⟨_, rfl⟩
    show G X D A 7 Q 0 0 12 [(0, .ref o), (1, vi ix)] [vi (sm (fun d => ind (LAYS N P cap len lst d)) (p2 N)), vi ix] [(o, co 6 [vi N, vi P, .ref c, .ref l, .ref t, .ref n, .ref h, vi e, .ref b, .ref f]), (c, ca D 5 cap), (l, ca D 6 len), (t, ca D 30 lst), (n, ca D 12 nw), (h, ca D 60 hi), (b, ca D 1701 be), (f, ca D 6 fo19)]
    refine g_icmp_lt O dX6_adoptPopular_12 15 18 rfl rfl (by omega) (fun h12 => ?_) (fun h12 => ?_)
    · skip
      refine g_iconst O dX6_adoptPopular_18 19 rfl ?_
      refine g_istore_n O dX6_adoptPopular_19 20 [(0, .ref o), (1, vi ix), (2, vi (-1))] rfl (by decide) rfl ?_
      refine g_iconst O dX6_adoptPopular_20 21 rfl ?_
      refine g_istore_n O dX6_adoptPopular_21 22 [(0, .ref o), (1, vi ix), (2, vi (-1)), (3, vi 0)] rfl (by decide) rfl ?_
      refine g_iconst O dX6_adoptPopular_22 23 rfl ?_
      refine g_istore O dX6_adoptPopular_23 25 [(0, .ref o), (1, vi ix), (2, vi (-1)), (3, vi 0), (4, vi 0)] rfl (by decide) rfl ?_
      have lp25 : ∀ (nn : Nat) (k : Int) (last : Int) (w : Int) (f1 : Int → Int) (t1 : Int → Int), (0 ≤ k ∧ k ≤ ix + 1) → (∀ j, 0 ≤ j → j < k → NXT N P cap len lst (p2 N) (t1 (j - 1)) (t1 j)) → (t1 (-1) = -1) → (last = t1 (k - 1)) → (-1 ≤ last ∧ last ≤ 99999) → (0 ≤ w ∧ w < p2 N) → (0 < k → last ≠ 99999 → LAYS N P cap len lst w ∧ mco N cap len lst w = last) → (ix + 1 - k < (nn : Int)) → G X D A 7 Q 0 0 25 [(0, .ref o), (1, vi ix), (2, vi last), (3, vi w), (4, vi k)] [] [(o, co 6 [vi N, vi P, .ref c, .ref l, .ref t, .ref n, .ref h, vi e, .ref b, .ref f]), (c, ca D 5 cap), (l, ca D 6 len), (t, ca D 30 lst), (n, ca D 12 nw), (h, ca D 60 hi), (b, ca D 1701 be), (f, ca D 6 f1)] := by
        intro nn
        induction nn with
        | zero =>
          intro k last w f1 t1 h1 hT ht0 hl hlb hwb hw hm25
          exact absurd hm25 (by omega)
        | succ nn ih25 =>
          intro k last w f1 t1 h1 hT ht0 hl hlb hwb hw hm25
          refine g_iload O dX6_adoptPopular_25 27 4 rfl rfl ?_
          refine g_iload_n O dX6_adoptPopular_27 28 1 rfl rfl ?_
          refine g_icmp_gt O dX6_adoptPopular_28 31 99 rfl rfl (by omega) (fun h28 => ?_) (fun h28 => ?_)
          · skip
            have hkx : k - 1 = ix := by omega
            refine g_aload_n O dX6_adoptPopular_99 100 0 rfl rfl ?_
            refine g_iload_n O dX6_adoptPopular_100 101 3 rfl rfl ?_
            refine g_callV (As := [vi w]) (rest := []) (na := 1) O (k_X6_lays D o c l t n h b f N P cap len lst nw hi e be f1 w hW (by omega)) dX6_adoptPopular_101 gX6_adoptPopular_X6_lays rfl ⟨rfl, rfl⟩ (by decide +kernel) rfl (by decide) (by decide) rfl (Nat.le_of_ble_eq_true rfl) (q0 := 0) (ci := 6) rfl rfl [0, 1, 2, 3, 4, 5, 6, 7] (by decide) rfl (fun _ => rfl) (fun u => [(o, co 6 [vi N, vi P, .ref c, .ref l, .ref t, .ref n, .ref h, vi e, .ref b, .ref f]), (c, ca D 5 cap), (l, ca D 6 len), (t, ca D 30 lst), (n, ca D 12 nw), (h, ca D 60 hi), (b, ca D 1701 be), (f, ca D 6 u.2)]) (fun _ => rfl) 104 rfl (fun u101 hu101 => ?_)
            obtain ⟨bz101, fo1101⟩ := u101
            obtain ⟨hz101, hu101⟩ := hu101
            rcases hz101 with ⟨rfl, hb101⟩ | ⟨rfl, hb101⟩
            · skip
              have hb101 : LAYS N P cap len lst w := hb101
              have hu101 : (∀ kk, 0 ≤ kk → kk < N → fo1101 kk = mcs N cap len lst w kk) := hu101
              show G X D A 7 Q 0 0 104 [(0, .ref o), (1, vi ix), (2, vi last), (3, vi w), (4, vi k)] [vi 1] [(o, co 6 [vi N, vi P, .ref c, .ref l, .ref t, .ref n, .ref h, vi e, .ref b, .ref f]), (c, ca D 5 cap), (l, ca D 6 len), (t, ca D 30 lst), (n, ca D 12 nw), (h, ca D 60 hi), (b, ca D 1701 be), (f, ca D 6 fo1101)]
              refine g_if_eq O dX6_adoptPopular_104 107 111 rfl rfl (by omega) (fun h => absurd h (by decide)) (fun _ => ?_)
              refine g_aload_n O dX6_adoptPopular_107 108 0 rfl rfl ?_
              refine g_callV (As := []) (rest := []) (na := 0) O (k_X6_takes D o c l t n h b f N P cap len lst nw hi e be fo1101 hW (by omega)) dX6_adoptPopular_108 gX6_adoptPopular_X6_takes rfl ⟨rfl, rfl⟩ (by decide +kernel) rfl (by decide) (by decide) rfl (Nat.le_of_ble_eq_true rfl) (q0 := 0) (ci := 6) rfl rfl [0, 1, 2, 3, 4, 5, 6, 7] (by decide) rfl (fun _ => rfl) (fun _ => [(o, co 6 [vi N, vi P, .ref c, .ref l, .ref t, .ref n, .ref h, vi (hpc e), .ref b, .ref f]), (c, ca D 5 cap), (l, ca D 6 len), (t, ca D 30 lst), (n, ca D 12 (tk N fo1101 nw)), (h, ca D 60 (edh e nw hi)), (b, ca D 1701 be), (f, ca D 6 fo1101)]) (fun _ => rfl) 111 rfl (fun _ _ => ?_)
              show G X D A 7 Q 0 0 111 [(0, .ref o), (1, vi ix), (2, vi last), (3, vi w), (4, vi k)] [] [(o, co 6 [vi N, vi P, .ref c, .ref l, .ref t, .ref n, .ref h, vi (hpc e), .ref b, .ref f]), (c, ca D 5 cap), (l, ca D 6 len), (t, ca D 30 lst), (n, ca D 12 (tk N fo1101 nw)), (h, ca D 60 (edh e nw hi)), (b, ca D 1701 be), (f, ca D 6 fo1101)]
              have hfow : ∀ kk, 0 ≤ kk → kk < N → -1 ≤ fo1101 kk ∧ fo1101 kk < 5 := (fun kk q1 q2 => by rw [hu101 kk q1 q2]; have := mcs_bd hW (d := w) q1 (show kk < 6 by omega); omega)
              have hsz : sm (pls fo1101) N = sm (pls (mcs N cap len lst w)) N := sm_congr (fun a a0 a1 => by unfold pls; rw [hu101 a a0 a1])
              refine g_aload_n O dX6_adoptPopular_111 112 0 rfl rfl ?_
              refine g_callV (As := []) (rest := []) (na := 0) O (k_X6_sizeOf D o c l t n h b f N P cap len lst (tk N fo1101 nw) (edh e nw hi) (hpc e) be fo1101 hW hfow) dX6_adoptPopular_112 gX6_adoptPopular_X6_sizeOf rfl ⟨rfl, rfl⟩ (by decide +kernel) rfl (by decide) (by decide) rfl (Nat.le_of_ble_eq_true rfl) (q0 := 0) (ci := 6) rfl rfl [0, 1, 2, 3, 4, 5, 6, 7] (by decide) rfl (fun _ => rfl) (fun _ => [(o, co 6 [vi N, vi P, .ref c, .ref l, .ref t, .ref n, .ref h, vi (hpc e), .ref b, .ref f]), (c, ca D 5 cap), (l, ca D 6 len), (t, ca D 30 lst), (n, ca D 12 (tk N fo1101 nw)), (h, ca D 60 (edh e nw hi)), (b, ca D 1701 be), (f, ca D 6 fo1101)]) (fun _ => rfl) 115 rfl (fun _ _ => ?_)
              show G X D A 7 Q 0 0 115 [(0, .ref o), (1, vi ix), (2, vi last), (3, vi w), (4, vi k)] [vi (sm (pls fo1101) N)] [(o, co 6 [vi N, vi P, .ref c, .ref l, .ref t, .ref n, .ref h, vi (hpc e), .ref b, .ref f]), (c, ca D 5 cap), (l, ca D 6 len), (t, ca D 30 lst), (n, ca D 12 (tk N fo1101 nw)), (h, ca D 60 (edh e nw hi)), (b, ca D 1701 be), (f, ca D 6 fo1101)]
              exact g_iret O hQ dX6_adoptPopular_115 (sm (pls fo1101) N, tk N fo1101 nw, edh e nw hi, hpc e, fo1101) rfl rfl (Or.inr (Or.inr ⟨by omega, t1, w, ht0, fun j j0 j1 => hT j j0 (by omega), hwb, fun q => by have h0 := hw (by omega) (by rw [hl, hkx]; exact q); rw [hl, hkx] at h0; exact h0, fun q => by first | exact absurd q hb101 | exact ⟨hsz, hu101, rfl, rfl, rfl⟩⟩)) ⟨by decide, by decide⟩
            · skip
              have hb101 : ¬ (LAYS N P cap len lst w) := hb101
              have hu101 : (∀ kk, 0 ≤ kk → kk < N → fo1101 kk = mcs N cap len lst w kk) := hu101
              show G X D A 7 Q 0 0 104 [(0, .ref o), (1, vi ix), (2, vi last), (3, vi w), (4, vi k)] [vi 0] [(o, co 6 [vi N, vi P, .ref c, .ref l, .ref t, .ref n, .ref h, vi e, .ref b, .ref f]), (c, ca D 5 cap), (l, ca D 6 len), (t, ca D 30 lst), (n, ca D 12 nw), (h, ca D 60 hi), (b, ca D 1701 be), (f, ca D 6 fo1101)]
              refine g_if_eq O dX6_adoptPopular_104 107 111 rfl rfl (by omega) (fun _ => ?_) (fun h => absurd h (by decide))
              have hfow : ∀ kk, 0 ≤ kk → kk < N → -1 ≤ fo1101 kk ∧ fo1101 kk < 5 := (fun kk q1 q2 => by rw [hu101 kk q1 q2]; have := mcs_bd hW (d := w) q1 (show kk < 6 by omega); omega)
              have hsz : sm (pls fo1101) N = sm (pls (mcs N cap len lst w)) N := sm_congr (fun a a0 a1 => by unfold pls; rw [hu101 a a0 a1])
              refine g_aload_n O dX6_adoptPopular_111 112 0 rfl rfl ?_
              refine g_callV (As := []) (rest := []) (na := 0) O (k_X6_sizeOf D o c l t n h b f N P cap len lst nw hi e be fo1101 hW hfow) dX6_adoptPopular_112 gX6_adoptPopular_X6_sizeOf rfl ⟨rfl, rfl⟩ (by decide +kernel) rfl (by decide) (by decide) rfl (Nat.le_of_ble_eq_true rfl) (q0 := 0) (ci := 6) rfl rfl [0, 1, 2, 3, 4, 5, 6, 7] (by decide) rfl (fun _ => rfl) (fun _ => [(o, co 6 [vi N, vi P, .ref c, .ref l, .ref t, .ref n, .ref h, vi e, .ref b, .ref f]), (c, ca D 5 cap), (l, ca D 6 len), (t, ca D 30 lst), (n, ca D 12 nw), (h, ca D 60 hi), (b, ca D 1701 be), (f, ca D 6 fo1101)]) (fun _ => rfl) 115 rfl (fun _ _ => ?_)
              show G X D A 7 Q 0 0 115 [(0, .ref o), (1, vi ix), (2, vi last), (3, vi w), (4, vi k)] [vi (sm (pls fo1101) N)] [(o, co 6 [vi N, vi P, .ref c, .ref l, .ref t, .ref n, .ref h, vi e, .ref b, .ref f]), (c, ca D 5 cap), (l, ca D 6 len), (t, ca D 30 lst), (n, ca D 12 nw), (h, ca D 60 hi), (b, ca D 1701 be), (f, ca D 6 fo1101)]
              exact g_iret O hQ dX6_adoptPopular_115 (sm (pls fo1101) N, nw, hi, e, fo1101) rfl rfl (Or.inr (Or.inr ⟨by omega, t1, w, ht0, fun j j0 j1 => hT j j0 (by omega), hwb, fun q => by have h0 := hw (by omega) (by rw [hl, hkx]; exact q); rw [hl, hkx] at h0; exact h0, fun q => by first | exact absurd q hb101 | exact ⟨hsz, hu101, rfl, rfl, rfl⟩⟩)) ⟨by decide, by decide⟩
          · skip
            refine g_ldc O dX6_adoptPopular_31 33 rfl 99999 (List.mem_of_getElem? (i := 1) rfl) ?_
            refine g_istore O dX6_adoptPopular_33 35 [(0, .ref o), (1, vi ix), (2, vi last), (3, vi w), (4, vi k), (5, vi 99999)] rfl (by decide) rfl ?_
            refine g_iconst O dX6_adoptPopular_35 36 rfl ?_
            refine g_istore O dX6_adoptPopular_36 38 [(0, .ref o), (1, vi ix), (2, vi last), (3, vi w), (4, vi k), (5, vi 99999), (6, vi 0)] rfl (by decide) rfl ?_
            have lp38 : ∀ (nn : Nat) (x : Int) (y : Int) (w2 : Int) (f2 : Int → Int), (0 ≤ x ∧ x ≤ p2 N) → (NXT N P cap len lst x last y) → (0 ≤ y ∧ y ≤ 99999) → (0 ≤ w2 ∧ w2 < p2 N) → (y ≠ 99999 → LAYS N P cap len lst w2 ∧ mco N cap len lst w2 = y) → (p2 N - x < (nn : Int)) → G X D A 7 Q 0 0 38 [(0, .ref o), (1, vi ix), (2, vi last), (3, vi w2), (4, vi k), (5, vi y), (6, vi x)] [] [(o, co 6 [vi N, vi P, .ref c, .ref l, .ref t, .ref n, .ref h, vi e, .ref b, .ref f]), (c, ca D 5 cap), (l, ca D 6 len), (t, ca D 30 lst), (n, ca D 12 nw), (h, ca D 60 hi), (b, ca D 1701 be), (f, ca D 6 f2)] := by
              intro nn
              induction nn with
              | zero =>
                intro x y w2 f2 h2 hX hyb hwb2 hw2 hm38
                exact absurd hm38 (by omega)
              | succ nn ih38 =>
                intro x y w2 f2 h2 hX hyb hwb2 hw2 hm38
                refine g_iload O dX6_adoptPopular_38 40 6 rfl rfl ?_
                refine g_iconst O dX6_adoptPopular_40 41 rfl ?_
                refine g_aload_n O dX6_adoptPopular_41 42 0 rfl rfl ?_
                refine g_get O dX6_adoptPopular_42 45 rfl fX6_adoptPopular_7 0 rfl rfl ?_
                refine g_ishl O dX6_adoptPopular_45 46 rfl (by omega) ?_
                refine g_cv (y := p2 N) (Int.one_mul _) ?_
                refine g_icmp_ge O dX6_adoptPopular_46 49 90 rfl rfl (by omega) (fun h46 => ?_) (fun h46 => ?_)
                · skip
                  refine g_iload O dX6_adoptPopular_90 92 5 rfl rfl ?_
                  refine g_istore_n O dX6_adoptPopular_92 93 [(0, .ref o), (1, vi ix), (2, vi y), (3, vi w2), (4, vi k), (5, vi y), (6, vi x)] rfl (by decide) rfl ?_
                  refine g_iinc O dX6_adoptPopular_93 96 4 [(0, .ref o), (1, vi ix), (2, vi y), (3, vi w2), (4, vi (k + 1)), (5, vi y), (6, vi x)] rfl (by decide) rfl rfl ?_
                  refine g_goto O dX6_adoptPopular_96 25 rfl ?_
                  refine g_loc (L' := [(0, .ref o), (1, vi ix), (2, vi y), (3, vi w2), (4, vi (k + 1))]) [0, 1, 2, 3, 4] rfl ?_
                  exact ih25 (k + 1) y w2 f2 (up t1 k y) (by omega) (fun j j0 j1 => by by_cases ej : j = k; rw [ej, up_s, up_n (by omega), ← hl]; rw [show p2 N = x by omega]; exact hX; rw [up_n (by omega), up_n ej]; exact hT j j0 (by omega)) (by rw [up_n (by omega)]; exact ht0) (by rw [show k + 1 - 1 = k by omega, up_s]) (by omega) (by omega) (fun _ q => hw2 q) (by omega)
                · skip
                  refine g_aload_n O dX6_adoptPopular_49 50 0 rfl rfl ?_
                  refine g_iload O dX6_adoptPopular_50 52 6 rfl rfl ?_
                  refine g_callV (As := [vi x]) (rest := []) (na := 1) O (k_X6_lays D o c l t n h b f N P cap len lst nw hi e be f2 x hW (by omega)) dX6_adoptPopular_52 gX6_adoptPopular_X6_lays rfl ⟨rfl, rfl⟩ (by decide +kernel) rfl (by decide) (by decide) rfl (Nat.le_of_ble_eq_true rfl) (q0 := 0) (ci := 6) rfl rfl [0, 1, 2, 3, 4, 5, 6, 7] (by decide) rfl (fun _ => rfl) (fun u => [(o, co 6 [vi N, vi P, .ref c, .ref l, .ref t, .ref n, .ref h, vi e, .ref b, .ref f]), (c, ca D 5 cap), (l, ca D 6 len), (t, ca D 30 lst), (n, ca D 12 nw), (h, ca D 60 hi), (b, ca D 1701 be), (f, ca D 6 u.2)]) (fun _ => rfl) 55 rfl (fun u52 hu52 => ?_)
                  obtain ⟨bz52, fo152⟩ := u52
                  obtain ⟨hz52, hu52⟩ := hu52
                  rcases hz52 with ⟨rfl, hb52⟩ | ⟨rfl, hb52⟩
                  · skip
                    have hb52 : LAYS N P cap len lst x := hb52
                    have hu52 : (∀ kk, 0 ≤ kk → kk < N → fo152 kk = mcs N cap len lst x kk) := hu52
                    show G X D A 7 Q 0 0 55 [(0, .ref o), (1, vi ix), (2, vi last), (3, vi w2), (4, vi k), (5, vi y), (6, vi x)] [vi 1] [(o, co 6 [vi N, vi P, .ref c, .ref l, .ref t, .ref n, .ref h, vi e, .ref b, .ref f]), (c, ca D 5 cap), (l, ca D 6 len), (t, ca D 30 lst), (n, ca D 12 nw), (h, ca D 60 hi), (b, ca D 1701 be), (f, ca D 6 fo152)]
                    refine g_if_eq O dX6_adoptPopular_55 58 84 rfl rfl (by omega) (fun h => absurd h (by decide)) (fun _ => ?_)
                    have hmb := mco_bd hW x
                    refine g_aload_n O dX6_adoptPopular_58 59 0 rfl rfl ?_
                    refine g_callV (As := []) (rest := []) (na := 0) O (k_X6_code D o c l t n h b f N P cap len lst nw hi e be fo152 hW (fun kk q1 q2 => by rw [hu52 kk q1 q2]; have := mcs_bd hW (d := x) q1 (show kk < 6 by omega); omega)) dX6_adoptPopular_59 gX6_adoptPopular_X6_code rfl ⟨rfl, rfl⟩ (by decide +kernel) rfl (by decide) (by decide) rfl (Nat.le_of_ble_eq_true rfl) (q0 := 0) (ci := 6) rfl rfl [0, 1, 2, 3, 4, 5, 6, 7] (by decide) rfl (fun _ => rfl) (fun _ => [(o, co 6 [vi N, vi P, .ref c, .ref l, .ref t, .ref n, .ref h, vi e, .ref b, .ref f]), (c, ca D 5 cap), (l, ca D 6 len), (t, ca D 30 lst), (n, ca D 12 nw), (h, ca D 60 hi), (b, ca D 1701 be), (f, ca D 6 fo152)]) (fun _ => rfl) 62 rfl (fun _ _ => ?_)
                    show G X D A 7 Q 0 0 62 [(0, .ref o), (1, vi ix), (2, vi last), (3, vi w2), (4, vi k), (5, vi y), (6, vi x)] [vi (cdr fo152 N.toNat)] [(o, co 6 [vi N, vi P, .ref c, .ref l, .ref t, .ref n, .ref h, vi e, .ref b, .ref f]), (c, ca D 5 cap), (l, ca D 6 len), (t, ca D 30 lst), (n, ca D 12 nw), (h, ca D 60 hi), (b, ca D 1701 be), (f, ca D 6 fo152)]
                    refine g_cv (y := mco N cap len lst x) (cdr_congr _ (fun a ha => hu52 (a : Int) (by omega) (by omega))) ?_
                    refine g_iload_n O dX6_adoptPopular_62 63 2 rfl rfl ?_
                    refine g_icmp_le O dX6_adoptPopular_63 66 84 rfl rfl (by omega) (fun h63 => ?_) (fun h63 => ?_)
                    · skip
                      refine g_iinc O dX6_adoptPopular_84 87 6 [(0, .ref o), (1, vi ix), (2, vi last), (3, vi w2), (4, vi k), (5, vi y), (6, vi (x + 1))] rfl (by decide) rfl rfl ?_
                      refine g_goto O dX6_adoptPopular_87 38 rfl ?_
                      exact ih38 (x + 1) y w2 fo152 (by omega) (by first | exact NXT_t h2.1 hX hb52 h63 h72 | exact NXT_f hX (Or.inl hb52) | exact NXT_f hX (Or.inr (Or.inl h63)) | exact NXT_f hX (Or.inr (Or.inr h72))) (by omega) (by omega) (by first | exact hw2 | exact fun _ => ⟨hb52, rfl⟩) (by omega)
                    · skip
                      refine g_aload_n O dX6_adoptPopular_66 67 0 rfl rfl ?_
                      refine g_callV (As := []) (rest := []) (na := 0) O (k_X6_code D o c l t n h b f N P cap len lst nw hi e be fo152 hW (fun kk q1 q2 => by rw [hu52 kk q1 q2]; have := mcs_bd hW (d := x) q1 (show kk < 6 by omega); omega)) dX6_adoptPopular_67 gX6_adoptPopular_X6_code rfl ⟨rfl, rfl⟩ (by decide +kernel) rfl (by decide) (by decide) rfl (Nat.le_of_ble_eq_true rfl) (q0 := 0) (ci := 6) rfl rfl [0, 1, 2, 3, 4, 5, 6, 7] (by decide) rfl (fun _ => rfl) (fun _ => [(o, co 6 [vi N, vi P, .ref c, .ref l, .ref t, .ref n, .ref h, vi e, .ref b, .ref f]), (c, ca D 5 cap), (l, ca D 6 len), (t, ca D 30 lst), (n, ca D 12 nw), (h, ca D 60 hi), (b, ca D 1701 be), (f, ca D 6 fo152)]) (fun _ => rfl) 70 rfl (fun _ _ => ?_)
                      show G X D A 7 Q 0 0 70 [(0, .ref o), (1, vi ix), (2, vi last), (3, vi w2), (4, vi k), (5, vi y), (6, vi x)] [vi (cdr fo152 N.toNat)] [(o, co 6 [vi N, vi P, .ref c, .ref l, .ref t, .ref n, .ref h, vi e, .ref b, .ref f]), (c, ca D 5 cap), (l, ca D 6 len), (t, ca D 30 lst), (n, ca D 12 nw), (h, ca D 60 hi), (b, ca D 1701 be), (f, ca D 6 fo152)]
                      refine g_cv (y := mco N cap len lst x) (cdr_congr _ (fun a ha => hu52 (a : Int) (by omega) (by omega))) ?_
                      refine g_iload O dX6_adoptPopular_70 72 5 rfl rfl ?_
                      refine g_icmp_ge O dX6_adoptPopular_72 75 84 rfl rfl (by omega) (fun h72 => ?_) (fun h72 => ?_)
                      · skip
                        refine g_iinc O dX6_adoptPopular_84 87 6 [(0, .ref o), (1, vi ix), (2, vi last), (3, vi w2), (4, vi k), (5, vi y), (6, vi (x + 1))] rfl (by decide) rfl rfl ?_
                        refine g_goto O dX6_adoptPopular_87 38 rfl ?_
                        exact ih38 (x + 1) y w2 fo152 (by omega) (by first | exact NXT_t h2.1 hX hb52 h63 h72 | exact NXT_f hX (Or.inl hb52) | exact NXT_f hX (Or.inr (Or.inl h63)) | exact NXT_f hX (Or.inr (Or.inr h72))) (by omega) (by omega) (by first | exact hw2 | exact fun _ => ⟨hb52, rfl⟩) (by omega)
                      · skip
                        refine g_aload_n O dX6_adoptPopular_75 76 0 rfl rfl ?_
                        refine g_callV (As := []) (rest := []) (na := 0) O (k_X6_code D o c l t n h b f N P cap len lst nw hi e be fo152 hW (fun kk q1 q2 => by rw [hu52 kk q1 q2]; have := mcs_bd hW (d := x) q1 (show kk < 6 by omega); omega)) dX6_adoptPopular_76 gX6_adoptPopular_X6_code rfl ⟨rfl, rfl⟩ (by decide +kernel) rfl (by decide) (by decide) rfl (Nat.le_of_ble_eq_true rfl) (q0 := 0) (ci := 6) rfl rfl [0, 1, 2, 3, 4, 5, 6, 7] (by decide) rfl (fun _ => rfl) (fun _ => [(o, co 6 [vi N, vi P, .ref c, .ref l, .ref t, .ref n, .ref h, vi e, .ref b, .ref f]), (c, ca D 5 cap), (l, ca D 6 len), (t, ca D 30 lst), (n, ca D 12 nw), (h, ca D 60 hi), (b, ca D 1701 be), (f, ca D 6 fo152)]) (fun _ => rfl) 79 rfl (fun _ _ => ?_)
                        show G X D A 7 Q 0 0 79 [(0, .ref o), (1, vi ix), (2, vi last), (3, vi w2), (4, vi k), (5, vi y), (6, vi x)] [vi (cdr fo152 N.toNat)] [(o, co 6 [vi N, vi P, .ref c, .ref l, .ref t, .ref n, .ref h, vi e, .ref b, .ref f]), (c, ca D 5 cap), (l, ca D 6 len), (t, ca D 30 lst), (n, ca D 12 nw), (h, ca D 60 hi), (b, ca D 1701 be), (f, ca D 6 fo152)]
                        refine g_cv (y := mco N cap len lst x) (cdr_congr _ (fun a ha => hu52 (a : Int) (by omega) (by omega))) ?_
                        refine g_istore O dX6_adoptPopular_79 81 [(0, .ref o), (1, vi ix), (2, vi last), (3, vi w2), (4, vi k), (5, vi (mco N cap len lst x)), (6, vi x)] rfl (by decide) rfl ?_
                        refine g_iload O dX6_adoptPopular_81 83 6 rfl rfl ?_
                        refine g_istore_n O dX6_adoptPopular_83 84 [(0, .ref o), (1, vi ix), (2, vi last), (3, vi x), (4, vi k), (5, vi (mco N cap len lst x)), (6, vi x)] rfl (by decide) rfl ?_
                        refine g_iinc O dX6_adoptPopular_84 87 6 [(0, .ref o), (1, vi ix), (2, vi last), (3, vi x), (4, vi k), (5, vi (mco N cap len lst x)), (6, vi (x + 1))] rfl (by decide) rfl rfl ?_
                        refine g_goto O dX6_adoptPopular_87 38 rfl ?_
                        exact ih38 (x + 1) (mco N cap len lst x) x fo152 (by omega) (by first | exact NXT_t h2.1 hX hb52 h63 h72 | exact NXT_f hX (Or.inl hb52) | exact NXT_f hX (Or.inr (Or.inl h63)) | exact NXT_f hX (Or.inr (Or.inr h72))) (by omega) (by omega) (by first | exact hw2 | exact fun _ => ⟨hb52, rfl⟩) (by omega)
                  · skip
                    have hb52 : ¬ (LAYS N P cap len lst x) := hb52
                    have hu52 : (∀ kk, 0 ≤ kk → kk < N → fo152 kk = mcs N cap len lst x kk) := hu52
                    show G X D A 7 Q 0 0 55 [(0, .ref o), (1, vi ix), (2, vi last), (3, vi w2), (4, vi k), (5, vi y), (6, vi x)] [vi 0] [(o, co 6 [vi N, vi P, .ref c, .ref l, .ref t, .ref n, .ref h, vi e, .ref b, .ref f]), (c, ca D 5 cap), (l, ca D 6 len), (t, ca D 30 lst), (n, ca D 12 nw), (h, ca D 60 hi), (b, ca D 1701 be), (f, ca D 6 fo152)]
                    refine g_if_eq O dX6_adoptPopular_55 58 84 rfl rfl (by omega) (fun _ => ?_) (fun h => absurd h (by decide))
                    refine g_iinc O dX6_adoptPopular_84 87 6 [(0, .ref o), (1, vi ix), (2, vi last), (3, vi w2), (4, vi k), (5, vi y), (6, vi (x + 1))] rfl (by decide) rfl rfl ?_
                    refine g_goto O dX6_adoptPopular_87 38 rfl ?_
                    exact ih38 (x + 1) y w2 fo152 (by omega) (by first | exact NXT_t h2.1 hX hb52 h63 h72 | exact NXT_f hX (Or.inl hb52) | exact NXT_f hX (Or.inr (Or.inl h63)) | exact NXT_f hX (Or.inr (Or.inr h72))) (by omega) (by omega) (by first | exact hw2 | exact fun _ => ⟨hb52, rfl⟩) (by omega)
            exact lp38 1000 0 99999 w f1 (by omega) (NXT_0 _ _ _ _ _ _) (by omega) (by omega) (fun q => absurd rfl q) (by omega)
      exact lp25 1000 0 (-1) 0 fo19 (fun _ => -1) (by omega) (fun j j0 j1 => absurd j1 (by omega)) rfl rfl (by omega) (by omega) (fun q => absurd q (by omega)) (by omega)
    · skip
      refine g_bipush O dX6_adoptPopular_15 17 rfl (by decide) ?_
      exact g_iret O hQ dX6_adoptPopular_17 (-104, nw, hi, e, fo19) rfl rfl (Or.inr (Or.inl ⟨by omega, by omega, rfl, rfl, rfl, rfl⟩)) ⟨by decide, by decide⟩
  · skip
    refine g_bipush O dX6_adoptPopular_4 6 rfl (by decide) ?_
    exact g_iret O hQ dX6_adoptPopular_6 (-101, nw, hi, e, fo) rfl rfl (Or.inl ⟨by omega, rfl, rfl, rfl, rfl⟩) ⟨by decide, by decide⟩
theorem sX6_adoptSerial_6 : ∀ w ∈ wsX60, w ∈ wsX6_adoptSerial := by decide +kernel
theorem fX6_adoptSerial_16 : FK RX6 wsX6_adoptSerial 16 6 2 := ⟨RX6, TX6, 10, rfl, sX6_adoptSerial_6, by decide, List.mem_of_getElem? (i := 5) rfl⟩
theorem fX6_adoptSerial_20 : FK RX6 wsX6_adoptSerial 20 6 3 := ⟨RX6, TX6, 10, rfl, sX6_adoptSerial_6, by decide, List.mem_of_getElem? (i := 3) rfl⟩
theorem fX6_adoptSerial_23 : FK RX6 wsX6_adoptSerial 23 6 4 := ⟨RX6, TX6, 10, rfl, sX6_adoptSerial_6, by decide, List.mem_of_getElem? (i := 4) rfl⟩
theorem fX6_adoptSerial_35 : FK RX6 wsX6_adoptSerial 35 6 9 := ⟨RX6, TX6, 10, rfl, sX6_adoptSerial_6, by decide, List.mem_of_getElem? (i := 2) rfl⟩
theorem fX6_adoptSerial_7 : FK RX6 wsX6_adoptSerial 7 6 0 := ⟨RX6, TX6, 10, rfl, sX6_adoptSerial_6, by decide, List.mem_of_getElem? (i := 1) rfl⟩
set_option maxHeartbeats 4000000 in
set_option maxRecDepth 100000 in
theorem k_X6_adoptSerial (D : DD) (o c l t n h b f : Nat) (N P : Int) (cap len lst nw hi : Int → Int) (e : Int) (be fo : Int → Int) (a : Int) (hW : WI N P cap len lst) (hnw : NW nw) (he : 0 ≤ e ∧ e ≤ 5) (ha : -2147483648 ≤ a ∧ a < 2147483648) : Con (S := Int × (Int → Int) × (Int → Int) × Int × (Int → Int)) D yX6_adoptSerial wsX6_adoptSerial ({ frames := 2, cells := 0, slots := 0, locals := 43 }) 0 0 [.ref o, vi a] [(o, co 6 [vi N, vi P, .ref c, .ref l, .ref t, .ref n, .ref h, vi e, .ref b, .ref f]), (c, ca D 5 cap), (l, ca D 6 len), (t, ca D 30 lst), (n, ca D 12 nw), (h, ca D 60 hi), (b, ca D 1701 be), (f, ca D 6 fo)] (fun u => some (vi u.1)) (fun u => (¬ (0 ≤ a ∧ a < N) ∧ u.1 = -101 ∧ u.2.1 = nw ∧ u.2.2.1 = hi ∧ u.2.2.2.1 = e) ∨ ((0 ≤ a ∧ a < N) ∧ (∀ j, 0 ≤ j → j < N → u.2.2.2.2 (sra N a j) = mpm cap len lst (mL N cap len lst a j.toNat) (sra N a j)) ∧ u.1 = sm (pls (tk N u.2.2.2.2 nw)) N ∧ u.2.1 = tk N u.2.2.2.2 nw ∧ u.2.2.1 = edh e nw hi ∧ u.2.2.2.1 = hpc e)) (fun u => [(o, co 6 [vi N, vi P, .ref c, .ref l, .ref t, .ref n, .ref h, vi u.2.2.2.1, .ref b, .ref f]), (c, ca D 5 cap), (l, ca D 6 len), (t, ca D 30 lst), (n, ca D 12 u.2.1), (h, ca D 60 u.2.2.1), (b, ca D 1701 be), (f, ca D 6 u.2.2.2.2)]) := by
  refine Con.of (cc := cX6_adoptSerial) (nL := 7) (ret := (some .int)) rfl (by decide +kernel) (Nat.le_of_ble_eq_true rfl) ?_
  intro X A Q O hQ hin
  show G X D A 7 Q 0 0 0 [(0, .ref o), (1, vi a)] [] [(o, co 6 [vi N, vi P, .ref c, .ref l, .ref t, .ref n, .ref h, vi e, .ref b, .ref f]), (c, ca D 5 cap), (l, ca D 6 len), (t, ca D 30 lst), (n, ca D 12 nw), (h, ca D 60 hi), (b, ca D 1701 be), (f, ca D 6 fo)]
  obtain ⟨hN, hcap, hlen, hlst, hdis⟩ := id hW
  refine g_aload_n O dX6_adoptSerial_0 1 0 rfl rfl ?_
  refine g_iload_n O dX6_adoptSerial_1 2 1 rfl rfl ?_
  refine g_callV (As := [vi a]) (rest := []) (na := 1) O (k_X6_isApplicant D o c l t n h b f N P cap len lst nw hi e be fo a hW (by omega)) dX6_adoptSerial_2 gX6_adoptSerial_X6_isApplicant rfl ⟨rfl, rfl⟩ (by decide +kernel) rfl (by decide) (by decide) rfl (Nat.le_of_ble_eq_true rfl) (q0 := 0) (ci := 6) rfl rfl [0, 1, 2, 3, 4, 5, 6, 7] (by decide) rfl (fun _ => rfl) (fun u => [(o, co 6 [vi N, vi P, .ref c, .ref l, .ref t, .ref n, .ref h, vi e, .ref b, .ref f]), (c, ca D 5 cap), (l, ca D 6 len), (t, ca D 30 lst), (n, ca D 12 nw), (h, ca D 60 hi), (b, ca D 1701 be), (f, ca D 6 fo)]) (fun _ => rfl) 5 rfl (fun u2 hu2 => ?_)
  obtain ⟨bz2, rfl⟩ : ∃ z, z = u2 := ⟨_, rfl⟩
  rcases hu2 with ⟨rfl, hb2⟩ | ⟨rfl, hb2⟩
  · skip
    have hb2 : 0 ≤ a ∧ a < N := hb2
    show G X D A 7 Q 0 0 5 [(0, .ref o), (1, vi a)] [vi 1] [(o, co 6 [vi N, vi P, .ref c, .ref l, .ref t, .ref n, .ref h, vi e, .ref b, .ref f]), (c, ca D 5 cap), (l, ca D 6 len), (t, ca D 30 lst), (n, ca D 12 nw), (h, ca D 60 hi), (b, ca D 1701 be), (f, ca D 6 fo)]
    refine g_if_ne O dX6_adoptSerial_5 8 11 rfl rfl (by omega) (fun _ => ?_) (fun h => absurd h (by decide))
    refine g_iconst O dX6_adoptSerial_11 12 rfl ?_
    refine g_istore_n O dX6_adoptSerial_12 13 [(0, .ref o), (1, vi a), (2, vi 0)] rfl (by decide) rfl ?_
    refine g_iconst O dX6_adoptSerial_13 14 rfl ?_
    refine g_istore_n O dX6_adoptSerial_14 15 [(0, .ref o), (1, vi a), (2, vi 0), (3, vi 0)] rfl (by decide) rfl ?_
    have lp15 : ∀ (nn : Nat) (k : Int) (L : Int) (f1 : Int → Int), (0 ≤ k ∧ k ≤ N) → (0 ≤ L ∧ L < 243) → (L = mL N cap len lst a k.toNat) → (∀ j, 0 ≤ j → j < k → f1 (sra N a j) = mpm cap len lst (mL N cap len lst a j.toNat) (sra N a j)) → (N - k < (nn : Int)) → G X D A 7 Q 0 0 15 [(0, .ref o), (1, vi a), (2, vi L), (3, vi k)] [] [(o, co 6 [vi N, vi P, .ref c, .ref l, .ref t, .ref n, .ref h, vi e, .ref b, .ref f]), (c, ca D 5 cap), (l, ca D 6 len), (t, ca D 30 lst), (n, ca D 12 nw), (h, ca D 60 hi), (b, ca D 1701 be), (f, ca D 6 f1)] := by
      intro nn
      induction nn with
      | zero =>
        intro k L f1 h1 hL hLm h2 hm15
        exact absurd hm15 (by omega)
      | succ nn ih15 =>
        intro k L f1 h1 hL hLm h2 hm15
        refine g_iload_n O dX6_adoptSerial_15 16 3 rfl rfl ?_
        refine g_aload_n O dX6_adoptSerial_16 17 0 rfl rfl ?_
        refine g_get O dX6_adoptSerial_17 20 rfl fX6_adoptSerial_7 0 rfl rfl ?_
        refine g_icmp_ge O dX6_adoptSerial_20 23 145 rfl rfl (by omega) (fun h20 => ?_) (fun h20 => ?_)
        · skip
          have hnt : NW (tk N f1 nw) := tk_NW hnw (fun x x0 x1 => by obtain ⟨j, j0, j1, j2⟩ := sra_sur (N := N) (a := a) (x := x) (by omega) (by omega) x0 x1; rw [← j2, h2 j j0 (by omega)]; have := mpm_bd hW (L := mL N cap len lst a j.toNat) (a := sra N a j) (by omega) (by omega); omega)
          refine g_aload_n O dX6_adoptSerial_145 146 0 rfl rfl ?_
          refine g_callV (As := []) (rest := []) (na := 0) O (k_X6_takes D o c l t n h b f N P cap len lst nw hi e be f1 hW (by omega)) dX6_adoptSerial_146 gX6_adoptSerial_X6_takes rfl ⟨rfl, rfl⟩ (by decide +kernel) rfl (by decide) (by decide) rfl (Nat.le_of_ble_eq_true rfl) (q0 := 0) (ci := 6) rfl rfl [0, 1, 2, 3, 4, 5, 6, 7] (by decide) rfl (fun _ => rfl) (fun _ => [(o, co 6 [vi N, vi P, .ref c, .ref l, .ref t, .ref n, .ref h, vi (hpc e), .ref b, .ref f]), (c, ca D 5 cap), (l, ca D 6 len), (t, ca D 30 lst), (n, ca D 12 (tk N f1 nw)), (h, ca D 60 (edh e nw hi)), (b, ca D 1701 be), (f, ca D 6 f1)]) (fun _ => rfl) 149 rfl (fun _ _ => ?_)
          show G X D A 7 Q 0 0 149 [(0, .ref o), (1, vi a), (2, vi L), (3, vi k)] [] [(o, co 6 [vi N, vi P, .ref c, .ref l, .ref t, .ref n, .ref h, vi (hpc e), .ref b, .ref f]), (c, ca D 5 cap), (l, ca D 6 len), (t, ca D 30 lst), (n, ca D 12 (tk N f1 nw)), (h, ca D 60 (edh e nw hi)), (b, ca D 1701 be), (f, ca D 6 f1)]
          refine g_aload_n O dX6_adoptSerial_149 150 0 rfl rfl ?_
          refine g_callV (As := []) (rest := []) (na := 0) O (k_X6_size D o c l t n h b f N P cap len lst (tk N f1 nw) (edh e nw hi) (hpc e) be f1 hW hnt) dX6_adoptSerial_150 gX6_adoptSerial_X6_size rfl ⟨rfl, rfl⟩ (by decide +kernel) rfl (by decide) (by decide) rfl (Nat.le_of_ble_eq_true rfl) (q0 := 0) (ci := 6) rfl rfl [0, 1, 2, 3, 4, 5, 6, 7] (by decide) rfl (fun _ => rfl) (fun _ => [(o, co 6 [vi N, vi P, .ref c, .ref l, .ref t, .ref n, .ref h, vi (hpc e), .ref b, .ref f]), (c, ca D 5 cap), (l, ca D 6 len), (t, ca D 30 lst), (n, ca D 12 (tk N f1 nw)), (h, ca D 60 (edh e nw hi)), (b, ca D 1701 be), (f, ca D 6 f1)]) (fun _ => rfl) 153 rfl (fun _ _ => ?_)
          show G X D A 7 Q 0 0 153 [(0, .ref o), (1, vi a), (2, vi L), (3, vi k)] [vi (sm (pls (tk N f1 nw)) N)] [(o, co 6 [vi N, vi P, .ref c, .ref l, .ref t, .ref n, .ref h, vi (hpc e), .ref b, .ref f]), (c, ca D 5 cap), (l, ca D 6 len), (t, ca D 30 lst), (n, ca D 12 (tk N f1 nw)), (h, ca D 60 (edh e nw hi)), (b, ca D 1701 be), (f, ca D 6 f1)]
          exact g_iret O hQ dX6_adoptSerial_153 (sm (pls (tk N f1 nw)) N, tk N f1 nw, edh e nw hi, hpc e, f1) rfl rfl (Or.inr ⟨hb2, fun j j0 j1 => h2 j j0 (by omega), rfl, rfl, rfl, rfl⟩) ⟨by decide, by decide⟩
        · skip
          refine g_iload_n O dX6_adoptSerial_23 24 1 rfl rfl ?_
          refine g_iload_n O dX6_adoptSerial_24 25 3 rfl rfl ?_
          refine g_iadd O dX6_adoptSerial_25 26 rfl ?_
          refine g_aload_n O dX6_adoptSerial_26 27 0 rfl rfl ?_
          refine g_get O dX6_adoptSerial_27 30 rfl fX6_adoptSerial_7 0 rfl rfl ?_
          refine g_irem O dX6_adoptSerial_30 31 rfl (by omega) ?_
          refine g_cv (y := sra N a k) (sra_mod (by omega) (by omega) (by omega) (by omega)) ?_
          refine g_istore O dX6_adoptSerial_31 33 [(0, .ref o), (1, vi a), (2, vi L), (3, vi k), (4, vi (sra N a k))] rfl (by decide) rfl ?_
          have hsr := sra_bd (N := N) (a := a) (k := k) (by omega) (by omega) (by omega) (by omega)
          have hls := hlen (sra N a k) (by omega) (by omega)
          refine g_aload_n O dX6_adoptSerial_33 34 0 rfl rfl ?_
          refine g_get O dX6_adoptSerial_34 37 rfl fX6_adoptSerial_35 0 rfl rfl ?_
          refine g_iload O dX6_adoptSerial_37 39 4 rfl rfl ?_
          refine g_iconst O dX6_adoptSerial_39 40 rfl ?_
          refine g_iast O dX6_adoptSerial_40 41 rfl 7 rfl (by decide) (by omega) [(o, co 6 [vi N, vi P, .ref c, .ref l, .ref t, .ref n, .ref h, vi e, .ref b, .ref f]), (c, ca D 5 cap), (l, ca D 6 len), (t, ca D 30 lst), (n, ca D 12 nw), (h, ca D 60 hi), (b, ca D 1701 be), (f, ca D 6 (up f1 (sra N a k) (-1)))] rfl ?_
          refine g_aload_n O dX6_adoptSerial_41 42 0 rfl rfl ?_
          refine g_get O dX6_adoptSerial_42 45 rfl fX6_adoptSerial_20 0 rfl rfl ?_
          refine g_iload O dX6_adoptSerial_45 47 4 rfl rfl ?_
          refine g_iald O dX6_adoptSerial_47 48 rfl 2 rfl (by decide) (by omega) ?_
          refine g_iconst O dX6_adoptSerial_48 49 rfl ?_
          refine g_isub O dX6_adoptSerial_49 50 rfl ?_
          refine g_istore O dX6_adoptSerial_50 52 [(0, .ref o), (1, vi a), (2, vi L), (3, vi k), (4, vi (sra N a k)), (5, vi ((len (sra N a k)) - 1))] rfl (by decide) rfl ?_
          have lp52 : ∀ (nn : Nat) (i : Int) (f2 : Int → Int), (-1 ≤ i ∧ i < len (sra N a k)) → (∀ x, ¬ x = sra N a k → f2 x = f1 x) → (MPI cap len lst L (sra N a k) i (f2 (sra N a k))) → (i + 1 < (nn : Int)) → G X D A 7 Q 0 0 52 [(0, .ref o), (1, vi a), (2, vi L), (3, vi k), (4, vi (sra N a k)), (5, vi i)] [] [(o, co 6 [vi N, vi P, .ref c, .ref l, .ref t, .ref n, .ref h, vi e, .ref b, .ref f]), (c, ca D 5 cap), (l, ca D 6 len), (t, ca D 30 lst), (n, ca D 12 nw), (h, ca D 60 hi), (b, ca D 1701 be), (f, ca D 6 f2)] := by
            intro nn
            induction nn with
            | zero =>
              intro i f2 hi1 hf2 hM hm52
              exact absurd hm52 (by omega)
            | succ nn ih52 =>
              intro i f2 hi1 hf2 hM hm52
              refine g_iload O dX6_adoptSerial_52 54 5 rfl rfl ?_
              refine g_if_lt O dX6_adoptSerial_54 57 112 rfl rfl (by omega) (fun h54 => ?_) (fun h54 => ?_)
              · skip
                have hy := MPI_e (by omega) hM
                have hmb := mpm_bd hW (L := L) (a := sra N a k) (by omega) (by omega)
                rw [← hy] at hmb
                refine g_iload_n O dX6_adoptSerial_112 113 2 rfl rfl ?_
                refine g_aload_n O dX6_adoptSerial_113 114 0 rfl rfl ?_
                refine g_get O dX6_adoptSerial_114 117 rfl fX6_adoptSerial_35 0 rfl rfl ?_
                refine g_iload O dX6_adoptSerial_117 119 4 rfl rfl ?_
                refine g_iald O dX6_adoptSerial_119 120 rfl 7 rfl (by decide) (by omega) ?_
                refine g_if_ge O dX6_adoptSerial_120 123 127 rfl rfl (by omega) (fun h120 => ?_) (fun h120 => ?_)
                · skip
                  have hcm := hcap (f2 (sra N a k)) (by omega) (by omega)
                  have hlr := L_room (L := L) (q := f2 (sra N a k)) (c := cap (f2 (sra N a k))) (by omega) (by omega) (by omega) (by omega) (hmb.2.2 (by omega)) (by omega)
                  have hp3 := pw3_pos (f2 (sra N a k))
                  refine g_aload_n O dX6_adoptSerial_127 128 0 rfl rfl ?_
                  refine g_get O dX6_adoptSerial_128 131 rfl fX6_adoptSerial_35 0 rfl rfl ?_
                  refine g_iload O dX6_adoptSerial_131 133 4 rfl rfl ?_
                  refine g_iald O dX6_adoptSerial_133 134 rfl 7 rfl (by decide) (by omega) ?_
                  refine g_callS (As := [vi (f2 (sra N a k))]) (rest := [vi L]) (na := 1) O (k_X6_power D (f2 (sra N a k)) (by omega)) dX6_adoptSerial_134 gX6_adoptSerial_X6_power rfl ⟨rfl, rfl⟩ (by decide +kernel) rfl (by decide) (by decide) rfl (Nat.le_of_ble_eq_true rfl) [] (by decide) rfl (fun _ => rfl) (fun _ => [(o, co 6 [vi N, vi P, .ref c, .ref l, .ref t, .ref n, .ref h, vi e, .ref b, .ref f]), (c, ca D 5 cap), (l, ca D 6 len), (t, ca D 30 lst), (n, ca D 12 nw), (h, ca D 60 hi), (b, ca D 1701 be), (f, ca D 6 f2)]) (fun _ => rfl) 137 rfl (fun _ _ => ?_)
                  show G X D A 7 Q 0 0 137 [(0, .ref o), (1, vi a), (2, vi L), (3, vi k), (4, vi (sra N a k)), (5, vi i)] [vi (pw3 (f2 (sra N a k))), vi L] [(o, co 6 [vi N, vi P, .ref c, .ref l, .ref t, .ref n, .ref h, vi e, .ref b, .ref f]), (c, ca D 5 cap), (l, ca D 6 len), (t, ca D 30 lst), (n, ca D 12 nw), (h, ca D 60 hi), (b, ca D 1701 be), (f, ca D 6 f2)]
                  refine g_iadd O dX6_adoptSerial_137 138 rfl ?_
                  refine g_istore_n O dX6_adoptSerial_138 139 [(0, .ref o), (1, vi a), (2, vi (L + (pw3 (f2 (sra N a k))))), (3, vi k), (4, vi (sra N a k)), (5, vi i)] rfl (by decide) rfl ?_
                  refine g_iinc O dX6_adoptSerial_139 142 3 [(0, .ref o), (1, vi a), (2, vi (L + (pw3 (f2 (sra N a k))))), (3, vi (k + 1)), (4, vi (sra N a k)), (5, vi i)] rfl (by decide) rfl rfl ?_
                  refine g_goto O dX6_adoptSerial_142 15 rfl ?_
                  refine g_loc (L' := [(0, .ref o), (1, vi a), (2, vi (L + (pw3 (f2 (sra N a k))))), (3, vi (k + 1))]) [0, 1, 2, 3] rfl ?_
                  exact ih15 (k + 1) (L + (pw3 (f2 (sra N a k)))) f2 (by omega) (by omega) (by rw [mL_s (by omega), ← hLm, ← hy]; unfold tgq; first | (rw [if_pos (by omega)]; omega) | (rw [if_neg (by omega)])) (fun j j0 j1 => by by_cases ej : j = k; rw [ej, hy, hLm]; rw [hf2 _ (sra_inj j0 (by omega) (by omega))]; exact h2 j j0 (by omega)) (by omega)
                · skip
                  refine g_iconst O dX6_adoptSerial_123 124 rfl ?_
                  refine g_goto O dX6_adoptSerial_124 137 rfl ?_
                  refine g_iadd O dX6_adoptSerial_137 138 rfl ?_
                  refine g_istore_n O dX6_adoptSerial_138 139 [(0, .ref o), (1, vi a), (2, vi (L + 0)), (3, vi k), (4, vi (sra N a k)), (5, vi i)] rfl (by decide) rfl ?_
                  refine g_iinc O dX6_adoptSerial_139 142 3 [(0, .ref o), (1, vi a), (2, vi (L + 0)), (3, vi (k + 1)), (4, vi (sra N a k)), (5, vi i)] rfl (by decide) rfl rfl ?_
                  refine g_goto O dX6_adoptSerial_142 15 rfl ?_
                  refine g_loc (L' := [(0, .ref o), (1, vi a), (2, vi (L + 0)), (3, vi (k + 1))]) [0, 1, 2, 3] rfl ?_
                  exact ih15 (k + 1) (L + 0) f2 (by omega) (by omega) (by rw [mL_s (by omega), ← hLm, ← hy]; unfold tgq; first | (rw [if_pos (by omega)]; omega) | (rw [if_neg (by omega)])) (fun j j0 j1 => by by_cases ej : j = k; rw [ej, hy, hLm]; rw [hf2 _ (sra_inj j0 (by omega) (by omega))]; exact h2 j j0 (by omega)) (by omega)
              · skip
                have hli : 0 ≤ row lst (sra N a k) i ∧ row lst (sra N a k) i < P := hlst (sra N a k) i (by omega) (by omega) (by omega) (by omega)
                have hci := hcap (row lst (sra N a k) i) (by omega) (by omega)
                have hdg := dg_bd L (row lst (sra N a k) i)
                refine g_aload_n O dX6_adoptSerial_57 58 0 rfl rfl ?_
                refine g_get O dX6_adoptSerial_58 61 rfl fX6_adoptSerial_23 0 rfl rfl ?_
                refine g_iconst O dX6_adoptSerial_61 62 rfl ?_
                refine g_iload O dX6_adoptSerial_62 64 4 rfl rfl ?_
                refine g_imul O dX6_adoptSerial_64 65 rfl ?_
                refine g_iload O dX6_adoptSerial_65 67 5 rfl rfl ?_
                refine g_iadd O dX6_adoptSerial_67 68 rfl ?_
                refine g_iald O dX6_adoptSerial_68 69 rfl 3 rfl (by decide) (by omega) ?_
                refine g_cv (y := row lst (sra N a k) i) (by unfold row; congr 1; omega) ?_
                refine g_istore O dX6_adoptSerial_69 71 [(0, .ref o), (1, vi a), (2, vi L), (3, vi k), (4, vi (sra N a k)), (5, vi i), (6, vi (row lst (sra N a k) i))] rfl (by decide) rfl ?_
                refine g_aload_n O dX6_adoptSerial_71 72 0 rfl rfl ?_
                refine g_get O dX6_adoptSerial_72 75 rfl fX6_adoptSerial_35 0 rfl rfl ?_
                refine g_iload O dX6_adoptSerial_75 77 4 rfl rfl ?_
                refine g_iload_n O dX6_adoptSerial_77 78 2 rfl rfl ?_
                refine g_iload O dX6_adoptSerial_78 80 6 rfl rfl ?_
                refine g_callS (As := [vi L, vi (row lst (sra N a k) i)]) (rest := [vi (sra N a k), .ref f]) (na := 2) O (k_X6_digit D L (row lst (sra N a k) i) (by omega) (by omega)) dX6_adoptSerial_80 gX6_adoptSerial_X6_digit rfl ⟨rfl, rfl⟩ (by decide +kernel) rfl (by decide) (by decide) rfl (Nat.le_of_ble_eq_true rfl) [] (by decide) rfl (fun _ => rfl) (fun _ => [(o, co 6 [vi N, vi P, .ref c, .ref l, .ref t, .ref n, .ref h, vi e, .ref b, .ref f]), (c, ca D 5 cap), (l, ca D 6 len), (t, ca D 30 lst), (n, ca D 12 nw), (h, ca D 60 hi), (b, ca D 1701 be), (f, ca D 6 f2)]) (fun _ => rfl) 83 rfl (fun _ _ => ?_)
                show G X D A 7 Q 0 0 83 [(0, .ref o), (1, vi a), (2, vi L), (3, vi k), (4, vi (sra N a k)), (5, vi i), (6, vi (row lst (sra N a k) i))] [vi (dg L (row lst (sra N a k) i)), vi (sra N a k), .ref f] [(o, co 6 [vi N, vi P, .ref c, .ref l, .ref t, .ref n, .ref h, vi e, .ref b, .ref f]), (c, ca D 5 cap), (l, ca D 6 len), (t, ca D 30 lst), (n, ca D 12 nw), (h, ca D 60 hi), (b, ca D 1701 be), (f, ca D 6 f2)]
                refine g_aload_n O dX6_adoptSerial_83 84 0 rfl rfl ?_
                refine g_get O dX6_adoptSerial_84 87 rfl fX6_adoptSerial_16 0 rfl rfl ?_
                refine g_iload O dX6_adoptSerial_87 89 6 rfl rfl ?_
                refine g_iald O dX6_adoptSerial_89 90 rfl 1 rfl (by decide) (by omega) ?_
                refine g_icmp_ge O dX6_adoptSerial_90 93 98 rfl rfl (by omega) (fun h90 => ?_) (fun h90 => ?_)
                · skip
                  refine g_aload_n O dX6_adoptSerial_98 99 0 rfl rfl ?_
                  refine g_get O dX6_adoptSerial_99 102 rfl fX6_adoptSerial_35 0 rfl rfl ?_
                  refine g_iload O dX6_adoptSerial_102 104 4 rfl rfl ?_
                  refine g_iald O dX6_adoptSerial_104 105 rfl 7 rfl (by decide) (by omega) ?_
                  refine g_iast O dX6_adoptSerial_105 106 rfl 7 rfl (by decide) (by omega) [(o, co 6 [vi N, vi P, .ref c, .ref l, .ref t, .ref n, .ref h, vi e, .ref b, .ref f]), (c, ca D 5 cap), (l, ca D 6 len), (t, ca D 30 lst), (n, ca D 12 nw), (h, ca D 60 hi), (b, ca D 1701 be), (f, ca D 6 (up f2 (sra N a k) (f2 (sra N a k))))] rfl ?_
                  refine g_iinc O dX6_adoptSerial_106 109 5 [(0, .ref o), (1, vi a), (2, vi L), (3, vi k), (4, vi (sra N a k)), (5, vi (i + (-1))), (6, vi (row lst (sra N a k) i))] rfl (by decide) rfl rfl ?_
                  refine g_goto O dX6_adoptSerial_109 52 rfl ?_
                  refine g_loc (L' := [(0, .ref o), (1, vi a), (2, vi L), (3, vi k), (4, vi (sra N a k)), (5, vi (i + (-1)))]) [0, 1, 2, 3, 4, 5] rfl ?_
                  exact ih52 (i + (-1)) (up f2 (sra N a k) (f2 (sra N a k))) (by omega) (fun x hx => by rw [up_n hx]; exact hf2 x hx) (by rw [up_s]; first | exact MPI_t (y := 0) (by omega) (by omega) h90 | exact MPI_f hM (by omega)) (by omega)
                · skip
                  refine g_iload O dX6_adoptSerial_93 95 6 rfl rfl ?_
                  refine g_goto O dX6_adoptSerial_95 105 rfl ?_
                  refine g_iast O dX6_adoptSerial_105 106 rfl 7 rfl (by decide) (by omega) [(o, co 6 [vi N, vi P, .ref c, .ref l, .ref t, .ref n, .ref h, vi e, .ref b, .ref f]), (c, ca D 5 cap), (l, ca D 6 len), (t, ca D 30 lst), (n, ca D 12 nw), (h, ca D 60 hi), (b, ca D 1701 be), (f, ca D 6 (up f2 (sra N a k) (row lst (sra N a k) i)))] rfl ?_
                  refine g_iinc O dX6_adoptSerial_106 109 5 [(0, .ref o), (1, vi a), (2, vi L), (3, vi k), (4, vi (sra N a k)), (5, vi (i + (-1))), (6, vi (row lst (sra N a k) i))] rfl (by decide) rfl rfl ?_
                  refine g_goto O dX6_adoptSerial_109 52 rfl ?_
                  refine g_loc (L' := [(0, .ref o), (1, vi a), (2, vi L), (3, vi k), (4, vi (sra N a k)), (5, vi (i + (-1)))]) [0, 1, 2, 3, 4, 5] rfl ?_
                  exact ih52 (i + (-1)) (up f2 (sra N a k) (row lst (sra N a k) i)) (by omega) (fun x hx => by rw [up_n hx]; exact hf2 x hx) (by rw [up_s]; first | exact MPI_t (y := 0) (by omega) (by omega) h90 | exact MPI_f hM (by omega)) (by omega)
          exact lp52 1000 ((len (sra N a k)) - 1) (up f1 (sra N a k) (-1)) (by omega) (fun x hx => up_n hx) (by rw [up_s]; exact Or.inl ⟨rfl, fun r q1 q2 q3 => absurd q3 (by omega)⟩) (by omega)
    exact lp15 1000 0 0 fo (by omega) (by omega) rfl (fun j j0 j1 => absurd j1 (by omega)) (by omega)
  · skip
    have hb2 : ¬ (0 ≤ a ∧ a < N) := hb2
    show G X D A 7 Q 0 0 5 [(0, .ref o), (1, vi a)] [vi 0] [(o, co 6 [vi N, vi P, .ref c, .ref l, .ref t, .ref n, .ref h, vi e, .ref b, .ref f]), (c, ca D 5 cap), (l, ca D 6 len), (t, ca D 30 lst), (n, ca D 12 nw), (h, ca D 60 hi), (b, ca D 1701 be), (f, ca D 6 fo)]
    refine g_if_ne O dX6_adoptSerial_5 8 11 rfl rfl (by omega) (fun h => absurd h (by decide)) (fun _ => ?_)
    refine g_bipush O dX6_adoptSerial_8 10 rfl (by decide) ?_
    exact g_iret O hQ dX6_adoptSerial_10 (-101, nw, hi, e, fo) rfl rfl (Or.inl ⟨hb2, rfl, rfl, rfl, rfl⟩) ⟨by decide, by decide⟩
