/-! WHAT HOLDS BETWEEN THE CALLS: text, tales, guests (how many), odds, how much is seen -/
def coreA (i k : Nat) : Prop := (i = 1 ∧ k = 1) ∨ (i = 2 ∧ k < 24) ∨ (70 ≤ i ∧ i ≤ 75) ∨ (i = 64 ∧ k = 2) ∨ i = 67 ∨ (i = 76 ∧ (k = 4 ∨ k = 15)) ∨ i = 79 ∨ i = 80 ∨ i = 81 ∨ i = 85
def RTx (M : Mt) : Prop := ∃ n, n ≤ 24 ∧ M 1 1 = nI n ∧ M 76 4 = nI n
def RLt (M : Mt) : Prop := ∀ k, k < 24 → M 2 k = M 79 k
def RTl (M : Mt) : Prop := ∀ t, t < 3 → M (70 + 2 * t) 1 = M 81 t ∧ ∀ k, k < 24 → M (70 + 2 * t + 1) k = M 80 (24 * t + k)
def RGu (M : Mt) : Prop := ∃ n, n ≤ 5 ∧ M 4 2 = nI n ∧ M 76 0 = nI n
def RSe (M : Mt) : Prop := ∃ m, m ≤ 6 ∧ M 64 2 = nI m ∧ M 76 15 = nI m
def ROd (M : Mt) : Prop := ∀ k, k < 3 → M 67 k = M 85 k
def RelA (M : Mt) : Prop := RTx M ∧ RLt M ∧ RTl M ∧ RSe M ∧ ROd M
theorem RelA.keep {M N : Mt} (h : RelA M) (hk : ∀ i k, coreA i k → N i k = M i k) : RelA N := by
  obtain ⟨⟨n, hn, e1, e2⟩, hL, hT, ⟨m, hm, s1, s2⟩, hO⟩ := h
  refine ⟨⟨n, hn, (hk 1 1 (by unfold coreA; omega)).trans e1, (hk 76 4 (by unfold coreA; omega)).trans e2⟩, fun k h => ?_, fun t ht => ⟨?_, fun k h => ?_⟩, ⟨m, hm, (hk 64 2 (by unfold coreA; omega)).trans s1, (hk 76 15 (by unfold coreA; omega)).trans s2⟩, fun k h => ?_⟩
  · rw [hk 2 k (by unfold coreA; omega), hk 79 k (by unfold coreA; omega)]; exact hL k h
  · rw [hk _ _ (show coreA (70 + 2 * t) 1 by unfold coreA; omega), hk 81 t (by unfold coreA; omega)]; exact (hT t ht).1
  · rw [hk _ _ (show coreA (70 + 2 * t + 1) k by unfold coreA; omega), hk 80 _ (by unfold coreA; omega)]; exact (hT t ht).2 k h
  · rw [hk 67 k (by unfold coreA; omega), hk 85 k (by unfold coreA; omega)]; exact hO k h
theorem RGu.keep {M N : Mt} (h : RGu M) (h1 : N 4 2 = M 4 2) (h2 : N 76 0 = M 76 0) : RGu N := by
  obtain ⟨n, hn, e1, e2⟩ := h
  exact ⟨n, hn, h1.trans e1, h2.trans e2⟩
theorem rel_start : RelA M0 ∧ RGu M0 := by
  refine ⟨⟨⟨0, by omega, rfl, rfl⟩, fun k h => rfl, fun t ht => ⟨?_, fun k h => ?_⟩, ⟨0, by omega, rfl, rfl⟩, fun k h => ?_⟩, ⟨0, by omega, rfl, rfl⟩⟩
  · unfold M0; rw [if_neg (by omega), if_neg (by omega)]
  · unfold M0; rw [if_neg (by omega), if_neg (by omega)]
  · unfold M0
    by_cases hk : k = 0
    · rw [if_pos (by omega), if_pos (by omega)]
    · rw [if_neg (by omega), if_neg (by omega)]
theorem wr_step {M N1 N2 : Mt} {r1 r2 a : Int32} {n : Nat} (hA : RelA M) (hn : n ≤ 24) (e1 : M 1 1 = nI n) (e2 : M 76 4 = nI n)
    (h1 : (r1 = -2 ∧ ¬ (∃ k, k < 256 ∧ a = nI k) ∧ N1 = M) ∨ ((∃ k, k < 256 ∧ a = nI k) ∧ ((r1 = -4 ∧ n = 24 ∧ N1 = M) ∨ (r1 = nI (n + 1) ∧ n < 24 ∧ N1 = up2 (up2 M 2 n a) 1 1 (nI (n + 1))))))
    (h2 : (r2 = -2 ∧ ¬ (∃ k, k < 256 ∧ a = nI k) ∧ N2 = N1) ∨ ((∃ k, k < 256 ∧ a = nI k) ∧ ((r2 = -4 ∧ n = 24 ∧ N2 = N1) ∨ (r2 = nI (n + 1) ∧ n < 24 ∧ N2 = up2 (up2 N1 79 n a) 76 4 (nI (n + 1)))))) : RelA N2 ∧ r1 = r2 := by
  rcases h1 with ⟨rfl, a1, rfl⟩ | ⟨a0, ⟨rfl, a1, rfl⟩ | ⟨rfl, a1, rfl⟩⟩
  · rcases h2 with ⟨rfl, b1, rfl⟩ | ⟨b0, _⟩
    · exact ⟨hA, rfl⟩
    · exact absurd b0 a1
  · rcases h2 with ⟨rfl, b1, rfl⟩ | ⟨b0, ⟨rfl, b1, rfl⟩ | ⟨rfl, b1, rfl⟩⟩
    · exact absurd a0 b1
    · exact ⟨hA, rfl⟩
    · omega
  · rcases h2 with ⟨rfl, b1, rfl⟩ | ⟨b0, ⟨rfl, b1, rfl⟩ | ⟨rfl, b1, rfl⟩⟩
    · exact absurd a0 b1
    · omega
    · obtain ⟨-, hL, hT, ⟨m, hm, s1, s2⟩, hO⟩ := hA
      refine ⟨⟨⟨n + 1, by omega, ?_, ?_⟩, fun k h => ?_, fun t ht => ⟨?_, fun k h => ?_⟩, ⟨m, hm, ?_, ?_⟩, fun k h => ?_⟩, rfl⟩
      · (repeat (first | rw [up2_eq] | rw [up2_ne (by omega)])) <;> first | rfl | (unfold up2; (repeat' split) <;> first | omega | rfl)
      · (repeat (first | rw [up2_eq] | rw [up2_ne (by omega)])) <;> first | rfl | (unfold up2; (repeat' split) <;> first | omega | rfl)
      · (repeat (first | rw [up2_eq] | rw [up2_ne (by omega)])) <;> first | rfl | exact hL k h | (unfold up2; (repeat' split) <;> first | omega | rfl | exact hL k h)
      · (repeat (first | rw [up2_eq] | rw [up2_ne (by omega)])) <;> first | exact (hT t ht).1 | (unfold up2; (repeat' split) <;> first | omega | exact (hT t ht).1)
      · (repeat (first | rw [up2_eq] | rw [up2_ne (by omega)])) <;> first | exact (hT t ht).2 k h | (unfold up2; (repeat' split) <;> first | omega | exact (hT t ht).2 k h)
      · (repeat (first | rw [up2_eq] | rw [up2_ne (by omega)])) <;> first | exact s1 | (unfold up2; (repeat' split) <;> first | omega | exact s1)
      · (repeat (first | rw [up2_eq] | rw [up2_ne (by omega)])) <;> first | exact s2 | (unfold up2; (repeat' split) <;> first | omega | exact s2)
      · (repeat (first | rw [up2_eq] | rw [up2_ne (by omega)])) <;> first | exact hO k h | (unfold up2; (repeat' split) <;> first | omega | exact hO k h)
theorem wi_step {M N1 N2 : Mt} {r1 r2 : Int32} {n : Nat} (hA : RelA M) (h1 : r1 = nI n ∧ N1 = up2 M 1 1 (nI 0)) (h2 : r2 = nI n ∧ N2 = up2 N1 76 4 (nI 0)) : RelA N2 ∧ r1 = r2 := by
  obtain ⟨rfl, rfl⟩ := h1
  obtain ⟨rfl, rfl⟩ := h2
  obtain ⟨-, hL, hT, ⟨m, hm, s1, s2⟩, hO⟩ := hA
  refine ⟨⟨⟨0, by omega, ?_, ?_⟩, fun k h => ?_, fun t ht => ⟨?_, fun k h => ?_⟩, ⟨m, hm, ?_, ?_⟩, fun k h => ?_⟩, rfl⟩
  · (repeat (first | rw [up2_eq] | rw [up2_ne (by omega)])) <;> first | rfl | (unfold up2; (repeat' split) <;> first | omega | rfl)
  · (repeat (first | rw [up2_eq] | rw [up2_ne (by omega)])) <;> first | rfl | (unfold up2; (repeat' split) <;> first | omega | rfl)
  · (repeat (first | rw [up2_eq] | rw [up2_ne (by omega)])) <;> first | rfl | exact hL k h | (unfold up2; (repeat' split) <;> first | omega | rfl | exact hL k h)
  · (repeat (first | rw [up2_eq] | rw [up2_ne (by omega)])) <;> first | exact (hT t ht).1 | (unfold up2; (repeat' split) <;> first | omega | exact (hT t ht).1)
  · (repeat (first | rw [up2_eq] | rw [up2_ne (by omega)])) <;> first | exact (hT t ht).2 k h | (unfold up2; (repeat' split) <;> first | omega | exact (hT t ht).2 k h)
  · (repeat (first | rw [up2_eq] | rw [up2_ne (by omega)])) <;> first | exact s1 | (unfold up2; (repeat' split) <;> first | omega | exact s1)
  · (repeat (first | rw [up2_eq] | rw [up2_ne (by omega)])) <;> first | exact s2 | (unfold up2; (repeat' split) <;> first | omega | exact s2)
  · (repeat (first | rw [up2_eq] | rw [up2_ne (by omega)])) <;> first | exact hO k h | (unfold up2; (repeat' split) <;> first | omega | exact hO k h)
theorem nI_same {a b : Nat} (h : nI a = nI b) (ha : a < 2 ^ 31) (hb : b < 2 ^ 31) : a = b := (nI_eq ha hb).mp h
theorem qu_step {M N1 N2 : Mt} {r1 r2 a b : Int32} (hA : RelA M)
    (h1 : (r1 = -1 ∧ ¬ (∃ k, k < 3 ∧ a = nI k) ∧ N1 = M) ∨ (∃ t, t < 3 ∧ a = nI t ∧ ((r1 = -2 ∧ ¬ (∃ k, k < 256 ∧ b = nI k) ∧ N1 = M) ∨ ((∃ k, k < 256 ∧ b = nI k) ∧ ∃ n, n ≤ 24 ∧ M (70 + 2 * t) 1 = nI n ∧ ((r1 = -4 ∧ n = 24 ∧ N1 = M) ∨ (r1 = nI (n + 1) ∧ n < 24 ∧ N1 = up2 (up2 M (70 + 2 * t + 1) n b) (70 + 2 * t) 1 (nI (n + 1))))))))
    (h2 : (r2 = -1 ∧ ¬ (∃ k, k < 3 ∧ a = nI k) ∧ N2 = N1) ∨ (∃ t, t < 3 ∧ a = nI t ∧ ((r2 = -2 ∧ ¬ (∃ k, k < 256 ∧ b = nI k) ∧ N2 = N1) ∨ ((∃ k, k < 256 ∧ b = nI k) ∧ ∃ n, n ≤ 24 ∧ N1 81 t = nI n ∧ ((r2 = -4 ∧ n = 24 ∧ N2 = N1) ∨ (r2 = nI (n + 1) ∧ n < 24 ∧ N2 = up2 (up2 N1 80 (24 * t + n) b) 81 t (nI (n + 1)))))))) : RelA N2 ∧ r1 = r2 := by
  rcases h1 with ⟨rfl, a1, rfl⟩ | ⟨t, ht, rfl, h1⟩
  · rcases h2 with ⟨rfl, b1, rfl⟩ | ⟨t', ht', rfl, _⟩
    · exact ⟨hA, rfl⟩
    · exact absurd ⟨t', ht', rfl⟩ a1
  · rcases h2 with ⟨rfl, b1, rfl⟩ | ⟨t', ht', et, h2⟩
    · exact absurd ⟨t, ht, rfl⟩ b1
    · obtain rfl := nI_same et (by omega) (by omega)
      rcases h1 with ⟨rfl, a1, rfl⟩ | ⟨a0, n, hn, e1, h1⟩
      · rcases h2 with ⟨rfl, b1, rfl⟩ | ⟨b0, _⟩
        · exact ⟨hA, rfl⟩
        · exact absurd b0 a1
      · rcases h2 with ⟨rfl, b1, rfl⟩ | ⟨b0, n', hn', e2, h2⟩
        · exact absurd a0 b1
        · obtain ⟨⟨x, hx, x1, x2⟩, hL, hT, ⟨m, hm, s1, s2⟩, hO⟩ := hA
          have e3 : N1 81 t = M 81 t := by
            rcases h1 with ⟨rfl, a1, rfl⟩ | ⟨rfl, a1, rfl⟩
            · rfl
            · (repeat (first | rw [up2_eq] | rw [up2_ne (by omega)])) <;> first | rfl | (unfold up2; (repeat' split) <;> first | omega | rfl)
          have hnn : n = n' := nI_same (e1.symm.trans (((hT t ht).1.trans e3.symm).trans e2)) (by omega) (by omega)
          subst hnn
          rcases h1 with ⟨rfl, a1, rfl⟩ | ⟨rfl, a1, rfl⟩
          · rcases h2 with ⟨rfl, b1, rfl⟩ | ⟨rfl, b1, rfl⟩
            · exact ⟨⟨⟨x, hx, x1, x2⟩, hL, hT, ⟨m, hm, s1, s2⟩, hO⟩, rfl⟩
            · omega
          · rcases h2 with ⟨rfl, b1, rfl⟩ | ⟨rfl, b1, rfl⟩
            · omega
            · refine ⟨⟨⟨x, hx, ?_, ?_⟩, fun k h => ?_, fun u hu => ⟨?_, fun k h => ?_⟩, ⟨m, hm, ?_, ?_⟩, fun k h => ?_⟩, rfl⟩
              · (repeat (first | rw [up2_eq] | rw [up2_ne (by omega)])) <;> first | exact x1 | (unfold up2; (repeat' split) <;> first | omega | exact x1)
              · (repeat (first | rw [up2_eq] | rw [up2_ne (by omega)])) <;> first | exact x2 | (unfold up2; (repeat' split) <;> first | omega | exact x2)
              · (repeat (first | rw [up2_eq] | rw [up2_ne (by omega)])) <;> first | exact hL k h | (unfold up2; (repeat' split) <;> first | omega | exact hL k h)
              · (repeat (first | rw [up2_eq] | rw [up2_ne (by omega)])) <;> first | rfl | exact (hT u hu).1 | (unfold up2; (repeat' split) <;> first | omega | rfl | exact (hT u hu).1)
              · (repeat (first | rw [up2_eq] | rw [up2_ne (by omega)])) <;> first | rfl | exact (hT u hu).2 k h | (unfold up2; (repeat' split) <;> first | omega | rfl | exact (hT u hu).2 k h)
              · (repeat (first | rw [up2_eq] | rw [up2_ne (by omega)])) <;> first | exact s1 | (unfold up2; (repeat' split) <;> first | omega | exact s1)
              · (repeat (first | rw [up2_eq] | rw [up2_ne (by omega)])) <;> first | exact s2 | (unfold up2; (repeat' split) <;> first | omega | exact s2)
              · (repeat (first | rw [up2_eq] | rw [up2_ne (by omega)])) <;> first | exact hO k h | (unfold up2; (repeat' split) <;> first | omega | exact hO k h)
theorem bl_step {M N1 N2 : Mt} {r1 r2 a : Int32} (hA : RelA M)
    (h1 : (r1 = -1 ∧ ¬ (∃ k, k < 3 ∧ a = nI k) ∧ N1 = M) ∨ (∃ t n, t < 3 ∧ a = nI t ∧ n ≤ 24 ∧ M (70 + 2 * t) 1 = nI n ∧ r1 = nI n ∧ N1 = up2 M (70 + 2 * t) 1 (nI 0)))
    (h2 : (r2 = -1 ∧ ¬ (∃ k, k < 3 ∧ a = nI k) ∧ N2 = N1) ∨ (∃ t n, t < 3 ∧ a = nI t ∧ n ≤ 24 ∧ N1 81 t = nI n ∧ r2 = nI n ∧ N2 = up2 N1 81 t (nI 0))) : RelA N2 ∧ r1 = r2 := by
  rcases h1 with ⟨rfl, a1, rfl⟩ | ⟨t, n, ht, rfl, hn, e1, rfl, rfl⟩
  · rcases h2 with ⟨rfl, b1, rfl⟩ | ⟨t', _, ht', rfl, _⟩
    · exact ⟨hA, rfl⟩
    · exact absurd ⟨t', ht', rfl⟩ a1
  · rcases h2 with ⟨rfl, b1, rfl⟩ | ⟨t', n', ht', et, hn', e2, rfl, rfl⟩
    · exact absurd ⟨t, ht, rfl⟩ b1
    · obtain rfl := nI_same et (by omega) (by omega)
      obtain ⟨⟨x, hx, x1, x2⟩, hL, hT, ⟨m, hm, s1, s2⟩, hO⟩ := hA
      refine ⟨⟨⟨x, hx, ?_, ?_⟩, fun k h => ?_, fun u hu => ⟨?_, fun k h => ?_⟩, ⟨m, hm, ?_, ?_⟩, fun k h => ?_⟩, ?_⟩
      · (repeat (first | rw [up2_eq] | rw [up2_ne (by omega)])) <;> first | exact x1 | (unfold up2; (repeat' split) <;> first | omega | exact x1)
      · (repeat (first | rw [up2_eq] | rw [up2_ne (by omega)])) <;> first | exact x2 | (unfold up2; (repeat' split) <;> first | omega | exact x2)
      · (repeat (first | rw [up2_eq] | rw [up2_ne (by omega)])) <;> first | exact hL k h | (unfold up2; (repeat' split) <;> first | omega | exact hL k h)
      · (repeat (first | rw [up2_eq] | rw [up2_ne (by omega)])) <;> first | rfl | exact (hT u hu).1 | (unfold up2; (repeat' split) <;> first | omega | rfl | exact (hT u hu).1)
      · (repeat (first | rw [up2_eq] | rw [up2_ne (by omega)])) <;> first | rfl | exact (hT u hu).2 k h | (unfold up2; (repeat' split) <;> first | omega | rfl | exact (hT u hu).2 k h)
      · (repeat (first | rw [up2_eq] | rw [up2_ne (by omega)])) <;> first | exact s1 | (unfold up2; (repeat' split) <;> first | omega | exact s1)
      · (repeat (first | rw [up2_eq] | rw [up2_ne (by omega)])) <;> first | exact s2 | (unfold up2; (repeat' split) <;> first | omega | exact s2)
      · (repeat (first | rw [up2_eq] | rw [up2_ne (by omega)])) <;> first | exact hO k h | (unfold up2; (repeat' split) <;> first | omega | exact hO k h)
      · rw [← e1, ← e2, up2_ne (by omega)]; exact (hT t ht).1
theorem od_step {M N1 N2 : Mt} {r1 r2 a b c : Int32} {C : Prop} (hA : RelA M) (h1 : (r1 = -2 ∧ ¬ C ∧ N1 = M) ∨ (C ∧ r1 = M 67 0 ∧ N1 = up2 (up2 (up2 M 67 0 a) 67 1 b) 67 2 c))
    (h2 : (r2 = -2 ∧ ¬ C ∧ N2 = N1) ∨ (C ∧ r2 = N1 85 0 ∧ N2 = up2 (up2 (up2 N1 85 0 a) 85 1 b) 85 2 c)) : RelA N2 ∧ r1 = r2 := by
  rcases h1 with ⟨rfl, a1, rfl⟩ | ⟨a0, rfl, rfl⟩
  · rcases h2 with ⟨rfl, b1, rfl⟩ | ⟨b0, _⟩
    · exact ⟨hA, rfl⟩
    · exact absurd b0 a1
  · rcases h2 with ⟨rfl, b1, rfl⟩ | ⟨b0, rfl, rfl⟩
    · exact absurd a0 b1
    · obtain ⟨⟨x, hx, x1, x2⟩, hL, hT, ⟨m, hm, s1, s2⟩, hO⟩ := hA
      refine ⟨⟨⟨x, hx, ?_, ?_⟩, fun k h => ?_, fun u hu => ⟨?_, fun k h => ?_⟩, ⟨m, hm, ?_, ?_⟩, fun k h => ?_⟩, ?_⟩
      · (repeat (first | rw [up2_eq] | rw [up2_ne (by omega)])) <;> first | exact x1 | (unfold up2; (repeat' split) <;> first | omega | exact x1)
      · (repeat (first | rw [up2_eq] | rw [up2_ne (by omega)])) <;> first | exact x2 | (unfold up2; (repeat' split) <;> first | omega | exact x2)
      · (repeat (first | rw [up2_eq] | rw [up2_ne (by omega)])) <;> first | exact hL k h | (unfold up2; (repeat' split) <;> first | omega | exact hL k h)
      · (repeat (first | rw [up2_eq] | rw [up2_ne (by omega)])) <;> first | exact (hT u hu).1 | (unfold up2; (repeat' split) <;> first | omega | exact (hT u hu).1)
      · (repeat (first | rw [up2_eq] | rw [up2_ne (by omega)])) <;> first | exact (hT u hu).2 k h | (unfold up2; (repeat' split) <;> first | omega | exact (hT u hu).2 k h)
      · (repeat (first | rw [up2_eq] | rw [up2_ne (by omega)])) <;> first | exact s1 | (unfold up2; (repeat' split) <;> first | omega | exact s1)
      · (repeat (first | rw [up2_eq] | rw [up2_ne (by omega)])) <;> first | exact s2 | (unfold up2; (repeat' split) <;> first | omega | exact s2)
      · (repeat (first | rw [up2_eq] | rw [up2_ne (by omega)])) <;> first | rfl | (unfold up2; (repeat' split) <;> first | omega | rfl)
      · rw [up2_ne (by omega), up2_ne (by omega), up2_ne (by omega)]; exact hO 0 (by omega)
theorem un_step {M N1 N2 : Mt} {r1 r2 : Int32} {n : Nat} (hA : RelA M) (h1 : r1 = nI n ∧ N1 = up2 M 64 2 (nI 0)) (h2 : r2 = nI n ∧ N2 = up2 N1 76 15 (nI 0)) : RelA N2 ∧ r1 = r2 := by
  obtain ⟨rfl, rfl⟩ := h1
  obtain ⟨rfl, rfl⟩ := h2
  obtain ⟨⟨x, hx, x1, x2⟩, hL, hT, ⟨m, hm, s1, s2⟩, hO⟩ := hA
  refine ⟨⟨⟨x, hx, ?_, ?_⟩, fun k h => ?_, fun t ht => ⟨?_, fun k h => ?_⟩, ⟨0, by omega, ?_, ?_⟩, fun k h => ?_⟩, rfl⟩
  · (repeat (first | rw [up2_eq] | rw [up2_ne (by omega)])) <;> first | exact x1 | (unfold up2; (repeat' split) <;> first | omega | exact x1)
  · (repeat (first | rw [up2_eq] | rw [up2_ne (by omega)])) <;> first | exact x2 | (unfold up2; (repeat' split) <;> first | omega | exact x2)
  · (repeat (first | rw [up2_eq] | rw [up2_ne (by omega)])) <;> first | rfl | exact hL k h | (unfold up2; (repeat' split) <;> first | omega | rfl | exact hL k h)
  · (repeat (first | rw [up2_eq] | rw [up2_ne (by omega)])) <;> first | exact (hT t ht).1 | (unfold up2; (repeat' split) <;> first | omega | exact (hT t ht).1)
  · (repeat (first | rw [up2_eq] | rw [up2_ne (by omega)])) <;> first | exact (hT t ht).2 k h | (unfold up2; (repeat' split) <;> first | omega | exact (hT t ht).2 k h)
  · (repeat (first | rw [up2_eq] | rw [up2_ne (by omega)])) <;> first | rfl | (unfold up2; (repeat' split) <;> first | omega | rfl)
  · (repeat (first | rw [up2_eq] | rw [up2_ne (by omega)])) <;> first | rfl | (unfold up2; (repeat' split) <;> first | omega | rfl)
  · (repeat (first | rw [up2_eq] | rw [up2_ne (by omega)])) <;> first | exact hO k h | (unfold up2; (repeat' split) <;> first | omega | exact hO k h)
theorem sn_mem {M : Mt} {m : Nat} {g x y : Int32} (hA : RelA M) (hm : m < 6) : RelA (up2 (up2 (up2 (up2 (up2 (up2 M 65 m g) 66 m x) 64 2 (nI (m + 1))) 86 m g) 87 m y) 76 15 (nI (m + 1))) := by
  obtain ⟨⟨x, hx, x1, x2⟩, hL, hT, -, hO⟩ := hA
  refine ⟨⟨x, hx, ?_, ?_⟩, fun k h => ?_, fun t ht => ⟨?_, fun k h => ?_⟩, ⟨m + 1, by omega, ?_, ?_⟩, fun k h => ?_⟩
  · (repeat (first | rw [up2_eq] | rw [up2_ne (by omega)])) <;> first | exact x1 | (unfold up2; (repeat' split) <;> first | omega | exact x1)
  · (repeat (first | rw [up2_eq] | rw [up2_ne (by omega)])) <;> first | exact x2 | (unfold up2; (repeat' split) <;> first | omega | exact x2)
  · (repeat (first | rw [up2_eq] | rw [up2_ne (by omega)])) <;> first | rfl | exact hL k h | (unfold up2; (repeat' split) <;> first | omega | rfl | exact hL k h)
  · (repeat (first | rw [up2_eq] | rw [up2_ne (by omega)])) <;> first | exact (hT t ht).1 | (unfold up2; (repeat' split) <;> first | omega | exact (hT t ht).1)
  · (repeat (first | rw [up2_eq] | rw [up2_ne (by omega)])) <;> first | exact (hT t ht).2 k h | (unfold up2; (repeat' split) <;> first | omega | exact (hT t ht).2 k h)
  · (repeat (first | rw [up2_eq] | rw [up2_ne (by omega)])) <;> first | rfl | (unfold up2; (repeat' split) <;> first | omega | rfl)
  · (repeat (first | rw [up2_eq] | rw [up2_ne (by omega)])) <;> first | rfl | (unfold up2; (repeat' split) <;> first | omega | rfl)
  · (repeat (first | rw [up2_eq] | rw [up2_ne (by omega)])) <;> first | exact hO k h | (unfold up2; (repeat' split) <;> first | omega | exact hO k h)
theorem se_step {M N1 N2 : Mt} {r1 r2 g x y : Int32} {m : Nat} {G : Prop} (hA : RelA M) (h1 : (r1 = -1 ∧ ¬ G ∧ N1 = M) ∨ (G ∧ ((r1 = -4 ∧ m = 6 ∧ N1 = M) ∨ (r1 = nI (m + 1) ∧ m < 6 ∧ N1 = up2 (up2 (up2 M 65 m g) 66 m x) 64 2 (nI (m + 1))))))
    (h2 : (r2 = -1 ∧ ¬ G ∧ N2 = N1) ∨ (G ∧ ((r2 = -4 ∧ m = 6 ∧ N2 = N1) ∨ (r2 = nI (m + 1) ∧ m < 6 ∧ N2 = up2 (up2 (up2 N1 86 m g) 87 m y) 76 15 (nI (m + 1)))))) : RelA N2 ∧ r1 = r2 := by
  rcases h1 with ⟨rfl, a1, rfl⟩ | ⟨a0, ⟨rfl, a1, rfl⟩ | ⟨rfl, a1, rfl⟩⟩
  · rcases h2 with ⟨rfl, b1, rfl⟩ | ⟨b0, _⟩
    · exact ⟨hA, rfl⟩
    · exact absurd b0 a1
  · rcases h2 with ⟨rfl, b1, rfl⟩ | ⟨b0, ⟨rfl, b1, rfl⟩ | ⟨rfl, b1, rfl⟩⟩
    · exact absurd a0 b1
    · exact ⟨hA, rfl⟩
    · omega
  · rcases h2 with ⟨rfl, b1, rfl⟩ | ⟨b0, ⟨rfl, b1, rfl⟩ | ⟨rfl, b1, rfl⟩⟩
    · exact absurd a0 b1
    · omega
    · exact ⟨sn_mem hA a1, rfl⟩
theorem sc_step {M N1 N2 : Mt} {r1 r2 g x y : Int32} {m : Nat} {G C : Prop} (hA : RelA M) (h1 : (r1 = -1 ∧ ¬ G ∧ N1 = M) ∨ (G ∧ ((r1 = -2 ∧ ¬ C ∧ N1 = M) ∨ (C ∧ ((r1 = -4 ∧ m = 6 ∧ N1 = M) ∨ (r1 = nI (m + 1) ∧ m < 6 ∧ N1 = up2 (up2 (up2 M 65 m g) 66 m x) 64 2 (nI (m + 1))))))))
    (h2 : (r2 = -1 ∧ ¬ G ∧ N2 = N1) ∨ (G ∧ ((r2 = -2 ∧ ¬ C ∧ N2 = N1) ∨ (C ∧ ((r2 = -4 ∧ m = 6 ∧ N2 = N1) ∨ (r2 = nI (m + 1) ∧ m < 6 ∧ N2 = up2 (up2 (up2 N1 86 m g) 87 m y) 76 15 (nI (m + 1)))))))) : RelA N2 ∧ r1 = r2 := by
  rcases h1 with ⟨rfl, a1, rfl⟩ | ⟨a0, ⟨rfl, a1, rfl⟩ | ⟨a2, h1⟩⟩
  · rcases h2 with ⟨rfl, b1, rfl⟩ | ⟨b0, _⟩
    · exact ⟨hA, rfl⟩
    · exact absurd b0 a1
  · rcases h2 with ⟨rfl, b1, rfl⟩ | ⟨b0, ⟨rfl, b1, rfl⟩ | ⟨b2, _⟩⟩
    · exact absurd a0 b1
    · exact ⟨hA, rfl⟩
    · exact absurd b2 a1
  · rcases h2 with ⟨rfl, b1, rfl⟩ | ⟨b0, ⟨rfl, b1, rfl⟩ | ⟨b2, h2⟩⟩
    · exact absurd a0 b1
    · exact absurd a2 b1
    · exact se_step (G := True) hA (Or.inr ⟨trivial, h1⟩) (Or.inr ⟨trivial, h2⟩)
theorem ni_step {L L1 L2 : Lt} {a : Int32} (hL : L 0 = L 76) (h1 : (¬ (∃ k, 1 ≤ k ∧ k ≤ 40 ∧ a = nI k) ∧ L1 = L) ∨ (∃ k, 1 ≤ k ∧ k ≤ 40 ∧ a = nI k ∧ L1 0 = itS k (L 0) ∧ L1 76 = L 76))
    (h2 : (¬ (∃ k, 1 ≤ k ∧ k ≤ 40 ∧ a = nI k) ∧ L2 = L1) ∨ (∃ k, 1 ≤ k ∧ k ≤ 40 ∧ a = nI k ∧ L2 76 = itS k (L1 76) ∧ L2 0 = L1 0)) : L2 0 = L2 76 := by
  rcases h1 with ⟨a1, rfl⟩ | ⟨k, k1, k2, rfl, a1, a2⟩
  · rcases h2 with ⟨b1, rfl⟩ | ⟨k, k1, k2, rfl, _⟩
    · exact hL
    · exact absurd ⟨k, k1, k2, rfl⟩ a1
  · rcases h2 with ⟨b1, rfl⟩ | ⟨k', k1', k2', ek, b1, b2⟩
    · exact absurd ⟨k, k1, k2, rfl⟩ b1
    · obtain rfl := nI_same ek (by omega) (by omega)
      rw [b1, b2, a1, a2, hL]
